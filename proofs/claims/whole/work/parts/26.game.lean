/-- a game's own numbers: 1 shots, 2 whose the last one was, 3 the treaty, 4 the breach, 5 mornings -/
def GRep (μ : Mm) (g : Nat) (f : Nat → Int32) (cs : Nat → Int32) : Prop := (∀ k, 1 ≤ k → k ≤ 5 → μ 1 g 0 k = f k) ∧ ∀ j, j < 6 → μ 1 g 7 j = cs j
def OffG (g : Nat) (μ μ' : Mm) : Prop := ∀ c i', ¬ (c = 1 ∧ i' = g) → ¬ (c = 6 ∧ i' = g) → μ' c i' = μ c i'
theorem OffG.rf (g : Nat) (μ : Mm) : OffG g μ μ := fun _ _ _ _ => rfl
theorem OffG.up {g : Nat} {μ μ' : Mm} (h : OffG g μ μ') (s j : Nat) (v : Int32) : OffG g μ (up μ' 1 g s j v) := by
  intro c i' hc hc2
  rw [← h c i' hc hc2]
  funext s' j'
  exact up_ne fun q => hc ⟨q.1, q.2.1⟩
theorem OffT.g {g : Nat} {μ μ' : Mm} (h : OffT g μ μ') : OffG g μ μ' := fun c i' _ h2 => h c i' h2
theorem OffG.tr {g : Nat} {μ μ' μ2 : Mm} (h : OffG g μ μ') (h2 : OffG g μ' μ2) : OffG g μ μ2 := fun c i' a b => (h2 c i' a b).trans (h c i' a b)
def fu (f : Nat → Int32) (k : Nat) (v : Int32) : Nat → Int32 := fun j => if j = k then v else f j
theorem fu_self (f : Nat → Int32) (k : Nat) (v : Int32) : fu f k v k = v := by simp [fu]
theorem fu_ne {f : Nat → Int32} {k j : Nat} {v : Int32} (h : ¬ j = k) : fu f k v j = f j := by simp [fu, h]
theorem gr_up {μ : Mm} {g : Nat} {f cs : Nat → Int32} (h : GRep μ g f cs) (k : Nat) (v : Int32) : GRep (up μ 1 g 0 k v) g (fu f k v) cs := by
  refine ⟨fun k' h1 h2 => ?_, fun j hj => ?_⟩
  · by_cases e : k' = k
    · subst e; rw [up_self, fu_self]
    · rw [up_ne (by omega), fu_ne e]; exact h.1 k' h1 h2
  · rw [up_ne (by omega)]; exact h.2 j hj
theorem gr_upc {μ : Mm} {g : Nat} {f cs : Nat → Int32} (h : GRep μ g f cs) (j : Nat) (v : Int32) : GRep (up μ 1 g 7 j v) g f (fu cs j v) := by
  refine ⟨fun k' h1 h2 => ?_, fun j' hj => ?_⟩
  · rw [up_ne (by omega)]; exact h.1 k' h1 h2
  · by_cases e : j' = j
    · subst e; rw [up_self, fu_self]
    · rw [up_ne (by omega), fu_ne e]; exact h.2 j' hj
theorem GRep.off {μ μ' : Mm} {g : Nat} {f cs : Nat → Int32} (h : GRep μ g f cs) (e : μ' 1 g = μ 1 g) : GRep μ' g f cs := by
  unfold GRep at *
  rw [e]
  exact h
theorem GRep.congr {μ : Mm} {g : Nat} {f f' cs cs' : Nat → Int32} (h : GRep μ g f cs) (h1 : ∀ k, 1 ≤ k → k ≤ 5 → f' k = f k) (h2 : ∀ j, j < 6 → cs' j = cs j) : GRep μ g f' cs' :=
  ⟨fun k a b => by rw [h1 k a b]; exact h.1 k a b, fun j hj => by rw [h2 j hj]; exact h.2 j hj⟩
theorem tr_up1 {μ : Mm} {i g s j : Nat} {v : Int32} {t : TS} (h : TRep μ i t) : TRep (up μ 1 g s j v) i t := h.off (by funext s' j'; exact up_ne (by omega))
def gf0 : Nat → Int32 := fun k => if k = 2 then -1 else if k = 4 then -1 else 0
theorem ok_g_clear {l : Launch} {K : KK} {d : Nat} {μ : Mm} {P : Option AV → Mm → Prop} {g : Nat} (hg : g < 2) {p0 p1 : Nat} {f cs : Nat → Int32} (hG : GRep μ g f cs) (hd1 : 1 ≤ d) (h : ∀ μ2, TRep μ2 g (clr p0 p1) → GRep μ2 g gf0 cs → OffG g μ μ2 → P none μ2) : Ok l K d 14 [vR 1 g 0, vI (nI p0), vI (nI p1)] μ P := by
  refine ok_go 3 (by decide +kernel) [some (vR 1 g 0), some (vI (nI p0)), some (vI (nI p1))] rfl (Nat.le_of_ble_eq_true rfl) ?_
  have hg6 : g < 6 := by omega
  refine go_blk [(.aload_n 0, 0, 0, 0), (.getfield 36, 1, 0, 0), (.iload_n 1, 0, 0, 0), (.iload_n 2, 0, 0, 0), (.invokevirtual 40, 58, 2, 6)] (by decide +kernel) ?_
  simp only [e_al_0, e_gf_1_0, e_il_1, e_il_2, e_iv_6_2, rd_1_0, e_nil, nol_n, nol_I, nol_R, rsum_0, rsum_I, rsum_R, ps_s, ps_n, true_and, and_true, Nat.reduceAdd, Nat.reduceLeDiff, hg, hg6, hd1]
  refine ok_t_clear hg6 (fun μ2 hT2 hO2 => ?_)
  have hG2 := hG.off (hO2 1 g (by omega))
  refine go_blk [(.aload_n 0, 0, 0, 0), (.iconst 0, 0, 0, 0), (.putfield 9, 1, 1, 0)] (by decide +kernel) ?_
  simp only [e_al_0, e_ic_0, e_pf_1_1, e_nil, nol_n, nol_I, nol_R, rsum_0, rsum_I, rsum_R, ps_s, ps_n, true_and, and_true, Nat.reduceAdd, Nat.reduceLeDiff, hg, hg6, hd1]
  refine go_blk [(.aload_n 0, 0, 0, 0), (.iconst (-1), 0, 0, 0), (.putfield 15, 1, 2, 0)] (by decide +kernel) ?_
  simp only [e_al_0, e_ic_m1, e_pf_1_2, e_nil, nol_n, nol_I, nol_R, rsum_0, rsum_I, rsum_R, ps_s, ps_n, true_and, and_true, Nat.reduceAdd, Nat.reduceLeDiff, hg, hg6, hd1]
  refine go_blk [(.aload_n 0, 0, 0, 0), (.iconst 0, 0, 0, 0), (.putfield 18, 1, 3, 0)] (by decide +kernel) ?_
  simp only [e_al_0, e_ic_0, e_pf_1_3, e_nil, nol_n, nol_I, nol_R, rsum_0, rsum_I, rsum_R, ps_s, ps_n, true_and, and_true, Nat.reduceAdd, Nat.reduceLeDiff, hg, hg6, hd1]
  refine go_blk [(.aload_n 0, 0, 0, 0), (.iconst (-1), 0, 0, 0), (.putfield 21, 1, 4, 0)] (by decide +kernel) ?_
  simp only [e_al_0, e_ic_m1, e_pf_1_4, e_nil, nol_n, nol_I, nol_R, rsum_0, rsum_I, rsum_R, ps_s, ps_n, true_and, and_true, Nat.reduceAdd, Nat.reduceLeDiff, hg, hg6, hd1]
  refine go_blk [(.aload_n 0, 0, 0, 0), (.iconst 0, 0, 0, 0), (.putfield 24, 1, 5, 0)] (by decide +kernel) ?_
  simp only [e_al_0, e_ic_0, e_pf_1_5, e_nil, nol_n, nol_I, nol_R, rsum_0, rsum_I, rsum_R, ps_s, ps_n, true_and, and_true, Nat.reduceAdd, Nat.reduceLeDiff, hg, hg6, hd1]
  refine go_blk [(.return_, 0, 0, 0)] (by decide +kernel) ?_
  simp only [e_vret, e_nil, nol_n, nol_I, nol_R, rsum_0, rsum_I, rsum_R, ps_s, ps_n, true_and, and_true, Nat.reduceAdd, Nat.reduceLeDiff, hg, hg6, hd1]
  refine h _ (tr_up1 (tr_up1 (tr_up1 (tr_up1 (tr_up1 hT2))))) ((gr_up (gr_up (gr_up (gr_up (gr_up hG2 1 _) 2 _) 3 _) 4 _) 5 _).congr (fun k h1 h2 => ?_) (fun _ _ => rfl)) ((((((hO2.g).up _ _ _).up _ _ _).up _ _ _).up _ _ _).up _ _ _)
  rcases (show k = 1 ∨ k = 2 ∨ k = 3 ∨ k = 4 ∨ k = 5 by omega) with rfl | rfl | rfl | rfl | rfl <;> rfl
theorem ok_bans {l : Launch} {K : KK} {d : Nat} {μ : Mm} {P : Option AV → Mm → Prop} {g : Nat} (hg : g < 2) {q bn : Nat} (hq : q < 128) (hx : 0 ≤ ixT q) (hb : μ 1 g 0 3 = nI bn) (hbn : bn < 32) (hd1 : 4 ≤ d) (h : P (some (vI (bi (bn.testBit (ix (ixT q)))))) μ) : Ok l K d 20 [vR 1 g 0, vI (nI q)] μ P := by
  refine ok_go 3 (by decide +kernel) [some (vR 1 g 0), some (vI (nI q)), none] rfl (Nat.le_of_ble_eq_true rfl) ?_
  have hd2 : 1 ≤ d := by omega
  have key : ∀ q, q < 128 → 0 ≤ ixT q → ixT q = nI (ix (ixT q)) ∧ ix (ixT q) < 5 := by decide +kernel
  obtain ⟨e0, e5⟩ := key q hq hx
  have hnl : (ixT q < 0) = False := by rw [e0]; exact eq_false (nI_pos (by omega))
  have e1 : ((nI bn >>> (ixT q &&& 31)) &&& 1 = 1) = (bn.testBit (ix (ixT q)) = true) := by
    conv => lhs; rw [e0]
    exact nI_bit1 (by omega) (by omega)
  refine go_blk [(.ldc 53, 1, 0, 0), (.iload_n 1, 0, 0, 0), (.invokevirtual 59, 183, 1, 11)] (by decide +kernel) ?_
  simp only [e_ldcS, e_il_1, e_iv_11_1, e_nil, nol_n, nol_I, nol_R, rsum_0, rsum_I, rsum_R, ps_s, ps_n, true_and, and_true, Nat.reduceAdd, Nat.reduceLeDiff, hg, hd2, hb, hnl, e1, true_implies, false_implies, not_true_eq_false, not_false_eq_true]
  refine ok_indexOf hq (by omega) ?_
  refine go_blk [(.istore_n 2, 0, 0, 0), (.iload_n 2, 0, 0, 0), (.ifCond .lt 19, 27, 0, 0)] (by decide +kernel) ?_
  simp only [e_is_2n, e_is_2I, e_is_2R, e_il_2, e_if_lt, e_nil, nol_n, nol_I, nol_R, rsum_0, rsum_I, rsum_R, ps_s, ps_n, true_and, and_true, Nat.reduceAdd, Nat.reduceLeDiff, hg, hd2, hb, hnl, e1, true_implies, false_implies, not_true_eq_false, not_false_eq_true]
  refine go_blk [(.aload_n 0, 0, 0, 0), (.getfield 18, 1, 3, 0), (.iload_n 2, 0, 0, 0), (.ishr, 0, 0, 0), (.iconst 1, 0, 0, 0), (.iand, 0, 0, 0), (.iconst 1, 0, 0, 0), (.if_icmp .ne 7, 27, 0, 0)] (by decide +kernel) ?_
  simp only [e_al_0, e_gf_1_3, e_il_2, e_ishr, e_ic_1, e_iand, e_icmp_ne, rd_1_3, e_nil, nol_n, nol_I, nol_R, rsum_0, rsum_I, rsum_R, ps_s, ps_n, true_and, and_true, Nat.reduceAdd, Nat.reduceLeDiff, hg, hd2, hb, hnl, e1, true_implies, false_implies, not_true_eq_false, not_false_eq_true]
  refine ⟨fun c20 => ?_, fun c20 => ?_⟩
  · refine go_blk [(.iconst 0, 0, 0, 0), (.ireturn, 1, 0, 0)] (by decide +kernel) ?_
    simp only [e_ic_0, e_iret1, e_nil, nol_n, nol_I, nol_R, rsum_0, rsum_I, rsum_R, ps_s, ps_n, true_and, and_true, Nat.reduceAdd, Nat.reduceLeDiff, hg, hd2, hb, hnl, e1, true_implies, false_implies, not_true_eq_false, not_false_eq_true]
    refine ⟨by decide, ?_⟩
    first | (rw [c20] at h; exact h) | (rw [Bool.eq_false_iff.mpr c20] at h; exact h)
  · refine go_blk [(.iconst 1, 0, 0, 0), (.goto 4, 28, 0, 0), (.ireturn, 1, 0, 0)] (by decide +kernel) ?_
    simp only [e_ic_1, e_goto, e_iret1, e_nil, nol_n, nol_I, nol_R, rsum_0, rsum_I, rsum_R, ps_s, ps_n, true_and, and_true, Nat.reduceAdd, Nat.reduceLeDiff, hg, hd2, hb, hnl, e1, true_implies, false_implies, not_true_eq_false, not_false_eq_true]
    refine ⟨by decide, ?_⟩
    first | (rw [c20] at h; exact h) | (rw [Bool.eq_false_iff.mpr c20] at h; exact h)
theorem ok_tell {l : Launch} {K : KK} {d : Nat} {μ : Mm} {P : Option AV → Mm → Prop} {g : Nat} (hg : g < 2) {m : Nat} {v : Int32} {f cs : Nat → Int32} (hG : GRep μ g f cs) (hm : f 5 = nI m) (hm6 : m < 6) (h : ∀ μ2, GRep μ2 g (fu f 5 (nI (m + 1))) (fu cs m v) → μ2 = up (up μ 1 g 7 m v) 1 g 0 5 (nI (m + 1)) → P (some (vI (nI (m + 1)))) μ2) : Ok l K d 18 [vR 1 g 0, vI v] μ P := by
  refine ok_go 2 (by decide +kernel) [some (vR 1 g 0), some (vI v)] rfl (Nat.le_of_ble_eq_true rfl) ?_
  have h5 : μ 1 g 0 5 = nI m := by rw [hG.1 5 (by omega) (by omega)]; exact hm
  have hv : vp_in (nI m) 6 := vin (by omega) (by omega)
  have hx : ix (nI m) = m := nI_ix (by omega)
  have h52 : up μ 1 g 7 m v 1 g 0 5 = nI m := by rw [up_ne (by omega)]; exact h5
  have h53 : up (up μ 1 g 7 m v) 1 g 0 5 (nI (m + 1)) 1 g 0 5 = nI (m + 1) := up_self _ _ _ _ _ _
  refine go_blk [(.aload_n 0, 0, 0, 0), (.getfield 24, 1, 5, 0), (.bipush 6, 0, 0, 0), (.if_icmp .ge 23, 29, 0, 0)] (by decide +kernel) ?_
  simp only [e_al_0, e_gf_1_5, e_bp_6, e_icmp_ge, rd_1_5, e_nil, nol_n, nol_I, nol_R, rsum_0, rsum_I, rsum_R, ps_s, ps_n, true_and, and_true, Nat.reduceAdd, Nat.reduceLeDiff, hg, h5, hv, hx, h52, h53, nI_1]
  refine ⟨fun c6 => ?_, fun c6 => ?_⟩
  · exact absurd c6 (nI_ge (b := 6) (by omega) (by omega))
  · refine go_blk [(.aload_n 0, 0, 0, 0), (.getfield 27, 1, 6, 0), (.aload_n 0, 0, 0, 0), (.getfield 24, 1, 5, 0), (.iload_n 1, 0, 0, 0), (.iastore, 0, 0, 0)] (by decide +kernel) ?_
    simp only [e_al_0, e_gf_1_6, e_gf_1_5, e_il_1, e_iast, rd_1_6, rd_1_5, ai_0_4, ai_1_7, ai_2_1, ai_2_2, ai_3_1, ai_4_1, ai_6_3, ai_6_4, ai_6_5, ai_6_6, ai_6_7, ai_6_8, ai_8_5, ai_8_6, ai_8_17, ai_8_21, ai_8_23, ai_8_24, ai_8_27, ai_8_28, ai_8_38, ai_8_39, ai_8_40, e_nil, nol_n, nol_I, nol_R, rsum_0, rsum_I, rsum_R, ps_s, ps_n, true_and, and_true, Nat.reduceAdd, Nat.reduceLeDiff, hg, h5, hv, hx, h52, h53, nI_1]
    refine go_blk [(.aload_n 0, 0, 0, 0), (.dup, 0, 0, 0), (.getfield 24, 1, 5, 0), (.iconst 1, 0, 0, 0), (.iadd, 0, 0, 0), (.putfield 24, 1, 5, 0)] (by decide +kernel) ?_
    simp only [e_al_0, e_dupI, e_dupR, e_gf_1_5, e_ic_1, e_iadd, e_pf_1_5, rd_1_5, e_nil, nol_n, nol_I, nol_R, rsum_0, rsum_I, rsum_R, ps_s, ps_n, true_and, and_true, Nat.reduceAdd, Nat.reduceLeDiff, hg, h5, hv, hx, h52, h53, nI_1]
    refine go_blk [(.aload_n 0, 0, 0, 0), (.getfield 24, 1, 5, 0), (.ireturn, 0, 0, 0)] (by decide +kernel) ?_
    simp only [e_al_0, e_gf_1_5, e_iret0, rd_1_5, e_nil, nol_n, nol_I, nol_R, rsum_0, rsum_I, rsum_R, ps_s, ps_n, true_and, and_true, Nat.reduceAdd, Nat.reduceLeDiff, hg, h5, hv, hx, h52, h53, nI_1]
    exact h _ (gr_up (gr_upc hG m v) 5 _) rfl
/-- does the treaty forbid it -/
def fbd (bn : Nat) (t : TS) (la : Int32) (a b : Nat) : Bool := (bn.testBit 0 && (t 3 b == 1 || t 3 b == 4)) || (bn.testBit 1 && dgn (t 5 a) (t 5 b)) || (bn.testBit 2 && dst (t 5 a) (t 5 b) == 1) || (bn.testBit 3 && decide (nI (t 4 a) = la)) || (bn.testBit 4 && t 3 a == 3)
theorem k_off : ∀ k, k < 5 → (decide (k = 1) || decide (1 = 0) || (decide (k = 4) && decide (1 = 1))) = (k == 1 || k == 4) := by decide +kernel
theorem ok_isForbidden {l : Launch} {K : KK} {d : Nat} {μ : Mm} {P : Option AV → Mm → Prop} {g : Nat} (hg : g < 2) {t : TS} {op bn a b : Nat} {f cs : Nat → Int32} (hT : TRep μ g t) (hI : TInv op t) (hG : GRep μ g f cs) (hb3 : f 3 = nI bn) (hbn : bn < 32) (ha : a < t 0 1) (hb : b < t 0 1) (hd1 : 5 ≤ d) (h : P (some (vI (bi (fbd bn t (f 2) a b)))) μ) : Ok l K d 19 [vR 1 g 0, vI (nI a), vI (nI b)] μ P := by
  refine ok_go 5 (by decide +kernel) [some (vR 1 g 0), some (vI (nI a)), some (vI (nI b)), none, none] rfl (Nat.le_of_ble_eq_true rfl) ?_
  have hg6 : g < 6 := by omega
  have hd2 : 1 ≤ d := by omega
  have hn := hI.1
  have hva : vp_in (nI a) 6 := vin (by omega) (by omega)
  have hxa : ix (nI a) = a := nI_ix (by omega)
  have hvb : vp_in (nI b) 6 := vin (by omega) (by omega)
  have hxb : ix (nI b) = b := nI_ix (by omega)
  obtain ⟨a3, a4, a5, a6, a7⟩ := hT.row ha
  obtain ⟨b3, b4, b5, b6, b7⟩ := hT.row hb
  obtain ⟨ia3, ia4, ia5, ia6, ia7, ia8, ia9⟩ := hI.2.1 a ha
  obtain ⟨ib3, ib4, ib5, ib6, ib7, ib8, ib9⟩ := hI.2.1 b hb
  have f3 : μ 1 g 0 3 = nI bn := by rw [hG.1 3 (by omega) (by omega)]; exact hb3
  have f2 : μ 1 g 0 2 = f 2 := hG.1 2 (by omega) (by omega)
  have hdl := (g_dst (t 5 a) ia5 (t 5 b) ib5).2
  have e1 : (nI (dst (t 5 a) (t 5 b)) = 1) = (dst (t 5 a) (t 5 b) = 1) := propext (nI_eq (b := 1) (by omega) (by omega))
  have ko := k_off (t 3 b) ib3
  have x0 : ix (ixT 111) = 0 := by decide
  have x1 : ix (ixT 100) = 1 := by decide
  have x2 : ix (ixT 110) = 2 := by decide
  have x3 : ix (ixT 116) = 3 := by decide
  have x4 : ix (ixT 103) = 4 := by decide
  refine go_blk [(.aload_n 0, 0, 0, 0), (.getfield 36, 1, 0, 0), (.getfield 76, 6, 4, 0), (.iload_n 1, 0, 0, 0), (.iaload, 0, 0, 0), (.istore_n 3, 0, 0, 0), (.aload_n 0, 0, 0, 0), (.getfield 36, 1, 0, 0), (.getfield 76, 6, 4, 0), (.iload_n 2, 0, 0, 0), (.iaload, 0, 0, 0), (.istore 4, 0, 0, 0), (.aload_n 0, 0, 0, 0), (.bipush 111, 0, 0, 0), (.invokevirtual 79, 20, 1, 1)] (by decide +kernel) ?_
  simp only [e_al_0, e_gf_1_0, e_gf_6_4, e_il_1, e_ia, e_is_3n, e_is_3I, e_is_3R, e_il_2, e_isw_4n, e_isw_4I, e_isw_4R, e_bp_111, e_iv_1_1, rd_1_0, rd_6_4, ai_0_4, ai_1_7, ai_2_1, ai_2_2, ai_3_1, ai_4_1, ai_6_3, ai_6_4, ai_6_5, ai_6_6, ai_6_7, ai_6_8, ai_8_5, ai_8_6, ai_8_17, ai_8_21, ai_8_23, ai_8_24, ai_8_27, ai_8_28, ai_8_38, ai_8_39, ai_8_40, e_nil, nol_n, nol_I, nol_R, rsum_0, rsum_I, rsum_R, ps_s, ps_n, true_and, and_true, Nat.reduceAdd, Nat.reduceLeDiff, hg, hg6, hd2, hva, hxa, hvb, hxb, a4, a5, b5, f2, bi_0, e1, ko, x0, x1, x2, x3, x4, ia3, ib3, (show (3 < 5) = True by decide), Bool.not_eq_false]
  refine ok_bans (q := 111) hg (by omega) (by decide) f3 hbn (by omega) ?_
  refine go_blk [(.ifCond .eq 20, 47, 0, 0)] (by decide +kernel) ?_
  simp only [e_if_eq, e_nil, nol_n, nol_I, nol_R, rsum_0, rsum_I, rsum_R, ps_s, ps_n, true_and, and_true, Nat.reduceAdd, Nat.reduceLeDiff, hg, hg6, hd2, hva, hxa, hvb, hxb, a4, a5, b5, f2, bi_0, e1, ko, x0, x1, x2, x3, x4, ia3, ib3, (show (3 < 5) = True by decide), Bool.not_eq_false]
  refine ⟨fun c27 => ?_, fun c27 => ?_⟩
  · refine go_blk [(.aload_n 0, 0, 0, 0), (.bipush 100, 0, 0, 0), (.invokevirtual 79, 20, 1, 1)] (by decide +kernel) ?_
    simp only [e_al_0, e_bp_100, e_iv_1_1, e_nil, nol_n, nol_I, nol_R, rsum_0, rsum_I, rsum_R, ps_s, ps_n, true_and, and_true, Nat.reduceAdd, Nat.reduceLeDiff, hg, hg6, hd2, hva, hxa, hvb, hxb, a4, a5, b5, f2, bi_0, e1, ko, x0, x1, x2, x3, x4, ia3, ib3, (show (3 < 5) = True by decide), Bool.not_eq_false]
    refine ok_bans (q := 100) hg (by omega) (by decide) f3 hbn (by omega) ?_
    refine go_blk [(.ifCond .eq 12, 65, 0, 0)] (by decide +kernel) ?_
    simp only [e_if_eq, e_nil, nol_n, nol_I, nol_R, rsum_0, rsum_I, rsum_R, ps_s, ps_n, true_and, and_true, Nat.reduceAdd, Nat.reduceLeDiff, hg, hg6, hd2, hva, hxa, hvb, hxb, a4, a5, b5, f2, bi_0, e1, ko, x0, x1, x2, x3, x4, ia3, ib3, (show (3 < 5) = True by decide), Bool.not_eq_false]
    refine ⟨fun c53 => ?_, fun c53 => ?_⟩
    · refine go_blk [(.aload_n 0, 0, 0, 0), (.bipush 110, 0, 0, 0), (.invokevirtual 79, 20, 1, 1)] (by decide +kernel) ?_
      simp only [e_al_0, e_bp_110, e_iv_1_1, e_nil, nol_n, nol_I, nol_R, rsum_0, rsum_I, rsum_R, ps_s, ps_n, true_and, and_true, Nat.reduceAdd, Nat.reduceLeDiff, hg, hg6, hd2, hva, hxa, hvb, hxb, a4, a5, b5, f2, bi_0, e1, ko, x0, x1, x2, x3, x4, ia3, ib3, (show (3 < 5) = True by decide), Bool.not_eq_false]
      refine ok_bans (q := 110) hg (by omega) (by decide) f3 hbn (by omega) ?_
      refine go_blk [(.ifCond .eq 13, 84, 0, 0)] (by decide +kernel) ?_
      simp only [e_if_eq, e_nil, nol_n, nol_I, nol_R, rsum_0, rsum_I, rsum_R, ps_s, ps_n, true_and, and_true, Nat.reduceAdd, Nat.reduceLeDiff, hg, hg6, hd2, hva, hxa, hvb, hxb, a4, a5, b5, f2, bi_0, e1, ko, x0, x1, x2, x3, x4, ia3, ib3, (show (3 < 5) = True by decide), Bool.not_eq_false]
      refine ⟨fun c71 => ?_, fun c71 => ?_⟩
      · refine go_blk [(.aload_n 0, 0, 0, 0), (.bipush 116, 0, 0, 0), (.invokevirtual 79, 20, 1, 1)] (by decide +kernel) ?_
        simp only [e_al_0, e_bp_116, e_iv_1_1, e_nil, nol_n, nol_I, nol_R, rsum_0, rsum_I, rsum_R, ps_s, ps_n, true_and, and_true, Nat.reduceAdd, Nat.reduceLeDiff, hg, hg6, hd2, hva, hxa, hvb, hxb, a4, a5, b5, f2, bi_0, e1, ko, x0, x1, x2, x3, x4, ia3, ib3, (show (3 < 5) = True by decide), Bool.not_eq_false]
        refine ok_bans (q := 116) hg (by omega) (by decide) f3 hbn (by omega) ?_
        refine go_blk [(.ifCond .eq 19, 109, 0, 0)] (by decide +kernel) ?_
        simp only [e_if_eq, e_nil, nol_n, nol_I, nol_R, rsum_0, rsum_I, rsum_R, ps_s, ps_n, true_and, and_true, Nat.reduceAdd, Nat.reduceLeDiff, hg, hg6, hd2, hva, hxa, hvb, hxb, a4, a5, b5, f2, bi_0, e1, ko, x0, x1, x2, x3, x4, ia3, ib3, (show (3 < 5) = True by decide), Bool.not_eq_false]
        refine ⟨fun c90 => ?_, fun c90 => ?_⟩
        · refine go_blk [(.aload_n 0, 0, 0, 0), (.bipush 103, 0, 0, 0), (.invokevirtual 79, 20, 1, 1)] (by decide +kernel) ?_
          simp only [e_al_0, e_bp_103, e_iv_1_1, e_nil, nol_n, nol_I, nol_R, rsum_0, rsum_I, rsum_R, ps_s, ps_n, true_and, and_true, Nat.reduceAdd, Nat.reduceLeDiff, hg, hg6, hd2, hva, hxa, hvb, hxb, a4, a5, b5, f2, bi_0, e1, ko, x0, x1, x2, x3, x4, ia3, ib3, (show (3 < 5) = True by decide), Bool.not_eq_false]
          refine ok_bans (q := 103) hg (by omega) (by decide) f3 hbn (by omega) ?_
          refine go_blk [(.ifCond .eq 21, 136, 0, 0)] (by decide +kernel) ?_
          simp only [e_if_eq, e_nil, nol_n, nol_I, nol_R, rsum_0, rsum_I, rsum_R, ps_s, ps_n, true_and, and_true, Nat.reduceAdd, Nat.reduceLeDiff, hg, hg6, hd2, hva, hxa, hvb, hxb, a4, a5, b5, f2, bi_0, e1, ko, x0, x1, x2, x3, x4, ia3, ib3, (show (3 < 5) = True by decide), Bool.not_eq_false]
          refine ⟨fun c115 => ?_, fun c115 => ?_⟩
          · refine go_blk [(.iconst 0, 0, 0, 0), (.ireturn, 1, 0, 0)] (by decide +kernel) ?_
            simp only [e_ic_0, e_iret1, e_nil, nol_n, nol_I, nol_R, rsum_0, rsum_I, rsum_R, ps_s, ps_n, true_and, and_true, Nat.reduceAdd, Nat.reduceLeDiff, hg, hg6, hd2, hva, hxa, hvb, hxb, a4, a5, b5, f2, bi_0, e1, ko, x0, x1, x2, x3, x4, ia3, ib3, (show (3 < 5) = True by decide), Bool.not_eq_false]
            refine ⟨by decide, ?_⟩
            simp_all [fbd, bi]
          · refine go_blk [(.aload_n 0, 0, 0, 0), (.getfield 36, 1, 0, 0), (.iload_n 1, 0, 0, 0), (.invokevirtual 83, 61, 1, 6)] (by decide +kernel) ?_
            simp only [e_al_0, e_gf_1_0, e_il_1, e_iv_6_1, rd_1_0, e_nil, nol_n, nol_I, nol_R, rsum_0, rsum_I, rsum_R, ps_s, ps_n, true_and, and_true, Nat.reduceAdd, Nat.reduceLeDiff, hg, hg6, hd2, hva, hxa, hvb, hxb, a4, a5, b5, f2, bi_0, e1, ko, x0, x1, x2, x3, x4, ia3, ib3, (show (3 < 5) = True by decide), Bool.not_eq_false]
            refine ok_kindOf hg6 hT hn ha ia3 (by omega) ?_
            refine go_blk [(.getstatic 106, 9, 3, 0), (.if_acmp .ne 7, 136, 0, 0)] (by decide +kernel) ?_
            simp only [e_st_3, e_acmp_ne, e_nil, nol_n, nol_I, nol_R, rsum_0, rsum_I, rsum_R, ps_s, ps_n, true_and, and_true, Nat.reduceAdd, Nat.reduceLeDiff, hg, hg6, hd2, hva, hxa, hvb, hxb, a4, a5, b5, f2, bi_0, e1, ko, x0, x1, x2, x3, x4, ia3, ib3, (show (3 < 5) = True by decide), Bool.not_eq_false]
            refine ⟨fun c129 => ?_, fun c129 => ?_⟩
            · refine go_blk [(.iconst 0, 0, 0, 0), (.ireturn, 1, 0, 0)] (by decide +kernel) ?_
              simp only [e_ic_0, e_iret1, e_nil, nol_n, nol_I, nol_R, rsum_0, rsum_I, rsum_R, ps_s, ps_n, true_and, and_true, Nat.reduceAdd, Nat.reduceLeDiff, hg, hg6, hd2, hva, hxa, hvb, hxb, a4, a5, b5, f2, bi_0, e1, ko, x0, x1, x2, x3, x4, ia3, ib3, (show (3 < 5) = True by decide), Bool.not_eq_false]
              refine ⟨by decide, ?_⟩
              simp_all [fbd, bi]
            · refine go_blk [(.iconst 1, 0, 0, 0), (.goto 4, 137, 0, 0), (.ireturn, 1, 0, 0)] (by decide +kernel) ?_
              simp only [e_ic_1, e_goto, e_iret1, e_nil, nol_n, nol_I, nol_R, rsum_0, rsum_I, rsum_R, ps_s, ps_n, true_and, and_true, Nat.reduceAdd, Nat.reduceLeDiff, hg, hg6, hd2, hva, hxa, hvb, hxb, a4, a5, b5, f2, bi_0, e1, ko, x0, x1, x2, x3, x4, ia3, ib3, (show (3 < 5) = True by decide), Bool.not_eq_false]
              refine ⟨by decide, ?_⟩
              simp_all [fbd, bi]
        · refine go_blk [(.aload_n 0, 0, 0, 0), (.getfield 36, 1, 0, 0), (.getfield 69, 6, 3, 0), (.iload_n 1, 0, 0, 0), (.iaload, 0, 0, 0), (.aload_n 0, 0, 0, 0), (.getfield 15, 1, 2, 0), (.if_icmp .eq 26, 132, 0, 0)] (by decide +kernel) ?_
          simp only [e_al_0, e_gf_1_0, e_gf_6_3, e_il_1, e_ia, e_gf_1_2, e_icmp_eq, rd_1_0, rd_6_3, rd_1_2, ai_0_4, ai_1_7, ai_2_1, ai_2_2, ai_3_1, ai_4_1, ai_6_3, ai_6_4, ai_6_5, ai_6_6, ai_6_7, ai_6_8, ai_8_5, ai_8_6, ai_8_17, ai_8_21, ai_8_23, ai_8_24, ai_8_27, ai_8_28, ai_8_38, ai_8_39, ai_8_40, e_nil, nol_n, nol_I, nol_R, rsum_0, rsum_I, rsum_R, ps_s, ps_n, true_and, and_true, Nat.reduceAdd, Nat.reduceLeDiff, hg, hg6, hd2, hva, hxa, hvb, hxb, a4, a5, b5, f2, bi_0, e1, ko, x0, x1, x2, x3, x4, ia3, ib3, (show (3 < 5) = True by decide), Bool.not_eq_false]
          refine ⟨fun c106 => ?_, fun c106 => ?_⟩
          · refine go_blk [(.iconst 1, 0, 0, 0), (.goto 4, 137, 0, 0), (.ireturn, 1, 0, 0)] (by decide +kernel) ?_
            simp only [e_ic_1, e_goto, e_iret1, e_nil, nol_n, nol_I, nol_R, rsum_0, rsum_I, rsum_R, ps_s, ps_n, true_and, and_true, Nat.reduceAdd, Nat.reduceLeDiff, hg, hg6, hd2, hva, hxa, hvb, hxb, a4, a5, b5, f2, bi_0, e1, ko, x0, x1, x2, x3, x4, ia3, ib3, (show (3 < 5) = True by decide), Bool.not_eq_false]
            refine ⟨by decide, ?_⟩
            simp_all [fbd, bi]
          · refine go_blk [(.aload_n 0, 0, 0, 0), (.bipush 103, 0, 0, 0), (.invokevirtual 79, 20, 1, 1)] (by decide +kernel) ?_
            simp only [e_al_0, e_bp_103, e_iv_1_1, e_nil, nol_n, nol_I, nol_R, rsum_0, rsum_I, rsum_R, ps_s, ps_n, true_and, and_true, Nat.reduceAdd, Nat.reduceLeDiff, hg, hg6, hd2, hva, hxa, hvb, hxb, a4, a5, b5, f2, bi_0, e1, ko, x0, x1, x2, x3, x4, ia3, ib3, (show (3 < 5) = True by decide), Bool.not_eq_false]
            refine ok_bans (q := 103) hg (by omega) (by decide) f3 hbn (by omega) ?_
            refine go_blk [(.ifCond .eq 21, 136, 0, 0)] (by decide +kernel) ?_
            simp only [e_if_eq, e_nil, nol_n, nol_I, nol_R, rsum_0, rsum_I, rsum_R, ps_s, ps_n, true_and, and_true, Nat.reduceAdd, Nat.reduceLeDiff, hg, hg6, hd2, hva, hxa, hvb, hxb, a4, a5, b5, f2, bi_0, e1, ko, x0, x1, x2, x3, x4, ia3, ib3, (show (3 < 5) = True by decide), Bool.not_eq_false]
            refine ⟨fun c115 => ?_, fun c115 => ?_⟩
            · refine go_blk [(.iconst 0, 0, 0, 0), (.ireturn, 1, 0, 0)] (by decide +kernel) ?_
              simp only [e_ic_0, e_iret1, e_nil, nol_n, nol_I, nol_R, rsum_0, rsum_I, rsum_R, ps_s, ps_n, true_and, and_true, Nat.reduceAdd, Nat.reduceLeDiff, hg, hg6, hd2, hva, hxa, hvb, hxb, a4, a5, b5, f2, bi_0, e1, ko, x0, x1, x2, x3, x4, ia3, ib3, (show (3 < 5) = True by decide), Bool.not_eq_false]
              refine ⟨by decide, ?_⟩
              simp_all [fbd, bi]
            · refine go_blk [(.aload_n 0, 0, 0, 0), (.getfield 36, 1, 0, 0), (.iload_n 1, 0, 0, 0), (.invokevirtual 83, 61, 1, 6)] (by decide +kernel) ?_
              simp only [e_al_0, e_gf_1_0, e_il_1, e_iv_6_1, rd_1_0, e_nil, nol_n, nol_I, nol_R, rsum_0, rsum_I, rsum_R, ps_s, ps_n, true_and, and_true, Nat.reduceAdd, Nat.reduceLeDiff, hg, hg6, hd2, hva, hxa, hvb, hxb, a4, a5, b5, f2, bi_0, e1, ko, x0, x1, x2, x3, x4, ia3, ib3, (show (3 < 5) = True by decide), Bool.not_eq_false]
              refine ok_kindOf hg6 hT hn ha ia3 (by omega) ?_
              refine go_blk [(.getstatic 106, 9, 3, 0), (.if_acmp .ne 7, 136, 0, 0)] (by decide +kernel) ?_
              simp only [e_st_3, e_acmp_ne, e_nil, nol_n, nol_I, nol_R, rsum_0, rsum_I, rsum_R, ps_s, ps_n, true_and, and_true, Nat.reduceAdd, Nat.reduceLeDiff, hg, hg6, hd2, hva, hxa, hvb, hxb, a4, a5, b5, f2, bi_0, e1, ko, x0, x1, x2, x3, x4, ia3, ib3, (show (3 < 5) = True by decide), Bool.not_eq_false]
              refine ⟨fun c129 => ?_, fun c129 => ?_⟩
              · refine go_blk [(.iconst 0, 0, 0, 0), (.ireturn, 1, 0, 0)] (by decide +kernel) ?_
                simp only [e_ic_0, e_iret1, e_nil, nol_n, nol_I, nol_R, rsum_0, rsum_I, rsum_R, ps_s, ps_n, true_and, and_true, Nat.reduceAdd, Nat.reduceLeDiff, hg, hg6, hd2, hva, hxa, hvb, hxb, a4, a5, b5, f2, bi_0, e1, ko, x0, x1, x2, x3, x4, ia3, ib3, (show (3 < 5) = True by decide), Bool.not_eq_false]
                refine ⟨by decide, ?_⟩
                simp_all [fbd, bi]
              · refine go_blk [(.iconst 1, 0, 0, 0), (.goto 4, 137, 0, 0), (.ireturn, 1, 0, 0)] (by decide +kernel) ?_
                simp only [e_ic_1, e_goto, e_iret1, e_nil, nol_n, nol_I, nol_R, rsum_0, rsum_I, rsum_R, ps_s, ps_n, true_and, and_true, Nat.reduceAdd, Nat.reduceLeDiff, hg, hg6, hd2, hva, hxa, hvb, hxb, a4, a5, b5, f2, bi_0, e1, ko, x0, x1, x2, x3, x4, ia3, ib3, (show (3 < 5) = True by decide), Bool.not_eq_false]
                refine ⟨by decide, ?_⟩
                simp_all [fbd, bi]
      · refine go_blk [(.iload_n 3, 0, 0, 0), (.iload 4, 0, 0, 0), (.invokestatic 102, 26, 2, 0)] (by decide +kernel) ?_
        simp only [e_il_3, e_ilw_4, e_ivs_2, e_nil, Nat.reduceLT, nol_n, nol_I, nol_R, rsum_0, rsum_I, rsum_R, ps_s, ps_n, true_and, and_true, Nat.reduceAdd, Nat.reduceLeDiff, hg, hg6, hd2, hva, hxa, hvb, hxb, a4, a5, b5, f2, bi_0, e1, ko, x0, x1, x2, x3, x4, ia3, ib3, (show (3 < 5) = True by decide), Bool.not_eq_false]
        refine ok_distance ia5 ib5 (by omega) ?_
        refine go_blk [(.iconst 1, 0, 0, 0), (.if_icmp .eq 51, 132, 0, 0)] (by decide +kernel) ?_
        simp only [e_ic_1, e_icmp_eq, e_nil, nol_n, nol_I, nol_R, rsum_0, rsum_I, rsum_R, ps_s, ps_n, true_and, and_true, Nat.reduceAdd, Nat.reduceLeDiff, hg, hg6, hd2, hva, hxa, hvb, hxb, a4, a5, b5, f2, bi_0, e1, ko, x0, x1, x2, x3, x4, ia3, ib3, (show (3 < 5) = True by decide), Bool.not_eq_false]
        refine ⟨fun c81 => ?_, fun c81 => ?_⟩
        · refine go_blk [(.iconst 1, 0, 0, 0), (.goto 4, 137, 0, 0), (.ireturn, 1, 0, 0)] (by decide +kernel) ?_
          simp only [e_ic_1, e_goto, e_iret1, e_nil, nol_n, nol_I, nol_R, rsum_0, rsum_I, rsum_R, ps_s, ps_n, true_and, and_true, Nat.reduceAdd, Nat.reduceLeDiff, hg, hg6, hd2, hva, hxa, hvb, hxb, a4, a5, b5, f2, bi_0, e1, ko, x0, x1, x2, x3, x4, ia3, ib3, (show (3 < 5) = True by decide), Bool.not_eq_false]
          refine ⟨by decide, ?_⟩
          simp_all [fbd, bi]
        · refine go_blk [(.aload_n 0, 0, 0, 0), (.bipush 116, 0, 0, 0), (.invokevirtual 79, 20, 1, 1)] (by decide +kernel) ?_
          simp only [e_al_0, e_bp_116, e_iv_1_1, e_nil, nol_n, nol_I, nol_R, rsum_0, rsum_I, rsum_R, ps_s, ps_n, true_and, and_true, Nat.reduceAdd, Nat.reduceLeDiff, hg, hg6, hd2, hva, hxa, hvb, hxb, a4, a5, b5, f2, bi_0, e1, ko, x0, x1, x2, x3, x4, ia3, ib3, (show (3 < 5) = True by decide), Bool.not_eq_false]
          refine ok_bans (q := 116) hg (by omega) (by decide) f3 hbn (by omega) ?_
          refine go_blk [(.ifCond .eq 19, 109, 0, 0)] (by decide +kernel) ?_
          simp only [e_if_eq, e_nil, nol_n, nol_I, nol_R, rsum_0, rsum_I, rsum_R, ps_s, ps_n, true_and, and_true, Nat.reduceAdd, Nat.reduceLeDiff, hg, hg6, hd2, hva, hxa, hvb, hxb, a4, a5, b5, f2, bi_0, e1, ko, x0, x1, x2, x3, x4, ia3, ib3, (show (3 < 5) = True by decide), Bool.not_eq_false]
          refine ⟨fun c90 => ?_, fun c90 => ?_⟩
          · refine go_blk [(.aload_n 0, 0, 0, 0), (.bipush 103, 0, 0, 0), (.invokevirtual 79, 20, 1, 1)] (by decide +kernel) ?_
            simp only [e_al_0, e_bp_103, e_iv_1_1, e_nil, nol_n, nol_I, nol_R, rsum_0, rsum_I, rsum_R, ps_s, ps_n, true_and, and_true, Nat.reduceAdd, Nat.reduceLeDiff, hg, hg6, hd2, hva, hxa, hvb, hxb, a4, a5, b5, f2, bi_0, e1, ko, x0, x1, x2, x3, x4, ia3, ib3, (show (3 < 5) = True by decide), Bool.not_eq_false]
            refine ok_bans (q := 103) hg (by omega) (by decide) f3 hbn (by omega) ?_
            refine go_blk [(.ifCond .eq 21, 136, 0, 0)] (by decide +kernel) ?_
            simp only [e_if_eq, e_nil, nol_n, nol_I, nol_R, rsum_0, rsum_I, rsum_R, ps_s, ps_n, true_and, and_true, Nat.reduceAdd, Nat.reduceLeDiff, hg, hg6, hd2, hva, hxa, hvb, hxb, a4, a5, b5, f2, bi_0, e1, ko, x0, x1, x2, x3, x4, ia3, ib3, (show (3 < 5) = True by decide), Bool.not_eq_false]
            refine ⟨fun c115 => ?_, fun c115 => ?_⟩
            · refine go_blk [(.iconst 0, 0, 0, 0), (.ireturn, 1, 0, 0)] (by decide +kernel) ?_
              simp only [e_ic_0, e_iret1, e_nil, nol_n, nol_I, nol_R, rsum_0, rsum_I, rsum_R, ps_s, ps_n, true_and, and_true, Nat.reduceAdd, Nat.reduceLeDiff, hg, hg6, hd2, hva, hxa, hvb, hxb, a4, a5, b5, f2, bi_0, e1, ko, x0, x1, x2, x3, x4, ia3, ib3, (show (3 < 5) = True by decide), Bool.not_eq_false]
              refine ⟨by decide, ?_⟩
              simp_all [fbd, bi]
            · refine go_blk [(.aload_n 0, 0, 0, 0), (.getfield 36, 1, 0, 0), (.iload_n 1, 0, 0, 0), (.invokevirtual 83, 61, 1, 6)] (by decide +kernel) ?_
              simp only [e_al_0, e_gf_1_0, e_il_1, e_iv_6_1, rd_1_0, e_nil, nol_n, nol_I, nol_R, rsum_0, rsum_I, rsum_R, ps_s, ps_n, true_and, and_true, Nat.reduceAdd, Nat.reduceLeDiff, hg, hg6, hd2, hva, hxa, hvb, hxb, a4, a5, b5, f2, bi_0, e1, ko, x0, x1, x2, x3, x4, ia3, ib3, (show (3 < 5) = True by decide), Bool.not_eq_false]
              refine ok_kindOf hg6 hT hn ha ia3 (by omega) ?_
              refine go_blk [(.getstatic 106, 9, 3, 0), (.if_acmp .ne 7, 136, 0, 0)] (by decide +kernel) ?_
              simp only [e_st_3, e_acmp_ne, e_nil, nol_n, nol_I, nol_R, rsum_0, rsum_I, rsum_R, ps_s, ps_n, true_and, and_true, Nat.reduceAdd, Nat.reduceLeDiff, hg, hg6, hd2, hva, hxa, hvb, hxb, a4, a5, b5, f2, bi_0, e1, ko, x0, x1, x2, x3, x4, ia3, ib3, (show (3 < 5) = True by decide), Bool.not_eq_false]
              refine ⟨fun c129 => ?_, fun c129 => ?_⟩
              · refine go_blk [(.iconst 0, 0, 0, 0), (.ireturn, 1, 0, 0)] (by decide +kernel) ?_
                simp only [e_ic_0, e_iret1, e_nil, nol_n, nol_I, nol_R, rsum_0, rsum_I, rsum_R, ps_s, ps_n, true_and, and_true, Nat.reduceAdd, Nat.reduceLeDiff, hg, hg6, hd2, hva, hxa, hvb, hxb, a4, a5, b5, f2, bi_0, e1, ko, x0, x1, x2, x3, x4, ia3, ib3, (show (3 < 5) = True by decide), Bool.not_eq_false]
                refine ⟨by decide, ?_⟩
                simp_all [fbd, bi]
              · refine go_blk [(.iconst 1, 0, 0, 0), (.goto 4, 137, 0, 0), (.ireturn, 1, 0, 0)] (by decide +kernel) ?_
                simp only [e_ic_1, e_goto, e_iret1, e_nil, nol_n, nol_I, nol_R, rsum_0, rsum_I, rsum_R, ps_s, ps_n, true_and, and_true, Nat.reduceAdd, Nat.reduceLeDiff, hg, hg6, hd2, hva, hxa, hvb, hxb, a4, a5, b5, f2, bi_0, e1, ko, x0, x1, x2, x3, x4, ia3, ib3, (show (3 < 5) = True by decide), Bool.not_eq_false]
                refine ⟨by decide, ?_⟩
                simp_all [fbd, bi]
          · refine go_blk [(.aload_n 0, 0, 0, 0), (.getfield 36, 1, 0, 0), (.getfield 69, 6, 3, 0), (.iload_n 1, 0, 0, 0), (.iaload, 0, 0, 0), (.aload_n 0, 0, 0, 0), (.getfield 15, 1, 2, 0), (.if_icmp .eq 26, 132, 0, 0)] (by decide +kernel) ?_
            simp only [e_al_0, e_gf_1_0, e_gf_6_3, e_il_1, e_ia, e_gf_1_2, e_icmp_eq, rd_1_0, rd_6_3, rd_1_2, ai_0_4, ai_1_7, ai_2_1, ai_2_2, ai_3_1, ai_4_1, ai_6_3, ai_6_4, ai_6_5, ai_6_6, ai_6_7, ai_6_8, ai_8_5, ai_8_6, ai_8_17, ai_8_21, ai_8_23, ai_8_24, ai_8_27, ai_8_28, ai_8_38, ai_8_39, ai_8_40, e_nil, nol_n, nol_I, nol_R, rsum_0, rsum_I, rsum_R, ps_s, ps_n, true_and, and_true, Nat.reduceAdd, Nat.reduceLeDiff, hg, hg6, hd2, hva, hxa, hvb, hxb, a4, a5, b5, f2, bi_0, e1, ko, x0, x1, x2, x3, x4, ia3, ib3, (show (3 < 5) = True by decide), Bool.not_eq_false]
            refine ⟨fun c106 => ?_, fun c106 => ?_⟩
            · refine go_blk [(.iconst 1, 0, 0, 0), (.goto 4, 137, 0, 0), (.ireturn, 1, 0, 0)] (by decide +kernel) ?_
              simp only [e_ic_1, e_goto, e_iret1, e_nil, nol_n, nol_I, nol_R, rsum_0, rsum_I, rsum_R, ps_s, ps_n, true_and, and_true, Nat.reduceAdd, Nat.reduceLeDiff, hg, hg6, hd2, hva, hxa, hvb, hxb, a4, a5, b5, f2, bi_0, e1, ko, x0, x1, x2, x3, x4, ia3, ib3, (show (3 < 5) = True by decide), Bool.not_eq_false]
              refine ⟨by decide, ?_⟩
              simp_all [fbd, bi]
            · refine go_blk [(.aload_n 0, 0, 0, 0), (.bipush 103, 0, 0, 0), (.invokevirtual 79, 20, 1, 1)] (by decide +kernel) ?_
              simp only [e_al_0, e_bp_103, e_iv_1_1, e_nil, nol_n, nol_I, nol_R, rsum_0, rsum_I, rsum_R, ps_s, ps_n, true_and, and_true, Nat.reduceAdd, Nat.reduceLeDiff, hg, hg6, hd2, hva, hxa, hvb, hxb, a4, a5, b5, f2, bi_0, e1, ko, x0, x1, x2, x3, x4, ia3, ib3, (show (3 < 5) = True by decide), Bool.not_eq_false]
              refine ok_bans (q := 103) hg (by omega) (by decide) f3 hbn (by omega) ?_
              refine go_blk [(.ifCond .eq 21, 136, 0, 0)] (by decide +kernel) ?_
              simp only [e_if_eq, e_nil, nol_n, nol_I, nol_R, rsum_0, rsum_I, rsum_R, ps_s, ps_n, true_and, and_true, Nat.reduceAdd, Nat.reduceLeDiff, hg, hg6, hd2, hva, hxa, hvb, hxb, a4, a5, b5, f2, bi_0, e1, ko, x0, x1, x2, x3, x4, ia3, ib3, (show (3 < 5) = True by decide), Bool.not_eq_false]
              refine ⟨fun c115 => ?_, fun c115 => ?_⟩
              · refine go_blk [(.iconst 0, 0, 0, 0), (.ireturn, 1, 0, 0)] (by decide +kernel) ?_
                simp only [e_ic_0, e_iret1, e_nil, nol_n, nol_I, nol_R, rsum_0, rsum_I, rsum_R, ps_s, ps_n, true_and, and_true, Nat.reduceAdd, Nat.reduceLeDiff, hg, hg6, hd2, hva, hxa, hvb, hxb, a4, a5, b5, f2, bi_0, e1, ko, x0, x1, x2, x3, x4, ia3, ib3, (show (3 < 5) = True by decide), Bool.not_eq_false]
                refine ⟨by decide, ?_⟩
                simp_all [fbd, bi]
              · refine go_blk [(.aload_n 0, 0, 0, 0), (.getfield 36, 1, 0, 0), (.iload_n 1, 0, 0, 0), (.invokevirtual 83, 61, 1, 6)] (by decide +kernel) ?_
                simp only [e_al_0, e_gf_1_0, e_il_1, e_iv_6_1, rd_1_0, e_nil, nol_n, nol_I, nol_R, rsum_0, rsum_I, rsum_R, ps_s, ps_n, true_and, and_true, Nat.reduceAdd, Nat.reduceLeDiff, hg, hg6, hd2, hva, hxa, hvb, hxb, a4, a5, b5, f2, bi_0, e1, ko, x0, x1, x2, x3, x4, ia3, ib3, (show (3 < 5) = True by decide), Bool.not_eq_false]
                refine ok_kindOf hg6 hT hn ha ia3 (by omega) ?_
                refine go_blk [(.getstatic 106, 9, 3, 0), (.if_acmp .ne 7, 136, 0, 0)] (by decide +kernel) ?_
                simp only [e_st_3, e_acmp_ne, e_nil, nol_n, nol_I, nol_R, rsum_0, rsum_I, rsum_R, ps_s, ps_n, true_and, and_true, Nat.reduceAdd, Nat.reduceLeDiff, hg, hg6, hd2, hva, hxa, hvb, hxb, a4, a5, b5, f2, bi_0, e1, ko, x0, x1, x2, x3, x4, ia3, ib3, (show (3 < 5) = True by decide), Bool.not_eq_false]
                refine ⟨fun c129 => ?_, fun c129 => ?_⟩
                · refine go_blk [(.iconst 0, 0, 0, 0), (.ireturn, 1, 0, 0)] (by decide +kernel) ?_
                  simp only [e_ic_0, e_iret1, e_nil, nol_n, nol_I, nol_R, rsum_0, rsum_I, rsum_R, ps_s, ps_n, true_and, and_true, Nat.reduceAdd, Nat.reduceLeDiff, hg, hg6, hd2, hva, hxa, hvb, hxb, a4, a5, b5, f2, bi_0, e1, ko, x0, x1, x2, x3, x4, ia3, ib3, (show (3 < 5) = True by decide), Bool.not_eq_false]
                  refine ⟨by decide, ?_⟩
                  simp_all [fbd, bi]
                · refine go_blk [(.iconst 1, 0, 0, 0), (.goto 4, 137, 0, 0), (.ireturn, 1, 0, 0)] (by decide +kernel) ?_
                  simp only [e_ic_1, e_goto, e_iret1, e_nil, nol_n, nol_I, nol_R, rsum_0, rsum_I, rsum_R, ps_s, ps_n, true_and, and_true, Nat.reduceAdd, Nat.reduceLeDiff, hg, hg6, hd2, hva, hxa, hvb, hxb, a4, a5, b5, f2, bi_0, e1, ko, x0, x1, x2, x3, x4, ia3, ib3, (show (3 < 5) = True by decide), Bool.not_eq_false]
                  refine ⟨by decide, ?_⟩
                  simp_all [fbd, bi]
    · refine go_blk [(.iload_n 3, 0, 0, 0), (.iload 4, 0, 0, 0), (.invokestatic 97, 27, 2, 0)] (by decide +kernel) ?_
      simp only [e_il_3, e_ilw_4, e_ivs_2, e_nil, Nat.reduceLT, nol_n, nol_I, nol_R, rsum_0, rsum_I, rsum_R, ps_s, ps_n, true_and, and_true, Nat.reduceAdd, Nat.reduceLeDiff, hg, hg6, hd2, hva, hxa, hvb, hxb, a4, a5, b5, f2, bi_0, e1, ko, x0, x1, x2, x3, x4, ia3, ib3, (show (3 < 5) = True by decide), Bool.not_eq_false]
      refine ok_isDiagonal ia5 ib5 (by omega) ?_
      refine go_blk [(.ifCond .ne 70, 132, 0, 0)] (by decide +kernel) ?_
      simp only [e_if_ne, e_nil, nol_n, nol_I, nol_R, rsum_0, rsum_I, rsum_R, ps_s, ps_n, true_and, and_true, Nat.reduceAdd, Nat.reduceLeDiff, hg, hg6, hd2, hva, hxa, hvb, hxb, a4, a5, b5, f2, bi_0, e1, ko, x0, x1, x2, x3, x4, ia3, ib3, (show (3 < 5) = True by decide), Bool.not_eq_false]
      refine ⟨fun c62 => ?_, fun c62 => ?_⟩
      · refine go_blk [(.iconst 1, 0, 0, 0), (.goto 4, 137, 0, 0), (.ireturn, 1, 0, 0)] (by decide +kernel) ?_
        simp only [e_ic_1, e_goto, e_iret1, e_nil, nol_n, nol_I, nol_R, rsum_0, rsum_I, rsum_R, ps_s, ps_n, true_and, and_true, Nat.reduceAdd, Nat.reduceLeDiff, hg, hg6, hd2, hva, hxa, hvb, hxb, a4, a5, b5, f2, bi_0, e1, ko, x0, x1, x2, x3, x4, ia3, ib3, (show (3 < 5) = True by decide), Bool.not_eq_false]
        refine ⟨by decide, ?_⟩
        simp_all [fbd, bi]
      · refine go_blk [(.aload_n 0, 0, 0, 0), (.bipush 110, 0, 0, 0), (.invokevirtual 79, 20, 1, 1)] (by decide +kernel) ?_
        simp only [e_al_0, e_bp_110, e_iv_1_1, e_nil, nol_n, nol_I, nol_R, rsum_0, rsum_I, rsum_R, ps_s, ps_n, true_and, and_true, Nat.reduceAdd, Nat.reduceLeDiff, hg, hg6, hd2, hva, hxa, hvb, hxb, a4, a5, b5, f2, bi_0, e1, ko, x0, x1, x2, x3, x4, ia3, ib3, (show (3 < 5) = True by decide), Bool.not_eq_false]
        refine ok_bans (q := 110) hg (by omega) (by decide) f3 hbn (by omega) ?_
        refine go_blk [(.ifCond .eq 13, 84, 0, 0)] (by decide +kernel) ?_
        simp only [e_if_eq, e_nil, nol_n, nol_I, nol_R, rsum_0, rsum_I, rsum_R, ps_s, ps_n, true_and, and_true, Nat.reduceAdd, Nat.reduceLeDiff, hg, hg6, hd2, hva, hxa, hvb, hxb, a4, a5, b5, f2, bi_0, e1, ko, x0, x1, x2, x3, x4, ia3, ib3, (show (3 < 5) = True by decide), Bool.not_eq_false]
        refine ⟨fun c71 => ?_, fun c71 => ?_⟩
        · refine go_blk [(.aload_n 0, 0, 0, 0), (.bipush 116, 0, 0, 0), (.invokevirtual 79, 20, 1, 1)] (by decide +kernel) ?_
          simp only [e_al_0, e_bp_116, e_iv_1_1, e_nil, nol_n, nol_I, nol_R, rsum_0, rsum_I, rsum_R, ps_s, ps_n, true_and, and_true, Nat.reduceAdd, Nat.reduceLeDiff, hg, hg6, hd2, hva, hxa, hvb, hxb, a4, a5, b5, f2, bi_0, e1, ko, x0, x1, x2, x3, x4, ia3, ib3, (show (3 < 5) = True by decide), Bool.not_eq_false]
          refine ok_bans (q := 116) hg (by omega) (by decide) f3 hbn (by omega) ?_
          refine go_blk [(.ifCond .eq 19, 109, 0, 0)] (by decide +kernel) ?_
          simp only [e_if_eq, e_nil, nol_n, nol_I, nol_R, rsum_0, rsum_I, rsum_R, ps_s, ps_n, true_and, and_true, Nat.reduceAdd, Nat.reduceLeDiff, hg, hg6, hd2, hva, hxa, hvb, hxb, a4, a5, b5, f2, bi_0, e1, ko, x0, x1, x2, x3, x4, ia3, ib3, (show (3 < 5) = True by decide), Bool.not_eq_false]
          refine ⟨fun c90 => ?_, fun c90 => ?_⟩
          · refine go_blk [(.aload_n 0, 0, 0, 0), (.bipush 103, 0, 0, 0), (.invokevirtual 79, 20, 1, 1)] (by decide +kernel) ?_
            simp only [e_al_0, e_bp_103, e_iv_1_1, e_nil, nol_n, nol_I, nol_R, rsum_0, rsum_I, rsum_R, ps_s, ps_n, true_and, and_true, Nat.reduceAdd, Nat.reduceLeDiff, hg, hg6, hd2, hva, hxa, hvb, hxb, a4, a5, b5, f2, bi_0, e1, ko, x0, x1, x2, x3, x4, ia3, ib3, (show (3 < 5) = True by decide), Bool.not_eq_false]
            refine ok_bans (q := 103) hg (by omega) (by decide) f3 hbn (by omega) ?_
            refine go_blk [(.ifCond .eq 21, 136, 0, 0)] (by decide +kernel) ?_
            simp only [e_if_eq, e_nil, nol_n, nol_I, nol_R, rsum_0, rsum_I, rsum_R, ps_s, ps_n, true_and, and_true, Nat.reduceAdd, Nat.reduceLeDiff, hg, hg6, hd2, hva, hxa, hvb, hxb, a4, a5, b5, f2, bi_0, e1, ko, x0, x1, x2, x3, x4, ia3, ib3, (show (3 < 5) = True by decide), Bool.not_eq_false]
            refine ⟨fun c115 => ?_, fun c115 => ?_⟩
            · refine go_blk [(.iconst 0, 0, 0, 0), (.ireturn, 1, 0, 0)] (by decide +kernel) ?_
              simp only [e_ic_0, e_iret1, e_nil, nol_n, nol_I, nol_R, rsum_0, rsum_I, rsum_R, ps_s, ps_n, true_and, and_true, Nat.reduceAdd, Nat.reduceLeDiff, hg, hg6, hd2, hva, hxa, hvb, hxb, a4, a5, b5, f2, bi_0, e1, ko, x0, x1, x2, x3, x4, ia3, ib3, (show (3 < 5) = True by decide), Bool.not_eq_false]
              refine ⟨by decide, ?_⟩
              simp_all [fbd, bi]
            · refine go_blk [(.aload_n 0, 0, 0, 0), (.getfield 36, 1, 0, 0), (.iload_n 1, 0, 0, 0), (.invokevirtual 83, 61, 1, 6)] (by decide +kernel) ?_
              simp only [e_al_0, e_gf_1_0, e_il_1, e_iv_6_1, rd_1_0, e_nil, nol_n, nol_I, nol_R, rsum_0, rsum_I, rsum_R, ps_s, ps_n, true_and, and_true, Nat.reduceAdd, Nat.reduceLeDiff, hg, hg6, hd2, hva, hxa, hvb, hxb, a4, a5, b5, f2, bi_0, e1, ko, x0, x1, x2, x3, x4, ia3, ib3, (show (3 < 5) = True by decide), Bool.not_eq_false]
              refine ok_kindOf hg6 hT hn ha ia3 (by omega) ?_
              refine go_blk [(.getstatic 106, 9, 3, 0), (.if_acmp .ne 7, 136, 0, 0)] (by decide +kernel) ?_
              simp only [e_st_3, e_acmp_ne, e_nil, nol_n, nol_I, nol_R, rsum_0, rsum_I, rsum_R, ps_s, ps_n, true_and, and_true, Nat.reduceAdd, Nat.reduceLeDiff, hg, hg6, hd2, hva, hxa, hvb, hxb, a4, a5, b5, f2, bi_0, e1, ko, x0, x1, x2, x3, x4, ia3, ib3, (show (3 < 5) = True by decide), Bool.not_eq_false]
              refine ⟨fun c129 => ?_, fun c129 => ?_⟩
              · refine go_blk [(.iconst 0, 0, 0, 0), (.ireturn, 1, 0, 0)] (by decide +kernel) ?_
                simp only [e_ic_0, e_iret1, e_nil, nol_n, nol_I, nol_R, rsum_0, rsum_I, rsum_R, ps_s, ps_n, true_and, and_true, Nat.reduceAdd, Nat.reduceLeDiff, hg, hg6, hd2, hva, hxa, hvb, hxb, a4, a5, b5, f2, bi_0, e1, ko, x0, x1, x2, x3, x4, ia3, ib3, (show (3 < 5) = True by decide), Bool.not_eq_false]
                refine ⟨by decide, ?_⟩
                simp_all [fbd, bi]
              · refine go_blk [(.iconst 1, 0, 0, 0), (.goto 4, 137, 0, 0), (.ireturn, 1, 0, 0)] (by decide +kernel) ?_
                simp only [e_ic_1, e_goto, e_iret1, e_nil, nol_n, nol_I, nol_R, rsum_0, rsum_I, rsum_R, ps_s, ps_n, true_and, and_true, Nat.reduceAdd, Nat.reduceLeDiff, hg, hg6, hd2, hva, hxa, hvb, hxb, a4, a5, b5, f2, bi_0, e1, ko, x0, x1, x2, x3, x4, ia3, ib3, (show (3 < 5) = True by decide), Bool.not_eq_false]
                refine ⟨by decide, ?_⟩
                simp_all [fbd, bi]
          · refine go_blk [(.aload_n 0, 0, 0, 0), (.getfield 36, 1, 0, 0), (.getfield 69, 6, 3, 0), (.iload_n 1, 0, 0, 0), (.iaload, 0, 0, 0), (.aload_n 0, 0, 0, 0), (.getfield 15, 1, 2, 0), (.if_icmp .eq 26, 132, 0, 0)] (by decide +kernel) ?_
            simp only [e_al_0, e_gf_1_0, e_gf_6_3, e_il_1, e_ia, e_gf_1_2, e_icmp_eq, rd_1_0, rd_6_3, rd_1_2, ai_0_4, ai_1_7, ai_2_1, ai_2_2, ai_3_1, ai_4_1, ai_6_3, ai_6_4, ai_6_5, ai_6_6, ai_6_7, ai_6_8, ai_8_5, ai_8_6, ai_8_17, ai_8_21, ai_8_23, ai_8_24, ai_8_27, ai_8_28, ai_8_38, ai_8_39, ai_8_40, e_nil, nol_n, nol_I, nol_R, rsum_0, rsum_I, rsum_R, ps_s, ps_n, true_and, and_true, Nat.reduceAdd, Nat.reduceLeDiff, hg, hg6, hd2, hva, hxa, hvb, hxb, a4, a5, b5, f2, bi_0, e1, ko, x0, x1, x2, x3, x4, ia3, ib3, (show (3 < 5) = True by decide), Bool.not_eq_false]
            refine ⟨fun c106 => ?_, fun c106 => ?_⟩
            · refine go_blk [(.iconst 1, 0, 0, 0), (.goto 4, 137, 0, 0), (.ireturn, 1, 0, 0)] (by decide +kernel) ?_
              simp only [e_ic_1, e_goto, e_iret1, e_nil, nol_n, nol_I, nol_R, rsum_0, rsum_I, rsum_R, ps_s, ps_n, true_and, and_true, Nat.reduceAdd, Nat.reduceLeDiff, hg, hg6, hd2, hva, hxa, hvb, hxb, a4, a5, b5, f2, bi_0, e1, ko, x0, x1, x2, x3, x4, ia3, ib3, (show (3 < 5) = True by decide), Bool.not_eq_false]
              refine ⟨by decide, ?_⟩
              simp_all [fbd, bi]
            · refine go_blk [(.aload_n 0, 0, 0, 0), (.bipush 103, 0, 0, 0), (.invokevirtual 79, 20, 1, 1)] (by decide +kernel) ?_
              simp only [e_al_0, e_bp_103, e_iv_1_1, e_nil, nol_n, nol_I, nol_R, rsum_0, rsum_I, rsum_R, ps_s, ps_n, true_and, and_true, Nat.reduceAdd, Nat.reduceLeDiff, hg, hg6, hd2, hva, hxa, hvb, hxb, a4, a5, b5, f2, bi_0, e1, ko, x0, x1, x2, x3, x4, ia3, ib3, (show (3 < 5) = True by decide), Bool.not_eq_false]
              refine ok_bans (q := 103) hg (by omega) (by decide) f3 hbn (by omega) ?_
              refine go_blk [(.ifCond .eq 21, 136, 0, 0)] (by decide +kernel) ?_
              simp only [e_if_eq, e_nil, nol_n, nol_I, nol_R, rsum_0, rsum_I, rsum_R, ps_s, ps_n, true_and, and_true, Nat.reduceAdd, Nat.reduceLeDiff, hg, hg6, hd2, hva, hxa, hvb, hxb, a4, a5, b5, f2, bi_0, e1, ko, x0, x1, x2, x3, x4, ia3, ib3, (show (3 < 5) = True by decide), Bool.not_eq_false]
              refine ⟨fun c115 => ?_, fun c115 => ?_⟩
              · refine go_blk [(.iconst 0, 0, 0, 0), (.ireturn, 1, 0, 0)] (by decide +kernel) ?_
                simp only [e_ic_0, e_iret1, e_nil, nol_n, nol_I, nol_R, rsum_0, rsum_I, rsum_R, ps_s, ps_n, true_and, and_true, Nat.reduceAdd, Nat.reduceLeDiff, hg, hg6, hd2, hva, hxa, hvb, hxb, a4, a5, b5, f2, bi_0, e1, ko, x0, x1, x2, x3, x4, ia3, ib3, (show (3 < 5) = True by decide), Bool.not_eq_false]
                refine ⟨by decide, ?_⟩
                simp_all [fbd, bi]
              · refine go_blk [(.aload_n 0, 0, 0, 0), (.getfield 36, 1, 0, 0), (.iload_n 1, 0, 0, 0), (.invokevirtual 83, 61, 1, 6)] (by decide +kernel) ?_
                simp only [e_al_0, e_gf_1_0, e_il_1, e_iv_6_1, rd_1_0, e_nil, nol_n, nol_I, nol_R, rsum_0, rsum_I, rsum_R, ps_s, ps_n, true_and, and_true, Nat.reduceAdd, Nat.reduceLeDiff, hg, hg6, hd2, hva, hxa, hvb, hxb, a4, a5, b5, f2, bi_0, e1, ko, x0, x1, x2, x3, x4, ia3, ib3, (show (3 < 5) = True by decide), Bool.not_eq_false]
                refine ok_kindOf hg6 hT hn ha ia3 (by omega) ?_
                refine go_blk [(.getstatic 106, 9, 3, 0), (.if_acmp .ne 7, 136, 0, 0)] (by decide +kernel) ?_
                simp only [e_st_3, e_acmp_ne, e_nil, nol_n, nol_I, nol_R, rsum_0, rsum_I, rsum_R, ps_s, ps_n, true_and, and_true, Nat.reduceAdd, Nat.reduceLeDiff, hg, hg6, hd2, hva, hxa, hvb, hxb, a4, a5, b5, f2, bi_0, e1, ko, x0, x1, x2, x3, x4, ia3, ib3, (show (3 < 5) = True by decide), Bool.not_eq_false]
                refine ⟨fun c129 => ?_, fun c129 => ?_⟩
                · refine go_blk [(.iconst 0, 0, 0, 0), (.ireturn, 1, 0, 0)] (by decide +kernel) ?_
                  simp only [e_ic_0, e_iret1, e_nil, nol_n, nol_I, nol_R, rsum_0, rsum_I, rsum_R, ps_s, ps_n, true_and, and_true, Nat.reduceAdd, Nat.reduceLeDiff, hg, hg6, hd2, hva, hxa, hvb, hxb, a4, a5, b5, f2, bi_0, e1, ko, x0, x1, x2, x3, x4, ia3, ib3, (show (3 < 5) = True by decide), Bool.not_eq_false]
                  refine ⟨by decide, ?_⟩
                  simp_all [fbd, bi]
                · refine go_blk [(.iconst 1, 0, 0, 0), (.goto 4, 137, 0, 0), (.ireturn, 1, 0, 0)] (by decide +kernel) ?_
                  simp only [e_ic_1, e_goto, e_iret1, e_nil, nol_n, nol_I, nol_R, rsum_0, rsum_I, rsum_R, ps_s, ps_n, true_and, and_true, Nat.reduceAdd, Nat.reduceLeDiff, hg, hg6, hd2, hva, hxa, hvb, hxb, a4, a5, b5, f2, bi_0, e1, ko, x0, x1, x2, x3, x4, ia3, ib3, (show (3 < 5) = True by decide), Bool.not_eq_false]
                  refine ⟨by decide, ?_⟩
                  simp_all [fbd, bi]
        · refine go_blk [(.iload_n 3, 0, 0, 0), (.iload 4, 0, 0, 0), (.invokestatic 102, 26, 2, 0)] (by decide +kernel) ?_
          simp only [e_il_3, e_ilw_4, e_ivs_2, e_nil, Nat.reduceLT, nol_n, nol_I, nol_R, rsum_0, rsum_I, rsum_R, ps_s, ps_n, true_and, and_true, Nat.reduceAdd, Nat.reduceLeDiff, hg, hg6, hd2, hva, hxa, hvb, hxb, a4, a5, b5, f2, bi_0, e1, ko, x0, x1, x2, x3, x4, ia3, ib3, (show (3 < 5) = True by decide), Bool.not_eq_false]
          refine ok_distance ia5 ib5 (by omega) ?_
          refine go_blk [(.iconst 1, 0, 0, 0), (.if_icmp .eq 51, 132, 0, 0)] (by decide +kernel) ?_
          simp only [e_ic_1, e_icmp_eq, e_nil, nol_n, nol_I, nol_R, rsum_0, rsum_I, rsum_R, ps_s, ps_n, true_and, and_true, Nat.reduceAdd, Nat.reduceLeDiff, hg, hg6, hd2, hva, hxa, hvb, hxb, a4, a5, b5, f2, bi_0, e1, ko, x0, x1, x2, x3, x4, ia3, ib3, (show (3 < 5) = True by decide), Bool.not_eq_false]
          refine ⟨fun c81 => ?_, fun c81 => ?_⟩
          · refine go_blk [(.iconst 1, 0, 0, 0), (.goto 4, 137, 0, 0), (.ireturn, 1, 0, 0)] (by decide +kernel) ?_
            simp only [e_ic_1, e_goto, e_iret1, e_nil, nol_n, nol_I, nol_R, rsum_0, rsum_I, rsum_R, ps_s, ps_n, true_and, and_true, Nat.reduceAdd, Nat.reduceLeDiff, hg, hg6, hd2, hva, hxa, hvb, hxb, a4, a5, b5, f2, bi_0, e1, ko, x0, x1, x2, x3, x4, ia3, ib3, (show (3 < 5) = True by decide), Bool.not_eq_false]
            refine ⟨by decide, ?_⟩
            simp_all [fbd, bi]
          · refine go_blk [(.aload_n 0, 0, 0, 0), (.bipush 116, 0, 0, 0), (.invokevirtual 79, 20, 1, 1)] (by decide +kernel) ?_
            simp only [e_al_0, e_bp_116, e_iv_1_1, e_nil, nol_n, nol_I, nol_R, rsum_0, rsum_I, rsum_R, ps_s, ps_n, true_and, and_true, Nat.reduceAdd, Nat.reduceLeDiff, hg, hg6, hd2, hva, hxa, hvb, hxb, a4, a5, b5, f2, bi_0, e1, ko, x0, x1, x2, x3, x4, ia3, ib3, (show (3 < 5) = True by decide), Bool.not_eq_false]
            refine ok_bans (q := 116) hg (by omega) (by decide) f3 hbn (by omega) ?_
            refine go_blk [(.ifCond .eq 19, 109, 0, 0)] (by decide +kernel) ?_
            simp only [e_if_eq, e_nil, nol_n, nol_I, nol_R, rsum_0, rsum_I, rsum_R, ps_s, ps_n, true_and, and_true, Nat.reduceAdd, Nat.reduceLeDiff, hg, hg6, hd2, hva, hxa, hvb, hxb, a4, a5, b5, f2, bi_0, e1, ko, x0, x1, x2, x3, x4, ia3, ib3, (show (3 < 5) = True by decide), Bool.not_eq_false]
            refine ⟨fun c90 => ?_, fun c90 => ?_⟩
            · refine go_blk [(.aload_n 0, 0, 0, 0), (.bipush 103, 0, 0, 0), (.invokevirtual 79, 20, 1, 1)] (by decide +kernel) ?_
              simp only [e_al_0, e_bp_103, e_iv_1_1, e_nil, nol_n, nol_I, nol_R, rsum_0, rsum_I, rsum_R, ps_s, ps_n, true_and, and_true, Nat.reduceAdd, Nat.reduceLeDiff, hg, hg6, hd2, hva, hxa, hvb, hxb, a4, a5, b5, f2, bi_0, e1, ko, x0, x1, x2, x3, x4, ia3, ib3, (show (3 < 5) = True by decide), Bool.not_eq_false]
              refine ok_bans (q := 103) hg (by omega) (by decide) f3 hbn (by omega) ?_
              refine go_blk [(.ifCond .eq 21, 136, 0, 0)] (by decide +kernel) ?_
              simp only [e_if_eq, e_nil, nol_n, nol_I, nol_R, rsum_0, rsum_I, rsum_R, ps_s, ps_n, true_and, and_true, Nat.reduceAdd, Nat.reduceLeDiff, hg, hg6, hd2, hva, hxa, hvb, hxb, a4, a5, b5, f2, bi_0, e1, ko, x0, x1, x2, x3, x4, ia3, ib3, (show (3 < 5) = True by decide), Bool.not_eq_false]
              refine ⟨fun c115 => ?_, fun c115 => ?_⟩
              · refine go_blk [(.iconst 0, 0, 0, 0), (.ireturn, 1, 0, 0)] (by decide +kernel) ?_
                simp only [e_ic_0, e_iret1, e_nil, nol_n, nol_I, nol_R, rsum_0, rsum_I, rsum_R, ps_s, ps_n, true_and, and_true, Nat.reduceAdd, Nat.reduceLeDiff, hg, hg6, hd2, hva, hxa, hvb, hxb, a4, a5, b5, f2, bi_0, e1, ko, x0, x1, x2, x3, x4, ia3, ib3, (show (3 < 5) = True by decide), Bool.not_eq_false]
                refine ⟨by decide, ?_⟩
                simp_all [fbd, bi]
              · refine go_blk [(.aload_n 0, 0, 0, 0), (.getfield 36, 1, 0, 0), (.iload_n 1, 0, 0, 0), (.invokevirtual 83, 61, 1, 6)] (by decide +kernel) ?_
                simp only [e_al_0, e_gf_1_0, e_il_1, e_iv_6_1, rd_1_0, e_nil, nol_n, nol_I, nol_R, rsum_0, rsum_I, rsum_R, ps_s, ps_n, true_and, and_true, Nat.reduceAdd, Nat.reduceLeDiff, hg, hg6, hd2, hva, hxa, hvb, hxb, a4, a5, b5, f2, bi_0, e1, ko, x0, x1, x2, x3, x4, ia3, ib3, (show (3 < 5) = True by decide), Bool.not_eq_false]
                refine ok_kindOf hg6 hT hn ha ia3 (by omega) ?_
                refine go_blk [(.getstatic 106, 9, 3, 0), (.if_acmp .ne 7, 136, 0, 0)] (by decide +kernel) ?_
                simp only [e_st_3, e_acmp_ne, e_nil, nol_n, nol_I, nol_R, rsum_0, rsum_I, rsum_R, ps_s, ps_n, true_and, and_true, Nat.reduceAdd, Nat.reduceLeDiff, hg, hg6, hd2, hva, hxa, hvb, hxb, a4, a5, b5, f2, bi_0, e1, ko, x0, x1, x2, x3, x4, ia3, ib3, (show (3 < 5) = True by decide), Bool.not_eq_false]
                refine ⟨fun c129 => ?_, fun c129 => ?_⟩
                · refine go_blk [(.iconst 0, 0, 0, 0), (.ireturn, 1, 0, 0)] (by decide +kernel) ?_
                  simp only [e_ic_0, e_iret1, e_nil, nol_n, nol_I, nol_R, rsum_0, rsum_I, rsum_R, ps_s, ps_n, true_and, and_true, Nat.reduceAdd, Nat.reduceLeDiff, hg, hg6, hd2, hva, hxa, hvb, hxb, a4, a5, b5, f2, bi_0, e1, ko, x0, x1, x2, x3, x4, ia3, ib3, (show (3 < 5) = True by decide), Bool.not_eq_false]
                  refine ⟨by decide, ?_⟩
                  simp_all [fbd, bi]
                · refine go_blk [(.iconst 1, 0, 0, 0), (.goto 4, 137, 0, 0), (.ireturn, 1, 0, 0)] (by decide +kernel) ?_
                  simp only [e_ic_1, e_goto, e_iret1, e_nil, nol_n, nol_I, nol_R, rsum_0, rsum_I, rsum_R, ps_s, ps_n, true_and, and_true, Nat.reduceAdd, Nat.reduceLeDiff, hg, hg6, hd2, hva, hxa, hvb, hxb, a4, a5, b5, f2, bi_0, e1, ko, x0, x1, x2, x3, x4, ia3, ib3, (show (3 < 5) = True by decide), Bool.not_eq_false]
                  refine ⟨by decide, ?_⟩
                  simp_all [fbd, bi]
            · refine go_blk [(.aload_n 0, 0, 0, 0), (.getfield 36, 1, 0, 0), (.getfield 69, 6, 3, 0), (.iload_n 1, 0, 0, 0), (.iaload, 0, 0, 0), (.aload_n 0, 0, 0, 0), (.getfield 15, 1, 2, 0), (.if_icmp .eq 26, 132, 0, 0)] (by decide +kernel) ?_
              simp only [e_al_0, e_gf_1_0, e_gf_6_3, e_il_1, e_ia, e_gf_1_2, e_icmp_eq, rd_1_0, rd_6_3, rd_1_2, ai_0_4, ai_1_7, ai_2_1, ai_2_2, ai_3_1, ai_4_1, ai_6_3, ai_6_4, ai_6_5, ai_6_6, ai_6_7, ai_6_8, ai_8_5, ai_8_6, ai_8_17, ai_8_21, ai_8_23, ai_8_24, ai_8_27, ai_8_28, ai_8_38, ai_8_39, ai_8_40, e_nil, nol_n, nol_I, nol_R, rsum_0, rsum_I, rsum_R, ps_s, ps_n, true_and, and_true, Nat.reduceAdd, Nat.reduceLeDiff, hg, hg6, hd2, hva, hxa, hvb, hxb, a4, a5, b5, f2, bi_0, e1, ko, x0, x1, x2, x3, x4, ia3, ib3, (show (3 < 5) = True by decide), Bool.not_eq_false]
              refine ⟨fun c106 => ?_, fun c106 => ?_⟩
              · refine go_blk [(.iconst 1, 0, 0, 0), (.goto 4, 137, 0, 0), (.ireturn, 1, 0, 0)] (by decide +kernel) ?_
                simp only [e_ic_1, e_goto, e_iret1, e_nil, nol_n, nol_I, nol_R, rsum_0, rsum_I, rsum_R, ps_s, ps_n, true_and, and_true, Nat.reduceAdd, Nat.reduceLeDiff, hg, hg6, hd2, hva, hxa, hvb, hxb, a4, a5, b5, f2, bi_0, e1, ko, x0, x1, x2, x3, x4, ia3, ib3, (show (3 < 5) = True by decide), Bool.not_eq_false]
                refine ⟨by decide, ?_⟩
                simp_all [fbd, bi]
              · refine go_blk [(.aload_n 0, 0, 0, 0), (.bipush 103, 0, 0, 0), (.invokevirtual 79, 20, 1, 1)] (by decide +kernel) ?_
                simp only [e_al_0, e_bp_103, e_iv_1_1, e_nil, nol_n, nol_I, nol_R, rsum_0, rsum_I, rsum_R, ps_s, ps_n, true_and, and_true, Nat.reduceAdd, Nat.reduceLeDiff, hg, hg6, hd2, hva, hxa, hvb, hxb, a4, a5, b5, f2, bi_0, e1, ko, x0, x1, x2, x3, x4, ia3, ib3, (show (3 < 5) = True by decide), Bool.not_eq_false]
                refine ok_bans (q := 103) hg (by omega) (by decide) f3 hbn (by omega) ?_
                refine go_blk [(.ifCond .eq 21, 136, 0, 0)] (by decide +kernel) ?_
                simp only [e_if_eq, e_nil, nol_n, nol_I, nol_R, rsum_0, rsum_I, rsum_R, ps_s, ps_n, true_and, and_true, Nat.reduceAdd, Nat.reduceLeDiff, hg, hg6, hd2, hva, hxa, hvb, hxb, a4, a5, b5, f2, bi_0, e1, ko, x0, x1, x2, x3, x4, ia3, ib3, (show (3 < 5) = True by decide), Bool.not_eq_false]
                refine ⟨fun c115 => ?_, fun c115 => ?_⟩
                · refine go_blk [(.iconst 0, 0, 0, 0), (.ireturn, 1, 0, 0)] (by decide +kernel) ?_
                  simp only [e_ic_0, e_iret1, e_nil, nol_n, nol_I, nol_R, rsum_0, rsum_I, rsum_R, ps_s, ps_n, true_and, and_true, Nat.reduceAdd, Nat.reduceLeDiff, hg, hg6, hd2, hva, hxa, hvb, hxb, a4, a5, b5, f2, bi_0, e1, ko, x0, x1, x2, x3, x4, ia3, ib3, (show (3 < 5) = True by decide), Bool.not_eq_false]
                  refine ⟨by decide, ?_⟩
                  simp_all [fbd, bi]
                · refine go_blk [(.aload_n 0, 0, 0, 0), (.getfield 36, 1, 0, 0), (.iload_n 1, 0, 0, 0), (.invokevirtual 83, 61, 1, 6)] (by decide +kernel) ?_
                  simp only [e_al_0, e_gf_1_0, e_il_1, e_iv_6_1, rd_1_0, e_nil, nol_n, nol_I, nol_R, rsum_0, rsum_I, rsum_R, ps_s, ps_n, true_and, and_true, Nat.reduceAdd, Nat.reduceLeDiff, hg, hg6, hd2, hva, hxa, hvb, hxb, a4, a5, b5, f2, bi_0, e1, ko, x0, x1, x2, x3, x4, ia3, ib3, (show (3 < 5) = True by decide), Bool.not_eq_false]
                  refine ok_kindOf hg6 hT hn ha ia3 (by omega) ?_
                  refine go_blk [(.getstatic 106, 9, 3, 0), (.if_acmp .ne 7, 136, 0, 0)] (by decide +kernel) ?_
                  simp only [e_st_3, e_acmp_ne, e_nil, nol_n, nol_I, nol_R, rsum_0, rsum_I, rsum_R, ps_s, ps_n, true_and, and_true, Nat.reduceAdd, Nat.reduceLeDiff, hg, hg6, hd2, hva, hxa, hvb, hxb, a4, a5, b5, f2, bi_0, e1, ko, x0, x1, x2, x3, x4, ia3, ib3, (show (3 < 5) = True by decide), Bool.not_eq_false]
                  refine ⟨fun c129 => ?_, fun c129 => ?_⟩
                  · refine go_blk [(.iconst 0, 0, 0, 0), (.ireturn, 1, 0, 0)] (by decide +kernel) ?_
                    simp only [e_ic_0, e_iret1, e_nil, nol_n, nol_I, nol_R, rsum_0, rsum_I, rsum_R, ps_s, ps_n, true_and, and_true, Nat.reduceAdd, Nat.reduceLeDiff, hg, hg6, hd2, hva, hxa, hvb, hxb, a4, a5, b5, f2, bi_0, e1, ko, x0, x1, x2, x3, x4, ia3, ib3, (show (3 < 5) = True by decide), Bool.not_eq_false]
                    refine ⟨by decide, ?_⟩
                    simp_all [fbd, bi]
                  · refine go_blk [(.iconst 1, 0, 0, 0), (.goto 4, 137, 0, 0), (.ireturn, 1, 0, 0)] (by decide +kernel) ?_
                    simp only [e_ic_1, e_goto, e_iret1, e_nil, nol_n, nol_I, nol_R, rsum_0, rsum_I, rsum_R, ps_s, ps_n, true_and, and_true, Nat.reduceAdd, Nat.reduceLeDiff, hg, hg6, hd2, hva, hxa, hvb, hxb, a4, a5, b5, f2, bi_0, e1, ko, x0, x1, x2, x3, x4, ia3, ib3, (show (3 < 5) = True by decide), Bool.not_eq_false]
                    refine ⟨by decide, ?_⟩
                    simp_all [fbd, bi]
  · refine go_blk [(.aload_n 0, 0, 0, 0), (.getfield 36, 1, 0, 0), (.iload_n 2, 0, 0, 0), (.invokevirtual 83, 61, 1, 6)] (by decide +kernel) ?_
    simp only [e_al_0, e_gf_1_0, e_il_2, e_iv_6_1, rd_1_0, e_nil, nol_n, nol_I, nol_R, rsum_0, rsum_I, rsum_R, ps_s, ps_n, true_and, and_true, Nat.reduceAdd, Nat.reduceLeDiff, hg, hg6, hd2, hva, hxa, hvb, hxb, a4, a5, b5, f2, bi_0, e1, ko, x0, x1, x2, x3, x4, ia3, ib3, (show (3 < 5) = True by decide), Bool.not_eq_false]
    refine ok_kindOf hg6 hT hn hb ib3 (by omega) ?_
    refine go_blk [(.getstatic 87, 9, 1, 0), (.invokevirtual 93, 30, 1, 9)] (by decide +kernel) ?_
    simp only [e_st_1, e_iv_9_1, e_nil, nol_n, nol_I, nol_R, rsum_0, rsum_I, rsum_R, ps_s, ps_n, true_and, and_true, Nat.reduceAdd, Nat.reduceLeDiff, hg, hg6, hd2, hva, hxa, hvb, hxb, a4, a5, b5, f2, bi_0, e1, ko, x0, x1, x2, x3, x4, ia3, ib3, (show (3 < 5) = True by decide), Bool.not_eq_false]
    refine ok_isA (b := 1) ib3 (by omega) ?_
    refine go_blk [(.ifCond .ne 88, 132, 0, 0)] (by decide +kernel) ?_
    simp only [e_if_ne, e_nil, nol_n, nol_I, nol_R, rsum_0, rsum_I, rsum_R, ps_s, ps_n, true_and, and_true, Nat.reduceAdd, Nat.reduceLeDiff, hg, hg6, hd2, hva, hxa, hvb, hxb, a4, a5, b5, f2, bi_0, e1, ko, x0, x1, x2, x3, x4, ia3, ib3, (show (3 < 5) = True by decide), Bool.not_eq_false]
    refine ⟨fun c44 => ?_, fun c44 => ?_⟩
    · refine go_blk [(.iconst 1, 0, 0, 0), (.goto 4, 137, 0, 0), (.ireturn, 1, 0, 0)] (by decide +kernel) ?_
      simp only [e_ic_1, e_goto, e_iret1, e_nil, nol_n, nol_I, nol_R, rsum_0, rsum_I, rsum_R, ps_s, ps_n, true_and, and_true, Nat.reduceAdd, Nat.reduceLeDiff, hg, hg6, hd2, hva, hxa, hvb, hxb, a4, a5, b5, f2, bi_0, e1, ko, x0, x1, x2, x3, x4, ia3, ib3, (show (3 < 5) = True by decide), Bool.not_eq_false]
      refine ⟨by decide, ?_⟩
      simp_all [fbd, bi]
    · refine go_blk [(.aload_n 0, 0, 0, 0), (.bipush 100, 0, 0, 0), (.invokevirtual 79, 20, 1, 1)] (by decide +kernel) ?_
      simp only [e_al_0, e_bp_100, e_iv_1_1, e_nil, nol_n, nol_I, nol_R, rsum_0, rsum_I, rsum_R, ps_s, ps_n, true_and, and_true, Nat.reduceAdd, Nat.reduceLeDiff, hg, hg6, hd2, hva, hxa, hvb, hxb, a4, a5, b5, f2, bi_0, e1, ko, x0, x1, x2, x3, x4, ia3, ib3, (show (3 < 5) = True by decide), Bool.not_eq_false]
      refine ok_bans (q := 100) hg (by omega) (by decide) f3 hbn (by omega) ?_
      refine go_blk [(.ifCond .eq 12, 65, 0, 0)] (by decide +kernel) ?_
      simp only [e_if_eq, e_nil, nol_n, nol_I, nol_R, rsum_0, rsum_I, rsum_R, ps_s, ps_n, true_and, and_true, Nat.reduceAdd, Nat.reduceLeDiff, hg, hg6, hd2, hva, hxa, hvb, hxb, a4, a5, b5, f2, bi_0, e1, ko, x0, x1, x2, x3, x4, ia3, ib3, (show (3 < 5) = True by decide), Bool.not_eq_false]
      refine ⟨fun c53 => ?_, fun c53 => ?_⟩
      · refine go_blk [(.aload_n 0, 0, 0, 0), (.bipush 110, 0, 0, 0), (.invokevirtual 79, 20, 1, 1)] (by decide +kernel) ?_
        simp only [e_al_0, e_bp_110, e_iv_1_1, e_nil, nol_n, nol_I, nol_R, rsum_0, rsum_I, rsum_R, ps_s, ps_n, true_and, and_true, Nat.reduceAdd, Nat.reduceLeDiff, hg, hg6, hd2, hva, hxa, hvb, hxb, a4, a5, b5, f2, bi_0, e1, ko, x0, x1, x2, x3, x4, ia3, ib3, (show (3 < 5) = True by decide), Bool.not_eq_false]
        refine ok_bans (q := 110) hg (by omega) (by decide) f3 hbn (by omega) ?_
        refine go_blk [(.ifCond .eq 13, 84, 0, 0)] (by decide +kernel) ?_
        simp only [e_if_eq, e_nil, nol_n, nol_I, nol_R, rsum_0, rsum_I, rsum_R, ps_s, ps_n, true_and, and_true, Nat.reduceAdd, Nat.reduceLeDiff, hg, hg6, hd2, hva, hxa, hvb, hxb, a4, a5, b5, f2, bi_0, e1, ko, x0, x1, x2, x3, x4, ia3, ib3, (show (3 < 5) = True by decide), Bool.not_eq_false]
        refine ⟨fun c71 => ?_, fun c71 => ?_⟩
        · refine go_blk [(.aload_n 0, 0, 0, 0), (.bipush 116, 0, 0, 0), (.invokevirtual 79, 20, 1, 1)] (by decide +kernel) ?_
          simp only [e_al_0, e_bp_116, e_iv_1_1, e_nil, nol_n, nol_I, nol_R, rsum_0, rsum_I, rsum_R, ps_s, ps_n, true_and, and_true, Nat.reduceAdd, Nat.reduceLeDiff, hg, hg6, hd2, hva, hxa, hvb, hxb, a4, a5, b5, f2, bi_0, e1, ko, x0, x1, x2, x3, x4, ia3, ib3, (show (3 < 5) = True by decide), Bool.not_eq_false]
          refine ok_bans (q := 116) hg (by omega) (by decide) f3 hbn (by omega) ?_
          refine go_blk [(.ifCond .eq 19, 109, 0, 0)] (by decide +kernel) ?_
          simp only [e_if_eq, e_nil, nol_n, nol_I, nol_R, rsum_0, rsum_I, rsum_R, ps_s, ps_n, true_and, and_true, Nat.reduceAdd, Nat.reduceLeDiff, hg, hg6, hd2, hva, hxa, hvb, hxb, a4, a5, b5, f2, bi_0, e1, ko, x0, x1, x2, x3, x4, ia3, ib3, (show (3 < 5) = True by decide), Bool.not_eq_false]
          refine ⟨fun c90 => ?_, fun c90 => ?_⟩
          · refine go_blk [(.aload_n 0, 0, 0, 0), (.bipush 103, 0, 0, 0), (.invokevirtual 79, 20, 1, 1)] (by decide +kernel) ?_
            simp only [e_al_0, e_bp_103, e_iv_1_1, e_nil, nol_n, nol_I, nol_R, rsum_0, rsum_I, rsum_R, ps_s, ps_n, true_and, and_true, Nat.reduceAdd, Nat.reduceLeDiff, hg, hg6, hd2, hva, hxa, hvb, hxb, a4, a5, b5, f2, bi_0, e1, ko, x0, x1, x2, x3, x4, ia3, ib3, (show (3 < 5) = True by decide), Bool.not_eq_false]
            refine ok_bans (q := 103) hg (by omega) (by decide) f3 hbn (by omega) ?_
            refine go_blk [(.ifCond .eq 21, 136, 0, 0)] (by decide +kernel) ?_
            simp only [e_if_eq, e_nil, nol_n, nol_I, nol_R, rsum_0, rsum_I, rsum_R, ps_s, ps_n, true_and, and_true, Nat.reduceAdd, Nat.reduceLeDiff, hg, hg6, hd2, hva, hxa, hvb, hxb, a4, a5, b5, f2, bi_0, e1, ko, x0, x1, x2, x3, x4, ia3, ib3, (show (3 < 5) = True by decide), Bool.not_eq_false]
            refine ⟨fun c115 => ?_, fun c115 => ?_⟩
            · refine go_blk [(.iconst 0, 0, 0, 0), (.ireturn, 1, 0, 0)] (by decide +kernel) ?_
              simp only [e_ic_0, e_iret1, e_nil, nol_n, nol_I, nol_R, rsum_0, rsum_I, rsum_R, ps_s, ps_n, true_and, and_true, Nat.reduceAdd, Nat.reduceLeDiff, hg, hg6, hd2, hva, hxa, hvb, hxb, a4, a5, b5, f2, bi_0, e1, ko, x0, x1, x2, x3, x4, ia3, ib3, (show (3 < 5) = True by decide), Bool.not_eq_false]
              refine ⟨by decide, ?_⟩
              simp_all [fbd, bi]
            · refine go_blk [(.aload_n 0, 0, 0, 0), (.getfield 36, 1, 0, 0), (.iload_n 1, 0, 0, 0), (.invokevirtual 83, 61, 1, 6)] (by decide +kernel) ?_
              simp only [e_al_0, e_gf_1_0, e_il_1, e_iv_6_1, rd_1_0, e_nil, nol_n, nol_I, nol_R, rsum_0, rsum_I, rsum_R, ps_s, ps_n, true_and, and_true, Nat.reduceAdd, Nat.reduceLeDiff, hg, hg6, hd2, hva, hxa, hvb, hxb, a4, a5, b5, f2, bi_0, e1, ko, x0, x1, x2, x3, x4, ia3, ib3, (show (3 < 5) = True by decide), Bool.not_eq_false]
              refine ok_kindOf hg6 hT hn ha ia3 (by omega) ?_
              refine go_blk [(.getstatic 106, 9, 3, 0), (.if_acmp .ne 7, 136, 0, 0)] (by decide +kernel) ?_
              simp only [e_st_3, e_acmp_ne, e_nil, nol_n, nol_I, nol_R, rsum_0, rsum_I, rsum_R, ps_s, ps_n, true_and, and_true, Nat.reduceAdd, Nat.reduceLeDiff, hg, hg6, hd2, hva, hxa, hvb, hxb, a4, a5, b5, f2, bi_0, e1, ko, x0, x1, x2, x3, x4, ia3, ib3, (show (3 < 5) = True by decide), Bool.not_eq_false]
              refine ⟨fun c129 => ?_, fun c129 => ?_⟩
              · refine go_blk [(.iconst 0, 0, 0, 0), (.ireturn, 1, 0, 0)] (by decide +kernel) ?_
                simp only [e_ic_0, e_iret1, e_nil, nol_n, nol_I, nol_R, rsum_0, rsum_I, rsum_R, ps_s, ps_n, true_and, and_true, Nat.reduceAdd, Nat.reduceLeDiff, hg, hg6, hd2, hva, hxa, hvb, hxb, a4, a5, b5, f2, bi_0, e1, ko, x0, x1, x2, x3, x4, ia3, ib3, (show (3 < 5) = True by decide), Bool.not_eq_false]
                refine ⟨by decide, ?_⟩
                simp_all [fbd, bi]
              · refine go_blk [(.iconst 1, 0, 0, 0), (.goto 4, 137, 0, 0), (.ireturn, 1, 0, 0)] (by decide +kernel) ?_
                simp only [e_ic_1, e_goto, e_iret1, e_nil, nol_n, nol_I, nol_R, rsum_0, rsum_I, rsum_R, ps_s, ps_n, true_and, and_true, Nat.reduceAdd, Nat.reduceLeDiff, hg, hg6, hd2, hva, hxa, hvb, hxb, a4, a5, b5, f2, bi_0, e1, ko, x0, x1, x2, x3, x4, ia3, ib3, (show (3 < 5) = True by decide), Bool.not_eq_false]
                refine ⟨by decide, ?_⟩
                simp_all [fbd, bi]
          · refine go_blk [(.aload_n 0, 0, 0, 0), (.getfield 36, 1, 0, 0), (.getfield 69, 6, 3, 0), (.iload_n 1, 0, 0, 0), (.iaload, 0, 0, 0), (.aload_n 0, 0, 0, 0), (.getfield 15, 1, 2, 0), (.if_icmp .eq 26, 132, 0, 0)] (by decide +kernel) ?_
            simp only [e_al_0, e_gf_1_0, e_gf_6_3, e_il_1, e_ia, e_gf_1_2, e_icmp_eq, rd_1_0, rd_6_3, rd_1_2, ai_0_4, ai_1_7, ai_2_1, ai_2_2, ai_3_1, ai_4_1, ai_6_3, ai_6_4, ai_6_5, ai_6_6, ai_6_7, ai_6_8, ai_8_5, ai_8_6, ai_8_17, ai_8_21, ai_8_23, ai_8_24, ai_8_27, ai_8_28, ai_8_38, ai_8_39, ai_8_40, e_nil, nol_n, nol_I, nol_R, rsum_0, rsum_I, rsum_R, ps_s, ps_n, true_and, and_true, Nat.reduceAdd, Nat.reduceLeDiff, hg, hg6, hd2, hva, hxa, hvb, hxb, a4, a5, b5, f2, bi_0, e1, ko, x0, x1, x2, x3, x4, ia3, ib3, (show (3 < 5) = True by decide), Bool.not_eq_false]
            refine ⟨fun c106 => ?_, fun c106 => ?_⟩
            · refine go_blk [(.iconst 1, 0, 0, 0), (.goto 4, 137, 0, 0), (.ireturn, 1, 0, 0)] (by decide +kernel) ?_
              simp only [e_ic_1, e_goto, e_iret1, e_nil, nol_n, nol_I, nol_R, rsum_0, rsum_I, rsum_R, ps_s, ps_n, true_and, and_true, Nat.reduceAdd, Nat.reduceLeDiff, hg, hg6, hd2, hva, hxa, hvb, hxb, a4, a5, b5, f2, bi_0, e1, ko, x0, x1, x2, x3, x4, ia3, ib3, (show (3 < 5) = True by decide), Bool.not_eq_false]
              refine ⟨by decide, ?_⟩
              simp_all [fbd, bi]
            · refine go_blk [(.aload_n 0, 0, 0, 0), (.bipush 103, 0, 0, 0), (.invokevirtual 79, 20, 1, 1)] (by decide +kernel) ?_
              simp only [e_al_0, e_bp_103, e_iv_1_1, e_nil, nol_n, nol_I, nol_R, rsum_0, rsum_I, rsum_R, ps_s, ps_n, true_and, and_true, Nat.reduceAdd, Nat.reduceLeDiff, hg, hg6, hd2, hva, hxa, hvb, hxb, a4, a5, b5, f2, bi_0, e1, ko, x0, x1, x2, x3, x4, ia3, ib3, (show (3 < 5) = True by decide), Bool.not_eq_false]
              refine ok_bans (q := 103) hg (by omega) (by decide) f3 hbn (by omega) ?_
              refine go_blk [(.ifCond .eq 21, 136, 0, 0)] (by decide +kernel) ?_
              simp only [e_if_eq, e_nil, nol_n, nol_I, nol_R, rsum_0, rsum_I, rsum_R, ps_s, ps_n, true_and, and_true, Nat.reduceAdd, Nat.reduceLeDiff, hg, hg6, hd2, hva, hxa, hvb, hxb, a4, a5, b5, f2, bi_0, e1, ko, x0, x1, x2, x3, x4, ia3, ib3, (show (3 < 5) = True by decide), Bool.not_eq_false]
              refine ⟨fun c115 => ?_, fun c115 => ?_⟩
              · refine go_blk [(.iconst 0, 0, 0, 0), (.ireturn, 1, 0, 0)] (by decide +kernel) ?_
                simp only [e_ic_0, e_iret1, e_nil, nol_n, nol_I, nol_R, rsum_0, rsum_I, rsum_R, ps_s, ps_n, true_and, and_true, Nat.reduceAdd, Nat.reduceLeDiff, hg, hg6, hd2, hva, hxa, hvb, hxb, a4, a5, b5, f2, bi_0, e1, ko, x0, x1, x2, x3, x4, ia3, ib3, (show (3 < 5) = True by decide), Bool.not_eq_false]
                refine ⟨by decide, ?_⟩
                simp_all [fbd, bi]
              · refine go_blk [(.aload_n 0, 0, 0, 0), (.getfield 36, 1, 0, 0), (.iload_n 1, 0, 0, 0), (.invokevirtual 83, 61, 1, 6)] (by decide +kernel) ?_
                simp only [e_al_0, e_gf_1_0, e_il_1, e_iv_6_1, rd_1_0, e_nil, nol_n, nol_I, nol_R, rsum_0, rsum_I, rsum_R, ps_s, ps_n, true_and, and_true, Nat.reduceAdd, Nat.reduceLeDiff, hg, hg6, hd2, hva, hxa, hvb, hxb, a4, a5, b5, f2, bi_0, e1, ko, x0, x1, x2, x3, x4, ia3, ib3, (show (3 < 5) = True by decide), Bool.not_eq_false]
                refine ok_kindOf hg6 hT hn ha ia3 (by omega) ?_
                refine go_blk [(.getstatic 106, 9, 3, 0), (.if_acmp .ne 7, 136, 0, 0)] (by decide +kernel) ?_
                simp only [e_st_3, e_acmp_ne, e_nil, nol_n, nol_I, nol_R, rsum_0, rsum_I, rsum_R, ps_s, ps_n, true_and, and_true, Nat.reduceAdd, Nat.reduceLeDiff, hg, hg6, hd2, hva, hxa, hvb, hxb, a4, a5, b5, f2, bi_0, e1, ko, x0, x1, x2, x3, x4, ia3, ib3, (show (3 < 5) = True by decide), Bool.not_eq_false]
                refine ⟨fun c129 => ?_, fun c129 => ?_⟩
                · refine go_blk [(.iconst 0, 0, 0, 0), (.ireturn, 1, 0, 0)] (by decide +kernel) ?_
                  simp only [e_ic_0, e_iret1, e_nil, nol_n, nol_I, nol_R, rsum_0, rsum_I, rsum_R, ps_s, ps_n, true_and, and_true, Nat.reduceAdd, Nat.reduceLeDiff, hg, hg6, hd2, hva, hxa, hvb, hxb, a4, a5, b5, f2, bi_0, e1, ko, x0, x1, x2, x3, x4, ia3, ib3, (show (3 < 5) = True by decide), Bool.not_eq_false]
                  refine ⟨by decide, ?_⟩
                  simp_all [fbd, bi]
                · refine go_blk [(.iconst 1, 0, 0, 0), (.goto 4, 137, 0, 0), (.ireturn, 1, 0, 0)] (by decide +kernel) ?_
                  simp only [e_ic_1, e_goto, e_iret1, e_nil, nol_n, nol_I, nol_R, rsum_0, rsum_I, rsum_R, ps_s, ps_n, true_and, and_true, Nat.reduceAdd, Nat.reduceLeDiff, hg, hg6, hd2, hva, hxa, hvb, hxb, a4, a5, b5, f2, bi_0, e1, ko, x0, x1, x2, x3, x4, ia3, ib3, (show (3 < 5) = True by decide), Bool.not_eq_false]
                  refine ⟨by decide, ?_⟩
                  simp_all [fbd, bi]
        · refine go_blk [(.iload_n 3, 0, 0, 0), (.iload 4, 0, 0, 0), (.invokestatic 102, 26, 2, 0)] (by decide +kernel) ?_
          simp only [e_il_3, e_ilw_4, e_ivs_2, e_nil, Nat.reduceLT, nol_n, nol_I, nol_R, rsum_0, rsum_I, rsum_R, ps_s, ps_n, true_and, and_true, Nat.reduceAdd, Nat.reduceLeDiff, hg, hg6, hd2, hva, hxa, hvb, hxb, a4, a5, b5, f2, bi_0, e1, ko, x0, x1, x2, x3, x4, ia3, ib3, (show (3 < 5) = True by decide), Bool.not_eq_false]
          refine ok_distance ia5 ib5 (by omega) ?_
          refine go_blk [(.iconst 1, 0, 0, 0), (.if_icmp .eq 51, 132, 0, 0)] (by decide +kernel) ?_
          simp only [e_ic_1, e_icmp_eq, e_nil, nol_n, nol_I, nol_R, rsum_0, rsum_I, rsum_R, ps_s, ps_n, true_and, and_true, Nat.reduceAdd, Nat.reduceLeDiff, hg, hg6, hd2, hva, hxa, hvb, hxb, a4, a5, b5, f2, bi_0, e1, ko, x0, x1, x2, x3, x4, ia3, ib3, (show (3 < 5) = True by decide), Bool.not_eq_false]
          refine ⟨fun c81 => ?_, fun c81 => ?_⟩
          · refine go_blk [(.iconst 1, 0, 0, 0), (.goto 4, 137, 0, 0), (.ireturn, 1, 0, 0)] (by decide +kernel) ?_
            simp only [e_ic_1, e_goto, e_iret1, e_nil, nol_n, nol_I, nol_R, rsum_0, rsum_I, rsum_R, ps_s, ps_n, true_and, and_true, Nat.reduceAdd, Nat.reduceLeDiff, hg, hg6, hd2, hva, hxa, hvb, hxb, a4, a5, b5, f2, bi_0, e1, ko, x0, x1, x2, x3, x4, ia3, ib3, (show (3 < 5) = True by decide), Bool.not_eq_false]
            refine ⟨by decide, ?_⟩
            simp_all [fbd, bi]
          · refine go_blk [(.aload_n 0, 0, 0, 0), (.bipush 116, 0, 0, 0), (.invokevirtual 79, 20, 1, 1)] (by decide +kernel) ?_
            simp only [e_al_0, e_bp_116, e_iv_1_1, e_nil, nol_n, nol_I, nol_R, rsum_0, rsum_I, rsum_R, ps_s, ps_n, true_and, and_true, Nat.reduceAdd, Nat.reduceLeDiff, hg, hg6, hd2, hva, hxa, hvb, hxb, a4, a5, b5, f2, bi_0, e1, ko, x0, x1, x2, x3, x4, ia3, ib3, (show (3 < 5) = True by decide), Bool.not_eq_false]
            refine ok_bans (q := 116) hg (by omega) (by decide) f3 hbn (by omega) ?_
            refine go_blk [(.ifCond .eq 19, 109, 0, 0)] (by decide +kernel) ?_
            simp only [e_if_eq, e_nil, nol_n, nol_I, nol_R, rsum_0, rsum_I, rsum_R, ps_s, ps_n, true_and, and_true, Nat.reduceAdd, Nat.reduceLeDiff, hg, hg6, hd2, hva, hxa, hvb, hxb, a4, a5, b5, f2, bi_0, e1, ko, x0, x1, x2, x3, x4, ia3, ib3, (show (3 < 5) = True by decide), Bool.not_eq_false]
            refine ⟨fun c90 => ?_, fun c90 => ?_⟩
            · refine go_blk [(.aload_n 0, 0, 0, 0), (.bipush 103, 0, 0, 0), (.invokevirtual 79, 20, 1, 1)] (by decide +kernel) ?_
              simp only [e_al_0, e_bp_103, e_iv_1_1, e_nil, nol_n, nol_I, nol_R, rsum_0, rsum_I, rsum_R, ps_s, ps_n, true_and, and_true, Nat.reduceAdd, Nat.reduceLeDiff, hg, hg6, hd2, hva, hxa, hvb, hxb, a4, a5, b5, f2, bi_0, e1, ko, x0, x1, x2, x3, x4, ia3, ib3, (show (3 < 5) = True by decide), Bool.not_eq_false]
              refine ok_bans (q := 103) hg (by omega) (by decide) f3 hbn (by omega) ?_
              refine go_blk [(.ifCond .eq 21, 136, 0, 0)] (by decide +kernel) ?_
              simp only [e_if_eq, e_nil, nol_n, nol_I, nol_R, rsum_0, rsum_I, rsum_R, ps_s, ps_n, true_and, and_true, Nat.reduceAdd, Nat.reduceLeDiff, hg, hg6, hd2, hva, hxa, hvb, hxb, a4, a5, b5, f2, bi_0, e1, ko, x0, x1, x2, x3, x4, ia3, ib3, (show (3 < 5) = True by decide), Bool.not_eq_false]
              refine ⟨fun c115 => ?_, fun c115 => ?_⟩
              · refine go_blk [(.iconst 0, 0, 0, 0), (.ireturn, 1, 0, 0)] (by decide +kernel) ?_
                simp only [e_ic_0, e_iret1, e_nil, nol_n, nol_I, nol_R, rsum_0, rsum_I, rsum_R, ps_s, ps_n, true_and, and_true, Nat.reduceAdd, Nat.reduceLeDiff, hg, hg6, hd2, hva, hxa, hvb, hxb, a4, a5, b5, f2, bi_0, e1, ko, x0, x1, x2, x3, x4, ia3, ib3, (show (3 < 5) = True by decide), Bool.not_eq_false]
                refine ⟨by decide, ?_⟩
                simp_all [fbd, bi]
              · refine go_blk [(.aload_n 0, 0, 0, 0), (.getfield 36, 1, 0, 0), (.iload_n 1, 0, 0, 0), (.invokevirtual 83, 61, 1, 6)] (by decide +kernel) ?_
                simp only [e_al_0, e_gf_1_0, e_il_1, e_iv_6_1, rd_1_0, e_nil, nol_n, nol_I, nol_R, rsum_0, rsum_I, rsum_R, ps_s, ps_n, true_and, and_true, Nat.reduceAdd, Nat.reduceLeDiff, hg, hg6, hd2, hva, hxa, hvb, hxb, a4, a5, b5, f2, bi_0, e1, ko, x0, x1, x2, x3, x4, ia3, ib3, (show (3 < 5) = True by decide), Bool.not_eq_false]
                refine ok_kindOf hg6 hT hn ha ia3 (by omega) ?_
                refine go_blk [(.getstatic 106, 9, 3, 0), (.if_acmp .ne 7, 136, 0, 0)] (by decide +kernel) ?_
                simp only [e_st_3, e_acmp_ne, e_nil, nol_n, nol_I, nol_R, rsum_0, rsum_I, rsum_R, ps_s, ps_n, true_and, and_true, Nat.reduceAdd, Nat.reduceLeDiff, hg, hg6, hd2, hva, hxa, hvb, hxb, a4, a5, b5, f2, bi_0, e1, ko, x0, x1, x2, x3, x4, ia3, ib3, (show (3 < 5) = True by decide), Bool.not_eq_false]
                refine ⟨fun c129 => ?_, fun c129 => ?_⟩
                · refine go_blk [(.iconst 0, 0, 0, 0), (.ireturn, 1, 0, 0)] (by decide +kernel) ?_
                  simp only [e_ic_0, e_iret1, e_nil, nol_n, nol_I, nol_R, rsum_0, rsum_I, rsum_R, ps_s, ps_n, true_and, and_true, Nat.reduceAdd, Nat.reduceLeDiff, hg, hg6, hd2, hva, hxa, hvb, hxb, a4, a5, b5, f2, bi_0, e1, ko, x0, x1, x2, x3, x4, ia3, ib3, (show (3 < 5) = True by decide), Bool.not_eq_false]
                  refine ⟨by decide, ?_⟩
                  simp_all [fbd, bi]
                · refine go_blk [(.iconst 1, 0, 0, 0), (.goto 4, 137, 0, 0), (.ireturn, 1, 0, 0)] (by decide +kernel) ?_
                  simp only [e_ic_1, e_goto, e_iret1, e_nil, nol_n, nol_I, nol_R, rsum_0, rsum_I, rsum_R, ps_s, ps_n, true_and, and_true, Nat.reduceAdd, Nat.reduceLeDiff, hg, hg6, hd2, hva, hxa, hvb, hxb, a4, a5, b5, f2, bi_0, e1, ko, x0, x1, x2, x3, x4, ia3, ib3, (show (3 < 5) = True by decide), Bool.not_eq_false]
                  refine ⟨by decide, ?_⟩
                  simp_all [fbd, bi]
            · refine go_blk [(.aload_n 0, 0, 0, 0), (.getfield 36, 1, 0, 0), (.getfield 69, 6, 3, 0), (.iload_n 1, 0, 0, 0), (.iaload, 0, 0, 0), (.aload_n 0, 0, 0, 0), (.getfield 15, 1, 2, 0), (.if_icmp .eq 26, 132, 0, 0)] (by decide +kernel) ?_
              simp only [e_al_0, e_gf_1_0, e_gf_6_3, e_il_1, e_ia, e_gf_1_2, e_icmp_eq, rd_1_0, rd_6_3, rd_1_2, ai_0_4, ai_1_7, ai_2_1, ai_2_2, ai_3_1, ai_4_1, ai_6_3, ai_6_4, ai_6_5, ai_6_6, ai_6_7, ai_6_8, ai_8_5, ai_8_6, ai_8_17, ai_8_21, ai_8_23, ai_8_24, ai_8_27, ai_8_28, ai_8_38, ai_8_39, ai_8_40, e_nil, nol_n, nol_I, nol_R, rsum_0, rsum_I, rsum_R, ps_s, ps_n, true_and, and_true, Nat.reduceAdd, Nat.reduceLeDiff, hg, hg6, hd2, hva, hxa, hvb, hxb, a4, a5, b5, f2, bi_0, e1, ko, x0, x1, x2, x3, x4, ia3, ib3, (show (3 < 5) = True by decide), Bool.not_eq_false]
              refine ⟨fun c106 => ?_, fun c106 => ?_⟩
              · refine go_blk [(.iconst 1, 0, 0, 0), (.goto 4, 137, 0, 0), (.ireturn, 1, 0, 0)] (by decide +kernel) ?_
                simp only [e_ic_1, e_goto, e_iret1, e_nil, nol_n, nol_I, nol_R, rsum_0, rsum_I, rsum_R, ps_s, ps_n, true_and, and_true, Nat.reduceAdd, Nat.reduceLeDiff, hg, hg6, hd2, hva, hxa, hvb, hxb, a4, a5, b5, f2, bi_0, e1, ko, x0, x1, x2, x3, x4, ia3, ib3, (show (3 < 5) = True by decide), Bool.not_eq_false]
                refine ⟨by decide, ?_⟩
                simp_all [fbd, bi]
              · refine go_blk [(.aload_n 0, 0, 0, 0), (.bipush 103, 0, 0, 0), (.invokevirtual 79, 20, 1, 1)] (by decide +kernel) ?_
                simp only [e_al_0, e_bp_103, e_iv_1_1, e_nil, nol_n, nol_I, nol_R, rsum_0, rsum_I, rsum_R, ps_s, ps_n, true_and, and_true, Nat.reduceAdd, Nat.reduceLeDiff, hg, hg6, hd2, hva, hxa, hvb, hxb, a4, a5, b5, f2, bi_0, e1, ko, x0, x1, x2, x3, x4, ia3, ib3, (show (3 < 5) = True by decide), Bool.not_eq_false]
                refine ok_bans (q := 103) hg (by omega) (by decide) f3 hbn (by omega) ?_
                refine go_blk [(.ifCond .eq 21, 136, 0, 0)] (by decide +kernel) ?_
                simp only [e_if_eq, e_nil, nol_n, nol_I, nol_R, rsum_0, rsum_I, rsum_R, ps_s, ps_n, true_and, and_true, Nat.reduceAdd, Nat.reduceLeDiff, hg, hg6, hd2, hva, hxa, hvb, hxb, a4, a5, b5, f2, bi_0, e1, ko, x0, x1, x2, x3, x4, ia3, ib3, (show (3 < 5) = True by decide), Bool.not_eq_false]
                refine ⟨fun c115 => ?_, fun c115 => ?_⟩
                · refine go_blk [(.iconst 0, 0, 0, 0), (.ireturn, 1, 0, 0)] (by decide +kernel) ?_
                  simp only [e_ic_0, e_iret1, e_nil, nol_n, nol_I, nol_R, rsum_0, rsum_I, rsum_R, ps_s, ps_n, true_and, and_true, Nat.reduceAdd, Nat.reduceLeDiff, hg, hg6, hd2, hva, hxa, hvb, hxb, a4, a5, b5, f2, bi_0, e1, ko, x0, x1, x2, x3, x4, ia3, ib3, (show (3 < 5) = True by decide), Bool.not_eq_false]
                  refine ⟨by decide, ?_⟩
                  simp_all [fbd, bi]
                · refine go_blk [(.aload_n 0, 0, 0, 0), (.getfield 36, 1, 0, 0), (.iload_n 1, 0, 0, 0), (.invokevirtual 83, 61, 1, 6)] (by decide +kernel) ?_
                  simp only [e_al_0, e_gf_1_0, e_il_1, e_iv_6_1, rd_1_0, e_nil, nol_n, nol_I, nol_R, rsum_0, rsum_I, rsum_R, ps_s, ps_n, true_and, and_true, Nat.reduceAdd, Nat.reduceLeDiff, hg, hg6, hd2, hva, hxa, hvb, hxb, a4, a5, b5, f2, bi_0, e1, ko, x0, x1, x2, x3, x4, ia3, ib3, (show (3 < 5) = True by decide), Bool.not_eq_false]
                  refine ok_kindOf hg6 hT hn ha ia3 (by omega) ?_
                  refine go_blk [(.getstatic 106, 9, 3, 0), (.if_acmp .ne 7, 136, 0, 0)] (by decide +kernel) ?_
                  simp only [e_st_3, e_acmp_ne, e_nil, nol_n, nol_I, nol_R, rsum_0, rsum_I, rsum_R, ps_s, ps_n, true_and, and_true, Nat.reduceAdd, Nat.reduceLeDiff, hg, hg6, hd2, hva, hxa, hvb, hxb, a4, a5, b5, f2, bi_0, e1, ko, x0, x1, x2, x3, x4, ia3, ib3, (show (3 < 5) = True by decide), Bool.not_eq_false]
                  refine ⟨fun c129 => ?_, fun c129 => ?_⟩
                  · refine go_blk [(.iconst 0, 0, 0, 0), (.ireturn, 1, 0, 0)] (by decide +kernel) ?_
                    simp only [e_ic_0, e_iret1, e_nil, nol_n, nol_I, nol_R, rsum_0, rsum_I, rsum_R, ps_s, ps_n, true_and, and_true, Nat.reduceAdd, Nat.reduceLeDiff, hg, hg6, hd2, hva, hxa, hvb, hxb, a4, a5, b5, f2, bi_0, e1, ko, x0, x1, x2, x3, x4, ia3, ib3, (show (3 < 5) = True by decide), Bool.not_eq_false]
                    refine ⟨by decide, ?_⟩
                    simp_all [fbd, bi]
                  · refine go_blk [(.iconst 1, 0, 0, 0), (.goto 4, 137, 0, 0), (.ireturn, 1, 0, 0)] (by decide +kernel) ?_
                    simp only [e_ic_1, e_goto, e_iret1, e_nil, nol_n, nol_I, nol_R, rsum_0, rsum_I, rsum_R, ps_s, ps_n, true_and, and_true, Nat.reduceAdd, Nat.reduceLeDiff, hg, hg6, hd2, hva, hxa, hvb, hxb, a4, a5, b5, f2, bi_0, e1, ko, x0, x1, x2, x3, x4, ia3, ib3, (show (3 < 5) = True by decide), Bool.not_eq_false]
                    refine ⟨by decide, ?_⟩
                    simp_all [fbd, bi]
      · refine go_blk [(.iload_n 3, 0, 0, 0), (.iload 4, 0, 0, 0), (.invokestatic 97, 27, 2, 0)] (by decide +kernel) ?_
        simp only [e_il_3, e_ilw_4, e_ivs_2, e_nil, Nat.reduceLT, nol_n, nol_I, nol_R, rsum_0, rsum_I, rsum_R, ps_s, ps_n, true_and, and_true, Nat.reduceAdd, Nat.reduceLeDiff, hg, hg6, hd2, hva, hxa, hvb, hxb, a4, a5, b5, f2, bi_0, e1, ko, x0, x1, x2, x3, x4, ia3, ib3, (show (3 < 5) = True by decide), Bool.not_eq_false]
        refine ok_isDiagonal ia5 ib5 (by omega) ?_
        refine go_blk [(.ifCond .ne 70, 132, 0, 0)] (by decide +kernel) ?_
        simp only [e_if_ne, e_nil, nol_n, nol_I, nol_R, rsum_0, rsum_I, rsum_R, ps_s, ps_n, true_and, and_true, Nat.reduceAdd, Nat.reduceLeDiff, hg, hg6, hd2, hva, hxa, hvb, hxb, a4, a5, b5, f2, bi_0, e1, ko, x0, x1, x2, x3, x4, ia3, ib3, (show (3 < 5) = True by decide), Bool.not_eq_false]
        refine ⟨fun c62 => ?_, fun c62 => ?_⟩
        · refine go_blk [(.iconst 1, 0, 0, 0), (.goto 4, 137, 0, 0), (.ireturn, 1, 0, 0)] (by decide +kernel) ?_
          simp only [e_ic_1, e_goto, e_iret1, e_nil, nol_n, nol_I, nol_R, rsum_0, rsum_I, rsum_R, ps_s, ps_n, true_and, and_true, Nat.reduceAdd, Nat.reduceLeDiff, hg, hg6, hd2, hva, hxa, hvb, hxb, a4, a5, b5, f2, bi_0, e1, ko, x0, x1, x2, x3, x4, ia3, ib3, (show (3 < 5) = True by decide), Bool.not_eq_false]
          refine ⟨by decide, ?_⟩
          simp_all [fbd, bi]
        · refine go_blk [(.aload_n 0, 0, 0, 0), (.bipush 110, 0, 0, 0), (.invokevirtual 79, 20, 1, 1)] (by decide +kernel) ?_
          simp only [e_al_0, e_bp_110, e_iv_1_1, e_nil, nol_n, nol_I, nol_R, rsum_0, rsum_I, rsum_R, ps_s, ps_n, true_and, and_true, Nat.reduceAdd, Nat.reduceLeDiff, hg, hg6, hd2, hva, hxa, hvb, hxb, a4, a5, b5, f2, bi_0, e1, ko, x0, x1, x2, x3, x4, ia3, ib3, (show (3 < 5) = True by decide), Bool.not_eq_false]
          refine ok_bans (q := 110) hg (by omega) (by decide) f3 hbn (by omega) ?_
          refine go_blk [(.ifCond .eq 13, 84, 0, 0)] (by decide +kernel) ?_
          simp only [e_if_eq, e_nil, nol_n, nol_I, nol_R, rsum_0, rsum_I, rsum_R, ps_s, ps_n, true_and, and_true, Nat.reduceAdd, Nat.reduceLeDiff, hg, hg6, hd2, hva, hxa, hvb, hxb, a4, a5, b5, f2, bi_0, e1, ko, x0, x1, x2, x3, x4, ia3, ib3, (show (3 < 5) = True by decide), Bool.not_eq_false]
          refine ⟨fun c71 => ?_, fun c71 => ?_⟩
          · refine go_blk [(.aload_n 0, 0, 0, 0), (.bipush 116, 0, 0, 0), (.invokevirtual 79, 20, 1, 1)] (by decide +kernel) ?_
            simp only [e_al_0, e_bp_116, e_iv_1_1, e_nil, nol_n, nol_I, nol_R, rsum_0, rsum_I, rsum_R, ps_s, ps_n, true_and, and_true, Nat.reduceAdd, Nat.reduceLeDiff, hg, hg6, hd2, hva, hxa, hvb, hxb, a4, a5, b5, f2, bi_0, e1, ko, x0, x1, x2, x3, x4, ia3, ib3, (show (3 < 5) = True by decide), Bool.not_eq_false]
            refine ok_bans (q := 116) hg (by omega) (by decide) f3 hbn (by omega) ?_
            refine go_blk [(.ifCond .eq 19, 109, 0, 0)] (by decide +kernel) ?_
            simp only [e_if_eq, e_nil, nol_n, nol_I, nol_R, rsum_0, rsum_I, rsum_R, ps_s, ps_n, true_and, and_true, Nat.reduceAdd, Nat.reduceLeDiff, hg, hg6, hd2, hva, hxa, hvb, hxb, a4, a5, b5, f2, bi_0, e1, ko, x0, x1, x2, x3, x4, ia3, ib3, (show (3 < 5) = True by decide), Bool.not_eq_false]
            refine ⟨fun c90 => ?_, fun c90 => ?_⟩
            · refine go_blk [(.aload_n 0, 0, 0, 0), (.bipush 103, 0, 0, 0), (.invokevirtual 79, 20, 1, 1)] (by decide +kernel) ?_
              simp only [e_al_0, e_bp_103, e_iv_1_1, e_nil, nol_n, nol_I, nol_R, rsum_0, rsum_I, rsum_R, ps_s, ps_n, true_and, and_true, Nat.reduceAdd, Nat.reduceLeDiff, hg, hg6, hd2, hva, hxa, hvb, hxb, a4, a5, b5, f2, bi_0, e1, ko, x0, x1, x2, x3, x4, ia3, ib3, (show (3 < 5) = True by decide), Bool.not_eq_false]
              refine ok_bans (q := 103) hg (by omega) (by decide) f3 hbn (by omega) ?_
              refine go_blk [(.ifCond .eq 21, 136, 0, 0)] (by decide +kernel) ?_
              simp only [e_if_eq, e_nil, nol_n, nol_I, nol_R, rsum_0, rsum_I, rsum_R, ps_s, ps_n, true_and, and_true, Nat.reduceAdd, Nat.reduceLeDiff, hg, hg6, hd2, hva, hxa, hvb, hxb, a4, a5, b5, f2, bi_0, e1, ko, x0, x1, x2, x3, x4, ia3, ib3, (show (3 < 5) = True by decide), Bool.not_eq_false]
              refine ⟨fun c115 => ?_, fun c115 => ?_⟩
              · refine go_blk [(.iconst 0, 0, 0, 0), (.ireturn, 1, 0, 0)] (by decide +kernel) ?_
                simp only [e_ic_0, e_iret1, e_nil, nol_n, nol_I, nol_R, rsum_0, rsum_I, rsum_R, ps_s, ps_n, true_and, and_true, Nat.reduceAdd, Nat.reduceLeDiff, hg, hg6, hd2, hva, hxa, hvb, hxb, a4, a5, b5, f2, bi_0, e1, ko, x0, x1, x2, x3, x4, ia3, ib3, (show (3 < 5) = True by decide), Bool.not_eq_false]
                refine ⟨by decide, ?_⟩
                simp_all [fbd, bi]
              · refine go_blk [(.aload_n 0, 0, 0, 0), (.getfield 36, 1, 0, 0), (.iload_n 1, 0, 0, 0), (.invokevirtual 83, 61, 1, 6)] (by decide +kernel) ?_
                simp only [e_al_0, e_gf_1_0, e_il_1, e_iv_6_1, rd_1_0, e_nil, nol_n, nol_I, nol_R, rsum_0, rsum_I, rsum_R, ps_s, ps_n, true_and, and_true, Nat.reduceAdd, Nat.reduceLeDiff, hg, hg6, hd2, hva, hxa, hvb, hxb, a4, a5, b5, f2, bi_0, e1, ko, x0, x1, x2, x3, x4, ia3, ib3, (show (3 < 5) = True by decide), Bool.not_eq_false]
                refine ok_kindOf hg6 hT hn ha ia3 (by omega) ?_
                refine go_blk [(.getstatic 106, 9, 3, 0), (.if_acmp .ne 7, 136, 0, 0)] (by decide +kernel) ?_
                simp only [e_st_3, e_acmp_ne, e_nil, nol_n, nol_I, nol_R, rsum_0, rsum_I, rsum_R, ps_s, ps_n, true_and, and_true, Nat.reduceAdd, Nat.reduceLeDiff, hg, hg6, hd2, hva, hxa, hvb, hxb, a4, a5, b5, f2, bi_0, e1, ko, x0, x1, x2, x3, x4, ia3, ib3, (show (3 < 5) = True by decide), Bool.not_eq_false]
                refine ⟨fun c129 => ?_, fun c129 => ?_⟩
                · refine go_blk [(.iconst 0, 0, 0, 0), (.ireturn, 1, 0, 0)] (by decide +kernel) ?_
                  simp only [e_ic_0, e_iret1, e_nil, nol_n, nol_I, nol_R, rsum_0, rsum_I, rsum_R, ps_s, ps_n, true_and, and_true, Nat.reduceAdd, Nat.reduceLeDiff, hg, hg6, hd2, hva, hxa, hvb, hxb, a4, a5, b5, f2, bi_0, e1, ko, x0, x1, x2, x3, x4, ia3, ib3, (show (3 < 5) = True by decide), Bool.not_eq_false]
                  refine ⟨by decide, ?_⟩
                  simp_all [fbd, bi]
                · refine go_blk [(.iconst 1, 0, 0, 0), (.goto 4, 137, 0, 0), (.ireturn, 1, 0, 0)] (by decide +kernel) ?_
                  simp only [e_ic_1, e_goto, e_iret1, e_nil, nol_n, nol_I, nol_R, rsum_0, rsum_I, rsum_R, ps_s, ps_n, true_and, and_true, Nat.reduceAdd, Nat.reduceLeDiff, hg, hg6, hd2, hva, hxa, hvb, hxb, a4, a5, b5, f2, bi_0, e1, ko, x0, x1, x2, x3, x4, ia3, ib3, (show (3 < 5) = True by decide), Bool.not_eq_false]
                  refine ⟨by decide, ?_⟩
                  simp_all [fbd, bi]
            · refine go_blk [(.aload_n 0, 0, 0, 0), (.getfield 36, 1, 0, 0), (.getfield 69, 6, 3, 0), (.iload_n 1, 0, 0, 0), (.iaload, 0, 0, 0), (.aload_n 0, 0, 0, 0), (.getfield 15, 1, 2, 0), (.if_icmp .eq 26, 132, 0, 0)] (by decide +kernel) ?_
              simp only [e_al_0, e_gf_1_0, e_gf_6_3, e_il_1, e_ia, e_gf_1_2, e_icmp_eq, rd_1_0, rd_6_3, rd_1_2, ai_0_4, ai_1_7, ai_2_1, ai_2_2, ai_3_1, ai_4_1, ai_6_3, ai_6_4, ai_6_5, ai_6_6, ai_6_7, ai_6_8, ai_8_5, ai_8_6, ai_8_17, ai_8_21, ai_8_23, ai_8_24, ai_8_27, ai_8_28, ai_8_38, ai_8_39, ai_8_40, e_nil, nol_n, nol_I, nol_R, rsum_0, rsum_I, rsum_R, ps_s, ps_n, true_and, and_true, Nat.reduceAdd, Nat.reduceLeDiff, hg, hg6, hd2, hva, hxa, hvb, hxb, a4, a5, b5, f2, bi_0, e1, ko, x0, x1, x2, x3, x4, ia3, ib3, (show (3 < 5) = True by decide), Bool.not_eq_false]
              refine ⟨fun c106 => ?_, fun c106 => ?_⟩
              · refine go_blk [(.iconst 1, 0, 0, 0), (.goto 4, 137, 0, 0), (.ireturn, 1, 0, 0)] (by decide +kernel) ?_
                simp only [e_ic_1, e_goto, e_iret1, e_nil, nol_n, nol_I, nol_R, rsum_0, rsum_I, rsum_R, ps_s, ps_n, true_and, and_true, Nat.reduceAdd, Nat.reduceLeDiff, hg, hg6, hd2, hva, hxa, hvb, hxb, a4, a5, b5, f2, bi_0, e1, ko, x0, x1, x2, x3, x4, ia3, ib3, (show (3 < 5) = True by decide), Bool.not_eq_false]
                refine ⟨by decide, ?_⟩
                simp_all [fbd, bi]
              · refine go_blk [(.aload_n 0, 0, 0, 0), (.bipush 103, 0, 0, 0), (.invokevirtual 79, 20, 1, 1)] (by decide +kernel) ?_
                simp only [e_al_0, e_bp_103, e_iv_1_1, e_nil, nol_n, nol_I, nol_R, rsum_0, rsum_I, rsum_R, ps_s, ps_n, true_and, and_true, Nat.reduceAdd, Nat.reduceLeDiff, hg, hg6, hd2, hva, hxa, hvb, hxb, a4, a5, b5, f2, bi_0, e1, ko, x0, x1, x2, x3, x4, ia3, ib3, (show (3 < 5) = True by decide), Bool.not_eq_false]
                refine ok_bans (q := 103) hg (by omega) (by decide) f3 hbn (by omega) ?_
                refine go_blk [(.ifCond .eq 21, 136, 0, 0)] (by decide +kernel) ?_
                simp only [e_if_eq, e_nil, nol_n, nol_I, nol_R, rsum_0, rsum_I, rsum_R, ps_s, ps_n, true_and, and_true, Nat.reduceAdd, Nat.reduceLeDiff, hg, hg6, hd2, hva, hxa, hvb, hxb, a4, a5, b5, f2, bi_0, e1, ko, x0, x1, x2, x3, x4, ia3, ib3, (show (3 < 5) = True by decide), Bool.not_eq_false]
                refine ⟨fun c115 => ?_, fun c115 => ?_⟩
                · refine go_blk [(.iconst 0, 0, 0, 0), (.ireturn, 1, 0, 0)] (by decide +kernel) ?_
                  simp only [e_ic_0, e_iret1, e_nil, nol_n, nol_I, nol_R, rsum_0, rsum_I, rsum_R, ps_s, ps_n, true_and, and_true, Nat.reduceAdd, Nat.reduceLeDiff, hg, hg6, hd2, hva, hxa, hvb, hxb, a4, a5, b5, f2, bi_0, e1, ko, x0, x1, x2, x3, x4, ia3, ib3, (show (3 < 5) = True by decide), Bool.not_eq_false]
                  refine ⟨by decide, ?_⟩
                  simp_all [fbd, bi]
                · refine go_blk [(.aload_n 0, 0, 0, 0), (.getfield 36, 1, 0, 0), (.iload_n 1, 0, 0, 0), (.invokevirtual 83, 61, 1, 6)] (by decide +kernel) ?_
                  simp only [e_al_0, e_gf_1_0, e_il_1, e_iv_6_1, rd_1_0, e_nil, nol_n, nol_I, nol_R, rsum_0, rsum_I, rsum_R, ps_s, ps_n, true_and, and_true, Nat.reduceAdd, Nat.reduceLeDiff, hg, hg6, hd2, hva, hxa, hvb, hxb, a4, a5, b5, f2, bi_0, e1, ko, x0, x1, x2, x3, x4, ia3, ib3, (show (3 < 5) = True by decide), Bool.not_eq_false]
                  refine ok_kindOf hg6 hT hn ha ia3 (by omega) ?_
                  refine go_blk [(.getstatic 106, 9, 3, 0), (.if_acmp .ne 7, 136, 0, 0)] (by decide +kernel) ?_
                  simp only [e_st_3, e_acmp_ne, e_nil, nol_n, nol_I, nol_R, rsum_0, rsum_I, rsum_R, ps_s, ps_n, true_and, and_true, Nat.reduceAdd, Nat.reduceLeDiff, hg, hg6, hd2, hva, hxa, hvb, hxb, a4, a5, b5, f2, bi_0, e1, ko, x0, x1, x2, x3, x4, ia3, ib3, (show (3 < 5) = True by decide), Bool.not_eq_false]
                  refine ⟨fun c129 => ?_, fun c129 => ?_⟩
                  · refine go_blk [(.iconst 0, 0, 0, 0), (.ireturn, 1, 0, 0)] (by decide +kernel) ?_
                    simp only [e_ic_0, e_iret1, e_nil, nol_n, nol_I, nol_R, rsum_0, rsum_I, rsum_R, ps_s, ps_n, true_and, and_true, Nat.reduceAdd, Nat.reduceLeDiff, hg, hg6, hd2, hva, hxa, hvb, hxb, a4, a5, b5, f2, bi_0, e1, ko, x0, x1, x2, x3, x4, ia3, ib3, (show (3 < 5) = True by decide), Bool.not_eq_false]
                    refine ⟨by decide, ?_⟩
                    simp_all [fbd, bi]
                  · refine go_blk [(.iconst 1, 0, 0, 0), (.goto 4, 137, 0, 0), (.ireturn, 1, 0, 0)] (by decide +kernel) ?_
                    simp only [e_ic_1, e_goto, e_iret1, e_nil, nol_n, nol_I, nol_R, rsum_0, rsum_I, rsum_R, ps_s, ps_n, true_and, and_true, Nat.reduceAdd, Nat.reduceLeDiff, hg, hg6, hd2, hva, hxa, hvb, hxb, a4, a5, b5, f2, bi_0, e1, ko, x0, x1, x2, x3, x4, ia3, ib3, (show (3 < 5) = True by decide), Bool.not_eq_false]
                    refine ⟨by decide, ?_⟩
                    simp_all [fbd, bi]
          · refine go_blk [(.iload_n 3, 0, 0, 0), (.iload 4, 0, 0, 0), (.invokestatic 102, 26, 2, 0)] (by decide +kernel) ?_
            simp only [e_il_3, e_ilw_4, e_ivs_2, e_nil, Nat.reduceLT, nol_n, nol_I, nol_R, rsum_0, rsum_I, rsum_R, ps_s, ps_n, true_and, and_true, Nat.reduceAdd, Nat.reduceLeDiff, hg, hg6, hd2, hva, hxa, hvb, hxb, a4, a5, b5, f2, bi_0, e1, ko, x0, x1, x2, x3, x4, ia3, ib3, (show (3 < 5) = True by decide), Bool.not_eq_false]
            refine ok_distance ia5 ib5 (by omega) ?_
            refine go_blk [(.iconst 1, 0, 0, 0), (.if_icmp .eq 51, 132, 0, 0)] (by decide +kernel) ?_
            simp only [e_ic_1, e_icmp_eq, e_nil, nol_n, nol_I, nol_R, rsum_0, rsum_I, rsum_R, ps_s, ps_n, true_and, and_true, Nat.reduceAdd, Nat.reduceLeDiff, hg, hg6, hd2, hva, hxa, hvb, hxb, a4, a5, b5, f2, bi_0, e1, ko, x0, x1, x2, x3, x4, ia3, ib3, (show (3 < 5) = True by decide), Bool.not_eq_false]
            refine ⟨fun c81 => ?_, fun c81 => ?_⟩
            · refine go_blk [(.iconst 1, 0, 0, 0), (.goto 4, 137, 0, 0), (.ireturn, 1, 0, 0)] (by decide +kernel) ?_
              simp only [e_ic_1, e_goto, e_iret1, e_nil, nol_n, nol_I, nol_R, rsum_0, rsum_I, rsum_R, ps_s, ps_n, true_and, and_true, Nat.reduceAdd, Nat.reduceLeDiff, hg, hg6, hd2, hva, hxa, hvb, hxb, a4, a5, b5, f2, bi_0, e1, ko, x0, x1, x2, x3, x4, ia3, ib3, (show (3 < 5) = True by decide), Bool.not_eq_false]
              refine ⟨by decide, ?_⟩
              simp_all [fbd, bi]
            · refine go_blk [(.aload_n 0, 0, 0, 0), (.bipush 116, 0, 0, 0), (.invokevirtual 79, 20, 1, 1)] (by decide +kernel) ?_
              simp only [e_al_0, e_bp_116, e_iv_1_1, e_nil, nol_n, nol_I, nol_R, rsum_0, rsum_I, rsum_R, ps_s, ps_n, true_and, and_true, Nat.reduceAdd, Nat.reduceLeDiff, hg, hg6, hd2, hva, hxa, hvb, hxb, a4, a5, b5, f2, bi_0, e1, ko, x0, x1, x2, x3, x4, ia3, ib3, (show (3 < 5) = True by decide), Bool.not_eq_false]
              refine ok_bans (q := 116) hg (by omega) (by decide) f3 hbn (by omega) ?_
              refine go_blk [(.ifCond .eq 19, 109, 0, 0)] (by decide +kernel) ?_
              simp only [e_if_eq, e_nil, nol_n, nol_I, nol_R, rsum_0, rsum_I, rsum_R, ps_s, ps_n, true_and, and_true, Nat.reduceAdd, Nat.reduceLeDiff, hg, hg6, hd2, hva, hxa, hvb, hxb, a4, a5, b5, f2, bi_0, e1, ko, x0, x1, x2, x3, x4, ia3, ib3, (show (3 < 5) = True by decide), Bool.not_eq_false]
              refine ⟨fun c90 => ?_, fun c90 => ?_⟩
              · refine go_blk [(.aload_n 0, 0, 0, 0), (.bipush 103, 0, 0, 0), (.invokevirtual 79, 20, 1, 1)] (by decide +kernel) ?_
                simp only [e_al_0, e_bp_103, e_iv_1_1, e_nil, nol_n, nol_I, nol_R, rsum_0, rsum_I, rsum_R, ps_s, ps_n, true_and, and_true, Nat.reduceAdd, Nat.reduceLeDiff, hg, hg6, hd2, hva, hxa, hvb, hxb, a4, a5, b5, f2, bi_0, e1, ko, x0, x1, x2, x3, x4, ia3, ib3, (show (3 < 5) = True by decide), Bool.not_eq_false]
                refine ok_bans (q := 103) hg (by omega) (by decide) f3 hbn (by omega) ?_
                refine go_blk [(.ifCond .eq 21, 136, 0, 0)] (by decide +kernel) ?_
                simp only [e_if_eq, e_nil, nol_n, nol_I, nol_R, rsum_0, rsum_I, rsum_R, ps_s, ps_n, true_and, and_true, Nat.reduceAdd, Nat.reduceLeDiff, hg, hg6, hd2, hva, hxa, hvb, hxb, a4, a5, b5, f2, bi_0, e1, ko, x0, x1, x2, x3, x4, ia3, ib3, (show (3 < 5) = True by decide), Bool.not_eq_false]
                refine ⟨fun c115 => ?_, fun c115 => ?_⟩
                · refine go_blk [(.iconst 0, 0, 0, 0), (.ireturn, 1, 0, 0)] (by decide +kernel) ?_
                  simp only [e_ic_0, e_iret1, e_nil, nol_n, nol_I, nol_R, rsum_0, rsum_I, rsum_R, ps_s, ps_n, true_and, and_true, Nat.reduceAdd, Nat.reduceLeDiff, hg, hg6, hd2, hva, hxa, hvb, hxb, a4, a5, b5, f2, bi_0, e1, ko, x0, x1, x2, x3, x4, ia3, ib3, (show (3 < 5) = True by decide), Bool.not_eq_false]
                  refine ⟨by decide, ?_⟩
                  simp_all [fbd, bi]
                · refine go_blk [(.aload_n 0, 0, 0, 0), (.getfield 36, 1, 0, 0), (.iload_n 1, 0, 0, 0), (.invokevirtual 83, 61, 1, 6)] (by decide +kernel) ?_
                  simp only [e_al_0, e_gf_1_0, e_il_1, e_iv_6_1, rd_1_0, e_nil, nol_n, nol_I, nol_R, rsum_0, rsum_I, rsum_R, ps_s, ps_n, true_and, and_true, Nat.reduceAdd, Nat.reduceLeDiff, hg, hg6, hd2, hva, hxa, hvb, hxb, a4, a5, b5, f2, bi_0, e1, ko, x0, x1, x2, x3, x4, ia3, ib3, (show (3 < 5) = True by decide), Bool.not_eq_false]
                  refine ok_kindOf hg6 hT hn ha ia3 (by omega) ?_
                  refine go_blk [(.getstatic 106, 9, 3, 0), (.if_acmp .ne 7, 136, 0, 0)] (by decide +kernel) ?_
                  simp only [e_st_3, e_acmp_ne, e_nil, nol_n, nol_I, nol_R, rsum_0, rsum_I, rsum_R, ps_s, ps_n, true_and, and_true, Nat.reduceAdd, Nat.reduceLeDiff, hg, hg6, hd2, hva, hxa, hvb, hxb, a4, a5, b5, f2, bi_0, e1, ko, x0, x1, x2, x3, x4, ia3, ib3, (show (3 < 5) = True by decide), Bool.not_eq_false]
                  refine ⟨fun c129 => ?_, fun c129 => ?_⟩
                  · refine go_blk [(.iconst 0, 0, 0, 0), (.ireturn, 1, 0, 0)] (by decide +kernel) ?_
                    simp only [e_ic_0, e_iret1, e_nil, nol_n, nol_I, nol_R, rsum_0, rsum_I, rsum_R, ps_s, ps_n, true_and, and_true, Nat.reduceAdd, Nat.reduceLeDiff, hg, hg6, hd2, hva, hxa, hvb, hxb, a4, a5, b5, f2, bi_0, e1, ko, x0, x1, x2, x3, x4, ia3, ib3, (show (3 < 5) = True by decide), Bool.not_eq_false]
                    refine ⟨by decide, ?_⟩
                    simp_all [fbd, bi]
                  · refine go_blk [(.iconst 1, 0, 0, 0), (.goto 4, 137, 0, 0), (.ireturn, 1, 0, 0)] (by decide +kernel) ?_
                    simp only [e_ic_1, e_goto, e_iret1, e_nil, nol_n, nol_I, nol_R, rsum_0, rsum_I, rsum_R, ps_s, ps_n, true_and, and_true, Nat.reduceAdd, Nat.reduceLeDiff, hg, hg6, hd2, hva, hxa, hvb, hxb, a4, a5, b5, f2, bi_0, e1, ko, x0, x1, x2, x3, x4, ia3, ib3, (show (3 < 5) = True by decide), Bool.not_eq_false]
                    refine ⟨by decide, ?_⟩
                    simp_all [fbd, bi]
              · refine go_blk [(.aload_n 0, 0, 0, 0), (.getfield 36, 1, 0, 0), (.getfield 69, 6, 3, 0), (.iload_n 1, 0, 0, 0), (.iaload, 0, 0, 0), (.aload_n 0, 0, 0, 0), (.getfield 15, 1, 2, 0), (.if_icmp .eq 26, 132, 0, 0)] (by decide +kernel) ?_
                simp only [e_al_0, e_gf_1_0, e_gf_6_3, e_il_1, e_ia, e_gf_1_2, e_icmp_eq, rd_1_0, rd_6_3, rd_1_2, ai_0_4, ai_1_7, ai_2_1, ai_2_2, ai_3_1, ai_4_1, ai_6_3, ai_6_4, ai_6_5, ai_6_6, ai_6_7, ai_6_8, ai_8_5, ai_8_6, ai_8_17, ai_8_21, ai_8_23, ai_8_24, ai_8_27, ai_8_28, ai_8_38, ai_8_39, ai_8_40, e_nil, nol_n, nol_I, nol_R, rsum_0, rsum_I, rsum_R, ps_s, ps_n, true_and, and_true, Nat.reduceAdd, Nat.reduceLeDiff, hg, hg6, hd2, hva, hxa, hvb, hxb, a4, a5, b5, f2, bi_0, e1, ko, x0, x1, x2, x3, x4, ia3, ib3, (show (3 < 5) = True by decide), Bool.not_eq_false]
                refine ⟨fun c106 => ?_, fun c106 => ?_⟩
                · refine go_blk [(.iconst 1, 0, 0, 0), (.goto 4, 137, 0, 0), (.ireturn, 1, 0, 0)] (by decide +kernel) ?_
                  simp only [e_ic_1, e_goto, e_iret1, e_nil, nol_n, nol_I, nol_R, rsum_0, rsum_I, rsum_R, ps_s, ps_n, true_and, and_true, Nat.reduceAdd, Nat.reduceLeDiff, hg, hg6, hd2, hva, hxa, hvb, hxb, a4, a5, b5, f2, bi_0, e1, ko, x0, x1, x2, x3, x4, ia3, ib3, (show (3 < 5) = True by decide), Bool.not_eq_false]
                  refine ⟨by decide, ?_⟩
                  simp_all [fbd, bi]
                · refine go_blk [(.aload_n 0, 0, 0, 0), (.bipush 103, 0, 0, 0), (.invokevirtual 79, 20, 1, 1)] (by decide +kernel) ?_
                  simp only [e_al_0, e_bp_103, e_iv_1_1, e_nil, nol_n, nol_I, nol_R, rsum_0, rsum_I, rsum_R, ps_s, ps_n, true_and, and_true, Nat.reduceAdd, Nat.reduceLeDiff, hg, hg6, hd2, hva, hxa, hvb, hxb, a4, a5, b5, f2, bi_0, e1, ko, x0, x1, x2, x3, x4, ia3, ib3, (show (3 < 5) = True by decide), Bool.not_eq_false]
                  refine ok_bans (q := 103) hg (by omega) (by decide) f3 hbn (by omega) ?_
                  refine go_blk [(.ifCond .eq 21, 136, 0, 0)] (by decide +kernel) ?_
                  simp only [e_if_eq, e_nil, nol_n, nol_I, nol_R, rsum_0, rsum_I, rsum_R, ps_s, ps_n, true_and, and_true, Nat.reduceAdd, Nat.reduceLeDiff, hg, hg6, hd2, hva, hxa, hvb, hxb, a4, a5, b5, f2, bi_0, e1, ko, x0, x1, x2, x3, x4, ia3, ib3, (show (3 < 5) = True by decide), Bool.not_eq_false]
                  refine ⟨fun c115 => ?_, fun c115 => ?_⟩
                  · refine go_blk [(.iconst 0, 0, 0, 0), (.ireturn, 1, 0, 0)] (by decide +kernel) ?_
                    simp only [e_ic_0, e_iret1, e_nil, nol_n, nol_I, nol_R, rsum_0, rsum_I, rsum_R, ps_s, ps_n, true_and, and_true, Nat.reduceAdd, Nat.reduceLeDiff, hg, hg6, hd2, hva, hxa, hvb, hxb, a4, a5, b5, f2, bi_0, e1, ko, x0, x1, x2, x3, x4, ia3, ib3, (show (3 < 5) = True by decide), Bool.not_eq_false]
                    refine ⟨by decide, ?_⟩
                    simp_all [fbd, bi]
                  · refine go_blk [(.aload_n 0, 0, 0, 0), (.getfield 36, 1, 0, 0), (.iload_n 1, 0, 0, 0), (.invokevirtual 83, 61, 1, 6)] (by decide +kernel) ?_
                    simp only [e_al_0, e_gf_1_0, e_il_1, e_iv_6_1, rd_1_0, e_nil, nol_n, nol_I, nol_R, rsum_0, rsum_I, rsum_R, ps_s, ps_n, true_and, and_true, Nat.reduceAdd, Nat.reduceLeDiff, hg, hg6, hd2, hva, hxa, hvb, hxb, a4, a5, b5, f2, bi_0, e1, ko, x0, x1, x2, x3, x4, ia3, ib3, (show (3 < 5) = True by decide), Bool.not_eq_false]
                    refine ok_kindOf hg6 hT hn ha ia3 (by omega) ?_
                    refine go_blk [(.getstatic 106, 9, 3, 0), (.if_acmp .ne 7, 136, 0, 0)] (by decide +kernel) ?_
                    simp only [e_st_3, e_acmp_ne, e_nil, nol_n, nol_I, nol_R, rsum_0, rsum_I, rsum_R, ps_s, ps_n, true_and, and_true, Nat.reduceAdd, Nat.reduceLeDiff, hg, hg6, hd2, hva, hxa, hvb, hxb, a4, a5, b5, f2, bi_0, e1, ko, x0, x1, x2, x3, x4, ia3, ib3, (show (3 < 5) = True by decide), Bool.not_eq_false]
                    refine ⟨fun c129 => ?_, fun c129 => ?_⟩
                    · refine go_blk [(.iconst 0, 0, 0, 0), (.ireturn, 1, 0, 0)] (by decide +kernel) ?_
                      simp only [e_ic_0, e_iret1, e_nil, nol_n, nol_I, nol_R, rsum_0, rsum_I, rsum_R, ps_s, ps_n, true_and, and_true, Nat.reduceAdd, Nat.reduceLeDiff, hg, hg6, hd2, hva, hxa, hvb, hxb, a4, a5, b5, f2, bi_0, e1, ko, x0, x1, x2, x3, x4, ia3, ib3, (show (3 < 5) = True by decide), Bool.not_eq_false]
                      refine ⟨by decide, ?_⟩
                      simp_all [fbd, bi]
                    · refine go_blk [(.iconst 1, 0, 0, 0), (.goto 4, 137, 0, 0), (.ireturn, 1, 0, 0)] (by decide +kernel) ?_
                      simp only [e_ic_1, e_goto, e_iret1, e_nil, nol_n, nol_I, nol_R, rsum_0, rsum_I, rsum_R, ps_s, ps_n, true_and, and_true, Nat.reduceAdd, Nat.reduceLeDiff, hg, hg6, hd2, hva, hxa, hvb, hxb, a4, a5, b5, f2, bi_0, e1, ko, x0, x1, x2, x3, x4, ia3, ib3, (show (3 < 5) = True by decide), Bool.not_eq_false]
                      refine ⟨by decide, ?_⟩
                      simp_all [fbd, bi]
