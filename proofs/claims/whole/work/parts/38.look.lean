def gcF : Nat → Nat → Nat → Nat
  | 0, a, _ => a
  | r + 1, a, b => if b = 0 then a else gcF r b (a % b)
theorem gc_ok : ∀ k a b r, b < 2 ^ k → 2 * k + 1 ≤ r → gcF r a b = Nat.gcd a b
  | 0, a, b, r, h, hr => by
    have b0 : b = 0 := by omega
    subst b0
    obtain ⟨r, rfl⟩ : ∃ q, r = q + 1 := ⟨r - 1, by omega⟩
    rw [Nat.gcd_zero_right]
    exact if_pos rfl
  | k + 1, a, b, r, h, hr => by
    obtain ⟨r, rfl⟩ : ∃ q, r = q + 2 := ⟨r - 2, by omega⟩
    have e1 : Nat.gcd a b = Nat.gcd b (a % b) := by rw [Nat.gcd_comm a b, Nat.gcd_rec b a, Nat.gcd_comm]
    show (if b = 0 then a else gcF (r + 1) b (a % b)) = _
    by_cases b0 : b = 0
    · rw [if_pos b0, b0, Nat.gcd_zero_right]
    · rw [if_neg b0, e1]
      have e2 : Nat.gcd b (a % b) = Nat.gcd (a % b) (b % (a % b)) := by rw [Nat.gcd_comm b, Nat.gcd_rec (a % b) b, Nat.gcd_comm]
      show (if a % b = 0 then b else gcF r (a % b) (b % (a % b))) = _
      by_cases c0 : a % b = 0
      · rw [if_pos c0, c0, Nat.gcd_zero_right]
      · rw [if_neg c0, e2]
        apply gc_ok k _ _ r ?_ (by omega)
        have m1 : a % b < b := Nat.mod_lt _ (by omega)
        have m2 : b % (a % b) < a % b := Nat.mod_lt _ (by omega)
        have m3 := Nat.mod_add_div b (a % b)
        have m4 : 1 ≤ b / (a % b) := Nat.div_pos (by omega) (by omega)
        have m5 : (a % b) * 1 ≤ (a % b) * (b / (a % b)) := Nat.mul_le_mul_left _ m4
        rw [Nat.pow_succ] at h
        omega
def Rg (B : Nat) (x : Int32) : Prop := -(B : Int) ≤ x.toInt ∧ x.toInt ≤ B
theorem rg_mul {c B : Nat} {x : Int32} (hc : c ≤ 10) (hB : B ≤ 1000000) (h : Rg B x) : (nI c * x).toInt = (c : Int) * x.toInt := by
  obtain ⟨h1, h2⟩ := h
  rw [Int32.toInt_mul, nI_toInt (by omega)]
  generalize x.toInt = z at *
  have hz : -(10 * (B : Int)) ≤ (c : Int) * z ∧ (c : Int) * z ≤ 10 * B := by
    rcases (show c = 0 ∨ c = 1 ∨ c = 2 ∨ c = 3 ∨ c = 4 ∨ c = 5 ∨ c = 6 ∨ c = 7 ∨ c = 8 ∨ c = 9 ∨ c = 10 by omega) with rfl | rfl | rfl | rfl | rfl | rfl | rfl | rfl | rfl | rfl | rfl <;> omega
  generalize (c : Int) * z = y at *
  exact Int.bmod_eq_of_le (by omega) (by omega)
theorem rg_tr {ch B : Nat} {hv ms : Int32} (hc : ch ≤ 10) (hB : B ≤ 1000000) (h1 : Rg B hv) (h2 : Rg B ms) : Rg (10 * B) (trI ch hv ms) := by
  unfold trI
  have e : (10 : Int32) - nI ch = nI (10 - ch) := pk_sub (a := 10) hc
  rw [e]
  have a1 := rg_mul hc hB h1
  have a2 := rg_mul (c := 10 - ch) (by omega) hB h2
  obtain ⟨p1, p2⟩ := h1
  obtain ⟨q1, q2⟩ := h2
  have hz : -(10 * (B : Int)) ≤ (ch : Int) * hv.toInt + ((10 - ch : Nat) : Int) * ms.toInt ∧ (ch : Int) * hv.toInt + ((10 - ch : Nat) : Int) * ms.toInt ≤ 10 * B := by
    generalize hv.toInt = z at *
    generalize ms.toInt = y at *
    rcases (show ch = 0 ∨ ch = 1 ∨ ch = 2 ∨ ch = 3 ∨ ch = 4 ∨ ch = 5 ∨ ch = 6 ∨ ch = 7 ∨ ch = 8 ∨ ch = 9 ∨ ch = 10 by omega) with rfl | rfl | rfl | rfl | rfl | rfl | rfl | rfl | rfl | rfl | rfl <;> simp only [Nat.sub_zero, Nat.reduceSub] <;> omega
  unfold Rg
  rw [Int32.toInt_add, a1, a2]
  generalize (ch : Int) * hv.toInt + ((10 - ch : Nat) : Int) * ms.toInt = y at *
  have : y.bmod (2 ^ 32) = y := Int.bmod_eq_of_le (by omega) (by omega)
  rw [this]
  omega
theorem mnF_inv {f : Nat → Int32 × Int32 → Int32 × Int32} {Q : Int32 × Int32 → Prop} (hf : ∀ p x, Q x → Q (f p x)) : ∀ r p x, Q x → Q (mnF f r p x)
  | 0, _, _, h => h
  | r + 1, p, x, h => mnF_inv hf r (p + 1) _ (hf p x h)
theorem stp_inv {Q : Int32 → Prop} {mx : Bool} {ch pr : Nat} {hv ms : Int32} {x : Int32 × Int32} (h0 : Q x.1) (h1 : ¬ ch = 0 → Q (trI ch hv ms)) : Q (stp mx ch hv ms pr x).1 := by
  unfold stp
  by_cases c : ch = 0
  · rw [if_pos c]; exact h0
  · rw [if_neg c]
    by_cases c2 : (if mx then trI ch hv ms ≤ x.1 else x.1 ≤ trI ch hv ms)
    · rw [if_pos c2]; exact h0
    · rw [if_neg c2]; exact h1 c
theorem mch_pos {op : Nat} {t : TS} {sd a b : Nat} (h : ¬ mch op t sd a b = 0) : chS op t a b ≠ 0 ∧ t 4 a = sd ∧ mch op t sd a b = chS op t a b := by
  unfold mch at h ⊢
  split at h
  · rename_i q
    exact ⟨h, q.2, if_pos q⟩
  · exact absurd rfl h
theorem std_le {op : Nat} {t : TS} (hI : TInv op t) (sd : Nat) : std t sd ≤ 6 := Nat.le_trans (cntB_le _ _ _) hI.1
theorem mn_rg {op fs : Nat} : ∀ k t sd, k ≤ 3 → TInv op t → Rg (6 * 10 ^ k) (mnP op fs k t sd).1
  | 0, t, sd, _, hI => by
    have h1 := std_le hI fs
    have h2 := std_le hI (1 - fs)
    show Rg 6 (nI (std t fs) - nI (std t (1 - fs)))
    unfold Rg
    rw [pk_sub_toInt (by omega) (by omega)]
    omega
  | k + 1, t, sd, hk, hI => by
    have hB : 6 * 10 ^ k ≤ 1000000 := by
      rcases (show k = 0 ∨ k = 1 ∨ k = 2 by omega) with rfl | rfl | rfl <;> decide
    have e10 : 6 * 10 ^ (k + 1) = 10 * (6 * 10 ^ k) := by rw [Nat.pow_succ]; omega
    have r1 := mn_rg (op := op) (fs := fs) k t (1 - sd) (by omega) hI
    have r2 := mn_rg (op := op) (fs := fs) k (peaS t sd) (1 - sd) (by omega) (peaS_inv hI)
    have r0 : Rg (6 * 10 ^ k) 0 := ⟨by show -_ ≤ (0 : Int); omega, by show (0 : Int) ≤ _; omega⟩
    unfold mnP
    refine mnF_inv (Q := fun x => Rg (6 * 10 ^ (k + 1)) x.1) (fun p x hx => ?_) 36 0 _ ?_
    · refine stp_inv (Q := Rg (6 * 10 ^ (k + 1))) hx (fun hm => ?_)
      obtain ⟨hc, -, he⟩ := mch_pos hm
      obtain ⟨-, cb, -, cs, -, -, -⟩ := chS_pos hc
      obtain ⟨iI, -, -⟩ := fire_inv (a := p / 6) (hit := true) hI cb cs
      have r3 := mn_rg (op := op) (fs := fs) k _ (1 - sd) (by omega) iI
      rw [e10]
      refine rg_tr (by rw [he]; exact chS_le _ _ _ _) hB r3 ?_
      split
      · exact r0
      · exact r2
    · show Rg (6 * 10 ^ (k + 1)) (10 * (mnP op fs k t (1 - sd)).1)
      rw [e10]
      have a1 := rg_mul (c := 10) (by omega) hB r1
      have e : (10 : Int32) = nI 10 := rfl
      unfold Rg at r1 ⊢
      rw [e, a1]
      generalize (mnP op fs k t (1 - sd)).1.toInt = z at *
      generalize 6 * 10 ^ k = B at *
      omega
theorem abs_nI {x : Int32} {B : Nat} (hB : B < 2 ^ 31) (h : Rg B x) : abI x = nI x.toInt.natAbs ∧ x.toInt.natAbs ≤ B := by
  obtain ⟨h1, h2⟩ := h
  have hl : x.toInt.natAbs ≤ B := by omega
  refine ⟨?_, hl⟩
  unfold abI
  apply Int32.toInt_inj.mp
  rw [nI_toInt (by omega)]
  split
  · rename_i q
    rw [Int32.le_iff_toInt_le, show (0 : Int32).toInt = 0 from rfl] at q
    omega
  · rename_i q
    rw [Int32.le_iff_toInt_le, show (0 : Int32).toInt = 0 from rfl] at q
    rw [Int32.toInt_sub, show (0 : Int32).toInt = 0 from rfl]
    generalize x.toInt = z at *
    have : (0 - z).bmod (2 ^ 32) = 0 - z := Int.bmod_eq_of_le (by omega) (by omega)
    rw [this]
    omega
def gdV (V : Int32) (k : Nat) : Nat := Nat.gcd V.toInt.natAbs (10 ^ k)
theorem lp_cd {l : Launch} {K : KK} {d : Nat} {μ : Mm} {P : Option AV → Mm → Prop} {x0 x1 : Int32} : ∀ (r s a b : Nat) (y5 : Option AV), s + r = 64 → a < 2 ^ 31 → b < 2 ^ 31 → P (some (vI (nI (gcF r a b)))) μ → Go l K d 53 7 [some (vI x0), some (vI x1), some (vI (nI a)), some (vI (nI b)), some (vI (nI s)), y5] [] μ P := by
  intro r
  induction r with
  | zero =>
    intro s a b y5 hs ha hb h
    refine go_blk [(.iload 4, 0, 0, 0), (.bipush 64, 0, 0, 0), (.if_icmp .ge 23, 34, 0, 0)] (by decide +kernel) ?_
    simp only [e_ilw_4, e_bp_64, e_icmp_ge, e_nil, nol_n, nol_I, nol_R, rsum_0, rsum_I, rsum_R, ps_s, ps_n, true_and, and_true, Nat.reduceAdd, Nat.reduceLeDiff]
    refine ⟨fun c11 => ?_, fun c11 => ?_⟩
    · refine go_blk [(.iload_n 2, 0, 0, 0), (.ireturn, 0, 0, 0)] (by decide +kernel) ?_
      simp only [e_il_2, e_iret0, e_nil, nol_n, nol_I, nol_R, rsum_0, rsum_I, rsum_R, ps_s, ps_n, true_and, and_true, Nat.reduceAdd, Nat.reduceLeDiff]
      exact h
    · exact absurd (nI_le (a := 64) (by omega) (by omega)) c11
  | succ r ih =>
    intro s a b y5 hs ha hb h
    have u : gcF (r + 1) a b = if b = 0 then a else gcF r b (a % b) := rfl
    rw [u] at h
    have e15 : (nI b = 0) = (b = 0) := propext (nI_eq (b := 0) hb (by omega))
    have er : 0 < b → nI a - nI a / nI b * nI b = nI (a % b) := fun z => pk_rem ha z hb
    refine go_blk [(.iload 4, 0, 0, 0), (.bipush 64, 0, 0, 0), (.if_icmp .ge 23, 34, 0, 0)] (by decide +kernel) ?_
    simp only [e_ilw_4, e_bp_64, e_icmp_ge, e_nil, nol_n, nol_I, nol_R, rsum_0, rsum_I, rsum_R, ps_s, ps_n, true_and, and_true, Nat.reduceAdd, Nat.reduceLeDiff, e15, true_implies, false_implies, not_true_eq_false, not_false_eq_true]
    refine ⟨fun c11 => ?_, fun c11 => ?_⟩
    · exact absurd c11 (nI_ge (b := 64) (by omega) (by omega))
    · refine go_blk [(.iload_n 3, 0, 0, 0), (.ifCond .eq 19, 34, 0, 0)] (by decide +kernel) ?_
      simp only [e_il_3, e_if_eq, e_nil, nol_n, nol_I, nol_R, rsum_0, rsum_I, rsum_R, ps_s, ps_n, true_and, and_true, Nat.reduceAdd, Nat.reduceLeDiff, e15, true_implies, false_implies, not_true_eq_false, not_false_eq_true]
      refine ⟨fun c15 => ?_, fun c15 => ?_⟩
      · rw [if_pos c15] at h
        refine go_blk [(.iload_n 2, 0, 0, 0), (.ireturn, 0, 0, 0)] (by decide +kernel) ?_
        simp only [e_il_2, e_iret0, e_nil, nol_n, nol_I, nol_R, rsum_0, rsum_I, rsum_R, ps_s, ps_n, true_and, and_true, Nat.reduceAdd, Nat.reduceLeDiff, e15, true_implies, false_implies, not_true_eq_false, not_false_eq_true]
        exact h
      · rw [if_neg c15] at h
        have er2 := er (by omega)
        have hm : a % b < b := Nat.mod_lt _ (by omega)
        refine go_blk [(.iload_n 2, 0, 0, 0), (.iload_n 3, 0, 0, 0), (.irem, 0, 0, 0), (.istore 5, 0, 0, 0), (.iload_n 3, 0, 0, 0), (.istore_n 2, 0, 0, 0), (.iload 5, 0, 0, 0), (.istore_n 3, 0, 0, 0), (.iinc 4 1, 0, 0, 0), (.goto (-24), 7, 0, 0)] (by decide +kernel) ?_
        simp only [e_il_2, e_il_3, e_irem, e_isw_5n, e_isw_5I, e_isw_5R, e_is_2n, e_is_2I, e_is_2R, e_ilw_5, e_is_3n, e_is_3I, e_is_3R, e_inc_4_1n, e_inc_4_1I, e_inc_4_1R, e_goto, e_nil, nol_n, nol_I, nol_R, rsum_0, rsum_I, rsum_R, ps_s, ps_n, true_and, and_true, Nat.reduceAdd, Nat.reduceLeDiff, e15, true_implies, false_implies, not_true_eq_false, not_false_eq_true, c15, er2]
        rw [nI_1]
        exact ih (s + 1) b (a % b) _ (by omega) hb (by omega) h
theorem ok_cd {l : Launch} {K : KK} {d : Nat} {μ : Mm} {P : Option AV → Mm → Prop} {a b : Nat} (ha : a < 2 ^ 31) (hb : b < 2 ^ 31) (h : P (some (vI (nI (gcF 64 a b)))) μ) : Ok l K d 53 [vI (nI a), vI (nI b)] μ P := by
  refine ok_go 6 (by decide +kernel) [some (vI (nI a)), some (vI (nI b)), none, none, none, none] rfl (Nat.le_of_ble_eq_true rfl) ?_
  refine go_blk [(.iload_n 0, 0, 0, 0), (.istore_n 2, 0, 0, 0), (.iload_n 1, 0, 0, 0), (.istore_n 3, 0, 0, 0), (.iconst 0, 0, 0, 0), (.istore 4, 0, 0, 0)] (by decide +kernel) ?_
  simp only [e_il_0, e_is_2n, e_is_2I, e_is_2R, e_il_1, e_is_3n, e_is_3I, e_is_3R, e_ic_0, e_isw_4n, e_isw_4I, e_isw_4R, e_nil, nol_n, nol_I, nol_R, rsum_0, rsum_I, rsum_R, ps_s, ps_n, true_and, and_true, Nat.reduceAdd, Nat.reduceLeDiff]
  exact lp_cd 64 0 a b none (by omega) ha hb h
theorem lp_look {l : Launch} {K : KK} {d : Nat} {P : Option AV → Mm → Prop} {μ1 : Mm} {i sd k : Nat} {V : Int32} (hk : k ≤ 3) (hV : Rg (6 * 10 ^ k) V) (hd1 : 1 ≤ d) (h2 : μ1 4 0 0 2 = V) (h : ∀ μ2, (∀ c i s j, ¬ (c = 4 ∧ i = 0 ∧ s = 0 ∧ (j = 2 ∨ j = 3)) → μ2 c i s j = μ1 c i s j) → μ2 4 0 0 2 = V / nI (gdV V k) → μ2 4 0 0 3 = nI (10 ^ k / gdV V k) → P none μ2) : ∀ (r e : Nat) (μ : Mm), e + r = k → (∀ c i s j, ¬ (c = 4 ∧ i = 0 ∧ s = 0 ∧ j = 3) → μ c i s j = μ1 c i s j) → μ 4 0 0 3 = nI (10 ^ e) → Go l K d 49 24 [some (vR 4 0 0), some (vR 6 i 0), some (vI (nI sd)), some (vI (nI k)), some (vI (nI e))] [] μ P := by
  have hk10 : 1 ≤ 10 ^ k ∧ 6 * 10 ^ k ≤ 6000 := by
    rcases (show k = 0 ∨ k = 1 ∨ k = 2 ∨ k = 3 by omega) with rfl | rfl | rfl | rfl <;> decide
  intro r
  induction r with
  | zero =>
    intro e μ he hO h3
    have ek : e = k := by omega
    subst ek
    obtain ⟨ab, al⟩ := abs_nI (by omega) hV
    have g2 : μ 4 0 0 2 = V := (hO 4 0 0 2 (by omega)).trans h2
    have eg : gcF 64 V.toInt.natAbs (10 ^ e) = gdV V e := gc_ok 10 _ _ 64 (by omega) (by omega)
    have gp : 0 < gdV V e := Nat.gcd_pos_of_pos_right _ (by omega)
    have gl : gdV V e ≤ 10 ^ e := Nat.gcd_le_right _ (by omega)
    have q65 : (nI (gdV V e) ≤ 0) = False := eq_false (nI_nle gp (by omega))
    have qz : (nI (gdV V e) = 0) = False := eq_false (nI_ne0 gp (by omega))
    have qd : nI (10 ^ e) / nI (gdV V e) = nI (10 ^ e / gdV V e) := pk_div (by omega) gp (by omega)
    have g3 : ∀ v, up μ 4 0 0 2 v 4 0 0 3 = nI (10 ^ e) := fun v => (up_ne (by omega)).trans h3
    refine go_blk [(.iload 4, 0, 0, 0), (.iload_n 3, 0, 0, 0), (.if_icmp .ge 20, 47, 0, 0)] (by decide +kernel) ?_
    simp only [e_ilw_4, e_il_3, e_icmp_ge, e_nil, nol_n, nol_I, nol_R, rsum_0, rsum_I, rsum_R, ps_s, ps_n, true_and, and_true, Nat.reduceAdd, Nat.reduceLeDiff, g2, h3, ab, hd1, q65, qz, qd, g3, true_implies, false_implies, not_true_eq_false, not_false_eq_true]
    refine ⟨fun c27 => ?_, fun c27 => ?_⟩
    · refine go_blk [(.aload_n 0, 0, 0, 0), (.getfield 21, 4, 2, 0), (.invokestatic 37, 1000, 0, 0), (.aload_n 0, 0, 0, 0), (.getfield 24, 4, 3, 0), (.invokestatic 43, 53, 2, 0)] (by decide +kernel) ?_
      simp only [e_al_0, e_gf_4_2, e_mt_0, e_gf_4_3, e_ivs_2, rd_4_2, rd_4_3, e_nil, Nat.reduceLT, nol_n, nol_I, nol_R, rsum_0, rsum_I, rsum_R, ps_s, ps_n, true_and, and_true, Nat.reduceAdd, Nat.reduceLeDiff, g2, h3, ab, hd1, q65, qz, qd, g3, true_implies, false_implies, not_true_eq_false, not_false_eq_true]
      refine ok_cd (by omega) (by omega) ?_
      rw [eg]
      refine go_blk [(.istore 4, 0, 0, 0), (.iload 4, 0, 0, 0), (.ifCond .le 25, 90, 0, 0)] (by decide +kernel) ?_
      simp only [e_isw_4n, e_isw_4I, e_isw_4R, e_ilw_4, e_if_le, e_nil, nol_n, nol_I, nol_R, rsum_0, rsum_I, rsum_R, ps_s, ps_n, true_and, and_true, Nat.reduceAdd, Nat.reduceLeDiff, g2, h3, ab, hd1, q65, qz, qd, g3, true_implies, false_implies, not_true_eq_false, not_false_eq_true]
      refine go_blk [(.aload_n 0, 0, 0, 0), (.dup, 0, 0, 0), (.getfield 21, 4, 2, 0), (.iload 4, 0, 0, 0), (.idiv, 0, 0, 0), (.putfield 21, 4, 2, 0)] (by decide +kernel) ?_
      simp only [e_al_0, e_dupI, e_dupR, e_gf_4_2, e_ilw_4, e_idiv, e_pf_4_2, rd_4_2, e_nil, nol_n, nol_I, nol_R, rsum_0, rsum_I, rsum_R, ps_s, ps_n, true_and, and_true, Nat.reduceAdd, Nat.reduceLeDiff, g2, h3, ab, hd1, q65, qz, qd, g3, true_implies, false_implies, not_true_eq_false, not_false_eq_true]
      refine go_blk [(.aload_n 0, 0, 0, 0), (.dup, 0, 0, 0), (.getfield 24, 4, 3, 0), (.iload 4, 0, 0, 0), (.idiv, 0, 0, 0), (.putfield 24, 4, 3, 0)] (by decide +kernel) ?_
      simp only [e_al_0, e_dupI, e_dupR, e_gf_4_3, e_ilw_4, e_idiv, e_pf_4_3, rd_4_3, e_nil, nol_n, nol_I, nol_R, rsum_0, rsum_I, rsum_R, ps_s, ps_n, true_and, and_true, Nat.reduceAdd, Nat.reduceLeDiff, g2, h3, ab, hd1, q65, qz, qd, g3, true_implies, false_implies, not_true_eq_false, not_false_eq_true]
      refine go_blk [(.return_, 0, 0, 0)] (by decide +kernel) ?_
      simp only [e_vret, e_nil, nol_n, nol_I, nol_R, rsum_0, rsum_I, rsum_R, ps_s, ps_n, true_and, and_true, Nat.reduceAdd, Nat.reduceLeDiff, g2, h3, ab, hd1, q65, qz, qd, g3, true_implies, false_implies, not_true_eq_false, not_false_eq_true]
      refine h _ (fun c i s j hc => ?_) ?_ ?_
      · rw [up_ne (by omega), up_ne (by omega)]
        exact hO c i s j (by omega)
      · rw [up_ne (by omega), up_self]
      · rw [up_self]
    · exact absurd (nI_le (by omega) (by omega)) c27
  | succ r ih =>
    intro e μ he hO h3
    have em : nI (10 ^ e) * 10 = nI (10 ^ (e + 1)) := by rw [Nat.pow_succ]; exact pk_mul (10 ^ e) 10
    refine go_blk [(.iload 4, 0, 0, 0), (.iload_n 3, 0, 0, 0), (.if_icmp .ge 20, 47, 0, 0)] (by decide +kernel) ?_
    simp only [e_ilw_4, e_il_3, e_icmp_ge, e_nil, nol_n, nol_I, nol_R, rsum_0, rsum_I, rsum_R, ps_s, ps_n, true_and, and_true, Nat.reduceAdd, Nat.reduceLeDiff, h3, em]
    refine ⟨fun c27 => ?_, fun c27 => ?_⟩
    · exact absurd c27 (nI_ge (by omega) (by omega))
    · refine go_blk [(.aload_n 0, 0, 0, 0), (.dup, 0, 0, 0), (.getfield 24, 4, 3, 0), (.bipush 10, 0, 0, 0), (.imul, 0, 0, 0), (.putfield 24, 4, 3, 0)] (by decide +kernel) ?_
      simp only [e_al_0, e_dupI, e_dupR, e_gf_4_3, e_bp_10, e_imul, e_pf_4_3, rd_4_3, e_nil, nol_n, nol_I, nol_R, rsum_0, rsum_I, rsum_R, ps_s, ps_n, true_and, and_true, Nat.reduceAdd, Nat.reduceLeDiff, h3, em]
      refine go_blk [(.iinc 4 1, 0, 0, 0), (.goto (-20), 24, 0, 0)] (by decide +kernel) ?_
      simp only [e_inc_4_1n, e_inc_4_1I, e_inc_4_1R, e_goto, e_nil, nol_n, nol_I, nol_R, rsum_0, rsum_I, rsum_R, ps_s, ps_n, true_and, and_true, Nat.reduceAdd, Nat.reduceLeDiff, h3, em]
      rw [nI_1]
      refine ih (e + 1) _ (by omega) (fun c i s j hc => ?_) (up_self _ _ _ _ _ _)
      rw [up_ne hc]
      exact hO c i s j hc
theorem ok_look {l : Launch} {K : KK} {d : Nat} {μ : Mm} {P : Option AV → Mm → Prop} {op i sd k : Nat} {t : TS} (hi : i < 2) (hk : k ≤ 3) (hk1 : 1 ≤ k) (hs : sd < 2) (hT : TRep μ i t) (hI : TInv op t) (hC : CRep μ true op) (hd1 : 12 ≤ d) (h : ∀ μ2, (∀ c i, ¬ c = 4 → ¬ (c = 6 ∧ 2 ≤ i ∧ i < 5) → μ2 c i = μ c i) → μ2 4 0 0 2 = (mnP op sd k t sd).1 / nI (gdV (mnP op sd k t sd).1 k) → μ2 4 0 0 3 = nI (10 ^ k / gdV (mnP op sd k t sd).1 k) → μ2 4 0 0 4 = (mnP op sd k t sd).2 → P none μ2) : Ok l K d 49 [vR 4 0 0, vR 6 i 0, vI (nI sd), vI (nI k)] μ P := by
  refine ok_go 5 (by decide +kernel) [some (vR 4 0 0), some (vR 6 i 0), some (vI (nI sd)), some (vI (nI k)), none] rfl (Nat.le_of_ble_eq_true rfl) ?_
  have hd2 : 1 ≤ d := by omega
  have oU : ∀ c i', ¬ c = 4 → up μ 4 0 0 1 (nI sd) c i' = μ c i' := fun c i' hc => by funext s j; exact up_ne (by omega)
  refine go_blk [(.aload_n 0, 0, 0, 0), (.iload_n 2, 0, 0, 0), (.putfield 17, 4, 1, 0)] (by decide +kernel) ?_
  simp only [e_al_0, e_il_2, e_pf_4_1, e_nil, nol_n, nol_I, nol_R, rsum_0, rsum_I, rsum_R, ps_s, ps_n, true_and, and_true, Nat.reduceAdd, Nat.reduceLeDiff, hd2]
  refine go_blk [(.aload_n 0, 0, 0, 0), (.aload_n 0, 0, 0, 0), (.aload_n 1, 0, 0, 0), (.iload_n 2, 0, 0, 0), (.iload_n 3, 0, 0, 0), (.invokevirtual 33, 50, 3, 4)] (by decide +kernel) ?_
  simp only [e_al_0, e_al_1, e_il_2, e_il_3, e_iv_4_3, e_nil, nol_n, nol_I, nol_R, rsum_0, rsum_I, rsum_R, ps_s, ps_n, true_and, and_true, Nat.reduceAdd, Nat.reduceLeDiff, hd2]
  refine mean_ok hs k hk _ _ t i sd _ (by omega) (by omega) (Or.inl hi) (hT.off (oU 6 i (by omega))) hI (hC.off (oU 0 0 (by omega))) (up_self _ _ _ _ _ _) hs (fun μ1 oO1 c1 => ?_)
  refine go_blk [(.putfield 21, 4, 2, 0)] (by decide +kernel) ?_
  simp only [e_pf_4_2, e_nil, nol_n, nol_I, nol_R, rsum_0, rsum_I, rsum_R, ps_s, ps_n, true_and, and_true, Nat.reduceAdd, Nat.reduceLeDiff, hd2]
  refine go_blk [(.aload_n 0, 0, 0, 0), (.iconst 1, 0, 0, 0), (.putfield 24, 4, 3, 0)] (by decide +kernel) ?_
  simp only [e_al_0, e_ic_1, e_pf_4_3, e_nil, nol_n, nol_I, nol_R, rsum_0, rsum_I, rsum_R, ps_s, ps_n, true_and, and_true, Nat.reduceAdd, Nat.reduceLeDiff, hd2]
  refine go_blk [(.iconst 0, 0, 0, 0), (.istore 4, 0, 0, 0)] (by decide +kernel) ?_
  simp only [e_ic_0, e_isw_4n, e_isw_4I, e_isw_4R, e_nil, nol_n, nol_I, nol_R, rsum_0, rsum_I, rsum_R, ps_s, ps_n, true_and, and_true, Nat.reduceAdd, Nat.reduceLeDiff, hd2]
  refine lp_look (V := (mnP op sd k t sd).1) hk (mn_rg k t sd hk hI) hd2 ?_ ?_ k 0 _ (by omega) (fun c i' s j hc => rfl) (up_self _ _ _ _ _ _)
  · rw [up_ne (by omega), up_self]
  · intro μ2 hO b2 b3
    refine h μ2 (fun c i' hc h6 => ?_) b2 b3 ?_
    · rw [← oU c i' hc, ← oO1.1 c i' hc (by omega)]
      funext s j
      rw [hO c i' s j (by omega), up_ne (by omega), up_ne (by omega)]
    · rw [hO 4 0 0 4 (by omega), up_ne (by omega), up_ne (by omega)]
      exact c1 hk1
