theorem inv_up {N : Nat} {S : SS} (hV : Inv N S) : Inv (N + 1) S := by
  obtain ⟨⟨L, pg⟩, ⟨laid, op⟩, t, ⟨f, cs⟩, ⟨im, t2, f2, cs2⟩, q, w, b⟩ := S
  have hV0 := hV
  obtain ⟨⟨iL, iP⟩, ⟨iO, iO2⟩, ⟨iT, iF⟩, iK, ⟨iq, iw, ib⟩⟩ := hV
  exact ⟨⟨iL, iP⟩, ⟨iO, iO2⟩, ⟨iT, iF⟩, iK, ⟨by omega, iw, ib⟩⟩
theorem ix_le (x : Int32) {n : Nat} (hn : n < 2 ^ 31) (h : ¬ nI n < x) : ix x ≤ n := by
  by_cases h0 : x < 0
  · have : x.toInt < 0 := by rw [Int32.lt_iff_toInt_lt] at h0; exact h0
    unfold ix
    show x.toInt.toNat ≤ n
    omega
  · obtain ⟨j, hj, rfl⟩ := nI_of h0
    rw [nI_ix hj]
    rw [nI_ltI hn hj] at h
    omega
theorem inv_letter {N : Nat} {S : SS} {x : Int32} (hV : Inv N S) : Inv (N + 1) (aLetter x S).2 := by
  obtain ⟨⟨L, pg⟩, ⟨laid, op⟩, t, ⟨f, cs⟩, ⟨im, t2, f2, cs2⟩, q, w, b⟩ := S
  have hV0 := hV
  obtain ⟨⟨iL, iP⟩, ⟨iO, iO2⟩, ⟨iT, iF⟩, iK, ⟨iq, iw, ib⟩⟩ := hV
  show Inv (N + 1) (if _ then _ else if _ then _ else _ : Int32 × SS).2
  split
  · exact inv_up hV0
  · rename_i h1
    split
    · exact inv_up hV0
    · have h2 : ix x ≤ 126 := ix_le x (n := 126) (by omega) (fun z => h1 (Or.inr z))
      refine ⟨⟨by omega, fun j hj => ?_⟩, ⟨iO, iO2⟩, ⟨iT, iF⟩, iK, ⟨by omega, iw, ib⟩⟩
      show (if j = L then ix x else pg j) < 127
      split
      · omega
      · exact iP j (by omega)
theorem inv_blank {N : Nat} {S : SS} (hV : Inv N S) : Inv (N + 1) (aBlank S).2 := by
  obtain ⟨⟨L, pg⟩, ⟨laid, op⟩, t, ⟨f, cs⟩, ⟨im, t2, f2, cs2⟩, q, w, b⟩ := S
  have hV0 := hV
  obtain ⟨⟨iL, iP⟩, ⟨iO, iO2⟩, ⟨iT, iF⟩, iK, ⟨iq, iw, ib⟩⟩ := hV
  show Inv (N + 1) ((0, pg), (laid, op), t, (f, cs), (im, t2, f2, cs2), (q, w, b))
  exact ⟨⟨by omega, fun j hj => absurd hj (Nat.not_lt_zero j)⟩, ⟨iO, iO2⟩, ⟨iT, iF⟩, iK, ⟨by omega, iw, ib⟩⟩
theorem finv0 : FInv gf0 := by
  unfold FInv gf0
  refine ⟨⟨by decide, by decide⟩, ⟨by decide, by decide⟩⟩
theorem clr_inv {op p0 p1 : Nat} (h0 : p0 < 10) (h1 : p1 < 10) : TInv op (clr p0 p1) := by
  refine ⟨by simp [clr], fun j hj => absurd hj (by simp [clr]), fun j hj => ?_, fun a b ha _ _ => absurd ha (by simp [clr])⟩
  unfold clr
  rw [if_pos rfl]
  split <;> omega
theorem inv_carpet {N : Nat} {S : SS} (hV : Inv N S) : Inv (N + 1) (aCarpet S).2 := by
  obtain ⟨⟨L, pg⟩, ⟨laid, op⟩, t, ⟨f, cs⟩, ⟨im, t2, f2, cs2⟩, q, w, b⟩ := S
  have hV0 := hV
  obtain ⟨⟨iL, iP⟩, ⟨iO, iO2⟩, ⟨iT, iF⟩, iK, ⟨iq, iw, ib⟩⟩ := hV
  show Inv (N + 1) (if _ then _ else _ : Int32 × SS).2
  split
  · rename_i h
    have dg : ∀ j, 18 ≤ j → j < 20 → 48 ≤ pg j ∧ pg j ≤ 57 := fun j h1 h2 => by
      have z := fsF_ok _ L 0 j (by omega) (by rw [h.2, h.1]; exact h2)
      have z2 : cOK j (pg j) = true := z
      unfold cOK at z2
      rw [if_neg (by omega)] at z2
      simp only [Bool.and_eq_true, decide_eq_true_eq] at z2
      exact z2.2
    have d18 := dg 18 (by omega) (by omega)
    have d19 := dg 19 (by omega) (by omega)
    exact ⟨⟨by omega, fun j hj => absurd hj (Nat.not_lt_zero j)⟩, ⟨opF_lt pg 15 (by omega), fun z => by cases z⟩, ⟨clr_inv (by omega) (by omega), finv0⟩, fun z => (by cases z), ⟨by omega, iw, ib⟩⟩
  · exact inv_up hV0
theorem inv_treaty {N : Nat} {S : SS} (hV : Inv N S) : Inv (N + 1) (aTreaty S).2 := by
  obtain ⟨⟨L, pg⟩, ⟨laid, op⟩, t, ⟨f, cs⟩, ⟨im, t2, f2, cs2⟩, q, w, b⟩ := S
  have hV0 := hV
  obtain ⟨⟨iL, iP⟩, ⟨iO, iO2⟩, ⟨iT, iF⟩, iK, ⟨iq, iw, ib⟩⟩ := hV
  show Inv (N + 1) (if _ then _ else _ : Int32 × SS).2
  split
  · rename_i h
    have hx2 : ∀ j, j < L → 0 ≤ ixT (pg j) := fun j hj => by
      have z := fsF_ok _ L 0 j (by omega) (by rw [h.1.2]; exact hj)
      unfold tOK at z
      rw [Bool.and_eq_true, Bool.and_eq_true, decide_eq_true_eq, decide_eq_true_eq] at z
      exact z.1.2
    have bl := bnF_lt (pg := pg) L (fun j hj => ⟨by have := iP j hj; omega, hx2 j hj⟩)
    refine ⟨⟨by omega, fun j hj => absurd hj (Nat.not_lt_zero j)⟩, ⟨iO, iO2⟩, ⟨iT, ?_⟩, iK, ⟨by omega, iw, ib⟩⟩
    unfold FInv
    rw [fu_self, fu_ne (by omega), fu_ne (by omega), nI_ix (by omega)]
    exact ⟨⟨bl, rfl⟩, iF.2⟩
  · exact inv_up hV0
theorem enl_inv {op : Nat} {t : TS} {k s c : Nat} (hI : TInv op t) (hn : t 0 1 < 6) (hk : k < 5) (hs : s < 2) (hc : c < 15) (ho : op.testBit c = true) (hw : whoN t c = 99) : TInv op (enl t k s c) := by
  obtain ⟨e0, e3, e4, e5, e6, e7⟩ := enl_hi t k s c
  obtain ⟨h1, h2, h3, h4⟩ := hI
  have nw : ∀ i, i < t 0 1 → t 5 i ≠ c := by
    rcases whoN_sp h1 c with ⟨-, z⟩ | ⟨z, -⟩
    · exact z
    · omega
  refine ⟨by omega, fun j hj => ?_, fun j hj => by rw [enl_p t k s c j hj hn]; exact h3 j hj, fun a b ha hb e => ?_⟩
  · rw [e0] at hj
    by_cases z : j = t 0 1
    · subst z
      rw [e3, e4, e5, e6, e7]
      exact ⟨hk, hs, hc, by omega, by omega, ho, fun _ => ⟨rfl, rfl⟩, fun _ _ => (hf_le k).1⟩
    · have hj' : j < t 0 1 := by omega
      rw [enl_lo hj' 3 (by omega), enl_lo hj' 4 (by omega), enl_lo hj' 5 (by omega), enl_lo hj' 6 (by omega), enl_lo hj' 7 (by omega)]
      exact h2 j hj'
  · rw [e0] at ha hb
    by_cases za : a = t 0 1
    · by_cases zb : b = t 0 1
      · omega
      · rw [za, e5, enl_lo (by omega) 5 (by omega)] at e
        exact absurd e.symm (nw b (by omega))
    · by_cases zb : b = t 0 1
      · rw [zb, e5, enl_lo (by omega) 5 (by omega)] at e
        exact absurd e (nw a (by omega))
      · rw [enl_lo (by omega) 5 (by omega), enl_lo (by omega) 5 (by omega)] at e
        exact h4 a b (by omega) (by omega) e
theorem who_99 {op : Nat} {t : TS} {c : Nat} (hI : TInv op t) (h : who t c = -1) : whoN t c = 99 := by
  rw [who_eN hI.1] at h
  rcases whoN_sp hI.1 c with ⟨e, -⟩ | ⟨g, -⟩
  · exact e
  · have := hI.1
    unfold eN at h
    rw [if_neg (by omega)] at h
    exact absurd h (nI_nm1 (by omega))
theorem inv_soldier {N : Nat} {S : SS} {x y z : Int32} (hV : Inv N S) : Inv (N + 1) (aSoldier x y z S).2 := by
  obtain ⟨⟨L, pg⟩, ⟨laid, op⟩, t, ⟨f, cs⟩, ⟨im, t2, f2, cs2⟩, q, w, b⟩ := S
  have hV0 := hV
  obtain ⟨⟨iL, iP⟩, ⟨iO, iO2⟩, ⟨iT, iF⟩, iK, ⟨iq, iw, ib⟩⟩ := hV
  show Inv (N + 1) (if _ then _ else if _ then _ else if _ then _ else if _ then _ else _ : Int32 × SS).2
  split
  · exact inv_up hV0
  · rename_i h1
    split
    · exact inv_up hV0
    · rename_i h2
      split
      · exact inv_up hV0
      · rename_i h3
        split
        · exact inv_up hV0
        · rename_i h4
          have k1 := eq_true_of_ne_false h1
          rw [Bool.and_eq_true] at k1
          obtain ⟨kd, hkd, rfl⟩ := kd_of k1.1
          obtain ⟨sd, hsd, rfl⟩ := sd_of k1.2
          obtain ⟨hl, c, hc, rfl⟩ := cl_of (eq_true_of_ne_false h2)
          have k3 := eq_true_of_ne_false h3
          rw [Bool.and_eq_true, decide_eq_true_eq, nI_ix (by omega)] at k3
          obtain ⟨e0, -⟩ := enl_hi t kd sd c
          show Inv (N + 1) ((L, pg), (laid, op), enl t (ix (nI kd)) (ix (nI sd)) (ix (nI c)), (f, cs), (im, t2, f2, cs2), (q, w, b))
          rw [nI_ix (by omega), nI_ix (by omega), nI_ix (by omega)]
          refine ⟨⟨iL, iP⟩, ⟨iO, fun y => by rw [hl] at y; cases y⟩, ⟨enl_inv iT (by omega) hkd hsd hc k3.1 (who_99 iT k3.2), iF⟩, fun y => ?_, ⟨by omega, iw, ib⟩⟩
          obtain ⟨a1, a2, a3⟩ := iK y
          exact ⟨a1, by omega, fun j hj => by rw [enl_lo (by omega) 3 (by omega)]; exact a3 j hj⟩
theorem move_inv {op : Nat} {t : TS} {a c : Nat} (hI : TInv op t) (ha : a < t 0 1) (hc : c < 15) (ho : op.testBit c = true) (hw : whoN t c = 99) : TInv op (tu t 5 a c) := by
  obtain ⟨h1, h2, h3, h4⟩ := hI
  have nw : ∀ i, i < t 0 1 → t 5 i ≠ c := by
    rcases whoN_sp h1 c with ⟨-, z⟩ | ⟨z, -⟩
    · exact z
    · omega
  have n1 : tu t 5 a c 0 1 = t 0 1 := tu_ne (by omega)
  have e5 : ∀ j, tu t 5 a c 5 j = if j = a then c else t 5 j := fun j => by
    by_cases z : j = a
    · rw [z, tu_self, if_pos rfl]
    · rw [tu_ne (by omega), if_neg z]
  refine ⟨by rw [n1]; exact h1, fun j hj => ?_, fun j hj => by rw [tu_ne (by omega)]; exact h3 j hj, fun x y hx hy e => ?_⟩
  · rw [n1] at hj
    rw [tu_ne (s' := 3) (by omega), tu_ne (s' := 4) (by omega), tu_ne (s' := 6) (by omega), tu_ne (s' := 7) (by omega), e5]
    obtain ⟨b1, b2, b3, b4, b5, b6, b7⟩ := h2 j hj
    by_cases z : j = a
    · rw [if_pos z]; exact ⟨b1, b2, hc, b4, b5, ho, b7⟩
    · rw [if_neg z]; exact ⟨b1, b2, b3, b4, b5, b6, b7⟩
  · rw [n1] at hx hy
    rw [e5, e5] at e
    by_cases zx : x = a <;> by_cases zy : y = a
    · omega
    · rw [if_pos zx, if_neg zy] at e; exact absurd e.symm (nw y hy)
    · rw [if_neg zx, if_pos zy] at e; exact absurd e (nw x hx)
    · rw [if_neg zx, if_neg zy] at e; exact h4 x y hx hy e
theorem inv_move {N : Nat} {S : SS} {x y : Int32} (hV : Inv N S) : Inv (N + 1) (aMove x y S).2 := by
  obtain ⟨⟨L, pg⟩, ⟨laid, op⟩, t, ⟨f, cs⟩, ⟨im, t2, f2, cs2⟩, q, w, b⟩ := S
  have hV0 := hV
  obtain ⟨⟨iL, iP⟩, ⟨iO, iO2⟩, ⟨iT, iF⟩, iK, ⟨iq, iw, ib⟩⟩ := hV
  show Inv (N + 1) (if _ then _ else if _ then _ else _ : Int32 × SS).2
  split
  · exact inv_up hV0
  · rename_i h1
    split
    · exact inv_up hV0
    · rename_i h2
      have hn := iT.1
      have k1 := eq_true_of_ne_false h1
      rw [Bool.and_eq_true] at k1
      obtain ⟨a, ha, rfl⟩ := hasI_of hn k1.1
      obtain ⟨hl, c, hc, rfl⟩ := cl_of k1.2
      have k3 := eq_true_of_ne_false h2
      rw [Bool.and_eq_true, decide_eq_true_eq, nI_ix (by omega)] at k3
      show Inv (N + 1) ((L, pg), (laid, op), tu t 5 (ix (nI a)) (ix (nI c)), (f, cs), (im, t2, f2, cs2), (q, w, b))
      rw [nI_ix (by omega), nI_ix (by omega)]
      have n1 : tu t 5 a c 0 1 = t 0 1 := tu_ne (by omega)
      refine ⟨⟨iL, iP⟩, ⟨iO, fun y => by rw [hl] at y; cases y⟩, ⟨move_inv iT ha hc k3.1 (who_99 iT k3.2), iF⟩, fun y => ?_, ⟨by omega, iw, ib⟩⟩
      obtain ⟨a1, a2, a3⟩ := iK y
      exact ⟨a1, by rw [n1]; exact a2, fun j hj => by rw [tu_ne (by omega)]; exact a3 j hj⟩
theorem inv_shoot {N : Nat} {S : SS} {x y : Int32} {hit : Bool} (hV : Inv N S) : Inv (N + 1) (aShoot x y hit S).2 := by
  obtain ⟨⟨L, pg⟩, ⟨laid, op⟩, t, ⟨f, cs⟩, ⟨im, t2, f2, cs2⟩, q, w, b⟩ := S
  have hV0 := hV
  obtain ⟨⟨iL, iP⟩, ⟨iO, iO2⟩, ⟨iT, iF⟩, iK, ⟨iq, iw, ib⟩⟩ := hV
  show Inv (N + 1) (if _ then _ else if _ then _ else _ : Int32 × SS).2
  split
  · exact inv_up hV0
  · split
    · exact inv_up hV0
    · rename_i h2
      obtain ⟨ca, cb, -, cs3, -, -, -⟩ := chS_pos h2
      obtain ⟨iI, iN, i35⟩ := fire_inv (a := ix x) (hit := hit) iT cb cs3
      refine ⟨⟨iL, iP⟩, ⟨iO, fun y => ⟨(iO2 y).1, iN.trans (iO2 y).2⟩⟩, ⟨iI, ?_⟩, fun y => ?_, ⟨by omega, iw, ib⟩⟩
      · exact iF
      · obtain ⟨a1, a2, a3⟩ := iK y
        exact ⟨a1, by rw [iN]; exact a2, fun j hj => by rw [(i35 j).1]; exact a3 j hj⟩
theorem din_inv {op : Nat} {t : TS} (hI : TInv op t) : TInv op (dinT t) := by
  obtain ⟨h1, h2, h3, h4⟩ := hI
  have e : ∀ s j, ¬ s = 6 → ¬ s = 7 → dinT t s j = t s j := fun s j a b => by unfold dinT; rw [if_neg b, if_neg a]
  have e6 : ∀ j, dinT t 6 j = 0 := fun j => by simp [dinT]
  have e7 : ∀ j, dinT t 7 j = 1 := fun j => by simp [dinT]
  refine ⟨by rw [e 0 1 (by omega) (by omega)]; exact h1, fun j hj => ?_, fun j hj => by rw [e 8 j (by omega) (by omega)]; exact h3 j hj, fun a b ha hb q => ?_⟩
  · rw [e 0 1 (by omega) (by omega)] at hj
    rw [e 3 j (by omega) (by omega), e 4 j (by omega) (by omega), e 5 j (by omega) (by omega), e6, e7]
    obtain ⟨b1, b2, b3, b4, b5, b6, b7⟩ := h2 j hj
    exact ⟨b1, b2, b3, by omega, by omega, b6, fun _ => ⟨rfl, rfl⟩, fun _ _ => (hf_le _).1⟩
  · rw [e 0 1 (by omega) (by omega)] at ha hb
    rw [e 5 a (by omega) (by omega), e 5 b (by omega) (by omega)] at q
    exact h4 a b ha hb q
theorem inv_dinner {N : Nat} {S : SS} (hV : Inv N S) : Inv (N + 1) (aDinner S).2 := by
  obtain ⟨⟨L, pg⟩, ⟨laid, op⟩, t, ⟨f, cs⟩, ⟨im, t2, f2, cs2⟩, q, w, b⟩ := S
  have hV0 := hV
  obtain ⟨⟨iL, iP⟩, ⟨iO, iO2⟩, ⟨iT, iF⟩, iK, ⟨iq, iw, ib⟩⟩ := hV
  have e0 : dinT t 0 1 = t 0 1 := by simp [dinT]
  show Inv (N + 1) ((L, pg), (laid, op), dinT t, (f, cs), (im, t2, f2, cs2), (q, w, b))
  refine ⟨⟨iL, iP⟩, ⟨iO, fun y => ⟨(iO2 y).1, e0.trans (iO2 y).2⟩⟩, ⟨din_inv iT, iF⟩, fun y => ?_, ⟨by omega, iw, ib⟩⟩
  obtain ⟨a1, a2, a3⟩ := iK y
  exact ⟨a1, by rw [e0]; exact a2, fun j hj => by rw [show dinT t 3 j = t 3 j by simp [dinT]]; exact a3 j hj⟩
theorem inv_watch {N : Nat} {S : SS} {x : Int32} (hV : Inv N S) : Inv (N + 1) (aWatch x S).2 := by
  obtain ⟨⟨L, pg⟩, ⟨laid, op⟩, t, ⟨f, cs⟩, ⟨im, t2, f2, cs2⟩, q, w, b⟩ := S
  have hV0 := hV
  obtain ⟨⟨iL, iP⟩, ⟨iO, iO2⟩, ⟨iT, iF⟩, iK, ⟨iq, iw, ib⟩⟩ := hV
  show Inv (N + 1) (if _ then _ else if _ then _ else _ : Int32 × SS).2
  split
  · exact inv_up hV0
  · split
    · exact inv_up hV0
    · rename_i h
      exact ⟨⟨iL, iP⟩, ⟨iO, iO2⟩, ⟨iT, iF⟩, iK, ⟨by omega, by omega, ib⟩⟩
theorem inv_best {N : Nat} {S : SS} {x y z : Int32} (hV : Inv N S) : Inv (N + 1) (aBest x y z S).2 := by
  obtain ⟨⟨L, pg⟩, ⟨laid, op⟩, t, ⟨f, cs⟩, ⟨im, t2, f2, cs2⟩, q, w, b⟩ := S
  have hV0 := hV
  obtain ⟨⟨iL, iP⟩, ⟨iO, iO2⟩, ⟨iT, iF⟩, iK, ⟨iq, iw, ib⟩⟩ := hV
  show Inv (N + 1) (if _ then _ else if _ then _ else _ : Int32 × SS).2
  split
  · exact inv_up hV0
  · split
    · exact inv_up hV0
    · rename_i h
      exact ⟨⟨iL, iP⟩, ⟨iO, iO2⟩, ⟨iT, iF⟩, iK, ⟨by omega, iw, by omega⟩⟩
theorem inv_tally {N : Nat} {S : SS} {x : Int32} (hV : Inv N S) : Inv (N + 1) (aTally x S).2 := by
  obtain ⟨⟨L, pg⟩, ⟨laid, op⟩, t, ⟨f, cs⟩, ⟨im, t2, f2, cs2⟩, q, w, b⟩ := S
  have hV0 := hV
  obtain ⟨⟨iL, iP⟩, ⟨iO, iO2⟩, ⟨iT, iF⟩, iK, ⟨iq, iw, ib⟩⟩ := hV
  show Inv (N + 1) (if _ then _ else if _ then _ else _ : Int32 × SS).2
  split
  · exact inv_up hV0
  · split
    · exact inv_up hV0
    · rename_i h
      refine ⟨⟨iL, iP⟩, ⟨iO, iO2⟩, ⟨iT, ?_⟩, iK, ⟨by omega, iw, ib⟩⟩
      unfold FInv
      rw [fu_self, fu_ne (by omega), nI_ix (by omega)]
      exact ⟨iF.1, by omega, rfl⟩
theorem inv_forget {N : Nat} {S : SS} (hV : Inv N S) : Inv (N + 1) (aForget S).2 := by
  obtain ⟨⟨L, pg⟩, ⟨laid, op⟩, t, ⟨f, cs⟩, ⟨im, t2, f2, cs2⟩, q, w, b⟩ := S
  have hV0 := hV
  obtain ⟨⟨iL, iP⟩, ⟨iO, iO2⟩, ⟨iT, iF⟩, iK, ⟨iq, iw, ib⟩⟩ := hV
  show Inv (N + 1) ((L, pg), (laid, op), t, (fu f 5 0, cs), (im, t2, f2, cs2), (q, w, b))
  refine ⟨⟨iL, iP⟩, ⟨iO, iO2⟩, ⟨iT, ?_⟩, iK, ⟨by omega, iw, ib⟩⟩
  unfold FInv
  rw [fu_self, fu_ne (by omega)]
  exact ⟨iF.1, by decide, by decide⟩
theorem inv_image {N : Nat} {S : SS} (hV : Inv N S) : Inv (N + 1) (aImage S).2 := by
  obtain ⟨⟨L, pg⟩, ⟨laid, op⟩, t, ⟨f, cs⟩, ⟨im, t2, f2, cs2⟩, q, w, b⟩ := S
  have hV0 := hV
  obtain ⟨⟨iL, iP⟩, ⟨iO, iO2⟩, ⟨iT, iF⟩, iK, ⟨iq, iw, ib⟩⟩ := hV
  show Inv (N + 1) (if _ then _ else _ : Int32 × SS).2
  split
  · exact inv_up hV0
  · rename_i h
    exact ⟨⟨iL, iP⟩, ⟨iO, iO2⟩, ⟨iT, iF⟩, fun _ => ⟨⟨eq_true_of_ne_false h, iT, iF⟩, Nat.le_refl _, fun _ _ => rfl⟩, ⟨by omega, iw, ib⟩⟩
theorem inv_restore {N : Nat} {S : SS} (hV : Inv N S) : Inv (N + 1) (aRestore S).2 := by
  obtain ⟨⟨L, pg⟩, ⟨laid, op⟩, t, ⟨f, cs⟩, ⟨im, t2, f2, cs2⟩, q, w, b⟩ := S
  have hV0 := hV
  obtain ⟨⟨iL, iP⟩, ⟨iO, iO2⟩, ⟨iT, iF⟩, iK, ⟨iq, iw, ib⟩⟩ := hV
  show Inv (N + 1) (if _ then _ else _ : Int32 × SS).2
  split
  · exact inv_up hV0
  · rename_i h
    obtain ⟨⟨a1, a2, a3⟩, a4, a5⟩ := iK (eq_true_of_ne_false h)
    exact ⟨⟨iL, iP⟩, ⟨iO, fun y => by rw [a1] at y; cases y⟩, ⟨a2, a3⟩, fun _ => ⟨⟨a1, a2, a3⟩, Nat.le_refl _, fun _ _ => rfl⟩, ⟨by omega, iw, ib⟩⟩
