theorem smN_eq {f g : Nat → Nat} : ∀ k, (∀ j, j < k → f j = g j) → smN f k = smN g k
  | 0, _ => rfl
  | k + 1, h => by
    show smN f k + f k = smN g k + g k
    rw [smN_eq k (fun j hj => h j (by omega)), h k (by omega)]
theorem smN_add (f : Nat → Nat) (a : Nat) : ∀ b, smN f (a + b) = smN f a + smN (fun j => f (a + j)) b
  | 0 => rfl
  | b + 1 => by
    show smN f (a + b) + f (a + b) = smN f a + (smN (fun j => f (a + j)) b + f (a + b))
    rw [smN_add f a b]; omega
theorem smN_0 {f : Nat → Nat} : ∀ k, (∀ j, j < k → f j = 0) → smN f k = 0
  | 0, _ => rfl
  | k + 1, h => by
    show smN f k + f k = 0
    rw [smN_0 k (fun j hj => h j (by omega)), h k (by omega)]
theorem smN_le {f : Nat → Nat} {B : Nat} : ∀ k, (∀ j, j < k → f j ≤ B) → smN f k ≤ k * B
  | 0, _ => Nat.zero_le _
  | k + 1, h => by
    have := smN_le k (fun j hj => h j (by omega))
    have := h k (by omega)
    show smN f k + f k ≤ (k + 1) * B
    rw [Nat.add_mul, Nat.one_mul]; omega
theorem smN_pos {f : Nat → Nat} : ∀ k, smN f k = 0 → ∀ j, j < k → f j = 0
  | 0, _, j, hj => by omega
  | k + 1, h, j, hj => by
    have h' : smN f k + f k = 0 := h
    by_cases e : j = k
    · subst e; omega
    · exact smN_pos k (by omega) j (by omega)
def isS (t : TS) (j : Nat) : Bool := decide (t 3 j = 2)
abbrev nS (t : TS) (a : Nat) : Nat := spU t 0 a
theorem nS_s {t : TS} {a : Nat} (h : isS t a = true) : nS t (a + 1) = nS t a + 1 := by
  show spU t 0 a + (if t 3 a = 2 then 1 else 0) = _
  rw [if_pos (of_decide_eq_true h)]
theorem nS_n {t : TS} {a : Nat} (h : isS t a = false) : nS t (a + 1) = nS t a := by
  show spU t 0 a + (if t 3 a = 2 then 1 else 0) = _
  rw [if_neg (of_decide_eq_false h)]; rfl
theorem nS_mono {t : TS} {k : Nat} : ∀ j, nS t k ≤ nS t (k + j)
  | 0 => Nat.le_refl _
  | j + 1 => by
    have := nS_mono (t := t) (k := k) j
    cases h : isS t (k + j)
    · rw [show k + (j + 1) = k + j + 1 by omega, nS_n h]; exact this
    · rw [show k + (j + 1) = k + j + 1 by omega, nS_s h]; omega
theorem nS_lt {t : TS} {k a : Nat} (h : isS t k = true) (hk : k < a) : nS t k < nS t a := by
  have := nS_mono (t := t) (k := k + 1) (a - (k + 1))
  rw [nS_s h, show k + 1 + (a - (k + 1)) = a by omega] at this
  omega
/-- the set of the spies that are of side 0, by their order, out of the set of those that are of side 1 -/
def phF (t : TS) (st : Nat) : Nat → Nat
  | 0 => 0
  | a + 1 => phF t st a ||| (if isS t a = true ∧ st.testBit a = false then 2 ^ nS t a else 0)
theorem phF_lt (t : TS) (st : Nat) : ∀ a, phF t st a < 2 ^ nS t a
  | 0 => Nat.one_pos
  | a + 1 => by
    have ih := phF_lt t st a
    show phF t st a ||| _ < _
    cases h : isS t a
    · rw [nS_n h, if_neg (fun z => by cases z.1), Nat.or_zero]; exact ih
    · rw [nS_s h]
      refine or_lt (Nat.lt_of_lt_of_le ih (Nat.pow_le_pow_right (by decide) (by omega))) ?_
      split
      · exact Nat.pow_lt_pow_right (by decide) (by omega)
      · exact Nat.two_pow_pos _
theorem phF_eq {t : TS} {st st' : Nat} : ∀ a, (∀ j, j < a → st.testBit j = st'.testBit j) → phF t st a = phF t st' a
  | 0, _ => rfl
  | a + 1, h => by
    show phF t st a ||| (if _ ∧ st.testBit a = false then _ else _) = phF t st' a ||| (if _ ∧ st'.testBit a = false then _ else _)
    rw [phF_eq a (fun j hj => h j (by omega)), h a (by omega)]
theorem tb_hi {x s j : Nat} (h : x < 2 ^ s) (hj : s ≤ j) : x.testBit j = false := Nat.testBit_lt_two_pow (Nat.lt_of_lt_of_le h (Nat.pow_le_pow_right (by decide) hj))
theorem phF_xor {t : TS} {st k : Nat} (hk : isS t k = true) : ∀ a, k < a → phF t (st ^^^ 2 ^ k) a = phF t st a ^^^ 2 ^ nS t k
  | 0, h => by omega
  | a + 1, h => by
    show phF t (st ^^^ 2 ^ k) a ||| _ = (phF t st a ||| _) ^^^ _
    by_cases e : k = a
    · subst e
      have e1 : phF t (st ^^^ 2 ^ k) k = phF t st k := phF_eq k (fun j hj => by
        rw [Nat.testBit_xor, Nat.testBit_two_pow, decide_eq_false (by omega)]; simp)
      have hl := phF_lt t st k
      have e0 : (st ^^^ 2 ^ k).testBit k = !st.testBit k := by
        rw [Nat.testBit_xor, Nat.testBit_two_pow]; simp
      rw [e1, e0]
      apply Nat.eq_of_testBit_eq
      intro j
      rw [Nat.testBit_xor, Nat.testBit_or, Nat.testBit_or, Nat.testBit_two_pow]
      by_cases q : j = nS t k
      · subst q
        rw [tb_hi hl (Nat.le_refl _)]
        cases z : st.testBit k <;> simp [hk, Nat.testBit_two_pow]
      · have q2 : ¬ nS t k = j := fun z => q z.symm
        cases z : st.testBit k <;> simp [hk, Nat.testBit_two_pow, q2]
    · have ih := phF_xor (t := t) (st := st) hk a (by omega)
      have hlt := nS_lt hk (show k < a by omega)
      have e2 : (st ^^^ 2 ^ k).testBit a = st.testBit a := by
        rw [Nat.testBit_xor, Nat.testBit_two_pow, decide_eq_false (by omega)]; simp
      rw [ih, e2]
      apply Nat.eq_of_testBit_eq
      intro j
      rw [Nat.testBit_xor, Nat.testBit_or, Nat.testBit_or, Nat.testBit_xor, Nat.testBit_two_pow]
      by_cases q : j = nS t k
      · subst q
        have : (if isS t a = true ∧ st.testBit a = false then 2 ^ nS t a else 0).testBit (nS t k) = false := by
          split
          · rw [Nat.testBit_two_pow, decide_eq_false (by omega)]
          · exact Nat.zero_testBit _
        rw [this]
        simp
      · have q2 : ¬ nS t k = j := fun z => q z.symm
        simp [q2]
theorem phF_at {t : TS} {st k : Nat} (hk : isS t k = true) : ∀ a, k < a → (phF t st a).testBit (nS t k) = !st.testBit k
  | 0, h => by omega
  | a + 1, h => by
    show (phF t st a ||| _).testBit _ = _
    rw [Nat.testBit_or]
    by_cases e : k = a
    · subst e
      rw [tb_hi (phF_lt t st k) (Nat.le_refl _)]
      cases z : st.testBit k <;> simp [hk, Nat.testBit_two_pow]
    · rw [phF_at hk a (by omega)]
      have hlt := nS_lt hk (show k < a by omega)
      have : (if isS t a = true ∧ st.testBit a = false then 2 ^ nS t a else 0).testBit (nS t k) = false := by
        split
        · rw [Nat.testBit_two_pow, decide_eq_false (by omega)]
        · exact Nat.zero_testBit _
      rw [this, Bool.or_false]
def sbS (t : TS) (a st : Nat) : Bool := st &&& mskF (isS t) a == st
theorem sb_iff (t : TS) (a st : Nat) : sbS t a st = true ↔ ∀ j, st.testBit j = true → j < a ∧ isS t j = true := by
  unfold sbS
  rw [beq_iff_eq]
  constructor
  · intro h j hj
    rw [← h, Nat.testBit_and, mskF_bit, Bool.and_eq_true, Bool.and_eq_true, decide_eq_true_eq] at hj
    exact hj.2
  · intro h
    apply Nat.eq_of_testBit_eq
    intro j
    rw [Nat.testBit_and, mskF_bit]
    cases z : st.testBit j
    · rfl
    · obtain ⟨h1, h2⟩ := h j z
      rw [h2, decide_eq_true h1]; rfl
theorem sb_xor {t : TS} {a st k : Nat} (h : sbS t a st = true) (hk : isS t k = true) (ha : k < a) : sbS t a (st ^^^ 2 ^ k) = true := by
  rw [sb_iff] at *
  intro j hj
  rw [Nat.testBit_xor, Nat.testBit_two_pow] at hj
  by_cases e : k = j
  · subst e; exact ⟨ha, hk⟩
  · rw [decide_eq_false e, Bool.xor_false] at hj
    exact h j hj
theorem or_top {x a : Nat} (h : x < 2 ^ a) : 2 ^ a + x = 2 ^ a ||| x := by
  have := Nat.two_pow_add_eq_or_of_lt h 1
  rwa [Nat.mul_one] at this
theorem add_cg {a b c d : Nat} (h1 : a = b) (h2 : c = d) : a + c = b + d := by rw [h1, h2]
theorem sm_ph (t : TS) : ∀ a (f : Nat → Nat), smN (fun st => if sbS t a st then f (phF t st a) else 0) (2 ^ a) = smN f (2 ^ nS t a)
  | 0, f => by
    show 0 + (if sbS t 0 0 then f 0 else 0) = 0 + f 0
    rw [if_pos (by unfold sbS; rw [Nat.zero_and]; rfl)]
  | a + 1, f => by
    have e2 : (2 : Nat) ^ (a + 1) = 2 ^ a + 2 ^ a := by rw [Nat.pow_succ]; omega
    rw [e2, smN_add]
    have lo : ∀ st, st < 2 ^ a → sbS t (a + 1) st = sbS t a st ∧ st.testBit a = false := fun st hst => by
      refine ⟨?_, tb_hi hst (Nat.le_refl _)⟩
      apply Bool.eq_iff_iff.mpr
      rw [sb_iff, sb_iff]
      constructor
      · intro h j hj
        obtain ⟨h1, h2⟩ := h j hj
        by_cases e : j = a
        · subst e; rw [tb_hi hst (Nat.le_refl _)] at hj; cases hj
        · exact ⟨by omega, h2⟩
      · intro h j hj
        obtain ⟨h1, h2⟩ := h j hj
        exact ⟨by omega, h2⟩
    have hiB : ∀ st, st < 2 ^ a → (∀ j, j < a → (2 ^ a + st).testBit j = st.testBit j) ∧ (2 ^ a + st).testBit a = true ∧ (∀ j, a < j → (2 ^ a + st).testBit j = false) := fun st hst => by
      rw [or_top hst]
      refine ⟨fun j hj => ?_, ?_, fun j hj => ?_⟩
      · rw [Nat.testBit_or, Nat.testBit_two_pow, decide_eq_false (by omega), Bool.false_or]
      · rw [Nat.testBit_or, Nat.testBit_two_pow, decide_eq_true rfl, Bool.true_or]
      · rw [Nat.testBit_or, Nat.testBit_two_pow, decide_eq_false (by omega), Bool.false_or, tb_hi hst (by omega)]
    cases hs : isS t a
    · rw [nS_n hs, ← sm_ph t a f]
      have z1 : smN (fun j => if sbS t (a + 1) (2 ^ a + j) then f (phF t (2 ^ a + j) (a + 1)) else 0) (2 ^ a) = 0 := by
        refine smN_0 _ (fun st hst => ?_)
        rw [if_neg]
        intro z
        have := ((sb_iff _ _ _).mp z a (hiB st hst).2.1).2
        rw [hs] at this; cases this
      rw [z1, Nat.add_zero]
      refine smN_eq _ (fun st hst => ?_)
      rw [(lo st hst).1]
      have : phF t st (a + 1) = phF t st a := by
        show phF t st a ||| _ = _
        rw [if_neg (fun z => by rw [hs] at z; cases z.1), Nat.or_zero]
      rw [this]
    · have e3 : (2 : Nat) ^ nS t (a + 1) = 2 ^ nS t a + 2 ^ nS t a := by rw [nS_s hs, Nat.pow_succ]; omega
      rw [e3, smN_add, ← sm_ph t a f, ← sm_ph t a (fun s => f (2 ^ nS t a + s)), Nat.add_comm]
      refine add_cg ?_ ?_
      · refine smN_eq _ (fun st hst => ?_)
        obtain ⟨b1, b2, b3⟩ := hiB st hst
        have q1 : sbS t (a + 1) (2 ^ a + st) = sbS t a st := by
          apply Bool.eq_iff_iff.mpr
          rw [sb_iff, sb_iff]
          constructor
          · intro h j hj
            by_cases e : j < a
            · exact ⟨e, (h j (by rw [b1 j e]; exact hj)).2⟩
            · rw [tb_hi hst (by omega)] at hj; cases hj
          · intro h j hj
            by_cases e : j < a
            · exact ⟨by omega, (h j (by rw [← b1 j e]; exact hj)).2⟩
            · by_cases e2 : j = a
              · subst e2; exact ⟨by omega, hs⟩
              · rw [b3 j (by omega)] at hj; cases hj
        have q2 : phF t (2 ^ a + st) (a + 1) = phF t st a := by
          show phF t (2 ^ a + st) a ||| _ = _
          rw [if_neg (fun z => by rw [b2] at z; cases z.2), Nat.or_zero]
          exact phF_eq a b1
        rw [q1, q2]
      · refine smN_eq _ (fun st hst => ?_)
        rw [(lo st hst).1]
        have q2 : phF t st (a + 1) = 2 ^ nS t a + phF t st a := by
          rw [or_top (phF_lt t st a), Nat.or_comm]
          show phF t st a ||| _ = _
          rw [if_pos ⟨hs, (lo st hst).2⟩]
        rw [q2]
theorem nb_ph {t : TS} {st n : Nat} (B : Nat → Nat) : ∀ a, a ≤ n → smN (fun k => if isS t k then B (phF t (st ^^^ 2 ^ k) n) else 0) a = smN (fun i => B (phF t st n ^^^ 2 ^ i)) (nS t a)
  | 0, _ => rfl
  | a + 1, h => by
    have ih := nb_ph (t := t) (st := st) (n := n) B a (by omega)
    show smN _ a + (if isS t a then B (phF t (st ^^^ 2 ^ a) n) else 0) = _
    rw [ih]
    cases hs : isS t a
    · rw [nS_n hs]; rfl
    · rw [nS_s hs, if_pos rfl, phF_xor hs n (by omega)]; rfl
theorem pop_or {x k : Nat} (hx : x < 2 ^ k) (hk : k < 15) : pop (x ||| 2 ^ k) = pop x + 1 := by
  have e1 : x = mskF (fun i => x.testBit i) k := by
    apply Nat.eq_of_testBit_eq
    intro j
    rw [mskF_bit]
    by_cases q : j < k
    · simp [q]
    · rw [tb_hi hx (by omega)]; simp
  have e2 : x ||| 2 ^ k = mskF (fun i => x.testBit i || decide (i = k)) (k + 1) := by
    apply Nat.eq_of_testBit_eq
    intro j
    rw [mskF_bit, Nat.testBit_or, Nat.testBit_two_pow]
    by_cases q : j < k
    · have q2 : ¬ j = k := by omega
      have q3 : ¬ k = j := by omega
      have q4 : j < k + 1 := by omega
      simp [q2, q3, q4]
    · by_cases q2 : j = k
      · subst q2; simp
      · have q3 : ¬ k = j := by omega
        have q4 : ¬ j < k + 1 := by omega
        rw [tb_hi hx (by omega)]
        simp [q3, q4]
  rw [e2, pop_msk _ (by omega), cntB_add _ 1 k 0]
  have e3 : pop x = cntB (fun i => x.testBit i) k 0 := by
    rw [← pop_msk _ (by omega : k ≤ 15), ← e1]
  rw [e3]
  have e4 : cntB (fun i => x.testBit i || decide (i = k)) 1 (0 + k) = 1 := by
    show (if (x.testBit (0 + k) || decide (0 + k = k)) then 1 else 0) + 0 = 1
    simp
  have e5 : cntB (fun i => x.testBit i || decide (i = k)) k 0 = cntB (fun i => x.testBit i) k 0 := cntB_eq _ _ (fun i _ h => by
    have : ¬ i = k := by omega
    simp [this])
  rw [e4, e5]
def cbF (t : TS) (st j : Nat) : Bool := stn t j && !((t 4 j == 1 && !isS t j) || st.testBit j)
theorem cb_ph {op : Nat} {t : TS} {st : Nat} (hI : TInv op t) (hs : ∀ j, st.testBit j = true → isS t j = true) : ∀ a, a ≤ t 0 1 → cntB (cbF t st) a 0 = otU t a + pop (phF t st a)
  | 0, _ => by
    show 0 = 0 + pop 0
    decide
  | a + 1, h => by
    have hn := hI.1
    have ra := hI.2.1 a (by omega)
    rw [cntB_add _ 1 a 0, cb_ph hI hs a (by omega)]
    have eo : otU t (a + 1) = otU t a + (if ¬ t 3 a = 2 ∧ t 7 a = 1 ∧ t 4 a = 0 then 1 else 0) := rfl
    have ec : cntB (cbF t st) 1 (0 + a) = if cbF t st a then 1 else 0 := by
      show (if cbF t st (0 + a) then 1 else 0) + 0 = _
      rw [Nat.zero_add, Nat.add_zero]
    rw [eo, ec]
    have hl : nS t a ≤ a := spU_le t 0 a
    cases q : isS t a
    · have e1 : phF t st (a + 1) = phF t st a := by
        show phF t st a ||| _ = _
        rw [if_neg (fun z => by rw [q] at z; cases z.1), Nat.or_zero]
      have e2 : ¬ t 3 a = 2 := of_decide_eq_false q
      have e3 : st.testBit a = false := by
        cases z : st.testBit a
        · rfl
        · have := hs a z; rw [q] at this; cases this
      rw [e1]
      have e4 : (if cbF t st a = true then 1 else 0) = if ¬ t 3 a = 2 ∧ t 7 a = 1 ∧ t 4 a = 0 then 1 else 0 := by
        unfold cbF stn
        rw [q, e3]
        rcases (show t 4 a = 0 ∨ t 4 a = 1 by omega) with z | z <;> rcases (show t 7 a = 0 ∨ t 7 a = 1 by omega) with y | y <;> simp [z, y, e2]
      rw [e4]; omega
    · have e2 : t 3 a = 2 := of_decide_eq_true q
      have e7 := (ra.2.2.2.2.2.2.1 e2).1
      have e5 : (if ¬ t 3 a = 2 ∧ t 7 a = 1 ∧ t 4 a = 0 then 1 else 0) = 0 := if_neg (fun z => z.1 e2)
      rw [e5, Nat.add_zero]
      cases z : st.testBit a
      · have e1 : phF t st (a + 1) = phF t st a ||| 2 ^ nS t a := by
          show phF t st a ||| _ = _
          rw [if_pos ⟨q, z⟩]
        have e4 : cbF t st a = true := by unfold cbF stn; rw [q, z, e7]; simp
        rw [e1, pop_or (phF_lt t st a) (by omega), e4, if_pos rfl]
        omega
      · have e1 : phF t st (a + 1) = phF t st a := by
          show phF t st a ||| _ = _
          rw [if_neg (fun y => by rw [z] at y; cases y.2), Nat.or_zero]
        have e4 : cbF t st a = false := by unfold cbF; rw [z]; simp
        rw [e1, e4]
        simp
