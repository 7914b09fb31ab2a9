theorem tb_nI (m : Nat) : (nI m).toBitVec = BitVec.ofNat 32 m := rfl
theorem nI_tb {x y : Int32} (h : x.toBitVec = y.toBitVec) : x = y := Int32.toBitVec_inj.mp h
theorem lit_nI (n : Nat) : (OfNat.ofNat n : Int32) = nI n := rfl
theorem nI_and (a b : Nat) : nI a &&& nI b = nI (a &&& b) := by
  apply nI_tb
  show BitVec.ofNat 32 a &&& BitVec.ofNat 32 b = BitVec.ofNat 32 (a &&& b)
  apply BitVec.eq_of_getLsbD_eq
  intro i hi
  simp only [BitVec.getLsbD_and, BitVec.getLsbD_ofNat, Nat.testBit_and]
  simp [hi]
theorem nI_or (a b : Nat) : nI a ||| nI b = nI (a ||| b) := by
  apply nI_tb
  show BitVec.ofNat 32 a ||| BitVec.ofNat 32 b = BitVec.ofNat 32 (a ||| b)
  apply BitVec.eq_of_getLsbD_eq
  intro i hi
  simp only [BitVec.getLsbD_or, BitVec.getLsbD_ofNat, Nat.testBit_or]
  simp [hi]
theorem nI_xor (a b : Nat) : nI a ^^^ nI b = nI (a ^^^ b) := by
  apply nI_tb
  show BitVec.ofNat 32 a ^^^ BitVec.ofNat 32 b = BitVec.ofNat 32 (a ^^^ b)
  apply BitVec.eq_of_getLsbD_eq
  intro i hi
  simp only [BitVec.getLsbD_xor, BitVec.getLsbD_ofNat, Nat.testBit_xor]
  simp [hi]
theorem sh_k : ∀ n, n < 32 → ((nI n &&& 31).toBitVec.smod 32).toNat = n := by decide +kernel
theorem nI_shl {c : Nat} (h : c < 31) : (1 : Int32) <<< (nI c &&& 31) = nI (2 ^ c) := by
  have h2 : 1 * 2 ^ c < 2 ^ 32 := by
    have : 2 ^ c < 2 ^ 32 := Nat.pow_lt_pow_right (by decide) (by omega)
    omega
  have := pk_shlN (n := 1) (nI c &&& 31) c (sh_k c (by omega)) h2
  rw [Nat.one_mul] at this
  exact this
theorem nI_shr {m c : Nat} (hm : m < 2 ^ 31) (h : c < 32) : nI m >>> (nI c &&& 31) = nI (m / 2 ^ c) := pk_shrN hm _ c (sh_k c h)
theorem nI_bit {m c : Nat} (hm : m < 2 ^ 31) (h : c < 32) : (nI m >>> (nI c &&& 31)) &&& 1 = nI (m / 2 ^ c % 2) := by
  rw [nI_shr hm h, lit_nI 1, nI_and, Nat.and_one_is_mod]
theorem tB (m c : Nat) : m.testBit c = decide (m / 2 ^ c % 2 = 1) := by
  rw [Nat.testBit_eq_decide_div_mod_eq]
theorem nI_bit1 {m c : Nat} (hm : m < 2 ^ 31) (h : c < 32) : ((nI m >>> (nI c &&& 31)) &&& 1 = 1) = (m.testBit c = true) := by
  rw [nI_bit hm h, lit_nI 1, tB, decide_eq_true_eq]
  exact propext (nI_eq (by omega) (by omega))
theorem nI_bitb {m c : Nat} (hm : m < 2 ^ 31) (h : c < 32) : (nI m >>> (nI c &&& 31)) &&& 1 = bi (m.testBit c) := by
  rw [nI_bit hm h, tB]
  rcases Nat.mod_two_eq_zero_or_one (m / 2 ^ c) with e | e <;> rw [e] <;> rfl
theorem bit_or (m c i : Nat) : (m ||| 2 ^ c).testBit i = (m.testBit i || decide (c = i)) := by
  rw [Nat.testBit_or, Nat.testBit_two_pow]
theorem or_lt {a b k : Nat} (ha : a < 2 ^ k) (hb : b < 2 ^ k) : a ||| b < 2 ^ k := Nat.or_lt_two_pow ha hb
theorem pw_lt {c k : Nat} (h : c < k) : 2 ^ c < 2 ^ k := Nat.pow_lt_pow_right (by decide) h
theorem nI_inj {a b : Nat} (ha : a < 2 ^ 31) (hb : b < 2 ^ 31) (h : nI a = nI b) : a = b := (nI_eq ha hb).mp h
theorem nI_nm1 {a : Nat} (h : a < 2 ^ 31) : ¬ nI a = -1 := fun e => by
  have := nI_toInt h
  rw [e] at this
  have h1 : ((-1 : Int32)).toInt = -1 := by decide
  omega
theorem nI_ix {j : Nat} (h : j < 2 ^ 31) : ix (nI j) = j := nI_clamp h
/-- cover: a cell of a set that isn't open -/
theorem nI_out {m o : Nat} (hm : m < 32768) : ((nI m &&& (nI o ^^^ (-1))) = 0) = (m &&& o = m) := by
  apply propext
  constructor
  · intro h
    apply Nat.eq_of_testBit_eq
    intro i
    have h2 := congrArg (fun x => x.toBitVec.getLsbD i) h
    by_cases hi : i < 32
    · have e : ((-1 : Int32)).toBitVec.getLsbD i = true := by
        have : ∀ i, i < 32 → ((-1 : Int32)).toBitVec.getLsbD i = true := by decide +kernel
        exact this i hi
      have h3 : ((nI m).toBitVec &&& ((nI o).toBitVec ^^^ (-1 : Int32).toBitVec)).getLsbD i = false := by
        rw [show (nI m).toBitVec &&& ((nI o).toBitVec ^^^ (-1 : Int32).toBitVec) = (nI m &&& (nI o ^^^ (-1))).toBitVec from rfl, h]
        simp
      rw [BitVec.getLsbD_and, BitVec.getLsbD_xor, e, tb_nI, tb_nI, BitVec.getLsbD_ofNat, BitVec.getLsbD_ofNat] at h3
      rw [Nat.testBit_and]
      simp only [hi, decide_true, Bool.true_and] at h3
      cases hmm : m.testBit i <;> cases hoo : o.testBit i <;> simp_all
    · rw [Nat.testBit_and, Nat.testBit_lt_two_pow (x := m) (i := i) (Nat.lt_of_lt_of_le hm (by
        have : 2 ^ 15 ≤ 2 ^ i := Nat.pow_le_pow_right (by decide) (by omega)
        simpa using this))]
      simp
  · intro h
    apply nI_tb
    apply BitVec.eq_of_getLsbD_eq
    intro i hi
    have e : ((-1 : Int32)).toBitVec.getLsbD i = true := by
      have : ∀ i, i < 32 → ((-1 : Int32)).toBitVec.getLsbD i = true := by decide +kernel
      exact this i hi
    show ((nI m).toBitVec &&& ((nI o).toBitVec ^^^ (-1 : Int32).toBitVec)).getLsbD i = _
    rw [BitVec.getLsbD_and, BitVec.getLsbD_xor, e, tb_nI, tb_nI, BitVec.getLsbD_ofNat, BitVec.getLsbD_ofNat]
    have h2 := congrArg (fun x => x.testBit i) h
    simp only [Nat.testBit_and] at h2
    have h4 : (0 : Int32).toBitVec.getLsbD i = false := by simp
    rw [h4]
    simp only [hi, decide_true, Bool.true_and]
    cases hmm : m.testBit i <;> cases hoo : o.testBit i <;> simp_all
theorem vin {j N : Nat} (h : j < N) (hN : N < 2 ^ 31) : vp_in (nI j) N := vp_in_nI h hN
def fsF (ok : Nat → Bool) : Nat → Nat → Nat
  | 0, j => j
  | k + 1, j => if ok j then fsF ok k (j + 1) else j
theorem fsF_le (ok : Nat → Bool) : ∀ k j, fsF ok k j ≤ j + k
  | 0, j => by simp [fsF]
  | k + 1, j => by
    unfold fsF
    split
    · have := fsF_le ok k (j + 1); omega
    · omega
theorem fsF_ge (ok : Nat → Bool) : ∀ k j, j ≤ fsF ok k j
  | 0, j => by simp [fsF]
  | k + 1, j => by
    unfold fsF
    split
    · have := fsF_ge ok k (j + 1); omega
    · omega
theorem fsF_ok (ok : Nat → Bool) : ∀ k j i, j ≤ i → i < fsF ok k j → ok i = true
  | 0, j, i, h1, h2 => by simp [fsF] at h2; omega
  | k + 1, j, i, h1, h2 => by
    unfold fsF at h2
    split at h2
    · rename_i h
      by_cases e : i = j
      · rw [e]; exact h
      · exact fsF_ok ok k (j + 1) i (by omega) h2
    · omega
theorem fsF_congr {f g : Nat → Bool} : ∀ k j, (∀ i, j ≤ i → i < j + k → f i = g i) → fsF f k j = fsF g k j
  | 0, j, _ => rfl
  | k + 1, j, h => by
    unfold fsF
    rw [h j (by omega) (by omega), fsF_congr k (j + 1) (fun i h1 h2 => h i (by omega) (by omega))]
