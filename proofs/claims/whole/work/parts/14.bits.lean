/-- how many bits -/
def popF : Nat → Nat → Nat
  | 0, _ => 0
  | k + 1, m => m % 2 + popF k (m / 2)
def pop (m : Nat) : Nat := popF 15 m
def bcE (x : Int32) : Int32 :=
  let u := fun (x s : Int32) => (x.toUInt32 >>> (s.toUInt32 &&& Int32.toUInt32 31)).toInt32
  let a := x - (u x 1 &&& 1431655765)
  let b := (a &&& 858993459) + (u a 2 &&& 858993459)
  let c := (b + u b 4) &&& 252645135
  let d := c + u c 8
  let e := d + u d 16
  e &&& 63
def allB (f : Nat → Bool) : Nat → Nat → Bool
  | 0, _ => true
  | k + 1, j => f j && allB f k (j + 1)
theorem allB_e {f : Nat → Bool} : ∀ (k j : Nat), allB f k j = true → ∀ i, j ≤ i → i < j + k → f i = true
  | 0, j, _, i, h1, h2 => by omega
  | k + 1, j, h, i, h1, h2 => by
    have h' := (Bool.and_eq_true _ _ ▸ h : _ ∧ _)
    by_cases e : i = j
    · rw [e]; exact h'.1
    · exact allB_e k (j + 1) h'.2 i (by omega) (by omega)
theorem bc_0 : allB (fun m => decide (bcE (nI m) = nI (pop m)) && decide (pop m ≤ 15)) 4096 0 = true := by decide +kernel
theorem bc_1 : allB (fun m => decide (bcE (nI m) = nI (pop m)) && decide (pop m ≤ 15)) 4096 4096 = true := by decide +kernel
theorem bc_2 : allB (fun m => decide (bcE (nI m) = nI (pop m)) && decide (pop m ≤ 15)) 4096 8192 = true := by decide +kernel
theorem bc_3 : allB (fun m => decide (bcE (nI m) = nI (pop m)) && decide (pop m ≤ 15)) 4096 12288 = true := by decide +kernel
theorem bc_4 : allB (fun m => decide (bcE (nI m) = nI (pop m)) && decide (pop m ≤ 15)) 4096 16384 = true := by decide +kernel
theorem bc_5 : allB (fun m => decide (bcE (nI m) = nI (pop m)) && decide (pop m ≤ 15)) 4096 20480 = true := by decide +kernel
theorem bc_6 : allB (fun m => decide (bcE (nI m) = nI (pop m)) && decide (pop m ≤ 15)) 4096 24576 = true := by decide +kernel
theorem bc_7 : allB (fun m => decide (bcE (nI m) = nI (pop m)) && decide (pop m ≤ 15)) 4096 28672 = true := by decide +kernel
theorem bc_ok {m : Nat} (h : m < 32768) : bcE (nI m) = nI (pop m) ∧ pop m ≤ 15 := by
  have key : (decide (bcE (nI m) = nI (pop m)) && decide (pop m ≤ 15)) = true := by
    rcases Nat.lt_or_ge m 4096 with h0 | h0
    · exact allB_e _ _ bc_0 m (by omega) (by omega)
    rcases Nat.lt_or_ge m 8192 with h1 | h1
    · exact allB_e _ _ bc_1 m (by omega) (by omega)
    rcases Nat.lt_or_ge m 12288 with h2 | h2
    · exact allB_e _ _ bc_2 m (by omega) (by omega)
    rcases Nat.lt_or_ge m 16384 with h3 | h3
    · exact allB_e _ _ bc_3 m (by omega) (by omega)
    rcases Nat.lt_or_ge m 20480 with h4 | h4
    · exact allB_e _ _ bc_4 m (by omega) (by omega)
    rcases Nat.lt_or_ge m 24576 with h5 | h5
    · exact allB_e _ _ bc_5 m (by omega) (by omega)
    rcases Nat.lt_or_ge m 28672 with h6 | h6
    · exact allB_e _ _ bc_6 m (by omega) (by omega)
    rcases Nat.lt_or_ge m 32768 with h7 | h7
    · exact allB_e _ _ bc_7 m (by omega) (by omega)
    · omega
  simpa using key
