theorem and2 {x y a b : Nat} (ha : a < 2) (hb : b < 2) : (2 * x + a) &&& (2 * y + b) = 2 * (x &&& y) + a * b := by
  have h1 : ((2 * x + a) &&& (2 * y + b)) / 2 = x &&& y := by
    rw [Nat.and_div_two, show (2 * x + a) / 2 = x by omega, show (2 * y + b) / 2 = y by omega]
  have h2 : ((2 * x + a) &&& (2 * y + b)) % 2 ^ 1 = a * b := by
    rw [Nat.and_mod_two_pow, show (2 * x + a) % 2 ^ 1 = a by omega, show (2 * y + b) % 2 ^ 1 = b by omega]
    rcases (show a = 0 ∨ a = 1 by omega) with rfl | rfl <;> rcases (show b = 0 ∨ b = 1 by omega) with rfl | rfl <;> rfl
  generalize (2 * x + a) &&& (2 * y + b) = z at *
  generalize a * b = w at *
  omega
theorem sub2 {x y a b : Nat} (ha : a < 2) (hb : b < 2) (h : (2 * x + a) &&& (2 * y + b) = 2 * x + a) : x &&& y = x ∧ (a = 0 ∨ b = 1) := by
  rw [and2 ha hb] at h
  rcases (show a = 0 ∨ a = 1 by omega) with rfl | rfl <;> rcases (show b = 0 ∨ b = 1 by omega) with rfl | rfl <;> simp only [Nat.zero_mul, Nat.mul_zero, Nat.mul_one] at h <;> omega
theorem sub_le {x y : Nat} (h : x &&& y = x) : x ≤ y := by
  rw [← h]
  exact Nat.and_le_right
theorem half (x : Nat) : ∃ q a, a < 2 ∧ x = 2 * q + a := ⟨x / 2, x % 2, by omega, by omega⟩
theorem cpl : ∀ n c op, op < 2 ^ n → c &&& op = c → (c + 2 ^ n - op - 1) &&& op = c
  | 0, c, op, h, hc => by
    have o0 : op = 0 := by omega
    subst o0
    rw [Nat.and_zero] at hc ⊢
    exact hc
  | n + 1, c, op, h, hc => by
    obtain ⟨q, a, ha, rfl⟩ := half c
    obtain ⟨y, b, hb, rfl⟩ := half op
    obtain ⟨s1, s2⟩ := sub2 ha hb hc
    have hy : y < 2 ^ n := by rw [Nat.pow_succ] at h; omega
    have ih := cpl n q y hy s1
    have hl := sub_le s1
    have e : 2 * q + a + 2 ^ (n + 1) - (2 * y + b) - 1 = 2 * (q + 2 ^ n - y - 1) + (1 + a - b) := by
      rw [Nat.pow_succ]
      omega
    rw [e, and2 (by omega) hb, ih]
    rcases (show a = 0 ∨ a = 1 by omega) with rfl | rfl <;> rcases (show b = 0 ∨ b = 1 by omega) with rfl | rfl <;> simp at s2 ⊢
/-- the next set of open cells -/
theorem nxt : ∀ n c op, op < 2 ^ n → c &&& op = c → c ≠ op → c < ((c + 2 ^ n - op) &&& op) ∧ ∀ k, k &&& op = k → c < k → ((c + 2 ^ n - op) &&& op) ≤ k
  | 0, c, op, h, hc, hne => by
    have o0 : op = 0 := by omega
    subst o0
    rw [Nat.and_zero] at hc
    exact absurd hc.symm hne
  | n + 1, c, op, h, hc, hne => by
    obtain ⟨q, a, ha, rfl⟩ := half c
    obtain ⟨y, b, hb, rfl⟩ := half op
    obtain ⟨s1, s2⟩ := sub2 ha hb hc
    have hy : y < 2 ^ n := by rw [Nat.pow_succ] at h; omega
    have hl := sub_le s1
    have hp : (2 : Nat) ^ (n + 1) = 2 * 2 ^ n := by rw [Nat.pow_succ]; omega
    by_cases ab : a = b
    · have hq : q ≠ y := by omega
      obtain ⟨i1, i2⟩ := nxt n q y hy s1 hq
      have e : 2 * q + a + 2 ^ (n + 1) - (2 * y + b) = 2 * (q + 2 ^ n - y) + 0 := by rw [hp]; omega
      rw [e, and2 (by omega) hb, Nat.zero_mul, Nat.add_zero]
      refine ⟨by omega, fun k hk hlt => ?_⟩
      obtain ⟨k', a', ha', rfl⟩ := half k
      obtain ⟨t1, t2⟩ := sub2 ha' hb hk
      have hlk : q < k' := by omega
      have := i2 k' t1 hlk
      omega
    · have a0 : a = 0 := by omega
      have b1 : b = 1 := by omega
      subst a0
      subst b1
      have ih := cpl n q y hy s1
      have e : 2 * q + 0 + 2 ^ (n + 1) - (2 * y + 1) = 2 * (q + 2 ^ n - y - 1) + 1 := by rw [hp]; omega
      rw [e, and2 (by omega) (by omega), ih]
      exact ⟨by omega, fun k hk hlt => by omega⟩
