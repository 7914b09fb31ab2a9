/-- the store behind both constructors -/
def mu0 : Mm := fun c _ s j =>
  if s = 0 then
    (if c = 0 ∧ j = 4 then -1
    else if c = 1 ∧ (j = 2 ∨ j = 4) then -1
    else if c = 2 ∧ j = 0 then 1
    else if c = 2 ∧ j = 1 then 2
    else if c = 2 ∧ j = 3 then 1
    else if c = 4 ∧ j = 3 then 1
    else if c = 4 ∧ j = 4 then -1
    else if c = 8 ∧ (j = 12 ∨ j = 14) then -1
    else 0)
  else 0
def S0 : SS := ((0, fun _ => 0), (false, 0), (fun _ _ => 0), (gf0, fun _ => 0), (false, (fun _ _ => 0), gf0, fun _ => 0), (0, 0, 0))
theorem t0_inv : TInv 0 (fun _ _ => 0) := ⟨(by show (0 : Nat) ≤ 6; omega), fun j hj => absurd hj (Nat.not_lt_zero j), fun j _ => (by show (0 : Nat) < 10; omega), fun a b ha _ _ => absurd ha (Nat.not_lt_zero a)⟩
theorem rr0 : RR 0 mu0 S0 := by
  refine ⟨?_, ?_, ?_⟩
  · exact ⟨⟨by omega, fun j hj => absurd hj (Nat.not_lt_zero j)⟩, ⟨by omega, fun _ => ⟨rfl, rfl⟩⟩, ⟨t0_inv, finv0⟩, fun z => (by cases z), ⟨by omega, by omega, by omega⟩⟩
  · refine ⟨⟨⟨rfl, by omega, fun j hj => absurd hj (Nat.not_lt_zero j)⟩, ⟨rfl, rfl, by omega, fun _ => rfl, fun z => (by cases z)⟩, fun z => (by cases z)⟩, ⟨⟨rfl, fun s _ _ j hj => absurd hj (Nat.not_lt_zero j), fun j _ => ?_⟩, ⟨fun k h1 h5 => ?_, fun j _ => ?_⟩⟩, ⟨rfl, fun z => (by cases z)⟩, ⟨rfl, rfl, rfl⟩, ⟨1, Or.inl rfl, rfl, rfl⟩⟩
    · show mu0 6 0 8 j = nI 0
      simp [mu0]
      rfl
    · rcases (show k = 1 ∨ k = 2 ∨ k = 3 ∨ k = 4 ∨ k = 5 by omega) with z | z | z | z | z <;> subst z <;> rfl
    · show mu0 1 0 7 j = 0
      simp [mu0]
  · refine ⟨⟨⟨rfl, fun j hj => absurd hj (Nat.not_lt_zero j)⟩, rfl, rfl⟩, ⟨⟨⟨rfl, fun j hj => absurd hj (Nat.not_lt_zero j), fun j hj => absurd hj (Nat.not_lt_zero j)⟩, ⟨rfl, rfl, rfl⟩, rfl, rfl⟩, ⟨⟨rfl, rfl, rfl, rfl, rfl⟩, fun j _ => ?_⟩⟩, ⟨fun z => (by cases z), fun _ => Or.inl rfl⟩, ⟨rfl, rfl, rfl⟩⟩
    show mu0 8 0 17 j = 0
    simp [mu0]
