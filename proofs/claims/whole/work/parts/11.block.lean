/-- a run of instructions, from pc on -/
def xb (l : Launch) (K : KK) (d n : Nat) (P : Option AV → Mm → Prop) : List QI → Nat → LV → List AV → Mm → Prop
  | [], pc, lv, st, μ => Go l K d n pc lv st μ P
  | q :: qs, pc, lv, st, μ => xs l K d n P q pc lv st μ (xb l K d n P qs)
def chkB (n : Nat) : List QI → Nat → Bool
  | [], _ => true
  | q :: qs, pc => chk1 n pc q && chkB n qs (nx pc q)
theorem go_blk {l : Launch} {K : KK} {d n : Nat} {P : Option AV → Mm → Prop} : ∀ (qs : List QI) {pc : Nat} {lv : LV} {st : List AV} {μ : Mm}, chkB n qs pc = true → xb l K d n P qs pc lv st μ → Go l K d n pc lv st μ P
  | [], _, _, _, _, _, h => h
  | q :: qs, pc, lv, st, μ, hc, h => by
    have h1 := (Bool.and_eq_true _ _ ▸ hc : _ ∧ _)
    refine xs_sound h1.1 h (fun pc' lv' st' μ' e h' => ?_)
    subst e
    exact go_blk qs h1.2 h'
def elv : List AV → LV
  | [] => []
  | .inl x :: r => some (vI x) :: elv r
  | .inr (.inl x) :: r => some (vJ x) :: none :: elv r
  | .inr (.inr x) :: r => some (.inr (.inr x)) :: elv r
def pad (N : Nat) (l : LV) : LV := l ++ List.replicate (N - l.length) none
theorem elv_len (K : KK) : ∀ as : List AV, (lg_sl (as.map (cz K))).length = (elv as).length
  | [] => rfl
  | .inl x :: r => by
    have e : lg_sl ((vI x :: r).map (cz K)) = Slot.val (.int x) :: lg_sl (r.map (cz K)) := rfl
    rw [e, List.length_cons, elv_len K r]; rfl
  | .inr (.inl x) :: r => by
    have e : lg_sl ((vJ x :: r).map (cz K)) = Slot.val (.long x) :: Slot.second :: lg_sl (r.map (cz K)) := rfl
    rw [e, List.length_cons, List.length_cons, elv_len K r]; rfl
  | .inr (.inr x) :: r => by
    have e : lg_sl ((Sum.inr (Sum.inr x) :: r : List AV).map (cz K)) = Slot.val (.ref (kA K x.1 x.2.1 x.2.2)) :: lg_sl (r.map (cz K)) := rfl
    rw [e, List.length_cons, elv_len K r]; rfl
theorem elv_at (K : KK) : ∀ (as : List AV) (o i : Nat) (v : AV), (elv as)[i]? = some (some v) → (o + i, cz K v) ∈ lv_args o (as.map (cz K))
  | [], o, i, v, h => by simp [elv] at h
  | .inl x :: r, o, 0, v, h => by
    simp [elv] at h; subst h; exact List.mem_cons_self
  | .inl x :: r, o, i + 1, v, h => by
    have := elv_at K r (o + 1) i v (by simpa [elv] using h)
    rw [show o + (i + 1) = o + 1 + i by omega]
    exact List.mem_cons_of_mem _ this
  | .inr (.inr x) :: r, o, 0, v, h => by
    simp [elv] at h; subst h; exact List.mem_cons_self
  | .inr (.inr x) :: r, o, i + 1, v, h => by
    have := elv_at K r (o + 1) i v (by simpa [elv] using h)
    rw [show o + (i + 1) = o + 1 + i by omega]
    exact List.mem_cons_of_mem _ this
  | .inr (.inl x) :: r, o, 0, v, h => by
    simp [elv] at h; subst h; exact List.mem_cons_self
  | .inr (.inl x) :: r, o, 1, v, h => by simp [elv] at h
  | .inr (.inl x) :: r, o, i + 2, v, h => by
    have := elv_at K r (o + 2) i v (by simpa [elv] using h)
    rw [show o + (i + 2) = o + 2 + i by omega]
    exact List.mem_cons_of_mem _ this
/-- a method's contract: from its first instruction on -/
theorem ok_go {l : Launch} {K : KK} {d n : Nat} {as : List AV} {μ : Mm} {P : Option AV → Mm → Prop} (N : Nat) (hy : (plainY n && decide (mL n = N)) = true) (lv : LV) (hl : pad N (elv as) = lv) (hN : (elv as).length ≤ N) (h : Go l K d n 0 lv [] μ P) : Ok l K d n as μ P := by
  have hy2 : plainY n = true ∧ mL n = N := by simpa using hy
  refine ok_of hy2.1 lv ?_ ?_ ?_ h
  · rw [← hl, hy2.2]; unfold pad; simp; omega
  · rw [elv_len, hy2.2]; exact hN
  · intro i v hv
    rw [← hl] at hv
    unfold pad at hv
    by_cases hi : i < (elv as).length
    · rw [List.getElem?_append_left hi] at hv
      have := elv_at K as 0 i v hv
      rwa [Nat.zero_add] at this
    · rw [List.getElem?_append_right (by omega), List.getElem?_replicate] at hv
      split at hv <;> cases hv
theorem Ok.deeper {l : Launch} {K : KK} {d d' n : Nat} {as : List AV} {μ : Mm} {P : Option AV → Mm → Prop} (_ : d ≤ d') (h : ∀ d, Ok l K d n as μ P) : Ok l K d' n as μ P := h d'
