/-- a run of instructions, from pc on -/
def xb (l : Launch) (K : KK) (d n : Nat) (P : Option AV → Mm → Prop) : List QI → Nat → LV → List AV → Mm → Prop
  | [], pc, lv, st, μ => Go l K d n pc lv st μ P
  | q :: qs, pc, lv, st, μ => xs l K d n P q pc lv st μ (xb l K d n P qs)
def chkB (n : Nat) : List QI → Nat → Bool
  | [], _ => true
  | q :: qs, pc => chk1 n pc q && chkB n qs (nx pc q)
theorem go_blk {l : Launch} {K : KK} {d n : Nat} {P : Option AV → Mm → Prop} : ∀ (qs : List QI) {pc : Nat} {lv : LV} {st : List AV} {μ : Mm}, chkB n qs pc = true → xb l K d n P qs pc lv st μ → Go l K d n pc lv st μ P
  | [], _, _, _, _, _, h => h
  | q :: qs, pc, lv, st, μ, hc, h => by
    have h1 := (Bool.and_eq_true _ _ ▸ hc : _ ∧ _)
    refine xs_sound h1.1 h (fun pc' lv' st' μ' e h' => ?_)
    subst e
    exact go_blk qs h1.2 h'
