/-- page; carpet; soldiers; shots, treaty, counts; image; how often -/
abbrev SS : Type := (Nat × (Nat → Nat)) × (Bool × Nat) × TS × ((Nat → Int32) × (Nat → Int32)) × (Bool × TS × (Nat → Int32) × (Nat → Int32)) × (Nat × Nat × Nat)
def FInv (f : Nat → Int32) : Prop := (ix (f 3) < 32 ∧ f 3 = nI (ix (f 3))) ∧ (ix (f 5) ≤ 6 ∧ f 5 = nI (ix (f 5)))
def Inv (N : Nat) : SS → Prop := fun ((L, pg), (laid, op), t, (f, _), (im, t2, f2, _), (q, w, b)) =>
  (L ≤ 22 ∧ ∀ j, j < L → pg j < 127) ∧ (op < 2 ^ 15 ∧ (laid = false → op = 0 ∧ t 0 1 = 0)) ∧ (TInv op t ∧ FInv f) ∧ (im = true → (laid = true ∧ TInv op t2 ∧ FInv f2) ∧ t2 0 1 ≤ t 0 1 ∧ ∀ j, j < t2 0 1 → t2 3 j = t 3 j) ∧ (q ≤ N ∧ w ≤ 20 ∧ b ≤ 20)
def NtR (μ : Mm) : Prop := ∃ v, (v = 1 ∨ v = 2) ∧ μ 2 0 0 0 = nI v ∧ μ 2 0 0 1 = nI (3 - v)
/-- the class' own cells -/
def RC (μ : Mm) : SS → Prop := fun ((L, pg), (laid, op), t, (f, cs), (im, t2, f2, cs2), (q, w, b)) =>
  (PRep μ L pg ∧ CRep μ laid op ∧ (laid = true → WRep μ op)) ∧ (TRep μ 0 t ∧ GRep μ 0 f cs) ∧ (μ 7 0 0 7 = bi im ∧ (im = true → TRep μ 1 t2 ∧ GRep μ 1 f2 cs2)) ∧ (μ 7 0 0 8 = nI q ∧ μ 7 0 0 9 = nI w ∧ μ 7 0 0 10 = nI b) ∧ NtR μ
/-- the image, as the other class keeps it -/
def KpR (μ : Mm) (q : Nat) (t2 : TS) (f2 cs2 : Nat → Int32) : Prop := (μ 8 0 0 29 = 1 ∧ μ 8 0 0 30 = nI q ∧ μ 8 0 0 31 = nI (t2 0 1)) ∧ (μ 8 0 0 32 = f2 1 ∧ μ 8 0 0 33 = f2 2 ∧ μ 8 0 0 34 = f2 3 ∧ μ 8 0 0 35 = f2 4 ∧ μ 8 0 0 36 = f2 5) ∧ (μ 8 0 38 0 = nI (mSt t2) ∧ μ 8 0 38 1 = nI (mSd t2) ∧ μ 8 0 38 2 = nI (htF t2 (t2 0 1)) ∧ μ 8 0 38 3 = nI (t2 8 0) ∧ μ 8 0 38 4 = nI (t2 8 1)) ∧ (∀ j, j < t2 0 1 → μ 8 0 39 j = nI (t2 5 j)) ∧ ∀ j, j < 6 → μ 8 0 40 j = cs2 j
def GmR (μ : Mm) (f cs : Nat → Int32) : Prop := (μ 8 0 0 11 = f 1 ∧ μ 8 0 0 12 = f 2 ∧ μ 8 0 0 13 = f 3 ∧ μ 8 0 0 14 = f 4 ∧ μ 8 0 0 15 = f 5) ∧ ∀ j, j < 6 → μ 8 0 17 j = cs j
def MPg (μ : Mm) (L : Nat) (pg : Nat → Nat) : Prop := μ 8 0 0 19 = nI L ∧ ∀ j, j < L → μ 8 0 21 j = nI (pg j)
def RM (μ : Mm) : SS → Prop := fun ((L, pg), (laid, op), t, (f, cs), (im, t2, f2, cs2), (q, w, b)) =>
  (MPg μ L pg ∧ μ 8 0 0 0 = bi laid ∧ μ 8 0 0 2 = nI op) ∧ (MRep μ t ∧ GmR μ f cs) ∧ ((im = true → KpR μ q t2 f2 cs2) ∧ (im = false → μ 8 0 0 29 = 0 ∨ ∃ q', q' < q ∧ μ 8 0 0 30 = nI q')) ∧ (μ 8 0 0 1 = nI q ∧ μ 8 0 0 17 = nI w ∧ μ 8 0 0 18 = nI b)
def Off8 (μ μ2 : Mm) : Prop := μ2 8 = μ 8
def OffX (μ μ2 : Mm) : Prop := ∀ c, ¬ c = 8 → μ2 c = μ c
theorem rm_off {μ μ2 : Mm} {S : SS} (h : RM μ S) (e : Off8 μ μ2) : RM μ2 S := by
  obtain ⟨⟨L, pg⟩, ⟨laid, op⟩, t, ⟨f, cs⟩, ⟨im, t2, f2, cs2⟩, q, w, b⟩ := S
  unfold Off8 at e
  unfold RM MPg MRep GmR KpR at *
  rw [e]
  exact h
theorem rc_off {μ μ2 : Mm} {S : SS} (h : RC μ S) (e : OffX μ μ2) : RC μ2 S := by
  obtain ⟨⟨L, pg⟩, ⟨laid, op⟩, t, ⟨f, cs⟩, ⟨im, t2, f2, cs2⟩, q, w, b⟩ := S
  unfold RC PRep CRep WRep TRep GRep NtR at *
  rw [e 3 (by omega), e 0 (by omega), e 6 (by omega), e 1 (by omega), e 7 (by omega), e 2 (by omega)]
  exact h
def kdB (x : Int32) : Bool := !decide (x < 0) && !decide (5 ≤ x)
def sdB (x : Int32) : Bool := !decide (x < 0) && !decide (2 ≤ x)
def clB (laid : Bool) (x : Int32) : Bool := laid && !decide (x < 0) && !decide (15 ≤ x)
theorem in_of {x : Int32} {n : Nat} (hn : n < 2 ^ 31) (h : (!decide (x < 0) && !decide (nI n ≤ x)) = true) : ∃ j, j < n ∧ x = nI j := by
  rw [Bool.and_eq_true, Bool.not_eq_true', Bool.not_eq_true', decide_eq_false_iff_not, decide_eq_false_iff_not] at h
  rcases pk_ix x hn with z | z | z
  · exact absurd z h.1
  · exact absurd z h.2
  · exact z
theorem kd_of {x : Int32} (h : kdB x = true) : ∃ j, j < 5 ∧ x = nI j := in_of (n := 5) (by omega) h
theorem sd_of {x : Int32} (h : sdB x = true) : ∃ j, j < 2 ∧ x = nI j := in_of (n := 2) (by omega) h
theorem cl_of {laid : Bool} {x : Int32} (h : clB laid x = true) : laid = true ∧ ∃ j, j < 15 ∧ x = nI j := by
  unfold clB at h
  rw [Bool.and_assoc, Bool.and_eq_true] at h
  exact ⟨h.1, in_of (n := 15) (by omega) h.2⟩
/-! what each call answers, and the state behind it -/
def aLetter (x : Int32) : SS → Int32 × SS := fun ((L, pg), r) => if x < 32 ∨ 126 < x then (-102, ((L, pg), r)) else if 22 ≤ L then (-104, ((L, pg), r)) else (nI (L + 1), ((L + 1, fun j => if j = L then ix x else pg j), r))
def aBlank : SS → Int32 × SS := fun ((L, pg), r) => (nI L, ((0, pg), r))
def vFault (x : Int32) : SS → Int32 := fun ((L, pg), _) => if x = 0 then nI (fsF (fun k => cOK k (pg k)) L 0) else if x = 1 then nI (fsF (tOK pg) L 0) else -102
def aCarpet : SS → Int32 × SS := fun ((L, pg), (laid, op), t, (f, cs), (im, t2, f2, cs2), (q, w, b)) => if L = 20 ∧ fsF (fun k => cOK k (pg k)) L 0 = L then (nI (pop (opF pg 15)), ((0, pg), (true, opF pg 15), clr (pg 18 - 48) (pg 19 - 48), (gf0, cs), (false, t2, f2, cs2), (q + 1, w, b))) else (-103, ((L, pg), (laid, op), t, (f, cs), (im, t2, f2, cs2), (q, w, b)))
def aTreaty : SS → Int32 × SS := fun ((L, pg), (laid, op), t, (f, cs), r) => if (1 ≤ L ∧ fsF (tOK pg) L 0 = L) ∧ laid = true then (nI L, ((0, pg), (laid, op), t, (fu (fu f 4 (-1)) 3 (nI (bnF pg L)), cs), r)) else (-103, ((L, pg), (laid, op), t, (f, cs), r))
def vCell (x y : Int32) : SS → Int32 := fun (_, (laid, op), t, _) => if clB laid x then (if y = 0 then bi (op.testBit (ix x)) else if y = 1 then who t (ix x) else if y = 2 then nI (sn op (ix x)) else -102) else -101
def aSoldier (x y z : Int32) : SS → Int32 × SS := fun (P, (laid, op), t, r) => if (kdB x && sdB y) = false then (-102, (P, (laid, op), t, r)) else if clB laid z = false then (-101, (P, (laid, op), t, r)) else if (op.testBit (ix z) && decide (who t (ix z) = -1)) = false then (-103, (P, (laid, op), t, r)) else if 6 ≤ t 0 1 then (-104, (P, (laid, op), t, r)) else (nI (t 0 1), (P, (laid, op), enl t (ix x) (ix y) (ix z), r))
def vAbout (x y : Int32) : SS → Int32 := fun (_, (_, op), t, _) => if hasI (t 0 1) x = false then -101 else if y = 0 then nI (t 3 (ix x)) else if y = 1 then nI (t 4 (ix x)) else if y = 2 then nI (t 5 (ix x)) else if y = 3 then nI (t 7 (ix x)) else if y = 4 then nI (t 6 (ix x)) else if y = 5 then nI (tgs op t (ix x)) else -102
def vAs (x y : Int32) : SS → Int32 := fun (_, _, t, _) => if hasI (t 0 1) x = false then -101 else if kdB y = false then -102 else if t 3 (ix x) = ix y ∨ ix y = 0 ∨ (t 3 (ix x) = 4 ∧ ix y = 1) then x else -1
def aMove (x y : Int32) : SS → Int32 × SS := fun (P, (laid, op), t, r) => if (hasI (t 0 1) x && clB laid y) = false then (-101, (P, (laid, op), t, r)) else if (op.testBit (ix y) && decide (who t (ix y) = -1)) = false then (-103, (P, (laid, op), t, r)) else (nI (t 5 (ix x)), (P, (laid, op), tu t 5 (ix x) (ix y), r))
def vTenths (x y : Int32) : SS → Int32 := fun (_, (_, op), t, _) => if (hasI (t 0 1) x && hasI (t 0 1) y) = false then -101 else nI (chS op t (ix x) (ix y))
def aShoot (x y : Int32) (hit : Bool) : SS → Int32 × SS := fun (P, (laid, op), t, (f, cs), r) => if (hasI (t 0 1) x && hasI (t 0 1) y) = false then (-101, (P, (laid, op), t, (f, cs), r)) else if chS op t (ix x) (ix y) = 0 then (-103, (P, (laid, op), t, (f, cs), r)) else (nI (fireS op t (ix x) (ix y) hit).2, (P, (laid, op), (fireS op t (ix x) (ix y) hit).1, (plf f (ix (f 3)) t (ix x) (ix y), cs), r))
def aDinner : SS → Int32 × SS := fun (P, C, t, r) => (nI (dinN t), (P, C, dinT t, r))
def aWatch (x : Int32) : SS → Int32 × SS := fun (P, (laid, op), t, G, I, (q, w, b)) => if ¬ x = 0 ∧ ¬ x = 1 then (-102, (P, (laid, op), t, G, I, (q, w, b))) else if laid = false ∨ 20 ≤ w then (-103, (P, (laid, op), t, G, I, (q, w, b))) else (if x = 0 then nI (pop (cF op op)) else nI (cF op op), (P, (laid, op), t, G, I, (q, w + 1, b)))
def bstV (V : Int32 × Int32) (k : Nat) (z : Int32) : Int32 := if z = 0 then V.1 / nI (gdV V.1 k) else if z = 1 then nI (10 ^ k / gdV V.1 k) else V.2
def bsB (x y z : Int32) : Bool := sdB x && !decide (y < 1) && !decide (3 < y) && !decide (z < 0) && !decide (2 < z)
def aBest (x y z : Int32) : SS → Int32 × SS := fun (P, (laid, op), t, G, I, (q, w, b)) => if bsB x y z = false then (-102, (P, (laid, op), t, G, I, (q, w, b))) else if laid = false ∨ 20 ≤ b then (-103, (P, (laid, op), t, G, I, (q, w, b))) else (bstV (mnP op (ix x) (ix y) t (ix x)) (ix y) z, (P, (laid, op), t, G, I, (q, w, b + 1)))
def aTally (x : Int32) : SS → Int32 × SS := fun (P, C, t, (f, cs), r) => if x < 0 ∨ 6 < x then (-102, (P, C, t, (f, cs), r)) else if 6 ≤ ix (f 5) then (-104, (P, C, t, (f, cs), r)) else (nI (ix (f 5) + 1), (P, C, t, (fu f 5 (nI (ix (f 5) + 1)), fu cs (ix (f 5)) x), r))
def aForget : SS → Int32 × SS := fun (P, C, t, (f, cs), r) => (f 5, (P, C, t, (fu f 5 0, cs), r))
def fitV (t : TS) (m : Nat) (cs : Nat → Int32) : Int32 := nI (if m = 0 then 1 else smN (wyA cs (otN t) (spN t) m) (2 ^ spN t))
def vFits : SS → Int32 := fun (_, (laid, _), t, (f, cs), _) => if laid = false then -103 else fitV t (ix (f 5)) cs
def vLast (x : Int32) : SS → Int32 := fun (_, _, t, (f, cs), _) => if hasI (t 0 1) x = false then -101 else if ¬ t 7 (ix x) = 1 then -103 else if ix (f 5) = 0 then -1 else laV t cs (ix (f 5)) (ix x)
def afB (x y z : Int32) : Bool := !decide (x < 1) && !decide (60 < x) && !decide (y < 0) && !decide (z < 0) && !decide (2 < z)
def vAfter (x y z : Int32) : SS → Int32 := fun (_, (_, op), t, _) => if afB x y z = false then -102 else if t 0 1 = 0 then -103 else aftV (trF op (ix x) t (ix y) 0) (ix z)
def aImage : SS → Int32 × SS := fun (P, (laid, op), t, (f, cs), (im, t2, f2, cs2), n) => if laid = false then (-103, (P, (laid, op), t, (f, cs), (im, t2, f2, cs2), n)) else (f 1, (P, (laid, op), t, (f, cs), (true, t, f, cs), n))
def aRestore : SS → Int32 × SS := fun (P, C, t, (f, cs), (im, t2, f2, cs2), n) => if im = false then (-103, (P, C, t, (f, cs), (im, t2, f2, cs2), n)) else (f2 1, (P, C, t2, (f2, cs2), (im, t2, f2, cs2), n))
def cntV (k : Nat) : SS → Int32 := fun ((L, _), (_, op), t, (f, _), _, (q, w, b)) => match k with
  | 0 => nI (pop op)
  | 1 => nI (t 8 0)
  | 2 => nI (t 8 1)
  | 3 => nI (t 0 1)
  | 4 => nI (std t 0)
  | 5 => nI (std t 1)
  | 6 => f 1
  | 7 => nI (pop (ix (f 3)))
  | 8 => f 4
  | 9 => f 5
  | 10 => nI L
  | 11 => nI q
  | 12 => nI w
  | _ => nI b
def vCount (x : Int32) (S : SS) : Int32 := if (!decide (x < 0) && !decide (14 ≤ x)) = true then cntV (ix x) S else -102
