abbrev AV : Type := Int32 ⊕ (Int64 ⊕ (Nat × Nat × Nat))
abbrev vI (x : Int32) : AV := .inl x
abbrev vJ (x : Int64) : AV := .inr (.inl x)
abbrev vR (c i s : Nat) : AV := .inr (.inr (c, i, s))
abbrev Mm : Type := Nat → Nat → Nat → Nat → Int32
abbrev KK : Type := (Nat → Nat → Nat → Nat) × (Nat → ClassId) × (Nat → Nat → Nat) × (Nat → ClassId) × Nat × (Nat → Int32)
def kA (K : KK) : Nat → Nat → Nat → Nat := K.1
def kD (K : KK) : va_G := (K.2.1, K.2.2.1)
def kY (K : KK) : Nat → ClassId := K.2.2.2.1
def kN (K : KK) : Nat := K.2.2.2.2.1
def kX (K : KK) : Nat → Int32 := K.2.2.2.2.2
def cz (K : KK) : AV → Value
  | .inl x => .int x
  | .inr (.inl x) => .long x
  | .inr (.inr q) => .ref (kA K q.1 q.2.1 q.2.2)
def hiL (x : Int64) : Int32 := Int32.ofBitVec (x.toBitVec.extractLsb' 32 32)
def loL (x : Int64) : Int32 := Int32.ofBitVec (x.toBitVec.extractLsb' 0 32)
def mkL (h l : Int32) : Int64 := Int64.ofBitVec (h.toBitVec ++ l.toBitVec)
theorem mkL_eq (x : Int64) : mkL (hiL x) (loL x) = x := by
  apply Int64.toBitVec_inj.mp
  apply BitVec.eq_of_getLsbD_eq
  intro i hi
  simp only [mkL, hiL, loL, Int64.toBitVec_ofBitVec, Int32.toBitVec_ofBitVec, BitVec.getLsbD_append, BitVec.getLsbD_extractLsb']
  by_cases h : i < 32
  · simp [h]
  · have h2 : i - 32 < 32 := by omega
    have h3 : 32 + (i - 32) = i := by omega
    simp [h, h2, h3]
def up (μ : Mm) (c i s j : Nat) (v : Int32) : Mm := fun c' i' s' j' => if c' = c ∧ i' = i ∧ s' = s ∧ j' = j then v else μ c' i' s' j'
theorem up_self (μ : Mm) (c i s j : Nat) (v : Int32) : up μ c i s j v c i s j = v := by simp [up]
theorem up_ne {μ : Mm} {c i s j : Nat} {v : Int32} {c' i' s' j' : Nat} (h : ¬ (c' = c ∧ i' = i ∧ s' = s ∧ j' = j)) : up μ c i s j v c' i' s' j' = μ c' i' s' j' := by simp [up, h]
def fkT : List (List Nat) := [[5, 0, 0, 2, 0], [3, 0, 0, 0, 0, 0, 2], [4, 4, 0, 0], [2, 0], [2, 0, 0, 0, 0], [3, 0, 0], [3, 0, 2, 2, 2, 2, 2, 2], [3, 3, 3, 3, 3, 3, 3, 5, 0, 0, 0], [5, 0, 0, 0, 2, 2, 0, 0, 0, 0, 0, 0, 0, 0, 0, 0, 2, 0, 0, 0, 2, 0, 2, 2, 0, 0, 2, 2, 1, 5, 0, 0, 0, 0, 0, 0, 0, 2, 2, 2, 1]]
def fk (c k : Nat) : Nat := (fkT.getD c []).getD k 0
def tg (c i k : Nat) : Nat × Nat × Nat := match c with
  | 1 => (6, i, 0)
  | 5 => (6, 5, 0)
  | 7 => match k with
    | 0 => (3, 0, 0)
    | 1 => (0, 0, 0)
    | 2 => (1, 0, 0)
    | 3 => (1, 1, 0)
    | 4 => (2, 0, 0)
    | 5 => (4, 0, 0)
    | _ => (5, 0, 0)
  | _ => (0, 0, 0)
def rd (μ : Mm) (c i k : Nat) : AV := match fk c k with
  | 1 => vJ (mkL (μ c i 0 k) (μ c i 99 k))
  | 2 => vR c i (k + 1)
  | 3 => .inr (.inr (tg c i k))
  | 4 => vR c i (μ c i 0 k).toNatClampNeg
  | _ => vI (μ c i 0 k)
def cnt (c : Nat) : Nat := match c with
  | 1 => 2
  | 6 => 6
  | _ => 1
def aL : List ((Nat × Nat) × (Nat × Nat)) := [((0, 4), (0, 15)), ((1, 7), (0, 6)), ((2, 1), (0, 64)), ((2, 2), (0, 64)), ((3, 1), (2, 22)), ((4, 1), (4, 3)), ((6, 3), (0, 6)), ((6, 4), (0, 6)), ((6, 5), (0, 6)), ((6, 6), (0, 6)), ((6, 7), (1, 6)), ((6, 8), (0, 2)), ((8, 5), (0, 6)), ((8, 6), (0, 6)), ((8, 17), (0, 6)), ((8, 21), (3, 22)), ((8, 23), (0, 15)), ((8, 24), (0, 20)), ((8, 27), (0, 64)), ((8, 28), (0, 64)), ((8, 38), (0, 5)), ((8, 39), (0, 6)), ((8, 40), (0, 6))]
def lk (c s : Nat) : List ((Nat × Nat) × (Nat × Nat)) → Nat × Nat
  | [] => (9, 0)
  | e :: l => if e.1 = (c, s) then e.2 else lk c s l
def aI (c s : Nat) : Nat × Nat := lk c s aL
theorem lk_mem {c s : Nat} : ∀ {l : List ((Nat × Nat) × (Nat × Nat))}, (lk c s l).1 ≠ 9 → ((c, s), lk c s l) ∈ l
  | [], h => absurd rfl h
  | e :: l, h => by
    unfold lk at h ⊢
    by_cases q : e.1 = (c, s)
    · simp only [q, if_true] at h ⊢
      rw [← q]
      exact List.mem_cons_self
    · simp only [q, if_false] at h ⊢
      exact List.mem_cons_of_mem _ (lk_mem h)
def Dom : List (Nat × Nat × Nat) := [(0, 0, 0), (0, 0, 4), (1, 0, 0), (1, 0, 7), (1, 1, 0), (1, 1, 7), (2, 0, 0), (2, 0, 1), (2, 0, 2), (3, 0, 0), (3, 0, 1), (4, 0, 0), (4, 0, 1), (5, 0, 0), (6, 0, 0), (6, 0, 3), (6, 0, 4), (6, 0, 5), (6, 0, 6), (6, 0, 7), (6, 0, 8), (6, 1, 0), (6, 1, 3), (6, 1, 4), (6, 1, 5), (6, 1, 6), (6, 1, 7), (6, 1, 8), (6, 2, 0), (6, 2, 3), (6, 2, 4), (6, 2, 5), (6, 2, 6), (6, 2, 7), (6, 2, 8), (6, 3, 0), (6, 3, 3), (6, 3, 4), (6, 3, 5), (6, 3, 6), (6, 3, 7), (6, 3, 8), (6, 4, 0), (6, 4, 3), (6, 4, 4), (6, 4, 5), (6, 4, 6), (6, 4, 7), (6, 4, 8), (6, 5, 0), (6, 5, 3), (6, 5, 4), (6, 5, 5), (6, 5, 6), (6, 5, 7), (6, 5, 8), (7, 0, 0), (8, 0, 0), (8, 0, 5), (8, 0, 6), (8, 0, 17), (8, 0, 21), (8, 0, 23), (8, 0, 24), (8, 0, 27), (8, 0, 28), (8, 0, 38), (8, 0, 39), (8, 0, 40)]
theorem dom_nd : ∀ i, i < Dom.length → ∀ j, j < Dom.length → Dom[i]? = Dom[j]? → i = j := by decide +kernel
theorem dom_ob : ∀ c, c < 9 → ∀ i, i < cnt c → (c, i, 0) ∈ Dom := by decide +kernel
theorem dom_ar0 : ∀ e ∈ aL, (∀ i, i < cnt e.1.1 → (e.1.1, i, e.1.2) ∈ Dom) ∧ e.1.2 ≠ 0 ∧ e.1.2 ≠ 99 ∧ e.1.1 < 9 ∧ (e.2.1 = 4 → e.1 = (4, 1)) ∧ e.2.2 < 2 ^ 31 := by decide +kernel
theorem dom_ar {c s : Nat} (h : (aI c s).1 ≠ 9) : (∀ i, i < cnt c → (c, i, s) ∈ Dom) ∧ s ≠ 0 ∧ s ≠ 99 ∧ c < 9 ∧ ((aI c s).1 = 4 → (c, s) = (4, 1)) ∧ (aI c s).2 < 2 ^ 31 := dom_ar0 _ (lk_mem h)
theorem dom_99 : ∀ q ∈ Dom, q.2.2 ≠ 99 := by decide +kernel
theorem dom_c : ∀ q ∈ Dom, q.1 < 9 := by decide +kernel
def ent (K : KK) (μ : Mm) (q : Nat × Nat × Nat) : va_E :=
  if q.2.2 = 0 then .inr (q.1, (List.range (nF q.1)).map fun k => cz K (rd μ q.1 q.2.1 k))
  else if (aI q.1 q.2.2).1 = 4 then .inl (kY K 4, (aI q.1 q.2.2).2, .inr (.inr (.inr (.inr fun j => some (kA K 6 (2 + j) 0)))))
  else .inl (kY K (aI q.1 q.2.2).1, (aI q.1 q.2.2).2, .inl (μ q.1 q.2.1 q.2.2))
def wrld (K : KK) (μ : Mm) : va_W := Dom.map fun q => (kA K q.1 q.2.1 q.2.2, ent K μ q)
def tyK (K : KK) : List (ClassId × FieldType) := [(kY K 0, .int), (kY K 1, .boolean), (kY K 2, .char), (kY K 3, .byte), (kY K 4, .object "TinSoldiers$Troops")]
def aA (K : KK) : Nat → Prop := fun a => ∃ q ∈ Dom, a = kA K q.1 q.2.1 q.2.2
def kJ (K : KK) : Prop := ∀ p ∈ Dom, ∀ q ∈ Dom, kA K p.1 p.2.1 p.2.2 = kA K q.1 q.2.1 q.2.2 → p = q
theorem w_at {K : KK} {μ : Mm} {k : Nat} {q : Nat × Nat × Nat} (h : Dom[k]? = some q) : (wrld K μ)[k]? = some (kA K q.1 q.2.1 q.2.2, ent K μ q) := by
  simp [wrld, h]
theorem w_of {K : KK} {μ : Mm} {k : Nat} {x : Nat × va_E} (h : (wrld K μ)[k]? = some x) : ∃ q, Dom[k]? = some q ∧ x = (kA K q.1 q.2.1 q.2.2, ent K μ q) := by
  unfold wrld at h
  rw [List.getElem?_map] at h
  cases hq : Dom[k]? with
  | none => rw [hq] at h; cases h
  | some q => rw [hq] at h; exact ⟨q, rfl, (Option.some.inj h).symm⟩
theorem dom_inj {i j : Nat} {q : Nat × Nat × Nat} (hi : Dom[i]? = some q) (hj : Dom[j]? = some q) : i = j :=
  dom_nd i (List.getElem?_eq_some_iff.mp hi).1 j (List.getElem?_eq_some_iff.mp hj).1 (hi.trans hj.symm)
theorem wD {K : KK} (hJ : kJ K) (μ : Mm) : va_D (aA K) (wrld K μ) := by
  refine ⟨fun i j p q hi hj e => ?_, fun k q hk => ?_⟩
  · obtain ⟨a, ha, rfl⟩ := w_of hi
    obtain ⟨b, hb, rfl⟩ := w_of hj
    have := hJ a (List.mem_of_getElem? ha) b (List.mem_of_getElem? hb) e
    subst this
    exact dom_inj ha hb
  · obtain ⟨a, ha, rfl⟩ := w_of hk
    exact ⟨a, List.mem_of_getElem? ha, rfl⟩
/-- one cell's entry is written anew -/
theorem w_set {K : KK} {μ μ' : Mm} {k : Nat} {q : Nat × Nat × Nat} {e : va_E} (h : Dom[k]? = some q) (he : ent K μ' q = e) (ho : ∀ q' ∈ Dom, q' ≠ q → ent K μ' q' = ent K μ q') : (wrld K μ).set k (kA K q.1 q.2.1 q.2.2, e) = wrld K μ' := by
  apply List.ext_getElem?
  intro j
  by_cases hjk : j = k
  · subst hjk
    rw [List.getElem?_set_self (by unfold wrld; rw [List.length_map]; exact (List.getElem?_eq_some_iff.mp h).1), w_at h, he]
  · rw [List.getElem?_set_ne (Ne.symm hjk)]
    cases hq : Dom[j]? with
    | none =>
      have : Dom.length ≤ j := by simpa using hq
      simp [wrld, hq]
    | some q' =>
      rw [w_at hq, w_at hq, ho q' (List.mem_of_getElem? hq) (fun z => hjk (dom_inj hq (by rw [z]; exact h)))]
theorem rd_up_ne {μ : Mm} {c i s j : Nat} {v : Int32} {c' i' k : Nat} (h : ¬ (c' = c ∧ i' = i ∧ (s = 0 ∨ s = 99) ∧ k = j)) : rd (up μ c i s j v) c' i' k = rd μ c' i' k := by
  have h0 : up μ c i s j v c' i' 0 k = μ c' i' 0 k := up_ne fun ⟨a, b, d, e⟩ => h ⟨a, b, Or.inl d.symm, e⟩
  have h9 : up μ c i s j v c' i' 99 k = μ c' i' 99 k := up_ne fun ⟨a, b, d, e⟩ => h ⟨a, b, Or.inr d.symm, e⟩
  unfold rd
  split <;> simp only [h0, h9]
theorem ent_up_ne {K : KK} {μ : Mm} {c i s j : Nat} {v : Int32} {q : Nat × Nat × Nat} (hq : q ∈ Dom) (h : q ≠ (c, i, if s = 99 then 0 else s)) : ent K (up μ c i s j v) q = ent K μ q := by
  have h99 := dom_99 _ hq
  clear hq
  obtain ⟨c', i', s'⟩ := q
  unfold ent
  by_cases hs : s' = 0
  · subst hs
    rw [if_pos rfl, if_pos rfl]
    have e : ((List.range (nF c')).map fun k => cz K (rd (up μ c i s j v) c' i' k)) = (List.range (nF c')).map fun k => cz K (rd μ c' i' k) := by
      apply List.map_congr_left
      intro k hk
      rw [rd_up_ne]
      rintro ⟨rfl, rfl, hs, rfl⟩
      apply h
      rcases hs with rfl | rfl <;> rfl
    show Sum.inr (c', (List.range (nF c')).map fun k => cz K (rd (up μ c i s j v) c' i' k)) = _
    rw [e]
  · rw [if_neg hs, if_neg hs]
    by_cases h4 : (aI c' s').1 = 4
    · rw [if_pos h4, if_pos h4]
    · rw [if_neg h4, if_neg h4]
      have e : up μ c i s j v c' i' s' = μ c' i' s' := by
        funext j'
        apply up_ne
        rintro ⟨rfl, rfl, rfl, rfl⟩
        apply h
        rw [if_neg h99]
      show Sum.inl (kY K (aI c' s').1, (aI c' s').2, Sum.inl (up μ c i s j v c' i' s')) = _
      rw [e]
theorem rd_0_0 (μ : Mm) : rd μ 0 0 0 = vI (μ 0 0 0 0) := rfl
theorem rd_0_1 (μ : Mm) : rd μ 0 0 1 = vI (μ 0 0 0 1) := rfl
theorem rd_0_2 (μ : Mm) : rd μ 0 0 2 = vI (μ 0 0 0 2) := rfl
theorem rd_0_3 (μ : Mm) : rd μ 0 0 3 = vR 0 0 4 := rfl
theorem rd_0_4 (μ : Mm) : rd μ 0 0 4 = vI (μ 0 0 0 4) := rfl
theorem rd_1_0 (μ : Mm) (i : Nat) : rd μ 1 i 0 = vR 6 i 0 := rfl
theorem rd_1_1 (μ : Mm) (i : Nat) : rd μ 1 i 1 = vI (μ 1 i 0 1) := rfl
theorem rd_1_2 (μ : Mm) (i : Nat) : rd μ 1 i 2 = vI (μ 1 i 0 2) := rfl
theorem rd_1_3 (μ : Mm) (i : Nat) : rd μ 1 i 3 = vI (μ 1 i 0 3) := rfl
theorem rd_1_4 (μ : Mm) (i : Nat) : rd μ 1 i 4 = vI (μ 1 i 0 4) := rfl
theorem rd_1_5 (μ : Mm) (i : Nat) : rd μ 1 i 5 = vI (μ 1 i 0 5) := rfl
theorem rd_1_6 (μ : Mm) (i : Nat) : rd μ 1 i 6 = vR 1 i 7 := rfl
theorem rd_2_0 (μ : Mm) : rd μ 2 0 0 = vR 2 0 (μ 2 0 0 0).toNatClampNeg := rfl
theorem rd_2_1 (μ : Mm) : rd μ 2 0 1 = vR 2 0 (μ 2 0 0 1).toNatClampNeg := rfl
theorem rd_2_2 (μ : Mm) : rd μ 2 0 2 = vI (μ 2 0 0 2) := rfl
theorem rd_2_3 (μ : Mm) : rd μ 2 0 3 = vI (μ 2 0 0 3) := rfl
theorem rd_3_0 (μ : Mm) : rd μ 3 0 0 = vR 3 0 1 := rfl
theorem rd_3_1 (μ : Mm) : rd μ 3 0 1 = vI (μ 3 0 0 1) := rfl
theorem rd_4_0 (μ : Mm) : rd μ 4 0 0 = vR 4 0 1 := rfl
theorem rd_4_1 (μ : Mm) : rd μ 4 0 1 = vI (μ 4 0 0 1) := rfl
theorem rd_4_2 (μ : Mm) : rd μ 4 0 2 = vI (μ 4 0 0 2) := rfl
theorem rd_4_3 (μ : Mm) : rd μ 4 0 3 = vI (μ 4 0 0 3) := rfl
theorem rd_4_4 (μ : Mm) : rd μ 4 0 4 = vI (μ 4 0 0 4) := rfl
theorem rd_5_0 (μ : Mm) : rd μ 5 0 0 = vR 6 5 0 := rfl
theorem rd_5_1 (μ : Mm) : rd μ 5 0 1 = vI (μ 5 0 0 1) := rfl
theorem rd_5_2 (μ : Mm) : rd μ 5 0 2 = vI (μ 5 0 0 2) := rfl
theorem rd_6_0 (μ : Mm) (i : Nat) : rd μ 6 i 0 = vR 0 0 0 := rfl
theorem rd_6_1 (μ : Mm) (i : Nat) : rd μ 6 i 1 = vI (μ 6 i 0 1) := rfl
theorem rd_6_2 (μ : Mm) (i : Nat) : rd μ 6 i 2 = vR 6 i 3 := rfl
theorem rd_6_3 (μ : Mm) (i : Nat) : rd μ 6 i 3 = vR 6 i 4 := rfl
theorem rd_6_4 (μ : Mm) (i : Nat) : rd μ 6 i 4 = vR 6 i 5 := rfl
theorem rd_6_5 (μ : Mm) (i : Nat) : rd μ 6 i 5 = vR 6 i 6 := rfl
theorem rd_6_6 (μ : Mm) (i : Nat) : rd μ 6 i 6 = vR 6 i 7 := rfl
theorem rd_6_7 (μ : Mm) (i : Nat) : rd μ 6 i 7 = vR 6 i 8 := rfl
theorem rd_7_0 (μ : Mm) : rd μ 7 0 0 = vR 3 0 0 := rfl
theorem rd_7_1 (μ : Mm) : rd μ 7 0 1 = vR 0 0 0 := rfl
theorem rd_7_2 (μ : Mm) : rd μ 7 0 2 = vR 1 0 0 := rfl
theorem rd_7_3 (μ : Mm) : rd μ 7 0 3 = vR 1 1 0 := rfl
theorem rd_7_4 (μ : Mm) : rd μ 7 0 4 = vR 2 0 0 := rfl
theorem rd_7_5 (μ : Mm) : rd μ 7 0 5 = vR 4 0 0 := rfl
theorem rd_7_6 (μ : Mm) : rd μ 7 0 6 = vR 5 0 0 := rfl
theorem rd_7_7 (μ : Mm) : rd μ 7 0 7 = vI (μ 7 0 0 7) := rfl
theorem rd_7_8 (μ : Mm) : rd μ 7 0 8 = vI (μ 7 0 0 8) := rfl
theorem rd_7_9 (μ : Mm) : rd μ 7 0 9 = vI (μ 7 0 0 9) := rfl
theorem rd_7_10 (μ : Mm) : rd μ 7 0 10 = vI (μ 7 0 0 10) := rfl
theorem rd_8_0 (μ : Mm) : rd μ 8 0 0 = vI (μ 8 0 0 0) := rfl
theorem rd_8_1 (μ : Mm) : rd μ 8 0 1 = vI (μ 8 0 0 1) := rfl
theorem rd_8_2 (μ : Mm) : rd μ 8 0 2 = vI (μ 8 0 0 2) := rfl
theorem rd_8_3 (μ : Mm) : rd μ 8 0 3 = vI (μ 8 0 0 3) := rfl
theorem rd_8_4 (μ : Mm) : rd μ 8 0 4 = vR 8 0 5 := rfl
theorem rd_8_5 (μ : Mm) : rd μ 8 0 5 = vR 8 0 6 := rfl
theorem rd_8_6 (μ : Mm) : rd μ 8 0 6 = vI (μ 8 0 0 6) := rfl
theorem rd_8_7 (μ : Mm) : rd μ 8 0 7 = vI (μ 8 0 0 7) := rfl
theorem rd_8_8 (μ : Mm) : rd μ 8 0 8 = vI (μ 8 0 0 8) := rfl
theorem rd_8_9 (μ : Mm) : rd μ 8 0 9 = vI (μ 8 0 0 9) := rfl
theorem rd_8_10 (μ : Mm) : rd μ 8 0 10 = vI (μ 8 0 0 10) := rfl
theorem rd_8_11 (μ : Mm) : rd μ 8 0 11 = vI (μ 8 0 0 11) := rfl
theorem rd_8_12 (μ : Mm) : rd μ 8 0 12 = vI (μ 8 0 0 12) := rfl
theorem rd_8_13 (μ : Mm) : rd μ 8 0 13 = vI (μ 8 0 0 13) := rfl
theorem rd_8_14 (μ : Mm) : rd μ 8 0 14 = vI (μ 8 0 0 14) := rfl
theorem rd_8_15 (μ : Mm) : rd μ 8 0 15 = vI (μ 8 0 0 15) := rfl
theorem rd_8_16 (μ : Mm) : rd μ 8 0 16 = vR 8 0 17 := rfl
theorem rd_8_17 (μ : Mm) : rd μ 8 0 17 = vI (μ 8 0 0 17) := rfl
theorem rd_8_18 (μ : Mm) : rd μ 8 0 18 = vI (μ 8 0 0 18) := rfl
theorem rd_8_19 (μ : Mm) : rd μ 8 0 19 = vI (μ 8 0 0 19) := rfl
theorem rd_8_20 (μ : Mm) : rd μ 8 0 20 = vR 8 0 21 := rfl
theorem rd_8_21 (μ : Mm) : rd μ 8 0 21 = vI (μ 8 0 0 21) := rfl
theorem rd_8_22 (μ : Mm) : rd μ 8 0 22 = vR 8 0 23 := rfl
theorem rd_8_23 (μ : Mm) : rd μ 8 0 23 = vR 8 0 24 := rfl
theorem rd_8_24 (μ : Mm) : rd μ 8 0 24 = vI (μ 8 0 0 24) := rfl
theorem rd_8_25 (μ : Mm) : rd μ 8 0 25 = vI (μ 8 0 0 25) := rfl
theorem rd_8_26 (μ : Mm) : rd μ 8 0 26 = vR 8 0 27 := rfl
theorem rd_8_27 (μ : Mm) : rd μ 8 0 27 = vR 8 0 28 := rfl
theorem rd_8_28 (μ : Mm) : rd μ 8 0 28 = vJ (mkL (μ 8 0 0 28) (μ 8 0 99 28)) := rfl
theorem rd_8_29 (μ : Mm) : rd μ 8 0 29 = vI (μ 8 0 0 29) := rfl
theorem rd_8_30 (μ : Mm) : rd μ 8 0 30 = vI (μ 8 0 0 30) := rfl
theorem rd_8_31 (μ : Mm) : rd μ 8 0 31 = vI (μ 8 0 0 31) := rfl
theorem rd_8_32 (μ : Mm) : rd μ 8 0 32 = vI (μ 8 0 0 32) := rfl
theorem rd_8_33 (μ : Mm) : rd μ 8 0 33 = vI (μ 8 0 0 33) := rfl
theorem rd_8_34 (μ : Mm) : rd μ 8 0 34 = vI (μ 8 0 0 34) := rfl
theorem rd_8_35 (μ : Mm) : rd μ 8 0 35 = vI (μ 8 0 0 35) := rfl
theorem rd_8_36 (μ : Mm) : rd μ 8 0 36 = vI (μ 8 0 0 36) := rfl
theorem rd_8_37 (μ : Mm) : rd μ 8 0 37 = vR 8 0 38 := rfl
theorem rd_8_38 (μ : Mm) : rd μ 8 0 38 = vR 8 0 39 := rfl
theorem rd_8_39 (μ : Mm) : rd μ 8 0 39 = vR 8 0 40 := rfl
theorem rd_8_40 (μ : Mm) : rd μ 8 0 40 = vJ (mkL (μ 8 0 0 40) (μ 8 0 99 40)) := rfl
