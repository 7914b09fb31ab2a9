def kNm : List String := ["SOLDIER", "OFFICER", "SPY", "GUNNER", "BENT"]
def kFl : List (String × String × String × List Int32) := [("TinSoldiers$Kind", "hitsToFall", "I", [1, 2, 0, 1, 2]), ("TinSoldiers$Kind", "lossByStep", "I", [2, 2, 2, 1, 2])]
def kv (f k : Nat) : Int32 := ((kFl.getD f ("", "", "", [])).2.2.2).getD k 0
def sby : List Int32 := [111, 100, 110, 116, 103]
def nlF : Cond := .fieldLinkNest "TinSoldiers$Troops" 46 "TinSoldiers" "KINDS" "[LTinSoldiers$Kind;" "TinSoldiers"
def nlM : Cond := .methodLinkNest "TinSoldiers$Troops" 43 yX9_isKind "TinSoldiers"
/-- what stays as it was at the start: the kinds, the text, the links across the nest, the script -/
def Ex (K : KK) (U : State) : Prop :=
  va_En "TinSoldiers$Kind" "LTinSoldiers$Kind;" kNm kFl (fun k => kA K 9 k 0) (aA K) U U.heap ∧
  va_Z "TinSoldiers" "KINDS" "[LTinSoldiers$Kind;" (.ref (kA K 10 0 1)) (aA K) U U.heap ∧
  va_T (.object "TinSoldiers$Kind") (kA K 10 0 1) 5 (fun j => .ref (kA K 9 j 0)) (aA K) U U.heap ∧
  va_Z "java/lang/String" "COMPACT_STRINGS" "Z" (.int 1) (aA K) U U.heap ∧
  vk_S 1 [5] [sby] (fun _ => kA K 11 0 0) (fun _ => kA K 11 0 1) (aA K) U U.heap ∧
  vk_R "TinSoldiers$Page" 30 "odntg" (kA K 11 0 0) U ∧ vk_R "TinSoldiers$Game" 53 "odntg" (kA K 11 0 0) U ∧
  va_Nw nlF U ∧ va_Nw nlM U ∧ va_X (kA K 12 0 1) (kN K) (kX K) U U.heap ∧ ¬ aA K (kA K 12 0 1)
theorem va_X_lt {b L : Nat} {xs : Nat → Int32} {U : State} {H : Heap} (h : va_X b L xs U H) : b < H.size := by
  obtain ⟨scr, h1, -⟩ := h
  exact (Array.getElem?_eq_some_iff.mp h1).1
theorem Ex.to {K : KK} {s U : State} {H : Heap} {locs : List Loc} (h : Ex K s) (hS : va_S (aA K) s.heap H locs) (hU : U.heap = H) (hW : s.WarmedH U.vm) : Ex K U := by
  have hvm : s.vm.Alike U.vm := hW.alike
  subst hU
  obtain ⟨h1, h2, h3, h4, h5, h6, h7, h8, h9, h10, h11⟩ := h
  exact ⟨(va_En.moved hvm h1).kept hS.2.1, (va_Z.moved hvm h2).kept hS.2.1, (va_T.moved hvm h3).kept hS.2.1, (va_Z.moved hvm h4).kept hS.2.1, (vk_S.moved hvm h5).kept hS.2.1, vk_R.warm hW h6, vk_R.warm hW h7, va_Nw.warmF hW h8, va_Nw.warmM hW h9, (va_X.moved hvm h10).kept (hS.2.1 _ (va_X_lt h10) h11), h11⟩
theorem Ex.blind {K : KK} {U : State} {g : JFrame} {mk : MethodId} {a : Array Value} (h : Ex K U) : Ex K (U.calling g mk a) := by
  have hvm : U.vm.Alike (U.calling g mk a).vm := Vm.Alike.refl U.vm
  obtain ⟨h1, h2, h3, h4, h5, h6, h7, h8, h9, h10, h11⟩ := h
  exact ⟨va_En.moved hvm h1, va_Z.moved hvm h2, va_T.moved hvm h3, va_Z.moved hvm h4, vk_S.moved hvm h5, vk_R.same rfl h6, vk_R.same rfl h7, va_Nw.same rfl rfl h8, va_Nw.same rfl rfl h9, va_X.moved hvm h10, h11⟩
def KF (K : KK) (U : State) : Prop := va_K (kD K) vwCl (tyK K) U ∧ Ex K U ∧ kJ K
def rmD (d : Nat) : Room := { frames := d, cells := 0, slots := 0, locals := 60 * d }
def mW (n : Nat) : List Cond := mcode n :: lwG
def QQ (K : KK) (P : Option AV → Mm → Prop) : Array Value → State → Outcome → State → Prop := fun _ st o t => (∃ (r : Option AV) (μ' : Mm), o = .returned (r.map (cz K)) ∧ P r μ' ∧ va_P (kD K) vwCl (wrld K μ') t.heap) ∧ va_F (aA K) st t
/-- method n, from these arguments and this store, with a depth of d: it returns with P -/
def Ok (l : Launch) (K : KK) (d n : Nat) (as : List AV) (μ : Mm) (P : Option AV → Mm → Prop) : Prop :=
  Met l (mY n) (mW n) (rmD d) (va_Pc (as.map (cz K)) (fun U => va_P (kD K) vwCl (wrld K μ) U.heap ∧ KF K U)) (QQ K P) 0 0 (aA K)
abbrev LV : Type := List (Option AV)
def asc (K : KK) (lv : LV) : List (Nat × Value) := lv.zipIdx.filterMap fun q => q.1.map fun v => (q.2, cz K v)
theorem asc_mem {K : KK} {lv : LV} {i : Nat} {w : Value} : (i, w) ∈ asc K lv ↔ ∃ v, lv[i]? = some (some v) ∧ w = cz K v := by
  unfold asc
  rw [List.mem_filterMap]
  constructor
  · rintro ⟨⟨o, j⟩, hm, he⟩
    rw [List.mem_zipIdx_iff_getElem?] at hm
    cases o with
    | none => simp at he
    | some v =>
      simp only [Option.map_some, Option.some.injEq, Prod.mk.injEq] at he
      obtain ⟨rfl, rfl⟩ := he
      exact ⟨v, hm, rfl⟩
  · rintro ⟨v, h1, rfl⟩
    exact ⟨(some v, i), by rw [List.mem_zipIdx_iff_getElem?]; exact h1, rfl⟩
def lvo (K : KK) (ls : Array Slot) (nL : Nat) (lv : LV) : Prop := lv_has ls nL (asc K lv) ∧ lv.length = nL
theorem lvo_at {K : KK} {ls : Array Slot} {nL : Nat} {lv : LV} (h : lvo K ls nL lv) {i : Nat} {v : AV} (hv : lv[i]? = some (some v)) : ls[i]? = some (.val (cz K v)) := h.1.2.2 (i, cz K v) (asc_mem.mpr ⟨v, hv, rfl⟩)
def nol : Option AV → Bool
  | some (.inr (.inl _)) => false
  | _ => true
theorem cz_cat {K : KK} {v : AV} (h : nol (some v) = true) : (cz K v).category = 1 := by
  rcases v with x | x | x
  · rfl
  · cases h
  · rfl
def ldI : LV → Nat → (Int32 → Prop) → Prop
  | [], _, _ => False
  | y :: _, 0, g => match y with
    | some (.inl x) => g x
    | _ => False
  | _ :: r, i + 1, g => ldI r i g
def ldJ : LV → Nat → (Int64 → Prop) → Prop
  | [], _, _ => False
  | y :: _, 0, g => match y with
    | some (.inr (.inl x)) => g x
    | _ => False
  | _ :: r, i + 1, g => ldJ r i g
def ldR : LV → Nat → (Nat → Nat → Nat → Prop) → Prop
  | [], _, _ => False
  | y :: _, 0, g => match y with
    | some (.inr (.inr q)) => g q.1 q.2.1 q.2.2
    | _ => False
  | _ :: r, i + 1, g => ldR r i g
def sto : Option AV → LV → Nat → AV → (LV → Prop) → Prop
  | _, [], _, _, _ => False
  | pr, _ :: r, 0, v, g => if nol pr then g (some v :: r) else False
  | _, y :: r, i + 1, v, g => sto y r i v fun r' => g (y :: r')
def stJ : Option AV → LV → Nat → Int64 → (LV → Prop) → Prop
  | _, [], _, _, _ => False
  | _, [_], 0, _, _ => False
  | pr, _ :: _ :: r, 0, x, g => if nol pr then g (some (vJ x) :: none :: r) else False
  | _, y :: r, i + 1, x, g => stJ y r i x fun r' => g (y :: r')
theorem ldI_e : ∀ {lv : LV} {i : Nat} {g : Int32 → Prop}, ldI lv i g → ∃ x, lv[i]? = some (some (vI x)) ∧ g x
  | [], _, _, h => h.elim
  | some (.inl x) :: _, 0, _, h => ⟨x, rfl, h⟩
  | some (.inr _) :: _, 0, _, h => h.elim
  | none :: _, 0, _, h => h.elim
  | _ :: r, i + 1, _, h => by
    obtain ⟨x, h1, h2⟩ := ldI_e (lv := r) (i := i) h
    exact ⟨x, by rw [List.getElem?_cons_succ]; exact h1, h2⟩
theorem ldJ_e : ∀ {lv : LV} {i : Nat} {g : Int64 → Prop}, ldJ lv i g → ∃ x, lv[i]? = some (some (vJ x)) ∧ g x
  | [], _, _, h => h.elim
  | some (.inl x) :: _, 0, _, h => h.elim
  | some (.inr (.inl x)) :: _, 0, _, h => ⟨x, rfl, h⟩
  | some (.inr (.inr _)) :: _, 0, _, h => h.elim
  | none :: _, 0, _, h => h.elim
  | _ :: r, i + 1, _, h => by
    obtain ⟨x, h1, h2⟩ := ldJ_e (lv := r) (i := i) h
    exact ⟨x, by rw [List.getElem?_cons_succ]; exact h1, h2⟩
theorem ldR_e : ∀ {lv : LV} {i : Nat} {g : Nat → Nat → Nat → Prop}, ldR lv i g → ∃ c j s, lv[i]? = some (some (vR c j s)) ∧ g c j s
  | [], _, _, h => h.elim
  | some (.inl x) :: _, 0, _, h => h.elim
  | some (.inr (.inl x)) :: _, 0, _, h => h.elim
  | some (.inr (.inr q)) :: _, 0, _, h => ⟨q.1, q.2.1, q.2.2, rfl, h⟩
  | none :: _, 0, _, h => h.elim
  | _ :: r, i + 1, _, h => by
    obtain ⟨c, j, s, h1, h2⟩ := ldR_e (lv := r) (i := i) h
    exact ⟨c, j, s, by rw [List.getElem?_cons_succ]; exact h1, h2⟩
theorem sto_e : ∀ {pr : Option AV} {lv : LV} {i : Nat} {v : AV} {g : LV → Prop}, sto pr lv i v g → i < lv.length ∧ nol ((pr :: lv).getD i none) = true ∧ g (lv.set i (some v))
  | _, [], _, _, _, h => h.elim
  | pr, y :: r, 0, v, g, h => by
    unfold sto at h
    by_cases q : nol pr = true
    · rw [if_pos q] at h
      exact ⟨by simp, q, h⟩
    · rw [if_neg q] at h
      exact h.elim
  | pr, y :: r, i + 1, v, g, h => by
    obtain ⟨h1, h2, h3⟩ := sto_e (pr := y) (lv := r) (i := i) h
    exact ⟨by simpa using h1, h2, h3⟩
theorem stJ_e : ∀ {pr : Option AV} {lv : LV} {i : Nat} {x : Int64} {g : LV → Prop}, stJ pr lv i x g → i + 1 < lv.length ∧ nol ((pr :: lv).getD i none) = true ∧ g ((lv.set i (some (vJ x))).set (i + 1) none)
  | _, [], _, _, _, h => h.elim
  | _, [_], 0, _, _, h => h.elim
  | pr, y :: z :: r, 0, x, g, h => by
    unfold stJ at h
    by_cases q : nol pr = true
    · rw [if_pos q] at h
      exact ⟨by simp, q, h⟩
    · rw [if_neg q] at h
      exact h.elim
  | pr, y :: r, i + 1, x, g, h => by
    have h' : stJ y r i x fun r' => g (y :: r') := by
      cases r <;> exact h
    obtain ⟨h1, h2, h3⟩ := stJ_e (pr := y) (lv := r) (i := i) h'
    exact ⟨by simpa using h1, h2, h3⟩
/-- the locals behind a store of one slot -/
theorem lvo_set {K : KK} {ls' : Array Slot} {nL : Nat} {lv : LV} {i : Nat} {v : AV} (hlen : lv.length = nL) (hn : nol ((none :: lv).getD i none) = true) (h : lv_has ls' nL ((i, cz K v) :: (asc K lv).filter (fun q => !(q.1 == i) && !(q.1 + 1 == i && q.2.category == 2)))) : lvo K ls' nL (lv.set i (some v)) := by
  refine ⟨⟨h.1, h.2.1, fun q hq => ?_⟩, by simpa using hlen⟩
  obtain ⟨j, w⟩ := q
  obtain ⟨v', h1, rfl⟩ := asc_mem.mp hq
  apply h.2.2
  by_cases hj : j = i
  · subst hj
    rw [List.getElem?_set] at h1
    simp only [if_true] at h1
    split at h1
    · cases h1
      exact List.mem_cons_self
    · cases h1
  · rw [List.getElem?_set_ne (Ne.symm hj)] at h1
    refine List.mem_cons_of_mem _ (List.mem_filter.mpr ⟨asc_mem.mpr ⟨v', h1, rfl⟩, ?_⟩)
    have e1 : (j == i) = false := by simpa using hj
    rw [Bool.and_eq_true]
    refine ⟨by rw [e1]; rfl, ?_⟩
    by_cases h2 : j + 1 = i
    · subst h2
      have h3 : nol (lv.getD j none) = true := hn
      have h4 : lv.getD j none = some v' := by rw [List.getD_eq_getElem?_getD, h1]; rfl
      rw [h4] at h3
      rw [cz_cat h3]
      simp
    · have e2 : (j + 1 == i) = false := by simpa using h2
      rw [e2]; rfl
theorem lvo_setJ {K : KK} {ls' : Array Slot} {nL : Nat} {lv : LV} {i : Nat} {x : Int64} (hlen : lv.length = nL) (hn : nol ((none :: lv).getD i none) = true) (h : lv_has ls' nL ((i, Value.long x) :: (asc K lv).filter (fun q => !(q.1 == i) && (!(q.1 == i + 1) && !(q.1 + 1 == i && q.2.category == 2))))) : lvo K ls' nL ((lv.set i (some (vJ x))).set (i + 1) none) := by
  refine ⟨⟨h.1, h.2.1, fun q hq => ?_⟩, by simpa using hlen⟩
  obtain ⟨j, w⟩ := q
  obtain ⟨v', h1, rfl⟩ := asc_mem.mp hq
  apply h.2.2
  by_cases hj1 : j = i + 1
  · subst hj1
    rw [List.getElem?_set] at h1
    simp only [if_true] at h1
    split at h1 <;> cases h1
  · rw [List.getElem?_set_ne (Ne.symm hj1)] at h1
    by_cases hj : j = i
    · subst hj
      rw [List.getElem?_set] at h1
      simp only [if_true] at h1
      split at h1
      · cases h1
        exact List.mem_cons_self
      · cases h1
    · rw [List.getElem?_set_ne (Ne.symm hj)] at h1
      refine List.mem_cons_of_mem _ (List.mem_filter.mpr ⟨asc_mem.mpr ⟨v', h1, rfl⟩, ?_⟩)
      have e1 : (j == i) = false := by simpa using hj
      have e3 : (j == i + 1) = false := by simpa using hj1
      rw [Bool.and_eq_true, Bool.and_eq_true]
      refine ⟨by rw [e1]; rfl, by rw [e3]; rfl, ?_⟩
      by_cases h2 : j + 1 = i
      · subst h2
        have h3 : nol (lv.getD j none) = true := hn
        have h4 : lv.getD j none = some v' := by rw [List.getD_eq_getElem?_getD, h1]; rfl
        rw [h4] at h3
        rw [cz_cat h3]
        simp
      · have e2 : (j + 1 == i) = false := by simpa using h2
        rw [e2]; rfl
