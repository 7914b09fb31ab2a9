def ln : Instr → Nat
  | .bipush _ => 2
  | .iload _ => 2
  | .aload _ => 2
  | .istore _ => 2
  | .astore _ => 2
  | .ldc _ => 2
  | .sipush _ => 3
  | .ldc_w _ => 3
  | .ldc2_w _ => 3
  | .getfield _ => 3
  | .putfield _ => 3
  | .getstatic _ => 3
  | .iinc _ _ => 3
  | .goto _ => 3
  | .ifCond _ _ => 3
  | .if_icmp _ _ => 3
  | .if_acmp _ _ => 3
  | .invokevirtual _ => 3
  | .invokestatic _ => 3
  | _ => 1
def dcI (n pc : Nat) : Option (Instr × Nat) := match decode (mC n) pc with
  | .ok r => some r
  | .error _ => none
theorem dcI_e {n pc : Nat} {r : Instr × Nat} (h : dcI n pc = some r) : decode (mC n) pc = .ok r := by
  unfold dcI at h
  split at h
  · cases h; assumption
  · cases h
def isOb : Option FieldType → Bool
  | some (.object _) => true
  | _ => false
def isTy (c : Nat) : Option FieldType → Bool
  | some .int => c == 0
  | some .boolean => c == 1
  | some .byte => c == 1
  | some .long => c == 2
  | none => c == 3
  | _ => false
def hk1 (n pc : Nat) (q : QI) : Bool := match q.1 with
  | .getfield i => if q.2.1 = 9 then kT.any (fun t => t.1 == mO n && t.2.1 == i && t.2.2.1 == q.2.2.1)
    else if q.2.1 = 11 then mO n == 14 && ((q.2.2.1 == 0 && i == 9) || (q.2.2.1 == 1 && i == 15))
    else fE n i q.2.1 q.2.2.1
  | .putfield i => fE n i q.2.1 q.2.2.1
  | .getstatic i => if q.2.1 = 9 then gT.any (fun t => t.1 == mO n && t.2.1 == i && t.2.2.1 == q.2.2.1)
    else if q.2.1 = 10 then (mO n == 7 && i == 171) || (mO n == 6 && i == 46) else mO n == 14 && i == 38
  | .ldc i => if q.2.1 = 1 then (mO n == 3 && i == 30) || (mO n == 1 && i == 53) else cT.any (fun t => t.1 == mO n && t.2.1 == i && t.2.2.1 == q.2.2.2)
  | .ldc_w i => cT.any (fun t => t.1 == mO n && t.2.1 == i && t.2.2.1 == q.2.2.2)
  | .ldc2_w i => lT.any (fun t => t.1 == mO n && t.2.1 == i && t.2.2.1 == q.2.2.2)
  | .goto off => decide ((pc : Int) + off = (q.2.1 : Int))
  | .ifCond _ off => decide ((pc : Int) + off = (q.2.1 : Int))
  | .if_icmp _ off => decide ((pc : Int) + off = (q.2.1 : Int))
  | .if_acmp _ off => decide ((pc : Int) + off = (q.2.1 : Int))
  | .lookupswitch _ prs => (prs.toList.zip (prs.toList.drop 1)).all (fun (a, next) => a.1 < next.1)
  | .invokevirtual i => nT.any (fun t => t.1 == mO n && t.2.1 == i && t.2.2.1 == q.2.1) && vT.any (fun t => t.1 == q.2.1) && mA q.2.1 == q.2.2.1 && ((decide ((mO q.2.1 : Int) = q.2.2.2) && decide (mO q.2.1 < 9)) || (decide (q.2.2.2 = 9) && mO q.2.1 == 10) || (decide (q.2.2.2 = 11) && mO q.2.1 == 14))
  | .invokestatic i => if q.2.1 = 1000 then aT.any (fun t => t.1 == mO n && t.2.1 == i && t.2.2.1 == 0)
    else if q.2.1 = 1001 then aT.any (fun t => t.1 == mO n && t.2.1 == i && t.2.2.1 == 1)
    else if q.2.1 = 1002 then aT.any (fun t => t.1 == mO n && t.2.1 == i && t.2.2.1 == 2)
    else if q.2.2.2 = 1 then mO n == 6 && i == 43 && q.2.1 == 100 && q.2.2.1 == 1
    else nT.any (fun t => t.1 == mO n && t.2.1 == i && t.2.2.1 == q.2.1) && sT.any (fun t => t.1 == q.2.1) && mA q.2.1 == q.2.2.1
  | .ireturn => isTy q.2.1 (mR n)
  | .lreturn => isTy 2 (mR n)
  | .areturn => isOb (mR n)
  | .return_ => isTy 3 (mR n)
  | _ => true
def sw1 : Instr → Bool
  | .tableswitch _ _ _ _ => true
  | .lookupswitch _ _ => true
  | _ => false
def chk1 (n pc : Nat) (q : QI) : Bool := (if sw1 q.1 then decide ((dcI n pc).map (fun r => r.1) = some q.1) else decide (dcI n pc = some (q.1, ln q.1))) && hk1 n pc q
section
variable {l : Launch} {K : KK} {d n pc : Nat} {lv : LV} {st : List AV} {μ : Mm} {P : Option AV → Mm → Prop}
theorem any3 {α : Type} {T : List (Nat × Nat × α × Nat)} [BEq α] [LawfulBEq α] {o i : Nat} {v : α} (h : T.any (fun t => t.1 == o && t.2.1 == i && t.2.2.1 == v) = true) : ∃ t ∈ T, t.1 = o ∧ t.2.1 = i ∧ t.2.2.1 = v := by
  obtain ⟨t, ht, h2⟩ := List.any_eq_true.mp h
  simp only [Bool.and_eq_true, beq_iff_eq] at h2
  exact ⟨t, ht, h2.1.1, h2.1.2, h2.2⟩
theorem lnk {i a : Nat} (h : nT.any (fun t => t.1 == mO n && t.2.1 == i && t.2.2.1 == a) = true) : Cond.methodLink (oS (mO n)) i (mY a) ∈ lwG := by
  obtain ⟨t, ht, e1, e2, e3⟩ := any3 h
  have := nT_ok t ht
  rw [e1, e2, e3] at this
  exact lwG_at this rfl
/-- a rule that only touches the stack -/
theorem go_st {st' : List AV} {pc' : Nat} (hw : ∀ (p : Program) (e : Env) (R : Room) (s : State) (m : MethodId) (args : Array Value) (below : List Frame) (meth : Method) (c : Code) (cells slots : Nat) (Q : State → Prop) (H : Heap) (locs : List Loc) (ls : Array Slot), Fx K d n p R s m args meth c cells slots → va_S (aA K) s.heap H locs → lvo K ls (mL n) lv →
    W p l e R s m args below meth c H locs cells slots Q (F0 m pc' ls (st'.map (cz K))) → W p l e R s m args below meth c H locs cells slots Q (F0 m pc ls (st.map (cz K)))) (h : Go l K d n pc' lv st' μ P) : Go l K d n pc lv st μ P :=
  fun p e R s m args below meth c cells slots Q H locs ls F hP hS hl hR => hw p e R s m args below meth c cells slots Q H locs ls F hS hl (h p e R s m args below meth c cells slots Q H locs ls F hP hS hl hR)
theorem go_sto {v : AV} {i w : Nat} {x : Value} (hnv : nol (some v) = true) (hx : cz K v = x)
    (hw : ∀ (p : Program) (e : Env) (R : Room) (s : State) (m : MethodId) (args : Array Value) (below : List Frame) (meth : Method) (c : Code) (cells slots : Nat) (Q : State → Prop) (H : Heap) (locs : List Loc) (ls : Array Slot) (la lb : List (Nat × Value)), Fx K d n p R s m args meth c cells slots → lv_has ls (mL n) la → i < mL n → (i, x) :: la.filter (fun q => !(q.1 == i) && !(q.1 + 1 == i && q.2.category == 2)) = lb →
      (∀ ls' : Array Slot, lv_has ls' (mL n) lb → W p l e R s m args below meth c H locs cells slots Q (F0 m (pc + w) ls' (st.map (cz K)))) → W p l e R s m args below meth c H locs cells slots Q (F0 m pc ls (x :: st.map (cz K))))
    (h : sto none lv i v fun lv' => Go l K d n (pc + w) lv' st μ P) : Go l K d n pc lv (v :: st) μ P := by
  obtain ⟨h1, h2, h3⟩ := sto_e h
  intro p e R s m args below meth c cells slots Q H locs ls F hP hS hl hR
  show W p l e R s m args below meth c H locs cells slots Q (F0 m pc ls (cz K v :: st.map (cz K)))
  rw [hx]
  refine hw p e R s m args below meth c cells slots Q H locs ls (asc K lv) _ F hl.1 (by rw [← hl.2]; exact h1) rfl (fun ls' hl' => ?_)
  rw [← hx] at hl'
  exact h3 p e R s m args below meth c cells slots Q H locs ls' F hP hS (lvo_set hl.2 h2 hl') hR
theorem vn_e {a : Nat} (h : vT.any (fun t => t.1 == a) = true) : ∃ t ∈ vT, t.1 = a := by
  obtain ⟨t, ht, h2⟩ := List.any_eq_true.mp h
  exact ⟨t, ht, by simpa using h2⟩
theorem sn_e {a : Nat} (h : sT.any (fun t => t.1 == a) = true) : ∃ t ∈ sT, t.1 = a := by
  obtain ⟨t, ht, h2⟩ := List.any_eq_true.mp h
  exact ⟨t, ht, by simpa using h2⟩
theorem v_cls {a : Nat} (h : vT.any (fun t => t.1 == a) = true) : (mY a).cls = oS (mO a) := by
  obtain ⟨t, ht, rfl⟩ := vn_e h
  have hpy := (vT_ok t ht).1
  simp only [plainY, Bool.and_eq_true, decide_eq_true_eq] at hpy
  exact hpy.1.2
theorem recvW {a c i : Nat} (hc : mO a = c) (h9 : c < 9) (hi : i < cnt c) (hv : vT.any (fun t => t.1 == a) = true) (s : State) (H : Heap) (locs : List Loc) (hK : KF K s) (hP : va_P (kD K) vwCl (wrld K μ) H) (_ : va_S (aA K) s.heap H locs) : ∃ cell : Cell, H[kA K c i 0]? = some cell ∧ cell.vm.isStatics = false ∧ s.vm.findClass (mY a).cls = some cell.cls := by
  obtain ⟨q0, hq0⟩ := List.getElem?_of_mem (dom_ob c h9 i hi)
  have he := w_at (K := K) (μ := μ) hq0
  rw [ent_ob] at he
  have := va_recv hK.1 hP (vw_at c h9) he
  rw [v_cls hv, hc]
  exact this
theorem recvE {a i : Nat} (hc : mO a = 10) (hi : i < 5) (hv : vT.any (fun t => t.1 == a) = true) (s : State) (H : Heap) (locs : List Loc) (hK : KF K s) (_ : va_P (kD K) vwCl (wrld K μ) H) (hS : va_S (aA K) s.heap H locs) : ∃ cell : Cell, H[kA K 9 i 0]? = some cell ∧ cell.vm.isStatics = false ∧ s.vm.findClass (mY a).cls = some cell.cls := by
  have := va_recvE (i := i) hK.2.1.1 hi hS
  rw [v_cls hv, hc]
  exact this
theorem recvT {a : Nat} (hc : mO a = 14) (hv : vT.any (fun t => t.1 == a) = true) (s : State) (H : Heap) (locs : List Loc) (hK : KF K s) (_ : va_P (kD K) vwCl (wrld K μ) H) (hS : va_S (aA K) s.heap H locs) : ∃ cell : Cell, H[kA K 11 0 0]? = some cell ∧ cell.vm.isStatics = false ∧ s.vm.findClass (mY a).cls = some cell.cls := by
  have := vk_recv (i := 0) hK.2.1.2.2.2.2.1 (by decide) hS
  rw [v_cls hv, hc]
  exact this
end
