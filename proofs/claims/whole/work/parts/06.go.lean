def rtD (n pc : Nat) : Option AV → Prop
  | none => decode (mC n) pc = .ok (.return_, 1) ∧ mR n = none
  | some (.inl x) => decode (mC n) pc = .ok (.ireturn, 1) ∧ ∃ ty, mR n = some ty ∧ narrow ty (.int x) = .int x
  | some (.inr (.inl _)) => decode (mC n) pc = .ok (.lreturn, 1) ∧ mR n = some .long
  | some (.inr (.inr _)) => decode (mC n) pc = .ok (.areturn, 1) ∧ ∃ nm, mR n = some (.object nm)
def Fx (K : KK) (d n : Nat) (p : Program) (R : Room) (s : State) (m : MethodId) (args : Array Value) (meth : Method) (c : Code) (cells slots : Nat) : Prop :=
  p.tables.exec = Jvm.exec ∧ c.code = mC n ∧ meth.sig.returnType = mR n ∧ c.maxLocals = mL n ∧ s.vm.findClass (oS (mO n)) = some m.cls ∧ (∀ w ∈ lwG, w.before args s = true) ∧ meth.locks = false ∧ KF K s ∧ d ≤ R.frames ∧ 60 * d ≤ R.locals ∧ cells ≤ R.cells ∧ slots ≤ R.slots
/-- what is to be done at a return -/
def RT (K : KK) (n : Nat) (p : Program) (l : Launch) (e : Env) (R : Room) (s : State) (m : MethodId) (args : Array Value) (below : List Frame) (meth : Method) (c : Code) (cells slots : Nat) (Q : State → Prop) (P : Option AV → Mm → Prop) : Prop :=
  ∀ (r : Option AV) (μ' : Mm) (H' : Heap) (locs' : List Loc) (pc' : Nat) (ls' : Array Slot), P r μ' → va_P (kD K) vwCl (wrld K μ') H' → va_S (aA K) s.heap H' locs' → rtD n pc' r → W p l e R s m args below meth c H' locs' cells slots Q (F0 m pc' ls' (r.toList.map (cz K)))
/-- from here on, in method n, it returns with P -/
def Go (l : Launch) (K : KK) (d n pc : Nat) (lv : LV) (st : List AV) (μ : Mm) (P : Option AV → Mm → Prop) : Prop :=
  ∀ (p : Program) (e : Env) (R : Room) (s : State) (m : MethodId) (args : Array Value) (below : List Frame) (meth : Method) (c : Code) (cells slots : Nat) (Q : State → Prop) (H : Heap) (locs : List Loc) (ls : Array Slot),
    Fx K d n p R s m args meth c cells slots → va_P (kD K) vwCl (wrld K μ) H → va_S (aA K) s.heap H locs → lvo K ls (mL n) lv → RT K n p l e R s m args below meth c cells slots Q P →
    W p l e R s m args below meth c H locs cells slots Q (F0 m pc ls (st.map (cz K)))
/-- a method's contract out of its body -/
theorem ok_of {l : Launch} {K : KK} {d n : Nat} {as : List AV} {μ : Mm} {P : Option AV → Mm → Prop} (hy : plainY n = true) (lv : LV) (hl0 : lv.length = mL n) (hlen : (lg_sl (as.map (cz K))).length ≤ mL n) (hlv : ∀ i v, lv[i]? = some (some v) → (i, cz K v) ∈ lv_args 0 (as.map (cz K))) (h : Go l K d n 0 lv [] μ P) : Ok l K d n as μ P := by
  simp only [plainY, Bool.and_eq_true, decide_eq_true_eq] at hy
  obtain ⟨⟨⟨⟨⟨-, -⟩, -⟩, hpl⟩, hcls⟩, -⟩ := hy
  refine Met.ofW (cc := mC n) (maxL := mL n) (ret := mR n) (ws' := lwG) hpl rfl ?_
  intro p e s m args below meth c s₁ B hml hv
  obtain ⟨rfl, hP, hK⟩ := hv
  have hts := atoms_spec (ws := mW n) B.pre
  have hown : s.vm.findClass (mY n).cls = some m.cls := findClass_of_methodNamed B.named
  have hF : Fx K d n p (headSpec (mW n) (rmD d)).room s m (as.map (cz K)).toArray meth c 0 0 := ⟨B.exec, B.bytes, B.returns, hml, by rw [← hcls]; exact hown, fun w hw => hts w (List.mem_cons_of_mem _ hw), B.notSynchronized, hK, Nat.le_refl d, Nat.le_refl _, Nat.zero_le _, Nat.zero_le _⟩
  rw [lg_entry_eq]
  have hl := lv_entry (as.map (cz K)) (n := mL n) hlen
  refine h p e _ s m _ below meth c 0 0 _ s.heap [] _ hF hP va_S.rf ⟨⟨hl.1, hl.2.1, fun q hq => ?_⟩, hl0⟩ ?_
  · obtain ⟨i, w⟩ := q
    obtain ⟨v, h1, rfl⟩ := asc_mem.mp hq
    exact hl.2.2 _ (hlv i v h1)
  · intro r μ' H' locs' pc' ls' hp hP' hS' hr
    have hlocks := B.notSynchronized
    have hq : ∀ t : State, t.heap = H' → QQ K P (as.map (cz K)).toArray s (.returned (r.map (cz K))) t := fun t ht => ⟨⟨r, μ', rfl, hp, by rw [ht]; exact hP'⟩, hS'.F ht⟩
    rcases r with _ | x | x | x
    · exact W.vret B.exec B.bytes (B.returns.trans hr.2) (fun t ht _ => hq t ht) hS'.2.2 hr.1
    · obtain ⟨hd, ty, hty, hn⟩ := hr
      exact W.zret B.exec B.bytes (B.returns.trans hty) hn (fun t ht _ => hq t ht) hS'.2.2 hd
    · exact W.lret B.exec B.bytes (B.returns.trans hr.2) (fun t ht _ => hq t ht) hS'.2.2 hr.1
    · obtain ⟨hd, nm, hty⟩ := hr
      exact W.aret B.exec B.bytes (B.returns.trans hty) (Or.inl ⟨nm, rfl⟩) (Or.inr ⟨_, rfl⟩) (fun t ht _ => hq t ht) hS'.2.2 hd
/-- behind a call -/
theorem va_callG {p : Program} {l : Launch} {e : Env} {R : Room} {s : State} {m : MethodId} {args : Array Value} {below : List Frame} {meth : Method} {c : Code} {H : Heap} {locs : List Loc} {cells slots : Nat} {Q : State → Prop} {pc : Nat} {ls : Array Slot} {rest st0 : List Value} {a : Array Value} {K : KK} {P' : Option AV → Mm → Prop}
    (hr : va_Run p l e R s m args below meth c H locs cells slots 0 0 (F0 m pc ls st0) rest (QQ K P' a) (aA K)) (hS : va_S (aA K) s.heap H locs)
    (kk : ∀ (r : Option AV) (μ' : Mm) (H1 : Heap) (locs1 : List Loc), P' r μ' → va_P (kD K) vwCl (wrld K μ') H1 → va_S (aA K) s.heap H1 locs1 → W p l e R s m args below meth c H1 locs1 cells slots Q (F0 m (pc + 3) ls ((r.map (cz K)).toList ++ rest))) : W p l e R s m args below meth c H locs cells slots Q (F0 m pc ls st0) := by
  intro T hT X
  obtain ⟨v, st₀, t, T', L, h0, X', hL, e1, e2, ⟨⟨r, μ', hv, hp, hb⟩, hz, hk⟩, st⟩ := hr T hT X
  rw [h0] at hz hk
  cases hv
  obtain ⟨t2, a1, b1⟩ := kk r μ' T'.heap (locs ++ L) hp (by rw [e1]; exact hb)
    ⟨Nat.le_trans hS.1 (by rw [e1]; exact hz), fun q h1 h2 => by rw [e1, hk q (Nat.lt_of_lt_of_le h1 hS.1) h2]; exact hS.2.1 q h1 h2, fun q hq => by
      rcases List.mem_append.mp hq with h | h
      · exact hS.2.2 q h
      · exact hL q h⟩ T' rfl X'
  exact ⟨t2, st t2 a1, b1⟩
theorem preK {K : KK} {s : State} {H : Heap} {locs : List Loc} {μ : Mm} {as : List AV} (hP : va_P (kD K) vwCl (wrld K μ) H) (hK : KF K s) (hS : va_S (aA K) s.heap H locs) : PreS s H (va_Pc (as.map (cz K)) (fun U => va_P (kD K) vwCl (wrld K μ) U.heap ∧ KF K U)) (as.map (cz K)) := by
  refine ⟨fun a U g mk q => ?_, fun U hU hW => ⟨rfl, by rw [hU]; exact hP, va_K.moved hW.alike hK.1, hK.2.1.to hS hU hW, hK.2.2⟩⟩
  obtain ⟨q0, qP, qK, qE, qJ⟩ := q
  exact ⟨q0, qP, va_K.moved (u := U) (U := U.calling g mk a) (Vm.Alike.refl U.vm) qK, qE.blind, qJ⟩
theorem goodG {w : Cond} (h : w ∈ lwG) : w ∈ lwG ∧ ((w.onTables && w.keeps) = true ∨ ∃ ty, w = .arrayClass ty) := ⟨h, good_of_word (List.mem_filter.mp h).2⟩
theorem goodM {n : Nat} (h : mcode n ∈ lwG) : GoodIn lwG (mW n) := fun w hw => by
  rcases List.mem_cons.mp hw with rfl | hw
  · exact goodG h
  · exact goodG hw
/-- a text that is taken from the stack, its receiver first -/
def spl : Nat → List AV → List AV → (List AV → List AV → Prop) → Prop
  | 0, st, acc, g => g acc st
  | _ + 1, [], _, _ => False
  | b + 1, v :: st, acc, g => spl b st (v :: acc) g
theorem spl_e : ∀ {b : Nat} {st acc : List AV} {g : List AV → List AV → Prop}, spl b st acc g → ∃ as r, st = as.reverse ++ r ∧ as.length = b ∧ g (as ++ acc) r
  | 0, st, acc, g, h => ⟨[], st, rfl, rfl, h⟩
  | _ + 1, [], _, _, h => h.elim
  | b + 1, v :: st, acc, g, h => by
    obtain ⟨as, r, h1, h2, h3⟩ := spl_e (b := b) h
    exact ⟨as ++ [v], r, by rw [h1]; simp, by simp [h2], by simpa using h3⟩
def cat (v : AV) : Nat := match v with
  | .inr (.inl _) => 2
  | _ => 1
def rsum (r : List AV) : Nat := match r with
  | [] => 0
  | v :: r => cat v + rsum r
theorem rsum_eq (K : KK) : ∀ r : List AV, ((r.map (cz K)).map fun v => v.category).sum = rsum r
  | [] => rfl
  | v :: r => by
    have h : (cz K v).category = cat v := by rcases v with x | x | x <;> rfl
    simp only [List.map_cons, List.sum_cons, rsum, rsum_eq K r, h]
def ps (r : Option AV) (st : List AV) : List AV := match r with
  | some v => v :: st
  | none => st
theorem ps_eq (K : KK) (r : Option AV) (st : List AV) : (ps r st).map (cz K) = (r.map (cz K)).toList ++ st.map (cz K) := by cases r <;> rfl
/-- the call itself, of a method of an object, and of a static one -/
theorem go_callV {l : Launch} {K : KK} {d n pc a i : Nat} {lv : LV} {as r : List AV} {μ : Mm} {P : Option AV → Mm → Prop} {c' i' s' : Nat}
    (hd : decode (mC n) pc = .ok (.invokevirtual i, 3)) (hlk : Cond.methodLink (oS (mO n)) i (mY a) ∈ lwG) (hv : ∃ t ∈ vT, t.1 = a)
    (hA : as.length = mA a) (hrs : rsum r ≤ 8) (hd1 : 1 ≤ d)
    (hrc : ∀ (s : State) (H : Heap) (locs : List Loc), KF K s → va_P (kD K) vwCl (wrld K μ) H → va_S (aA K) s.heap H locs → ∃ cell : Cell, H[kA K c' i' s']? = some cell ∧ cell.vm.isStatics = false ∧ s.vm.findClass (mY a).cls = some cell.cls)
    (h : Ok l K (d - 1) a (vR c' i' s' :: as) μ (fun rv μ' => Go l K d n (pc + 3) lv (ps rv r) μ' P)) : Go l K d n pc lv (as.reverse ++ vR c' i' s' :: r) μ P := by
  obtain ⟨t, ht, rfl⟩ := hv
  obtain ⟨hpy, hc, hi, hin, hse⟩ := vT_ok t ht
  have gc := lwG_at hc rfl
  have gi := lwG_at hi rfl
  have gin := lwG_at hin rfl
  have gse := lwG_at hse rfl
  simp only [plainY, Bool.and_eq_true, decide_eq_true_eq] at hpy
  obtain ⟨⟨⟨⟨⟨hm1, hm2⟩, hm3⟩, hpl⟩, hcls⟩, hL⟩ := hpy
  intro p e R s m args below meth c cells slots Q H locs ls F hP hS hl hR
  have F0' := F
  obtain ⟨hx, hb, hr, hml, hown, hts, hlk2, hK, hfr, hlo, hce, hsl⟩ := F
  have cw : CallW R s args (oS (mO n)) (mY t.1).cls i (mY t.1) (mC t.1) (mL t.1) (mR t.1) (mW t.1) (rmD (d - 1)) 0 0 (mA t.1) := by
    refine cwV (mA t.1) hts ?_ rfl rfl rfl ⟨rfl, hm1, hm2, hm3⟩ ⟨?_, ?_⟩
    · intro w hw
      unfold wsV at hw
      rcases List.mem_append.mp hw with hw | hw
      · simp only [List.mem_cons, List.not_mem_nil, or_false] at hw
        rcases hw with rfl | rfl | rfl | rfl
        · exact goodG hlk
        · exact goodG gin
        · exact goodG gse
        · exact goodG gi
      · exact goodM gc w hw
    · show d - 1 + 1 ≤ R.frames; omega
    · show 8 + (mL t.1 + 11) + 60 * (d - 1) ≤ R.locals; omega
  have hp := preK (as := vR c' i' s' :: as) hP hK hS
  refine va_callG (va_runV (As := as.map (cz K)) (rest := r.map (cz K)) (b := kA K c' i' s') ⟨hx, hb, hml, hown, hts⟩ h cw ⟨hp.1, hrc s H locs hK hP hS, hp.2⟩ rfl (by rw [List.length_map]; exact hA) (hl.1.1) ?_ (lv_room ?_) hd ⟨hce, hsl⟩) hS ?_
  · show List.map (cz K) (as.reverse ++ vR c' i' s' :: r) = _
    rw [List.map_append, List.map_reverse]; rfl
  · rw [rsum_eq]; exact hrs
  · intro rv μ' H1 locs1 hg hP1 hS1
    have := hg p e R s m args below meth c cells slots Q H1 locs1 ls F0' hP1 hS1 hl hR
    rw [ps_eq] at this
    exact this
theorem go_callS {l : Launch} {K : KK} {d n pc a i : Nat} {lv : LV} {as r : List AV} {μ : Mm} {P : Option AV → Mm → Prop}
    (hd : decode (mC n) pc = .ok (.invokestatic i, 3)) (hlk : Cond.methodLink (oS (mO n)) i (mY a) ∈ lwG) (hv : ∃ t ∈ sT, t.1 = a)
    (hA : as.length = mA a) (hrs : rsum r ≤ 8) (hd1 : 1 ≤ d)
    (h : Ok l K (d - 1) a as μ (fun rv μ' => Go l K d n (pc + 3) lv (ps rv r) μ' P)) : Go l K d n pc lv (as.reverse ++ r) μ P := by
  obtain ⟨t, ht, rfl⟩ := hv
  obtain ⟨hpy, hc, hi, hst⟩ := sT_ok t ht
  have gc := lwG_at hc rfl
  have gi := lwG_at hi rfl
  have gst := lwG_at hst rfl
  simp only [plainY, Bool.and_eq_true, decide_eq_true_eq] at hpy
  obtain ⟨⟨⟨⟨⟨hm1, hm2⟩, hm3⟩, hpl⟩, hcls⟩, hL⟩ := hpy
  intro p e R s m args below meth c cells slots Q H locs ls F hP hS hl hR
  have F0' := F
  obtain ⟨hx, hb, hr, hml, hown, hts, hlk2, hK, hfr, hlo, hce, hsl⟩ := F
  have cw : CallB R s args (oS (mO n)) i (mY t.1) (mC t.1) (mL t.1) (mR t.1) (mW t.1) (rmD (d - 1)) 0 0 (mA t.1) ∧ (Cond.static (mY t.1)).before args s = true := by
    refine va_cwS (mA t.1) hts ?_ rfl rfl rfl ⟨hm1, hm2, hm3⟩ ⟨?_, ?_⟩
    · intro w hw
      unfold va_wsS at hw
      rcases List.mem_append.mp hw with hw | hw
      · simp only [List.mem_cons, List.not_mem_nil, or_false] at hw
        rcases hw with rfl | rfl | rfl
        · exact goodG hlk
        · exact goodG gst
        · exact goodG gi
      · exact goodM gc w hw
    · show d - 1 + 1 ≤ R.frames; omega
    · show 8 + (mL t.1 + 11) + 60 * (d - 1) ≤ R.locals; omega
  refine va_callG (va_runS (As := as.map (cz K)) (rest := r.map (cz K)) ⟨hx, hb, hml, hown, hts⟩ h cw (preK hP hK hS) rfl (by rw [List.length_map]; exact hA) (hl.1.1) ?_ (lv_room ?_) hd ⟨hce, hsl⟩) hS ?_
  · show List.map (cz K) (as.reverse ++ r) = _
    rw [List.map_append, List.map_reverse]
  · rw [rsum_eq]; exact hrs
  · intro rv μ' H1 locs1 hg hP1 hS1
    have := hg p e R s m args below meth c cells slots Q H1 locs1 ls F0' hP1 hS1 hl hR
    rw [ps_eq] at this
    exact this
