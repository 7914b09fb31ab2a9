def tyKN : String := "LTinSoldiers$Kind;"
theorem f5 {P : Nat → Prop} (h0 : P 0) (h1 : P 1) (h2 : P 2) (h3 : P 3) (h4 : P 4) : ∀ i, i < 5 → P i := by
  intro i hi
  rcases (show i = 0 ∨ i = 1 ∨ i = 2 ∨ i = 3 ∨ i = 4 by omega) with z | z | z | z | z <;> subst z <;> assumption
theorem tb_at {s : State} {args : Array Value} (hts : ∀ w ∈ lw_tbl, w.before args s = true) (i : Nat) {w : Cond} (h : lw_tbl[i]? = some w) : w.before args s = true := hts w (List.mem_of_getElem? h)
theorem en0 {s : State} {args : Array Value} {A : Nat → Prop} (hts : ∀ w ∈ lw_tbl, w.before args s = true) (hgv : (Jvm.Cond.and given_1 narrow_1).before args s = true) (hA : ∀ a : Nat, a < s.heap.size → ¬ A a) : ∃ ad : Nat → Nat, va_En "TinSoldiers$Kind" "LTinSoldiers$Kind;" kNm kFl ad A s s.heap ∧ ∀ i, i < kNm.length → (Term.static "TinSoldiers$Kind" (kNm.getD i "") "LTinSoldiers$Kind;").eval args s none [] s = some (.ref (ad i)) := by
  have hs := flat_of_before _ hgv
  have l0 : (Cond.laysStatic "TinSoldiers$Kind" "SOLDIER" "LTinSoldiers$Kind;").before args s = true := tb_at hts 590 (by decide +kernel)
  have x0 : (Cond.exactly (.static "TinSoldiers$Kind" "SOLDIER" "LTinSoldiers$Kind;") "TinSoldiers$Kind").before args s = true := hs _ (by decide +kernel)
  have h0 : (Cond.eq (.field (.static "TinSoldiers$Kind" "SOLDIER" "LTinSoldiers$Kind;") "TinSoldiers$Kind" "hitsToFall" "I") (.int 1)).before args s = true := hs _ (by decide +kernel)
  have q0 : (Cond.eq (.field (.static "TinSoldiers$Kind" "SOLDIER" "LTinSoldiers$Kind;") "TinSoldiers$Kind" "lossByStep" "I") (.int 2)).before args s = true := hs _ (by decide +kernel)
  have l1 : (Cond.laysStatic "TinSoldiers$Kind" "OFFICER" "LTinSoldiers$Kind;").before args s = true := tb_at hts 610 (by decide +kernel)
  have x1 : (Cond.exactly (.static "TinSoldiers$Kind" "OFFICER" "LTinSoldiers$Kind;") "TinSoldiers$Kind").before args s = true := hs _ (by decide +kernel)
  have h1 : (Cond.eq (.field (.static "TinSoldiers$Kind" "OFFICER" "LTinSoldiers$Kind;") "TinSoldiers$Kind" "hitsToFall" "I") (.int 2)).before args s = true := hs _ (by decide +kernel)
  have q1 : (Cond.eq (.field (.static "TinSoldiers$Kind" "OFFICER" "LTinSoldiers$Kind;") "TinSoldiers$Kind" "lossByStep" "I") (.int 2)).before args s = true := hs _ (by decide +kernel)
  have l2 : (Cond.laysStatic "TinSoldiers$Kind" "SPY" "LTinSoldiers$Kind;").before args s = true := tb_at hts 662 (by decide +kernel)
  have x2 : (Cond.exactly (.static "TinSoldiers$Kind" "SPY" "LTinSoldiers$Kind;") "TinSoldiers$Kind").before args s = true := hs _ (by decide +kernel)
  have h2 : (Cond.eq (.field (.static "TinSoldiers$Kind" "SPY" "LTinSoldiers$Kind;") "TinSoldiers$Kind" "hitsToFall" "I") (.int 0)).before args s = true := hs _ (by decide +kernel)
  have q2 : (Cond.eq (.field (.static "TinSoldiers$Kind" "SPY" "LTinSoldiers$Kind;") "TinSoldiers$Kind" "lossByStep" "I") (.int 2)).before args s = true := hs _ (by decide +kernel)
  have l3 : (Cond.laysStatic "TinSoldiers$Kind" "GUNNER" "LTinSoldiers$Kind;").before args s = true := tb_at hts 650 (by decide +kernel)
  have x3 : (Cond.exactly (.static "TinSoldiers$Kind" "GUNNER" "LTinSoldiers$Kind;") "TinSoldiers$Kind").before args s = true := hs _ (by decide +kernel)
  have h3 : (Cond.eq (.field (.static "TinSoldiers$Kind" "GUNNER" "LTinSoldiers$Kind;") "TinSoldiers$Kind" "hitsToFall" "I") (.int 1)).before args s = true := hs _ (by decide +kernel)
  have q3 : (Cond.eq (.field (.static "TinSoldiers$Kind" "GUNNER" "LTinSoldiers$Kind;") "TinSoldiers$Kind" "lossByStep" "I") (.int 1)).before args s = true := hs _ (by decide +kernel)
  have l4 : (Cond.laysStatic "TinSoldiers$Kind" "BENT" "LTinSoldiers$Kind;").before args s = true := tb_at hts 608 (by decide +kernel)
  have x4 : (Cond.exactly (.static "TinSoldiers$Kind" "BENT" "LTinSoldiers$Kind;") "TinSoldiers$Kind").before args s = true := hs _ (by decide +kernel)
  have h4 : (Cond.eq (.field (.static "TinSoldiers$Kind" "BENT" "LTinSoldiers$Kind;") "TinSoldiers$Kind" "hitsToFall" "I") (.int 2)).before args s = true := hs _ (by decide +kernel)
  have q4 : (Cond.eq (.field (.static "TinSoldiers$Kind" "BENT" "LTinSoldiers$Kind;") "TinSoldiers$Kind" "lossByStep" "I") (.int 2)).before args s = true := hs _ (by decide +kernel)
  have n04 : (Cond.not (Cond.eq (.static "TinSoldiers$Kind" "SOLDIER" "LTinSoldiers$Kind;") (.static "TinSoldiers$Kind" "BENT" "LTinSoldiers$Kind;"))).before args s = true := hs _ (by decide +kernel)
  have n01 : (Cond.not (Cond.eq (.static "TinSoldiers$Kind" "SOLDIER" "LTinSoldiers$Kind;") (.static "TinSoldiers$Kind" "OFFICER" "LTinSoldiers$Kind;"))).before args s = true := hs _ (by decide +kernel)
  have n03 : (Cond.not (Cond.eq (.static "TinSoldiers$Kind" "SOLDIER" "LTinSoldiers$Kind;") (.static "TinSoldiers$Kind" "GUNNER" "LTinSoldiers$Kind;"))).before args s = true := hs _ (by decide +kernel)
  have n02 : (Cond.not (Cond.eq (.static "TinSoldiers$Kind" "SOLDIER" "LTinSoldiers$Kind;") (.static "TinSoldiers$Kind" "SPY" "LTinSoldiers$Kind;"))).before args s = true := hs _ (by decide +kernel)
  have n41 : (Cond.not (Cond.eq (.static "TinSoldiers$Kind" "BENT" "LTinSoldiers$Kind;") (.static "TinSoldiers$Kind" "OFFICER" "LTinSoldiers$Kind;"))).before args s = true := hs _ (by decide +kernel)
  have n43 : (Cond.not (Cond.eq (.static "TinSoldiers$Kind" "BENT" "LTinSoldiers$Kind;") (.static "TinSoldiers$Kind" "GUNNER" "LTinSoldiers$Kind;"))).before args s = true := hs _ (by decide +kernel)
  have n42 : (Cond.not (Cond.eq (.static "TinSoldiers$Kind" "BENT" "LTinSoldiers$Kind;") (.static "TinSoldiers$Kind" "SPY" "LTinSoldiers$Kind;"))).before args s = true := hs _ (by decide +kernel)
  have n13 : (Cond.not (Cond.eq (.static "TinSoldiers$Kind" "OFFICER" "LTinSoldiers$Kind;") (.static "TinSoldiers$Kind" "GUNNER" "LTinSoldiers$Kind;"))).before args s = true := hs _ (by decide +kernel)
  have n12 : (Cond.not (Cond.eq (.static "TinSoldiers$Kind" "OFFICER" "LTinSoldiers$Kind;") (.static "TinSoldiers$Kind" "SPY" "LTinSoldiers$Kind;"))).before args s = true := hs _ (by decide +kernel)
  have n32 : (Cond.not (Cond.eq (.static "TinSoldiers$Kind" "GUNNER" "LTinSoldiers$Kind;") (.static "TinSoldiers$Kind" "SPY" "LTinSoldiers$Kind;"))).before args s = true := hs _ (by decide +kernel)
  refine va_Enof2 (f5 l0 l1 l2 l3 l4) (tb_at hts 78 (by decide +kernel)) (f5 x0 x1 x2 x3 x4) ?_ ?_ hA
  · intro q hq
    simp only [kFl, List.mem_cons, List.not_mem_nil, or_false] at hq
    rcases hq with z | z <;> subst z
    · exact f5 h0 h1 h2 h3 h4
    · exact f5 q0 q1 q2 q3 q4
  · intro i j hi hj
    revert j hj
    revert i hi
    refine f5 ?_ ?_ ?_ ?_ ?_
    · exact f5 (fun z => absurd rfl z) (fun _ => Or.inl n01) (fun _ => Or.inl n02) (fun _ => Or.inl n03) (fun _ => Or.inl n04)
    · exact f5 (fun _ => Or.inr n01) (fun z => absurd rfl z) (fun _ => Or.inl n12) (fun _ => Or.inl n13) (fun _ => Or.inr n41)
    · exact f5 (fun _ => Or.inr n02) (fun _ => Or.inr n12) (fun z => absurd rfl z) (fun _ => Or.inr n32) (fun _ => Or.inr n42)
    · exact f5 (fun _ => Or.inr n03) (fun _ => Or.inr n13) (fun _ => Or.inl n32) (fun z => absurd rfl z) (fun _ => Or.inr n43)
    · exact f5 (fun _ => Or.inr n04) (fun _ => Or.inl n41) (fun _ => Or.inl n42) (fun _ => Or.inl n43) (fun z => absurd rfl z)
theorem kd0 {s : State} {args : Array Value} {A : Nat → Prop} {ad : Nat → Nat} (hts : ∀ w ∈ lw_tbl, w.before args s = true) (hgv : (Jvm.Cond.and given_1 narrow_1).before args s = true) (hA : ∀ a : Nat, a < s.heap.size → ¬ A a) (hev : ∀ i, i < 5 → (Term.static "TinSoldiers$Kind" (kNm.getD i "") "LTinSoldiers$Kind;").eval args s none [] s = some (.ref (ad i))) : ∃ tk : Nat, va_Z "TinSoldiers" "KINDS" "[LTinSoldiers$Kind;" (.ref tk) A s s.heap ∧ va_T (.object "TinSoldiers$Kind") tk 5 (fun j => .ref (ad j)) A s s.heap := by
  have hs := flat_of_before _ hgv
  have e0 : (Cond.eq (.elem (.static "TinSoldiers" "KINDS" "[LTinSoldiers$Kind;") (.int 0)) (.static "TinSoldiers$Kind" "SOLDIER" "LTinSoldiers$Kind;")).before args s = true := hs _ (by decide +kernel)
  have e1 : (Cond.eq (.elem (.static "TinSoldiers" "KINDS" "[LTinSoldiers$Kind;") (.int 1)) (.static "TinSoldiers$Kind" "OFFICER" "LTinSoldiers$Kind;")).before args s = true := hs _ (by decide +kernel)
  have e2 : (Cond.eq (.elem (.static "TinSoldiers" "KINDS" "[LTinSoldiers$Kind;") (.int 2)) (.static "TinSoldiers$Kind" "SPY" "LTinSoldiers$Kind;")).before args s = true := hs _ (by decide +kernel)
  have e3 : (Cond.eq (.elem (.static "TinSoldiers" "KINDS" "[LTinSoldiers$Kind;") (.int 3)) (.static "TinSoldiers$Kind" "GUNNER" "LTinSoldiers$Kind;")).before args s = true := hs _ (by decide +kernel)
  have e4 : (Cond.eq (.elem (.static "TinSoldiers" "KINDS" "[LTinSoldiers$Kind;") (.int 4)) (.static "TinSoldiers$Kind" "BENT" "LTinSoldiers$Kind;")).before args s = true := hs _ (by decide +kernel)
  have ha : (Cond.arrayOf (.static "TinSoldiers" "KINDS" "[LTinSoldiers$Kind;") (.object "TinSoldiers$Kind")).before args s = true := hs _ (by decide +kernel)
  have hl : (Cond.eq (.length (.static "TinSoldiers" "KINDS" "[LTinSoldiers$Kind;")) (.int 5)).before args s = true := hs _ (by decide +kernel)
  obtain ⟨tk, htk, hT⟩ := va_Tof (N := 5) (f := fun j => .ref (ad j)) (A := A) (by decide) ha (va_eqt hl) (f5 (va_eqv e0 (hev 0 (by decide))) (va_eqv e1 (hev 1 (by decide))) (va_eqv e2 (hev 2 (by decide))) (va_eqv e3 (hev 3 (by decide))) (va_eqv e4 (hev 4 (by decide)))) hA
  exact ⟨tk, va_Zof (tb_at hts 546 (by decide +kernel)) (tb_at hts 60 (by decide +kernel)) htk hA, hT⟩
theorem tx0 {s : State} {args : Array Value} {A : Nat → Prop} (hts : ∀ w ∈ lw_tbl, w.before args s = true) (hgv : (Jvm.Cond.and given_1 narrow_1).before args s = true) (hA : ∀ a : Nat, a < s.heap.size → ¬ A a) : ∃ t0 t1 : Nat, vk_S 1 [5] [sby] (fun _ => t0) (fun _ => t1) A s s.heap ∧ vk_R "TinSoldiers$Page" 30 "odntg" t0 s ∧ vk_R "TinSoldiers$Game" 53 "odntg" t0 s := by
  have hs := flat_of_before _ hgv
  have hx : (Cond.exactly (.string "TinSoldiers$Page" 30) "java/lang/String").before args s = true := hs _ (by decide +kernel)
  have hc : (Cond.eq (.field (.string "TinSoldiers$Page" 30) "java/lang/String" "coder" "B") (.int 0)).before args s = true := hs _ (by decide +kernel)
  have ha : (Cond.arrayOf (.field (.string "TinSoldiers$Page" 30) "java/lang/String" "value" "[B") .byte).before args s = true := hs _ (by decide +kernel)
  have hl : (Cond.eq (.length (.field (.string "TinSoldiers$Page" 30) "java/lang/String" "value" "[B")) (.int 5)).before args s = true := hs _ (by decide +kernel)
  have hg : (Cond.eq (.string "TinSoldiers$Page" 30) (.string "TinSoldiers$Game" 53)).before args s = true := hs _ (by decide +kernel)
  have e0 : (Cond.eq (.elem (.field (.string "TinSoldiers$Page" 30) "java/lang/String" "value" "[B") (.int 0)) (.int 111)).before args s = true := hs _ (by decide +kernel)
  have e1 : (Cond.eq (.elem (.field (.string "TinSoldiers$Page" 30) "java/lang/String" "value" "[B") (.int 1)) (.int 100)).before args s = true := hs _ (by decide +kernel)
  have e2 : (Cond.eq (.elem (.field (.string "TinSoldiers$Page" 30) "java/lang/String" "value" "[B") (.int 2)) (.int 110)).before args s = true := hs _ (by decide +kernel)
  have e3 : (Cond.eq (.elem (.field (.string "TinSoldiers$Page" 30) "java/lang/String" "value" "[B") (.int 3)) (.int 116)).before args s = true := hs _ (by decide +kernel)
  have e4 : (Cond.eq (.elem (.field (.string "TinSoldiers$Page" 30) "java/lang/String" "value" "[B") (.int 4)) (.int 103)).before args s = true := hs _ (by decide +kernel)
  have one : ∀ {P : Nat → Prop}, P 0 → ∀ i, i < 1 → P i := fun {P} h i hi => by
    have z : i = 0 := by omega
    subst z
    exact h
  obtain ⟨k1, v1, hS, hk⟩ := vk_Sof (N := 1) (tm := fun _ => (.string "TinSoldiers$Page" 30)) (len := [5]) (byt := [sby]) (A := A) (args := args) (s := s) (one (by decide)) (one hx) (one hc) (one ha) (one hl) (one (f5 e0 e1 e2 e3 e4)) (fun i j hi hj hij => absurd (by omega) hij) hA
  have hk0 := hk 0 (by omega)
  exact ⟨k1 0, v1 0, ⟨one (hS.1 0 (by omega)), fun i j hi hj _ => by omega⟩, vk_R.of (tb_at hts 347 (by decide +kernel)) hk0, vk_R.of (tb_at hts 519 (by decide +kernel)) (va_eqR hg hk0)⟩
theorem cs0 {s : State} {args : Array Value} {A : Nat → Prop} (hts : ∀ w ∈ lw_tbl, w.before args s = true) (hgv : (Jvm.Cond.and given_1 narrow_1).before args s = true) (hA : ∀ a : Nat, a < s.heap.size → ¬ A a) : va_Z "java/lang/String" "COMPACT_STRINGS" "Z" (.int 1) A s s.heap := by
  have hs := flat_of_before _ hgv
  have hc : (Cond.eq (.static "java/lang/String" "COMPACT_STRINGS" "Z") (.int 1)).before args s = true := hs _ (by decide +kernel)
  exact va_Zof (tb_at hts 361 (by decide +kernel)) (tb_at hts 69 (by decide +kernel)) (va_eqi hc) hA
theorem nl0 {s : State} {args : Array Value} (hts : ∀ w ∈ lw_tbl, w.before args s = true) : va_Nw nlF s ∧ va_Nw nlM s := ⟨va_Nw.of rfl (tb_at hts 588 (by decide +kernel)), va_Nw.of rfl (tb_at hts 587 (by decide +kernel))⟩
