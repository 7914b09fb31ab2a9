def nx (pc : Nat) (q : QI) : Nat := match q.1 with
  | .goto _ => q.2.1
  | i => pc + ln i
set_option maxHeartbeats 4000000 in
theorem xs_sound {l : Launch} {K : KK} {d n : Nat} {P : Option AV → Mm → Prop} {q : QI} {pc : Nat} {lv : LV} {st : List AV} {μ : Mm} {k : Kt} (hc : chk1 n pc q = true) (hx : xs l K d n P q pc lv st μ k) (hk : ∀ pc' lv' st' μ', pc' = nx pc q → k pc' lv' st' μ' → Go l K d n pc' lv' st' μ' P) : Go l K d n pc lv st μ P := by
  obtain ⟨ins, a, b, z⟩ := q
  have hc1 := (Bool.and_eq_true _ _ ▸ hc).1
  have hc2 := (Bool.and_eq_true _ _ ▸ hc).2
  have hdd : sw1 ins = false → decode (mC n) pc = .ok (ins, ln ins) := fun hs => by
    rw [if_neg (by rw [hs]; decide)] at hc1
    exact dcI_e (of_decide_eq_true hc1)
  have hds : sw1 ins = true → ∃ len, decode (mC n) pc = .ok (ins, len) := fun hs => by
    rw [if_pos hs] at hc1
    have := of_decide_eq_true hc1
    cases hq : dcI n pc with
    | none => rw [hq] at this; cases this
    | some r =>
      obtain ⟨i', len⟩ := r
      rw [hq] at this
      cases this
      exact ⟨len, dcI_e hq⟩
  clear hc hc1
  cases ins with
  | iconst w => exact go_st (fun p e R s m args below meth c cells slots Q H locs ls F hS hl h => lv_iconst F.1 F.2.1 (hdd rfl) rfl h) (hk _ _ _ _ rfl hx)
  | bipush w => exact go_st (fun p e R s m args below meth c cells slots Q H locs ls F hS hl h => lv_bipush F.1 F.2.1 (hdd rfl) rfl h) (hk _ _ _ _ rfl hx)
  | sipush w => exact go_st (fun p e R s m args below meth c cells slots Q H locs ls F hS hl h => lv_sipush F.1 F.2.1 (hdd rfl) rfl h) (hk _ _ _ _ rfl hx)
  | ldc w =>
    simp only [xs] at hx
    simp only [hk1] at hc2
    by_cases ha : a = 1
    · simp only [ha, if_true] at hx hc2
      refine go_st (fun p e R s m args below meth c cells slots Q H locs ls F hS hl h => ?_) (hk _ _ _ _ rfl hx)
      simp only [Bool.or_eq_true, Bool.and_eq_true, beq_iff_eq] at hc2
      have hown := F.2.2.2.2.1
      rcases hc2 with ⟨e1, rfl⟩ | ⟨e1, rfl⟩
      · rw [e1] at hown
        exact va_ldcS F.1 F.2.1 hown F.2.2.2.2.2.2.2.1.2.1.2.2.2.2.2.1 (hdd rfl) h
      · rw [e1] at hown
        exact va_ldcS F.1 F.2.1 hown F.2.2.2.2.2.2.2.1.2.1.2.2.2.2.2.2.1 (hdd rfl) h
    · simp only [ha, if_false] at hx hc2
      obtain ⟨t, ht, e1, e2, e3⟩ := any3 hc2
      have hw := cT_ok t ht
      rw [e1, e2, e3] at hw
      exact go_st (fun p e R s m args below meth c cells slots Q H locs ls F hS hl h => lv_ldc F.1 F.2.1 F.2.2.2.2.1 (F.2.2.2.2.2.1 _ (lwG_at hw rfl)) (hdd rfl) h) (hk _ _ _ _ rfl hx)
  | ldc_w w =>
    obtain ⟨t, ht, e1, e2, e3⟩ := any3 hc2
    have hw := cT_ok t ht
    rw [e1, e2, e3] at hw
    exact go_st (fun p e R s m args below meth c cells slots Q H locs ls F hS hl h => lv_ldcw F.1 F.2.1 F.2.2.2.2.1 (F.2.2.2.2.2.1 _ (lwG_at hw rfl)) (hdd rfl) h) (hk _ _ _ _ rfl hx)
  | ldc2_w w =>
    obtain ⟨t, ht, e1, e2, e3⟩ := any3 hc2
    have hw := lT_ok t ht
    rw [e1, e2, e3] at hw
    exact go_st (fun p e R s m args below meth c cells slots Q H locs ls F hS hl h => lv_ldc2 F.1 F.2.1 F.2.2.2.2.1 (F.2.2.2.2.2.1 _ (lwG_at hw rfl)) (hdd rfl) h) (hk _ _ _ _ rfl hx)
  | iload_n j =>
    obtain ⟨x, h1, h2⟩ := ldI_e hx
    exact go_st (fun p e R s m args below meth c cells slots Q H locs ls F hS hl h => lv_iload_n F.1 F.2.1 (hdd rfl) rfl (lvo_at hl h1) h) (hk _ _ _ _ rfl h2)
  | iload j =>
    obtain ⟨x, h1, h2⟩ := ldI_e hx
    exact go_st (fun p e R s m args below meth c cells slots Q H locs ls F hS hl h => lv_iload F.1 F.2.1 (hdd rfl) (lvo_at hl h1) h) (hk _ _ _ _ rfl h2)
  | lload_n j =>
    obtain ⟨x, h1, h2⟩ := ldJ_e hx
    exact go_st (fun p e R s m args below meth c cells slots Q H locs ls F hS hl h => lv_lload_n F.1 F.2.1 (hdd rfl) rfl (lvo_at hl h1) h) (hk _ _ _ _ rfl h2)
  | aload_n j =>
    obtain ⟨c', i', s', h1, h2⟩ := ldR_e hx
    exact go_st (fun p e R s m args below meth c cells slots Q H locs ls F hS hl h => lv_aload_n F.1 F.2.1 (hdd rfl) rfl (lvo_at hl h1) h) (hk _ _ _ _ rfl h2)
  | aload j =>
    obtain ⟨c', i', s', h1, h2⟩ := ldR_e hx
    exact go_st (fun p e R s m args below meth c cells slots Q H locs ls F hS hl h => lv_aload F.1 F.2.1 (hdd rfl) (lvo_at hl h1) h) (hk _ _ _ _ rfl h2)
  | istore_n j =>
    obtain ⟨x, r, rfl, h⟩ := x1_e hx
    refine go_sto (i := j.val) (w := 1) (x := .int x) rfl rfl (fun p e R s m args below meth c cells slots Q H locs ls la lb F h1 h2 h3 h4 => lv_istore_n F.1 F.2.1 (hdd rfl) rfl h1 h2 h3 h4) ?_
    revert h
    have key : ∀ (pr : Option AV) (lv : LV) (i : Nat) (v : AV) (g g' : LV → Prop), (∀ y, g y → g' y) → sto pr lv i v g → sto pr lv i v g' := by
      intro pr lv
      induction lv generalizing pr with
      | nil => intro i v g g' _ h; exact h
      | cons y r ih =>
        intro i v g g' hg h
        cases i with
        | zero => unfold sto at h ⊢; split at h <;> simp_all
        | succ i => exact ih y i v _ _ (fun w hw => hg _ hw) h
    exact key _ _ _ _ _ _ (fun y hy => hk _ _ _ _ rfl hy)
  | istore j =>
    obtain ⟨x, r, rfl, h⟩ := x1_e hx
    refine go_sto (i := j) (w := 2) (x := .int x) rfl rfl (fun p e R s m args below meth c cells slots Q H locs ls la lb F h1 h2 h3 h4 => lv_istore F.1 F.2.1 (hdd rfl) h1 h2 h3 h4) ?_
    revert h
    have key : ∀ (pr : Option AV) (lv : LV) (i : Nat) (v : AV) (g g' : LV → Prop), (∀ y, g y → g' y) → sto pr lv i v g → sto pr lv i v g' := by
      intro pr lv
      induction lv generalizing pr with
      | nil => intro i v g g' _ h; exact h
      | cons y r ih =>
        intro i v g g' hg h
        cases i with
        | zero => unfold sto at h ⊢; split at h <;> simp_all
        | succ i => exact ih y i v _ _ (fun w hw => hg _ hw) h
    exact key _ _ _ _ _ _ (fun y hy => hk _ _ _ _ rfl hy)
  | lstore_n j =>
    obtain ⟨x, r, rfl, h⟩ := y1_e hx
    obtain ⟨h1, h2, h3⟩ := stJ_e h
    intro p e R s m args below meth c cells slots Q H locs ls F hP hS hl hR
    refine lv_lstore_n F.1 F.2.1 (hdd rfl) rfl hl.1 (by rw [← hl.2]; exact h1) rfl (fun ls' hl' => ?_)
    exact hk _ _ _ _ rfl h3 p e R s m args below meth c cells slots Q H locs ls' F hP hS (lvo_setJ hl.2 h2 hl') hR
  | astore_n j =>
    simp only [xs] at hx
    obtain ⟨c', i', s', r, rfl, h⟩ := r1_e hx
    obtain ⟨h1, h2, h3⟩ := sto_e h
    intro p e R s m args below meth c cells slots Q H locs ls F hP hS hl hR
    refine lv_astore_n F.1 F.2.1 (hdd rfl) rfl hl.1 (by rw [← hl.2]; exact h1) rfl (fun ls' hl' => ?_)
    exact hk _ _ _ _ rfl h3 p e R s m args below meth c cells slots Q H locs ls' F hP hS (lvo_set (v := vR c' i' s') hl.2 h2 hl') hR
  | astore j =>
    simp only [xs] at hx
    obtain ⟨c', i', s', r, rfl, h⟩ := r1_e hx
    obtain ⟨h1, h2, h3⟩ := sto_e h
    intro p e R s m args below meth c cells slots Q H locs ls F hP hS hl hR
    refine lv_astore F.1 F.2.1 (hdd rfl) hl.1 (by rw [← hl.2]; exact h1) rfl (fun ls' hl' => ?_)
    exact hk _ _ _ _ rfl h3 p e R s m args below meth c cells slots Q H locs ls' F hP hS (lvo_set (v := vR c' i' s') hl.2 h2 hl') hR
  | iinc j w =>
    obtain ⟨x, g1, h⟩ := ldI_e hx
    obtain ⟨h1, h2, h3⟩ := sto_e h
    intro p e R s m args below meth c cells slots Q H locs ls F hP hS hl hR
    obtain ⟨k0, hk0⟩ := List.getElem?_of_mem (asc_mem (K := K).mpr ⟨vI x, g1, rfl⟩)
    refine lv_iinc (v := x + Int32.ofInt w) F.1 F.2.1 (hdd rfl) hl.1 hk0 rfl (by rw [← hl.2]; exact h1) rfl (fun ls' hl' => ?_)
    exact hk _ _ _ _ rfl h3 p e R s m args below meth c cells slots Q H locs ls' F hP hS (lvo_set (v := vI (x + Int32.ofInt w)) hl.2 h2 hl') hR
  | getfield i =>
    simp only [xs] at hx
    obtain ⟨c', i', s', r, rfl, h⟩ := r1_e hx
    simp only [hk1] at hc2
    (try dsimp only at h)
    by_cases ha : a = 9
    · simp only [ha, if_true] at h hc2
      obtain ⟨⟨rfl, rfl, hi⟩, h⟩ := h
      obtain ⟨t, ht, e1, e2, e3⟩ := any3 hc2
      have hw := kT_ok t ht
      rw [e1, e2, e3] at hw
      have hb2 : b < 2 := hw.2
      refine go_st (fun p e R s m args below meth c cells slots Q H locs ls F hS hl h => ?_) (hk _ _ _ _ rfl h)
      have hE := F.2.2.2.2.2.2.2.1.2.1.1
      rcases (show b = 0 ∨ b = 1 by omega) with rfl | rfl
      · exact va_getE (ad := fun k => kA K 9 k 0) F.1 F.2.1 hE hi hS F.2.2.2.2.1 (q := ("TinSoldiers$Kind", "hitsToFall", "I", [1, 2, 0, 1, 2])) List.mem_cons_self (F.2.2.2.2.2.1 _ (lwG_at hw.1 rfl)) (fun _ h9 => h9) (hdd rfl) h
      · exact va_getE (ad := fun k => kA K 9 k 0) F.1 F.2.1 hE hi hS F.2.2.2.2.1 (q := ("TinSoldiers$Kind", "lossByStep", "I", [2, 2, 2, 1, 2])) (List.mem_cons_of_mem _ List.mem_cons_self) (F.2.2.2.2.2.1 _ (lwG_at hw.1 rfl)) (fun _ h9 => h9) (hdd rfl) h
    · simp only [ha, if_false] at h hc2
      by_cases ha2 : a = 11
      · simp only [ha2, if_true] at h hc2
        obtain ⟨⟨rfl, rfl, rfl⟩, h⟩ := h
        simp only [Bool.and_eq_true, Bool.or_eq_true, beq_iff_eq] at hc2
        obtain ⟨e1, hc2⟩ := hc2
        refine go_st (fun p e R s m args below meth c cells slots Q H locs ls F hS hl h => ?_) (hk _ _ _ _ rfl h)
        have hE := (F.2.2.2.2.2.2.2.1.2.1.2.2.2.2.1).1 0 (by decide)
        have hown := F.2.2.2.2.1
        rw [e1] at hown
        rcases hc2 with ⟨rfl, rfl⟩ | ⟨rfl, rfl⟩
        · exact vk_getf F.1 F.2.1 hE.2.2.1 hS hown (F.2.2.2.2.2.1 _ (lwG_at st_value rfl)) (fun _ h9 => h9) (hdd rfl) h
        · exact vk_getf F.1 F.2.1 hE.2.1 hS hown (F.2.2.2.2.2.1 _ (lwG_at st_coder rfl)) (fun _ h9 => h9) (hdd rfl) h
      · simp only [ha2, if_false] at h hc2
        obtain ⟨⟨rfl, rfl, hi⟩, h⟩ := h
        exact go_get (hdd rfl) hc2 hi (hk _ _ _ _ rfl h)
  | putfield i =>
    simp only [xs] at hx
    obtain ⟨v, c', i', s', r, rfl, ⟨rfl, rfl, hi⟩, h⟩ := pf_e hx
    rcases v with x | x | x
    · exact go_putI (hdd rfl) hc2 hi h.1 (hk _ _ _ _ rfl h.2)
    · exact go_putJ (hdd rfl) hc2 hi h.1 (hk _ _ _ _ rfl h.2)
    · obtain ⟨c2, i2, s2⟩ := x
      obtain ⟨⟨h4, rfl, rfl, hs⟩, h⟩ := h
      exact go_putR (hdd rfl) hc2 hi h4 hs (hk _ _ _ _ rfl h)
  | getstatic i =>
    simp only [xs] at hx
    simp only [hk1] at hc2
    by_cases ha : a = 9
    · simp only [ha, if_true] at hx hc2
      obtain ⟨t, ht, e1, e2, e3⟩ := any3 hc2
      have hw := gT_ok t ht
      rw [e1, e2, e3] at hw
      refine go_st (fun p e R s m args below meth c cells slots Q H locs ls F hS hl h => ?_) (hk _ _ _ _ rfl hx)
      exact va_gets F.1 F.2.1 ((F.2.2.2.2.2.2.2.1.2.1.1).1 b hw.2).1 hS F.2.2.2.2.1 (F.2.2.2.2.2.1 _ (lwG_at hw.1 rfl)) (fun _ h9 => h9) (hdd rfl) h
    · simp only [ha, if_false] at hx hc2
      by_cases ha2 : a = 10
      · simp only [ha2, if_true] at hx hc2
        simp only [Bool.or_eq_true, Bool.and_eq_true, beq_iff_eq] at hc2
        refine go_st (fun p e R s m args below meth c cells slots Q H locs ls F hS hl h => ?_) (hk _ _ _ _ rfl hx)
        have hown := F.2.2.2.2.1
        rcases hc2 with ⟨e1, rfl⟩ | ⟨e1, rfl⟩
        · rw [e1] at hown
          exact va_gets F.1 F.2.1 F.2.2.2.2.2.2.2.1.2.1.2.1 hS hown (F.2.2.2.2.2.1 _ (lwG_at st_kinds rfl)) (fun _ h9 => h9) (hdd rfl) h
        · rw [e1] at hown
          exact va_getsN F.1 F.2.1 F.2.2.2.2.2.2.2.1.2.1.2.1 hS hown (va_Nw.use rfl F.2.2.2.2.2.2.2.1.2.1.2.2.2.2.2.2.2.1) (fun _ h9 => h9) (hdd rfl) h
      · simp only [ha2, if_false] at hx hc2
        simp only [Bool.and_eq_true, beq_iff_eq] at hc2
        obtain ⟨e1, rfl⟩ := hc2
        refine go_st (fun p e R s m args below meth c cells slots Q H locs ls F hS hl h => ?_) (hk _ _ _ _ rfl hx)
        have hown := F.2.2.2.2.1
        rw [e1] at hown
        exact va_gets F.1 F.2.1 F.2.2.2.2.2.2.2.1.2.1.2.2.2.1 hS hown (F.2.2.2.2.2.1 _ (lwG_at st_comp rfl)) (fun _ h9 => h9) (hdd rfl) h
  | iaload =>
    simp only [xs] at hx
    obtain ⟨j, c', i', s', r, rfl, h⟩ := ra_e hx
    (try dsimp only at h)
    by_cases ha : a = 12
    · simp only [ha, if_true] at h
      obtain ⟨⟨rfl, rfl, rfl, hin⟩, h⟩ := h
      refine go_st (fun p e R s m args below meth c cells slots Q H locs ls F hS hl h => ?_) (hk _ _ _ _ rfl h)
      have hX := F.2.2.2.2.2.2.2.1.2.1.2.2.2.2.2.2.2.2.2
      exact va_sld F.1 F.2.1 hX.1 (va_X_lt hX.1) hX.2 hS hin (hdd rfl) h
    · simp only [ha, if_false] at h
      exact go_iald (hdd rfl) h.1 (hk _ _ _ _ rfl h.2)
  | baload =>
    simp only [xs] at hx
    obtain ⟨j, c', i', s', r, rfl, h⟩ := ra_e hx
    (try dsimp only at h)
    by_cases ha : a = 11
    · simp only [ha, if_true] at h
      obtain ⟨⟨rfl, rfl, rfl, hin⟩, h⟩ := h
      refine go_st (fun p e R s m args below meth c cells slots Q H locs ls F hS hl h => ?_) (hk _ _ _ _ rfl h)
      have hE := (F.2.2.2.2.2.2.2.1.2.1.2.2.2.2.1).1 0 (by decide)
      exact va_tb F.1 F.2.1 hE.2.2.2 hS hin rfl (hdd rfl) h
    · simp only [ha, if_false] at h
      obtain ⟨⟨h1, h2⟩, h⟩ := h
      rcases h2 with rfl | rfl
      · exact go_zald (hdd rfl) h1 (hk _ _ _ _ rfl h)
      · exact go_bald (hdd rfl) h1 (hk _ _ _ _ rfl h)
  | caload =>
    simp only [xs] at hx
    obtain ⟨j, c', i', s', r, rfl, h⟩ := ra_e hx
    exact go_cald (hdd rfl) h.1 (hk _ _ _ _ rfl h.2)
  | aaload =>
    simp only [xs] at hx
    obtain ⟨j, c', i', s', r, rfl, h⟩ := ra_e hx
    (try dsimp only at h)
    by_cases ha : a = 10
    · simp only [ha, if_true] at h
      obtain ⟨⟨rfl, rfl, rfl, hin⟩, h⟩ := h
      refine go_st (fun p e R s m args below meth c cells slots Q H locs ls F hS hl h => ?_) (hk _ _ _ _ rfl h)
      exact vb_tq F.1 F.2.1 F.2.2.2.2.2.2.2.1.2.1.2.2.1 hS hin rfl (hdd rfl) h
    · simp only [ha, if_false] at h
      exact go_aald (hdd rfl) h.1 (hk _ _ _ _ rfl h.2)
  | iastore =>
    simp only [xs] at hx
    obtain ⟨x, j, c', i', s', r, rfl, h⟩ := rs_e hx
    exact go_iast (hdd rfl) h.1 (hk _ _ _ _ rfl h.2)
  | castore =>
    simp only [xs] at hx
    obtain ⟨x, j, c', i', s', r, rfl, h⟩ := rs_e hx
    exact go_cast (hdd rfl) h.1 (hk _ _ _ _ rfl h.2)
  | bastore =>
    simp only [xs] at hx
    obtain ⟨x, j, c', i', s', r, rfl, h⟩ := rs_e hx
    (try dsimp only at h)
    by_cases ha : a = 1
    · simp only [ha, if_true] at h
      exact go_zast (hdd rfl) h.1 (hk _ _ _ _ rfl h.2)
    · simp only [ha, if_false] at h
      exact go_bast (hdd rfl) h.1 (hk _ _ _ _ rfl h.2)
  | arraylength =>
    simp only [xs] at hx
    obtain ⟨c', i', s', r, rfl, h⟩ := r1_e hx
    (try dsimp only at h)
    by_cases ha : a = 10
    · simp only [ha, if_true] at h
      obtain ⟨⟨rfl, rfl, rfl⟩, h⟩ := h
      exact go_st (fun p e R s m args below meth c cells slots Q H locs ls F hS hl h => va_tlen F.1 F.2.1 F.2.2.2.2.2.2.2.1.2.1.2.2.1 hS rfl (hdd rfl) h) (hk _ _ _ _ rfl h)
    · simp only [ha, if_false] at h
      by_cases ha2 : a = 11
      · simp only [ha2, if_true] at h
        obtain ⟨⟨rfl, rfl, rfl⟩, h⟩ := h
        exact go_st (fun p e R s m args below meth c cells slots Q H locs ls F hS hl h => va_tlen F.1 F.2.1 ((F.2.2.2.2.2.2.2.1.2.1.2.2.2.2.1).1 0 (by decide)).2.2.2 hS rfl (hdd rfl) h) (hk _ _ _ _ rfl h)
      · simp only [ha2, if_false] at h
        obtain ⟨⟨rfl, rfl, rfl⟩, h⟩ := h
        refine go_st (fun p e R s m args below meth c cells slots Q H locs ls F hS hl h => ?_) (hk _ _ _ _ rfl h)
        have hX := F.2.2.2.2.2.2.2.1.2.1.2.2.2.2.2.2.2.2.2
        exact va_slen F.1 F.2.1 hX.1 (va_X_lt hX.1) hX.2 hS (hdd rfl) h
  | iadd => obtain ⟨x, y, r, rfl, h⟩ := x2_e hx; exact go_st (fun p e R s m args below meth c cells slots Q H locs ls F hS hl h => lv_iadd F.1 F.2.1 (hdd rfl) h) (hk _ _ _ _ rfl h)
  | isub => obtain ⟨x, y, r, rfl, h⟩ := x2_e hx; exact go_st (fun p e R s m args below meth c cells slots Q H locs ls F hS hl h => lv_isub F.1 F.2.1 (hdd rfl) h) (hk _ _ _ _ rfl h)
  | imul => obtain ⟨x, y, r, rfl, h⟩ := x2_e hx; exact go_st (fun p e R s m args below meth c cells slots Q H locs ls F hS hl h => lv_imul F.1 F.2.1 (hdd rfl) h) (hk _ _ _ _ rfl h)
  | idiv => obtain ⟨x, y, r, rfl, h0, h⟩ := x2_e hx; exact go_st (fun p e R s m args below meth c cells slots Q H locs ls F hS hl h => lv_idiv F.1 F.2.1 (hdd rfl) h0 h) (hk _ _ _ _ rfl h)
  | irem => obtain ⟨x, y, r, rfl, h0, h⟩ := x2_e hx; exact go_st (fun p e R s m args below meth c cells slots Q H locs ls F hS hl h => lv_irem F.1 F.2.1 (hdd rfl) h0 h) (hk _ _ _ _ rfl h)
  | iand => obtain ⟨x, y, r, rfl, h⟩ := x2_e hx; exact go_st (fun p e R s m args below meth c cells slots Q H locs ls F hS hl h => lv_iand F.1 F.2.1 (hdd rfl) h) (hk _ _ _ _ rfl h)
  | ior => obtain ⟨x, y, r, rfl, h⟩ := x2_e hx; exact go_st (fun p e R s m args below meth c cells slots Q H locs ls F hS hl h => lv_ior F.1 F.2.1 (hdd rfl) h) (hk _ _ _ _ rfl h)
  | ixor => obtain ⟨x, y, r, rfl, h⟩ := x2_e hx; exact go_st (fun p e R s m args below meth c cells slots Q H locs ls F hS hl h => lv_ixor F.1 F.2.1 (hdd rfl) h) (hk _ _ _ _ rfl h)
  | ishl => obtain ⟨x, y, r, rfl, h⟩ := x2_e hx; exact go_st (fun p e R s m args below meth c cells slots Q H locs ls F hS hl h => lv_ishl F.1 F.2.1 (hdd rfl) h) (hk _ _ _ _ rfl h)
  | ishr => obtain ⟨x, y, r, rfl, h⟩ := x2_e hx; exact go_st (fun p e R s m args below meth c cells slots Q H locs ls F hS hl h => lv_ishr F.1 F.2.1 (hdd rfl) h) (hk _ _ _ _ rfl h)
  | iushr => obtain ⟨x, y, r, rfl, h⟩ := x2_e hx; exact go_st (fun p e R s m args below meth c cells slots Q H locs ls F hS hl h => lv_iushr F.1 F.2.1 (hdd rfl) rfl h) (hk _ _ _ _ rfl h)
  | ineg => obtain ⟨x, r, rfl, h⟩ := x1_e hx; exact go_st (fun p e R s m args below meth c cells slots Q H locs ls F hS hl h => lv_ineg F.1 F.2.1 (hdd rfl) h) (hk _ _ _ _ rfl h)
  | ladd => obtain ⟨x, y, r, rfl, h⟩ := y2_e hx; exact go_st (fun p e R s m args below meth c cells slots Q H locs ls F hS hl h => lv_ladd F.1 F.2.1 (hdd rfl) h) (hk _ _ _ _ rfl h)
  | lmul => obtain ⟨x, y, r, rfl, h⟩ := y2_e hx; exact go_st (fun p e R s m args below meth c cells slots Q H locs ls F hS hl h => lv_lmul F.1 F.2.1 (hdd rfl) h) (hk _ _ _ _ rfl h)
  | land => obtain ⟨x, y, r, rfl, h⟩ := y2_e hx; exact go_st (fun p e R s m args below meth c cells slots Q H locs ls F hS hl h => lv_land F.1 F.2.1 (hdd rfl) h) (hk _ _ _ _ rfl h)
  | ldiv => obtain ⟨x, y, r, rfl, h0, h⟩ := y2_e hx; exact go_st (fun p e R s m args below meth c cells slots Q H locs ls F hS hl h => lv_ldiv F.1 F.2.1 (hdd rfl) h0 h) (hk _ _ _ _ rfl h)
  | lrem => obtain ⟨x, y, r, rfl, h0, h⟩ := y2_e hx; exact go_st (fun p e R s m args below meth c cells slots Q H locs ls F hS hl h => lv_lrem F.1 F.2.1 (hdd rfl) h0 h) (hk _ _ _ _ rfl h)
  | lcmp => obtain ⟨x, y, r, rfl, h⟩ := y2_e hx; exact go_st (fun p e R s m args below meth c cells slots Q H locs ls F hS hl h => W.lcmp F.1 F.2.1 (hdd rfl) h) (hk _ _ _ _ rfl h)
  | i2l => obtain ⟨x, r, rfl, h⟩ := x1_e hx; exact go_st (fun p e R s m args below meth c cells slots Q H locs ls F hS hl h => lv_i2l F.1 F.2.1 (hdd rfl) rfl h) (hk _ _ _ _ rfl h)
  | l2i => obtain ⟨x, r, rfl, h⟩ := y1_e hx; exact go_st (fun p e R s m args below meth c cells slots Q H locs ls F hS hl h => lv_l2i F.1 F.2.1 (hdd rfl) rfl h) (hk _ _ _ _ rfl h)
  | i2b => obtain ⟨x, r, rfl, h⟩ := x1_e hx; exact go_st (fun p e R s m args below meth c cells slots Q H locs ls F hS hl h => lv_i2b F.1 F.2.1 (hdd rfl) rfl h) (hk _ _ _ _ rfl h)
  | i2c => obtain ⟨x, r, rfl, h⟩ := x1_e hx; exact go_st (fun p e R s m args below meth c cells slots Q H locs ls F hS hl h => lv_i2c F.1 F.2.1 (hdd rfl) rfl h) (hk _ _ _ _ rfl h)
  | dup => obtain ⟨v, r, rfl, hn, h⟩ := d1_e hx; exact go_st (fun p e R s m args below meth c cells slots Q H locs ls F hS hl h => lv_dup F.1 F.2.1 (hdd rfl) (cz_cat hn) h) (hk _ _ _ _ rfl h)
  | dup2 => obtain ⟨v, w, r, rfl, hn, h⟩ := d2_e hx; exact go_st (fun p e R s m args below meth c cells slots Q H locs ls F hS hl h => lv_dup2_11 F.1 F.2.1 (hdd rfl) (cz_cat hn.1) (cz_cat hn.2) h) (hk _ _ _ _ rfl h)
  | pop => obtain ⟨v, r, rfl, hn, h⟩ := d1_e hx; exact go_st (fun p e R s m args below meth c cells slots Q H locs ls F hS hl h => lv_pop F.1 F.2.1 (hdd rfl) (cz_cat hn) h) (hk _ _ _ _ rfl h)
  | goto off => exact go_st (fun p e R s m args below meth c cells slots Q H locs ls F hS hl h => lv_goto F.1 F.2.1 (hdd rfl) (of_decide_eq_true hc2) h) (hk _ _ _ _ rfl hx)
  | ifCond cd off =>
    obtain ⟨x, r, rfl, h⟩ := x1_e hx
    intro p e R s m args below meth c cells slots Q H locs ls F hP hS hl hR
    have ht := of_decide_eq_true hc2
    have h1 := fun q => h.1 q p e R s m args below meth c cells slots Q H locs ls F hP hS hl hR
    have h2 := fun q => h.2 q p e R s m args below meth c cells slots Q H locs ls F hP hS hl hR
    cases cd with
    | eq => exact lv_if_eq F.1 F.2.1 (hdd rfl) ht h1 h2
    | ne => exact lv_if_ne F.1 F.2.1 (hdd rfl) ht h1 (fun q => h2 (fun z => z q))
    | lt => exact lv_if_lt F.1 F.2.1 (hdd rfl) ht h1 h2
    | ge => exact lv_if_ge F.1 F.2.1 (hdd rfl) ht h1 h2
    | gt => exact lv_if_gt F.1 F.2.1 (hdd rfl) ht h1 h2
    | le => exact lv_if_le F.1 F.2.1 (hdd rfl) ht h1 h2
  | if_icmp cd off =>
    obtain ⟨x, y, r, rfl, h⟩ := x2_e hx
    intro p e R s m args below meth c cells slots Q H locs ls F hP hS hl hR
    have ht := of_decide_eq_true hc2
    have h1 := fun q => h.1 q p e R s m args below meth c cells slots Q H locs ls F hP hS hl hR
    have h2 := fun q => h.2 q p e R s m args below meth c cells slots Q H locs ls F hP hS hl hR
    cases cd with
    | eq => exact lv_icmp_eq F.1 F.2.1 (hdd rfl) ht h1 h2
    | ne => exact lv_icmp_ne F.1 F.2.1 (hdd rfl) ht h1 (fun q => h2 (fun z => z q))
    | lt => exact lv_icmp_lt F.1 F.2.1 (hdd rfl) ht h1 h2
    | ge => exact lv_icmp_ge F.1 F.2.1 (hdd rfl) ht h1 h2
    | gt => exact lv_icmp_gt F.1 F.2.1 (hdd rfl) ht h1 h2
    | le => exact lv_icmp_le F.1 F.2.1 (hdd rfl) ht h1 h2
  | if_acmp cd off =>
    simp only [xs] at hx
    obtain ⟨q1, q2, r, rfl, ⟨ha1, ha2, ha3, ha4, ha5, ha6⟩, h⟩ := r2_e hx
    obtain ⟨c1, i1, s1⟩ := q1
    obtain ⟨c2, i2, s2⟩ := q2
    dsimp only at ha1 ha2 ha3 ha4 ha5 ha6
    subst ha1 ha2 ha4 ha5
    intro p e R s m args below meth c cells slots Q H locs ls F hP hS hl hR
    have ht := of_decide_eq_true hc2
    have hinj := (F.2.2.2.2.2.2.2.1.2.1.1).2 i1 i2 ha3 ha6
    have e1 : ∀ {A B : Prop}, (some (kA K 9 i1 0) = some (kA K 9 i2 0)) ↔ i1 = i2 := ⟨fun z => hinj (Option.some.inj z), fun z => by rw [z]⟩
    cases cd with
    | eq => exact lv_acmp_eq (rx := some (kA K 9 i1 0)) (ry := some (kA K 9 i2 0)) F.1 F.2.1 (hdd rfl) ht (fun q => h.1 (hinj (Option.some.inj q)) p e R s m args below meth c cells slots Q H locs ls F hP hS hl hR) (fun q => h.2 (fun z => q (by rw [show i1 = i2 from z])) p e R s m args below meth c cells slots Q H locs ls F hP hS hl hR)
    | ne => exact lv_acmp_ne (rx := some (kA K 9 i1 0)) (ry := some (kA K 9 i2 0)) F.1 F.2.1 (hdd rfl) ht (fun q => h.1 (fun z => q (by rw [show i1 = i2 from z])) p e R s m args below meth c cells slots Q H locs ls F hP hS hl hR) (fun q => h.2 (hinj (Option.some.inj q)) p e R s m args below meth c cells slots Q H locs ls F hP hS hl hR)
  | tableswitch dflt lo hi offs =>
    obtain ⟨x, r, rfl, t, ht, h⟩ := x1_e hx
    obtain ⟨len, hd⟩ := hds rfl
    refine go_st (fun p e R s m args below meth c cells slots Q H locs ls F hS hl h => ?_) h
    unfold swT at ht
    by_cases hin : x.toInt < lo ∨ hi < x.toInt
    · rw [if_pos hin] at ht
      exact lv_tableOut F.1 F.2.1 hd hin (Option.some.inj ht) h
    · rw [if_neg hin] at ht
      cases ho : offs[(x.toInt - lo).toNat]? with
      | none => rw [ho] at ht; cases ht
      | some off =>
        rw [ho] at ht
        exact lv_tableIn F.1 F.2.1 hd (fun z => hin (Or.inl z)) (fun z => hin (Or.inr z)) ho (Option.some.inj ht) h
  | lookupswitch dflt prs =>
    obtain ⟨x, r, rfl, t, ht, h⟩ := x1_e hx
    obtain ⟨len, hd⟩ := hds rfl
    exact go_st (fun p e R s m args below meth c cells slots Q H locs ls F hS hl h => lv_lookup F.1 F.2.1 hd hc2 rfl ht h) h
  | invokevirtual i =>
    obtain ⟨as, r, rfl, hlen, hrc, hrs, hd1, h⟩ := spl_e hx
    simp only [hk1, Bool.and_eq_true, Bool.or_eq_true, decide_eq_true_eq, beq_iff_eq] at hc2
    obtain ⟨⟨⟨hn, hv⟩, hma⟩, hz⟩ := hc2
    rw [List.append_nil] at hrc h
    cases as with
    | nil => exact hrc.elim
    | cons v as =>
      rcases v with x | x | ⟨c', i', s'⟩
      · exact hrc.elim
      · exact hrc.elim
      · obtain ⟨e1, e2, e3⟩ := hrc
        dsimp only at e1 e2 e3
        subst e2
        have hl2 : as.length = mA a := by rw [hma]; simpa using hlen
        rw [List.reverse_cons, List.append_assoc]
        refine go_callV (hdd rfl) (lnk (by simpa using hn)) (vn_e (by simpa using hv)) hl2 hrs hd1 ?_ h
        rcases hz with (⟨hz, h9⟩ | ⟨hz, ho⟩) | ⟨hz, ho⟩
        · have ec : mO a = c' := by omega
          have e3' : i' < cnt c' := by
            have : rcn c' = cnt c' := by
              unfold rcn; split
              · omega
              · rfl
            rw [← this]; exact e3
          exact recvW ec (by omega) e3' (by simpa using hv)
        · have ec : c' = 9 := by omega
          subst ec
          exact recvE ho e3 (by simpa using hv)
        · have ec : c' = 11 := by omega
          subst ec
          have ei : i' = 0 := by
            have : i' < 1 := e3
            omega
          subst ei
          exact recvT ho (by simpa using hv)
  | invokestatic i =>
    simp only [hk1] at hc2
    simp only [xs] at hx
    by_cases h0 : a = 1000
    · simp only [h0, if_true] at hx hc2
      obtain ⟨x, r, rfl, ⟨hrs, hd1⟩, h⟩ := x1_e hx
      obtain ⟨t, ht, e1, e2, e3⟩ := any3 hc2
      have hw := aT_ok t ht
      rw [e1, e2, e3] at hw
      refine go_st (fun p e R s m args below meth c cells slots Q H locs ls F hS hl h => ?_) (hk _ _ _ _ rfl h)
      have g := F.2.2.2.2.2.1
      exact va_mabs F.1 F.2.1 (F.2.2.2.1.trans hl.1.1.symm) F.2.2.2.2.1 (g _ (lwG_at hw rfl)) (g _ (lwG_at ma_abs.1 rfl)) (g _ (lwG_at ma_ini rfl)) (g _ (lwG_at ma_abs.2 rfl)) (Nat.le_trans hd1 F.2.2.2.2.2.2.2.2.1) (by rw [rsum_eq]; have := F.2.2.2.2.2.2.2.2.2.1; omega) F.2.2.2.2.2.2.2.2.2.2.1 F.2.2.2.2.2.2.2.2.2.2.2 (hdd rfl) h
    · simp only [h0, if_false] at hx hc2
      by_cases h1 : a = 1001
      · simp only [h1, if_true] at hx hc2
        obtain ⟨x, y, r, rfl, ⟨hrs, hd1⟩, h⟩ := x2_e hx
        obtain ⟨t, ht, e1, e2, e3⟩ := any3 hc2
        have hw := aT_ok t ht
        rw [e1, e2, e3] at hw
        refine go_st (fun p e R s m args below meth c cells slots Q H locs ls F hS hl h => ?_) (hk _ _ _ _ rfl h)
        have g := F.2.2.2.2.2.1
        exact va_mmax F.1 F.2.1 (F.2.2.2.1.trans hl.1.1.symm) F.2.2.2.2.1 (g _ (lwG_at hw rfl)) (g _ (lwG_at ma_max.1 rfl)) (g _ (lwG_at ma_ini rfl)) (g _ (lwG_at ma_max.2 rfl)) (Nat.le_trans hd1 F.2.2.2.2.2.2.2.2.1) (by rw [rsum_eq]; have := F.2.2.2.2.2.2.2.2.2.1; omega) F.2.2.2.2.2.2.2.2.2.2.1 F.2.2.2.2.2.2.2.2.2.2.2 (hdd rfl) h
      · simp only [h1, if_false] at hx hc2
        by_cases h2 : a = 1002
        · simp only [h2, if_true] at hx hc2
          obtain ⟨x, y, r, rfl, ⟨hrs, hd1⟩, h⟩ := x2_e hx
          obtain ⟨t, ht, e1, e2, e3⟩ := any3 hc2
          have hw := aT_ok t ht
          rw [e1, e2, e3] at hw
          refine go_st (fun p e R s m args below meth c cells slots Q H locs ls F hS hl h => ?_) (hk _ _ _ _ rfl h)
          have g := F.2.2.2.2.2.1
          exact va_mmin F.1 F.2.1 (F.2.2.2.1.trans hl.1.1.symm) F.2.2.2.2.1 (g _ (lwG_at hw rfl)) (g _ (lwG_at ma_min.1 rfl)) (g _ (lwG_at ma_ini rfl)) (g _ (lwG_at ma_min.2 rfl)) (Nat.le_trans hd1 F.2.2.2.2.2.2.2.2.1) (by rw [rsum_eq]; have := F.2.2.2.2.2.2.2.2.2.1; omega) F.2.2.2.2.2.2.2.2.2.2.1 F.2.2.2.2.2.2.2.2.2.2.2 (hdd rfl) h
        · simp only [h2, if_false] at hx hc2
          obtain ⟨as, r, rfl, hlen, hrs, hd1, h⟩ := spl_e hx
          rw [List.append_nil] at h
          by_cases h3 : z = 1
          · simp only [h3, if_true, Bool.and_eq_true, beq_iff_eq] at hc2
            obtain ⟨⟨⟨e1, rfl⟩, e3⟩, e4⟩ := hc2
            exact go_callN (hdd rfl) e1 a e3 (by rw [hlen, e4]) hrs hd1 h
          · simp only [h3, if_false, Bool.and_eq_true, beq_iff_eq] at hc2
            exact go_callS (hdd rfl) (lnk (by simpa using hc2.1.1)) (sn_e (by simpa using hc2.1.2)) (by rw [hc2.2]; exact hlen) hrs hd1 h
  | ireturn =>
    obtain ⟨x, r, rfl, ⟨rfl, hv⟩, h⟩ := x1_e hx
    intro p e R s m args below meth c cells slots Q H locs ls F hP hS hl hR
    refine hR (some (vI x)) μ H locs pc ls h hP hS ⟨hdd rfl, ?_⟩
    have hc3 : isTy a (mR n) = true := hc2
    have hv : a = 0 ∨ a = 1 ∧ (x = 0 ∨ x = 1) := hv
    cases hr : mR n with
    | none =>
      rw [hr] at hc3
      have : a = 3 := by simpa [isTy] using hc3
      omega
    | some ty =>
      rw [hr] at hc3
      refine ⟨ty, rfl, ?_⟩
      cases ty <;> simp only [isTy, beq_iff_eq] at hc3 <;> first | rfl | (cases hc3; done) | (rcases hv with hv | ⟨-, rfl | rfl⟩ <;> first | rfl | omega) | (exfalso; omega)
  | lreturn =>
    obtain ⟨x, r, rfl, rfl, h⟩ := y1_e hx
    intro p e R s m args below meth c cells slots Q H locs ls F hP hS hl hR
    refine hR (some (vJ x)) μ H locs pc ls h hP hS ⟨hdd rfl, ?_⟩
    have hc3 : isTy 2 (mR n) = true := hc2
    cases hr : mR n with
    | none => rw [hr] at hc3; cases hc3
    | some ty => rw [hr] at hc3; cases ty <;> first | rfl | cases hc3
  | areturn =>
    simp only [xs] at hx
    obtain ⟨c', i', s', r, rfl, rfl, h⟩ := r1_e hx
    intro p e R s m args below meth c cells slots Q H locs ls F hP hS hl hR
    refine hR (some (vR c' i' s')) μ H locs pc ls h hP hS ⟨hdd rfl, ?_⟩
    have hc3 : isOb (mR n) = true := hc2
    cases hr : mR n with
    | none => rw [hr] at hc3; cases hc3
    | some ty => rw [hr] at hc3; cases ty <;> first | exact ⟨_, rfl⟩ | cases hc3
  | return_ =>
    obtain ⟨rfl, h⟩ := hx
    intro p e R s m args below meth c cells slots Q H locs ls F hP hS hl hR
    refine hR none μ H locs pc ls h hP hS ⟨hdd rfl, ?_⟩
    have hc3 : isTy 3 (mR n) = true := hc2
    cases hr : mR n with
    | none => rfl
    | some ty => rw [hr] at hc3; cases ty <;> cases hc3
  | _ => exact hx.elim
