theorem map_set {N k : Nat} {f f' : Nat → Value} {v : Value} (hk : k < N) (hv : f' k = v) (ho : ∀ j, j < N → j ≠ k → f' j = f j) : ((List.range N).map f).set k v = (List.range N).map f' := by
  apply List.ext_getElem?
  intro j
  by_cases hj : j = k
  · subst hj
    rw [List.getElem?_set_self (by simpa using hk)]
    simp [hk, hv]
  · rw [List.getElem?_set_ne (Ne.symm hj)]
    by_cases hN : j < N
    · simp [hN, ho j hN hj]
    · simp [hN]
theorem ent_ob (K : KK) (μ : Mm) (c i : Nat) : ent K μ (c, i, 0) = .inr (c, (List.range (nF c)).map fun k => cz K (rd μ c i k)) := by
  unfold ent; rw [if_pos rfl]
theorem ent_ar (K : KK) (μ : Mm) {c i s : Nat} (hs : s ≠ 0) (h4 : (aI c s).1 ≠ 4) : ent K μ (c, i, s) = .inl (kY K (aI c s).1, (aI c s).2, .inl (μ c i s)) := by
  unfold ent; rw [if_neg hs, if_neg h4]
theorem ent_ar4 (K : KK) (μ : Mm) {c i s : Nat} (hs : s ≠ 0) (h4 : (aI c s).1 = 4) : ent K μ (c, i, s) = .inl (kY K 4, (aI c s).2, .inr (.inr (.inr (.inr fun j => some (kA K 6 (2 + j) 0))))) := by
  unfold ent; rw [if_neg hs, if_pos h4]
theorem up_row (μ : Mm) (c i s j : Nat) (x : Int32) : up μ c i s j x c i s = upd (μ c i s) j x := by
  funext k
  unfold up upd
  by_cases h : k = j <;> simp [h]
def fkc (c k : Nat) : Bool := match fk c k, tyT c k with
  | 0, .int => !(TT c k).2.2.2
  | 5, .boolean => !(TT c k).2.2.2
  | 1, .long => !(TT c k).2.2.2
  | 4, .array .int => !(TT c k).2.2.2
  | 2, _ => true
  | 3, _ => true
  | _, _ => false
theorem fkc_ok : ∀ c, c < 9 → ∀ k, k < nF c → fkc c k = true := by decide +kernel
theorem fk_ok (c : Nat) (hc : c < 9) (k : Nat) (hk : k < nF c) : (fk c k = 0 → tyT c k = .int ∧ (TT c k).2.2.2 = false) ∧ (fk c k = 5 → tyT c k = .boolean ∧ (TT c k).2.2.2 = false) ∧ (fk c k = 1 → tyT c k = .long ∧ (TT c k).2.2.2 = false) ∧ (fk c k = 4 → tyT c k = .array .int ∧ (TT c k).2.2.2 = false) := by
  have h := fkc_ok c hc k hk
  unfold fkc at h
  split at h
  all_goals first | (simp_all; done) | (exfalso; simp_all; done) | omega
def fE (n i c k : Nat) : Bool := fT.any fun t => t.1 == mO n && t.2.1 == i && t.2.2.1 == c && t.2.2.2.1 == k
theorem fE_e {n i c k : Nat} (h : fE n i c k = true) : Cond.fieldLink (oS (mO n)) i (TT c k).1 (TT c k).2.1 (TT c k).2.2.1 ∈ lwG ∧ c < 9 ∧ k < nF c := by
  obtain ⟨t, ht, h2⟩ := List.any_eq_true.mp h
  simp only [Bool.and_eq_true, beq_iff_eq] at h2
  obtain ⟨⟨⟨e1, e2⟩, e3⟩, e4⟩ := h2
  obtain ⟨h3, h4, h5⟩ := fT_ok t ht
  rw [e1, e2, e3, e4] at h3
  rw [e3] at h4
  rw [e3, e4] at h5
  exact ⟨lwG_at h3 rfl, h4, h5⟩
section
variable {l : Launch} {K : KK} {d n pc : Nat} {lv : LV} {st : List AV} {μ : Mm} {P : Option AV → Mm → Prop}
theorem go_get {i c k ii : Nat} (hd : decode (mC n) pc = .ok (.getfield i, 3)) (hf : fE n i c k = true) (hi : ii < cnt c) (h : Go l K d n (pc + 3) lv (rd μ c ii k :: st) μ P) : Go l K d n pc lv (vR c ii 0 :: st) μ P := by
  obtain ⟨hlk, hc9, hkn⟩ := fE_e hf
  intro p e R s m args below meth cc cells slots Q H locs ls F hP hS hl hR
  obtain ⟨q0, hq0⟩ := List.getElem?_of_mem (dom_ob c hc9 ii hi)
  have he := w_at (K := K) (μ := μ) hq0
  rw [ent_ob] at he
  refine va_get F.1 F.2.1 F.2.2.2.2.2.1 (uw_at c hc9) F.2.2.2.2.1 F.2.2.2.2.2.2.2.1.1 hP q0 he (vw_at c hc9) k hkn (F.2.2.2.2.2.1 _ hlk) (fun _ h9 => h9) (v := cz K (rd μ c ii k)) (by simp [hkn]) hd ?_
  exact h p e R s m args below meth cc cells slots Q H locs ls F hP hS hl hR
theorem go_put0 {i c k ii : Nat} {v : Value} {μ' : Mm} {ty : FieldType} (hlk : Cond.fieldLink (oS (mO n)) i (TT c k).1 (TT c k).2.1 (TT c k).2.2.1 ∈ lwG) (hc9 : c < 9) (hkn : k < nF c) (hd : decode (mC n) pc = .ok (.putfield i, 3)) (hi : ii < cnt c) (hty : tyT c k = ty) (hfin : (TT c k).2.2.2 = false) (hn : narrow ty v = v) (hfit : fits ty v = true)
    (hv : cz K (rd μ' c ii k) = v) (ho : ∀ j, j < nF c → j ≠ k → rd μ' c ii j = rd μ c ii j) (hw : ∀ q ∈ Dom, q ≠ (c, ii, 0) → ent K μ' q = ent K μ q) {w : AV} (hwv : cz K w = v)
    (h : Go l K d n (pc + 3) lv st μ' P) : Go l K d n pc lv (w :: vR c ii 0 :: st) μ P := by
  intro p e R s m args below meth cc cells slots Q H locs ls F hP hS hl hR
  obtain ⟨q0, hq0⟩ := List.getElem?_of_mem (dom_ob c hc9 ii hi)
  have he := w_at (K := K) (μ := μ) hq0
  rw [ent_ob] at he
  have hJ := F.2.2.2.2.2.2.2.1.2.2
  have key := va_put (Q := Q) (locs := locs) (R := R) (p := p) (l := l) (e := e) (below := below) (meth := meth) (cells := cells) (slots := slots) (ls := ls) (rest := st.map (cz K)) F.1 F.2.1 F.2.2.2.2.2.1 (uw_at c hc9) (tyT c) (ty_at c hc9) (nm_at c hc9) F.2.2.2.2.1 F.2.2.2.2.2.2.2.1.1 hP (wD hJ μ) hS q0 he (vw_at c hc9) k hkn (F.2.2.2.2.2.1 _ hlk) (fun _ h9 => h9) hfin (ty := ty) (v := v) (by rw [ty_at c hc9 k hkn, hty]) hn hfit (by simpa using hkn) hd
  show W p l e R s m args below meth cc H locs cells slots Q (F0 m pc ls (cz K w :: .ref (kA K c ii 0) :: st.map (cz K)))
  rw [hwv]
  refine key (fun H1 locs1 hP1 hD1 hS1 => ?_)
  have hset := w_set (K := K) (μ := μ) (μ' := μ') hq0 (ent_ob K μ' c ii) hw
  rw [map_set (f := fun j => cz K (rd μ c ii j)) (f' := fun j => cz K (rd μ' c ii j)) hkn hv (fun j hj hjk => by rw [ho j hj hjk])] at hP1
  have hP2 : va_P (kD K) vwCl (wrld K μ') H1 := by rw [← hset]; exact hP1
  exact h p e R s m args below meth cc cells slots Q H1 locs1 ls F hP2 hS1 hl hR
theorem go_putI {i c k ii : Nat} {x : Int32} (hd : decode (mC n) pc = .ok (.putfield i, 3)) (hf : fE n i c k = true) (hi : ii < cnt c) (hx : fk c k = 0 ∨ fk c k = 5 ∧ (x = 0 ∨ x = 1)) (h : Go l K d n (pc + 3) lv st (up μ c ii 0 k x) P) : Go l K d n pc lv (vI x :: vR c ii 0 :: st) μ P := by
  obtain ⟨hlk, hc9, hkn⟩ := fE_e hf
  obtain ⟨f0, f5, -, -⟩ := fk_ok c hc9 k hkn
  have ho : ∀ j, j < nF c → j ≠ k → rd (up μ c ii 0 k x) c ii j = rd μ c ii j := fun j _ hjk => rd_up_ne fun q => hjk q.2.2.2
  have hw : ∀ q ∈ Dom, q ≠ (c, ii, 0) → ent K (up μ c ii 0 k x) q = ent K μ q := fun q hq hne => ent_up_ne hq hne
  rcases hx with h0 | ⟨h5, hx⟩
  · have hv : cz K (rd (up μ c ii 0 k x) c ii k) = .int x := by
      unfold rd; rw [h0]; show Value.int (up μ c ii 0 k x c ii 0 k) = _; rw [up_self]
    exact go_put0 hlk hc9 hkn hd hi (f0 h0).1 (f0 h0).2 rfl rfl hv ho hw rfl h
  · have hv : cz K (rd (up μ c ii 0 k x) c ii k) = .int x := by
      unfold rd; rw [h5]; show Value.int (up μ c ii 0 k x c ii 0 k) = _; rw [up_self]
    exact go_put0 hlk hc9 hkn hd hi (f5 h5).1 (f5 h5).2 (by rcases hx with rfl | rfl <;> rfl) (by rcases hx with rfl | rfl <;> rfl) hv ho hw rfl h
theorem go_putJ {i c k ii : Nat} {x : Int64} (hd : decode (mC n) pc = .ok (.putfield i, 3)) (hf : fE n i c k = true) (hi : ii < cnt c) (hx : fk c k = 1) (h : Go l K d n (pc + 3) lv st (up (up μ c ii 0 k (hiL x)) c ii 99 k (loL x)) P) : Go l K d n pc lv (vJ x :: vR c ii 0 :: st) μ P := by
  obtain ⟨hlk, hc9, hkn⟩ := fE_e hf
  obtain ⟨-, -, f1, -⟩ := fk_ok c hc9 k hkn
  have ho : ∀ j, j < nF c → j ≠ k → rd (up (up μ c ii 0 k (hiL x)) c ii 99 k (loL x)) c ii j = rd μ c ii j := fun j _ hjk => (rd_up_ne fun q => hjk q.2.2.2).trans (rd_up_ne fun q => hjk q.2.2.2)
  have hw : ∀ q ∈ Dom, q ≠ (c, ii, 0) → ent K (up (up μ c ii 0 k (hiL x)) c ii 99 k (loL x)) q = ent K μ q := fun q hq hne => (ent_up_ne hq hne).trans (ent_up_ne hq hne)
  have hv : cz K (rd (up (up μ c ii 0 k (hiL x)) c ii 99 k (loL x)) c ii k) = .long x := by
    unfold rd; rw [hx]
    show Value.long (mkL (up (up μ c ii 0 k (hiL x)) c ii 99 k (loL x) c ii 0 k) (up (up μ c ii 0 k (hiL x)) c ii 99 k (loL x) c ii 99 k)) = _
    rw [up_self, up_ne (by rintro ⟨-, -, q, -⟩; omega), up_self, mkL_eq]
  exact go_put0 hlk hc9 hkn hd hi (f1 hx).1 (f1 hx).2 rfl rfl hv ho hw rfl h
theorem go_putR {i c k ii s : Nat} (hd : decode (mC n) pc = .ok (.putfield i, 3)) (hf : fE n i c k = true) (hi : ii < cnt c) (hx : fk c k = 4) (hs : s < 2 ^ 31) (h : Go l K d n (pc + 3) lv st (up μ c ii 0 k (nI s)) P) : Go l K d n pc lv (vR c ii s :: vR c ii 0 :: st) μ P := by
  obtain ⟨hlk, hc9, hkn⟩ := fE_e hf
  obtain ⟨-, -, -, f4⟩ := fk_ok c hc9 k hkn
  have ho : ∀ j, j < nF c → j ≠ k → rd (up μ c ii 0 k (nI s)) c ii j = rd μ c ii j := fun j _ hjk => rd_up_ne fun q => hjk q.2.2.2
  have hw : ∀ q ∈ Dom, q ≠ (c, ii, 0) → ent K (up μ c ii 0 k (nI s)) q = ent K μ q := fun q hq hne => ent_up_ne hq hne
  have hv : cz K (rd (up μ c ii 0 k (nI s)) c ii k) = .ref (kA K c ii s) := by
    unfold rd; rw [hx]; show Value.ref (kA K c ii (up μ c ii 0 k (nI s) c ii 0 k).toNatClampNeg) = _; rw [up_self, nI_clamp hs]
  exact go_put0 hlk hc9 hkn hd hi (f4 hx).1 (f4 hx).2 rfl rfl hv ho hw rfl h
theorem ain_e {t c i s : Nat} {j : Int32} (h : ain t c i s j) (ht : t ≠ 9) : ∃ q0 : Nat, Dom[q0]? = some (c, i, s) ∧ s ≠ 0 ∧ s ≠ 99 ∧ (aI c s).1 = t ∧ vp_in j (aI c s).2 := by
  obtain ⟨h1, h2, h3⟩ := h
  obtain ⟨g1, g2, g3, -⟩ := dom_ar (c := c) (s := s) (by rw [h2]; exact ht)
  obtain ⟨q0, hq0⟩ := List.getElem?_of_mem (g1 i h1)
  exact ⟨q0, hq0, g2, g3, h2, h3⟩
theorem ar_at {t c i s q0 : Nat} (hq0 : Dom[q0]? = some (c, i, s)) (hs : s ≠ 0) (ht : (aI c s).1 = t) (h4 : t ≠ 4) : (wrld K μ)[q0]? = some (kA K c i s, .inl (kY K t, (aI c s).2, .inl (μ c i s))) := by
  have he := w_at (K := K) (μ := μ) hq0
  rw [ent_ar K μ hs (by rw [ht]; exact h4), ht] at he
  exact he
theorem ar_set {t c i s q0 : Nat} {j : Int32} {x : Int32} {H : Heap} (hq0 : Dom[q0]? = some (c, i, s)) (hs : s ≠ 0) (h99 : s ≠ 99) (ht : (aI c s).1 = t) (h4 : t ≠ 4) (h : va_P (kD K) vwCl ((wrld K μ).set q0 (kA K c i s, .inl (kY K t, (aI c s).2, .inl (upd (μ c i s) j.toNatClampNeg x)))) H) : va_P (kD K) vwCl (wrld K (up μ c i s (ix j) x)) H := by
  have hset := w_set (K := K) (μ := μ) (μ' := up μ c i s (ix j) x) hq0 (e := .inl (kY K t, (aI c s).2, .inl (upd (μ c i s) j.toNatClampNeg x))) (by rw [ent_ar K _ hs (by rw [ht]; exact h4), ht, up_row]; rfl) (fun q hq hne => ent_up_ne hq (by rw [if_neg h99]; exact hne))
  rw [← hset]; exact h
theorem go_iald {c i s : Nat} {j : Int32} (hd : decode (mC n) pc = .ok (.iaload, 1)) (ha : ain 0 c i s j) (h : Go l K d n (pc + 1) lv (vI (μ c i s (ix j)) :: st) μ P) : Go l K d n pc lv (vI j :: vR c i s :: st) μ P := by
  obtain ⟨q0, hq0, h0, h99, ht, hin⟩ := ain_e ha (by decide)
  intro p e R s' m args below meth cc cells slots Q H locs ls F hP hS hl hR
  exact va_iald F.1 F.2.1 F.2.2.2.2.2.2.2.1.1 hP q0 0 (ar_at hq0 h0 ht (by decide)) rfl hin hd (h p e R s' m args below meth cc cells slots Q H locs ls F hP hS hl hR)
theorem go_zald {c i s : Nat} {j : Int32} (hd : decode (mC n) pc = .ok (.baload, 1)) (ha : ain 1 c i s j) (h : Go l K d n (pc + 1) lv (vI (μ c i s (ix j)) :: st) μ P) : Go l K d n pc lv (vI j :: vR c i s :: st) μ P := by
  obtain ⟨q0, hq0, h0, h99, ht, hin⟩ := ain_e ha (by decide)
  intro p e R s' m args below meth cc cells slots Q H locs ls F hP hS hl hR
  exact va_zald F.1 F.2.1 F.2.2.2.2.2.2.2.1.1 hP q0 1 (ar_at hq0 h0 ht (by decide)) rfl hin hd (h p e R s' m args below meth cc cells slots Q H locs ls F hP hS hl hR)
theorem go_cald {c i s : Nat} {j : Int32} (hd : decode (mC n) pc = .ok (.caload, 1)) (ha : ain 2 c i s j) (h : Go l K d n (pc + 1) lv (vI (μ c i s (ix j)) :: st) μ P) : Go l K d n pc lv (vI j :: vR c i s :: st) μ P := by
  obtain ⟨q0, hq0, h0, h99, ht, hin⟩ := ain_e ha (by decide)
  intro p e R s' m args below meth cc cells slots Q H locs ls F hP hS hl hR
  exact va_cald F.1 F.2.1 F.2.2.2.2.2.2.2.1.1 hP q0 2 (ar_at hq0 h0 ht (by decide)) rfl hin hd (h p e R s' m args below meth cc cells slots Q H locs ls F hP hS hl hR)
theorem go_bald {c i s : Nat} {j : Int32} (hd : decode (mC n) pc = .ok (.baload, 1)) (ha : ain 3 c i s j) (h : Go l K d n (pc + 1) lv (vI (μ c i s (ix j)) :: st) μ P) : Go l K d n pc lv (vI j :: vR c i s :: st) μ P := by
  obtain ⟨q0, hq0, h0, h99, ht, hin⟩ := ain_e ha (by decide)
  intro p e R s' m args below meth cc cells slots Q H locs ls F hP hS hl hR
  exact va_bald F.1 F.2.1 F.2.2.2.2.2.2.2.1.1 hP q0 3 (ar_at hq0 h0 ht (by decide)) rfl hin hd (h p e R s' m args below meth cc cells slots Q H locs ls F hP hS hl hR)
theorem go_aald {c i s : Nat} {j : Int32} (hd : decode (mC n) pc = .ok (.aaload, 1)) (ha : ain 4 c i s j) (h : Go l K d n (pc + 1) lv (vR 6 (2 + ix j) 0 :: st) μ P) : Go l K d n pc lv (vI j :: vR c i s :: st) μ P := by
  obtain ⟨q0, hq0, h0, h99, ht, hin⟩ := ain_e ha (by decide)
  intro p e R s' m args below meth cc cells slots Q H locs ls F hP hS hl hR
  have he := w_at (K := K) (μ := μ) hq0
  rw [ent_ar4 K μ h0 ht] at he
  exact va_aldq F.1 F.2.1 F.2.2.2.2.2.2.2.1.1 hP q0 4 he rfl hin hd (h p e R s' m args below meth cc cells slots Q H locs ls F hP hS hl hR)
theorem go_iast {c i s : Nat} {j x : Int32} (hd : decode (mC n) pc = .ok (.iastore, 1)) (ha : ain 0 c i s j) (h : Go l K d n (pc + 1) lv st (up μ c i s (ix j) x) P) : Go l K d n pc lv (vI x :: vI j :: vR c i s :: st) μ P := by
  obtain ⟨q0, hq0, h0, h99, ht, hin⟩ := ain_e ha (by decide)
  intro p e R s' m args below meth cc cells slots Q H locs ls F hP hS hl hR
  refine va_iast F.1 F.2.1 F.2.2.2.2.2.2.2.1.1 hP (wD F.2.2.2.2.2.2.2.1.2.2 μ) hS q0 0 (ar_at hq0 h0 ht (by decide)) rfl hin hd (fun H1 locs1 hP1 _ hS1 => ?_)
  exact h p e R s' m args below meth cc cells slots Q H1 locs1 ls F (ar_set hq0 h0 h99 ht (by decide) hP1) hS1 hl hR
theorem go_zast {c i s : Nat} {j x : Int32} (hd : decode (mC n) pc = .ok (.bastore, 1)) (ha : ain 1 c i s j) (h : Go l K d n (pc + 1) lv st (up μ c i s (ix j) (vp_nar .boolean x)) P) : Go l K d n pc lv (vI x :: vI j :: vR c i s :: st) μ P := by
  obtain ⟨q0, hq0, h0, h99, ht, hin⟩ := ain_e ha (by decide)
  intro p e R s' m args below meth cc cells slots Q H locs ls F hP hS hl hR
  refine va_zast F.1 F.2.1 F.2.2.2.2.2.2.2.1.1 hP (wD F.2.2.2.2.2.2.2.1.2.2 μ) hS q0 1 (ar_at hq0 h0 ht (by decide)) rfl hin hd (fun H1 locs1 hP1 _ hS1 => ?_)
  exact h p e R s' m args below meth cc cells slots Q H1 locs1 ls F (ar_set hq0 h0 h99 ht (by decide) hP1) hS1 hl hR
theorem go_cast {c i s : Nat} {j x : Int32} (hd : decode (mC n) pc = .ok (.castore, 1)) (ha : ain 2 c i s j) (h : Go l K d n (pc + 1) lv st (up μ c i s (ix j) (vp_nar .char x)) P) : Go l K d n pc lv (vI x :: vI j :: vR c i s :: st) μ P := by
  obtain ⟨q0, hq0, h0, h99, ht, hin⟩ := ain_e ha (by decide)
  intro p e R s' m args below meth cc cells slots Q H locs ls F hP hS hl hR
  refine va_cast F.1 F.2.1 F.2.2.2.2.2.2.2.1.1 hP (wD F.2.2.2.2.2.2.2.1.2.2 μ) hS q0 2 (ar_at hq0 h0 ht (by decide)) rfl hin hd (fun H1 locs1 hP1 _ hS1 => ?_)
  exact h p e R s' m args below meth cc cells slots Q H1 locs1 ls F (ar_set hq0 h0 h99 ht (by decide) hP1) hS1 hl hR
theorem go_bast {c i s : Nat} {j x : Int32} (hd : decode (mC n) pc = .ok (.bastore, 1)) (ha : ain 3 c i s j) (h : Go l K d n (pc + 1) lv st (up μ c i s (ix j) (vp_nar .byte x)) P) : Go l K d n pc lv (vI x :: vI j :: vR c i s :: st) μ P := by
  obtain ⟨q0, hq0, h0, h99, ht, hin⟩ := ain_e ha (by decide)
  intro p e R s' m args below meth cc cells slots Q H locs ls F hP hS hl hR
  refine va_bast F.1 F.2.1 F.2.2.2.2.2.2.2.1.1 hP (wD F.2.2.2.2.2.2.2.1.2.2 μ) hS q0 3 (ar_at hq0 h0 ht (by decide)) rfl hin hd (fun H1 locs1 hP1 _ hS1 => ?_)
  exact h p e R s' m args below meth cc cells slots Q H1 locs1 ls F (ar_set hq0 h0 h99 ht (by decide) hP1) hS1 hl hR
end
