theorem go_callN {l : Launch} {K : KK} {d n pc : Nat} {lv : LV} {as r : List AV} {μ : Mm} {P : Option AV → Mm → Prop}
    (hd : decode (mC n) pc = .ok (.invokestatic 43, 3)) (hn : mO n = 6) (a : Nat) (ha : a = 100)
    (hA : as.length = 1) (hrs : rsum r ≤ 8) (hd1 : 1 ≤ d)
    (h : Ok l K (d - 1) a as μ (fun rv μ' => Go l K d n (pc + 3) lv (ps rv r) μ' P)) : Go l K d n pc lv (as.reverse ++ r) μ P := by
  have hv : ∃ t ∈ sT, t.1 = a := by subst ha; decide +kernel
  have hma : mA a = 1 := by subst ha; decide +kernel
  have hma2 : mY a = yX9_isKind := by subst ha; rfl
  obtain ⟨t, ht, rfl⟩ := hv
  obtain ⟨hpy, hc, hi, hst⟩ := sT_ok t ht
  have gc := lwG_at hc rfl
  have gi := lwG_at hi rfl
  have gst := lwG_at hst rfl
  simp only [plainY, Bool.and_eq_true, decide_eq_true_eq] at hpy
  obtain ⟨⟨⟨⟨⟨hm1, hm2⟩, hm3⟩, hpl⟩, hcls⟩, hL⟩ := hpy
  intro p e R s m args below meth c cells slots Q H locs ls F hP hS hl hR
  have F0' := F
  obtain ⟨hx, hb, hr, hml, hown, hts, hlk2, hK, hfr, hlo, hce, hsl⟩ := F
  rw [hn] at hown
  have hnl : va_Nw (.methodLinkNest (oS 6) 43 (mY t.1) "TinSoldiers") s := by rw [hma2]; exact hK.2.1.2.2.2.2.2.2.2.2.1
  have cw : va_CN R s args (oS 6) 43 (mY t.1) "TinSoldiers" (mC t.1) (mL t.1) (mR t.1) (mW t.1) (rmD (d - 1)) 0 0 (mA t.1) := by
    refine va_cnB (mA t.1) hts (goodM gc) rfl rfl rfl hnl (hts _ gi) ⟨hm1, hm2, hm3⟩ ⟨?_, ?_⟩
    · show d - 1 + 1 ≤ R.frames; omega
    · show 8 + (mL t.1 + 11) + 60 * (d - 1) ≤ R.locals; omega
  refine va_callG (va_runSN (As := as.map (cz K)) (rest := r.map (cz K)) ⟨hx, hb, hml, hown, hts⟩ h ⟨cw, hts _ gst, trivial⟩ (preK hP hK hS) rfl (by rw [List.length_map, hma]; exact hA) (hl.1.1) ?_ (lv_room ?_) hd ⟨hce, hsl⟩) hS ?_
  · show List.map (cz K) (as.reverse ++ r) = _
    rw [List.map_append, List.map_reverse]
  · rw [rsum_eq]; exact hrs
  · intro rv μ' H1 locs1 hg hP1 hS1
    have := hg p e R s m args below meth c cells slots Q H1 locs1 ls F0' hP1 hS1 hl hR
    rw [ps_eq] at this
    exact this
abbrev QI : Type := Instr × Nat × Nat × Int
abbrev Kt : Type := Nat → LV → List AV → Mm → Prop
def x1 (st : List AV) (g : Int32 → List AV → Prop) : Prop := match st with
  | .inl x :: r => g x r
  | _ => False
def x2 (st : List AV) (g : Int32 → Int32 → List AV → Prop) : Prop := match st with
  | .inl y :: .inl x :: r => g x y r
  | _ => False
def y1 (st : List AV) (g : Int64 → List AV → Prop) : Prop := match st with
  | .inr (.inl x) :: r => g x r
  | _ => False
def y2 (st : List AV) (g : Int64 → Int64 → List AV → Prop) : Prop := match st with
  | .inr (.inl y) :: .inr (.inl x) :: r => g x y r
  | _ => False
def r1 (st : List AV) (g : Nat → Nat → Nat → List AV → Prop) : Prop := match st with
  | .inr (.inr q) :: r => g q.1 q.2.1 q.2.2 r
  | _ => False
def r2 (st : List AV) (g : Nat × Nat × Nat → Nat × Nat × Nat → List AV → Prop) : Prop := match st with
  | .inr (.inr q2) :: .inr (.inr q1) :: r => g q1 q2 r
  | _ => False
def ra (st : List AV) (g : Int32 → Nat → Nat → Nat → List AV → Prop) : Prop := match st with
  | .inl j :: .inr (.inr q) :: r => g j q.1 q.2.1 q.2.2 r
  | _ => False
def rs (st : List AV) (g : Int32 → Int32 → Nat → Nat → Nat → List AV → Prop) : Prop := match st with
  | .inl x :: .inl j :: .inr (.inr q) :: r => g x j q.1 q.2.1 q.2.2 r
  | _ => False
def pf (st : List AV) (g : AV → Nat → Nat → Nat → List AV → Prop) : Prop := match st with
  | v :: .inr (.inr q) :: r => g v q.1 q.2.1 q.2.2 r
  | _ => False
def d1 (st : List AV) (g : AV → List AV → Prop) : Prop := match st with
  | v :: r => nol (some v) = true ∧ g v r
  | _ => False
def d2 (st : List AV) (g : AV → AV → List AV → Prop) : Prop := match st with
  | v :: w :: r => (nol (some v) = true ∧ nol (some w) = true) ∧ g v w r
  | _ => False
theorem x1_e {st : List AV} {g : Int32 → List AV → Prop} (h : x1 st g) : ∃ x r, st = vI x :: r ∧ g x r := by
  unfold x1 at h; split at h
  · exact ⟨_, _, rfl, h⟩
  · exact h.elim
theorem x2_e {st : List AV} {g : Int32 → Int32 → List AV → Prop} (h : x2 st g) : ∃ x y r, st = vI y :: vI x :: r ∧ g x y r := by
  unfold x2 at h; split at h
  · exact ⟨_, _, _, rfl, h⟩
  · exact h.elim
theorem y1_e {st : List AV} {g : Int64 → List AV → Prop} (h : y1 st g) : ∃ x r, st = vJ x :: r ∧ g x r := by
  unfold y1 at h; split at h
  · exact ⟨_, _, rfl, h⟩
  · exact h.elim
theorem y2_e {st : List AV} {g : Int64 → Int64 → List AV → Prop} (h : y2 st g) : ∃ x y r, st = vJ y :: vJ x :: r ∧ g x y r := by
  unfold y2 at h; split at h
  · exact ⟨_, _, _, rfl, h⟩
  · exact h.elim
theorem r1_e {st : List AV} {g : Nat → Nat → Nat → List AV → Prop} (h : r1 st g) : ∃ c i s r, st = vR c i s :: r ∧ g c i s r := by
  unfold r1 at h; split at h
  · exact ⟨_, _, _, _, rfl, h⟩
  · exact h.elim
theorem r2_e {st : List AV} {g : Nat × Nat × Nat → Nat × Nat × Nat → List AV → Prop} (h : r2 st g) : ∃ q1 q2 r, st = .inr (.inr q2) :: .inr (.inr q1) :: r ∧ g q1 q2 r := by
  unfold r2 at h; split at h
  · exact ⟨_, _, _, rfl, h⟩
  · exact h.elim
theorem ra_e {st : List AV} {g : Int32 → Nat → Nat → Nat → List AV → Prop} (h : ra st g) : ∃ j c i s r, st = vI j :: vR c i s :: r ∧ g j c i s r := by
  unfold ra at h; split at h
  · exact ⟨_, _, _, _, _, rfl, h⟩
  · exact h.elim
theorem rs_e {st : List AV} {g : Int32 → Int32 → Nat → Nat → Nat → List AV → Prop} (h : rs st g) : ∃ x j c i s r, st = vI x :: vI j :: vR c i s :: r ∧ g x j c i s r := by
  unfold rs at h; split at h
  · exact ⟨_, _, _, _, _, _, rfl, h⟩
  · exact h.elim
theorem pf_e {st : List AV} {g : AV → Nat → Nat → Nat → List AV → Prop} (h : pf st g) : ∃ v c i s r, st = v :: vR c i s :: r ∧ g v c i s r := by
  unfold pf at h; split at h
  · exact ⟨_, _, _, _, _, rfl, h⟩
  · exact h.elim
theorem d1_e {st : List AV} {g : AV → List AV → Prop} (h : d1 st g) : ∃ v r, st = v :: r ∧ nol (some v) = true ∧ g v r := by
  unfold d1 at h; split at h
  · exact ⟨_, _, rfl, h⟩
  · exact h.elim
theorem d2_e {st : List AV} {g : AV → AV → List AV → Prop} (h : d2 st g) : ∃ v w r, st = v :: w :: r ∧ (nol (some v) = true ∧ nol (some w) = true) ∧ g v w r := by
  unfold d2 at h; split at h
  · exact ⟨_, _, _, rfl, h⟩
  · exact h.elim
def abI (x : Int32) : Int32 := if 0 ≤ x then x else 0 - x
def mxI (x y : Int32) : Int32 := if x < y then y else x
def mnI (x y : Int32) : Int32 := if y < x then y else x
def ix (j : Int32) : Nat := j.toNatClampNeg
/-- place j of an array of kind t -/
def ain (t c i s : Nat) (j : Int32) : Prop := i < cnt c ∧ (aI c s).1 = t ∧ vp_in j (aI c s).2
def cd1 (cd : Jvm.ClassFile.Cond) (x : Int32) : Prop := match cd with
  | .eq => x = 0
  | .ne => ¬ x = 0
  | .lt => x < 0
  | .ge => 0 ≤ x
  | .gt => 0 < x
  | .le => x ≤ 0
def cd2 (cd : Jvm.ClassFile.Cond) (x y : Int32) : Prop := match cd with
  | .eq => x = y
  | .ne => ¬ x = y
  | .lt => x < y
  | .ge => y ≤ x
  | .gt => y < x
  | .le => x ≤ y
def swT (pc : Nat) (dflt lo hi : Int) (offs : Array Int) (x : Int) : Option Int := if x < lo ∨ hi < x then some (pc + dflt) else (offs[(x - lo).toNat]?).map (fun o => (pc : Int) + o)
def rcn (z : Nat) : Nat := match z with
  | 9 => 5
  | _ => cnt z
def rcv (z : Int) (as : List AV) : Prop := match as with
  | .inr (.inr q) :: _ => (q.1 : Int) = z ∧ q.2.2 = 0 ∧ q.2.1 < rcn q.1
  | _ => False
def xs (l : Launch) (K : KK) (d n : Nat) (P : Option AV → Mm → Prop) (q : QI) (pc : Nat) (lv : LV) (st : List AV) (μ : Mm) (k : Kt) : Prop := match q.1 with
  | .iconst z => k (pc + 1) lv (vI (Int32.ofInt z) :: st) μ
  | .bipush z => k (pc + 2) lv (vI (Int8.ofInt z).toInt32 :: st) μ
  | .sipush z => k (pc + 3) lv (vI (Int16.ofInt z).toInt32 :: st) μ
  | .ldc _ => if q.2.1 = 1 then k (pc + 2) lv (vR 11 0 0 :: st) μ else k (pc + 2) lv (vI (Int32.ofInt q.2.2.2) :: st) μ
  | .ldc_w _ => k (pc + 3) lv (vI (Int32.ofInt q.2.2.2) :: st) μ
  | .ldc2_w _ => k (pc + 3) lv (vJ (Int64.ofInt q.2.2.2) :: st) μ
  | .iload_n j => ldI lv j.val fun x => k (pc + 1) lv (vI x :: st) μ
  | .iload j => ldI lv j fun x => k (pc + 2) lv (vI x :: st) μ
  | .lload_n j => ldJ lv j.val fun x => k (pc + 1) lv (vJ x :: st) μ
  | .aload_n j => ldR lv j.val fun c i s => k (pc + 1) lv (vR c i s :: st) μ
  | .aload j => ldR lv j fun c i s => k (pc + 2) lv (vR c i s :: st) μ
  | .istore_n j => x1 st fun x r => sto none lv j.val (vI x) fun lv' => k (pc + 1) lv' r μ
  | .istore j => x1 st fun x r => sto none lv j (vI x) fun lv' => k (pc + 2) lv' r μ
  | .lstore_n j => y1 st fun x r => stJ none lv j.val x fun lv' => k (pc + 1) lv' r μ
  | .astore_n j => r1 st fun c i s r => sto none lv j.val (vR c i s) fun lv' => k (pc + 1) lv' r μ
  | .astore j => r1 st fun c i s r => sto none lv j (vR c i s) fun lv' => k (pc + 2) lv' r μ
  | .iinc j z => ldI lv j fun x => sto none lv j (vI (x + Int32.ofInt z)) fun lv' => k (pc + 3) lv' st μ
  | .getfield _ => r1 st fun c i s r =>
    if q.2.1 = 9 then (c = 9 ∧ s = 0 ∧ i < 5) ∧ k (pc + 3) lv (vI (kv q.2.2.1 i) :: r) μ
    else if q.2.1 = 11 then (c = 11 ∧ i = 0 ∧ s = 0) ∧ k (pc + 3) lv ((if q.2.2.1 = 0 then vR 11 0 1 else vI 0) :: r) μ
    else (c = q.2.1 ∧ s = 0 ∧ i < cnt c) ∧ k (pc + 3) lv (rd μ c i q.2.2.1 :: r) μ
  | .putfield _ => pf st fun v c i s r => (c = q.2.1 ∧ s = 0 ∧ i < cnt c) ∧ match v with
    | .inl x => (fk c q.2.2.1 = 0 ∨ fk c q.2.2.1 = 5 ∧ (x = 0 ∨ x = 1)) ∧ k (pc + 3) lv r (up μ c i 0 q.2.2.1 x)
    | .inr (.inl x) => fk c q.2.2.1 = 1 ∧ k (pc + 3) lv r (up (up μ c i 0 q.2.2.1 (hiL x)) c i 99 q.2.2.1 (loL x))
    | .inr (.inr w) => (fk c q.2.2.1 = 4 ∧ w.1 = c ∧ w.2.1 = i ∧ w.2.2 < 2 ^ 31) ∧ k (pc + 3) lv r (up μ c i 0 q.2.2.1 (nI w.2.2))
  | .getstatic _ => if q.2.1 = 9 then k (pc + 3) lv (vR 9 q.2.2.1 0 :: st) μ else if q.2.1 = 10 then k (pc + 3) lv (vR 10 0 1 :: st) μ else k (pc + 3) lv (vI 1 :: st) μ
  | .iaload => ra st fun j c i s r => if q.2.1 = 12 then (c = 12 ∧ i = 0 ∧ s = 1 ∧ vp_in j (kN K)) ∧ k (pc + 1) lv (vI (kX K (ix j)) :: r) μ else ain 0 c i s j ∧ k (pc + 1) lv (vI (μ c i s (ix j)) :: r) μ
  | .baload => ra st fun j c i s r => if q.2.1 = 11 then (c = 11 ∧ i = 0 ∧ s = 1 ∧ vp_in j 5) ∧ k (pc + 1) lv (vI (sby.getD (ix j) 0) :: r) μ else (ain q.2.1 c i s j ∧ (q.2.1 = 1 ∨ q.2.1 = 3)) ∧ k (pc + 1) lv (vI (μ c i s (ix j)) :: r) μ
  | .caload => ra st fun j c i s r => ain 2 c i s j ∧ k (pc + 1) lv (vI (μ c i s (ix j)) :: r) μ
  | .aaload => ra st fun j c i s r => if q.2.1 = 10 then (c = 10 ∧ i = 0 ∧ s = 1 ∧ vp_in j 5) ∧ k (pc + 1) lv (vR 9 (ix j) 0 :: r) μ else ain 4 c i s j ∧ k (pc + 1) lv (vR 6 (2 + ix j) 0 :: r) μ
  | .iastore => rs st fun x j c i s r => ain 0 c i s j ∧ k (pc + 1) lv r (up μ c i s (ix j) x)
  | .bastore => rs st fun x j c i s r => if q.2.1 = 1 then ain 1 c i s j ∧ k (pc + 1) lv r (up μ c i s (ix j) (vp_nar .boolean x)) else ain 3 c i s j ∧ k (pc + 1) lv r (up μ c i s (ix j) (vp_nar .byte x))
  | .castore => rs st fun x j c i s r => ain 2 c i s j ∧ k (pc + 1) lv r (up μ c i s (ix j) (vp_nar .char x))
  | .arraylength => r1 st fun c i s r => if q.2.1 = 10 then (c = 10 ∧ i = 0 ∧ s = 1) ∧ k (pc + 1) lv (vI 5 :: r) μ else if q.2.1 = 11 then (c = 11 ∧ i = 0 ∧ s = 1) ∧ k (pc + 1) lv (vI 5 :: r) μ else (c = 12 ∧ i = 0 ∧ s = 1) ∧ k (pc + 1) lv (vI (nI (kN K)) :: r) μ
  | .iadd => x2 st fun x y r => k (pc + 1) lv (vI (x + y) :: r) μ
  | .isub => x2 st fun x y r => k (pc + 1) lv (vI (x - y) :: r) μ
  | .imul => x2 st fun x y r => k (pc + 1) lv (vI (x * y) :: r) μ
  | .idiv => x2 st fun x y r => (¬ y = 0) ∧ k (pc + 1) lv (vI (x / y) :: r) μ
  | .irem => x2 st fun x y r => (¬ y = 0) ∧ k (pc + 1) lv (vI (x - x / y * y) :: r) μ
  | .iand => x2 st fun x y r => k (pc + 1) lv (vI (x &&& y) :: r) μ
  | .ior => x2 st fun x y r => k (pc + 1) lv (vI (x ||| y) :: r) μ
  | .ixor => x2 st fun x y r => k (pc + 1) lv (vI (x ^^^ y) :: r) μ
  | .ishl => x2 st fun x y r => k (pc + 1) lv (vI (x <<< (y &&& 31)) :: r) μ
  | .ishr => x2 st fun x y r => k (pc + 1) lv (vI (x >>> (y &&& 31)) :: r) μ
  | .iushr => x2 st fun x y r => k (pc + 1) lv (vI (x.toUInt32 >>> (y.toUInt32 &&& Int32.toUInt32 31)).toInt32 :: r) μ
  | .ineg => x1 st fun x r => k (pc + 1) lv (vI (-x) :: r) μ
  | .ladd => y2 st fun x y r => k (pc + 1) lv (vJ (x + y) :: r) μ
  | .lmul => y2 st fun x y r => k (pc + 1) lv (vJ (x * y) :: r) μ
  | .land => y2 st fun x y r => k (pc + 1) lv (vJ (x &&& y) :: r) μ
  | .ldiv => y2 st fun x y r => (¬ y = 0) ∧ k (pc + 1) lv (vJ (x / y) :: r) μ
  | .lrem => y2 st fun x y r => (¬ y = 0) ∧ k (pc + 1) lv (vJ (x - x / y * y) :: r) μ
  | .lcmp => y2 st fun x y r => k (pc + 1) lv (vI (lg_cmp x y) :: r) μ
  | .i2l => x1 st fun x r => k (pc + 1) lv (vJ x.toInt64 :: r) μ
  | .l2i => y1 st fun x r => k (pc + 1) lv (vI x.toInt32 :: r) μ
  | .i2b => x1 st fun x r => k (pc + 1) lv (vI x.toInt8.toInt32 :: r) μ
  | .i2c => x1 st fun x r => k (pc + 1) lv (vI (x.toUInt32 % 65536).toInt32 :: r) μ
  | .dup => d1 st fun v r => k (pc + 1) lv (v :: v :: r) μ
  | .dup2 => d2 st fun v w r => k (pc + 1) lv (v :: w :: v :: w :: r) μ
  | .pop => d1 st fun _ r => k (pc + 1) lv r μ
  | .goto _ => k q.2.1 lv st μ
  | .ifCond cd _ => x1 st fun x r => (cd1 cd x → Go l K d n q.2.1 lv r μ P) ∧ (¬ cd1 cd x → Go l K d n (pc + 3) lv r μ P)
  | .if_icmp cd _ => x2 st fun x y r => (cd2 cd x y → Go l K d n q.2.1 lv r μ P) ∧ (¬ cd2 cd x y → Go l K d n (pc + 3) lv r μ P)
  | .if_acmp cd _ => r2 st fun q1 q2 r => (q1.1 = 9 ∧ q1.2.2 = 0 ∧ q1.2.1 < 5 ∧ q2.1 = 9 ∧ q2.2.2 = 0 ∧ q2.2.1 < 5) ∧ match cd with
    | .eq => (q1.2.1 = q2.2.1 → Go l K d n q.2.1 lv r μ P) ∧ (¬ q1.2.1 = q2.2.1 → Go l K d n (pc + 3) lv r μ P)
    | .ne => (¬ q1.2.1 = q2.2.1 → Go l K d n q.2.1 lv r μ P) ∧ (q1.2.1 = q2.2.1 → Go l K d n (pc + 3) lv r μ P)
  | .tableswitch dflt lo hi offs => x1 st fun x r => ∃ t : Nat, swT pc dflt lo hi offs x.toInt = some (t : Int) ∧ Go l K d n t lv r μ P
  | .lookupswitch dflt prs => x1 st fun x r => ∃ t : Nat, (pc : Int) + Op.lookupswitch.offset prs.toList dflt x.toInt = (t : Int) ∧ Go l K d n t lv r μ P
  | .invokevirtual _ => spl (q.2.2.1 + 1) st [] fun as r => rcv q.2.2.2 as ∧ rsum r ≤ 8 ∧ 1 ≤ d ∧ Ok l K (d - 1) q.2.1 as μ (fun rv μ' => Go l K d n (pc + 3) lv (ps rv r) μ' P)
  | .invokestatic _ => if q.2.1 = 1000 then x1 st fun x r => (rsum r ≤ 8 ∧ 1 ≤ d) ∧ k (pc + 3) lv (vI (abI x) :: r) μ
    else if q.2.1 = 1001 then x2 st fun x y r => (rsum r ≤ 8 ∧ 1 ≤ d) ∧ k (pc + 3) lv (vI (mxI x y) :: r) μ
    else if q.2.1 = 1002 then x2 st fun x y r => (rsum r ≤ 8 ∧ 1 ≤ d) ∧ k (pc + 3) lv (vI (mnI x y) :: r) μ
    else spl q.2.2.1 st [] fun as r => rsum r ≤ 8 ∧ 1 ≤ d ∧ Ok l K (d - 1) q.2.1 as μ (fun rv μ' => Go l K d n (pc + 3) lv (ps rv r) μ' P)
  | .ireturn => x1 st fun x r => (r = [] ∧ (q.2.1 = 0 ∨ q.2.1 = 1 ∧ (x = 0 ∨ x = 1))) ∧ P (some (vI x)) μ
  | .lreturn => y1 st fun x r => r = [] ∧ P (some (vJ x)) μ
  | .areturn => r1 st fun c i s r => r = [] ∧ P (some (vR c i s)) μ
  | .return_ => st = [] ∧ P none μ
  | _ => False
