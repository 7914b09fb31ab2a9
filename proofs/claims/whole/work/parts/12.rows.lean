section
variable {l : Launch} {K : KK} {d n : Nat} {P : Option AV → Mm → Prop} {qs : List QI} {pc a b : Nat} {w : Int} {lv r : LV} {st : List AV} {μ : Mm}
theorem e_aK {j : Int32} : xb l K d n P ((.aaload, 10, b, w) :: qs) pc lv (vI j :: vR 10 0 1 :: st) μ = (vp_in j 5 ∧ xb l K d n P qs (pc + 1) lv (vR 9 (ix j) 0 :: st) μ) := by
  show ((_ ∧ _ ∧ _ ∧ _) ∧ _) = _
  simp
theorem e_aa {j : Int32} {c i s : Nat} : xb l K d n P ((.aaload, 0, b, w) :: qs) pc lv (vI j :: vR c i s :: st) μ = (ain 4 c i s j ∧ xb l K d n P qs (pc + 1) lv (vR 6 (2 + ix j) 0 :: st) μ) := rfl
theorem e_acmp_eq {i j : Nat} {off : Int} : xb l K d n P ((.if_acmp .eq off, a, b, w) :: qs) pc lv (vR 9 j 0 :: vR 9 i 0 :: st) μ = ((i < 5 ∧ j < 5) ∧ (i = j → Go l K d n a lv st μ P) ∧ (¬ i = j → Go l K d n (pc + 3) lv st μ P)) := by
  show ((_ ∧ _ ∧ _ ∧ _ ∧ _ ∧ _) ∧ _) = _
  simp [and_assoc]
theorem e_acmp_ne {i j : Nat} {off : Int} : xb l K d n P ((.if_acmp .ne off, a, b, w) :: qs) pc lv (vR 9 j 0 :: vR 9 i 0 :: st) μ = ((i < 5 ∧ j < 5) ∧ (¬ i = j → Go l K d n a lv st μ P) ∧ (i = j → Go l K d n (pc + 3) lv st μ P)) := by
  show ((_ ∧ _ ∧ _ ∧ _ ∧ _ ∧ _) ∧ _) = _
  simp [and_assoc]
theorem e_al_0 {x : Nat × Nat × Nat} : xb l K d n P ((.aload_n 0, a, b, w) :: qs) pc (some (.inr (.inr x)) :: r) st μ = xb l K d n P qs (pc + 1) (some (.inr (.inr x)) :: r) (.inr (.inr x) :: st) μ := rfl
theorem e_al_1 {y0 : Option AV} {x : Nat × Nat × Nat} : xb l K d n P ((.aload_n 1, a, b, w) :: qs) pc (y0 :: some (.inr (.inr x)) :: r) st μ = xb l K d n P qs (pc + 1) (y0 :: some (.inr (.inr x)) :: r) (.inr (.inr x) :: st) μ := rfl
theorem e_al_2 {y0 y1 : Option AV} {x : Nat × Nat × Nat} : xb l K d n P ((.aload_n 2, a, b, w) :: qs) pc (y0 :: y1 :: some (.inr (.inr x)) :: r) st μ = xb l K d n P qs (pc + 1) (y0 :: y1 :: some (.inr (.inr x)) :: r) (.inr (.inr x) :: st) μ := rfl
theorem e_al_3 {y0 y1 y2 : Option AV} {x : Nat × Nat × Nat} : xb l K d n P ((.aload_n 3, a, b, w) :: qs) pc (y0 :: y1 :: y2 :: some (.inr (.inr x)) :: r) st μ = xb l K d n P qs (pc + 1) (y0 :: y1 :: y2 :: some (.inr (.inr x)) :: r) (.inr (.inr x) :: st) μ := rfl
theorem e_alw_4 {y0 y1 y2 y3 : Option AV} {x : Nat × Nat × Nat} : xb l K d n P ((.aload 4, a, b, w) :: qs) pc (y0 :: y1 :: y2 :: y3 :: some (.inr (.inr x)) :: r) st μ = xb l K d n P qs (pc + 2) (y0 :: y1 :: y2 :: y3 :: some (.inr (.inr x)) :: r) (.inr (.inr x) :: st) μ := rfl
theorem e_alw_5 {y0 y1 y2 y3 y4 : Option AV} {x : Nat × Nat × Nat} : xb l K d n P ((.aload 5, a, b, w) :: qs) pc (y0 :: y1 :: y2 :: y3 :: y4 :: some (.inr (.inr x)) :: r) st μ = xb l K d n P qs (pc + 2) (y0 :: y1 :: y2 :: y3 :: y4 :: some (.inr (.inr x)) :: r) (.inr (.inr x) :: st) μ := rfl
theorem e_alw_9 {y0 y1 y2 y3 y4 y5 y6 y7 y8 : Option AV} {x : Nat × Nat × Nat} : xb l K d n P ((.aload 9, a, b, w) :: qs) pc (y0 :: y1 :: y2 :: y3 :: y4 :: y5 :: y6 :: y7 :: y8 :: some (.inr (.inr x)) :: r) st μ = xb l K d n P qs (pc + 2) (y0 :: y1 :: y2 :: y3 :: y4 :: y5 :: y6 :: y7 :: y8 :: some (.inr (.inr x)) :: r) (.inr (.inr x) :: st) μ := rfl
theorem e_aret {c i s : Nat} : xb l K d n P ((.areturn, a, b, w) :: qs) pc lv [vR c i s] μ = P (some (vR c i s)) μ := by
  show (_ ∧ _) = _
  simp
theorem e_as_1n {z1 : Option AV} {x : Nat × Nat × Nat} : xb l K d n P ((.astore_n 1, a, b, w) :: qs) pc (none :: z1 :: r) (.inr (.inr x) :: st) μ = xb l K d n P qs (pc + 1) (none :: some (.inr (.inr x)) :: r) st μ := rfl
theorem e_as_1I {z1 : Option AV} {x : Nat × Nat × Nat} {u : Int32} : xb l K d n P ((.astore_n 1, a, b, w) :: qs) pc (some (.inl u) :: z1 :: r) (.inr (.inr x) :: st) μ = xb l K d n P qs (pc + 1) (some (.inl u) :: some (.inr (.inr x)) :: r) st μ := rfl
theorem e_as_1R {z1 : Option AV} {x : Nat × Nat × Nat} {u : Nat × Nat × Nat} : xb l K d n P ((.astore_n 1, a, b, w) :: qs) pc (some (.inr (.inr u)) :: z1 :: r) (.inr (.inr x) :: st) μ = xb l K d n P qs (pc + 1) (some (.inr (.inr u)) :: some (.inr (.inr x)) :: r) st μ := rfl
theorem e_as_2n {y0 z2 : Option AV} {x : Nat × Nat × Nat} : xb l K d n P ((.astore_n 2, a, b, w) :: qs) pc (y0 :: none :: z2 :: r) (.inr (.inr x) :: st) μ = xb l K d n P qs (pc + 1) (y0 :: none :: some (.inr (.inr x)) :: r) st μ := rfl
theorem e_as_2I {y0 z2 : Option AV} {x : Nat × Nat × Nat} {u : Int32} : xb l K d n P ((.astore_n 2, a, b, w) :: qs) pc (y0 :: some (.inl u) :: z2 :: r) (.inr (.inr x) :: st) μ = xb l K d n P qs (pc + 1) (y0 :: some (.inl u) :: some (.inr (.inr x)) :: r) st μ := rfl
theorem e_as_2R {y0 z2 : Option AV} {x : Nat × Nat × Nat} {u : Nat × Nat × Nat} : xb l K d n P ((.astore_n 2, a, b, w) :: qs) pc (y0 :: some (.inr (.inr u)) :: z2 :: r) (.inr (.inr x) :: st) μ = xb l K d n P qs (pc + 1) (y0 :: some (.inr (.inr u)) :: some (.inr (.inr x)) :: r) st μ := rfl
theorem e_as_3n {y0 y1 z3 : Option AV} {x : Nat × Nat × Nat} : xb l K d n P ((.astore_n 3, a, b, w) :: qs) pc (y0 :: y1 :: none :: z3 :: r) (.inr (.inr x) :: st) μ = xb l K d n P qs (pc + 1) (y0 :: y1 :: none :: some (.inr (.inr x)) :: r) st μ := rfl
theorem e_as_3I {y0 y1 z3 : Option AV} {x : Nat × Nat × Nat} {u : Int32} : xb l K d n P ((.astore_n 3, a, b, w) :: qs) pc (y0 :: y1 :: some (.inl u) :: z3 :: r) (.inr (.inr x) :: st) μ = xb l K d n P qs (pc + 1) (y0 :: y1 :: some (.inl u) :: some (.inr (.inr x)) :: r) st μ := rfl
theorem e_as_3R {y0 y1 z3 : Option AV} {x : Nat × Nat × Nat} {u : Nat × Nat × Nat} : xb l K d n P ((.astore_n 3, a, b, w) :: qs) pc (y0 :: y1 :: some (.inr (.inr u)) :: z3 :: r) (.inr (.inr x) :: st) μ = xb l K d n P qs (pc + 1) (y0 :: y1 :: some (.inr (.inr u)) :: some (.inr (.inr x)) :: r) st μ := rfl
theorem e_asw_4n {y0 y1 y2 z4 : Option AV} {x : Nat × Nat × Nat} : xb l K d n P ((.astore 4, a, b, w) :: qs) pc (y0 :: y1 :: y2 :: none :: z4 :: r) (.inr (.inr x) :: st) μ = xb l K d n P qs (pc + 2) (y0 :: y1 :: y2 :: none :: some (.inr (.inr x)) :: r) st μ := rfl
theorem e_asw_4I {y0 y1 y2 z4 : Option AV} {x : Nat × Nat × Nat} {u : Int32} : xb l K d n P ((.astore 4, a, b, w) :: qs) pc (y0 :: y1 :: y2 :: some (.inl u) :: z4 :: r) (.inr (.inr x) :: st) μ = xb l K d n P qs (pc + 2) (y0 :: y1 :: y2 :: some (.inl u) :: some (.inr (.inr x)) :: r) st μ := rfl
theorem e_asw_4R {y0 y1 y2 z4 : Option AV} {x : Nat × Nat × Nat} {u : Nat × Nat × Nat} : xb l K d n P ((.astore 4, a, b, w) :: qs) pc (y0 :: y1 :: y2 :: some (.inr (.inr u)) :: z4 :: r) (.inr (.inr x) :: st) μ = xb l K d n P qs (pc + 2) (y0 :: y1 :: y2 :: some (.inr (.inr u)) :: some (.inr (.inr x)) :: r) st μ := rfl
theorem e_asw_5n {y0 y1 y2 y3 z5 : Option AV} {x : Nat × Nat × Nat} : xb l K d n P ((.astore 5, a, b, w) :: qs) pc (y0 :: y1 :: y2 :: y3 :: none :: z5 :: r) (.inr (.inr x) :: st) μ = xb l K d n P qs (pc + 2) (y0 :: y1 :: y2 :: y3 :: none :: some (.inr (.inr x)) :: r) st μ := rfl
theorem e_asw_5I {y0 y1 y2 y3 z5 : Option AV} {x : Nat × Nat × Nat} {u : Int32} : xb l K d n P ((.astore 5, a, b, w) :: qs) pc (y0 :: y1 :: y2 :: y3 :: some (.inl u) :: z5 :: r) (.inr (.inr x) :: st) μ = xb l K d n P qs (pc + 2) (y0 :: y1 :: y2 :: y3 :: some (.inl u) :: some (.inr (.inr x)) :: r) st μ := rfl
theorem e_asw_5R {y0 y1 y2 y3 z5 : Option AV} {x : Nat × Nat × Nat} {u : Nat × Nat × Nat} : xb l K d n P ((.astore 5, a, b, w) :: qs) pc (y0 :: y1 :: y2 :: y3 :: some (.inr (.inr u)) :: z5 :: r) (.inr (.inr x) :: st) μ = xb l K d n P qs (pc + 2) (y0 :: y1 :: y2 :: y3 :: some (.inr (.inr u)) :: some (.inr (.inr x)) :: r) st μ := rfl
theorem e_asw_9n {y0 y1 y2 y3 y4 y5 y6 y7 z9 : Option AV} {x : Nat × Nat × Nat} : xb l K d n P ((.astore 9, a, b, w) :: qs) pc (y0 :: y1 :: y2 :: y3 :: y4 :: y5 :: y6 :: y7 :: none :: z9 :: r) (.inr (.inr x) :: st) μ = xb l K d n P qs (pc + 2) (y0 :: y1 :: y2 :: y3 :: y4 :: y5 :: y6 :: y7 :: none :: some (.inr (.inr x)) :: r) st μ := rfl
theorem e_asw_9I {y0 y1 y2 y3 y4 y5 y6 y7 z9 : Option AV} {x : Nat × Nat × Nat} {u : Int32} : xb l K d n P ((.astore 9, a, b, w) :: qs) pc (y0 :: y1 :: y2 :: y3 :: y4 :: y5 :: y6 :: y7 :: some (.inl u) :: z9 :: r) (.inr (.inr x) :: st) μ = xb l K d n P qs (pc + 2) (y0 :: y1 :: y2 :: y3 :: y4 :: y5 :: y6 :: y7 :: some (.inl u) :: some (.inr (.inr x)) :: r) st μ := rfl
theorem e_asw_9R {y0 y1 y2 y3 y4 y5 y6 y7 z9 : Option AV} {x : Nat × Nat × Nat} {u : Nat × Nat × Nat} : xb l K d n P ((.astore 9, a, b, w) :: qs) pc (y0 :: y1 :: y2 :: y3 :: y4 :: y5 :: y6 :: y7 :: some (.inr (.inr u)) :: z9 :: r) (.inr (.inr x) :: st) μ = xb l K d n P qs (pc + 2) (y0 :: y1 :: y2 :: y3 :: y4 :: y5 :: y6 :: y7 :: some (.inr (.inr u)) :: some (.inr (.inr x)) :: r) st μ := rfl
theorem e_ba {j : Int32} {c i s : Nat} : xb l K d n P ((.baload, 3, b, w) :: qs) pc lv (vI j :: vR c i s :: st) μ = (ain 3 c i s j ∧ xb l K d n P qs (pc + 1) lv (vI (μ c i s (ix j)) :: st) μ) := by
  show ((ain 3 c i s j ∧ (3 = 1 ∨ 3 = 3)) ∧ _) = _
  simp
theorem e_bp_10 : xb l K d n P ((.bipush 10, a, b, w) :: qs) pc lv st μ = xb l K d n P qs (pc + 2) lv (vI 10 :: st) μ := rfl
theorem e_bp_100 : xb l K d n P ((.bipush 100, a, b, w) :: qs) pc lv st μ = xb l K d n P qs (pc + 2) lv (vI 100 :: st) μ := rfl
theorem e_bp_103 : xb l K d n P ((.bipush 103, a, b, w) :: qs) pc lv st μ = xb l K d n P qs (pc + 2) lv (vI 103 :: st) μ := rfl
theorem e_bp_110 : xb l K d n P ((.bipush 110, a, b, w) :: qs) pc lv st μ = xb l K d n P qs (pc + 2) lv (vI 110 :: st) μ := rfl
theorem e_bp_111 : xb l K d n P ((.bipush 111, a, b, w) :: qs) pc lv st μ = xb l K d n P qs (pc + 2) lv (vI 111 :: st) μ := rfl
theorem e_bp_116 : xb l K d n P ((.bipush 116, a, b, w) :: qs) pc lv st μ = xb l K d n P qs (pc + 2) lv (vI 116 :: st) μ := rfl
theorem e_bp_126 : xb l K d n P ((.bipush 126, a, b, w) :: qs) pc lv st μ = xb l K d n P qs (pc + 2) lv (vI 126 :: st) μ := rfl
theorem e_bp_14 : xb l K d n P ((.bipush 14, a, b, w) :: qs) pc lv st μ = xb l K d n P qs (pc + 2) lv (vI 14 :: st) μ := rfl
theorem e_bp_15 : xb l K d n P ((.bipush 15, a, b, w) :: qs) pc lv st μ = xb l K d n P qs (pc + 2) lv (vI 15 :: st) μ := rfl
theorem e_bp_16 : xb l K d n P ((.bipush 16, a, b, w) :: qs) pc lv st μ = xb l K d n P qs (pc + 2) lv (vI 16 :: st) μ := rfl
theorem e_bp_17 : xb l K d n P ((.bipush 17, a, b, w) :: qs) pc lv st μ = xb l K d n P qs (pc + 2) lv (vI 17 :: st) μ := rfl
theorem e_bp_18 : xb l K d n P ((.bipush 18, a, b, w) :: qs) pc lv st μ = xb l K d n P qs (pc + 2) lv (vI 18 :: st) μ := rfl
theorem e_bp_19 : xb l K d n P ((.bipush 19, a, b, w) :: qs) pc lv st μ = xb l K d n P qs (pc + 2) lv (vI 19 :: st) μ := rfl
theorem e_bp_20 : xb l K d n P ((.bipush 20, a, b, w) :: qs) pc lv st μ = xb l K d n P qs (pc + 2) lv (vI 20 :: st) μ := rfl
theorem e_bp_22 : xb l K d n P ((.bipush 22, a, b, w) :: qs) pc lv st μ = xb l K d n P qs (pc + 2) lv (vI 22 :: st) μ := rfl
theorem e_bp_31 : xb l K d n P ((.bipush 31, a, b, w) :: qs) pc lv st μ = xb l K d n P qs (pc + 2) lv (vI 31 :: st) μ := rfl
theorem e_bp_32 : xb l K d n P ((.bipush 32, a, b, w) :: qs) pc lv st μ = xb l K d n P qs (pc + 2) lv (vI 32 :: st) μ := rfl
theorem e_bp_35 : xb l K d n P ((.bipush 35, a, b, w) :: qs) pc lv st μ = xb l K d n P qs (pc + 2) lv (vI 35 :: st) μ := rfl
theorem e_bp_36 : xb l K d n P ((.bipush 36, a, b, w) :: qs) pc lv st μ = xb l K d n P qs (pc + 2) lv (vI 36 :: st) μ := rfl
theorem e_bp_46 : xb l K d n P ((.bipush 46, a, b, w) :: qs) pc lv st μ = xb l K d n P qs (pc + 2) lv (vI 46 :: st) μ := rfl
theorem e_bp_47 : xb l K d n P ((.bipush 47, a, b, w) :: qs) pc lv st μ = xb l K d n P qs (pc + 2) lv (vI 47 :: st) μ := rfl
theorem e_bp_48 : xb l K d n P ((.bipush 48, a, b, w) :: qs) pc lv st μ = xb l K d n P qs (pc + 2) lv (vI 48 :: st) μ := rfl
theorem e_bp_57 : xb l K d n P ((.bipush 57, a, b, w) :: qs) pc lv st μ = xb l K d n P qs (pc + 2) lv (vI 57 :: st) μ := rfl
theorem e_bp_59 : xb l K d n P ((.bipush 59, a, b, w) :: qs) pc lv st μ = xb l K d n P qs (pc + 2) lv (vI 59 :: st) μ := rfl
theorem e_bp_6 : xb l K d n P ((.bipush 6, a, b, w) :: qs) pc lv st μ = xb l K d n P qs (pc + 2) lv (vI 6 :: st) μ := rfl
theorem e_bp_60 : xb l K d n P ((.bipush 60, a, b, w) :: qs) pc lv st μ = xb l K d n P qs (pc + 2) lv (vI 60 :: st) μ := rfl
theorem e_bp_63 : xb l K d n P ((.bipush 63, a, b, w) :: qs) pc lv st μ = xb l K d n P qs (pc + 2) lv (vI 63 :: st) μ := rfl
theorem e_bp_64 : xb l K d n P ((.bipush 64, a, b, w) :: qs) pc lv st μ = xb l K d n P qs (pc + 2) lv (vI 64 :: st) μ := rfl
theorem e_bp_8 : xb l K d n P ((.bipush 8, a, b, w) :: qs) pc lv st μ = xb l K d n P qs (pc + 2) lv (vI 8 :: st) μ := rfl
theorem e_bp_9 : xb l K d n P ((.bipush 9, a, b, w) :: qs) pc lv st μ = xb l K d n P qs (pc + 2) lv (vI 9 :: st) μ := rfl
theorem e_bp_m101 : xb l K d n P ((.bipush (-101), a, b, w) :: qs) pc lv st μ = xb l K d n P qs (pc + 2) lv (vI (-101) :: st) μ := rfl
theorem e_bp_m102 : xb l K d n P ((.bipush (-102), a, b, w) :: qs) pc lv st μ = xb l K d n P qs (pc + 2) lv (vI (-102) :: st) μ := rfl
theorem e_bp_m103 : xb l K d n P ((.bipush (-103), a, b, w) :: qs) pc lv st μ = xb l K d n P qs (pc + 2) lv (vI (-103) :: st) μ := rfl
theorem e_bp_m104 : xb l K d n P ((.bipush (-104), a, b, w) :: qs) pc lv st μ = xb l K d n P qs (pc + 2) lv (vI (-104) :: st) μ := rfl
theorem e_bs {j : Int32} : xb l K d n P ((.baload, 11, b, w) :: qs) pc lv (vI j :: vR 11 0 1 :: st) μ = (vp_in j 5 ∧ xb l K d n P qs (pc + 1) lv (vI (sby.getD (ix j) 0) :: st) μ) := by
  show ((_ ∧ _ ∧ _ ∧ _) ∧ _) = _
  simp
theorem e_bst {x j : Int32} {c i s : Nat} : xb l K d n P ((.bastore, 3, b, w) :: qs) pc lv (vI x :: vI j :: vR c i s :: st) μ = (ain 3 c i s j ∧ xb l K d n P qs (pc + 1) lv st (up μ c i s (ix j) (vp_nar .byte x))) := rfl
theorem e_ca {j : Int32} {c i s : Nat} : xb l K d n P ((.caload, a, b, w) :: qs) pc lv (vI j :: vR c i s :: st) μ = (ain 2 c i s j ∧ xb l K d n P qs (pc + 1) lv (vI (μ c i s (ix j)) :: st) μ) := rfl
theorem e_cs {x j : Int32} {c i s : Nat} : xb l K d n P ((.castore, a, b, w) :: qs) pc lv (vI x :: vI j :: vR c i s :: st) μ = (ain 2 c i s j ∧ xb l K d n P qs (pc + 1) lv st (up μ c i s (ix j) (vp_nar .char x))) := rfl
theorem e_dupI {v : Int32} : xb l K d n P ((.dup, a, b, w) :: qs) pc lv (Sum.inl v :: st) μ = xb l K d n P qs (pc + 1) lv (Sum.inl v :: Sum.inl v :: st) μ := by
  show (nol _ = true ∧ _) = _
  simp [nol]
theorem e_dupR {v : Nat × Nat × Nat} : xb l K d n P ((.dup, a, b, w) :: qs) pc lv (Sum.inr (Sum.inr v) :: st) μ = xb l K d n P qs (pc + 1) lv (Sum.inr (Sum.inr v) :: Sum.inr (Sum.inr v) :: st) μ := by
  show (nol _ = true ∧ _) = _
  simp [nol]
theorem e_dup2 {v : Int32} {u : Nat × Nat × Nat} : xb l K d n P ((.dup2, a, b, w) :: qs) pc lv (.inl v :: .inr (.inr u) :: st) μ = xb l K d n P qs (pc + 1) lv (.inl v :: .inr (.inr u) :: .inl v :: .inr (.inr u) :: st) μ := by
  show ((nol _ = true ∧ nol _ = true) ∧ _) = _
  simp [nol]
theorem e_gf_0_0 {i : Nat} : xb l K d n P ((.getfield i, 0, 0, w) :: qs) pc lv (vR 0 0 0 :: st) μ = (xb l K d n P qs (pc + 3) lv (rd μ 0 0 0 :: st) μ) := by
  show ((_ ∧ _ ∧ _) ∧ _) = _
  simp [cnt]
theorem e_gf_0_1 {i : Nat} : xb l K d n P ((.getfield i, 0, 1, w) :: qs) pc lv (vR 0 0 0 :: st) μ = (xb l K d n P qs (pc + 3) lv (rd μ 0 0 1 :: st) μ) := by
  show ((_ ∧ _ ∧ _) ∧ _) = _
  simp [cnt]
theorem e_gf_0_2 {i : Nat} : xb l K d n P ((.getfield i, 0, 2, w) :: qs) pc lv (vR 0 0 0 :: st) μ = (xb l K d n P qs (pc + 3) lv (rd μ 0 0 2 :: st) μ) := by
  show ((_ ∧ _ ∧ _) ∧ _) = _
  simp [cnt]
theorem e_gf_0_3 {i : Nat} : xb l K d n P ((.getfield i, 0, 3, w) :: qs) pc lv (vR 0 0 0 :: st) μ = (xb l K d n P qs (pc + 3) lv (rd μ 0 0 3 :: st) μ) := by
  show ((_ ∧ _ ∧ _) ∧ _) = _
  simp [cnt]
theorem e_gf_0_4 {i : Nat} : xb l K d n P ((.getfield i, 0, 4, w) :: qs) pc lv (vR 0 0 0 :: st) μ = (xb l K d n P qs (pc + 3) lv (rd μ 0 0 4 :: st) μ) := by
  show ((_ ∧ _ ∧ _) ∧ _) = _
  simp [cnt]
theorem e_gf_1_0 {i ii : Nat} : xb l K d n P ((.getfield i, 1, 0, w) :: qs) pc lv (vR 1 ii 0 :: st) μ = (ii < 2 ∧ xb l K d n P qs (pc + 3) lv (rd μ 1 ii 0 :: st) μ) := by
  show ((_ ∧ _ ∧ _) ∧ _) = _
  simp [cnt]
theorem e_gf_1_1 {i ii : Nat} : xb l K d n P ((.getfield i, 1, 1, w) :: qs) pc lv (vR 1 ii 0 :: st) μ = (ii < 2 ∧ xb l K d n P qs (pc + 3) lv (rd μ 1 ii 1 :: st) μ) := by
  show ((_ ∧ _ ∧ _) ∧ _) = _
  simp [cnt]
theorem e_gf_1_2 {i ii : Nat} : xb l K d n P ((.getfield i, 1, 2, w) :: qs) pc lv (vR 1 ii 0 :: st) μ = (ii < 2 ∧ xb l K d n P qs (pc + 3) lv (rd μ 1 ii 2 :: st) μ) := by
  show ((_ ∧ _ ∧ _) ∧ _) = _
  simp [cnt]
theorem e_gf_1_3 {i ii : Nat} : xb l K d n P ((.getfield i, 1, 3, w) :: qs) pc lv (vR 1 ii 0 :: st) μ = (ii < 2 ∧ xb l K d n P qs (pc + 3) lv (rd μ 1 ii 3 :: st) μ) := by
  show ((_ ∧ _ ∧ _) ∧ _) = _
  simp [cnt]
theorem e_gf_1_4 {i ii : Nat} : xb l K d n P ((.getfield i, 1, 4, w) :: qs) pc lv (vR 1 ii 0 :: st) μ = (ii < 2 ∧ xb l K d n P qs (pc + 3) lv (rd μ 1 ii 4 :: st) μ) := by
  show ((_ ∧ _ ∧ _) ∧ _) = _
  simp [cnt]
theorem e_gf_1_5 {i ii : Nat} : xb l K d n P ((.getfield i, 1, 5, w) :: qs) pc lv (vR 1 ii 0 :: st) μ = (ii < 2 ∧ xb l K d n P qs (pc + 3) lv (rd μ 1 ii 5 :: st) μ) := by
  show ((_ ∧ _ ∧ _) ∧ _) = _
  simp [cnt]
theorem e_gf_1_6 {i ii : Nat} : xb l K d n P ((.getfield i, 1, 6, w) :: qs) pc lv (vR 1 ii 0 :: st) μ = (ii < 2 ∧ xb l K d n P qs (pc + 3) lv (rd μ 1 ii 6 :: st) μ) := by
  show ((_ ∧ _ ∧ _) ∧ _) = _
  simp [cnt]
theorem e_gf_2_0 {i : Nat} : xb l K d n P ((.getfield i, 2, 0, w) :: qs) pc lv (vR 2 0 0 :: st) μ = (xb l K d n P qs (pc + 3) lv (rd μ 2 0 0 :: st) μ) := by
  show ((_ ∧ _ ∧ _) ∧ _) = _
  simp [cnt]
theorem e_gf_2_1 {i : Nat} : xb l K d n P ((.getfield i, 2, 1, w) :: qs) pc lv (vR 2 0 0 :: st) μ = (xb l K d n P qs (pc + 3) lv (rd μ 2 0 1 :: st) μ) := by
  show ((_ ∧ _ ∧ _) ∧ _) = _
  simp [cnt]
theorem e_gf_2_2 {i : Nat} : xb l K d n P ((.getfield i, 2, 2, w) :: qs) pc lv (vR 2 0 0 :: st) μ = (xb l K d n P qs (pc + 3) lv (rd μ 2 0 2 :: st) μ) := by
  show ((_ ∧ _ ∧ _) ∧ _) = _
  simp [cnt]
theorem e_gf_2_3 {i : Nat} : xb l K d n P ((.getfield i, 2, 3, w) :: qs) pc lv (vR 2 0 0 :: st) μ = (xb l K d n P qs (pc + 3) lv (rd μ 2 0 3 :: st) μ) := by
  show ((_ ∧ _ ∧ _) ∧ _) = _
  simp [cnt]
theorem e_gf_3_0 {i : Nat} : xb l K d n P ((.getfield i, 3, 0, w) :: qs) pc lv (vR 3 0 0 :: st) μ = (xb l K d n P qs (pc + 3) lv (rd μ 3 0 0 :: st) μ) := by
  show ((_ ∧ _ ∧ _) ∧ _) = _
  simp [cnt]
theorem e_gf_3_1 {i : Nat} : xb l K d n P ((.getfield i, 3, 1, w) :: qs) pc lv (vR 3 0 0 :: st) μ = (xb l K d n P qs (pc + 3) lv (rd μ 3 0 1 :: st) μ) := by
  show ((_ ∧ _ ∧ _) ∧ _) = _
  simp [cnt]
theorem e_gf_4_0 {i : Nat} : xb l K d n P ((.getfield i, 4, 0, w) :: qs) pc lv (vR 4 0 0 :: st) μ = (xb l K d n P qs (pc + 3) lv (rd μ 4 0 0 :: st) μ) := by
  show ((_ ∧ _ ∧ _) ∧ _) = _
  simp [cnt]
theorem e_gf_4_1 {i : Nat} : xb l K d n P ((.getfield i, 4, 1, w) :: qs) pc lv (vR 4 0 0 :: st) μ = (xb l K d n P qs (pc + 3) lv (rd μ 4 0 1 :: st) μ) := by
  show ((_ ∧ _ ∧ _) ∧ _) = _
  simp [cnt]
theorem e_gf_4_2 {i : Nat} : xb l K d n P ((.getfield i, 4, 2, w) :: qs) pc lv (vR 4 0 0 :: st) μ = (xb l K d n P qs (pc + 3) lv (rd μ 4 0 2 :: st) μ) := by
  show ((_ ∧ _ ∧ _) ∧ _) = _
  simp [cnt]
theorem e_gf_4_3 {i : Nat} : xb l K d n P ((.getfield i, 4, 3, w) :: qs) pc lv (vR 4 0 0 :: st) μ = (xb l K d n P qs (pc + 3) lv (rd μ 4 0 3 :: st) μ) := by
  show ((_ ∧ _ ∧ _) ∧ _) = _
  simp [cnt]
theorem e_gf_4_4 {i : Nat} : xb l K d n P ((.getfield i, 4, 4, w) :: qs) pc lv (vR 4 0 0 :: st) μ = (xb l K d n P qs (pc + 3) lv (rd μ 4 0 4 :: st) μ) := by
  show ((_ ∧ _ ∧ _) ∧ _) = _
  simp [cnt]
theorem e_gf_5_0 {i : Nat} : xb l K d n P ((.getfield i, 5, 0, w) :: qs) pc lv (vR 5 0 0 :: st) μ = (xb l K d n P qs (pc + 3) lv (rd μ 5 0 0 :: st) μ) := by
  show ((_ ∧ _ ∧ _) ∧ _) = _
  simp [cnt]
theorem e_gf_5_1 {i : Nat} : xb l K d n P ((.getfield i, 5, 1, w) :: qs) pc lv (vR 5 0 0 :: st) μ = (xb l K d n P qs (pc + 3) lv (rd μ 5 0 1 :: st) μ) := by
  show ((_ ∧ _ ∧ _) ∧ _) = _
  simp [cnt]
theorem e_gf_5_2 {i : Nat} : xb l K d n P ((.getfield i, 5, 2, w) :: qs) pc lv (vR 5 0 0 :: st) μ = (xb l K d n P qs (pc + 3) lv (rd μ 5 0 2 :: st) μ) := by
  show ((_ ∧ _ ∧ _) ∧ _) = _
  simp [cnt]
theorem e_gf_6_0 {i ii : Nat} : xb l K d n P ((.getfield i, 6, 0, w) :: qs) pc lv (vR 6 ii 0 :: st) μ = (ii < 6 ∧ xb l K d n P qs (pc + 3) lv (rd μ 6 ii 0 :: st) μ) := by
  show ((_ ∧ _ ∧ _) ∧ _) = _
  simp [cnt]
theorem e_gf_6_1 {i ii : Nat} : xb l K d n P ((.getfield i, 6, 1, w) :: qs) pc lv (vR 6 ii 0 :: st) μ = (ii < 6 ∧ xb l K d n P qs (pc + 3) lv (rd μ 6 ii 1 :: st) μ) := by
  show ((_ ∧ _ ∧ _) ∧ _) = _
  simp [cnt]
theorem e_gf_6_2 {i ii : Nat} : xb l K d n P ((.getfield i, 6, 2, w) :: qs) pc lv (vR 6 ii 0 :: st) μ = (ii < 6 ∧ xb l K d n P qs (pc + 3) lv (rd μ 6 ii 2 :: st) μ) := by
  show ((_ ∧ _ ∧ _) ∧ _) = _
  simp [cnt]
theorem e_gf_6_3 {i ii : Nat} : xb l K d n P ((.getfield i, 6, 3, w) :: qs) pc lv (vR 6 ii 0 :: st) μ = (ii < 6 ∧ xb l K d n P qs (pc + 3) lv (rd μ 6 ii 3 :: st) μ) := by
  show ((_ ∧ _ ∧ _) ∧ _) = _
  simp [cnt]
theorem e_gf_6_4 {i ii : Nat} : xb l K d n P ((.getfield i, 6, 4, w) :: qs) pc lv (vR 6 ii 0 :: st) μ = (ii < 6 ∧ xb l K d n P qs (pc + 3) lv (rd μ 6 ii 4 :: st) μ) := by
  show ((_ ∧ _ ∧ _) ∧ _) = _
  simp [cnt]
theorem e_gf_6_5 {i ii : Nat} : xb l K d n P ((.getfield i, 6, 5, w) :: qs) pc lv (vR 6 ii 0 :: st) μ = (ii < 6 ∧ xb l K d n P qs (pc + 3) lv (rd μ 6 ii 5 :: st) μ) := by
  show ((_ ∧ _ ∧ _) ∧ _) = _
  simp [cnt]
theorem e_gf_6_6 {i ii : Nat} : xb l K d n P ((.getfield i, 6, 6, w) :: qs) pc lv (vR 6 ii 0 :: st) μ = (ii < 6 ∧ xb l K d n P qs (pc + 3) lv (rd μ 6 ii 6 :: st) μ) := by
  show ((_ ∧ _ ∧ _) ∧ _) = _
  simp [cnt]
theorem e_gf_6_7 {i ii : Nat} : xb l K d n P ((.getfield i, 6, 7, w) :: qs) pc lv (vR 6 ii 0 :: st) μ = (ii < 6 ∧ xb l K d n P qs (pc + 3) lv (rd μ 6 ii 7 :: st) μ) := by
  show ((_ ∧ _ ∧ _) ∧ _) = _
  simp [cnt]
theorem e_gf_7_0 {i : Nat} : xb l K d n P ((.getfield i, 7, 0, w) :: qs) pc lv (vR 7 0 0 :: st) μ = (xb l K d n P qs (pc + 3) lv (rd μ 7 0 0 :: st) μ) := by
  show ((_ ∧ _ ∧ _) ∧ _) = _
  simp [cnt]
theorem e_gf_7_1 {i : Nat} : xb l K d n P ((.getfield i, 7, 1, w) :: qs) pc lv (vR 7 0 0 :: st) μ = (xb l K d n P qs (pc + 3) lv (rd μ 7 0 1 :: st) μ) := by
  show ((_ ∧ _ ∧ _) ∧ _) = _
  simp [cnt]
theorem e_gf_7_10 {i : Nat} : xb l K d n P ((.getfield i, 7, 10, w) :: qs) pc lv (vR 7 0 0 :: st) μ = (xb l K d n P qs (pc + 3) lv (rd μ 7 0 10 :: st) μ) := by
  show ((_ ∧ _ ∧ _) ∧ _) = _
  simp [cnt]
theorem e_gf_7_2 {i : Nat} : xb l K d n P ((.getfield i, 7, 2, w) :: qs) pc lv (vR 7 0 0 :: st) μ = (xb l K d n P qs (pc + 3) lv (rd μ 7 0 2 :: st) μ) := by
  show ((_ ∧ _ ∧ _) ∧ _) = _
  simp [cnt]
theorem e_gf_7_3 {i : Nat} : xb l K d n P ((.getfield i, 7, 3, w) :: qs) pc lv (vR 7 0 0 :: st) μ = (xb l K d n P qs (pc + 3) lv (rd μ 7 0 3 :: st) μ) := by
  show ((_ ∧ _ ∧ _) ∧ _) = _
  simp [cnt]
theorem e_gf_7_4 {i : Nat} : xb l K d n P ((.getfield i, 7, 4, w) :: qs) pc lv (vR 7 0 0 :: st) μ = (xb l K d n P qs (pc + 3) lv (rd μ 7 0 4 :: st) μ) := by
  show ((_ ∧ _ ∧ _) ∧ _) = _
  simp [cnt]
theorem e_gf_7_5 {i : Nat} : xb l K d n P ((.getfield i, 7, 5, w) :: qs) pc lv (vR 7 0 0 :: st) μ = (xb l K d n P qs (pc + 3) lv (rd μ 7 0 5 :: st) μ) := by
  show ((_ ∧ _ ∧ _) ∧ _) = _
  simp [cnt]
theorem e_gf_7_6 {i : Nat} : xb l K d n P ((.getfield i, 7, 6, w) :: qs) pc lv (vR 7 0 0 :: st) μ = (xb l K d n P qs (pc + 3) lv (rd μ 7 0 6 :: st) μ) := by
  show ((_ ∧ _ ∧ _) ∧ _) = _
  simp [cnt]
theorem e_gf_7_7 {i : Nat} : xb l K d n P ((.getfield i, 7, 7, w) :: qs) pc lv (vR 7 0 0 :: st) μ = (xb l K d n P qs (pc + 3) lv (rd μ 7 0 7 :: st) μ) := by
  show ((_ ∧ _ ∧ _) ∧ _) = _
  simp [cnt]
theorem e_gf_7_8 {i : Nat} : xb l K d n P ((.getfield i, 7, 8, w) :: qs) pc lv (vR 7 0 0 :: st) μ = (xb l K d n P qs (pc + 3) lv (rd μ 7 0 8 :: st) μ) := by
  show ((_ ∧ _ ∧ _) ∧ _) = _
  simp [cnt]
theorem e_gf_7_9 {i : Nat} : xb l K d n P ((.getfield i, 7, 9, w) :: qs) pc lv (vR 7 0 0 :: st) μ = (xb l K d n P qs (pc + 3) lv (rd μ 7 0 9 :: st) μ) := by
  show ((_ ∧ _ ∧ _) ∧ _) = _
  simp [cnt]
theorem e_gf_8_0 {i : Nat} : xb l K d n P ((.getfield i, 8, 0, w) :: qs) pc lv (vR 8 0 0 :: st) μ = (xb l K d n P qs (pc + 3) lv (rd μ 8 0 0 :: st) μ) := by
  show ((_ ∧ _ ∧ _) ∧ _) = _
  simp [cnt]
theorem e_gf_8_1 {i : Nat} : xb l K d n P ((.getfield i, 8, 1, w) :: qs) pc lv (vR 8 0 0 :: st) μ = (xb l K d n P qs (pc + 3) lv (rd μ 8 0 1 :: st) μ) := by
  show ((_ ∧ _ ∧ _) ∧ _) = _
  simp [cnt]
theorem e_gf_8_10 {i : Nat} : xb l K d n P ((.getfield i, 8, 10, w) :: qs) pc lv (vR 8 0 0 :: st) μ = (xb l K d n P qs (pc + 3) lv (rd μ 8 0 10 :: st) μ) := by
  show ((_ ∧ _ ∧ _) ∧ _) = _
  simp [cnt]
theorem e_gf_8_11 {i : Nat} : xb l K d n P ((.getfield i, 8, 11, w) :: qs) pc lv (vR 8 0 0 :: st) μ = (xb l K d n P qs (pc + 3) lv (rd μ 8 0 11 :: st) μ) := by
  show ((_ ∧ _ ∧ _) ∧ _) = _
  simp [cnt]
theorem e_gf_8_12 {i : Nat} : xb l K d n P ((.getfield i, 8, 12, w) :: qs) pc lv (vR 8 0 0 :: st) μ = (xb l K d n P qs (pc + 3) lv (rd μ 8 0 12 :: st) μ) := by
  show ((_ ∧ _ ∧ _) ∧ _) = _
  simp [cnt]
theorem e_gf_8_13 {i : Nat} : xb l K d n P ((.getfield i, 8, 13, w) :: qs) pc lv (vR 8 0 0 :: st) μ = (xb l K d n P qs (pc + 3) lv (rd μ 8 0 13 :: st) μ) := by
  show ((_ ∧ _ ∧ _) ∧ _) = _
  simp [cnt]
theorem e_gf_8_14 {i : Nat} : xb l K d n P ((.getfield i, 8, 14, w) :: qs) pc lv (vR 8 0 0 :: st) μ = (xb l K d n P qs (pc + 3) lv (rd μ 8 0 14 :: st) μ) := by
  show ((_ ∧ _ ∧ _) ∧ _) = _
  simp [cnt]
theorem e_gf_8_15 {i : Nat} : xb l K d n P ((.getfield i, 8, 15, w) :: qs) pc lv (vR 8 0 0 :: st) μ = (xb l K d n P qs (pc + 3) lv (rd μ 8 0 15 :: st) μ) := by
  show ((_ ∧ _ ∧ _) ∧ _) = _
  simp [cnt]
theorem e_gf_8_16 {i : Nat} : xb l K d n P ((.getfield i, 8, 16, w) :: qs) pc lv (vR 8 0 0 :: st) μ = (xb l K d n P qs (pc + 3) lv (rd μ 8 0 16 :: st) μ) := by
  show ((_ ∧ _ ∧ _) ∧ _) = _
  simp [cnt]
theorem e_gf_8_17 {i : Nat} : xb l K d n P ((.getfield i, 8, 17, w) :: qs) pc lv (vR 8 0 0 :: st) μ = (xb l K d n P qs (pc + 3) lv (rd μ 8 0 17 :: st) μ) := by
  show ((_ ∧ _ ∧ _) ∧ _) = _
  simp [cnt]
theorem e_gf_8_18 {i : Nat} : xb l K d n P ((.getfield i, 8, 18, w) :: qs) pc lv (vR 8 0 0 :: st) μ = (xb l K d n P qs (pc + 3) lv (rd μ 8 0 18 :: st) μ) := by
  show ((_ ∧ _ ∧ _) ∧ _) = _
  simp [cnt]
theorem e_gf_8_19 {i : Nat} : xb l K d n P ((.getfield i, 8, 19, w) :: qs) pc lv (vR 8 0 0 :: st) μ = (xb l K d n P qs (pc + 3) lv (rd μ 8 0 19 :: st) μ) := by
  show ((_ ∧ _ ∧ _) ∧ _) = _
  simp [cnt]
theorem e_gf_8_2 {i : Nat} : xb l K d n P ((.getfield i, 8, 2, w) :: qs) pc lv (vR 8 0 0 :: st) μ = (xb l K d n P qs (pc + 3) lv (rd μ 8 0 2 :: st) μ) := by
  show ((_ ∧ _ ∧ _) ∧ _) = _
  simp [cnt]
theorem e_gf_8_20 {i : Nat} : xb l K d n P ((.getfield i, 8, 20, w) :: qs) pc lv (vR 8 0 0 :: st) μ = (xb l K d n P qs (pc + 3) lv (rd μ 8 0 20 :: st) μ) := by
  show ((_ ∧ _ ∧ _) ∧ _) = _
  simp [cnt]
theorem e_gf_8_21 {i : Nat} : xb l K d n P ((.getfield i, 8, 21, w) :: qs) pc lv (vR 8 0 0 :: st) μ = (xb l K d n P qs (pc + 3) lv (rd μ 8 0 21 :: st) μ) := by
  show ((_ ∧ _ ∧ _) ∧ _) = _
  simp [cnt]
theorem e_gf_8_22 {i : Nat} : xb l K d n P ((.getfield i, 8, 22, w) :: qs) pc lv (vR 8 0 0 :: st) μ = (xb l K d n P qs (pc + 3) lv (rd μ 8 0 22 :: st) μ) := by
  show ((_ ∧ _ ∧ _) ∧ _) = _
  simp [cnt]
theorem e_gf_8_23 {i : Nat} : xb l K d n P ((.getfield i, 8, 23, w) :: qs) pc lv (vR 8 0 0 :: st) μ = (xb l K d n P qs (pc + 3) lv (rd μ 8 0 23 :: st) μ) := by
  show ((_ ∧ _ ∧ _) ∧ _) = _
  simp [cnt]
theorem e_gf_8_24 {i : Nat} : xb l K d n P ((.getfield i, 8, 24, w) :: qs) pc lv (vR 8 0 0 :: st) μ = (xb l K d n P qs (pc + 3) lv (rd μ 8 0 24 :: st) μ) := by
  show ((_ ∧ _ ∧ _) ∧ _) = _
  simp [cnt]
theorem e_gf_8_25 {i : Nat} : xb l K d n P ((.getfield i, 8, 25, w) :: qs) pc lv (vR 8 0 0 :: st) μ = (xb l K d n P qs (pc + 3) lv (rd μ 8 0 25 :: st) μ) := by
  show ((_ ∧ _ ∧ _) ∧ _) = _
  simp [cnt]
theorem e_gf_8_26 {i : Nat} : xb l K d n P ((.getfield i, 8, 26, w) :: qs) pc lv (vR 8 0 0 :: st) μ = (xb l K d n P qs (pc + 3) lv (rd μ 8 0 26 :: st) μ) := by
  show ((_ ∧ _ ∧ _) ∧ _) = _
  simp [cnt]
theorem e_gf_8_27 {i : Nat} : xb l K d n P ((.getfield i, 8, 27, w) :: qs) pc lv (vR 8 0 0 :: st) μ = (xb l K d n P qs (pc + 3) lv (rd μ 8 0 27 :: st) μ) := by
  show ((_ ∧ _ ∧ _) ∧ _) = _
  simp [cnt]
theorem e_gf_8_28 {i : Nat} : xb l K d n P ((.getfield i, 8, 28, w) :: qs) pc lv (vR 8 0 0 :: st) μ = (xb l K d n P qs (pc + 3) lv (rd μ 8 0 28 :: st) μ) := by
  show ((_ ∧ _ ∧ _) ∧ _) = _
  simp [cnt]
theorem e_gf_8_29 {i : Nat} : xb l K d n P ((.getfield i, 8, 29, w) :: qs) pc lv (vR 8 0 0 :: st) μ = (xb l K d n P qs (pc + 3) lv (rd μ 8 0 29 :: st) μ) := by
  show ((_ ∧ _ ∧ _) ∧ _) = _
  simp [cnt]
theorem e_gf_8_3 {i : Nat} : xb l K d n P ((.getfield i, 8, 3, w) :: qs) pc lv (vR 8 0 0 :: st) μ = (xb l K d n P qs (pc + 3) lv (rd μ 8 0 3 :: st) μ) := by
  show ((_ ∧ _ ∧ _) ∧ _) = _
  simp [cnt]
theorem e_gf_8_30 {i : Nat} : xb l K d n P ((.getfield i, 8, 30, w) :: qs) pc lv (vR 8 0 0 :: st) μ = (xb l K d n P qs (pc + 3) lv (rd μ 8 0 30 :: st) μ) := by
  show ((_ ∧ _ ∧ _) ∧ _) = _
  simp [cnt]
theorem e_gf_8_31 {i : Nat} : xb l K d n P ((.getfield i, 8, 31, w) :: qs) pc lv (vR 8 0 0 :: st) μ = (xb l K d n P qs (pc + 3) lv (rd μ 8 0 31 :: st) μ) := by
  show ((_ ∧ _ ∧ _) ∧ _) = _
  simp [cnt]
theorem e_gf_8_32 {i : Nat} : xb l K d n P ((.getfield i, 8, 32, w) :: qs) pc lv (vR 8 0 0 :: st) μ = (xb l K d n P qs (pc + 3) lv (rd μ 8 0 32 :: st) μ) := by
  show ((_ ∧ _ ∧ _) ∧ _) = _
  simp [cnt]
theorem e_gf_8_33 {i : Nat} : xb l K d n P ((.getfield i, 8, 33, w) :: qs) pc lv (vR 8 0 0 :: st) μ = (xb l K d n P qs (pc + 3) lv (rd μ 8 0 33 :: st) μ) := by
  show ((_ ∧ _ ∧ _) ∧ _) = _
  simp [cnt]
theorem e_gf_8_34 {i : Nat} : xb l K d n P ((.getfield i, 8, 34, w) :: qs) pc lv (vR 8 0 0 :: st) μ = (xb l K d n P qs (pc + 3) lv (rd μ 8 0 34 :: st) μ) := by
  show ((_ ∧ _ ∧ _) ∧ _) = _
  simp [cnt]
theorem e_gf_8_35 {i : Nat} : xb l K d n P ((.getfield i, 8, 35, w) :: qs) pc lv (vR 8 0 0 :: st) μ = (xb l K d n P qs (pc + 3) lv (rd μ 8 0 35 :: st) μ) := by
  show ((_ ∧ _ ∧ _) ∧ _) = _
  simp [cnt]
theorem e_gf_8_36 {i : Nat} : xb l K d n P ((.getfield i, 8, 36, w) :: qs) pc lv (vR 8 0 0 :: st) μ = (xb l K d n P qs (pc + 3) lv (rd μ 8 0 36 :: st) μ) := by
  show ((_ ∧ _ ∧ _) ∧ _) = _
  simp [cnt]
theorem e_gf_8_37 {i : Nat} : xb l K d n P ((.getfield i, 8, 37, w) :: qs) pc lv (vR 8 0 0 :: st) μ = (xb l K d n P qs (pc + 3) lv (rd μ 8 0 37 :: st) μ) := by
  show ((_ ∧ _ ∧ _) ∧ _) = _
  simp [cnt]
theorem e_gf_8_38 {i : Nat} : xb l K d n P ((.getfield i, 8, 38, w) :: qs) pc lv (vR 8 0 0 :: st) μ = (xb l K d n P qs (pc + 3) lv (rd μ 8 0 38 :: st) μ) := by
  show ((_ ∧ _ ∧ _) ∧ _) = _
  simp [cnt]
theorem e_gf_8_39 {i : Nat} : xb l K d n P ((.getfield i, 8, 39, w) :: qs) pc lv (vR 8 0 0 :: st) μ = (xb l K d n P qs (pc + 3) lv (rd μ 8 0 39 :: st) μ) := by
  show ((_ ∧ _ ∧ _) ∧ _) = _
  simp [cnt]
theorem e_gf_8_4 {i : Nat} : xb l K d n P ((.getfield i, 8, 4, w) :: qs) pc lv (vR 8 0 0 :: st) μ = (xb l K d n P qs (pc + 3) lv (rd μ 8 0 4 :: st) μ) := by
  show ((_ ∧ _ ∧ _) ∧ _) = _
  simp [cnt]
theorem e_gf_8_40 {i : Nat} : xb l K d n P ((.getfield i, 8, 40, w) :: qs) pc lv (vR 8 0 0 :: st) μ = (xb l K d n P qs (pc + 3) lv (rd μ 8 0 40 :: st) μ) := by
  show ((_ ∧ _ ∧ _) ∧ _) = _
  simp [cnt]
theorem e_gf_8_5 {i : Nat} : xb l K d n P ((.getfield i, 8, 5, w) :: qs) pc lv (vR 8 0 0 :: st) μ = (xb l K d n P qs (pc + 3) lv (rd μ 8 0 5 :: st) μ) := by
  show ((_ ∧ _ ∧ _) ∧ _) = _
  simp [cnt]
theorem e_gf_8_6 {i : Nat} : xb l K d n P ((.getfield i, 8, 6, w) :: qs) pc lv (vR 8 0 0 :: st) μ = (xb l K d n P qs (pc + 3) lv (rd μ 8 0 6 :: st) μ) := by
  show ((_ ∧ _ ∧ _) ∧ _) = _
  simp [cnt]
theorem e_gf_8_7 {i : Nat} : xb l K d n P ((.getfield i, 8, 7, w) :: qs) pc lv (vR 8 0 0 :: st) μ = (xb l K d n P qs (pc + 3) lv (rd μ 8 0 7 :: st) μ) := by
  show ((_ ∧ _ ∧ _) ∧ _) = _
  simp [cnt]
theorem e_gf_8_8 {i : Nat} : xb l K d n P ((.getfield i, 8, 8, w) :: qs) pc lv (vR 8 0 0 :: st) μ = (xb l K d n P qs (pc + 3) lv (rd μ 8 0 8 :: st) μ) := by
  show ((_ ∧ _ ∧ _) ∧ _) = _
  simp [cnt]
theorem e_gf_8_9 {i : Nat} : xb l K d n P ((.getfield i, 8, 9, w) :: qs) pc lv (vR 8 0 0 :: st) μ = (xb l K d n P qs (pc + 3) lv (rd μ 8 0 9 :: st) μ) := by
  show ((_ ∧ _ ∧ _) ∧ _) = _
  simp [cnt]
theorem e_gk_0 {i ii : Nat} : xb l K d n P ((.getfield i, 9, 0, w) :: qs) pc lv (vR 9 ii 0 :: st) μ = (ii < 5 ∧ xb l K d n P qs (pc + 3) lv (vI (kv 0 ii) :: st) μ) := by
  show ((_ ∧ _ ∧ _) ∧ _) = _
  simp
theorem e_gk_1 {i ii : Nat} : xb l K d n P ((.getfield i, 9, 1, w) :: qs) pc lv (vR 9 ii 0 :: st) μ = (ii < 5 ∧ xb l K d n P qs (pc + 3) lv (vI (kv 1 ii) :: st) μ) := by
  show ((_ ∧ _ ∧ _) ∧ _) = _
  simp
theorem e_goto {off : Int} : xb l K d n P ((.goto off, a, b, w) :: qs) pc lv st μ = xb l K d n P qs a lv st μ := rfl
theorem e_gs_0 {i : Nat} : xb l K d n P ((.getfield i, 11, 0, w) :: qs) pc lv (vR 11 0 0 :: st) μ = (xb l K d n P qs (pc + 3) lv (vR 11 0 1 :: st) μ) := by
  show ((_ ∧ _ ∧ _) ∧ _) = _
  simp
theorem e_gs_1 {i : Nat} : xb l K d n P ((.getfield i, 11, 1, w) :: qs) pc lv (vR 11 0 0 :: st) μ = (xb l K d n P qs (pc + 3) lv (vI 0 :: st) μ) := by
  show ((_ ∧ _ ∧ _) ∧ _) = _
  simp
theorem e_i2b {x : Int32} : xb l K d n P ((.i2b, a, b, w) :: qs) pc lv (vI x :: st) μ = xb l K d n P qs (pc + 1) lv (vI x.toInt8.toInt32 :: st) μ := rfl
theorem e_i2c {x : Int32} : xb l K d n P ((.i2c, a, b, w) :: qs) pc lv (vI x :: st) μ = xb l K d n P qs (pc + 1) lv (vI (x.toUInt32 % 65536).toInt32 :: st) μ := rfl
theorem e_i2l {x : Int32} : xb l K d n P ((.i2l, a, b, w) :: qs) pc lv (vI x :: st) μ = xb l K d n P qs (pc + 1) lv (vJ x.toInt64 :: st) μ := rfl
theorem e_ia {j : Int32} {c i s : Nat} : xb l K d n P ((.iaload, 0, b, w) :: qs) pc lv (vI j :: vR c i s :: st) μ = (ain 0 c i s j ∧ xb l K d n P qs (pc + 1) lv (vI (μ c i s (ix j)) :: st) μ) := rfl
theorem e_iaX {j : Int32} : xb l K d n P ((.iaload, 12, b, w) :: qs) pc lv (vI j :: vR 12 0 1 :: st) μ = (vp_in j (kN K) ∧ xb l K d n P qs (pc + 1) lv (vI (kX K (ix j)) :: st) μ) := by
  show ((_ ∧ _ ∧ _ ∧ _) ∧ _) = _
  simp
theorem e_iadd {x y : Int32} : xb l K d n P ((.iadd, a, b, w) :: qs) pc lv (vI y :: vI x :: st) μ = (xb l K d n P qs (pc + 1) lv (vI (x + y) :: st) μ) := rfl
theorem e_iand {x y : Int32} : xb l K d n P ((.iand, a, b, w) :: qs) pc lv (vI y :: vI x :: st) μ = (xb l K d n P qs (pc + 1) lv (vI (x &&& y) :: st) μ) := rfl
theorem e_iast {x j : Int32} {c i s : Nat} : xb l K d n P ((.iastore, a, b, w) :: qs) pc lv (vI x :: vI j :: vR c i s :: st) μ = (ain 0 c i s j ∧ xb l K d n P qs (pc + 1) lv st (up μ c i s (ix j) x)) := rfl
theorem e_ic_0 : xb l K d n P ((.iconst 0, a, b, w) :: qs) pc lv st μ = xb l K d n P qs (pc + 1) lv (vI 0 :: st) μ := rfl
theorem e_ic_1 : xb l K d n P ((.iconst 1, a, b, w) :: qs) pc lv st μ = xb l K d n P qs (pc + 1) lv (vI 1 :: st) μ := rfl
theorem e_ic_2 : xb l K d n P ((.iconst 2, a, b, w) :: qs) pc lv st μ = xb l K d n P qs (pc + 1) lv (vI 2 :: st) μ := rfl
theorem e_ic_3 : xb l K d n P ((.iconst 3, a, b, w) :: qs) pc lv st μ = xb l K d n P qs (pc + 1) lv (vI 3 :: st) μ := rfl
theorem e_ic_4 : xb l K d n P ((.iconst 4, a, b, w) :: qs) pc lv st μ = xb l K d n P qs (pc + 1) lv (vI 4 :: st) μ := rfl
theorem e_ic_5 : xb l K d n P ((.iconst 5, a, b, w) :: qs) pc lv st μ = xb l K d n P qs (pc + 1) lv (vI 5 :: st) μ := rfl
theorem e_ic_m1 : xb l K d n P ((.iconst (-1), a, b, w) :: qs) pc lv st μ = xb l K d n P qs (pc + 1) lv (vI (-1) :: st) μ := rfl
theorem e_icmp_eq {x y : Int32} {off : Int} : xb l K d n P ((.if_icmp .eq off, a, b, w) :: qs) pc lv (vI y :: vI x :: st) μ = ((x = y → Go l K d n a lv st μ P) ∧ (¬ x = y → Go l K d n (pc + 3) lv st μ P)) := rfl
theorem e_icmp_ge {x y : Int32} {off : Int} : xb l K d n P ((.if_icmp .ge off, a, b, w) :: qs) pc lv (vI y :: vI x :: st) μ = ((y ≤ x → Go l K d n a lv st μ P) ∧ (¬ y ≤ x → Go l K d n (pc + 3) lv st μ P)) := rfl
theorem e_icmp_gt {x y : Int32} {off : Int} : xb l K d n P ((.if_icmp .gt off, a, b, w) :: qs) pc lv (vI y :: vI x :: st) μ = ((y < x → Go l K d n a lv st μ P) ∧ (¬ y < x → Go l K d n (pc + 3) lv st μ P)) := rfl
theorem e_icmp_le {x y : Int32} {off : Int} : xb l K d n P ((.if_icmp .le off, a, b, w) :: qs) pc lv (vI y :: vI x :: st) μ = ((x ≤ y → Go l K d n a lv st μ P) ∧ (¬ x ≤ y → Go l K d n (pc + 3) lv st μ P)) := rfl
theorem e_icmp_lt {x y : Int32} {off : Int} : xb l K d n P ((.if_icmp .lt off, a, b, w) :: qs) pc lv (vI y :: vI x :: st) μ = ((x < y → Go l K d n a lv st μ P) ∧ (¬ x < y → Go l K d n (pc + 3) lv st μ P)) := rfl
theorem e_icmp_ne {x y : Int32} {off : Int} : xb l K d n P ((.if_icmp .ne off, a, b, w) :: qs) pc lv (vI y :: vI x :: st) μ = ((¬ x = y → Go l K d n a lv st μ P) ∧ (x = y → Go l K d n (pc + 3) lv st μ P)) := by
  show ((¬ x = y → _) ∧ (¬ ¬ x = y → _)) = _
  rw [Decidable.not_not]
theorem e_idiv {x y : Int32} : xb l K d n P ((.idiv, a, b, w) :: qs) pc lv (vI y :: vI x :: st) μ = ((¬ y = 0) ∧ xb l K d n P qs (pc + 1) lv (vI (x / y) :: st) μ) := rfl
theorem e_if_eq {x : Int32} {off : Int} : xb l K d n P ((.ifCond .eq off, a, b, w) :: qs) pc lv (vI x :: st) μ = ((x = 0 → Go l K d n a lv st μ P) ∧ (¬ x = 0 → Go l K d n (pc + 3) lv st μ P)) := rfl
theorem e_if_ge {x : Int32} {off : Int} : xb l K d n P ((.ifCond .ge off, a, b, w) :: qs) pc lv (vI x :: st) μ = ((0 ≤ x → Go l K d n a lv st μ P) ∧ (¬ 0 ≤ x → Go l K d n (pc + 3) lv st μ P)) := rfl
theorem e_if_gt {x : Int32} {off : Int} : xb l K d n P ((.ifCond .gt off, a, b, w) :: qs) pc lv (vI x :: st) μ = ((0 < x → Go l K d n a lv st μ P) ∧ (¬ 0 < x → Go l K d n (pc + 3) lv st μ P)) := rfl
theorem e_if_le {x : Int32} {off : Int} : xb l K d n P ((.ifCond .le off, a, b, w) :: qs) pc lv (vI x :: st) μ = ((x ≤ 0 → Go l K d n a lv st μ P) ∧ (¬ x ≤ 0 → Go l K d n (pc + 3) lv st μ P)) := rfl
theorem e_if_lt {x : Int32} {off : Int} : xb l K d n P ((.ifCond .lt off, a, b, w) :: qs) pc lv (vI x :: st) μ = ((x < 0 → Go l K d n a lv st μ P) ∧ (¬ x < 0 → Go l K d n (pc + 3) lv st μ P)) := rfl
theorem e_if_ne {x : Int32} {off : Int} : xb l K d n P ((.ifCond .ne off, a, b, w) :: qs) pc lv (vI x :: st) μ = ((¬ x = 0 → Go l K d n a lv st μ P) ∧ (x = 0 → Go l K d n (pc + 3) lv st μ P)) := by
  show ((¬ x = 0 → _) ∧ (¬ ¬ x = 0 → _)) = _
  rw [Decidable.not_not]
theorem e_il_0 {x : Int32} : xb l K d n P ((.iload_n 0, a, b, w) :: qs) pc (some (.inl x) :: r) st μ = xb l K d n P qs (pc + 1) (some (.inl x) :: r) (.inl x :: st) μ := rfl
theorem e_il_1 {y0 : Option AV} {x : Int32} : xb l K d n P ((.iload_n 1, a, b, w) :: qs) pc (y0 :: some (.inl x) :: r) st μ = xb l K d n P qs (pc + 1) (y0 :: some (.inl x) :: r) (.inl x :: st) μ := rfl
theorem e_il_2 {y0 y1 : Option AV} {x : Int32} : xb l K d n P ((.iload_n 2, a, b, w) :: qs) pc (y0 :: y1 :: some (.inl x) :: r) st μ = xb l K d n P qs (pc + 1) (y0 :: y1 :: some (.inl x) :: r) (.inl x :: st) μ := rfl
theorem e_il_3 {y0 y1 y2 : Option AV} {x : Int32} : xb l K d n P ((.iload_n 3, a, b, w) :: qs) pc (y0 :: y1 :: y2 :: some (.inl x) :: r) st μ = xb l K d n P qs (pc + 1) (y0 :: y1 :: y2 :: some (.inl x) :: r) (.inl x :: st) μ := rfl
theorem e_ilw_10 {y0 y1 y2 y3 y4 y5 y6 y7 y8 y9 : Option AV} {x : Int32} : xb l K d n P ((.iload 10, a, b, w) :: qs) pc (y0 :: y1 :: y2 :: y3 :: y4 :: y5 :: y6 :: y7 :: y8 :: y9 :: some (.inl x) :: r) st μ = xb l K d n P qs (pc + 2) (y0 :: y1 :: y2 :: y3 :: y4 :: y5 :: y6 :: y7 :: y8 :: y9 :: some (.inl x) :: r) (.inl x :: st) μ := rfl
theorem e_ilw_11 {y0 y1 y2 y3 y4 y5 y6 y7 y8 y9 y10 : Option AV} {x : Int32} : xb l K d n P ((.iload 11, a, b, w) :: qs) pc (y0 :: y1 :: y2 :: y3 :: y4 :: y5 :: y6 :: y7 :: y8 :: y9 :: y10 :: some (.inl x) :: r) st μ = xb l K d n P qs (pc + 2) (y0 :: y1 :: y2 :: y3 :: y4 :: y5 :: y6 :: y7 :: y8 :: y9 :: y10 :: some (.inl x) :: r) (.inl x :: st) μ := rfl
theorem e_ilw_4 {y0 y1 y2 y3 : Option AV} {x : Int32} : xb l K d n P ((.iload 4, a, b, w) :: qs) pc (y0 :: y1 :: y2 :: y3 :: some (.inl x) :: r) st μ = xb l K d n P qs (pc + 2) (y0 :: y1 :: y2 :: y3 :: some (.inl x) :: r) (.inl x :: st) μ := rfl
theorem e_ilw_5 {y0 y1 y2 y3 y4 : Option AV} {x : Int32} : xb l K d n P ((.iload 5, a, b, w) :: qs) pc (y0 :: y1 :: y2 :: y3 :: y4 :: some (.inl x) :: r) st μ = xb l K d n P qs (pc + 2) (y0 :: y1 :: y2 :: y3 :: y4 :: some (.inl x) :: r) (.inl x :: st) μ := rfl
theorem e_ilw_6 {y0 y1 y2 y3 y4 y5 : Option AV} {x : Int32} : xb l K d n P ((.iload 6, a, b, w) :: qs) pc (y0 :: y1 :: y2 :: y3 :: y4 :: y5 :: some (.inl x) :: r) st μ = xb l K d n P qs (pc + 2) (y0 :: y1 :: y2 :: y3 :: y4 :: y5 :: some (.inl x) :: r) (.inl x :: st) μ := rfl
theorem e_ilw_7 {y0 y1 y2 y3 y4 y5 y6 : Option AV} {x : Int32} : xb l K d n P ((.iload 7, a, b, w) :: qs) pc (y0 :: y1 :: y2 :: y3 :: y4 :: y5 :: y6 :: some (.inl x) :: r) st μ = xb l K d n P qs (pc + 2) (y0 :: y1 :: y2 :: y3 :: y4 :: y5 :: y6 :: some (.inl x) :: r) (.inl x :: st) μ := rfl
theorem e_ilw_8 {y0 y1 y2 y3 y4 y5 y6 y7 : Option AV} {x : Int32} : xb l K d n P ((.iload 8, a, b, w) :: qs) pc (y0 :: y1 :: y2 :: y3 :: y4 :: y5 :: y6 :: y7 :: some (.inl x) :: r) st μ = xb l K d n P qs (pc + 2) (y0 :: y1 :: y2 :: y3 :: y4 :: y5 :: y6 :: y7 :: some (.inl x) :: r) (.inl x :: st) μ := rfl
theorem e_ilw_9 {y0 y1 y2 y3 y4 y5 y6 y7 y8 : Option AV} {x : Int32} : xb l K d n P ((.iload 9, a, b, w) :: qs) pc (y0 :: y1 :: y2 :: y3 :: y4 :: y5 :: y6 :: y7 :: y8 :: some (.inl x) :: r) st μ = xb l K d n P qs (pc + 2) (y0 :: y1 :: y2 :: y3 :: y4 :: y5 :: y6 :: y7 :: y8 :: some (.inl x) :: r) (.inl x :: st) μ := rfl
theorem e_imul {x y : Int32} : xb l K d n P ((.imul, a, b, w) :: qs) pc lv (vI y :: vI x :: st) μ = (xb l K d n P qs (pc + 1) lv (vI (x * y) :: st) μ) := rfl
theorem e_inc_1_1n {x : Int32} : xb l K d n P ((.iinc 1 1, a, b, w) :: qs) pc (none :: some (.inl x) :: r) st μ = xb l K d n P qs (pc + 3) (none :: some (.inl (x + 1)) :: r) st μ := rfl
theorem e_inc_1_1I {x : Int32} {u : Int32} : xb l K d n P ((.iinc 1 1, a, b, w) :: qs) pc (some (.inl u) :: some (.inl x) :: r) st μ = xb l K d n P qs (pc + 3) (some (.inl u) :: some (.inl (x + 1)) :: r) st μ := rfl
theorem e_inc_1_1R {x : Int32} {u : Nat × Nat × Nat} : xb l K d n P ((.iinc 1 1, a, b, w) :: qs) pc (some (.inr (.inr u)) :: some (.inl x) :: r) st μ = xb l K d n P qs (pc + 3) (some (.inr (.inr u)) :: some (.inl (x + 1)) :: r) st μ := rfl
theorem e_inc_2_1n {y0 : Option AV} {x : Int32} : xb l K d n P ((.iinc 2 1, a, b, w) :: qs) pc (y0 :: none :: some (.inl x) :: r) st μ = xb l K d n P qs (pc + 3) (y0 :: none :: some (.inl (x + 1)) :: r) st μ := rfl
theorem e_inc_2_1I {y0 : Option AV} {x : Int32} {u : Int32} : xb l K d n P ((.iinc 2 1, a, b, w) :: qs) pc (y0 :: some (.inl u) :: some (.inl x) :: r) st μ = xb l K d n P qs (pc + 3) (y0 :: some (.inl u) :: some (.inl (x + 1)) :: r) st μ := rfl
theorem e_inc_2_1R {y0 : Option AV} {x : Int32} {u : Nat × Nat × Nat} : xb l K d n P ((.iinc 2 1, a, b, w) :: qs) pc (y0 :: some (.inr (.inr u)) :: some (.inl x) :: r) st μ = xb l K d n P qs (pc + 3) (y0 :: some (.inr (.inr u)) :: some (.inl (x + 1)) :: r) st μ := rfl
theorem e_inc_3_1n {y0 y1 : Option AV} {x : Int32} : xb l K d n P ((.iinc 3 1, a, b, w) :: qs) pc (y0 :: y1 :: none :: some (.inl x) :: r) st μ = xb l K d n P qs (pc + 3) (y0 :: y1 :: none :: some (.inl (x + 1)) :: r) st μ := rfl
theorem e_inc_3_1I {y0 y1 : Option AV} {x : Int32} {u : Int32} : xb l K d n P ((.iinc 3 1, a, b, w) :: qs) pc (y0 :: y1 :: some (.inl u) :: some (.inl x) :: r) st μ = xb l K d n P qs (pc + 3) (y0 :: y1 :: some (.inl u) :: some (.inl (x + 1)) :: r) st μ := rfl
theorem e_inc_3_1R {y0 y1 : Option AV} {x : Int32} {u : Nat × Nat × Nat} : xb l K d n P ((.iinc 3 1, a, b, w) :: qs) pc (y0 :: y1 :: some (.inr (.inr u)) :: some (.inl x) :: r) st μ = xb l K d n P qs (pc + 3) (y0 :: y1 :: some (.inr (.inr u)) :: some (.inl (x + 1)) :: r) st μ := rfl
theorem e_inc_3_4n {y0 y1 : Option AV} {x : Int32} : xb l K d n P ((.iinc 3 4, a, b, w) :: qs) pc (y0 :: y1 :: none :: some (.inl x) :: r) st μ = xb l K d n P qs (pc + 3) (y0 :: y1 :: none :: some (.inl (x + 4)) :: r) st μ := rfl
theorem e_inc_3_4I {y0 y1 : Option AV} {x : Int32} {u : Int32} : xb l K d n P ((.iinc 3 4, a, b, w) :: qs) pc (y0 :: y1 :: some (.inl u) :: some (.inl x) :: r) st μ = xb l K d n P qs (pc + 3) (y0 :: y1 :: some (.inl u) :: some (.inl (x + 4)) :: r) st μ := rfl
theorem e_inc_3_4R {y0 y1 : Option AV} {x : Int32} {u : Nat × Nat × Nat} : xb l K d n P ((.iinc 3 4, a, b, w) :: qs) pc (y0 :: y1 :: some (.inr (.inr u)) :: some (.inl x) :: r) st μ = xb l K d n P qs (pc + 3) (y0 :: y1 :: some (.inr (.inr u)) :: some (.inl (x + 4)) :: r) st μ := rfl
theorem e_inc_4_1n {y0 y1 y2 : Option AV} {x : Int32} : xb l K d n P ((.iinc 4 1, a, b, w) :: qs) pc (y0 :: y1 :: y2 :: none :: some (.inl x) :: r) st μ = xb l K d n P qs (pc + 3) (y0 :: y1 :: y2 :: none :: some (.inl (x + 1)) :: r) st μ := rfl
theorem e_inc_4_1I {y0 y1 y2 : Option AV} {x : Int32} {u : Int32} : xb l K d n P ((.iinc 4 1, a, b, w) :: qs) pc (y0 :: y1 :: y2 :: some (.inl u) :: some (.inl x) :: r) st μ = xb l K d n P qs (pc + 3) (y0 :: y1 :: y2 :: some (.inl u) :: some (.inl (x + 1)) :: r) st μ := rfl
theorem e_inc_4_1R {y0 y1 y2 : Option AV} {x : Int32} {u : Nat × Nat × Nat} : xb l K d n P ((.iinc 4 1, a, b, w) :: qs) pc (y0 :: y1 :: y2 :: some (.inr (.inr u)) :: some (.inl x) :: r) st μ = xb l K d n P qs (pc + 3) (y0 :: y1 :: y2 :: some (.inr (.inr u)) :: some (.inl (x + 1)) :: r) st μ := rfl
theorem e_inc_4_2n {y0 y1 y2 : Option AV} {x : Int32} : xb l K d n P ((.iinc 4 2, a, b, w) :: qs) pc (y0 :: y1 :: y2 :: none :: some (.inl x) :: r) st μ = xb l K d n P qs (pc + 3) (y0 :: y1 :: y2 :: none :: some (.inl (x + 2)) :: r) st μ := rfl
theorem e_inc_4_2I {y0 y1 y2 : Option AV} {x : Int32} {u : Int32} : xb l K d n P ((.iinc 4 2, a, b, w) :: qs) pc (y0 :: y1 :: y2 :: some (.inl u) :: some (.inl x) :: r) st μ = xb l K d n P qs (pc + 3) (y0 :: y1 :: y2 :: some (.inl u) :: some (.inl (x + 2)) :: r) st μ := rfl
theorem e_inc_4_2R {y0 y1 y2 : Option AV} {x : Int32} {u : Nat × Nat × Nat} : xb l K d n P ((.iinc 4 2, a, b, w) :: qs) pc (y0 :: y1 :: y2 :: some (.inr (.inr u)) :: some (.inl x) :: r) st μ = xb l K d n P qs (pc + 3) (y0 :: y1 :: y2 :: some (.inr (.inr u)) :: some (.inl (x + 2)) :: r) st μ := rfl
theorem e_inc_5_1n {y0 y1 y2 y3 : Option AV} {x : Int32} : xb l K d n P ((.iinc 5 1, a, b, w) :: qs) pc (y0 :: y1 :: y2 :: y3 :: none :: some (.inl x) :: r) st μ = xb l K d n P qs (pc + 3) (y0 :: y1 :: y2 :: y3 :: none :: some (.inl (x + 1)) :: r) st μ := rfl
theorem e_inc_5_1I {y0 y1 y2 y3 : Option AV} {x : Int32} {u : Int32} : xb l K d n P ((.iinc 5 1, a, b, w) :: qs) pc (y0 :: y1 :: y2 :: y3 :: some (.inl u) :: some (.inl x) :: r) st μ = xb l K d n P qs (pc + 3) (y0 :: y1 :: y2 :: y3 :: some (.inl u) :: some (.inl (x + 1)) :: r) st μ := rfl
theorem e_inc_5_1R {y0 y1 y2 y3 : Option AV} {x : Int32} {u : Nat × Nat × Nat} : xb l K d n P ((.iinc 5 1, a, b, w) :: qs) pc (y0 :: y1 :: y2 :: y3 :: some (.inr (.inr u)) :: some (.inl x) :: r) st μ = xb l K d n P qs (pc + 3) (y0 :: y1 :: y2 :: y3 :: some (.inr (.inr u)) :: some (.inl (x + 1)) :: r) st μ := rfl
theorem e_inc_6_1n {y0 y1 y2 y3 y4 : Option AV} {x : Int32} : xb l K d n P ((.iinc 6 1, a, b, w) :: qs) pc (y0 :: y1 :: y2 :: y3 :: y4 :: none :: some (.inl x) :: r) st μ = xb l K d n P qs (pc + 3) (y0 :: y1 :: y2 :: y3 :: y4 :: none :: some (.inl (x + 1)) :: r) st μ := rfl
theorem e_inc_6_1I {y0 y1 y2 y3 y4 : Option AV} {x : Int32} {u : Int32} : xb l K d n P ((.iinc 6 1, a, b, w) :: qs) pc (y0 :: y1 :: y2 :: y3 :: y4 :: some (.inl u) :: some (.inl x) :: r) st μ = xb l K d n P qs (pc + 3) (y0 :: y1 :: y2 :: y3 :: y4 :: some (.inl u) :: some (.inl (x + 1)) :: r) st μ := rfl
theorem e_inc_6_1R {y0 y1 y2 y3 y4 : Option AV} {x : Int32} {u : Nat × Nat × Nat} : xb l K d n P ((.iinc 6 1, a, b, w) :: qs) pc (y0 :: y1 :: y2 :: y3 :: y4 :: some (.inr (.inr u)) :: some (.inl x) :: r) st μ = xb l K d n P qs (pc + 3) (y0 :: y1 :: y2 :: y3 :: y4 :: some (.inr (.inr u)) :: some (.inl (x + 1)) :: r) st μ := rfl
theorem e_inc_7_1n {y0 y1 y2 y3 y4 y5 : Option AV} {x : Int32} : xb l K d n P ((.iinc 7 1, a, b, w) :: qs) pc (y0 :: y1 :: y2 :: y3 :: y4 :: y5 :: none :: some (.inl x) :: r) st μ = xb l K d n P qs (pc + 3) (y0 :: y1 :: y2 :: y3 :: y4 :: y5 :: none :: some (.inl (x + 1)) :: r) st μ := rfl
theorem e_inc_7_1I {y0 y1 y2 y3 y4 y5 : Option AV} {x : Int32} {u : Int32} : xb l K d n P ((.iinc 7 1, a, b, w) :: qs) pc (y0 :: y1 :: y2 :: y3 :: y4 :: y5 :: some (.inl u) :: some (.inl x) :: r) st μ = xb l K d n P qs (pc + 3) (y0 :: y1 :: y2 :: y3 :: y4 :: y5 :: some (.inl u) :: some (.inl (x + 1)) :: r) st μ := rfl
theorem e_inc_7_1R {y0 y1 y2 y3 y4 y5 : Option AV} {x : Int32} {u : Nat × Nat × Nat} : xb l K d n P ((.iinc 7 1, a, b, w) :: qs) pc (y0 :: y1 :: y2 :: y3 :: y4 :: y5 :: some (.inr (.inr u)) :: some (.inl x) :: r) st μ = xb l K d n P qs (pc + 3) (y0 :: y1 :: y2 :: y3 :: y4 :: y5 :: some (.inr (.inr u)) :: some (.inl (x + 1)) :: r) st μ := rfl
theorem e_inc_8_1n {y0 y1 y2 y3 y4 y5 y6 : Option AV} {x : Int32} : xb l K d n P ((.iinc 8 1, a, b, w) :: qs) pc (y0 :: y1 :: y2 :: y3 :: y4 :: y5 :: y6 :: none :: some (.inl x) :: r) st μ = xb l K d n P qs (pc + 3) (y0 :: y1 :: y2 :: y3 :: y4 :: y5 :: y6 :: none :: some (.inl (x + 1)) :: r) st μ := rfl
theorem e_inc_8_1I {y0 y1 y2 y3 y4 y5 y6 : Option AV} {x : Int32} {u : Int32} : xb l K d n P ((.iinc 8 1, a, b, w) :: qs) pc (y0 :: y1 :: y2 :: y3 :: y4 :: y5 :: y6 :: some (.inl u) :: some (.inl x) :: r) st μ = xb l K d n P qs (pc + 3) (y0 :: y1 :: y2 :: y3 :: y4 :: y5 :: y6 :: some (.inl u) :: some (.inl (x + 1)) :: r) st μ := rfl
theorem e_inc_8_1R {y0 y1 y2 y3 y4 y5 y6 : Option AV} {x : Int32} {u : Nat × Nat × Nat} : xb l K d n P ((.iinc 8 1, a, b, w) :: qs) pc (y0 :: y1 :: y2 :: y3 :: y4 :: y5 :: y6 :: some (.inr (.inr u)) :: some (.inl x) :: r) st μ = xb l K d n P qs (pc + 3) (y0 :: y1 :: y2 :: y3 :: y4 :: y5 :: y6 :: some (.inr (.inr u)) :: some (.inl (x + 1)) :: r) st μ := rfl
theorem e_ineg {x : Int32} : xb l K d n P ((.ineg, a, b, w) :: qs) pc lv (vI x :: st) μ = xb l K d n P qs (pc + 1) lv (vI (-x) :: st) μ := rfl
theorem e_ior {x y : Int32} : xb l K d n P ((.ior, a, b, w) :: qs) pc lv (vI y :: vI x :: st) μ = (xb l K d n P qs (pc + 1) lv (vI (x ||| y) :: st) μ) := rfl
theorem e_irem {x y : Int32} : xb l K d n P ((.irem, a, b, w) :: qs) pc lv (vI y :: vI x :: st) μ = ((¬ y = 0) ∧ xb l K d n P qs (pc + 1) lv (vI (x - x / y * y) :: st) μ) := rfl
theorem e_iret0 {x : Int32} : xb l K d n P ((.ireturn, 0, b, w) :: qs) pc lv [vI x] μ = P (some (vI x)) μ := by
  show ((_ ∧ (0 = 0 ∨ _)) ∧ _) = _
  simp
theorem e_iret1 {x : Int32} : xb l K d n P ((.ireturn, 1, b, w) :: qs) pc lv [vI x] μ = ((x = 0 ∨ x = 1) ∧ P (some (vI x)) μ) := by
  show ((_ ∧ ((1 : Nat) = 0 ∨ _)) ∧ _) = _
  simp
theorem e_is_0 {z0 : Option AV} {x : Int32} : xb l K d n P ((.istore_n 0, a, b, w) :: qs) pc (z0 :: r) (.inl x :: st) μ = xb l K d n P qs (pc + 1) (some (.inl x) :: r) st μ := rfl
theorem e_is_1n {z1 : Option AV} {x : Int32} : xb l K d n P ((.istore_n 1, a, b, w) :: qs) pc (none :: z1 :: r) (.inl x :: st) μ = xb l K d n P qs (pc + 1) (none :: some (.inl x) :: r) st μ := rfl
theorem e_is_1I {z1 : Option AV} {x : Int32} {u : Int32} : xb l K d n P ((.istore_n 1, a, b, w) :: qs) pc (some (.inl u) :: z1 :: r) (.inl x :: st) μ = xb l K d n P qs (pc + 1) (some (.inl u) :: some (.inl x) :: r) st μ := rfl
theorem e_is_1R {z1 : Option AV} {x : Int32} {u : Nat × Nat × Nat} : xb l K d n P ((.istore_n 1, a, b, w) :: qs) pc (some (.inr (.inr u)) :: z1 :: r) (.inl x :: st) μ = xb l K d n P qs (pc + 1) (some (.inr (.inr u)) :: some (.inl x) :: r) st μ := rfl
theorem e_is_2n {y0 z2 : Option AV} {x : Int32} : xb l K d n P ((.istore_n 2, a, b, w) :: qs) pc (y0 :: none :: z2 :: r) (.inl x :: st) μ = xb l K d n P qs (pc + 1) (y0 :: none :: some (.inl x) :: r) st μ := rfl
theorem e_is_2I {y0 z2 : Option AV} {x : Int32} {u : Int32} : xb l K d n P ((.istore_n 2, a, b, w) :: qs) pc (y0 :: some (.inl u) :: z2 :: r) (.inl x :: st) μ = xb l K d n P qs (pc + 1) (y0 :: some (.inl u) :: some (.inl x) :: r) st μ := rfl
theorem e_is_2R {y0 z2 : Option AV} {x : Int32} {u : Nat × Nat × Nat} : xb l K d n P ((.istore_n 2, a, b, w) :: qs) pc (y0 :: some (.inr (.inr u)) :: z2 :: r) (.inl x :: st) μ = xb l K d n P qs (pc + 1) (y0 :: some (.inr (.inr u)) :: some (.inl x) :: r) st μ := rfl
theorem e_is_3n {y0 y1 z3 : Option AV} {x : Int32} : xb l K d n P ((.istore_n 3, a, b, w) :: qs) pc (y0 :: y1 :: none :: z3 :: r) (.inl x :: st) μ = xb l K d n P qs (pc + 1) (y0 :: y1 :: none :: some (.inl x) :: r) st μ := rfl
theorem e_is_3I {y0 y1 z3 : Option AV} {x : Int32} {u : Int32} : xb l K d n P ((.istore_n 3, a, b, w) :: qs) pc (y0 :: y1 :: some (.inl u) :: z3 :: r) (.inl x :: st) μ = xb l K d n P qs (pc + 1) (y0 :: y1 :: some (.inl u) :: some (.inl x) :: r) st μ := rfl
theorem e_is_3R {y0 y1 z3 : Option AV} {x : Int32} {u : Nat × Nat × Nat} : xb l K d n P ((.istore_n 3, a, b, w) :: qs) pc (y0 :: y1 :: some (.inr (.inr u)) :: z3 :: r) (.inl x :: st) μ = xb l K d n P qs (pc + 1) (y0 :: y1 :: some (.inr (.inr u)) :: some (.inl x) :: r) st μ := rfl
theorem e_ishl {x y : Int32} : xb l K d n P ((.ishl, a, b, w) :: qs) pc lv (vI y :: vI x :: st) μ = (xb l K d n P qs (pc + 1) lv (vI (x <<< (y &&& 31)) :: st) μ) := rfl
theorem e_ishr {x y : Int32} : xb l K d n P ((.ishr, a, b, w) :: qs) pc lv (vI y :: vI x :: st) μ = (xb l K d n P qs (pc + 1) lv (vI (x >>> (y &&& 31)) :: st) μ) := rfl
theorem e_isub {x y : Int32} : xb l K d n P ((.isub, a, b, w) :: qs) pc lv (vI y :: vI x :: st) μ = (xb l K d n P qs (pc + 1) lv (vI (x - y) :: st) μ) := rfl
theorem e_isw_10n {y0 y1 y2 y3 y4 y5 y6 y7 y8 z10 : Option AV} {x : Int32} : xb l K d n P ((.istore 10, a, b, w) :: qs) pc (y0 :: y1 :: y2 :: y3 :: y4 :: y5 :: y6 :: y7 :: y8 :: none :: z10 :: r) (.inl x :: st) μ = xb l K d n P qs (pc + 2) (y0 :: y1 :: y2 :: y3 :: y4 :: y5 :: y6 :: y7 :: y8 :: none :: some (.inl x) :: r) st μ := rfl
theorem e_isw_10I {y0 y1 y2 y3 y4 y5 y6 y7 y8 z10 : Option AV} {x : Int32} {u : Int32} : xb l K d n P ((.istore 10, a, b, w) :: qs) pc (y0 :: y1 :: y2 :: y3 :: y4 :: y5 :: y6 :: y7 :: y8 :: some (.inl u) :: z10 :: r) (.inl x :: st) μ = xb l K d n P qs (pc + 2) (y0 :: y1 :: y2 :: y3 :: y4 :: y5 :: y6 :: y7 :: y8 :: some (.inl u) :: some (.inl x) :: r) st μ := rfl
theorem e_isw_10R {y0 y1 y2 y3 y4 y5 y6 y7 y8 z10 : Option AV} {x : Int32} {u : Nat × Nat × Nat} : xb l K d n P ((.istore 10, a, b, w) :: qs) pc (y0 :: y1 :: y2 :: y3 :: y4 :: y5 :: y6 :: y7 :: y8 :: some (.inr (.inr u)) :: z10 :: r) (.inl x :: st) μ = xb l K d n P qs (pc + 2) (y0 :: y1 :: y2 :: y3 :: y4 :: y5 :: y6 :: y7 :: y8 :: some (.inr (.inr u)) :: some (.inl x) :: r) st μ := rfl
theorem e_isw_11n {y0 y1 y2 y3 y4 y5 y6 y7 y8 y9 z11 : Option AV} {x : Int32} : xb l K d n P ((.istore 11, a, b, w) :: qs) pc (y0 :: y1 :: y2 :: y3 :: y4 :: y5 :: y6 :: y7 :: y8 :: y9 :: none :: z11 :: r) (.inl x :: st) μ = xb l K d n P qs (pc + 2) (y0 :: y1 :: y2 :: y3 :: y4 :: y5 :: y6 :: y7 :: y8 :: y9 :: none :: some (.inl x) :: r) st μ := rfl
theorem e_isw_11I {y0 y1 y2 y3 y4 y5 y6 y7 y8 y9 z11 : Option AV} {x : Int32} {u : Int32} : xb l K d n P ((.istore 11, a, b, w) :: qs) pc (y0 :: y1 :: y2 :: y3 :: y4 :: y5 :: y6 :: y7 :: y8 :: y9 :: some (.inl u) :: z11 :: r) (.inl x :: st) μ = xb l K d n P qs (pc + 2) (y0 :: y1 :: y2 :: y3 :: y4 :: y5 :: y6 :: y7 :: y8 :: y9 :: some (.inl u) :: some (.inl x) :: r) st μ := rfl
theorem e_isw_11R {y0 y1 y2 y3 y4 y5 y6 y7 y8 y9 z11 : Option AV} {x : Int32} {u : Nat × Nat × Nat} : xb l K d n P ((.istore 11, a, b, w) :: qs) pc (y0 :: y1 :: y2 :: y3 :: y4 :: y5 :: y6 :: y7 :: y8 :: y9 :: some (.inr (.inr u)) :: z11 :: r) (.inl x :: st) μ = xb l K d n P qs (pc + 2) (y0 :: y1 :: y2 :: y3 :: y4 :: y5 :: y6 :: y7 :: y8 :: y9 :: some (.inr (.inr u)) :: some (.inl x) :: r) st μ := rfl
theorem e_isw_4n {y0 y1 y2 z4 : Option AV} {x : Int32} : xb l K d n P ((.istore 4, a, b, w) :: qs) pc (y0 :: y1 :: y2 :: none :: z4 :: r) (.inl x :: st) μ = xb l K d n P qs (pc + 2) (y0 :: y1 :: y2 :: none :: some (.inl x) :: r) st μ := rfl
theorem e_isw_4I {y0 y1 y2 z4 : Option AV} {x : Int32} {u : Int32} : xb l K d n P ((.istore 4, a, b, w) :: qs) pc (y0 :: y1 :: y2 :: some (.inl u) :: z4 :: r) (.inl x :: st) μ = xb l K d n P qs (pc + 2) (y0 :: y1 :: y2 :: some (.inl u) :: some (.inl x) :: r) st μ := rfl
theorem e_isw_4R {y0 y1 y2 z4 : Option AV} {x : Int32} {u : Nat × Nat × Nat} : xb l K d n P ((.istore 4, a, b, w) :: qs) pc (y0 :: y1 :: y2 :: some (.inr (.inr u)) :: z4 :: r) (.inl x :: st) μ = xb l K d n P qs (pc + 2) (y0 :: y1 :: y2 :: some (.inr (.inr u)) :: some (.inl x) :: r) st μ := rfl
theorem e_isw_5n {y0 y1 y2 y3 z5 : Option AV} {x : Int32} : xb l K d n P ((.istore 5, a, b, w) :: qs) pc (y0 :: y1 :: y2 :: y3 :: none :: z5 :: r) (.inl x :: st) μ = xb l K d n P qs (pc + 2) (y0 :: y1 :: y2 :: y3 :: none :: some (.inl x) :: r) st μ := rfl
theorem e_isw_5I {y0 y1 y2 y3 z5 : Option AV} {x : Int32} {u : Int32} : xb l K d n P ((.istore 5, a, b, w) :: qs) pc (y0 :: y1 :: y2 :: y3 :: some (.inl u) :: z5 :: r) (.inl x :: st) μ = xb l K d n P qs (pc + 2) (y0 :: y1 :: y2 :: y3 :: some (.inl u) :: some (.inl x) :: r) st μ := rfl
theorem e_isw_5R {y0 y1 y2 y3 z5 : Option AV} {x : Int32} {u : Nat × Nat × Nat} : xb l K d n P ((.istore 5, a, b, w) :: qs) pc (y0 :: y1 :: y2 :: y3 :: some (.inr (.inr u)) :: z5 :: r) (.inl x :: st) μ = xb l K d n P qs (pc + 2) (y0 :: y1 :: y2 :: y3 :: some (.inr (.inr u)) :: some (.inl x) :: r) st μ := rfl
theorem e_isw_6n {y0 y1 y2 y3 y4 z6 : Option AV} {x : Int32} : xb l K d n P ((.istore 6, a, b, w) :: qs) pc (y0 :: y1 :: y2 :: y3 :: y4 :: none :: z6 :: r) (.inl x :: st) μ = xb l K d n P qs (pc + 2) (y0 :: y1 :: y2 :: y3 :: y4 :: none :: some (.inl x) :: r) st μ := rfl
theorem e_isw_6I {y0 y1 y2 y3 y4 z6 : Option AV} {x : Int32} {u : Int32} : xb l K d n P ((.istore 6, a, b, w) :: qs) pc (y0 :: y1 :: y2 :: y3 :: y4 :: some (.inl u) :: z6 :: r) (.inl x :: st) μ = xb l K d n P qs (pc + 2) (y0 :: y1 :: y2 :: y3 :: y4 :: some (.inl u) :: some (.inl x) :: r) st μ := rfl
theorem e_isw_6R {y0 y1 y2 y3 y4 z6 : Option AV} {x : Int32} {u : Nat × Nat × Nat} : xb l K d n P ((.istore 6, a, b, w) :: qs) pc (y0 :: y1 :: y2 :: y3 :: y4 :: some (.inr (.inr u)) :: z6 :: r) (.inl x :: st) μ = xb l K d n P qs (pc + 2) (y0 :: y1 :: y2 :: y3 :: y4 :: some (.inr (.inr u)) :: some (.inl x) :: r) st μ := rfl
theorem e_isw_7n {y0 y1 y2 y3 y4 y5 z7 : Option AV} {x : Int32} : xb l K d n P ((.istore 7, a, b, w) :: qs) pc (y0 :: y1 :: y2 :: y3 :: y4 :: y5 :: none :: z7 :: r) (.inl x :: st) μ = xb l K d n P qs (pc + 2) (y0 :: y1 :: y2 :: y3 :: y4 :: y5 :: none :: some (.inl x) :: r) st μ := rfl
theorem e_isw_7I {y0 y1 y2 y3 y4 y5 z7 : Option AV} {x : Int32} {u : Int32} : xb l K d n P ((.istore 7, a, b, w) :: qs) pc (y0 :: y1 :: y2 :: y3 :: y4 :: y5 :: some (.inl u) :: z7 :: r) (.inl x :: st) μ = xb l K d n P qs (pc + 2) (y0 :: y1 :: y2 :: y3 :: y4 :: y5 :: some (.inl u) :: some (.inl x) :: r) st μ := rfl
theorem e_isw_7R {y0 y1 y2 y3 y4 y5 z7 : Option AV} {x : Int32} {u : Nat × Nat × Nat} : xb l K d n P ((.istore 7, a, b, w) :: qs) pc (y0 :: y1 :: y2 :: y3 :: y4 :: y5 :: some (.inr (.inr u)) :: z7 :: r) (.inl x :: st) μ = xb l K d n P qs (pc + 2) (y0 :: y1 :: y2 :: y3 :: y4 :: y5 :: some (.inr (.inr u)) :: some (.inl x) :: r) st μ := rfl
theorem e_isw_8n {y0 y1 y2 y3 y4 y5 y6 z8 : Option AV} {x : Int32} : xb l K d n P ((.istore 8, a, b, w) :: qs) pc (y0 :: y1 :: y2 :: y3 :: y4 :: y5 :: y6 :: none :: z8 :: r) (.inl x :: st) μ = xb l K d n P qs (pc + 2) (y0 :: y1 :: y2 :: y3 :: y4 :: y5 :: y6 :: none :: some (.inl x) :: r) st μ := rfl
theorem e_isw_8I {y0 y1 y2 y3 y4 y5 y6 z8 : Option AV} {x : Int32} {u : Int32} : xb l K d n P ((.istore 8, a, b, w) :: qs) pc (y0 :: y1 :: y2 :: y3 :: y4 :: y5 :: y6 :: some (.inl u) :: z8 :: r) (.inl x :: st) μ = xb l K d n P qs (pc + 2) (y0 :: y1 :: y2 :: y3 :: y4 :: y5 :: y6 :: some (.inl u) :: some (.inl x) :: r) st μ := rfl
theorem e_isw_8R {y0 y1 y2 y3 y4 y5 y6 z8 : Option AV} {x : Int32} {u : Nat × Nat × Nat} : xb l K d n P ((.istore 8, a, b, w) :: qs) pc (y0 :: y1 :: y2 :: y3 :: y4 :: y5 :: y6 :: some (.inr (.inr u)) :: z8 :: r) (.inl x :: st) μ = xb l K d n P qs (pc + 2) (y0 :: y1 :: y2 :: y3 :: y4 :: y5 :: y6 :: some (.inr (.inr u)) :: some (.inl x) :: r) st μ := rfl
theorem e_isw_9n {y0 y1 y2 y3 y4 y5 y6 y7 z9 : Option AV} {x : Int32} : xb l K d n P ((.istore 9, a, b, w) :: qs) pc (y0 :: y1 :: y2 :: y3 :: y4 :: y5 :: y6 :: y7 :: none :: z9 :: r) (.inl x :: st) μ = xb l K d n P qs (pc + 2) (y0 :: y1 :: y2 :: y3 :: y4 :: y5 :: y6 :: y7 :: none :: some (.inl x) :: r) st μ := rfl
theorem e_isw_9I {y0 y1 y2 y3 y4 y5 y6 y7 z9 : Option AV} {x : Int32} {u : Int32} : xb l K d n P ((.istore 9, a, b, w) :: qs) pc (y0 :: y1 :: y2 :: y3 :: y4 :: y5 :: y6 :: y7 :: some (.inl u) :: z9 :: r) (.inl x :: st) μ = xb l K d n P qs (pc + 2) (y0 :: y1 :: y2 :: y3 :: y4 :: y5 :: y6 :: y7 :: some (.inl u) :: some (.inl x) :: r) st μ := rfl
theorem e_isw_9R {y0 y1 y2 y3 y4 y5 y6 y7 z9 : Option AV} {x : Int32} {u : Nat × Nat × Nat} : xb l K d n P ((.istore 9, a, b, w) :: qs) pc (y0 :: y1 :: y2 :: y3 :: y4 :: y5 :: y6 :: y7 :: some (.inr (.inr u)) :: z9 :: r) (.inl x :: st) μ = xb l K d n P qs (pc + 2) (y0 :: y1 :: y2 :: y3 :: y4 :: y5 :: y6 :: y7 :: some (.inr (.inr u)) :: some (.inl x) :: r) st μ := rfl
theorem e_iushr {x y : Int32} : xb l K d n P ((.iushr, a, b, w) :: qs) pc lv (vI y :: vI x :: st) μ = (xb l K d n P qs (pc + 1) lv (vI ((x.toUInt32 >>> (y.toUInt32 &&& Int32.toUInt32 31)).toInt32) :: st) μ) := rfl
theorem e_iv_0_0 {i : Nat} : xb l K d n P ((.invokevirtual i, a, 0, 0) :: qs) pc lv (vR 0 0 0 :: st) μ = (rsum st ≤ 8 ∧ 1 ≤ d ∧ Ok l K (d - 1) a [vR 0 0 0] μ (fun rv μ2 => Go l K d n (pc + 3) lv (ps rv st) μ2 P)) := by
  show (rcv 0 _ ∧ _) = _
  simp [rcv, rcn, cnt]
theorem e_iv_0_1 {i : Nat} {v1 : AV} : xb l K d n P ((.invokevirtual i, a, 1, 0) :: qs) pc lv (v1 :: vR 0 0 0 :: st) μ = (rsum st ≤ 8 ∧ 1 ≤ d ∧ Ok l K (d - 1) a [vR 0 0 0, v1] μ (fun rv μ2 => Go l K d n (pc + 3) lv (ps rv st) μ2 P)) := by
  show (rcv 0 _ ∧ _) = _
  simp [rcv, rcn, cnt]
theorem e_iv_11_0 {i : Nat} : xb l K d n P ((.invokevirtual i, a, 0, 11) :: qs) pc lv (vR 11 0 0 :: st) μ = (rsum st ≤ 8 ∧ 1 ≤ d ∧ Ok l K (d - 1) a [vR 11 0 0] μ (fun rv μ2 => Go l K d n (pc + 3) lv (ps rv st) μ2 P)) := by
  show (rcv 11 _ ∧ _) = _
  simp [rcv, rcn, cnt]
theorem e_iv_11_1 {i : Nat} {v1 : AV} : xb l K d n P ((.invokevirtual i, a, 1, 11) :: qs) pc lv (v1 :: vR 11 0 0 :: st) μ = (rsum st ≤ 8 ∧ 1 ≤ d ∧ Ok l K (d - 1) a [vR 11 0 0, v1] μ (fun rv μ2 => Go l K d n (pc + 3) lv (ps rv st) μ2 P)) := by
  show (rcv 11 _ ∧ _) = _
  simp [rcv, rcn, cnt]
theorem e_iv_11_2 {i : Nat} {v1 v2 : AV} : xb l K d n P ((.invokevirtual i, a, 2, 11) :: qs) pc lv (v2 :: v1 :: vR 11 0 0 :: st) μ = (rsum st ≤ 8 ∧ 1 ≤ d ∧ Ok l K (d - 1) a [vR 11 0 0, v1, v2] μ (fun rv μ2 => Go l K d n (pc + 3) lv (ps rv st) μ2 P)) := by
  show (rcv 11 _ ∧ _) = _
  simp [rcv, rcn, cnt]
theorem e_iv_1_1 {i ii : Nat} {v1 : AV} : xb l K d n P ((.invokevirtual i, a, 1, 1) :: qs) pc lv (v1 :: vR 1 ii 0 :: st) μ = (ii < 2 ∧ rsum st ≤ 8 ∧ 1 ≤ d ∧ Ok l K (d - 1) a [vR 1 ii 0, v1] μ (fun rv μ2 => Go l K d n (pc + 3) lv (ps rv st) μ2 P)) := by
  show (rcv 1 _ ∧ _) = _
  simp [rcv, rcn, cnt]
theorem e_iv_1_2 {i ii : Nat} {v1 v2 : AV} : xb l K d n P ((.invokevirtual i, a, 2, 1) :: qs) pc lv (v2 :: v1 :: vR 1 ii 0 :: st) μ = (ii < 2 ∧ rsum st ≤ 8 ∧ 1 ≤ d ∧ Ok l K (d - 1) a [vR 1 ii 0, v1, v2] μ (fun rv μ2 => Go l K d n (pc + 3) lv (ps rv st) μ2 P)) := by
  show (rcv 1 _ ∧ _) = _
  simp [rcv, rcn, cnt]
theorem e_iv_1_3 {i ii : Nat} {v1 v2 v3 : AV} : xb l K d n P ((.invokevirtual i, a, 3, 1) :: qs) pc lv (v3 :: v2 :: v1 :: vR 1 ii 0 :: st) μ = (ii < 2 ∧ rsum st ≤ 8 ∧ 1 ≤ d ∧ Ok l K (d - 1) a [vR 1 ii 0, v1, v2, v3] μ (fun rv μ2 => Go l K d n (pc + 3) lv (ps rv st) μ2 P)) := by
  show (rcv 1 _ ∧ _) = _
  simp [rcv, rcn, cnt]
theorem e_iv_2_0 {i : Nat} : xb l K d n P ((.invokevirtual i, a, 0, 2) :: qs) pc lv (vR 2 0 0 :: st) μ = (rsum st ≤ 8 ∧ 1 ≤ d ∧ Ok l K (d - 1) a [vR 2 0 0] μ (fun rv μ2 => Go l K d n (pc + 3) lv (ps rv st) μ2 P)) := by
  show (rcv 2 _ ∧ _) = _
  simp [rcv, rcn, cnt]
theorem e_iv_2_1 {i : Nat} {v1 : AV} : xb l K d n P ((.invokevirtual i, a, 1, 2) :: qs) pc lv (v1 :: vR 2 0 0 :: st) μ = (rsum st ≤ 8 ∧ 1 ≤ d ∧ Ok l K (d - 1) a [vR 2 0 0, v1] μ (fun rv μ2 => Go l K d n (pc + 3) lv (ps rv st) μ2 P)) := by
  show (rcv 2 _ ∧ _) = _
  simp [rcv, rcn, cnt]
theorem e_iv_2_2 {i : Nat} {v1 v2 : AV} : xb l K d n P ((.invokevirtual i, a, 2, 2) :: qs) pc lv (v2 :: v1 :: vR 2 0 0 :: st) μ = (rsum st ≤ 8 ∧ 1 ≤ d ∧ Ok l K (d - 1) a [vR 2 0 0, v1, v2] μ (fun rv μ2 => Go l K d n (pc + 3) lv (ps rv st) μ2 P)) := by
  show (rcv 2 _ ∧ _) = _
  simp [rcv, rcn, cnt]
theorem e_iv_3_0 {i : Nat} : xb l K d n P ((.invokevirtual i, a, 0, 3) :: qs) pc lv (vR 3 0 0 :: st) μ = (rsum st ≤ 8 ∧ 1 ≤ d ∧ Ok l K (d - 1) a [vR 3 0 0] μ (fun rv μ2 => Go l K d n (pc + 3) lv (ps rv st) μ2 P)) := by
  show (rcv 3 _ ∧ _) = _
  simp [rcv, rcn, cnt]
theorem e_iv_3_1 {i : Nat} {v1 : AV} : xb l K d n P ((.invokevirtual i, a, 1, 3) :: qs) pc lv (v1 :: vR 3 0 0 :: st) μ = (rsum st ≤ 8 ∧ 1 ≤ d ∧ Ok l K (d - 1) a [vR 3 0 0, v1] μ (fun rv μ2 => Go l K d n (pc + 3) lv (ps rv st) μ2 P)) := by
  show (rcv 3 _ ∧ _) = _
  simp [rcv, rcn, cnt]
theorem e_iv_4_3 {i : Nat} {v1 v2 v3 : AV} : xb l K d n P ((.invokevirtual i, a, 3, 4) :: qs) pc lv (v3 :: v2 :: v1 :: vR 4 0 0 :: st) μ = (rsum st ≤ 8 ∧ 1 ≤ d ∧ Ok l K (d - 1) a [vR 4 0 0, v1, v2, v3] μ (fun rv μ2 => Go l K d n (pc + 3) lv (ps rv st) μ2 P)) := by
  show (rcv 4 _ ∧ _) = _
  simp [rcv, rcn, cnt]
theorem e_iv_4_4 {i : Nat} {v1 v2 v3 v4 : AV} : xb l K d n P ((.invokevirtual i, a, 4, 4) :: qs) pc lv (v4 :: v3 :: v2 :: v1 :: vR 4 0 0 :: st) μ = (rsum st ≤ 8 ∧ 1 ≤ d ∧ Ok l K (d - 1) a [vR 4 0 0, v1, v2, v3, v4] μ (fun rv μ2 => Go l K d n (pc + 3) lv (ps rv st) μ2 P)) := by
  show (rcv 4 _ ∧ _) = _
  simp [rcv, rcn, cnt]
theorem e_iv_5_1 {i : Nat} {v1 : AV} : xb l K d n P ((.invokevirtual i, a, 1, 5) :: qs) pc lv (v1 :: vR 5 0 0 :: st) μ = (rsum st ≤ 8 ∧ 1 ≤ d ∧ Ok l K (d - 1) a [vR 5 0 0, v1] μ (fun rv μ2 => Go l K d n (pc + 3) lv (ps rv st) μ2 P)) := by
  show (rcv 5 _ ∧ _) = _
  simp [rcv, rcn, cnt]
theorem e_iv_5_3 {i : Nat} {v1 v2 v3 : AV} : xb l K d n P ((.invokevirtual i, a, 3, 5) :: qs) pc lv (v3 :: v2 :: v1 :: vR 5 0 0 :: st) μ = (rsum st ≤ 8 ∧ 1 ≤ d ∧ Ok l K (d - 1) a [vR 5 0 0, v1, v2, v3] μ (fun rv μ2 => Go l K d n (pc + 3) lv (ps rv st) μ2 P)) := by
  show (rcv 5 _ ∧ _) = _
  simp [rcv, rcn, cnt]
theorem e_iv_6_0 {i ii : Nat} : xb l K d n P ((.invokevirtual i, a, 0, 6) :: qs) pc lv (vR 6 ii 0 :: st) μ = (ii < 6 ∧ rsum st ≤ 8 ∧ 1 ≤ d ∧ Ok l K (d - 1) a [vR 6 ii 0] μ (fun rv μ2 => Go l K d n (pc + 3) lv (ps rv st) μ2 P)) := by
  show (rcv 6 _ ∧ _) = _
  simp [rcv, rcn, cnt]
theorem e_iv_6_1 {i ii : Nat} {v1 : AV} : xb l K d n P ((.invokevirtual i, a, 1, 6) :: qs) pc lv (v1 :: vR 6 ii 0 :: st) μ = (ii < 6 ∧ rsum st ≤ 8 ∧ 1 ≤ d ∧ Ok l K (d - 1) a [vR 6 ii 0, v1] μ (fun rv μ2 => Go l K d n (pc + 3) lv (ps rv st) μ2 P)) := by
  show (rcv 6 _ ∧ _) = _
  simp [rcv, rcn, cnt]
theorem e_iv_6_2 {i ii : Nat} {v1 v2 : AV} : xb l K d n P ((.invokevirtual i, a, 2, 6) :: qs) pc lv (v2 :: v1 :: vR 6 ii 0 :: st) μ = (ii < 6 ∧ rsum st ≤ 8 ∧ 1 ≤ d ∧ Ok l K (d - 1) a [vR 6 ii 0, v1, v2] μ (fun rv μ2 => Go l K d n (pc + 3) lv (ps rv st) μ2 P)) := by
  show (rcv 6 _ ∧ _) = _
  simp [rcv, rcn, cnt]
theorem e_iv_6_3 {i ii : Nat} {v1 v2 v3 : AV} : xb l K d n P ((.invokevirtual i, a, 3, 6) :: qs) pc lv (v3 :: v2 :: v1 :: vR 6 ii 0 :: st) μ = (ii < 6 ∧ rsum st ≤ 8 ∧ 1 ≤ d ∧ Ok l K (d - 1) a [vR 6 ii 0, v1, v2, v3] μ (fun rv μ2 => Go l K d n (pc + 3) lv (ps rv st) μ2 P)) := by
  show (rcv 6 _ ∧ _) = _
  simp [rcv, rcn, cnt]
theorem e_iv_7_0 {i : Nat} : xb l K d n P ((.invokevirtual i, a, 0, 7) :: qs) pc lv (vR 7 0 0 :: st) μ = (rsum st ≤ 8 ∧ 1 ≤ d ∧ Ok l K (d - 1) a [vR 7 0 0] μ (fun rv μ2 => Go l K d n (pc + 3) lv (ps rv st) μ2 P)) := by
  show (rcv 7 _ ∧ _) = _
  simp [rcv, rcn, cnt]
theorem e_iv_7_1 {i : Nat} {v1 : AV} : xb l K d n P ((.invokevirtual i, a, 1, 7) :: qs) pc lv (v1 :: vR 7 0 0 :: st) μ = (rsum st ≤ 8 ∧ 1 ≤ d ∧ Ok l K (d - 1) a [vR 7 0 0, v1] μ (fun rv μ2 => Go l K d n (pc + 3) lv (ps rv st) μ2 P)) := by
  show (rcv 7 _ ∧ _) = _
  simp [rcv, rcn, cnt]
theorem e_iv_7_2 {i : Nat} {v1 v2 : AV} : xb l K d n P ((.invokevirtual i, a, 2, 7) :: qs) pc lv (v2 :: v1 :: vR 7 0 0 :: st) μ = (rsum st ≤ 8 ∧ 1 ≤ d ∧ Ok l K (d - 1) a [vR 7 0 0, v1, v2] μ (fun rv μ2 => Go l K d n (pc + 3) lv (ps rv st) μ2 P)) := by
  show (rcv 7 _ ∧ _) = _
  simp [rcv, rcn, cnt]
theorem e_iv_7_3 {i : Nat} {v1 v2 v3 : AV} : xb l K d n P ((.invokevirtual i, a, 3, 7) :: qs) pc lv (v3 :: v2 :: v1 :: vR 7 0 0 :: st) μ = (rsum st ≤ 8 ∧ 1 ≤ d ∧ Ok l K (d - 1) a [vR 7 0 0, v1, v2, v3] μ (fun rv μ2 => Go l K d n (pc + 3) lv (ps rv st) μ2 P)) := by
  show (rcv 7 _ ∧ _) = _
  simp [rcv, rcn, cnt]
theorem e_iv_8_0 {i : Nat} : xb l K d n P ((.invokevirtual i, a, 0, 8) :: qs) pc lv (vR 8 0 0 :: st) μ = (rsum st ≤ 8 ∧ 1 ≤ d ∧ Ok l K (d - 1) a [vR 8 0 0] μ (fun rv μ2 => Go l K d n (pc + 3) lv (ps rv st) μ2 P)) := by
  show (rcv 8 _ ∧ _) = _
  simp [rcv, rcn, cnt]
theorem e_iv_8_1 {i : Nat} {v1 : AV} : xb l K d n P ((.invokevirtual i, a, 1, 8) :: qs) pc lv (v1 :: vR 8 0 0 :: st) μ = (rsum st ≤ 8 ∧ 1 ≤ d ∧ Ok l K (d - 1) a [vR 8 0 0, v1] μ (fun rv μ2 => Go l K d n (pc + 3) lv (ps rv st) μ2 P)) := by
  show (rcv 8 _ ∧ _) = _
  simp [rcv, rcn, cnt]
theorem e_iv_8_2 {i : Nat} {v1 v2 : AV} : xb l K d n P ((.invokevirtual i, a, 2, 8) :: qs) pc lv (v2 :: v1 :: vR 8 0 0 :: st) μ = (rsum st ≤ 8 ∧ 1 ≤ d ∧ Ok l K (d - 1) a [vR 8 0 0, v1, v2] μ (fun rv μ2 => Go l K d n (pc + 3) lv (ps rv st) μ2 P)) := by
  show (rcv 8 _ ∧ _) = _
  simp [rcv, rcn, cnt]
theorem e_iv_8_3 {i : Nat} {v1 v2 v3 : AV} : xb l K d n P ((.invokevirtual i, a, 3, 8) :: qs) pc lv (v3 :: v2 :: v1 :: vR 8 0 0 :: st) μ = (rsum st ≤ 8 ∧ 1 ≤ d ∧ Ok l K (d - 1) a [vR 8 0 0, v1, v2, v3] μ (fun rv μ2 => Go l K d n (pc + 3) lv (ps rv st) μ2 P)) := by
  show (rcv 8 _ ∧ _) = _
  simp [rcv, rcn, cnt]
theorem e_iv_9_1 {i ii : Nat} {v1 : AV} : xb l K d n P ((.invokevirtual i, a, 1, 9) :: qs) pc lv (v1 :: vR 9 ii 0 :: st) μ = (ii < 5 ∧ rsum st ≤ 8 ∧ 1 ≤ d ∧ Ok l K (d - 1) a [vR 9 ii 0, v1] μ (fun rv μ2 => Go l K d n (pc + 3) lv (ps rv st) μ2 P)) := by
  show (rcv 9 _ ∧ _) = _
  simp [rcv, rcn, cnt]
theorem e_ivs_1 {i : Nat} {v1 : AV} (h : a < 1000) : xb l K d n P ((.invokestatic i, a, 1, w) :: qs) pc lv (v1 :: st) μ = (rsum st ≤ 8 ∧ 1 ≤ d ∧ Ok l K (d - 1) a [v1] μ (fun rv μ2 => Go l K d n (pc + 3) lv (ps rv st) μ2 P)) := by
  show xs _ _ _ _ _ _ _ _ _ _ _ = _
  simp only [xs]
  rw [if_neg (by omega), if_neg (by omega), if_neg (by omega)]
  rfl
theorem e_ivs_2 {i : Nat} {v1 v2 : AV} (h : a < 1000) : xb l K d n P ((.invokestatic i, a, 2, w) :: qs) pc lv (v2 :: v1 :: st) μ = (rsum st ≤ 8 ∧ 1 ≤ d ∧ Ok l K (d - 1) a [v1, v2] μ (fun rv μ2 => Go l K d n (pc + 3) lv (ps rv st) μ2 P)) := by
  show xs _ _ _ _ _ _ _ _ _ _ _ = _
  simp only [xs]
  rw [if_neg (by omega), if_neg (by omega), if_neg (by omega)]
  rfl
theorem e_ivs_3 {i : Nat} {v1 v2 v3 : AV} (h : a < 1000) : xb l K d n P ((.invokestatic i, a, 3, w) :: qs) pc lv (v3 :: v2 :: v1 :: st) μ = (rsum st ≤ 8 ∧ 1 ≤ d ∧ Ok l K (d - 1) a [v1, v2, v3] μ (fun rv μ2 => Go l K d n (pc + 3) lv (ps rv st) μ2 P)) := by
  show xs _ _ _ _ _ _ _ _ _ _ _ = _
  simp only [xs]
  rw [if_neg (by omega), if_neg (by omega), if_neg (by omega)]
  rfl
theorem e_ivs_4 {i : Nat} {v1 v2 v3 v4 : AV} (h : a < 1000) : xb l K d n P ((.invokestatic i, a, 4, w) :: qs) pc lv (v4 :: v3 :: v2 :: v1 :: st) μ = (rsum st ≤ 8 ∧ 1 ≤ d ∧ Ok l K (d - 1) a [v1, v2, v3, v4] μ (fun rv μ2 => Go l K d n (pc + 3) lv (ps rv st) μ2 P)) := by
  show xs _ _ _ _ _ _ _ _ _ _ _ = _
  simp only [xs]
  rw [if_neg (by omega), if_neg (by omega), if_neg (by omega)]
  rfl
theorem e_ixor {x y : Int32} : xb l K d n P ((.ixor, a, b, w) :: qs) pc lv (vI y :: vI x :: st) μ = (xb l K d n P qs (pc + 1) lv (vI (x ^^^ y) :: st) μ) := rfl
theorem e_l2i {x : Int64} : xb l K d n P ((.l2i, a, b, w) :: qs) pc lv (vJ x :: st) μ = xb l K d n P qs (pc + 1) lv (vI x.toInt32 :: st) μ := rfl
theorem e_ladd {x y : Int64} : xb l K d n P ((.ladd, a, b, w) :: qs) pc lv (vJ y :: vJ x :: st) μ = (xb l K d n P qs (pc + 1) lv (vJ (x + y) :: st) μ) := rfl
theorem e_land {x y : Int64} : xb l K d n P ((.land, a, b, w) :: qs) pc lv (vJ y :: vJ x :: st) μ = (xb l K d n P qs (pc + 1) lv (vJ (x &&& y) :: st) μ) := rfl
theorem e_lcmp {x y : Int64} : xb l K d n P ((.lcmp, a, b, w) :: qs) pc lv (vJ y :: vJ x :: st) μ = xb l K d n P qs (pc + 1) lv (vI (lg_cmp x y) :: st) μ := rfl
theorem e_ld2_1103515245 {i : Nat} : xb l K d n P ((.ldc2_w i, a, b, 1103515245) :: qs) pc lv st μ = xb l K d n P qs (pc + 3) lv (vJ 1103515245 :: st) μ := rfl
theorem e_ld2_12345 {i : Nat} : xb l K d n P ((.ldc2_w i, a, b, 12345) :: qs) pc lv st μ = xb l K d n P qs (pc + 3) lv (vJ 12345 :: st) μ := rfl
theorem e_ld2_2147483647 {i : Nat} : xb l K d n P ((.ldc2_w i, a, b, 2147483647) :: qs) pc lv st μ = xb l K d n P qs (pc + 3) lv (vJ 2147483647 :: st) μ := rfl
theorem e_ld2_31 {i : Nat} : xb l K d n P ((.ldc2_w i, a, b, 31) :: qs) pc lv st μ = xb l K d n P qs (pc + 3) lv (vJ 31 :: st) μ := rfl
theorem e_ld2_65536 {i : Nat} : xb l K d n P ((.ldc2_w i, a, b, 65536) :: qs) pc lv st μ = xb l K d n P qs (pc + 3) lv (vJ 65536 :: st) μ := rfl
theorem e_ld2_839 {i : Nat} : xb l K d n P ((.ldc2_w i, a, b, 839) :: qs) pc lv st μ = xb l K d n P qs (pc + 3) lv (vJ 839 :: st) μ := rfl
theorem e_ldcS {i : Nat} : xb l K d n P ((.ldc i, 1, b, w) :: qs) pc lv st μ = xb l K d n P qs (pc + 2) lv (vR 11 0 0 :: st) μ := rfl
theorem e_ldc_32768 {i : Nat} : xb l K d n P ((.ldc i, 0, b, 32768) :: qs) pc lv st μ = xb l K d n P qs (pc + 2) lv (vI 32768 :: st) μ := rfl
theorem e_ldiv {x y : Int64} : xb l K d n P ((.ldiv, a, b, w) :: qs) pc lv (vJ y :: vJ x :: st) μ = ((¬ y = 0) ∧ xb l K d n P qs (pc + 1) lv (vJ (x / y) :: st) μ) := rfl
theorem e_ldw_1431655765 {i : Nat} : xb l K d n P ((.ldc_w i, a, b, 1431655765) :: qs) pc lv st μ = xb l K d n P qs (pc + 3) lv (vI 1431655765 :: st) μ := rfl
theorem e_ldw_252645135 {i : Nat} : xb l K d n P ((.ldc_w i, a, b, 252645135) :: qs) pc lv st μ = xb l K d n P qs (pc + 3) lv (vI 252645135 :: st) μ := rfl
theorem e_ldw_858993459 {i : Nat} : xb l K d n P ((.ldc_w i, a, b, 858993459) :: qs) pc lv st μ = xb l K d n P qs (pc + 3) lv (vI 858993459 :: st) μ := rfl
theorem e_ll_1 {y0 : Option AV} {x : Int64} : xb l K d n P ((.lload_n 1, a, b, w) :: qs) pc (y0 :: some (.inr (.inl x)) :: r) st μ = xb l K d n P qs (pc + 1) (y0 :: some (.inr (.inl x)) :: r) (.inr (.inl x) :: st) μ := rfl
theorem e_ll_3 {y0 y1 y2 : Option AV} {x : Int64} : xb l K d n P ((.lload_n 3, a, b, w) :: qs) pc (y0 :: y1 :: y2 :: some (.inr (.inl x)) :: r) st μ = xb l K d n P qs (pc + 1) (y0 :: y1 :: y2 :: some (.inr (.inl x)) :: r) (.inr (.inl x) :: st) μ := rfl
theorem e_lmul {x y : Int64} : xb l K d n P ((.lmul, a, b, w) :: qs) pc lv (vJ y :: vJ x :: st) μ = (xb l K d n P qs (pc + 1) lv (vJ (x * y) :: st) μ) := rfl
theorem e_lnK : xb l K d n P ((.arraylength, 10, b, w) :: qs) pc lv (vR 10 0 1 :: st) μ = xb l K d n P qs (pc + 1) lv (vI 5 :: st) μ := by
  show ((_ ∧ _ ∧ _) ∧ _) = _
  simp
theorem e_lnS : xb l K d n P ((.arraylength, 11, b, w) :: qs) pc lv (vR 11 0 1 :: st) μ = xb l K d n P qs (pc + 1) lv (vI 5 :: st) μ := by
  show ((_ ∧ _ ∧ _) ∧ _) = _
  simp
theorem e_lnX : xb l K d n P ((.arraylength, 12, b, w) :: qs) pc lv (vR 12 0 1 :: st) μ = xb l K d n P qs (pc + 1) lv (vI (nI (kN K)) :: st) μ := by
  show ((_ ∧ _ ∧ _) ∧ _) = _
  simp
theorem e_lrem {x y : Int64} : xb l K d n P ((.lrem, a, b, w) :: qs) pc lv (vJ y :: vJ x :: st) μ = ((¬ y = 0) ∧ xb l K d n P qs (pc + 1) lv (vJ (x - x / y * y) :: st) μ) := rfl
theorem e_lret {x : Int64} : xb l K d n P ((.lreturn, a, b, w) :: qs) pc lv [vJ x] μ = P (some (vJ x)) μ := by
  show (_ ∧ _) = _
  simp
theorem e_ls_1n {z1 z2 : Option AV} {x : Int64} : xb l K d n P ((.lstore_n 1, a, b, w) :: qs) pc (none :: z1 :: z2 :: r) (.inr (.inl x) :: st) μ = xb l K d n P qs (pc + 1) (none :: some (.inr (.inl x)) :: none :: r) st μ := rfl
theorem e_ls_1I {z1 z2 : Option AV} {x : Int64} {u : Int32} : xb l K d n P ((.lstore_n 1, a, b, w) :: qs) pc (some (.inl u) :: z1 :: z2 :: r) (.inr (.inl x) :: st) μ = xb l K d n P qs (pc + 1) (some (.inl u) :: some (.inr (.inl x)) :: none :: r) st μ := rfl
theorem e_ls_1R {z1 z2 : Option AV} {x : Int64} {u : Nat × Nat × Nat} : xb l K d n P ((.lstore_n 1, a, b, w) :: qs) pc (some (.inr (.inr u)) :: z1 :: z2 :: r) (.inr (.inl x) :: st) μ = xb l K d n P qs (pc + 1) (some (.inr (.inr u)) :: some (.inr (.inl x)) :: none :: r) st μ := rfl
theorem e_ls_3n {y0 y1 z3 z4 : Option AV} {x : Int64} : xb l K d n P ((.lstore_n 3, a, b, w) :: qs) pc (y0 :: y1 :: none :: z3 :: z4 :: r) (.inr (.inl x) :: st) μ = xb l K d n P qs (pc + 1) (y0 :: y1 :: none :: some (.inr (.inl x)) :: none :: r) st μ := rfl
theorem e_ls_3I {y0 y1 z3 z4 : Option AV} {x : Int64} {u : Int32} : xb l K d n P ((.lstore_n 3, a, b, w) :: qs) pc (y0 :: y1 :: some (.inl u) :: z3 :: z4 :: r) (.inr (.inl x) :: st) μ = xb l K d n P qs (pc + 1) (y0 :: y1 :: some (.inl u) :: some (.inr (.inl x)) :: none :: r) st μ := rfl
theorem e_ls_3R {y0 y1 z3 z4 : Option AV} {x : Int64} {u : Nat × Nat × Nat} : xb l K d n P ((.lstore_n 3, a, b, w) :: qs) pc (y0 :: y1 :: some (.inr (.inr u)) :: z3 :: z4 :: r) (.inr (.inl x) :: st) μ = xb l K d n P qs (pc + 1) (y0 :: y1 :: some (.inr (.inr u)) :: some (.inr (.inl x)) :: none :: r) st μ := rfl
theorem e_lsw {x : Int32} {df : Int} {prs : Array (Int × Int)} : xb l K d n P ((.lookupswitch df prs, a, b, w) :: qs) pc lv (vI x :: st) μ = ∃ t : Nat, (pc : Int) + Op.lookupswitch.offset prs.toList df x.toInt = (t : Int) ∧ Go l K d n t lv st μ P := rfl
theorem e_mt_0 {i : Nat} {x : Int32} : xb l K d n P ((.invokestatic i, 1000, b, w) :: qs) pc lv (vI x :: st) μ = ((rsum st ≤ 8 ∧ 1 ≤ d) ∧ xb l K d n P qs (pc + 3) lv (vI (abI x) :: st) μ) := by
  show xs _ _ _ _ _ _ _ _ _ _ _ = _
  simp [xs, x1]
theorem e_mt_1 {i : Nat} {x y : Int32} : xb l K d n P ((.invokestatic i, 1001, b, w) :: qs) pc lv (vI y :: vI x :: st) μ = ((rsum st ≤ 8 ∧ 1 ≤ d) ∧ xb l K d n P qs (pc + 3) lv (vI (mxI x y) :: st) μ) := by
  show xs _ _ _ _ _ _ _ _ _ _ _ = _
  simp [xs, x2]
theorem e_mt_2 {i : Nat} {x y : Int32} : xb l K d n P ((.invokestatic i, 1002, b, w) :: qs) pc lv (vI y :: vI x :: st) μ = ((rsum st ≤ 8 ∧ 1 ≤ d) ∧ xb l K d n P qs (pc + 3) lv (vI (mnI x y) :: st) μ) := by
  show xs _ _ _ _ _ _ _ _ _ _ _ = _
  simp [xs, x2]
theorem e_pf_0_0 {i : Nat} {x : Int32} : xb l K d n P ((.putfield i, 0, 0, w) :: qs) pc lv (vI x :: vR 0 0 0 :: st) μ = ((x = 0 ∨ x = 1) ∧ xb l K d n P qs (pc + 3) lv st (up μ 0 0 0 0 x)) := by
  show ((_ ∧ _ ∧ _) ∧ _ ∧ _) = _
  have h : fk 0 0 = 5 := by decide
  simp [cnt, h]
theorem e_pf_0_1 {i : Nat} {x : Int32} : xb l K d n P ((.putfield i, 0, 1, w) :: qs) pc lv (vI x :: vR 0 0 0 :: st) μ = (xb l K d n P qs (pc + 3) lv st (up μ 0 0 0 1 x)) := by
  show ((_ ∧ _ ∧ _) ∧ _ ∧ _) = _
  have h : fk 0 1 = 0 := by decide
  simp [cnt, h]
theorem e_pf_0_2 {i : Nat} {x : Int32} : xb l K d n P ((.putfield i, 0, 2, w) :: qs) pc lv (vI x :: vR 0 0 0 :: st) μ = (xb l K d n P qs (pc + 3) lv st (up μ 0 0 0 2 x)) := by
  show ((_ ∧ _ ∧ _) ∧ _ ∧ _) = _
  have h : fk 0 2 = 0 := by decide
  simp [cnt, h]
theorem e_pf_0_4 {i : Nat} {x : Int32} : xb l K d n P ((.putfield i, 0, 4, w) :: qs) pc lv (vI x :: vR 0 0 0 :: st) μ = (xb l K d n P qs (pc + 3) lv st (up μ 0 0 0 4 x)) := by
  show ((_ ∧ _ ∧ _) ∧ _ ∧ _) = _
  have h : fk 0 4 = 0 := by decide
  simp [cnt, h]
theorem e_pf_1_1 {i ii : Nat} {x : Int32} : xb l K d n P ((.putfield i, 1, 1, w) :: qs) pc lv (vI x :: vR 1 ii 0 :: st) μ = (ii < 2 ∧ xb l K d n P qs (pc + 3) lv st (up μ 1 ii 0 1 x)) := by
  show ((_ ∧ _ ∧ _) ∧ _ ∧ _) = _
  have h : fk 1 1 = 0 := by decide
  simp [cnt, h]
theorem e_pf_1_2 {i ii : Nat} {x : Int32} : xb l K d n P ((.putfield i, 1, 2, w) :: qs) pc lv (vI x :: vR 1 ii 0 :: st) μ = (ii < 2 ∧ xb l K d n P qs (pc + 3) lv st (up μ 1 ii 0 2 x)) := by
  show ((_ ∧ _ ∧ _) ∧ _ ∧ _) = _
  have h : fk 1 2 = 0 := by decide
  simp [cnt, h]
theorem e_pf_1_3 {i ii : Nat} {x : Int32} : xb l K d n P ((.putfield i, 1, 3, w) :: qs) pc lv (vI x :: vR 1 ii 0 :: st) μ = (ii < 2 ∧ xb l K d n P qs (pc + 3) lv st (up μ 1 ii 0 3 x)) := by
  show ((_ ∧ _ ∧ _) ∧ _ ∧ _) = _
  have h : fk 1 3 = 0 := by decide
  simp [cnt, h]
theorem e_pf_1_4 {i ii : Nat} {x : Int32} : xb l K d n P ((.putfield i, 1, 4, w) :: qs) pc lv (vI x :: vR 1 ii 0 :: st) μ = (ii < 2 ∧ xb l K d n P qs (pc + 3) lv st (up μ 1 ii 0 4 x)) := by
  show ((_ ∧ _ ∧ _) ∧ _ ∧ _) = _
  have h : fk 1 4 = 0 := by decide
  simp [cnt, h]
theorem e_pf_1_5 {i ii : Nat} {x : Int32} : xb l K d n P ((.putfield i, 1, 5, w) :: qs) pc lv (vI x :: vR 1 ii 0 :: st) μ = (ii < 2 ∧ xb l K d n P qs (pc + 3) lv st (up μ 1 ii 0 5 x)) := by
  show ((_ ∧ _ ∧ _) ∧ _ ∧ _) = _
  have h : fk 1 5 = 0 := by decide
  simp [cnt, h]
theorem e_pf_2_0 {i : Nat} {s : Nat} : xb l K d n P ((.putfield i, 2, 0, w) :: qs) pc lv (vR 2 0 s :: vR 2 0 0 :: st) μ = (s < 2 ^ 31 ∧ xb l K d n P qs (pc + 3) lv st (up μ 2 0 0 0 (nI s))) := by
  show ((_ ∧ _ ∧ _) ∧ _ ∧ _) = _
  have h : fk 2 0 = 4 := by decide
  simp [cnt, h]
theorem e_pf_2_1 {i : Nat} {s : Nat} : xb l K d n P ((.putfield i, 2, 1, w) :: qs) pc lv (vR 2 0 s :: vR 2 0 0 :: st) μ = (s < 2 ^ 31 ∧ xb l K d n P qs (pc + 3) lv st (up μ 2 0 0 1 (nI s))) := by
  show ((_ ∧ _ ∧ _) ∧ _ ∧ _) = _
  have h : fk 2 1 = 4 := by decide
  simp [cnt, h]
theorem e_pf_2_2 {i : Nat} {x : Int32} : xb l K d n P ((.putfield i, 2, 2, w) :: qs) pc lv (vI x :: vR 2 0 0 :: st) μ = (xb l K d n P qs (pc + 3) lv st (up μ 2 0 0 2 x)) := by
  show ((_ ∧ _ ∧ _) ∧ _ ∧ _) = _
  have h : fk 2 2 = 0 := by decide
  simp [cnt, h]
theorem e_pf_2_3 {i : Nat} {x : Int32} : xb l K d n P ((.putfield i, 2, 3, w) :: qs) pc lv (vI x :: vR 2 0 0 :: st) μ = (xb l K d n P qs (pc + 3) lv st (up μ 2 0 0 3 x)) := by
  show ((_ ∧ _ ∧ _) ∧ _ ∧ _) = _
  have h : fk 2 3 = 0 := by decide
  simp [cnt, h]
theorem e_pf_3_1 {i : Nat} {x : Int32} : xb l K d n P ((.putfield i, 3, 1, w) :: qs) pc lv (vI x :: vR 3 0 0 :: st) μ = (xb l K d n P qs (pc + 3) lv st (up μ 3 0 0 1 x)) := by
  show ((_ ∧ _ ∧ _) ∧ _ ∧ _) = _
  have h : fk 3 1 = 0 := by decide
  simp [cnt, h]
theorem e_pf_4_1 {i : Nat} {x : Int32} : xb l K d n P ((.putfield i, 4, 1, w) :: qs) pc lv (vI x :: vR 4 0 0 :: st) μ = (xb l K d n P qs (pc + 3) lv st (up μ 4 0 0 1 x)) := by
  show ((_ ∧ _ ∧ _) ∧ _ ∧ _) = _
  have h : fk 4 1 = 0 := by decide
  simp [cnt, h]
theorem e_pf_4_2 {i : Nat} {x : Int32} : xb l K d n P ((.putfield i, 4, 2, w) :: qs) pc lv (vI x :: vR 4 0 0 :: st) μ = (xb l K d n P qs (pc + 3) lv st (up μ 4 0 0 2 x)) := by
  show ((_ ∧ _ ∧ _) ∧ _ ∧ _) = _
  have h : fk 4 2 = 0 := by decide
  simp [cnt, h]
theorem e_pf_4_3 {i : Nat} {x : Int32} : xb l K d n P ((.putfield i, 4, 3, w) :: qs) pc lv (vI x :: vR 4 0 0 :: st) μ = (xb l K d n P qs (pc + 3) lv st (up μ 4 0 0 3 x)) := by
  show ((_ ∧ _ ∧ _) ∧ _ ∧ _) = _
  have h : fk 4 3 = 0 := by decide
  simp [cnt, h]
theorem e_pf_4_4 {i : Nat} {x : Int32} : xb l K d n P ((.putfield i, 4, 4, w) :: qs) pc lv (vI x :: vR 4 0 0 :: st) μ = (xb l K d n P qs (pc + 3) lv st (up μ 4 0 0 4 x)) := by
  show ((_ ∧ _ ∧ _) ∧ _ ∧ _) = _
  have h : fk 4 4 = 0 := by decide
  simp [cnt, h]
theorem e_pf_5_1 {i : Nat} {x : Int32} : xb l K d n P ((.putfield i, 5, 1, w) :: qs) pc lv (vI x :: vR 5 0 0 :: st) μ = (xb l K d n P qs (pc + 3) lv st (up μ 5 0 0 1 x)) := by
  show ((_ ∧ _ ∧ _) ∧ _ ∧ _) = _
  have h : fk 5 1 = 0 := by decide
  simp [cnt, h]
theorem e_pf_5_2 {i : Nat} {x : Int32} : xb l K d n P ((.putfield i, 5, 2, w) :: qs) pc lv (vI x :: vR 5 0 0 :: st) μ = (xb l K d n P qs (pc + 3) lv st (up μ 5 0 0 2 x)) := by
  show ((_ ∧ _ ∧ _) ∧ _ ∧ _) = _
  have h : fk 5 2 = 0 := by decide
  simp [cnt, h]
theorem e_pf_6_1 {i ii : Nat} {x : Int32} : xb l K d n P ((.putfield i, 6, 1, w) :: qs) pc lv (vI x :: vR 6 ii 0 :: st) μ = (ii < 6 ∧ xb l K d n P qs (pc + 3) lv st (up μ 6 ii 0 1 x)) := by
  show ((_ ∧ _ ∧ _) ∧ _ ∧ _) = _
  have h : fk 6 1 = 0 := by decide
  simp [cnt, h]
theorem e_pf_7_10 {i : Nat} {x : Int32} : xb l K d n P ((.putfield i, 7, 10, w) :: qs) pc lv (vI x :: vR 7 0 0 :: st) μ = (xb l K d n P qs (pc + 3) lv st (up μ 7 0 0 10 x)) := by
  show ((_ ∧ _ ∧ _) ∧ _ ∧ _) = _
  have h : fk 7 10 = 0 := by decide
  simp [cnt, h]
theorem e_pf_7_7 {i : Nat} {x : Int32} : xb l K d n P ((.putfield i, 7, 7, w) :: qs) pc lv (vI x :: vR 7 0 0 :: st) μ = ((x = 0 ∨ x = 1) ∧ xb l K d n P qs (pc + 3) lv st (up μ 7 0 0 7 x)) := by
  show ((_ ∧ _ ∧ _) ∧ _ ∧ _) = _
  have h : fk 7 7 = 5 := by decide
  simp [cnt, h]
theorem e_pf_7_8 {i : Nat} {x : Int32} : xb l K d n P ((.putfield i, 7, 8, w) :: qs) pc lv (vI x :: vR 7 0 0 :: st) μ = (xb l K d n P qs (pc + 3) lv st (up μ 7 0 0 8 x)) := by
  show ((_ ∧ _ ∧ _) ∧ _ ∧ _) = _
  have h : fk 7 8 = 0 := by decide
  simp [cnt, h]
theorem e_pf_7_9 {i : Nat} {x : Int32} : xb l K d n P ((.putfield i, 7, 9, w) :: qs) pc lv (vI x :: vR 7 0 0 :: st) μ = (xb l K d n P qs (pc + 3) lv st (up μ 7 0 0 9 x)) := by
  show ((_ ∧ _ ∧ _) ∧ _ ∧ _) = _
  have h : fk 7 9 = 0 := by decide
  simp [cnt, h]
theorem e_pf_8_0 {i : Nat} {x : Int32} : xb l K d n P ((.putfield i, 8, 0, w) :: qs) pc lv (vI x :: vR 8 0 0 :: st) μ = ((x = 0 ∨ x = 1) ∧ xb l K d n P qs (pc + 3) lv st (up μ 8 0 0 0 x)) := by
  show ((_ ∧ _ ∧ _) ∧ _ ∧ _) = _
  have h : fk 8 0 = 5 := by decide
  simp [cnt, h]
theorem e_pf_8_1 {i : Nat} {x : Int32} : xb l K d n P ((.putfield i, 8, 1, w) :: qs) pc lv (vI x :: vR 8 0 0 :: st) μ = (xb l K d n P qs (pc + 3) lv st (up μ 8 0 0 1 x)) := by
  show ((_ ∧ _ ∧ _) ∧ _ ∧ _) = _
  have h : fk 8 1 = 0 := by decide
  simp [cnt, h]
theorem e_pf_8_10 {i : Nat} {x : Int32} : xb l K d n P ((.putfield i, 8, 10, w) :: qs) pc lv (vI x :: vR 8 0 0 :: st) μ = (xb l K d n P qs (pc + 3) lv st (up μ 8 0 0 10 x)) := by
  show ((_ ∧ _ ∧ _) ∧ _ ∧ _) = _
  have h : fk 8 10 = 0 := by decide
  simp [cnt, h]
theorem e_pf_8_11 {i : Nat} {x : Int32} : xb l K d n P ((.putfield i, 8, 11, w) :: qs) pc lv (vI x :: vR 8 0 0 :: st) μ = (xb l K d n P qs (pc + 3) lv st (up μ 8 0 0 11 x)) := by
  show ((_ ∧ _ ∧ _) ∧ _ ∧ _) = _
  have h : fk 8 11 = 0 := by decide
  simp [cnt, h]
theorem e_pf_8_12 {i : Nat} {x : Int32} : xb l K d n P ((.putfield i, 8, 12, w) :: qs) pc lv (vI x :: vR 8 0 0 :: st) μ = (xb l K d n P qs (pc + 3) lv st (up μ 8 0 0 12 x)) := by
  show ((_ ∧ _ ∧ _) ∧ _ ∧ _) = _
  have h : fk 8 12 = 0 := by decide
  simp [cnt, h]
theorem e_pf_8_13 {i : Nat} {x : Int32} : xb l K d n P ((.putfield i, 8, 13, w) :: qs) pc lv (vI x :: vR 8 0 0 :: st) μ = (xb l K d n P qs (pc + 3) lv st (up μ 8 0 0 13 x)) := by
  show ((_ ∧ _ ∧ _) ∧ _ ∧ _) = _
  have h : fk 8 13 = 0 := by decide
  simp [cnt, h]
theorem e_pf_8_14 {i : Nat} {x : Int32} : xb l K d n P ((.putfield i, 8, 14, w) :: qs) pc lv (vI x :: vR 8 0 0 :: st) μ = (xb l K d n P qs (pc + 3) lv st (up μ 8 0 0 14 x)) := by
  show ((_ ∧ _ ∧ _) ∧ _ ∧ _) = _
  have h : fk 8 14 = 0 := by decide
  simp [cnt, h]
theorem e_pf_8_15 {i : Nat} {x : Int32} : xb l K d n P ((.putfield i, 8, 15, w) :: qs) pc lv (vI x :: vR 8 0 0 :: st) μ = (xb l K d n P qs (pc + 3) lv st (up μ 8 0 0 15 x)) := by
  show ((_ ∧ _ ∧ _) ∧ _ ∧ _) = _
  have h : fk 8 15 = 0 := by decide
  simp [cnt, h]
theorem e_pf_8_17 {i : Nat} {x : Int32} : xb l K d n P ((.putfield i, 8, 17, w) :: qs) pc lv (vI x :: vR 8 0 0 :: st) μ = (xb l K d n P qs (pc + 3) lv st (up μ 8 0 0 17 x)) := by
  show ((_ ∧ _ ∧ _) ∧ _ ∧ _) = _
  have h : fk 8 17 = 0 := by decide
  simp [cnt, h]
theorem e_pf_8_18 {i : Nat} {x : Int32} : xb l K d n P ((.putfield i, 8, 18, w) :: qs) pc lv (vI x :: vR 8 0 0 :: st) μ = (xb l K d n P qs (pc + 3) lv st (up μ 8 0 0 18 x)) := by
  show ((_ ∧ _ ∧ _) ∧ _ ∧ _) = _
  have h : fk 8 18 = 0 := by decide
  simp [cnt, h]
theorem e_pf_8_19 {i : Nat} {x : Int32} : xb l K d n P ((.putfield i, 8, 19, w) :: qs) pc lv (vI x :: vR 8 0 0 :: st) μ = (xb l K d n P qs (pc + 3) lv st (up μ 8 0 0 19 x)) := by
  show ((_ ∧ _ ∧ _) ∧ _ ∧ _) = _
  have h : fk 8 19 = 0 := by decide
  simp [cnt, h]
theorem e_pf_8_2 {i : Nat} {x : Int32} : xb l K d n P ((.putfield i, 8, 2, w) :: qs) pc lv (vI x :: vR 8 0 0 :: st) μ = (xb l K d n P qs (pc + 3) lv st (up μ 8 0 0 2 x)) := by
  show ((_ ∧ _ ∧ _) ∧ _ ∧ _) = _
  have h : fk 8 2 = 0 := by decide
  simp [cnt, h]
theorem e_pf_8_21 {i : Nat} {x : Int32} : xb l K d n P ((.putfield i, 8, 21, w) :: qs) pc lv (vI x :: vR 8 0 0 :: st) μ = (xb l K d n P qs (pc + 3) lv st (up μ 8 0 0 21 x)) := by
  show ((_ ∧ _ ∧ _) ∧ _ ∧ _) = _
  have h : fk 8 21 = 0 := by decide
  simp [cnt, h]
theorem e_pf_8_24 {i : Nat} {x : Int32} : xb l K d n P ((.putfield i, 8, 24, w) :: qs) pc lv (vI x :: vR 8 0 0 :: st) μ = (xb l K d n P qs (pc + 3) lv st (up μ 8 0 0 24 x)) := by
  show ((_ ∧ _ ∧ _) ∧ _ ∧ _) = _
  have h : fk 8 24 = 0 := by decide
  simp [cnt, h]
theorem e_pf_8_25 {i : Nat} {x : Int32} : xb l K d n P ((.putfield i, 8, 25, w) :: qs) pc lv (vI x :: vR 8 0 0 :: st) μ = (xb l K d n P qs (pc + 3) lv st (up μ 8 0 0 25 x)) := by
  show ((_ ∧ _ ∧ _) ∧ _ ∧ _) = _
  have h : fk 8 25 = 0 := by decide
  simp [cnt, h]
theorem e_pf_8_28 {i : Nat} {x : Int64} : xb l K d n P ((.putfield i, 8, 28, w) :: qs) pc lv (vJ x :: vR 8 0 0 :: st) μ = (xb l K d n P qs (pc + 3) lv st (up (up μ 8 0 0 28 (hiL x)) 8 0 99 28 (loL x))) := by
  show ((_ ∧ _ ∧ _) ∧ _ ∧ _) = _
  have h : fk 8 28 = 1 := by decide
  simp [cnt, h]
theorem e_pf_8_29 {i : Nat} {x : Int32} : xb l K d n P ((.putfield i, 8, 29, w) :: qs) pc lv (vI x :: vR 8 0 0 :: st) μ = ((x = 0 ∨ x = 1) ∧ xb l K d n P qs (pc + 3) lv st (up μ 8 0 0 29 x)) := by
  show ((_ ∧ _ ∧ _) ∧ _ ∧ _) = _
  have h : fk 8 29 = 5 := by decide
  simp [cnt, h]
theorem e_pf_8_3 {i : Nat} {x : Int32} : xb l K d n P ((.putfield i, 8, 3, w) :: qs) pc lv (vI x :: vR 8 0 0 :: st) μ = (xb l K d n P qs (pc + 3) lv st (up μ 8 0 0 3 x)) := by
  show ((_ ∧ _ ∧ _) ∧ _ ∧ _) = _
  have h : fk 8 3 = 0 := by decide
  simp [cnt, h]
theorem e_pf_8_30 {i : Nat} {x : Int32} : xb l K d n P ((.putfield i, 8, 30, w) :: qs) pc lv (vI x :: vR 8 0 0 :: st) μ = (xb l K d n P qs (pc + 3) lv st (up μ 8 0 0 30 x)) := by
  show ((_ ∧ _ ∧ _) ∧ _ ∧ _) = _
  have h : fk 8 30 = 0 := by decide
  simp [cnt, h]
theorem e_pf_8_31 {i : Nat} {x : Int32} : xb l K d n P ((.putfield i, 8, 31, w) :: qs) pc lv (vI x :: vR 8 0 0 :: st) μ = (xb l K d n P qs (pc + 3) lv st (up μ 8 0 0 31 x)) := by
  show ((_ ∧ _ ∧ _) ∧ _ ∧ _) = _
  have h : fk 8 31 = 0 := by decide
  simp [cnt, h]
theorem e_pf_8_32 {i : Nat} {x : Int32} : xb l K d n P ((.putfield i, 8, 32, w) :: qs) pc lv (vI x :: vR 8 0 0 :: st) μ = (xb l K d n P qs (pc + 3) lv st (up μ 8 0 0 32 x)) := by
  show ((_ ∧ _ ∧ _) ∧ _ ∧ _) = _
  have h : fk 8 32 = 0 := by decide
  simp [cnt, h]
theorem e_pf_8_33 {i : Nat} {x : Int32} : xb l K d n P ((.putfield i, 8, 33, w) :: qs) pc lv (vI x :: vR 8 0 0 :: st) μ = (xb l K d n P qs (pc + 3) lv st (up μ 8 0 0 33 x)) := by
  show ((_ ∧ _ ∧ _) ∧ _ ∧ _) = _
  have h : fk 8 33 = 0 := by decide
  simp [cnt, h]
theorem e_pf_8_34 {i : Nat} {x : Int32} : xb l K d n P ((.putfield i, 8, 34, w) :: qs) pc lv (vI x :: vR 8 0 0 :: st) μ = (xb l K d n P qs (pc + 3) lv st (up μ 8 0 0 34 x)) := by
  show ((_ ∧ _ ∧ _) ∧ _ ∧ _) = _
  have h : fk 8 34 = 0 := by decide
  simp [cnt, h]
theorem e_pf_8_35 {i : Nat} {x : Int32} : xb l K d n P ((.putfield i, 8, 35, w) :: qs) pc lv (vI x :: vR 8 0 0 :: st) μ = (xb l K d n P qs (pc + 3) lv st (up μ 8 0 0 35 x)) := by
  show ((_ ∧ _ ∧ _) ∧ _ ∧ _) = _
  have h : fk 8 35 = 0 := by decide
  simp [cnt, h]
theorem e_pf_8_36 {i : Nat} {x : Int32} : xb l K d n P ((.putfield i, 8, 36, w) :: qs) pc lv (vI x :: vR 8 0 0 :: st) μ = (xb l K d n P qs (pc + 3) lv st (up μ 8 0 0 36 x)) := by
  show ((_ ∧ _ ∧ _) ∧ _ ∧ _) = _
  have h : fk 8 36 = 0 := by decide
  simp [cnt, h]
theorem e_pf_8_40 {i : Nat} {x : Int64} : xb l K d n P ((.putfield i, 8, 40, w) :: qs) pc lv (vJ x :: vR 8 0 0 :: st) μ = (xb l K d n P qs (pc + 3) lv st (up (up μ 8 0 0 40 (hiL x)) 8 0 99 40 (loL x))) := by
  show ((_ ∧ _ ∧ _) ∧ _ ∧ _) = _
  have h : fk 8 40 = 1 := by decide
  simp [cnt, h]
theorem e_pf_8_6 {i : Nat} {x : Int32} : xb l K d n P ((.putfield i, 8, 6, w) :: qs) pc lv (vI x :: vR 8 0 0 :: st) μ = (xb l K d n P qs (pc + 3) lv st (up μ 8 0 0 6 x)) := by
  show ((_ ∧ _ ∧ _) ∧ _ ∧ _) = _
  have h : fk 8 6 = 0 := by decide
  simp [cnt, h]
theorem e_pf_8_7 {i : Nat} {x : Int32} : xb l K d n P ((.putfield i, 8, 7, w) :: qs) pc lv (vI x :: vR 8 0 0 :: st) μ = (xb l K d n P qs (pc + 3) lv st (up μ 8 0 0 7 x)) := by
  show ((_ ∧ _ ∧ _) ∧ _ ∧ _) = _
  have h : fk 8 7 = 0 := by decide
  simp [cnt, h]
theorem e_pf_8_8 {i : Nat} {x : Int32} : xb l K d n P ((.putfield i, 8, 8, w) :: qs) pc lv (vI x :: vR 8 0 0 :: st) μ = (xb l K d n P qs (pc + 3) lv st (up μ 8 0 0 8 x)) := by
  show ((_ ∧ _ ∧ _) ∧ _ ∧ _) = _
  have h : fk 8 8 = 0 := by decide
  simp [cnt, h]
theorem e_pf_8_9 {i : Nat} {x : Int32} : xb l K d n P ((.putfield i, 8, 9, w) :: qs) pc lv (vI x :: vR 8 0 0 :: st) μ = (xb l K d n P qs (pc + 3) lv st (up μ 8 0 0 9 x)) := by
  show ((_ ∧ _ ∧ _) ∧ _ ∧ _) = _
  have h : fk 8 9 = 0 := by decide
  simp [cnt, h]
theorem e_pop {v : Int32} : xb l K d n P ((.pop, a, b, w) :: qs) pc lv (.inl v :: st) μ = xb l K d n P qs (pc + 1) lv st μ := by
  show (nol _ = true ∧ _) = _
  simp [nol]
theorem e_sp_1000 : xb l K d n P ((.sipush 1000, a, b, w) :: qs) pc lv st μ = xb l K d n P qs (pc + 3) lv (vI 1000 :: st) μ := rfl
theorem e_sp_255 : xb l K d n P ((.sipush 255, a, b, w) :: qs) pc lv st μ = xb l K d n P qs (pc + 3) lv (vI 255 :: st) μ := rfl
theorem e_stC {i : Nat} : xb l K d n P ((.getstatic i, 0, b, w) :: qs) pc lv st μ = xb l K d n P qs (pc + 3) lv (vI 1 :: st) μ := rfl
theorem e_stK {i : Nat} : xb l K d n P ((.getstatic i, 10, b, w) :: qs) pc lv st μ = xb l K d n P qs (pc + 3) lv (vR 10 0 1 :: st) μ := rfl
theorem e_st_0 {i : Nat} : xb l K d n P ((.getstatic i, 9, 0, w) :: qs) pc lv st μ = xb l K d n P qs (pc + 3) lv (vR 9 0 0 :: st) μ := rfl
theorem e_st_1 {i : Nat} : xb l K d n P ((.getstatic i, 9, 1, w) :: qs) pc lv st μ = xb l K d n P qs (pc + 3) lv (vR 9 1 0 :: st) μ := rfl
theorem e_st_2 {i : Nat} : xb l K d n P ((.getstatic i, 9, 2, w) :: qs) pc lv st μ = xb l K d n P qs (pc + 3) lv (vR 9 2 0 :: st) μ := rfl
theorem e_st_3 {i : Nat} : xb l K d n P ((.getstatic i, 9, 3, w) :: qs) pc lv st μ = xb l K d n P qs (pc + 3) lv (vR 9 3 0 :: st) μ := rfl
theorem e_st_4 {i : Nat} : xb l K d n P ((.getstatic i, 9, 4, w) :: qs) pc lv st μ = xb l K d n P qs (pc + 3) lv (vR 9 4 0 :: st) μ := rfl
theorem e_tsw {x : Int32} {df lo hi : Int} {offs : Array Int} : xb l K d n P ((.tableswitch df lo hi offs, a, b, w) :: qs) pc lv (vI x :: st) μ = ∃ t : Nat, swT pc df lo hi offs x.toInt = some (t : Int) ∧ Go l K d n t lv st μ P := rfl
theorem e_vret : xb l K d n P ((.return_, a, b, w) :: qs) pc lv [] μ = P none μ := by
  show (_ ∧ _) = _
  simp
theorem e_za {j : Int32} {c i s : Nat} : xb l K d n P ((.baload, 1, b, w) :: qs) pc lv (vI j :: vR c i s :: st) μ = (ain 1 c i s j ∧ xb l K d n P qs (pc + 1) lv (vI (μ c i s (ix j)) :: st) μ) := by
  show ((ain 1 c i s j ∧ (1 = 1 ∨ 1 = 3)) ∧ _) = _
  simp
theorem e_zs {x j : Int32} {c i s : Nat} : xb l K d n P ((.bastore, 1, b, w) :: qs) pc lv (vI x :: vI j :: vR c i s :: st) μ = (ain 1 c i s j ∧ xb l K d n P qs (pc + 1) lv st (up μ c i s (ix j) (vp_nar .boolean x))) := rfl
theorem e_nil : xb l K d n P [] pc lv st μ = Go l K d n pc lv st μ P := rfl
end
theorem nol_n : nol none = true := rfl
theorem nol_I (x : Int32) : nol (some (.inl x)) = true := rfl
theorem nol_R (x : Nat × Nat × Nat) : nol (some (.inr (.inr x))) = true := rfl
theorem nol_J (x : Int64) : nol (some (.inr (.inl x))) = false := rfl
theorem rsum_0 : rsum [] = 0 := rfl
theorem rsum_I (x : Int32) (r : List AV) : rsum (.inl x :: r) = 1 + rsum r := rfl
theorem rsum_J (x : Int64) (r : List AV) : rsum (.inr (.inl x) :: r) = 2 + rsum r := rfl
theorem rsum_R (x : Nat × Nat × Nat) (r : List AV) : rsum (.inr (.inr x) :: r) = 1 + rsum r := rfl
theorem ps_s (v : AV) (r : List AV) : ps (some v) r = v :: r := rfl
theorem ps_n (r : List AV) : ps none r = r := rfl
theorem ai_0_4 (j : Int32) : ain 0 0 0 4 j = vp_in j 15 := by
  have h : aI 0 4 = (0, 15) := by decide
  simp [ain, cnt, h]
theorem ai_1_7 (i : Nat) (j : Int32) : ain 0 1 i 7 j = (i < 2 ∧ vp_in j 6) := by
  have h : aI 1 7 = (0, 6) := by decide
  simp [ain, cnt, h]
theorem ai_2_1 (j : Int32) : ain 0 2 0 1 j = vp_in j 64 := by
  have h : aI 2 1 = (0, 64) := by decide
  simp [ain, cnt, h]
theorem ai_2_2 (j : Int32) : ain 0 2 0 2 j = vp_in j 64 := by
  have h : aI 2 2 = (0, 64) := by decide
  simp [ain, cnt, h]
theorem ai_3_1 (j : Int32) : ain 2 3 0 1 j = vp_in j 22 := by
  have h : aI 3 1 = (2, 22) := by decide
  simp [ain, cnt, h]
theorem ai_4_1 (j : Int32) : ain 4 4 0 1 j = vp_in j 3 := by
  have h : aI 4 1 = (4, 3) := by decide
  simp [ain, cnt, h]
theorem ai_6_3 (i : Nat) (j : Int32) : ain 0 6 i 3 j = (i < 6 ∧ vp_in j 6) := by
  have h : aI 6 3 = (0, 6) := by decide
  simp [ain, cnt, h]
theorem ai_6_4 (i : Nat) (j : Int32) : ain 0 6 i 4 j = (i < 6 ∧ vp_in j 6) := by
  have h : aI 6 4 = (0, 6) := by decide
  simp [ain, cnt, h]
theorem ai_6_5 (i : Nat) (j : Int32) : ain 0 6 i 5 j = (i < 6 ∧ vp_in j 6) := by
  have h : aI 6 5 = (0, 6) := by decide
  simp [ain, cnt, h]
theorem ai_6_6 (i : Nat) (j : Int32) : ain 0 6 i 6 j = (i < 6 ∧ vp_in j 6) := by
  have h : aI 6 6 = (0, 6) := by decide
  simp [ain, cnt, h]
theorem ai_6_7 (i : Nat) (j : Int32) : ain 1 6 i 7 j = (i < 6 ∧ vp_in j 6) := by
  have h : aI 6 7 = (1, 6) := by decide
  simp [ain, cnt, h]
theorem ai_6_8 (i : Nat) (j : Int32) : ain 0 6 i 8 j = (i < 6 ∧ vp_in j 2) := by
  have h : aI 6 8 = (0, 2) := by decide
  simp [ain, cnt, h]
theorem ai_8_5 (j : Int32) : ain 0 8 0 5 j = vp_in j 6 := by
  have h : aI 8 5 = (0, 6) := by decide
  simp [ain, cnt, h]
theorem ai_8_6 (j : Int32) : ain 0 8 0 6 j = vp_in j 6 := by
  have h : aI 8 6 = (0, 6) := by decide
  simp [ain, cnt, h]
theorem ai_8_17 (j : Int32) : ain 0 8 0 17 j = vp_in j 6 := by
  have h : aI 8 17 = (0, 6) := by decide
  simp [ain, cnt, h]
theorem ai_8_21 (j : Int32) : ain 3 8 0 21 j = vp_in j 22 := by
  have h : aI 8 21 = (3, 22) := by decide
  simp [ain, cnt, h]
theorem ai_8_23 (j : Int32) : ain 0 8 0 23 j = vp_in j 15 := by
  have h : aI 8 23 = (0, 15) := by decide
  simp [ain, cnt, h]
theorem ai_8_24 (j : Int32) : ain 0 8 0 24 j = vp_in j 20 := by
  have h : aI 8 24 = (0, 20) := by decide
  simp [ain, cnt, h]
theorem ai_8_27 (j : Int32) : ain 0 8 0 27 j = vp_in j 64 := by
  have h : aI 8 27 = (0, 64) := by decide
  simp [ain, cnt, h]
theorem ai_8_28 (j : Int32) : ain 0 8 0 28 j = vp_in j 64 := by
  have h : aI 8 28 = (0, 64) := by decide
  simp [ain, cnt, h]
theorem ai_8_38 (j : Int32) : ain 0 8 0 38 j = vp_in j 5 := by
  have h : aI 8 38 = (0, 5) := by decide
  simp [ain, cnt, h]
theorem ai_8_39 (j : Int32) : ain 0 8 0 39 j = vp_in j 6 := by
  have h : aI 8 39 = (0, 6) := by decide
  simp [ain, cnt, h]
theorem ai_8_40 (j : Int32) : ain 0 8 0 40 j = vp_in j 6 := by
  have h : aI 8 40 = (0, 6) := by decide
  simp [ain, cnt, h]
