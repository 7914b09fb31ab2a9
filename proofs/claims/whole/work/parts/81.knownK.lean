theorem arK {s : State} {args : Array Value} {ty : FieldType} (h : (Cond.arrayClass ty).before args s = true) (hty : ∀ C, ty ≠ .object C) : ∃ cA : ClassId, ArrOfT s cA ty ∧ va_RA s cA ty := by
  obtain ⟨cA, kA, comp, h1, h2, h3⟩ := Cond.arrayClass_spec h
  refine ⟨cA, fun n z => ⟨fun k h => (by cases h), kA, h2, comp, h3⟩, ?_⟩
  cases ty with
  | object C => exact absurd rfl (hty C)
  | _ => exact h1
theorem arO {s : State} {C : String} (h : va_AO C s) : ∃ cA : ClassId, ArrOfT s cA (.object C) ∧ va_RA s cA (.object C) := by
  obtain ⟨comp, c, k, h1, h2, h3, h4, h5⟩ := Cond.arrayOver_spec h
  exact ⟨c, fun n z => ⟨fun k h => (by cases h), k, h3, comp, h4⟩, k, comp, h3, h4, h1, h5⟩
theorem kAll {s : State} {args : Array Value} (hts : ∀ w ∈ lw_tbl, w.before args s = true) : ∃ (D : va_G) (Y : Nat → ClassId), va_K D vwCl (yT Y) s := by
  obtain ⟨D, hD⟩ := knAll (fun w hw => hts w (lwG_sub hw))
  obtain ⟨y0, g0⟩ := arK (ty := .int) (hts _ (List.mem_of_getElem? (show lw_tbl[129]? = some (Cond.arrayClass .int) by decide +kernel))) (fun C h => by cases h)
  obtain ⟨y1, g1⟩ := arK (ty := .boolean) (hts _ (List.mem_of_getElem? (show lw_tbl[182]? = some (Cond.arrayClass .boolean) by decide +kernel))) (fun C h => by cases h)
  obtain ⟨y2, g2⟩ := arK (ty := .char) (hts _ (List.mem_of_getElem? (show lw_tbl[105]? = some (Cond.arrayClass .char) by decide +kernel))) (fun C h => by cases h)
  obtain ⟨y3, g3⟩ := arK (ty := .byte) (hts _ (List.mem_of_getElem? (show lw_tbl[434]? = some (Cond.arrayClass .byte) by decide +kernel))) (fun C h => by cases h)
  obtain ⟨y4, g4⟩ := arO (C := "TinSoldiers$Troops") (va_AO.of (hts _ (List.mem_of_getElem? (show lw_tbl[239]? = some (Cond.arrayOver (.object "TinSoldiers$Troops")) by decide +kernel))))
  refine ⟨D, fun k => if k = 0 then y0 else if k = 1 then y1 else if k = 2 then y2 else if k = 3 then y3 else y4, hD, ?_⟩
  intro k q hq
  match k, hq with
  | 0, hq => cases hq; exact g0
  | 1, hq => cases hq; exact g1
  | 2, hq => cases hq; exact g2
  | 3, hq => cases hq; exact g3
  | 4, hq => cases hq; exact g4
  | k + 5, hq => simp [yT] at hq
theorem xTAll {s : State} {args : Array Value} (hts : ∀ w ∈ lw_tbl, w.before args s = true) : xT s := by
  exact ⟨va_AO.of (hts _ (List.mem_of_getElem? (show lw_tbl[239]? = some (Cond.arrayOver (.object "TinSoldiers$Troops")) by decide +kernel))), va_Nw.of rfl (hts _ (List.mem_of_getElem? (show lw_tbl[89]? = some (Cond.methodLinkNest "TinSoldiers" 11 (mY 39) "TinSoldiers") by decide +kernel))), va_Nw.of rfl (hts _ (List.mem_of_getElem? (show lw_tbl[108]? = some (Cond.methodLinkNest "TinSoldiers" 18 (mY 0) "TinSoldiers") by decide +kernel))), va_Nw.of rfl (hts _ (List.mem_of_getElem? (show lw_tbl[215]? = some (Cond.methodLinkNest "TinSoldiers" 37 (mY 31) "TinSoldiers") by decide +kernel)))⟩
