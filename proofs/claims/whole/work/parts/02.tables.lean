def lwG : List Cond := lw_tbl.filter goodWord
theorem lwG_at {i : Nat} {w : Cond} (h : lw_tbl[i]? = some w) (g : goodWord w = true) : w ∈ lwG := List.mem_filter.mpr ⟨List.mem_of_getElem? h, g⟩
def oS : Nat → String := fun o => (["TinSoldiers$Carpet", "TinSoldiers$Game", "TinSoldiers$Nights", "TinSoldiers$Page", "TinSoldiers$Search", "TinSoldiers$Trial", "TinSoldiers$Troops", "TinSoldiers", "TinSoldiersModel", "TinSoldiers$Grid", "TinSoldiers$Kind", "TinSoldiersLaw", "java/lang/Integer", "java/lang/Math", "java/lang/String", "java/lang/StringLatin1"] : List String).getD o ""
abbrev Mr : Type := Nat × MethodName × ByteArray × Nat × Option FieldType × Nat
def mT0 : List Mr := [(0, yX0_init, cX0_init, 1, none, 0),
  (0, yX0_lay, cX0_lay, 4, none, 1),
  (0, yX0_has, cX0_has, 2, (some .boolean), 1),
  (0, yX0_isOpen, cX0_isOpen, 2, (some .boolean), 1),
  (0, yX0_openCells, cX0_openCells, 1, (some .int), 0),
  (0, yX0_seenFrom, cX0_seenFrom, 2, (some .int), 1),
  (0, yX0_hasCoverOn, cX0_hasCoverOn, 2, (some .boolean), 1),
  (0, yX0_hasCoverAround, cX0_hasCoverAround, 2, (some .boolean), 1),
  (0, yX0_fewestWatchers, cX0_fewestWatchers, 1, (some .int), 0),
  (0, yX0_touchesCover, cX0_touchesCover, 3, (some .boolean), 1),
  (0, yX0_lookFrom, cX0_lookFrom, 5, (some .int), 1),
  (0, yX0_findWatchers, cX0_findWatchers, 6, (some .int), 0),
  (0, yX0_seenTogether, cX0_seenTogether, 4, (some .int), 1),
  (1, yX1_init, cX1_init, 2, none, 1),
  (1, yX1_clear, cX1_clear, 3, none, 2),
  (1, yX1_copyFrom, cX1_copyFrom, 3, none, 1),
  (1, yX1_sign, cX1_sign, 4, none, 1),
  (1, yX1_play, cX1_play, 4, (some .int), 3),
  (1, yX1_tell, cX1_tell, 2, (some .int), 1),
  (1, yX1_isForbidden, cX1_isForbidden, 5, (some .boolean), 2),
  (1, yX1_bans, cX1_bans, 3, (some .boolean), 1),
  (9, yX2_rowOf, cX2_rowOf, 1, (some .int), 1),
  (9, yX2_columnOf, cX2_columnOf, 1, (some .int), 1),
  (9, yX2_isInside, cX2_isInside, 2, (some .boolean), 2),
  (9, yX2_rowStep, cX2_rowStep, 2, (some .int), 2),
  (9, yX2_columnStep, cX2_columnStep, 2, (some .int), 2),
  (9, yX2_distance, cX2_distance, 4, (some .int), 2),
  (9, yX2_isDiagonal, cX2_isDiagonal, 2, (some .boolean), 2),
  (9, yX2_between, cX2_between, 9, (some .int), 2),
  (9, yX2_signOf, cX2_signOf, 1, (some .int), 1),
  (10, yX3_isA, cX3_isA, 2, (some .boolean), 1),
  (2, yX4_init, cX4_init, 1, none, 0),
  (2, yX4_unfold, cX4_unfold, 5, none, 1),
  (2, yX4_allWays, cX4_allWays, 3, (some .int), 0),
  (2, yX4_lastSideOf, cX4_lastSideOf, 6, (some .int), 2),
  (2, yX4_startUntold, cX4_startUntold, 1, none, 0),
  (2, yX4_wake, cX4_wake, 5, none, 2),
  (2, yX4_waysInto, cX4_waysInto, 4, (some .int), 1),
  (2, yX4_sideIn, cX4_sideIn, 5, (some .int), 3),
  (3, yX5_init, cX5_init, 1, none, 0)]
def mT1 : List Mr := [(3, yX5_append, cX5_append, 2, (some .int), 1),
  (3, yX5_empty, cX5_empty, 2, (some .int), 0),
  (3, yX5_digitAt, cX5_digitAt, 2, (some .int), 1),
  (3, yX5_isCarpet, cX5_isCarpet, 1, (some .boolean), 0),
  (3, yX5_isTreaty, cX5_isTreaty, 1, (some .boolean), 0),
  (3, yX5_firstFault, cX5_firstFault, 4, (some .int), 1),
  (3, yX5_suitsCarpet, cX5_suitsCarpet, 3, (some .boolean), 1),
  (3, yX5_suitsTreaty, cX5_suitsTreaty, 3, (some .boolean), 1),
  (4, yX6_init, cX6_init, 3, none, 1),
  (4, yX6_look, cX6_look, 5, none, 3),
  (4, yX6_mean, cX6_mean, 12, (some .int), 3),
  (4, yX6_meanOfMiss, cX6_meanOfMiss, 5, (some .int), 3),
  (4, yX6_meanOfHit, cX6_meanOfHit, 6, (some .int), 4),
  (4, yX6_commonDivisor, cX6_commonDivisor, 6, (some .int), 2),
  (5, yX7_init, cX7_init, 2, none, 1),
  (5, yX7_run, cX7_run, 8, none, 3),
  (5, yX7_draw, cX7_draw, 2, (some .int), 1),
  (6, yX8_init, cX8_init, 2, none, 1),
  (6, yX8_clear, cX8_clear, 3, none, 2),
  (6, yX8_copyFrom, cX8_copyFrom, 3, none, 1),
  (6, yX8_has, cX8_has, 2, (some .boolean), 1),
  (6, yX8_kindOf, cX8_kindOf, 2, (some (.object "TinSoldiers$Kind")), 1),
  (6, yX8_whoIsAt, cX8_whoIsAt, 3, (some .int), 1),
  (6, yX8_isFree, cX8_isFree, 2, (some .boolean), 1),
  (6, yX8_enlist, cX8_enlist, 5, (some .int), 3),
  (6, yX8_standing, cX8_standing, 4, (some .int), 1),
  (6, yX8_targetsOf, cX8_targetsOf, 4, (some .int), 1),
  (6, yX8_chance, cX8_chance, 5, (some .int), 2),
  (6, yX8_fire, cX8_fire, 10, (some .int), 3),
  (6, yX8_standUp, cX8_standUp, 3, (some .int), 0),
  (6, yX8_isBlocked, cX8_isBlocked, 3, (some .boolean), 1),
  (6, yX8_strike, cX8_strike, 3, (some .int), 2),
  (6, yX8_firstBehind, cX8_firstBehind, 9, (some .int), 3),
  (7, yX9_init, cX9_init, 1, none, 0),
  (7, yX9_letter, cX9_letter, 2, (some .int), 1),
  (7, yX9_blank, cX9_blank, 1, (some .int), 0),
  (7, yX9_fault, cX9_fault, 2, (some .int), 1),
  (7, yX9_carpet, cX9_carpet, 1, (some .int), 0),
  (7, yX9_treaty, cX9_treaty, 1, (some .int), 0),
  (7, yX9_cell, cX9_cell, 3, (some .int), 2)]
def mT2 : List Mr := [(7, yX9_soldier, cX9_soldier, 4, (some .int), 3),
  (7, yX9_about, cX9_about, 4, (some .int), 2),
  (7, yX9_as, cX9_as, 3, (some .int), 2),
  (7, yX9_move, cX9_move, 5, (some .int), 2),
  (7, yX9_tenths, cX9_tenths, 3, (some .int), 2),
  (7, yX9_shoot, cX9_shoot, 4, (some .int), 3),
  (7, yX9_dinner, cX9_dinner, 1, (some .int), 0),
  (7, yX9_watch, cX9_watch, 3, (some .int), 1),
  (7, yX9_best, cX9_best, 4, (some .int), 3),
  (7, yX9_tally, cX9_tally, 2, (some .int), 1),
  (7, yX9_forget, cX9_forget, 2, (some .int), 0),
  (7, yX9_fits, cX9_fits, 1, (some .int), 0),
  (7, yX9_last, cX9_last, 2, (some .int), 1),
  (7, yX9_afternoons, cX9_afternoons, 4, (some .int), 3),
  (7, yX9_image, cX9_image, 1, (some .int), 0),
  (7, yX9_restore, cX9_restore, 1, (some .int), 0),
  (7, yX9_count, cX9_count, 2, (some .int), 1),
  (7, yX9_digest, cX9_digest, 4, (some .long), 0),
  (7, yX9_digestOfCarpet, cX9_digestOfCarpet, 7, (some .long), 1),
  (7, yX9_digestOfSoldiers, cX9_digestOfSoldiers, 7, (some .long), 1),
  (7, yX9_isKind, cX9_isKind, 1, (some .boolean), 1),
  (7, yX9_isSide, cX9_isSide, 1, (some .boolean), 1),
  (8, yX10_init, cX10_init, 1, none, 0),
  (8, yX10_within, cX10_within, 3, (some .boolean), 3),
  (8, yX10_has, cX10_has, 2, (some .boolean), 2),
  (8, yX10_size, cX10_size, 3, (some .int), 1),
  (8, yX10_lowest, cX10_lowest, 6, (some .int), 3),
  (8, yX10_letter, cX10_letter, 2, (some .int), 1),
  (8, yX10_blank, cX10_blank, 2, (some .int), 0),
  (8, yX10_isGood, cX10_isGood, 3, (some .boolean), 1),
  (8, yX10_faultOfCarpet, cX10_faultOfCarpet, 2, (some .int), 0),
  (8, yX10_articleBy, cX10_articleBy, 1, (some .int), 1),
  (8, yX10_faultOfTreaty, cX10_faultOfTreaty, 3, (some .int), 0),
  (8, yX10_fault, cX10_fault, 2, (some .int), 1),
  (8, yX10_carpet, cX10_carpet, 2, (some .int), 0),
  (8, yX10_treaty, cX10_treaty, 1, (some .int), 0),
  (8, yX10_isCell, cX10_isCell, 2, (some .boolean), 1),
  (8, yX10_rowOf, cX10_rowOf, 1, (some .int), 1),
  (8, yX10_columnOf, cX10_columnOf, 1, (some .int), 1),
  (8, yX10_sign, cX10_sign, 1, (some .int), 1)]
def mT3 : List Mr := [(8, yX10_plain, cX10_plain, 1, (some .int), 1),
  (8, yX10_distance, cX10_distance, 4, (some .int), 2),
  (8, yX10_onWay, cX10_onWay, 5, (some .int), 3),
  (8, yX10_whoIsOn, cX10_whoIsOn, 4, (some .int), 1),
  (8, yX10_seesFrom, cX10_seesFrom, 6, (some .boolean), 2),
  (8, yX10_seenFrom, cX10_seenFrom, 4, (some .int), 1),
  (8, yX10_cellNow, cX10_cellNow, 3, (some .int), 2),
  (8, yX10_cell, cX10_cell, 3, (some .int), 2),
  (8, yX10_isSoldier, cX10_isSoldier, 2, (some .boolean), 1),
  (8, yX10_soldier, cX10_soldier, 5, (some .int), 3),
  (8, yX10_isBlocked, cX10_isBlocked, 8, (some .boolean), 2),
  (8, yX10_isCoveredBy, cX10_isCoveredBy, 5, (some .boolean), 1),
  (8, yX10_tenthsOf, cX10_tenthsOf, 7, (some .int), 2),
  (8, yX10_targets, cX10_targets, 4, (some .int), 1),
  (8, yX10_soldierNow, cX10_soldierNow, 3, (some .int), 2),
  (8, yX10_about, cX10_about, 3, (some .int), 2),
  (8, yX10_as, cX10_as, 4, (some .int), 2),
  (8, yX10_move, cX10_move, 4, (some .int), 2),
  (8, yX10_tenths, cX10_tenths, 3, (some .int), 2),
  (8, yX10_hit, cX10_hit, 3, (some .int), 1),
  (8, yX10_behind, cX10_behind, 6, (some .int), 2),
  (8, yX10_takePea, cX10_takePea, 2, none, 1),
  (8, yX10_hitOn, cX10_hitOn, 5, (some .int), 2),
  (8, yX10_isForbidden, cX10_isForbidden, 6, (some .boolean), 2),
  (8, yX10_shoot, cX10_shoot, 4, (some .int), 3),
  (8, yX10_dinner, cX10_dinner, 2, (some .int), 0),
  (8, yX10_watchNow, cX10_watchNow, 7, (some .int), 1),
  (8, yX10_watch, cX10_watch, 3, (some .int), 1),
  (8, yX10_save, cX10_save, 2, none, 1),
  (8, yX10_load, cX10_load, 2, none, 1),
  (8, yX10_ahead, cX10_ahead, 3, (some .int), 0),
  (8, yX10_isTurnOf, cX10_isTurnOf, 3, (some .boolean), 2),
  (8, yX10_better, cX10_better, 4, (some .int), 3),
  (8, yX10_shootThen, cX10_shootThen, 4, none, 3),
  (8, yX10_lastShot, cX10_lastShot, 8, (some .int), 1),
  (8, yX10_middleShot, cX10_middleShot, 9, (some .int), 1),
  (8, yX10_restOf, cX10_restOf, 2, (some .int), 1),
  (8, yX10_layBest, cX10_layBest, 11, (some .int), 2),
  (8, yX10_best, cX10_best, 6, (some .int), 3),
  (8, yX10_tally, cX10_tally, 2, (some .int), 1)]
def mT4 : List Mr := [(8, yX10_forget, cX10_forget, 2, (some .int), 0),
  (8, yX10_spies, cX10_spies, 3, (some .int), 0),
  (8, yX10_countBy, cX10_countBy, 3, (some .int), 1),
  (8, yX10_goNight, cX10_goNight, 5, none, 1),
  (8, yX10_layWays, cX10_layWays, 4, (some .int), 0),
  (8, yX10_fitsNow, cX10_fitsNow, 1, (some .int), 0),
  (8, yX10_fits, cX10_fits, 1, (some .int), 0),
  (8, yX10_lastOf, cX10_lastOf, 4, (some .int), 1),
  (8, yX10_last, cX10_last, 2, (some .int), 1),
  (8, yX10_draw, cX10_draw, 2, (some .int), 1),
  (8, yX10_afternoonsNow, cX10_afternoonsNow, 10, (some .int), 3),
  (8, yX10_afternoons, cX10_afternoons, 4, (some .int), 3),
  (8, yX10_image, cX10_image, 2, (some .int), 0),
  (8, yX10_restore, cX10_restore, 2, (some .int), 0),
  (8, yX10_howMany, cX10_howMany, 2, (some .int), 1),
  (8, yX10_count, cX10_count, 2, (some .int), 1),
  (8, yX10_mix, cX10_mix, 3, none, 1),
  (8, yX10_digest, cX10_digest, 3, (some .long), 0),
  (12, yJ6_bitCount_0f7a4, cJ6_bitCount_0f7a4, 1, (some .int), 1),
  (13, yJ9_abs_0f7a4, cJ9_abs_0f7a4, 1, (some .int), 1),
  (13, yJ9_max_7cf53, cJ9_max_7cf53, 2, (some .int), 2),
  (13, yJ9_min_7cf53, cJ9_min_7cf53, 2, (some .int), 2),
  (14, yJ0_length_8abf5, cJ0_length_8abf5, 1, (some .int), 0),
  (14, yJ0_indexOf_0f7a4, cJ0_indexOf_0f7a4, 2, (some .int), 1),
  (14, yJ0_indexOf_7cf53, cJ0_indexOf_7cf53, 3, (some .int), 2),
  (14, yJ0_coder_7d493, cJ0_coder_7d493, 1, (some .byte), 0),
  (14, yJ0_isLatin1_aae02, cJ0_isLatin1_aae02, 1, (some .boolean), 0),
  (15, yJ1_canEncode_9a6ad, cJ1_canEncode_9a6ad, 1, (some .boolean), 1),
  (15, yJ1_indexOf_4cfef, cJ1_indexOf_4cfef, 4, (some .int), 4),
  (15, yJ1_indexOfChar_4cfef, cJ1_indexOfChar_4cfef, 6, (some .int), 4),
  (11, yL_law, cL_law, 4, (some .boolean), 1)]
def mT : List Mr := mT0 ++ mT1 ++ mT2 ++ mT3 ++ mT4
def mM (n : Nat) : Mr := mT.getD n (11, yL_law, cL_law, 4, (some .boolean), 1)
def mO (n : Nat) : Nat := (mM n).1
def mY (n : Nat) : MethodName := (mM n).2.1
def mC (n : Nat) : ByteArray := (mM n).2.2.1
def mL (n : Nat) : Nat := (mM n).2.2.2.1
def mR (n : Nat) : Option FieldType := (mM n).2.2.2.2.1
def mA (n : Nat) : Nat := (mM n).2.2.2.2.2
def TT : Nat → u_T := fun c => match c with
  | 0 => TX0
  | 1 => TX1
  | 2 => TX4
  | 3 => TX5
  | 4 => TX6
  | 5 => TX7
  | 6 => TX8
  | 7 => TX9
  | _ => TX10
def tyT : Nat → Nat → FieldType := fun c => match c with
  | 0 => tyX0
  | 1 => tyX1
  | 2 => tyX4
  | 3 => tyX5
  | 4 => tyX6
  | 5 => tyX7
  | 6 => tyX8
  | 7 => tyX9
  | _ => tyX10
def nF : Nat → Nat := fun c => match c with
  | 0 => 5
  | 1 => 7
  | 2 => 4
  | 3 => 2
  | 4 => 5
  | 5 => 3
  | 6 => 8
  | 7 => 11
  | _ => 41
theorem vw_at : ∀ c, c < 9 → vwCl[c]? = some (oS c, TT c, nF c) := by
  intro c hc
  rcases (show c = 0 ∨ c = 1 ∨ c = 2 ∨ c = 3 ∨ c = 4 ∨ c = 5 ∨ c = 6 ∨ c = 7 ∨ c = 8 by omega) with rfl | rfl | rfl | rfl | rfl | rfl | rfl | rfl | rfl <;> rfl
theorem nm_at : ∀ c, c < 9 → ∀ a, a < nF c → ∀ b, b < nF c → a ≠ b → (TT c a).2.1 ≠ (TT c b).2.1 := by
  intro c hc
  rcases (show c = 0 ∨ c = 1 ∨ c = 2 ∨ c = 3 ∨ c = 4 ∨ c = 5 ∨ c = 6 ∨ c = 7 ∨ c = 8 by omega) with rfl | rfl | rfl | rfl | rfl | rfl | rfl | rfl | rfl
  · exact nmX0
  · exact nmX1
  · exact nmX4
  · exact nmX5
  · exact nmX6
  · exact nmX7
  · exact nmX8
  · exact nmX9
  · exact nmX10
theorem ty_at : ∀ c, c < 9 → ∀ k, k < nF c → parseFieldDescriptor (TT c k).2.2.1 = some (tyT c k) := by
  intro c hc
  rcases (show c = 0 ∨ c = 1 ∨ c = 2 ∨ c = 3 ∨ c = 4 ∨ c = 5 ∨ c = 6 ∨ c = 7 ∨ c = 8 by omega) with rfl | rfl | rfl | rfl | rfl | rfl | rfl | rfl | rfl
  · exact tyX0_ok
  · exact tyX1_ok
  · exact tyX4_ok
  · exact tyX5_ok
  · exact tyX6_ok
  · exact tyX7_ok
  · exact tyX8_ok
  · exact tyX9_ok
  · exact tyX10_ok
theorem uw0 : ∀ w ∈ u_ws (oS 0) (TT 0) (nF 0), w ∈ lwG := by
  have h : u_ws (oS 0) (TT 0) (nF 0) = ([118, 120, 122, 124, 126] : List Nat).filterMap (fun i => lw_tbl[i]?) := by decide +kernel
  have g : (u_ws (oS 0) (TT 0) (nF 0)).all goodWord = true := by decide +kernel
  intro w hw
  have g1 := List.all_eq_true.mp g w hw
  rw [h] at hw
  obtain ⟨i, -, hi⟩ := List.mem_filterMap.mp hw
  exact lwG_at hi g1
theorem uw1 : ∀ w ∈ u_ws (oS 1) (TT 1) (nF 1), w ∈ lwG := by
  have h : u_ws (oS 1) (TT 1) (nF 1) = ([198, 200, 202, 204, 206, 208, 210] : List Nat).filterMap (fun i => lw_tbl[i]?) := by decide +kernel
  have g : (u_ws (oS 1) (TT 1) (nF 1)).all goodWord = true := by decide +kernel
  intro w hw
  have g1 := List.all_eq_true.mp g w hw
  rw [h] at hw
  obtain ⟨i, -, hi⟩ := List.mem_filterMap.mp hw
  exact lwG_at hi g1
theorem uw2 : ∀ w ∈ u_ws (oS 2) (TT 2) (nF 2), w ∈ lwG := by
  have h : u_ws (oS 2) (TT 2) (nF 2) = ([223, 225, 227, 229] : List Nat).filterMap (fun i => lw_tbl[i]?) := by decide +kernel
  have g : (u_ws (oS 2) (TT 2) (nF 2)).all goodWord = true := by decide +kernel
  intro w hw
  have g1 := List.all_eq_true.mp g w hw
  rw [h] at hw
  obtain ⟨i, -, hi⟩ := List.mem_filterMap.mp hw
  exact lwG_at hi g1
theorem uw3 : ∀ w ∈ u_ws (oS 3) (TT 3) (nF 3), w ∈ lwG := by
  have h : u_ws (oS 3) (TT 3) (nF 3) = ([100, 102] : List Nat).filterMap (fun i => lw_tbl[i]?) := by decide +kernel
  have g : (u_ws (oS 3) (TT 3) (nF 3)).all goodWord = true := by decide +kernel
  intro w hw
  have g1 := List.all_eq_true.mp g w hw
  rw [h] at hw
  obtain ⟨i, -, hi⟩ := List.mem_filterMap.mp hw
  exact lwG_at hi g1
theorem uw4 : ∀ w ∈ u_ws (oS 4) (TT 4) (nF 4), w ∈ lwG := by
  have h : u_ws (oS 4) (TT 4) (nF 4) = ([249, 251, 253, 255, 257] : List Nat).filterMap (fun i => lw_tbl[i]?) := by decide +kernel
  have g : (u_ws (oS 4) (TT 4) (nF 4)).all goodWord = true := by decide +kernel
  intro w hw
  have g1 := List.all_eq_true.mp g w hw
  rw [h] at hw
  obtain ⟨i, -, hi⟩ := List.mem_filterMap.mp hw
  exact lwG_at hi g1
theorem uw5 : ∀ w ∈ u_ws (oS 5) (TT 5) (nF 5), w ∈ lwG := by
  have h : u_ws (oS 5) (TT 5) (nF 5) = ([274, 276, 278] : List Nat).filterMap (fun i => lw_tbl[i]?) := by decide +kernel
  have g : (u_ws (oS 5) (TT 5) (nF 5)).all goodWord = true := by decide +kernel
  intro w hw
  have g1 := List.all_eq_true.mp g w hw
  rw [h] at hw
  obtain ⟨i, -, hi⟩ := List.mem_filterMap.mp hw
  exact lwG_at hi g1
theorem uw6 : ∀ w ∈ u_ws (oS 6) (TT 6) (nF 6), w ∈ lwG := by
  have h : u_ws (oS 6) (TT 6) (nF 6) = ([165, 167, 169, 171, 173, 175, 177, 179] : List Nat).filterMap (fun i => lw_tbl[i]?) := by decide +kernel
  have g : (u_ws (oS 6) (TT 6) (nF 6)).all goodWord = true := by decide +kernel
  intro w hw
  have g1 := List.all_eq_true.mp g w hw
  rw [h] at hw
  obtain ⟨i, -, hi⟩ := List.mem_filterMap.mp hw
  exact lwG_at hi g1
theorem uw7 : ∀ w ∈ u_ws (oS 7) (TT 7) (nF 7), w ∈ lwG := by
  have h : u_ws (oS 7) (TT 7) (nF 7) = ([292, 294, 296, 298, 300, 302, 304, 306, 308, 310, 312] : List Nat).filterMap (fun i => lw_tbl[i]?) := by decide +kernel
  have g : (u_ws (oS 7) (TT 7) (nF 7)).all goodWord = true := by decide +kernel
  intro w hw
  have g1 := List.all_eq_true.mp g w hw
  rw [h] at hw
  obtain ⟨i, -, hi⟩ := List.mem_filterMap.mp hw
  exact lwG_at hi g1
theorem uw8 : ∀ w ∈ u_ws (oS 8) (TT 8) (nF 8), w ∈ lwG := by
  have h : u_ws (oS 8) (TT 8) (nF 8) = ([886, 888, 890, 892, 894, 896, 898, 900, 902, 904, 906, 908, 910, 912, 914, 916, 918, 920, 922, 924, 926, 928, 930, 932, 934, 936, 938, 940, 942, 944, 946, 948, 950, 952, 954, 956, 958, 960, 962, 964, 966] : List Nat).filterMap (fun i => lw_tbl[i]?) := by decide +kernel
  have g : (u_ws (oS 8) (TT 8) (nF 8)).all goodWord = true := by decide +kernel
  intro w hw
  have g1 := List.all_eq_true.mp g w hw
  rw [h] at hw
  obtain ⟨i, -, hi⟩ := List.mem_filterMap.mp hw
  exact lwG_at hi g1
theorem uw_at : ∀ c, c < 9 → ∀ w ∈ u_ws (oS c) (TT c) (nF c), w ∈ lwG := by
  intro c hc
  rcases (show c = 0 ∨ c = 1 ∨ c = 2 ∨ c = 3 ∨ c = 4 ∨ c = 5 ∨ c = 6 ∨ c = 7 ∨ c = 8 by omega) with rfl | rfl | rfl | rfl | rfl | rfl | rfl | rfl | rfl
  · exact uw0
  · exact uw1
  · exact uw2
  · exact uw3
  · exact uw4
  · exact uw5
  · exact uw6
  · exact uw7
  · exact uw8
def fT : List (Nat × Nat × Nat × Nat × Nat) := [(3, 9, 3, 0, 93), (0, 38, 3, 0, 94), (1, 55, 3, 0, 95), (7, 269, 3, 0, 96), (3, 15, 3, 1, 97), (7, 70, 3, 1, 98), (1, 48, 3, 1, 99), (0, 9, 0, 0, 112), (7, 105, 0, 0, 113), (0, 15, 0, 1, 114), (0, 19, 0, 2, 115), (0, 22, 0, 3, 116), (0, 26, 0, 4, 117), (6, 35, 6, 0, 142), (6, 9, 6, 1, 143), (2, 31, 6, 1, 144), (5, 31, 6, 1, 145), (7, 139, 6, 1, 146), (6, 15, 6, 2, 147), (7, 147, 6, 2, 148), (6, 19, 6, 3, 149), (2, 50, 6, 3, 150), (4, 57, 6, 3, 151), (1, 69, 6, 3, 152), (7, 151, 6, 3, 153), (6, 22, 6, 4, 154), (1, 76, 6, 4, 155), (7, 154, 6, 4, 156), (6, 25, 6, 5, 157), (7, 161, 6, 5, 158), (6, 28, 6, 6, 159), (2, 46, 6, 6, 160), (7, 157, 6, 6, 161), (6, 32, 6, 7, 162), (4, 68, 6, 7, 163), (7, 237, 6, 7, 164), (1, 36, 1, 0, 183), (2, 25, 1, 0, 184), (7, 118, 1, 0, 185), (1, 9, 1, 1, 186), (7, 246, 1, 1, 187), (1, 15, 1, 2, 188), (1, 18, 1, 3, 189), (7, 252, 1, 3, 190), (1, 21, 1, 4, 191), (7, 255, 1, 4, 192), (1, 24, 1, 5, 193), (2, 53, 1, 5, 194), (7, 213, 1, 5, 195), (1, 27, 1, 6, 196), (2, 59, 1, 6, 197), (2, 11, 2, 0, 219), (2, 15, 2, 1, 220), (2, 18, 2, 2, 221), (2, 22, 2, 3, 222), (4, 11, 4, 0, 241), (4, 17, 4, 1, 242), (4, 21, 4, 2, 243), (7, 204, 4, 2, 244), (4, 24, 4, 3, 245), (7, 207, 4, 3, 246), (4, 27, 4, 4, 247), (7, 210, 4, 4, 248), (5, 23, 5, 0, 268), (7, 236, 5, 0, 269), (5, 9, 5, 1, 270), (7, 240, 5, 1, 271), (5, 15, 5, 2, 272), (7, 233, 5, 2, 273), (7, 12, 7, 0, 281), (7, 19, 7, 1, 282), (7, 28, 7, 2, 283), (7, 32, 7, 3, 284), (7, 38, 7, 4, 285), (7, 45, 7, 5, 286), (7, 52, 7, 6, 287), (7, 56, 7, 7, 288), (7, 60, 7, 8, 289), (7, 64, 7, 9, 290), (7, 67, 7, 10, 291), (8, 89, 8, 0, 845), (8, 93, 8, 1, 846), (8, 80, 8, 2, 847), (8, 96, 8, 3, 848), (8, 7, 8, 4, 849), (8, 13, 8, 5, 850), (8, 99, 8, 6, 851), (8, 102, 8, 7, 852), (8, 105, 8, 8, 853), (8, 83, 8, 9, 854), (8, 86, 8, 10, 855), (8, 108, 8, 11, 856), (8, 16, 8, 12, 857), (8, 111, 8, 13, 858), (8, 20, 8, 14, 859), (8, 114, 8, 15, 860), (8, 23, 8, 16, 861), (8, 190, 8, 17, 862), (8, 230, 8, 18, 863), (8, 55, 8, 19, 864), (8, 26, 8, 20, 865), (8, 62, 8, 21, 866), (8, 30, 8, 22, 867), (8, 33, 8, 23, 868), (8, 196, 8, 24, 869), (8, 224, 8, 25, 870), (8, 36, 8, 26, 871), (8, 39, 8, 27, 872), (8, 259, 8, 28, 873), (8, 275, 8, 29, 874), (8, 278, 8, 30, 875), (8, 281, 8, 31, 876), (8, 284, 8, 32, 877), (8, 287, 8, 33, 878), (8, 290, 8, 34, 879), (8, 293, 8, 35, 880), (8, 296, 8, 36, 881), (8, 42, 8, 37, 882), (8, 45, 8, 38, 883), (8, 48, 8, 39, 884), (8, 304, 8, 40, 885)]
theorem fT_ok : ∀ t ∈ fT, (lw_tbl[t.2.2.2.2]? = some (Cond.fieldLink (oS t.1) t.2.1 (TT t.2.2.1 t.2.2.2.1).1 (TT t.2.2.1 t.2.2.2.1).2.1 (TT t.2.2.1 t.2.2.2.1).2.2.1)) ∧ t.2.2.1 < 9 ∧ t.2.2.2.1 < nF t.2.2.1 := by decide +kernel
def kfN : Nat → String := fun k => ["hitsToFall", "lossByStep"].getD k ""
def kT : List (Nat × Nat × Nat × Nat) := [(6, 81, 1, 1266), (6, 118, 0, 1267)]
theorem kT_ok : ∀ t ∈ kT, (lw_tbl[t.2.2.2]? = some (Cond.fieldLink (oS t.1) t.2.1 "TinSoldiers$Kind" (kfN t.2.2.1) "I")) ∧ t.2.2.1 < 2 := by decide +kernel
def keN : Nat → String := fun k => ["SOLDIER", "OFFICER", "SPY", "GUNNER", "BENT"].getD k ""
def gT : List (Nat × Nat × Nat × Nat) := [(6, 50, 0, 589), (10, 3, 0, 606), (10, 16, 4, 607), (10, 7, 1, 609), (1, 87, 1, 637), (1, 106, 3, 649), (6, 115, 2, 661), (6, 105, 4, 663), (2, 40, 2, 755)]
theorem gT_ok : ∀ t ∈ gT, (lw_tbl[t.2.2.2]? = some (Cond.fieldLink (oS t.1) t.2.1 "TinSoldiers$Kind" (keN t.2.2.1) "LTinSoldiers$Kind;")) ∧ t.2.2.1 < 5 := by decide +kernel
def cT : List (Nat × Nat × Int × Nat) := [(12, 265, 1431655765, 504), (12, 266, 858993459, 505), (12, 267, 252645135, 506), (0, 73, 32768, 693), (8, 189, 32768, 1135)]
theorem cT_ok : ∀ t ∈ cT, lw_tbl[t.2.2.2]? = some (Cond.constant (oS t.1) t.2.1 (Int32.ofInt t.2.2.1)) := by decide +kernel
def lT : List (Nat × Nat × Int × Nat) := [(5, 46, 1103515245, 797), (5, 48, 12345, 798), (5, 50, 2147483647, 799), (7, 258, 839, 824), (7, 267, 31, 829), (8, 257, 1103515245, 1234), (8, 263, 12345, 1235), (8, 265, 2147483647, 1236), (8, 267, 65536, 1237), (8, 307, 839, 1258), (8, 302, 31, 1263)]
theorem lT_ok : ∀ t ∈ lT, lw_tbl[t.2.2.2]? = some (Cond.constantLong (oS t.1) t.2.1 (Int64.ofInt t.2.2.1)) := by decide +kernel
def mcode (n : Nat) : Cond := Cond.code (mY n) (mC n) (mL n) (mR n)
def plainY (n : Nat) : Bool := decide ((mY n).cls ≠ "java/lang/invoke/MethodHandle") && decide ((mY n).cls ≠ "java/lang/invoke/VarHandle") && decide ((parseMethodDescriptor (mY n).desc).map (fun d => d.parameters.length) = some (mA n)) && plainName (mY n).cls && decide ((mY n).cls = oS (mO n)) && decide (mL n ≤ 40)
def vOk (t : Nat × Nat × Nat × Nat × Nat) : Prop := plainY t.1 = true ∧ lw_tbl[t.2.1]? = some (mcode t.1) ∧ lw_tbl[t.2.2.1]? = some (Cond.initialized (mY t.1).cls) ∧ lw_tbl[t.2.2.2.1]? = some (Cond.instanceMethod (mY t.1)) ∧ lw_tbl[t.2.2.2.2]? = some (Cond.selects (mY t.1).cls (mY t.1) (mY t.1))
def sOk (t : Nat × Nat × Nat × Nat) : Prop := plainY t.1 = true ∧ lw_tbl[t.2.1]? = some (mcode t.1) ∧ lw_tbl[t.2.2.1]? = some (Cond.initialized (mY t.1).cls) ∧ lw_tbl[t.2.2.2]? = some (Cond.static (mY t.1))
def vT0 : List (Nat × Nat × Nat × Nat × Nat) := [(1, 447, 62, 445, 446), (2, 528, 62, 526, 527), (3, 457, 62, 455, 456), (4, 500, 62, 498, 499), (5, 537, 62, 535, 536), (6, 477, 62, 475, 476), (7, 595, 62, 593, 594), (8, 688, 62, 686, 687)]
theorem vT0_ok : ∀ t ∈ vT0, vOk t := by unfold vOk; decide +kernel
def vT1 : List (Nat × Nat × Nat × Nat × Nat) := [(9, 481, 62, 480, 3), (10, 461, 62, 460, 2), (11, 692, 62, 691, 9), (12, 697, 62, 696, 10), (14, 492, 63, 490, 491), (15, 809, 63, 807, 808), (16, 518, 63, 516, 517), (17, 627, 63, 625, 626)]
theorem vT1_ok : ∀ t ∈ vT1, vOk t := by unfold vOk; decide +kernel
def vT2 : List (Nat × Nat × Nat × Nat × Nat) := [(18, 741, 63, 739, 740), (19, 631, 63, 630, 5), (20, 635, 63, 634, 6), (30, 605, 78, 603, 604), (32, 753, 65, 751, 752), (33, 772, 65, 770, 771), (34, 780, 65, 778, 779), (35, 759, 65, 758, 14)]
theorem vT2_ok : ∀ t ∈ vT2, vOk t := by unfold vOk; decide +kernel
def vT3 : List (Nat × Nat × Nat × Nat × Nat) := [(36, 763, 65, 762, 15), (37, 768, 65, 767, 16), (40, 322, 61, 320, 321), (41, 330, 61, 328, 329), (42, 488, 61, 486, 487), (43, 442, 61, 440, 441), (44, 514, 61, 512, 513), (45, 338, 61, 336, 337)]
theorem vT3_ok : ∀ t ∈ vT3, vOk t := by unfold vOk; decide +kernel
def vT4 : List (Nat × Nat × Nat × Nat × Nat) := [(46, 342, 61, 341, 0), (47, 346, 61, 345, 1), (49, 706, 66, 704, 705), (50, 710, 66, 709, 11), (51, 718, 66, 717, 12), (52, 728, 66, 727, 13), (55, 791, 67, 789, 790), (56, 796, 67, 795, 17)]
theorem vT4_ok : ∀ t ∈ vT4, vOk t := by unfold vOk; decide +kernel
def vT5 : List (Nat × Nat × Nat × Nat × Nat) := [(58, 496, 64, 494, 495), (59, 722, 64, 720, 721), (60, 567, 64, 565, 566), (61, 586, 64, 584, 585), (62, 533, 64, 531, 532), (63, 553, 64, 551, 552), (64, 559, 64, 557, 558), (65, 714, 64, 712, 713)]
theorem vT5_ok : ∀ t ∈ vT5, vOk t := by unfold vOk; decide +kernel
def vT6 : List (Nat × Nat × Nat × Nat × Nat) := [(66, 571, 64, 569, 570), (67, 575, 64, 573, 574), (68, 654, 64, 652, 653), (69, 680, 64, 678, 679), (70, 581, 64, 580, 4), (71, 660, 64, 659, 7), (72, 667, 64, 666, 8), (74, 318, 60, 316, 317)]
theorem vT6_ok : ∀ t ∈ vT6, vOk t := by unfold vOk; decide +kernel
def vT7 : List (Nat × Nat × Nat × Nat × Nat) := [(75, 326, 60, 324, 325), (76, 334, 60, 332, 333), (77, 438, 60, 436, 437), (78, 510, 60, 508, 509), (79, 524, 60, 522, 523), (80, 541, 60, 539, 540), (81, 563, 60, 561, 562), (82, 600, 60, 598, 599)]
theorem vT7_ok : ∀ t ∈ vT7, vOk t := by unfold vOk; decide +kernel
def vT8 : List (Nat × Nat × Nat × Nat × Nat) := [(83, 614, 60, 612, 613), (84, 618, 60, 616, 617), (85, 623, 60, 621, 622), (86, 676, 60, 674, 675), (87, 684, 60, 682, 683), (88, 702, 60, 700, 701), (89, 737, 60, 735, 736), (90, 745, 60, 743, 744)]
theorem vT8_ok : ∀ t ∈ vT8, vOk t := by unfold vOk; decide +kernel
def vT9 : List (Nat × Nat × Nat × Nat × Nat) := [(91, 749, 60, 747, 748), (92, 776, 60, 774, 775), (93, 787, 60, 785, 786), (94, 805, 60, 803, 804), (95, 814, 60, 812, 813), (96, 818, 60, 816, 817), (97, 823, 60, 821, 822), (98, 828, 60, 827, 18)]
theorem vT9_ok : ∀ t ∈ vT9, vOk t := by unfold vOk; decide +kernel
def vT10 : List (Nat × Nat × Nat × Nat × Nat) := [(99, 835, 60, 834, 19), (107, 972, 68, 970, 971), (108, 979, 68, 977, 978), (109, 991, 68, 990, 21), (110, 987, 68, 986, 20), (112, 995, 68, 994, 22), (113, 983, 68, 981, 982), (114, 1005, 68, 1003, 1004)]
theorem vT10_ok : ∀ t ∈ vT10, vOk t := by unfold vOk; decide +kernel
def vT11 : List (Nat × Nat × Nat × Nat × Nat) := [(115, 1012, 68, 1010, 1011), (116, 1020, 68, 1019, 23), (123, 1028, 68, 1027, 25), (124, 1036, 68, 1035, 27), (125, 1032, 68, 1031, 26), (126, 1024, 68, 1023, 24), (127, 1016, 68, 1014, 1015), (128, 1066, 68, 1065, 28)]
theorem vT11_ok : ∀ t ∈ vT11, vOk t := by unfold vOk; decide +kernel
def vT12 : List (Nat × Nat × Nat × Nat × Nat) := [(129, 1058, 68, 1056, 1057), (130, 1082, 68, 1081, 32), (131, 1086, 68, 1085, 33), (132, 1078, 68, 1077, 31), (133, 1074, 68, 1073, 30), (134, 1070, 68, 1069, 29), (135, 1062, 68, 1060, 1061), (136, 1090, 68, 1088, 1089)]
theorem vT12_ok : ∀ t ∈ vT12, vOk t := by unfold vOk; decide +kernel
def vT13 : List (Nat × Nat × Nat × Nat × Nat) := [(137, 1094, 68, 1092, 1093), (138, 1098, 68, 1096, 1097), (139, 1118, 68, 1117, 37), (140, 1122, 68, 1121, 38), (141, 1110, 68, 1109, 35), (142, 1114, 68, 1113, 36), (143, 1106, 68, 1105, 34), (144, 1102, 68, 1100, 1101)]
theorem vT13_ok : ∀ t ∈ vT13, vOk t := by unfold vOk; decide +kernel
def vT14 : List (Nat × Nat × Nat × Nat × Nat) := [(145, 1126, 68, 1124, 1125), (146, 1134, 68, 1133, 39), (147, 1130, 68, 1128, 1129), (148, 1147, 68, 1146, 41), (149, 1171, 68, 1170, 47), (150, 1155, 68, 1154, 43), (151, 1163, 68, 1162, 45), (153, 1167, 68, 1166, 46)]
theorem vT14_ok : ∀ t ∈ vT14, vOk t := by unfold vOk; decide +kernel
def vT15 : List (Nat × Nat × Nat × Nat × Nat) := [(154, 1159, 68, 1158, 44), (155, 1178, 68, 1177, 48), (156, 1151, 68, 1150, 42), (157, 1143, 68, 1142, 40), (158, 1139, 68, 1137, 1138), (159, 1185, 68, 1183, 1184), (160, 1189, 68, 1187, 1188), (161, 1205, 68, 1204, 51)]
theorem vT15_ok : ∀ t ∈ vT15, vOk t := by unfold vOk; decide +kernel
def vT16 : List (Nat × Nat × Nat × Nat × Nat) := [(162, 1209, 68, 1208, 52), (163, 1213, 68, 1212, 53), (164, 1201, 68, 1200, 50), (165, 1197, 68, 1196, 49), (166, 1193, 68, 1191, 1192), (167, 1221, 68, 1220, 54), (168, 1217, 68, 1215, 1216), (169, 1233, 68, 1232, 56)]
theorem vT16_ok : ∀ t ∈ vT16, vOk t := by unfold vOk; decide +kernel
def vT17 : List (Nat × Nat × Nat × Nat × Nat) := [(170, 1229, 68, 1228, 55), (171, 1225, 68, 1223, 1224), (172, 1241, 68, 1239, 1240), (173, 1245, 68, 1243, 1244), (174, 1253, 68, 1252, 57), (175, 1249, 68, 1247, 1248), (176, 1262, 68, 1261, 58), (177, 1257, 68, 1255, 1256)]
theorem vT17_ok : ∀ t ∈ vT17, vOk t := by unfold vOk; decide +kernel
def vT18 : List (Nat × Nat × Nat × Nat × Nat) := [(182, 365, 69, 363, 364), (183, 351, 69, 349, 350), (184, 355, 69, 353, 354), (185, 369, 69, 367, 368), (186, 359, 69, 357, 358)]
theorem vT18_ok : ∀ t ∈ vT18, vOk t := by unfold vOk; decide +kernel
def vT : List (Nat × Nat × Nat × Nat × Nat) := vT0 ++ (vT1 ++ (vT2 ++ (vT3 ++ (vT4 ++ (vT5 ++ (vT6 ++ (vT7 ++ (vT8 ++ (vT9 ++ (vT10 ++ (vT11 ++ (vT12 ++ (vT13 ++ (vT14 ++ (vT15 ++ (vT16 ++ (vT17 ++ (vT18))))))))))))))))))
theorem vT_ok : ∀ t ∈ vT, vOk t := List.forall_mem_append.mpr ⟨vT0_ok, List.forall_mem_append.mpr ⟨vT1_ok, List.forall_mem_append.mpr ⟨vT2_ok, List.forall_mem_append.mpr ⟨vT3_ok, List.forall_mem_append.mpr ⟨vT4_ok, List.forall_mem_append.mpr ⟨vT5_ok, List.forall_mem_append.mpr ⟨vT6_ok, List.forall_mem_append.mpr ⟨vT7_ok, List.forall_mem_append.mpr ⟨vT8_ok, List.forall_mem_append.mpr ⟨vT9_ok, List.forall_mem_append.mpr ⟨vT10_ok, List.forall_mem_append.mpr ⟨vT11_ok, List.forall_mem_append.mpr ⟨vT12_ok, List.forall_mem_append.mpr ⟨vT13_ok, List.forall_mem_append.mpr ⟨vT14_ok, List.forall_mem_append.mpr ⟨vT15_ok, List.forall_mem_append.mpr ⟨vT16_ok, List.forall_mem_append.mpr ⟨vT17_ok, vT18_ok⟩⟩⟩⟩⟩⟩⟩⟩⟩⟩⟩⟩⟩⟩⟩⟩⟩⟩
def nT : List (Nat × Nat × Nat × Nat) := [(11, 13, 74, 315), (7, 73, 40, 319), (11, 18, 75, 323), (7, 77, 41, 327), (11, 23, 76, 331), (7, 81, 45, 335), (3, 23, 46, 339), (3, 27, 47, 343), (3, 32, 183, 348), (14, 633, 184, 352), (14, 492, 186, 356), (14, 505, 182, 362), (14, 335, 185, 366), (14, 637, 188, 370), (15, 88, 187, 373), (15, 92, 180, 376), (15, 38, 181, 379), (15, 95, 189, 382), (11, 27, 77, 435), (7, 84, 43, 439), (3, 19, 45, 443), (7, 88, 1, 444), (0, 29, 21, 448), (0, 35, 22, 451), (0, 44, 3, 454), (0, 48, 10, 458), (0, 67, 28, 462), (9, 9, 21, 465), (9, 18, 22, 466), (9, 21, 179, 467), (9, 15, 29, 470), (9, 26, 180, 473), (0, 70, 6, 474), (0, 51, 9, 478), (0, 63, 26, 482), (7, 92, 42, 485), (7, 95, 14, 489), (1, 40, 58, 493), (7, 99, 4, 497), (0, 54, 178, 501), (11, 31, 78, 507), (7, 102, 44, 511), (7, 108, 16, 515), (1, 59, 183, 520), (11, 35, 79, 521), (7, 111, 2, 525), (7, 115, 3, 529), (7, 122, 62, 530), (7, 127, 5, 534), (11, 40, 80, 538), (7, 130, 100, 542), (7, 133, 101, 547), (7, 136, 63, 550), (6, 56, 3, 554), (6, 61, 62, 555), (7, 142, 64, 556), (11, 45, 81, 560), (7, 146, 60, 564), (7, 164, 66, 568), (6, 65, 67, 572), (6, 39, 60, 576), (6, 69, 28, 577), (6, 74, 70, 578), (6, 112, 6, 582), (6, 77, 61, 583), (6, 84, 26, 591), (6, 87, 7, 592), (6, 90, 180, 596), (11, 49, 82, 597), (7, 167, 61, 601), (7, 175, 30, 602), (11, 53, 83, 611), (11, 57, 84, 615), (7, 181, 67, 619), (11, 61, 85, 620), (7, 185, 17, 624), (1, 65, 19, 628), (1, 79, 20, 632), (1, 83, 61, 636), (1, 93, 30, 638), (1, 97, 27, 639), (9, 30, 24, 642), (9, 33, 25, 645), (1, 102, 26, 648), (1, 72, 68, 651), (6, 95, 24, 655), (6, 98, 25, 656), (6, 101, 71, 657), (6, 108, 72, 664), (6, 121, 21, 668), (6, 124, 22, 669), (6, 127, 23, 670), (11, 66, 86, 673), (7, 189, 69, 677), (11, 70, 87, 681), (7, 192, 8, 685), (0, 59, 11, 689), (0, 74, 12, 694), (7, 195, 178, 698), (11, 74, 88, 699), (7, 200, 49, 703), (4, 33, 50, 707), (4, 47, 65, 711), (4, 50, 51, 715), (4, 71, 59, 719), (4, 53, 60, 723), (4, 61, 67, 724), (4, 64, 52, 725), (4, 75, 68, 729), (4, 37, 179, 730), (4, 43, 53, 731), (11, 78, 89, 734), (7, 216, 18, 738), (11, 82, 90, 742), (11, 86, 91, 746), (7, 219, 32, 750), (2, 36, 61, 754), (2, 56, 35, 756), (2, 62, 36, 760), (2, 70, 178, 764), (2, 76, 37, 765), (7, 223, 33, 769), (11, 90, 92, 773), (7, 226, 34, 777), (2, 66, 38, 781), (11, 94, 93, 784), (7, 230, 55, 788), (5, 27, 59, 792), (5, 34, 56, 793), (5, 38, 67, 800), (5, 42, 68, 801), (11, 98, 94, 802), (7, 243, 15, 806), (1, 44, 59, 810), (11, 102, 95, 811), (11, 106, 96, 815), (7, 249, 65, 819), (11, 110, 97, 820), (7, 260, 98, 825), (7, 276, 79, 830), (7, 279, 91, 831), (7, 264, 99, 832), (7, 282, 81, 836), (7, 285, 84, 837), (7, 273, 96, 838), (11, 17, 107, 969), (8, 51, 103, 973), (11, 22, 108, 976), (11, 26, 113, 980), (8, 73, 110, 984), (8, 58, 109, 988), (8, 77, 112, 992), (8, 65, 111, 996), (8, 69, 104, 999), (11, 30, 114, 1002), (8, 117, 105, 1006), (11, 34, 115, 1009), (11, 39, 127, 1013), (8, 149, 116, 1017), (8, 152, 126, 1021), (8, 143, 123, 1025), (8, 146, 125, 1029), (8, 140, 124, 1033), (8, 132, 121, 1037), (8, 120, 117, 1040), (8, 123, 120, 1043), (8, 126, 118, 1046), (8, 136, 122, 1049), (8, 129, 119, 1052), (11, 44, 129, 1055), (11, 48, 135, 1059), (8, 167, 128, 1063), (8, 170, 134, 1067), (8, 164, 133, 1071), (8, 161, 132, 1075), (8, 155, 130, 1079), (8, 158, 131, 1083), (11, 52, 136, 1087), (11, 56, 137, 1091), (11, 60, 138, 1095), (11, 65, 144, 1099), (8, 179, 143, 1103), (8, 182, 141, 1107), (8, 186, 142, 1111), (8, 173, 139, 1115), (8, 176, 140, 1119), (11, 69, 145, 1123), (11, 73, 147, 1127), (8, 193, 146, 1131), (11, 77, 158, 1136), (8, 233, 157, 1140), (8, 199, 148, 1144), (8, 227, 156, 1148), (8, 202, 150, 1152), (8, 218, 154, 1156), (8, 205, 151, 1160), (8, 208, 153, 1164), (8, 212, 149, 1168), (8, 215, 152, 1172), (8, 221, 155, 1175), (8, 236, 106, 1179), (11, 81, 159, 1182), (11, 85, 160, 1186), (11, 89, 166, 1190), (8, 251, 165, 1194), (8, 248, 164, 1198), (8, 239, 161, 1202), (8, 242, 162, 1206), (8, 245, 163, 1210), (11, 93, 168, 1214), (8, 254, 167, 1218), (11, 97, 171, 1222), (8, 272, 170, 1226), (8, 269, 169, 1230), (11, 101, 172, 1238), (11, 105, 173, 1242), (11, 109, 175, 1246), (8, 299, 174, 1250), (11, 114, 177, 1254), (8, 309, 176, 1259)]
theorem nT_ok : ∀ t ∈ nT, lw_tbl[t.2.2.2]? = some (Cond.methodLink (oS t.1) t.2.1 (mY t.2.2.1)) := by decide +kernel
