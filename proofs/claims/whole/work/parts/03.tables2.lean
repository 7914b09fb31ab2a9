def sT0 : List (Nat × Nat × Nat × Nat) := [(21, 450, 75, 449), (22, 453, 75, 452), (23, 672, 75, 671), (24, 644, 75, 643), (25, 647, 75, 646), (26, 484, 75, 483), (27, 641, 75, 640), (28, 464, 75, 463)]
theorem sT0_ok : ∀ t ∈ sT0, sOk t := by unfold sOk; decide +kernel
def sT1 : List (Nat × Nat × Nat × Nat) := [(29, 472, 75, 471), (38, 783, 65, 782), (53, 733, 66, 732), (100, 544, 60, 543), (101, 549, 60, 548), (103, 975, 68, 974), (104, 1001, 68, 1000), (105, 1008, 68, 1007)]
theorem sT1_ok : ∀ t ∈ sT1, sOk t := by unfold sOk; decide +kernel
def sT2 : List (Nat × Nat × Nat × Nat) := [(106, 1181, 68, 1180), (111, 998, 68, 997), (117, 1042, 68, 1041), (118, 1048, 68, 1047), (119, 1054, 68, 1053), (120, 1045, 68, 1044), (121, 1039, 68, 1038), (122, 1051, 68, 1050)]
theorem sT2_ok : ∀ t ∈ sT2, sOk t := by unfold sOk; decide +kernel
def sT3 : List (Nat × Nat × Nat × Nat) := [(152, 1174, 68, 1173), (178, 503, 76, 502), (187, 375, 70, 374), (188, 372, 70, 371), (189, 384, 70, 383)]
theorem sT3_ok : ∀ t ∈ sT3, sOk t := by unfold sOk; decide +kernel
def sT : List (Nat × Nat × Nat × Nat) := sT0 ++ (sT1 ++ (sT2 ++ (sT3)))
theorem sT_ok : ∀ t ∈ sT, sOk t := List.forall_mem_append.mpr ⟨sT0_ok, List.forall_mem_append.mpr ⟨sT1_ok, List.forall_mem_append.mpr ⟨sT2_ok, sT3_ok⟩⟩⟩
def aT : List (Nat × Nat × Nat × Nat) := [(15, 92, 1, 376), (15, 38, 2, 379), (9, 21, 0, 467), (9, 26, 1, 473), (6, 90, 1, 596), (4, 37, 0, 730)]
def aN : Nat → MethodName := fun j => match j with | 0 => Lib.Math.abs.name | 1 => Lib.Math.max.name | _ => Lib.Math.min.name
theorem aT_ok : ∀ t ∈ aT, lw_tbl[t.2.2.2]? = some (Cond.methodLink (oS t.1) t.2.1 (aN t.2.2.1)) := by decide +kernel
theorem ma_abs : lw_tbl[468]? = some (Cond.static Lib.Math.abs.name) ∧ lw_tbl[469]? = some (Cond.code Lib.Math.abs.name Lib.Math.abs.code 1 (some .int)) := by decide +kernel
theorem ma_max : lw_tbl[377]? = some (Cond.static Lib.Math.max.name) ∧ lw_tbl[378]? = some (Cond.code Lib.Math.max.name Lib.Math.max.code 2 (some .int)) := by decide +kernel
theorem ma_min : lw_tbl[380]? = some (Cond.static Lib.Math.min.name) ∧ lw_tbl[381]? = some (Cond.code Lib.Math.min.name Lib.Math.min.code 2 (some .int)) := by decide +kernel
theorem ma_ini : lw_tbl[71]? = some (Cond.initialized "java/lang/Math") := by decide +kernel
theorem st_value : lw_tbl[1265]? = some (Cond.fieldLink "java/lang/String" 9 "java/lang/String" "value" "[B") := by decide +kernel
theorem st_coder : lw_tbl[1264]? = some (Cond.fieldLink "java/lang/String" 15 "java/lang/String" "coder" "B") := by decide +kernel
theorem st_comp : lw_tbl[360]? = some (Cond.fieldLink "java/lang/String" 38 "java/lang/String" "COMPACT_STRINGS" "Z") := by decide +kernel
theorem st_kinds : lw_tbl[545]? = some (Cond.fieldLink "TinSoldiers" 171 "TinSoldiers" "KINDS" "[LTinSoldiers$Kind;") := by decide +kernel
