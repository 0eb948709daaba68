abbrev cX12_doesMend : ByteArray := prog_14_method_42_code
def yX12_doesMend : MethodName := ⟨"GatePatchModel", "doesMend", "(II)Z"⟩
abbrev cX12_leastMend : ByteArray := prog_14_method_43_code
def yX12_leastMend : MethodName := ⟨"GatePatchModel", "leastMend", "(II)I"⟩
abbrev cX12_lacking : ByteArray := prog_14_method_44_code
def yX12_lacking : MethodName := ⟨"GatePatchModel", "lacking", "(I)I"⟩
abbrev cX12_enough : ByteArray := prog_14_method_45_code
def yX12_enough : MethodName := ⟨"GatePatchModel", "enough", "(III)I"⟩
abbrev cX12_areEnough : ByteArray := prog_14_method_46_code
def yX12_areEnough : MethodName := ⟨"GatePatchModel", "areEnough", "(IIII)Z"⟩
abbrev cX12_points : ByteArray := prog_14_method_47_code
def yX12_points : MethodName := ⟨"GatePatchModel", "points", "(I)I"⟩
abbrev cX12_point : ByteArray := prog_14_method_48_code
def yX12_point : MethodName := ⟨"GatePatchModel", "point", "(I)I"⟩
abbrev cX12_mend : ByteArray := prog_14_method_49_code
def yX12_mend : MethodName := ⟨"GatePatchModel", "mend", "(IIII)I"⟩
abbrev cX12_isTape : ByteArray := prog_14_method_50_code
def yX12_isTape : MethodName := ⟨"GatePatchModel", "isTape", "(I)Z"⟩
abbrev cX12_witness : ByteArray := prog_14_method_51_code
def yX12_witness : MethodName := ⟨"GatePatchModel", "witness", "(IIII)I"⟩
abbrev cX12_judge : ByteArray := prog_14_method_52_code
def yX12_judge : MethodName := ⟨"GatePatchModel", "judge", "(IIII)I"⟩
abbrev cX12_functions : ByteArray := prog_14_method_53_code
def yX12_functions : MethodName := ⟨"GatePatchModel", "functions", "(I)I"⟩
abbrev cX12_projection : ByteArray := prog_14_method_54_code
def yX12_projection : MethodName := ⟨"GatePatchModel", "projection", "(II)I"⟩
abbrev cX12_joined : ByteArray := prog_14_method_55_code
def yX12_joined : MethodName := ⟨"GatePatchModel", "joined", "(IIII)I"⟩
abbrev cX12_lacks : ByteArray := prog_14_method_57_code
def yX12_lacks : MethodName := ⟨"GatePatchModel", "lacks", "(I)Z"⟩
abbrev cX12_joins : ByteArray := prog_14_method_58_code
def yX12_joins : MethodName := ⟨"GatePatchModel", "joins", "(II)V"⟩
abbrev cX12_reckons : ByteArray := prog_14_method_56_code
def yX12_reckons : MethodName := ⟨"GatePatchModel", "reckons", "(I)V"⟩
abbrev cX12_grows : ByteArray := prog_14_method_60_code
def yX12_grows : MethodName := ⟨"GatePatchModel", "grows", "(IIII)I"⟩
abbrev cX12_trees : ByteArray := prog_14_method_59_code
def yX12_trees : MethodName := ⟨"GatePatchModel", "trees", "(III)I"⟩
abbrev cX12_cost : ByteArray := prog_14_method_61_code
def yX12_cost : MethodName := ⟨"GatePatchModel", "cost", "(II)I"⟩
abbrev cX12_pattern : ByteArray := prog_14_method_62_code
def yX12_pattern : MethodName := ⟨"GatePatchModel", "pattern", "(II)I"⟩
abbrev cX12_clashes : ByteArray := prog_14_method_64_code
def yX12_clashes : MethodName := ⟨"GatePatchModel", "clashes", "(II)V"⟩
abbrev cX12_single : ByteArray := prog_14_method_65_code
def yX12_single : MethodName := ⟨"GatePatchModel", "single", "(I)I"⟩
abbrev cX12_both : ByteArray := prog_14_method_66_code
def yX12_both : MethodName := ⟨"GatePatchModel", "both", "(I)I"⟩
abbrev cX12_finds : ByteArray := prog_14_method_63_code
def yX12_finds : MethodName := ⟨"GatePatchModel", "finds", "(IIIIZ)I"⟩
abbrev cX12_keepsPatch : ByteArray := prog_14_method_67_code
def yX12_keepsPatch : MethodName := ⟨"GatePatchModel", "keepsPatch", "(IIII)V"⟩
abbrev cX12_patch : ByteArray := prog_14_method_68_code
def yX12_patch : MethodName := ⟨"GatePatchModel", "patch", "(IIIII)I"⟩
abbrev cX12_clash : ByteArray := prog_14_method_69_code
def yX12_clash : MethodName := ⟨"GatePatchModel", "clash", "(I)I"⟩
abbrev cX12_marked : ByteArray := prog_14_method_70_code
def yX12_marked : MethodName := ⟨"GatePatchModel", "marked", "()I"⟩
abbrev cX12_mark : ByteArray := prog_14_method_71_code
def yX12_mark : MethodName := ⟨"GatePatchModel", "mark", "(II)I"⟩
abbrev cX12_tries : ByteArray := prog_14_method_72_code
def yX12_tries : MethodName := ⟨"GatePatchModel", "tries", "(II)V"⟩
abbrev cX12_best : ByteArray := prog_14_method_73_code
def yX12_best : MethodName := ⟨"GatePatchModel", "best", "(I)I"⟩
abbrev cX12_patched : ByteArray := prog_14_method_74_code
def yX12_patched : MethodName := ⟨"GatePatchModel", "patched", "(I)I"⟩
abbrev cX12_function : ByteArray := prog_14_method_75_code
def yX12_function : MethodName := ⟨"GatePatchModel", "function", "(I)I"⟩
abbrev cX12_told : ByteArray := prog_14_method_76_code
def yX12_told : MethodName := ⟨"GatePatchModel", "told", "(I)I"⟩
theorem ml_Mod_326 : Cond.methodLink "GatePatchModel" 326 yX12_doesMend ∈ tblG := mem_t 1746 (by decide +kernel) rfl
theorem im_X12_doesMend : Cond.instanceMethod yX12_doesMend ∈ tblG := mem_t 1748 (by decide +kernel) rfl
theorem se_X12_doesMend : Cond.selects "GatePatchModel" yX12_doesMend yX12_doesMend ∈ tblG := mem_s 64 (by decide +kernel) rfl
theorem cw_X12_doesMend : Cond.code yX12_doesMend cX12_doesMend 3 (Option.some Jvm.ClassFile.FieldType.boolean) ∈ tblG := mem_t 1749 (by decide +kernel) rfl
theorem nd_X12_doesMend : yX12_doesMend.cls ≠ "java/lang/invoke/MethodHandle" ∧ yX12_doesMend.cls ≠ "java/lang/invoke/VarHandle" ∧ (parseMethodDescriptor yX12_doesMend.desc).map (fun d => d.parameters.length) = some 2 := by decide +kernel
theorem ml_Mod_329 : Cond.methodLink "GatePatchModel" 329 yX12_leastMend ∈ tblG := mem_t 1742 (by decide +kernel) rfl
theorem im_X12_leastMend : Cond.instanceMethod yX12_leastMend ∈ tblG := mem_t 1744 (by decide +kernel) rfl
theorem se_X12_leastMend : Cond.selects "GatePatchModel" yX12_leastMend yX12_leastMend ∈ tblG := mem_s 63 (by decide +kernel) rfl
theorem cw_X12_leastMend : Cond.code yX12_leastMend cX12_leastMend 4 (Option.some Jvm.ClassFile.FieldType.int) ∈ tblG := mem_t 1745 (by decide +kernel) rfl
theorem nd_X12_leastMend : yX12_leastMend.cls ≠ "java/lang/invoke/MethodHandle" ∧ yX12_leastMend.cls ≠ "java/lang/invoke/VarHandle" ∧ (parseMethodDescriptor yX12_leastMend.desc).map (fun d => d.parameters.length) = some 2 := by decide +kernel
theorem ml_Mod_332 : Cond.methodLink "GatePatchModel" 332 yX12_arePoints ∈ tblG := mem_t 1726 (by decide +kernel) rfl
theorem im_X12_arePoints : Cond.instanceMethod yX12_arePoints ∈ tblG := mem_t 1728 (by decide +kernel) rfl
theorem se_X12_arePoints : Cond.selects "GatePatchModel" yX12_arePoints yX12_arePoints ∈ tblG := mem_s 59 (by decide +kernel) rfl
theorem cw_X12_arePoints : Cond.code yX12_arePoints cX12_arePoints 5 (Option.some Jvm.ClassFile.FieldType.int) ∈ tblG := mem_t 1729 (by decide +kernel) rfl
theorem nd_X12_arePoints : yX12_arePoints.cls ≠ "java/lang/invoke/MethodHandle" ∧ yX12_arePoints.cls ≠ "java/lang/invoke/VarHandle" ∧ (parseMethodDescriptor yX12_arePoints.desc).map (fun d => d.parameters.length) = some 3 := by decide +kernel
theorem ml_Mod_336 : Cond.methodLink "GatePatchModel" 336 yX12_prepares ∈ tblG := mem_t 1730 (by decide +kernel) rfl
theorem im_X12_prepares : Cond.instanceMethod yX12_prepares ∈ tblG := mem_t 1732 (by decide +kernel) rfl
theorem se_X12_prepares : Cond.selects "GatePatchModel" yX12_prepares yX12_prepares ∈ tblG := mem_s 60 (by decide +kernel) rfl
theorem cw_X12_prepares : Cond.code yX12_prepares cX12_prepares 1 (Option.none : Option Jvm.ClassFile.FieldType) ∈ tblG := mem_t 1733 (by decide +kernel) rfl
theorem nd_X12_prepares : yX12_prepares.cls ≠ "java/lang/invoke/MethodHandle" ∧ yX12_prepares.cls ≠ "java/lang/invoke/VarHandle" ∧ (parseMethodDescriptor yX12_prepares.desc).map (fun d => d.parameters.length) = some 0 := by decide +kernel
theorem ml_Mod_339 : Cond.methodLink "GatePatchModel" 339 yX12_mendings ∈ tblG := mem_t 1734 (by decide +kernel) rfl
theorem im_X12_mendings : Cond.instanceMethod yX12_mendings ∈ tblG := mem_t 1736 (by decide +kernel) rfl
theorem se_X12_mendings : Cond.selects "GatePatchModel" yX12_mendings yX12_mendings ∈ tblG := mem_s 61 (by decide +kernel) rfl
theorem cw_X12_mendings : Cond.code yX12_mendings cX12_mendings 10 (Option.none : Option Jvm.ClassFile.FieldType) ∈ tblG := mem_t 1737 (by decide +kernel) rfl
theorem nd_X12_mendings : yX12_mendings.cls ≠ "java/lang/invoke/MethodHandle" ∧ yX12_mendings.cls ≠ "java/lang/invoke/VarHandle" ∧ (parseMethodDescriptor yX12_mendings.desc).map (fun d => d.parameters.length) = some 4 := by decide +kernel
theorem ml_Mod_343 : Cond.methodLink "GatePatchModel" 343 yX12_lacking ∈ tblG := mem_t 1738 (by decide +kernel) rfl
theorem im_X12_lacking : Cond.instanceMethod yX12_lacking ∈ tblG := mem_t 1740 (by decide +kernel) rfl
theorem se_X12_lacking : Cond.selects "GatePatchModel" yX12_lacking yX12_lacking ∈ tblG := mem_s 62 (by decide +kernel) rfl
theorem cw_X12_lacking : Cond.code yX12_lacking cX12_lacking 3 (Option.some Jvm.ClassFile.FieldType.int) ∈ tblG := mem_t 1741 (by decide +kernel) rfl
theorem nd_X12_lacking : yX12_lacking.cls ≠ "java/lang/invoke/MethodHandle" ∧ yX12_lacking.cls ≠ "java/lang/invoke/VarHandle" ∧ (parseMethodDescriptor yX12_lacking.desc).map (fun d => d.parameters.length) = some 1 := by decide +kernel
theorem fl_Mod_60 : FL "GatePatchModel" 60 11 20 := ⟨R_Mod, T_Mod, 82, ty_Mod, ci_Mod, by decide, mem_t 1354 (by decide +kernel) rfl⟩
theorem ml_Mod_346 : Cond.methodLink "GatePatchModel" 346 yX12_differ ∈ tblG := mem_t 1754 (by decide +kernel) rfl
theorem im_X12_differ : Cond.instanceMethod yX12_differ ∈ tblG := mem_t 1707 (by decide +kernel) rfl
theorem se_X12_differ : Cond.selects "GatePatchModel" yX12_differ yX12_differ ∈ tblG := mem_t 1708 (by decide +kernel) rfl
theorem cw_X12_differ : Cond.code yX12_differ cX12_differ 2 (Option.some Jvm.ClassFile.FieldType.int) ∈ tblG := mem_t 1709 (by decide +kernel) rfl
theorem nd_X12_differ : yX12_differ.cls ≠ "java/lang/invoke/MethodHandle" ∧ yX12_differ.cls ≠ "java/lang/invoke/VarHandle" ∧ (parseMethodDescriptor yX12_differ.desc).map (fun d => d.parameters.length) = some 0 := by decide +kernel
theorem ml_Mod_349 : Cond.methodLink "GatePatchModel" 349 yX12_areEnough ∈ tblG := mem_t 1755 (by decide +kernel) rfl
theorem im_X12_areEnough : Cond.instanceMethod yX12_areEnough ∈ tblG := mem_t 1757 (by decide +kernel) rfl
theorem se_X12_areEnough : Cond.selects "GatePatchModel" yX12_areEnough yX12_areEnough ∈ tblG := mem_s 65 (by decide +kernel) rfl
theorem cw_X12_areEnough : Cond.code yX12_areEnough cX12_areEnough 5 (Option.some Jvm.ClassFile.FieldType.boolean) ∈ tblG := mem_t 1758 (by decide +kernel) rfl
theorem nd_X12_areEnough : yX12_areEnough.cls ≠ "java/lang/invoke/MethodHandle" ∧ yX12_areEnough.cls ≠ "java/lang/invoke/VarHandle" ∧ (parseMethodDescriptor yX12_areEnough.desc).map (fun d => d.parameters.length) = some 4 := by decide +kernel
theorem fl_Mod_226 : FL "GatePatchModel" 226 11 19 := ⟨R_Mod, T_Mod, 82, ty_Mod, ci_Mod, by decide, mem_t 1353 (by decide +kernel) rfl⟩
theorem ml_Mod_353 : Cond.methodLink "GatePatchModel" 353 yX12_isTape ∈ tblG := mem_t 1771 (by decide +kernel) rfl
theorem st_X12_isTape : Cond.static yX12_isTape ∈ tblG := mem_t 1772 (by decide +kernel) rfl
theorem cw_X12_isTape : Cond.code yX12_isTape cX12_isTape 1 (Option.some Jvm.ClassFile.FieldType.boolean) ∈ tblG := mem_t 1773 (by decide +kernel) rfl
theorem nd_X12_isTape : yX12_isTape.cls ≠ "java/lang/invoke/MethodHandle" ∧ yX12_isTape.cls ≠ "java/lang/invoke/VarHandle" ∧ (parseMethodDescriptor yX12_isTape.desc).map (fun d => d.parameters.length) = some 1 := by decide +kernel
theorem fl_Mod_105 : FL "GatePatchModel" 105 11 43 := ⟨R_Mod, T_Mod, 82, ty_Mod, ci_Mod, by decide, mem_t 1377 (by decide +kernel) rfl⟩
theorem fl_Mod_108 : FL "GatePatchModel" 108 11 44 := ⟨R_Mod, T_Mod, 82, ty_Mod, ci_Mod, by decide, mem_t 1378 (by decide +kernel) rfl⟩
theorem fl_Mod_111 : FL "GatePatchModel" 111 11 45 := ⟨R_Mod, T_Mod, 82, ty_Mod, ci_Mod, by decide, mem_t 1379 (by decide +kernel) rfl⟩
theorem ml_Mod_356 : Cond.methodLink "GatePatchModel" 356 yX12_refuse ∈ tblG := mem_t 1778 (by decide +kernel) rfl
theorem im_X12_refuse : Cond.instanceMethod yX12_refuse ∈ tblG := mem_t 1780 (by decide +kernel) rfl
theorem se_X12_refuse : Cond.selects "GatePatchModel" yX12_refuse yX12_refuse ∈ tblG := mem_s 66 (by decide +kernel) rfl
theorem cw_X12_refuse : Cond.code yX12_refuse cX12_refuse 2 (Option.some Jvm.ClassFile.FieldType.int) ∈ tblG := mem_t 1781 (by decide +kernel) rfl
theorem nd_X12_refuse : yX12_refuse.cls ≠ "java/lang/invoke/MethodHandle" ∧ yX12_refuse.cls ≠ "java/lang/invoke/VarHandle" ∧ (parseMethodDescriptor yX12_refuse.desc).map (fun d => d.parameters.length) = some 1 := by decide +kernel
theorem fl_Mod_166 : FL "GatePatchModel" 166 11 66 := ⟨R_Mod, T_Mod, 82, ty_Mod, ci_Mod, by decide, mem_t 1400 (by decide +kernel) rfl⟩
theorem ml_Mod_371 : Cond.methodLink "GatePatchModel" 371 yX12_joined ∈ tblG := mem_t 1804 (by decide +kernel) rfl
theorem st_X12_joined : Cond.static yX12_joined ∈ tblG := mem_t 1805 (by decide +kernel) rfl
theorem cw_X12_joined : Cond.code yX12_joined cX12_joined 4 (Option.some Jvm.ClassFile.FieldType.int) ∈ tblG := mem_t 1806 (by decide +kernel) rfl
theorem nd_X12_joined : yX12_joined.cls ≠ "java/lang/invoke/MethodHandle" ∧ yX12_joined.cls ≠ "java/lang/invoke/VarHandle" ∧ (parseMethodDescriptor yX12_joined.desc).map (fun d => d.parameters.length) = some 4 := by decide +kernel
theorem ml_Mod_359 : Cond.methodLink "GatePatchModel" 359 yX12_functions ∈ tblG := mem_t 1786 (by decide +kernel) rfl
theorem st_X12_functions : Cond.static yX12_functions ∈ tblG := mem_t 1787 (by decide +kernel) rfl
theorem cw_X12_functions : Cond.code yX12_functions cX12_functions 1 (Option.some Jvm.ClassFile.FieldType.int) ∈ tblG := mem_t 1788 (by decide +kernel) rfl
theorem nd_X12_functions : yX12_functions.cls ≠ "java/lang/invoke/MethodHandle" ∧ yX12_functions.cls ≠ "java/lang/invoke/VarHandle" ∧ (parseMethodDescriptor yX12_functions.desc).map (fun d => d.parameters.length) = some 1 := by decide +kernel
theorem fl_Mod_169 : FL "GatePatchModel" 169 11 67 := ⟨R_Mod, T_Mod, 82, ty_Mod, ci_Mod, by decide, mem_t 1401 (by decide +kernel) rfl⟩
theorem fl_Mod_172 : FL "GatePatchModel" 172 11 68 := ⟨R_Mod, T_Mod, 82, ty_Mod, ci_Mod, by decide, mem_t 1402 (by decide +kernel) rfl⟩
theorem ml_Mod_365 : Cond.methodLink "GatePatchModel" 365 yX12_lacks ∈ tblG := mem_t 1796 (by decide +kernel) rfl
theorem im_X12_lacks : Cond.instanceMethod yX12_lacks ∈ tblG := mem_t 1798 (by decide +kernel) rfl
theorem se_X12_lacks : Cond.selects "GatePatchModel" yX12_lacks yX12_lacks ∈ tblG := mem_s 68 (by decide +kernel) rfl
theorem cw_X12_lacks : Cond.code yX12_lacks cX12_lacks 4 (Option.some Jvm.ClassFile.FieldType.boolean) ∈ tblG := mem_t 1799 (by decide +kernel) rfl
theorem nd_X12_lacks : yX12_lacks.cls ≠ "java/lang/invoke/MethodHandle" ∧ yX12_lacks.cls ≠ "java/lang/invoke/VarHandle" ∧ (parseMethodDescriptor yX12_lacks.desc).map (fun d => d.parameters.length) = some 1 := by decide +kernel
theorem ml_Mod_368 : Cond.methodLink "GatePatchModel" 368 yX12_joins ∈ tblG := mem_t 1800 (by decide +kernel) rfl
theorem im_X12_joins : Cond.instanceMethod yX12_joins ∈ tblG := mem_t 1802 (by decide +kernel) rfl
theorem se_X12_joins : Cond.selects "GatePatchModel" yX12_joins yX12_joins ∈ tblG := mem_s 69 (by decide +kernel) rfl
theorem cw_X12_joins : Cond.code yX12_joins cX12_joins 7 (Option.none : Option Jvm.ClassFile.FieldType) ∈ tblG := mem_t 1803 (by decide +kernel) rfl
theorem nd_X12_joins : yX12_joins.cls ≠ "java/lang/invoke/MethodHandle" ∧ yX12_joins.cls ≠ "java/lang/invoke/VarHandle" ∧ (parseMethodDescriptor yX12_joins.desc).map (fun d => d.parameters.length) = some 2 := by decide +kernel
theorem ml_Mod_362 : Cond.methodLink "GatePatchModel" 362 yX12_projection ∈ tblG := mem_t 1793 (by decide +kernel) rfl
theorem st_X12_projection : Cond.static yX12_projection ∈ tblG := mem_t 1794 (by decide +kernel) rfl
theorem cw_X12_projection : Cond.code yX12_projection cX12_projection 4 (Option.some Jvm.ClassFile.FieldType.int) ∈ tblG := mem_t 1795 (by decide +kernel) rfl
theorem nd_X12_projection : yX12_projection.cls ≠ "java/lang/invoke/MethodHandle" ∧ yX12_projection.cls ≠ "java/lang/invoke/VarHandle" ∧ (parseMethodDescriptor yX12_projection.desc).map (fun d => d.parameters.length) = some 2 := by decide +kernel
theorem fl_Mod_78 : FL "GatePatchModel" 78 11 31 := ⟨R_Mod, T_Mod, 82, ty_Mod, ci_Mod, by decide, mem_t 1365 (by decide +kernel) rfl⟩
theorem fl_Mod_381 : FL "GatePatchModel" 381 11 27 := ⟨R_Mod, T_Mod, 82, ty_Mod, ci_Mod, by decide, mem_t 1361 (by decide +kernel) rfl⟩
theorem fl_Mod_81 : FL "GatePatchModel" 81 11 32 := ⟨R_Mod, T_Mod, 82, ty_Mod, ci_Mod, by decide, mem_t 1366 (by decide +kernel) rfl⟩
theorem fl_Mod_84 : FL "GatePatchModel" 84 11 33 := ⟨R_Mod, T_Mod, 82, ty_Mod, ci_Mod, by decide, mem_t 1367 (by decide +kernel) rfl⟩
theorem fl_Mod_87 : FL "GatePatchModel" 87 11 34 := ⟨R_Mod, T_Mod, 82, ty_Mod, ci_Mod, by decide, mem_t 1368 (by decide +kernel) rfl⟩
theorem fl_Mod_90 : FL "GatePatchModel" 90 11 35 := ⟨R_Mod, T_Mod, 82, ty_Mod, ci_Mod, by decide, mem_t 1369 (by decide +kernel) rfl⟩
theorem fp_Mod_381 : FP "GatePatchModel" 381 11 27 .int := ⟨R_Mod, T_Mod, 82, ty_Mod, ci_Mod, by decide, mem_t 1361 (by decide +kernel) rfl, rfl, rfl⟩
theorem ml_Mod_375 : Cond.methodLink "GatePatchModel" 375 yX12_trees ∈ tblG := mem_t 1835 (by decide +kernel) rfl
theorem im_X12_trees : Cond.instanceMethod yX12_trees ∈ tblG := mem_t 1837 (by decide +kernel) rfl
theorem se_X12_trees : Cond.selects "GatePatchModel" yX12_trees yX12_trees ∈ tblG := mem_s 76 (by decide +kernel) rfl
theorem cw_X12_trees : Cond.code yX12_trees cX12_trees 10 (Option.some Jvm.ClassFile.FieldType.int) ∈ tblG := mem_t 1838 (by decide +kernel) rfl
theorem nd_X12_trees : yX12_trees.cls ≠ "java/lang/invoke/MethodHandle" ∧ yX12_trees.cls ≠ "java/lang/invoke/VarHandle" ∧ (parseMethodDescriptor yX12_trees.desc).map (fun d => d.parameters.length) = some 3 := by decide +kernel
theorem ml_Mod_378 : Cond.methodLink "GatePatchModel" 378 yX12_grows ∈ tblG := mem_t 1839 (by decide +kernel) rfl
theorem im_X12_grows : Cond.instanceMethod yX12_grows ∈ tblG := mem_t 1841 (by decide +kernel) rfl
theorem se_X12_grows : Cond.selects "GatePatchModel" yX12_grows yX12_grows ∈ tblG := mem_s 77 (by decide +kernel) rfl
theorem cw_X12_grows : Cond.code yX12_grows cX12_grows 5 (Option.some Jvm.ClassFile.FieldType.int) ∈ tblG := mem_t 1842 (by decide +kernel) rfl
theorem nd_X12_grows : yX12_grows.cls ≠ "java/lang/invoke/MethodHandle" ∧ yX12_grows.cls ≠ "java/lang/invoke/VarHandle" ∧ (parseMethodDescriptor yX12_grows.desc).map (fun d => d.parameters.length) = some 4 := by decide +kernel
theorem ml_Mod_384 : Cond.methodLink "GatePatchModel" 384 yX12_reckons ∈ tblG := mem_t 1789 (by decide +kernel) rfl
theorem im_X12_reckons : Cond.instanceMethod yX12_reckons ∈ tblG := mem_t 1791 (by decide +kernel) rfl
theorem se_X12_reckons : Cond.selects "GatePatchModel" yX12_reckons yX12_reckons ∈ tblG := mem_s 67 (by decide +kernel) rfl
theorem cw_X12_reckons : Cond.code yX12_reckons cX12_reckons 4 (Option.none : Option Jvm.ClassFile.FieldType) ∈ tblG := mem_t 1792 (by decide +kernel) rfl
theorem nd_X12_reckons : yX12_reckons.cls ≠ "java/lang/invoke/MethodHandle" ∧ yX12_reckons.cls ≠ "java/lang/invoke/VarHandle" ∧ (parseMethodDescriptor yX12_reckons.desc).map (fun d => d.parameters.length) = some 1 := by decide +kernel
theorem fl_Mod_178 : FL "GatePatchModel" 178 11 70 := ⟨R_Mod, T_Mod, 82, ty_Mod, ci_Mod, by decide, mem_t 1404 (by decide +kernel) rfl⟩
theorem ml_Mod_387 : Cond.methodLink "GatePatchModel" 387 yX12_pattern ∈ tblG := mem_t 1815 (by decide +kernel) rfl
theorem im_X12_pattern : Cond.instanceMethod yX12_pattern ∈ tblG := mem_t 1817 (by decide +kernel) rfl
theorem se_X12_pattern : Cond.selects "GatePatchModel" yX12_pattern yX12_pattern ∈ tblG := mem_s 71 (by decide +kernel) rfl
theorem cw_X12_pattern : Cond.code yX12_pattern cX12_pattern 5 (Option.some Jvm.ClassFile.FieldType.int) ∈ tblG := mem_t 1818 (by decide +kernel) rfl
theorem nd_X12_pattern : yX12_pattern.cls ≠ "java/lang/invoke/MethodHandle" ∧ yX12_pattern.cls ≠ "java/lang/invoke/VarHandle" ∧ (parseMethodDescriptor yX12_pattern.desc).map (fun d => d.parameters.length) = some 2 := by decide +kernel
theorem fp_Mod_399 : FP "GatePatchModel" 399 11 71 .int := ⟨R_Mod, T_Mod, 82, ty_Mod, ci_Mod, by decide, mem_t 1405 (by decide +kernel) rfl, rfl, rfl⟩
theorem fl_Mod_175 : FL "GatePatchModel" 175 11 69 := ⟨R_Mod, T_Mod, 82, ty_Mod, ci_Mod, by decide, mem_t 1403 (by decide +kernel) rfl⟩
theorem fp_Mod_402 : FP "GatePatchModel" 402 11 72 .int := ⟨R_Mod, T_Mod, 82, ty_Mod, ci_Mod, by decide, mem_t 1406 (by decide +kernel) rfl, rfl, rfl⟩
theorem ml_Mod_396 : Cond.methodLink "GatePatchModel" 396 yX12_both ∈ tblG := mem_t 1827 (by decide +kernel) rfl
theorem im_X12_both : Cond.instanceMethod yX12_both ∈ tblG := mem_t 1829 (by decide +kernel) rfl
theorem se_X12_both : Cond.selects "GatePatchModel" yX12_both yX12_both ∈ tblG := mem_s 74 (by decide +kernel) rfl
theorem cw_X12_both : Cond.code yX12_both cX12_both 7 (Option.some Jvm.ClassFile.FieldType.int) ∈ tblG := mem_t 1830 (by decide +kernel) rfl
theorem nd_X12_both : yX12_both.cls ≠ "java/lang/invoke/MethodHandle" ∧ yX12_both.cls ≠ "java/lang/invoke/VarHandle" ∧ (parseMethodDescriptor yX12_both.desc).map (fun d => d.parameters.length) = some 1 := by decide +kernel
theorem ml_Mod_393 : Cond.methodLink "GatePatchModel" 393 yX12_single ∈ tblG := mem_t 1823 (by decide +kernel) rfl
theorem im_X12_single : Cond.instanceMethod yX12_single ∈ tblG := mem_t 1825 (by decide +kernel) rfl
theorem se_X12_single : Cond.selects "GatePatchModel" yX12_single yX12_single ∈ tblG := mem_s 73 (by decide +kernel) rfl
theorem cw_X12_single : Cond.code yX12_single cX12_single 6 (Option.some Jvm.ClassFile.FieldType.int) ∈ tblG := mem_t 1826 (by decide +kernel) rfl
theorem nd_X12_single : yX12_single.cls ≠ "java/lang/invoke/MethodHandle" ∧ yX12_single.cls ≠ "java/lang/invoke/VarHandle" ∧ (parseMethodDescriptor yX12_single.desc).map (fun d => d.parameters.length) = some 1 := by decide +kernel
theorem ml_Mod_390 : Cond.methodLink "GatePatchModel" 390 yX12_clashes ∈ tblG := mem_t 1819 (by decide +kernel) rfl
theorem im_X12_clashes : Cond.instanceMethod yX12_clashes ∈ tblG := mem_t 1821 (by decide +kernel) rfl
theorem se_X12_clashes : Cond.selects "GatePatchModel" yX12_clashes yX12_clashes ∈ tblG := mem_s 72 (by decide +kernel) rfl
theorem cw_X12_clashes : Cond.code yX12_clashes cX12_clashes 4 (Option.none : Option Jvm.ClassFile.FieldType) ∈ tblG := mem_t 1822 (by decide +kernel) rfl
theorem nd_X12_clashes : yX12_clashes.cls ≠ "java/lang/invoke/MethodHandle" ∧ yX12_clashes.cls ≠ "java/lang/invoke/VarHandle" ∧ (parseMethodDescriptor yX12_clashes.desc).map (fun d => d.parameters.length) = some 2 := by decide +kernel
theorem fp_Mod_405 : FP "GatePatchModel" 405 11 24 .boolean := ⟨R_Mod, T_Mod, 82, ty_Mod, ci_Mod, by decide, mem_t 1358 (by decide +kernel) rfl, rfl, rfl⟩
theorem fp_Mod_408 : FP "GatePatchModel" 408 11 25 .int := ⟨R_Mod, T_Mod, 82, ty_Mod, ci_Mod, by decide, mem_t 1359 (by decide +kernel) rfl, rfl, rfl⟩
theorem fp_Mod_411 : FP "GatePatchModel" 411 11 26 .int := ⟨R_Mod, T_Mod, 82, ty_Mod, ci_Mod, by decide, mem_t 1360 (by decide +kernel) rfl, rfl, rfl⟩
theorem fl_Mod_69 : FL "GatePatchModel" 69 11 28 := ⟨R_Mod, T_Mod, 82, ty_Mod, ci_Mod, by decide, mem_t 1362 (by decide +kernel) rfl⟩
theorem fl_Mod_75 : FL "GatePatchModel" 75 11 30 := ⟨R_Mod, T_Mod, 82, ty_Mod, ci_Mod, by decide, mem_t 1364 (by decide +kernel) rfl⟩
theorem fl_Mod_399 : FL "GatePatchModel" 399 11 71 := ⟨R_Mod, T_Mod, 82, ty_Mod, ci_Mod, by decide, mem_t 1405 (by decide +kernel) rfl⟩
theorem fl_Mod_402 : FL "GatePatchModel" 402 11 72 := ⟨R_Mod, T_Mod, 82, ty_Mod, ci_Mod, by decide, mem_t 1406 (by decide +kernel) rfl⟩
theorem fl_Mod_72 : FL "GatePatchModel" 72 11 29 := ⟨R_Mod, T_Mod, 82, ty_Mod, ci_Mod, by decide, mem_t 1363 (by decide +kernel) rfl⟩
theorem ml_Mod_414 : Cond.methodLink "GatePatchModel" 414 yX12_finds ∈ tblG := mem_t 1811 (by decide +kernel) rfl
theorem im_X12_finds : Cond.instanceMethod yX12_finds ∈ tblG := mem_t 1813 (by decide +kernel) rfl
theorem se_X12_finds : Cond.selects "GatePatchModel" yX12_finds yX12_finds ∈ tblG := mem_s 70 (by decide +kernel) rfl
theorem cw_X12_finds : Cond.code yX12_finds cX12_finds 9 (Option.some Jvm.ClassFile.FieldType.int) ∈ tblG := mem_t 1814 (by decide +kernel) rfl
theorem nd_X12_finds : yX12_finds.cls ≠ "java/lang/invoke/MethodHandle" ∧ yX12_finds.cls ≠ "java/lang/invoke/VarHandle" ∧ (parseMethodDescriptor yX12_finds.desc).map (fun d => d.parameters.length) = some 5 := by decide +kernel
theorem ml_Mod_418 : Cond.methodLink "GatePatchModel" 418 yX12_keepsPatch ∈ tblG := mem_t 1831 (by decide +kernel) rfl
theorem im_X12_keepsPatch : Cond.instanceMethod yX12_keepsPatch ∈ tblG := mem_t 1833 (by decide +kernel) rfl
theorem se_X12_keepsPatch : Cond.selects "GatePatchModel" yX12_keepsPatch yX12_keepsPatch ∈ tblG := mem_s 75 (by decide +kernel) rfl
theorem cw_X12_keepsPatch : Cond.code yX12_keepsPatch cX12_keepsPatch 7 (Option.none : Option Jvm.ClassFile.FieldType) ∈ tblG := mem_t 1834 (by decide +kernel) rfl
theorem nd_X12_keepsPatch : yX12_keepsPatch.cls ≠ "java/lang/invoke/MethodHandle" ∧ yX12_keepsPatch.cls ≠ "java/lang/invoke/VarHandle" ∧ (parseMethodDescriptor yX12_keepsPatch.desc).map (fun d => d.parameters.length) = some 4 := by decide +kernel
theorem fl_Mod_66 : FL "GatePatchModel" 66 11 22 := ⟨R_Mod, T_Mod, 82, ty_Mod, ci_Mod, by decide, mem_t 1356 (by decide +kernel) rfl⟩
theorem fl_Mod_63 : FL "GatePatchModel" 63 11 21 := ⟨R_Mod, T_Mod, 82, ty_Mod, ci_Mod, by decide, mem_t 1355 (by decide +kernel) rfl⟩
theorem ml_Mod_421 : Cond.methodLink "GatePatchModel" 421 yX12_marked ∈ tblG := mem_t 1851 (by decide +kernel) rfl
theorem im_X12_marked : Cond.instanceMethod yX12_marked ∈ tblG := mem_t 1853 (by decide +kernel) rfl
theorem se_X12_marked : Cond.selects "GatePatchModel" yX12_marked yX12_marked ∈ tblG := mem_s 78 (by decide +kernel) rfl
theorem cw_X12_marked : Cond.code yX12_marked cX12_marked 3 (Option.some Jvm.ClassFile.FieldType.int) ∈ tblG := mem_t 1854 (by decide +kernel) rfl
theorem nd_X12_marked : yX12_marked.cls ≠ "java/lang/invoke/MethodHandle" ∧ yX12_marked.cls ≠ "java/lang/invoke/VarHandle" ∧ (parseMethodDescriptor yX12_marked.desc).map (fun d => d.parameters.length) = some 0 := by decide +kernel
theorem fl_Mod_424 : FL "GatePatchModel" 424 11 73 := ⟨R_Mod, T_Mod, 82, ty_Mod, ci_Mod, by decide, mem_t 1407 (by decide +kernel) rfl⟩
theorem fp_Mod_424 : FP "GatePatchModel" 424 11 73 .int := ⟨R_Mod, T_Mod, 82, ty_Mod, ci_Mod, by decide, mem_t 1407 (by decide +kernel) rfl, rfl, rfl⟩
theorem fp_Mod_427 : FP "GatePatchModel" 427 11 74 .int := ⟨R_Mod, T_Mod, 82, ty_Mod, ci_Mod, by decide, mem_t 1408 (by decide +kernel) rfl, rfl, rfl⟩
theorem fl_Mod_181 : FL "GatePatchModel" 181 11 75 := ⟨R_Mod, T_Mod, 82, ty_Mod, ci_Mod, by decide, mem_t 1409 (by decide +kernel) rfl⟩
theorem ml_Mod_430 : Cond.methodLink "GatePatchModel" 430 yX12_tries ∈ tblG := mem_t 1859 (by decide +kernel) rfl
theorem im_X12_tries : Cond.instanceMethod yX12_tries ∈ tblG := mem_t 1861 (by decide +kernel) rfl
theorem se_X12_tries : Cond.selects "GatePatchModel" yX12_tries yX12_tries ∈ tblG := mem_s 79 (by decide +kernel) rfl
theorem cw_X12_tries : Cond.code yX12_tries cX12_tries 6 (Option.none : Option Jvm.ClassFile.FieldType) ∈ tblG := mem_t 1862 (by decide +kernel) rfl
theorem nd_X12_tries : yX12_tries.cls ≠ "java/lang/invoke/MethodHandle" ∧ yX12_tries.cls ≠ "java/lang/invoke/VarHandle" ∧ (parseMethodDescriptor yX12_tries.desc).map (fun d => d.parameters.length) = some 2 := by decide +kernel
theorem fl_Mod_427 : FL "GatePatchModel" 427 11 74 := ⟨R_Mod, T_Mod, 82, ty_Mod, ci_Mod, by decide, mem_t 1408 (by decide +kernel) rfl⟩
theorem fl_Mod_184 : FL "GatePatchModel" 184 11 76 := ⟨R_Mod, T_Mod, 82, ty_Mod, ci_Mod, by decide, mem_t 1410 (by decide +kernel) rfl⟩
theorem fl_Mod_229 : FL "GatePatchModel" 229 11 23 := ⟨R_Mod, T_Mod, 82, ty_Mod, ci_Mod, by decide, mem_t 1357 (by decide +kernel) rfl⟩
theorem fl_Mod_408 : FL "GatePatchModel" 408 11 25 := ⟨R_Mod, T_Mod, 82, ty_Mod, ci_Mod, by decide, mem_t 1359 (by decide +kernel) rfl⟩
theorem fl_Mod_411 : FL "GatePatchModel" 411 11 26 := ⟨R_Mod, T_Mod, 82, ty_Mod, ci_Mod, by decide, mem_t 1360 (by decide +kernel) rfl⟩
theorem fl_Mod_405 : FL "GatePatchModel" 405 11 24 := ⟨R_Mod, T_Mod, 82, ty_Mod, ci_Mod, by decide, mem_t 1358 (by decide +kernel) rfl⟩
theorem dX12_doesMend_0 : decode cX12_doesMend 0 = .ok (.aload_n 0, 1) := by decide +kernel
theorem dX12_doesMend_1 : decode cX12_doesMend 1 = .ok (.getfield 163, 3) := by decide +kernel
theorem dX12_doesMend_4 : decode cX12_doesMend 4 = .ok (.iconst 4, 1) := by decide +kernel
theorem dX12_doesMend_5 : decode cX12_doesMend 5 = .ok (.iload_n 1, 1) := by decide +kernel
theorem dX12_doesMend_6 : decode cX12_doesMend 6 = .ok (.imul, 1) := by decide +kernel
theorem dX12_doesMend_7 : decode cX12_doesMend 7 = .ok (.iload_n 2, 1) := by decide +kernel
theorem dX12_doesMend_8 : decode cX12_doesMend 8 = .ok (.bipush 64, 2) := by decide +kernel
theorem dX12_doesMend_10 : decode cX12_doesMend 10 = .ok (.idiv, 1) := by decide +kernel
theorem dX12_doesMend_11 : decode cX12_doesMend 11 = .ok (.iadd, 1) := by decide +kernel
theorem dX12_doesMend_12 : decode cX12_doesMend 12 = .ok (.laload, 1) := by decide +kernel
theorem dX12_doesMend_13 : decode cX12_doesMend 13 = .ok (.iload_n 2, 1) := by decide +kernel
theorem dX12_doesMend_14 : decode cX12_doesMend 14 = .ok (.bipush 64, 2) := by decide +kernel
theorem dX12_doesMend_16 : decode cX12_doesMend 16 = .ok (.irem, 1) := by decide +kernel
theorem dX12_doesMend_17 : decode cX12_doesMend 17 = .ok (.lshr, 1) := by decide +kernel
theorem dX12_doesMend_18 : decode cX12_doesMend 18 = .ok (.lconst 1, 1) := by decide +kernel
theorem dX12_doesMend_19 : decode cX12_doesMend 19 = .ok (.land, 1) := by decide +kernel
theorem dX12_doesMend_20 : decode cX12_doesMend 20 = .ok (.lconst 1, 1) := by decide +kernel
theorem dX12_doesMend_21 : decode cX12_doesMend 21 = .ok (.lcmp, 1) := by decide +kernel
theorem dX12_doesMend_22 : decode cX12_doesMend 22 = .ok (.ifCond .ne 7, 3) := by decide +kernel
theorem dX12_doesMend_25 : decode cX12_doesMend 25 = .ok (.iconst 1, 1) := by decide +kernel
theorem dX12_doesMend_26 : decode cX12_doesMend 26 = .ok (.goto 4, 3) := by decide +kernel
theorem dX12_doesMend_29 : decode cX12_doesMend 29 = .ok (.iconst 0, 1) := by decide +kernel
theorem dX12_doesMend_30 : decode cX12_doesMend 30 = .ok (.ireturn, 1) := by decide +kernel
theorem dX12_leastMend_0 : decode cX12_leastMend 0 = .ok (.iconst 0, 1) := by decide +kernel
theorem dX12_leastMend_1 : decode cX12_leastMend 1 = .ok (.istore_n 3, 1) := by decide +kernel
theorem dX12_leastMend_2 : decode cX12_leastMend 2 = .ok (.iload_n 3, 1) := by decide +kernel
theorem dX12_leastMend_3 : decode cX12_leastMend 3 = .ok (.iconst 1, 1) := by decide +kernel
theorem dX12_leastMend_4 : decode cX12_leastMend 4 = .ok (.iload_n 1, 1) := by decide +kernel
theorem dX12_leastMend_5 : decode cX12_leastMend 5 = .ok (.ishl, 1) := by decide +kernel
theorem dX12_leastMend_6 : decode cX12_leastMend 6 = .ok (.if_icmp .ge 20, 3) := by decide +kernel
theorem dX12_leastMend_9 : decode cX12_leastMend 9 = .ok (.aload_n 0, 1) := by decide +kernel
theorem dX12_leastMend_10 : decode cX12_leastMend 10 = .ok (.iload_n 3, 1) := by decide +kernel
theorem dX12_leastMend_11 : decode cX12_leastMend 11 = .ok (.iload_n 2, 1) := by decide +kernel
theorem dX12_leastMend_12 : decode cX12_leastMend 12 = .ok (.invokevirtual 326, 3) := by decide +kernel
theorem dX12_leastMend_15 : decode cX12_leastMend 15 = .ok (.ifCond .eq 5, 3) := by decide +kernel
theorem dX12_leastMend_18 : decode cX12_leastMend 18 = .ok (.iload_n 3, 1) := by decide +kernel
theorem dX12_leastMend_19 : decode cX12_leastMend 19 = .ok (.ireturn, 1) := by decide +kernel
theorem dX12_leastMend_20 : decode cX12_leastMend 20 = .ok (.iinc 3 1, 3) := by decide +kernel
theorem dX12_leastMend_23 : decode cX12_leastMend 23 = .ok (.goto (-21), 3) := by decide +kernel
theorem dX12_leastMend_26 : decode cX12_leastMend 26 = .ok (.iconst (-1), 1) := by decide +kernel
theorem dX12_leastMend_27 : decode cX12_leastMend 27 = .ok (.ireturn, 1) := by decide +kernel
theorem dX12_lacking_0 : decode cX12_lacking 0 = .ok (.iconst 0, 1) := by decide +kernel
theorem dX12_lacking_1 : decode cX12_lacking 1 = .ok (.istore_n 2, 1) := by decide +kernel
theorem dX12_lacking_2 : decode cX12_lacking 2 = .ok (.iload_n 2, 1) := by decide +kernel
theorem dX12_lacking_3 : decode cX12_lacking 3 = .ok (.aload_n 0, 1) := by decide +kernel
theorem dX12_lacking_4 : decode cX12_lacking 4 = .ok (.invokevirtual 242, 3) := by decide +kernel
theorem dX12_lacking_7 : decode cX12_lacking 7 = .ok (.if_icmp .ge 30, 3) := by decide +kernel
theorem dX12_lacking_10 : decode cX12_lacking 10 = .ok (.aload_n 0, 1) := by decide +kernel
theorem dX12_lacking_11 : decode cX12_lacking 11 = .ok (.getfield 32, 3) := by decide +kernel
theorem dX12_lacking_14 : decode cX12_lacking 14 = .ok (.iload_n 2, 1) := by decide +kernel
theorem dX12_lacking_15 : decode cX12_lacking 15 = .ok (.baload, 1) := by decide +kernel
theorem dX12_lacking_16 : decode cX12_lacking 16 = .ok (.ifCond .ne 15, 3) := by decide +kernel
theorem dX12_lacking_19 : decode cX12_lacking 19 = .ok (.aload_n 0, 1) := by decide +kernel
theorem dX12_lacking_20 : decode cX12_lacking 20 = .ok (.iload_n 1, 1) := by decide +kernel
theorem dX12_lacking_21 : decode cX12_lacking 21 = .ok (.iload_n 2, 1) := by decide +kernel
theorem dX12_lacking_22 : decode cX12_lacking 22 = .ok (.invokevirtual 329, 3) := by decide +kernel
theorem dX12_lacking_25 : decode cX12_lacking 25 = .ok (.iconst (-1), 1) := by decide +kernel
theorem dX12_lacking_26 : decode cX12_lacking 26 = .ok (.if_icmp .ne 5, 3) := by decide +kernel
theorem dX12_lacking_29 : decode cX12_lacking 29 = .ok (.iload_n 2, 1) := by decide +kernel
theorem dX12_lacking_30 : decode cX12_lacking 30 = .ok (.ireturn, 1) := by decide +kernel
theorem dX12_lacking_31 : decode cX12_lacking 31 = .ok (.iinc 2 1, 3) := by decide +kernel
theorem dX12_lacking_34 : decode cX12_lacking 34 = .ok (.goto (-32), 3) := by decide +kernel
theorem dX12_lacking_37 : decode cX12_lacking 37 = .ok (.sipush 1000, 3) := by decide +kernel
theorem dX12_lacking_40 : decode cX12_lacking 40 = .ok (.ireturn, 1) := by decide +kernel
theorem dX12_enough_0 : decode cX12_enough 0 = .ok (.aload_n 0, 1) := by decide +kernel
theorem dX12_enough_1 : decode cX12_enough 1 = .ok (.iload_n 1, 1) := by decide +kernel
theorem dX12_enough_2 : decode cX12_enough 2 = .ok (.iload_n 2, 1) := by decide +kernel
theorem dX12_enough_3 : decode cX12_enough 3 = .ok (.iload_n 3, 1) := by decide +kernel
theorem dX12_enough_4 : decode cX12_enough 4 = .ok (.invokevirtual 332, 3) := by decide +kernel
theorem dX12_enough_7 : decode cX12_enough 7 = .ok (.istore 4, 2) := by decide +kernel
theorem dX12_enough_9 : decode cX12_enough 9 = .ok (.iload 4, 2) := by decide +kernel
theorem dX12_enough_11 : decode cX12_enough 11 = .ok (.ifCond .ne 5, 3) := by decide +kernel
theorem dX12_enough_14 : decode cX12_enough 14 = .ok (.iconst (-1), 1) := by decide +kernel
theorem dX12_enough_15 : decode cX12_enough 15 = .ok (.ireturn, 1) := by decide +kernel
theorem dX12_enough_16 : decode cX12_enough 16 = .ok (.aload_n 0, 1) := by decide +kernel
theorem dX12_enough_17 : decode cX12_enough 17 = .ok (.invokevirtual 336, 3) := by decide +kernel
theorem dX12_enough_20 : decode cX12_enough 20 = .ok (.aload_n 0, 1) := by decide +kernel
theorem dX12_enough_21 : decode cX12_enough 21 = .ok (.iload_n 1, 1) := by decide +kernel
theorem dX12_enough_22 : decode cX12_enough 22 = .ok (.iload_n 2, 1) := by decide +kernel
theorem dX12_enough_23 : decode cX12_enough 23 = .ok (.iload_n 3, 1) := by decide +kernel
theorem dX12_enough_24 : decode cX12_enough 24 = .ok (.iload 4, 2) := by decide +kernel
theorem dX12_enough_26 : decode cX12_enough 26 = .ok (.invokevirtual 339, 3) := by decide +kernel
theorem dX12_enough_29 : decode cX12_enough 29 = .ok (.aload_n 0, 1) := by decide +kernel
theorem dX12_enough_30 : decode cX12_enough 30 = .ok (.iload 4, 2) := by decide +kernel
theorem dX12_enough_32 : decode cX12_enough 32 = .ok (.invokevirtual 343, 3) := by decide +kernel
theorem dX12_enough_35 : decode cX12_enough 35 = .ok (.ireturn, 1) := by decide +kernel
theorem dX12_areEnough_0 : decode cX12_areEnough 0 = .ok (.aload_n 0, 1) := by decide +kernel
theorem dX12_areEnough_1 : decode cX12_areEnough 1 = .ok (.iload_n 1, 1) := by decide +kernel
theorem dX12_areEnough_2 : decode cX12_areEnough 2 = .ok (.iload_n 2, 1) := by decide +kernel
theorem dX12_areEnough_3 : decode cX12_areEnough 3 = .ok (.iload_n 3, 1) := by decide +kernel
theorem dX12_areEnough_4 : decode cX12_areEnough 4 = .ok (.iload 4, 2) := by decide +kernel
theorem dX12_areEnough_6 : decode cX12_areEnough 6 = .ok (.invokevirtual 339, 3) := by decide +kernel
theorem dX12_areEnough_9 : decode cX12_areEnough 9 = .ok (.aload_n 0, 1) := by decide +kernel
theorem dX12_areEnough_10 : decode cX12_areEnough 10 = .ok (.iload 4, 2) := by decide +kernel
theorem dX12_areEnough_12 : decode cX12_areEnough 12 = .ok (.invokevirtual 343, 3) := by decide +kernel
theorem dX12_areEnough_15 : decode cX12_areEnough 15 = .ok (.sipush 1000, 3) := by decide +kernel
theorem dX12_areEnough_18 : decode cX12_areEnough 18 = .ok (.if_icmp .eq 5, 3) := by decide +kernel
theorem dX12_areEnough_21 : decode cX12_areEnough 21 = .ok (.iconst 0, 1) := by decide +kernel
theorem dX12_areEnough_22 : decode cX12_areEnough 22 = .ok (.ireturn, 1) := by decide +kernel
theorem dX12_areEnough_23 : decode cX12_areEnough 23 = .ok (.aload_n 0, 1) := by decide +kernel
theorem dX12_areEnough_24 : decode cX12_areEnough 24 = .ok (.iload 4, 2) := by decide +kernel
theorem dX12_areEnough_26 : decode cX12_areEnough 26 = .ok (.putfield 226, 3) := by decide +kernel
theorem dX12_areEnough_29 : decode cX12_areEnough 29 = .ok (.aload_n 0, 1) := by decide +kernel
theorem dX12_areEnough_30 : decode cX12_areEnough 30 = .ok (.getfield 60, 3) := by decide +kernel
theorem dX12_areEnough_33 : decode cX12_areEnough 33 = .ok (.iconst 0, 1) := by decide +kernel
theorem dX12_areEnough_34 : decode cX12_areEnough 34 = .ok (.iload_n 1, 1) := by decide +kernel
theorem dX12_areEnough_35 : decode cX12_areEnough 35 = .ok (.iastore, 1) := by decide +kernel
theorem dX12_areEnough_36 : decode cX12_areEnough 36 = .ok (.aload_n 0, 1) := by decide +kernel
theorem dX12_areEnough_37 : decode cX12_areEnough 37 = .ok (.getfield 60, 3) := by decide +kernel
theorem dX12_areEnough_40 : decode cX12_areEnough 40 = .ok (.iconst 1, 1) := by decide +kernel
theorem dX12_areEnough_41 : decode cX12_areEnough 41 = .ok (.iload_n 2, 1) := by decide +kernel
theorem dX12_areEnough_42 : decode cX12_areEnough 42 = .ok (.iastore, 1) := by decide +kernel
theorem dX12_areEnough_43 : decode cX12_areEnough 43 = .ok (.aload_n 0, 1) := by decide +kernel
theorem dX12_areEnough_44 : decode cX12_areEnough 44 = .ok (.getfield 60, 3) := by decide +kernel
theorem dX12_areEnough_47 : decode cX12_areEnough 47 = .ok (.iconst 2, 1) := by decide +kernel
theorem dX12_areEnough_48 : decode cX12_areEnough 48 = .ok (.iload_n 3, 1) := by decide +kernel
theorem dX12_areEnough_49 : decode cX12_areEnough 49 = .ok (.iastore, 1) := by decide +kernel
theorem dX12_areEnough_50 : decode cX12_areEnough 50 = .ok (.iconst 1, 1) := by decide +kernel
theorem dX12_areEnough_51 : decode cX12_areEnough 51 = .ok (.ireturn, 1) := by decide +kernel
theorem dX12_points_0 : decode cX12_points 0 = .ok (.iload_n 1, 1) := by decide +kernel
theorem dX12_points_1 : decode cX12_points 1 = .ok (.iconst 1, 1) := by decide +kernel
theorem dX12_points_2 : decode cX12_points 2 = .ok (.iconst 3, 1) := by decide +kernel
theorem dX12_points_3 : decode cX12_points 3 = .ok (.invokestatic 212, 3) := by decide +kernel
theorem dX12_points_6 : decode cX12_points 6 = .ok (.ifCond .ne 5, 3) := by decide +kernel
theorem dX12_points_9 : decode cX12_points 9 = .ok (.iconst (-1), 1) := by decide +kernel
theorem dX12_points_10 : decode cX12_points 10 = .ok (.ireturn, 1) := by decide +kernel
theorem dX12_points_11 : decode cX12_points 11 = .ok (.aload_n 0, 1) := by decide +kernel
theorem dX12_points_12 : decode cX12_points 12 = .ok (.invokevirtual 346, 3) := by decide +kernel
theorem dX12_points_15 : decode cX12_points 15 = .ok (.sipush 1000, 3) := by decide +kernel
theorem dX12_points_18 : decode cX12_points 18 = .ok (.if_icmp .ne 5, 3) := by decide +kernel
theorem dX12_points_21 : decode cX12_points 21 = .ok (.iconst 0, 1) := by decide +kernel
theorem dX12_points_22 : decode cX12_points 22 = .ok (.ireturn, 1) := by decide +kernel
theorem dX12_points_23 : decode cX12_points 23 = .ok (.aload_n 0, 1) := by decide +kernel
theorem dX12_points_24 : decode cX12_points 24 = .ok (.invokevirtual 336, 3) := by decide +kernel
theorem dX12_points_27 : decode cX12_points 27 = .ok (.aload_n 0, 1) := by decide +kernel
theorem dX12_points_28 : decode cX12_points 28 = .ok (.iconst 0, 1) := by decide +kernel
theorem dX12_points_29 : decode cX12_points 29 = .ok (.invokevirtual 216, 3) := by decide +kernel
theorem dX12_points_32 : decode cX12_points 32 = .ok (.istore_n 2, 1) := by decide +kernel
theorem dX12_points_33 : decode cX12_points 33 = .ok (.aload_n 0, 1) := by decide +kernel
theorem dX12_points_34 : decode cX12_points 34 = .ok (.invokevirtual 208, 3) := by decide +kernel
theorem dX12_points_37 : decode cX12_points 37 = .ok (.istore_n 3, 1) := by decide +kernel
theorem dX12_points_38 : decode cX12_points 38 = .ok (.iload_n 3, 1) := by decide +kernel
theorem dX12_points_39 : decode cX12_points 39 = .ok (.iload_n 2, 1) := by decide +kernel
theorem dX12_points_40 : decode cX12_points 40 = .ok (.if_icmp .ge 22, 3) := by decide +kernel
theorem dX12_points_43 : decode cX12_points 43 = .ok (.aload_n 0, 1) := by decide +kernel
theorem dX12_points_44 : decode cX12_points 44 = .ok (.iload_n 3, 1) := by decide +kernel
theorem dX12_points_45 : decode cX12_points 45 = .ok (.iconst (-1), 1) := by decide +kernel
theorem dX12_points_46 : decode cX12_points 46 = .ok (.iconst (-1), 1) := by decide +kernel
theorem dX12_points_47 : decode cX12_points 47 = .ok (.iconst 1, 1) := by decide +kernel
theorem dX12_points_48 : decode cX12_points 48 = .ok (.invokevirtual 349, 3) := by decide +kernel
theorem dX12_points_51 : decode cX12_points 51 = .ok (.ifCond .eq 5, 3) := by decide +kernel
theorem dX12_points_54 : decode cX12_points 54 = .ok (.iconst 1, 1) := by decide +kernel
theorem dX12_points_55 : decode cX12_points 55 = .ok (.ireturn, 1) := by decide +kernel
theorem dX12_points_56 : decode cX12_points 56 = .ok (.iinc 3 1, 3) := by decide +kernel
theorem dX12_points_59 : decode cX12_points 59 = .ok (.goto (-21), 3) := by decide +kernel
theorem dX12_points_62 : decode cX12_points 62 = .ok (.aload_n 0, 1) := by decide +kernel
theorem dX12_points_63 : decode cX12_points 63 = .ok (.invokevirtual 208, 3) := by decide +kernel
theorem dX12_points_66 : decode cX12_points 66 = .ok (.istore_n 3, 1) := by decide +kernel
theorem dX12_points_67 : decode cX12_points 67 = .ok (.iload_n 3, 1) := by decide +kernel
theorem dX12_points_68 : decode cX12_points 68 = .ok (.iload_n 2, 1) := by decide +kernel
theorem dX12_points_69 : decode cX12_points 69 = .ok (.if_icmp .ge 45, 3) := by decide +kernel
theorem dX12_points_72 : decode cX12_points 72 = .ok (.iload_n 1, 1) := by decide +kernel
theorem dX12_points_73 : decode cX12_points 73 = .ok (.iconst 1, 1) := by decide +kernel
theorem dX12_points_74 : decode cX12_points 74 = .ok (.if_icmp .le 40, 3) := by decide +kernel
theorem dX12_points_77 : decode cX12_points 77 = .ok (.iload_n 3, 1) := by decide +kernel
theorem dX12_points_78 : decode cX12_points 78 = .ok (.iconst 1, 1) := by decide +kernel
theorem dX12_points_79 : decode cX12_points 79 = .ok (.iadd, 1) := by decide +kernel
theorem dX12_points_80 : decode cX12_points 80 = .ok (.istore 4, 2) := by decide +kernel
theorem dX12_points_82 : decode cX12_points 82 = .ok (.iload 4, 2) := by decide +kernel
theorem dX12_points_84 : decode cX12_points 84 = .ok (.iload_n 2, 1) := by decide +kernel
theorem dX12_points_85 : decode cX12_points 85 = .ok (.if_icmp .ge 23, 3) := by decide +kernel
theorem dX12_points_88 : decode cX12_points 88 = .ok (.aload_n 0, 1) := by decide +kernel
theorem dX12_points_89 : decode cX12_points 89 = .ok (.iload_n 3, 1) := by decide +kernel
theorem dX12_points_90 : decode cX12_points 90 = .ok (.iload 4, 2) := by decide +kernel
theorem dX12_points_92 : decode cX12_points 92 = .ok (.iconst (-1), 1) := by decide +kernel
theorem dX12_points_93 : decode cX12_points 93 = .ok (.iconst 2, 1) := by decide +kernel
theorem dX12_points_94 : decode cX12_points 94 = .ok (.invokevirtual 349, 3) := by decide +kernel
theorem dX12_points_97 : decode cX12_points 97 = .ok (.ifCond .eq 5, 3) := by decide +kernel
theorem dX12_points_100 : decode cX12_points 100 = .ok (.iconst 2, 1) := by decide +kernel
theorem dX12_points_101 : decode cX12_points 101 = .ok (.ireturn, 1) := by decide +kernel
theorem dX12_points_102 : decode cX12_points 102 = .ok (.iinc 4 1, 3) := by decide +kernel
theorem dX12_points_105 : decode cX12_points 105 = .ok (.goto (-23), 3) := by decide +kernel
theorem dX12_points_108 : decode cX12_points 108 = .ok (.iinc 3 1, 3) := by decide +kernel
theorem dX12_points_111 : decode cX12_points 111 = .ok (.goto (-44), 3) := by decide +kernel
theorem dX12_points_114 : decode cX12_points 114 = .ok (.aload_n 0, 1) := by decide +kernel
theorem dX12_points_115 : decode cX12_points 115 = .ok (.invokevirtual 208, 3) := by decide +kernel
theorem dX12_points_118 : decode cX12_points 118 = .ok (.istore_n 3, 1) := by decide +kernel
theorem dX12_points_119 : decode cX12_points 119 = .ok (.iload_n 3, 1) := by decide +kernel
theorem dX12_points_120 : decode cX12_points 120 = .ok (.iload_n 2, 1) := by decide +kernel
theorem dX12_points_121 : decode cX12_points 121 = .ok (.if_icmp .ge 64, 3) := by decide +kernel
theorem dX12_points_124 : decode cX12_points 124 = .ok (.iload_n 1, 1) := by decide +kernel
theorem dX12_points_125 : decode cX12_points 125 = .ok (.iconst 2, 1) := by decide +kernel
theorem dX12_points_126 : decode cX12_points 126 = .ok (.if_icmp .le 59, 3) := by decide +kernel
theorem dX12_points_129 : decode cX12_points 129 = .ok (.iload_n 3, 1) := by decide +kernel
theorem dX12_points_130 : decode cX12_points 130 = .ok (.iconst 1, 1) := by decide +kernel
theorem dX12_points_131 : decode cX12_points 131 = .ok (.iadd, 1) := by decide +kernel
theorem dX12_points_132 : decode cX12_points 132 = .ok (.istore 4, 2) := by decide +kernel
theorem dX12_points_134 : decode cX12_points 134 = .ok (.iload 4, 2) := by decide +kernel
theorem dX12_points_136 : decode cX12_points 136 = .ok (.iload_n 2, 1) := by decide +kernel
theorem dX12_points_137 : decode cX12_points 137 = .ok (.if_icmp .ge 42, 3) := by decide +kernel
theorem dX12_points_140 : decode cX12_points 140 = .ok (.iload 4, 2) := by decide +kernel
theorem dX12_points_142 : decode cX12_points 142 = .ok (.iconst 1, 1) := by decide +kernel
theorem dX12_points_143 : decode cX12_points 143 = .ok (.iadd, 1) := by decide +kernel
theorem dX12_points_144 : decode cX12_points 144 = .ok (.istore 5, 2) := by decide +kernel
theorem dX12_points_146 : decode cX12_points 146 = .ok (.iload 5, 2) := by decide +kernel
theorem dX12_points_148 : decode cX12_points 148 = .ok (.iload_n 2, 1) := by decide +kernel
theorem dX12_points_149 : decode cX12_points 149 = .ok (.if_icmp .ge 24, 3) := by decide +kernel
theorem dX12_points_152 : decode cX12_points 152 = .ok (.aload_n 0, 1) := by decide +kernel
theorem dX12_points_153 : decode cX12_points 153 = .ok (.iload_n 3, 1) := by decide +kernel
theorem dX12_points_154 : decode cX12_points 154 = .ok (.iload 4, 2) := by decide +kernel
theorem dX12_points_156 : decode cX12_points 156 = .ok (.iload 5, 2) := by decide +kernel
theorem dX12_points_158 : decode cX12_points 158 = .ok (.iconst 3, 1) := by decide +kernel
theorem dX12_points_159 : decode cX12_points 159 = .ok (.invokevirtual 349, 3) := by decide +kernel
theorem dX12_points_162 : decode cX12_points 162 = .ok (.ifCond .eq 5, 3) := by decide +kernel
theorem dX12_points_165 : decode cX12_points 165 = .ok (.iconst 3, 1) := by decide +kernel
theorem dX12_points_166 : decode cX12_points 166 = .ok (.ireturn, 1) := by decide +kernel
theorem dX12_points_167 : decode cX12_points 167 = .ok (.iinc 5 1, 3) := by decide +kernel
theorem dX12_points_170 : decode cX12_points 170 = .ok (.goto (-24), 3) := by decide +kernel
theorem dX12_points_173 : decode cX12_points 173 = .ok (.iinc 4 1, 3) := by decide +kernel
theorem dX12_points_176 : decode cX12_points 176 = .ok (.goto (-42), 3) := by decide +kernel
theorem dX12_points_179 : decode cX12_points 179 = .ok (.iinc 3 1, 3) := by decide +kernel
theorem dX12_points_182 : decode cX12_points 182 = .ok (.goto (-63), 3) := by decide +kernel
theorem dX12_points_185 : decode cX12_points 185 = .ok (.bipush (-4), 2) := by decide +kernel
theorem dX12_points_187 : decode cX12_points 187 = .ok (.ireturn, 1) := by decide +kernel
theorem dX12_point_0 : decode cX12_point 0 = .ok (.iload_n 1, 1) := by decide +kernel
theorem dX12_point_1 : decode cX12_point 1 = .ok (.iconst 0, 1) := by decide +kernel
theorem dX12_point_2 : decode cX12_point 2 = .ok (.aload_n 0, 1) := by decide +kernel
theorem dX12_point_3 : decode cX12_point 3 = .ok (.getfield 226, 3) := by decide +kernel
theorem dX12_point_6 : decode cX12_point 6 = .ok (.iconst 1, 1) := by decide +kernel
theorem dX12_point_7 : decode cX12_point 7 = .ok (.isub, 1) := by decide +kernel
theorem dX12_point_8 : decode cX12_point 8 = .ok (.invokestatic 212, 3) := by decide +kernel
theorem dX12_point_11 : decode cX12_point 11 = .ok (.ifCond .eq 12, 3) := by decide +kernel
theorem dX12_point_14 : decode cX12_point 14 = .ok (.aload_n 0, 1) := by decide +kernel
theorem dX12_point_15 : decode cX12_point 15 = .ok (.getfield 60, 3) := by decide +kernel
theorem dX12_point_18 : decode cX12_point 18 = .ok (.iload_n 1, 1) := by decide +kernel
theorem dX12_point_19 : decode cX12_point 19 = .ok (.iaload, 1) := by decide +kernel
theorem dX12_point_20 : decode cX12_point 20 = .ok (.goto 4, 3) := by decide +kernel
theorem dX12_point_23 : decode cX12_point 23 = .ok (.iconst (-1), 1) := by decide +kernel
theorem dX12_point_24 : decode cX12_point 24 = .ok (.ireturn, 1) := by decide +kernel
theorem dX12_mend_0 : decode cX12_mend 0 = .ok (.aload_n 0, 1) := by decide +kernel
theorem dX12_mend_1 : decode cX12_mend 1 = .ok (.iload_n 1, 1) := by decide +kernel
theorem dX12_mend_2 : decode cX12_mend 2 = .ok (.iload_n 2, 1) := by decide +kernel
theorem dX12_mend_3 : decode cX12_mend 3 = .ok (.iload_n 3, 1) := by decide +kernel
theorem dX12_mend_4 : decode cX12_mend 4 = .ok (.invokevirtual 332, 3) := by decide +kernel
theorem dX12_mend_7 : decode cX12_mend 7 = .ok (.istore 5, 2) := by decide +kernel
theorem dX12_mend_9 : decode cX12_mend 9 = .ok (.iload 5, 2) := by decide +kernel
theorem dX12_mend_11 : decode cX12_mend 11 = .ok (.ifCond .eq 12, 3) := by decide +kernel
theorem dX12_mend_14 : decode cX12_mend 14 = .ok (.aload_n 0, 1) := by decide +kernel
theorem dX12_mend_15 : decode cX12_mend 15 = .ok (.iload 4, 2) := by decide +kernel
theorem dX12_mend_17 : decode cX12_mend 17 = .ok (.invokevirtual 274, 3) := by decide +kernel
theorem dX12_mend_20 : decode cX12_mend 20 = .ok (.ifCond .ne 5, 3) := by decide +kernel
theorem dX12_mend_23 : decode cX12_mend 23 = .ok (.iconst (-1), 1) := by decide +kernel
theorem dX12_mend_24 : decode cX12_mend 24 = .ok (.ireturn, 1) := by decide +kernel
theorem dX12_mend_25 : decode cX12_mend 25 = .ok (.aload_n 0, 1) := by decide +kernel
theorem dX12_mend_26 : decode cX12_mend 26 = .ok (.invokevirtual 336, 3) := by decide +kernel
theorem dX12_mend_29 : decode cX12_mend 29 = .ok (.aload_n 0, 1) := by decide +kernel
theorem dX12_mend_30 : decode cX12_mend 30 = .ok (.iload_n 1, 1) := by decide +kernel
theorem dX12_mend_31 : decode cX12_mend 31 = .ok (.iload_n 2, 1) := by decide +kernel
theorem dX12_mend_32 : decode cX12_mend 32 = .ok (.iload_n 3, 1) := by decide +kernel
theorem dX12_mend_33 : decode cX12_mend 33 = .ok (.iload 5, 2) := by decide +kernel
theorem dX12_mend_35 : decode cX12_mend 35 = .ok (.invokevirtual 339, 3) := by decide +kernel
theorem dX12_mend_38 : decode cX12_mend 38 = .ok (.aload_n 0, 1) := by decide +kernel
theorem dX12_mend_39 : decode cX12_mend 39 = .ok (.iload 5, 2) := by decide +kernel
theorem dX12_mend_41 : decode cX12_mend 41 = .ok (.iload 4, 2) := by decide +kernel
theorem dX12_mend_43 : decode cX12_mend 43 = .ok (.invokevirtual 329, 3) := by decide +kernel
theorem dX12_mend_46 : decode cX12_mend 46 = .ok (.istore 6, 2) := by decide +kernel
theorem dX12_mend_48 : decode cX12_mend 48 = .ok (.iload 6, 2) := by decide +kernel
theorem dX12_mend_50 : decode cX12_mend 50 = .ok (.iconst (-1), 1) := by decide +kernel
theorem dX12_mend_51 : decode cX12_mend 51 = .ok (.if_icmp .ne 8, 3) := by decide +kernel
theorem dX12_mend_54 : decode cX12_mend 54 = .ok (.bipush (-4), 2) := by decide +kernel
theorem dX12_mend_56 : decode cX12_mend 56 = .ok (.goto 5, 3) := by decide +kernel
theorem dX12_mend_59 : decode cX12_mend 59 = .ok (.iload 6, 2) := by decide +kernel
theorem dX12_mend_61 : decode cX12_mend 61 = .ok (.ireturn, 1) := by decide +kernel
theorem dX12_isTape_0 : decode cX12_isTape 0 = .ok (.iload_n 0, 1) := by decide +kernel
theorem dX12_isTape_1 : decode cX12_isTape 1 = .ok (.iconst 0, 1) := by decide +kernel
theorem dX12_isTape_2 : decode cX12_isTape 2 = .ok (.iconst 5, 1) := by decide +kernel
theorem dX12_isTape_3 : decode cX12_isTape 3 = .ok (.invokestatic 212, 3) := by decide +kernel
theorem dX12_isTape_6 : decode cX12_isTape 6 = .ok (.ireturn, 1) := by decide +kernel
theorem dX12_witness_0 : decode cX12_witness 0 = .ok (.aload_n 0, 1) := by decide +kernel
theorem dX12_witness_1 : decode cX12_witness 1 = .ok (.iload_n 2, 1) := by decide +kernel
theorem dX12_witness_2 : decode cX12_witness 2 = .ok (.iload_n 3, 1) := by decide +kernel
theorem dX12_witness_3 : decode cX12_witness 3 = .ok (.iload 4, 2) := by decide +kernel
theorem dX12_witness_5 : decode cX12_witness 5 = .ok (.invokevirtual 332, 3) := by decide +kernel
theorem dX12_witness_8 : decode cX12_witness 8 = .ok (.istore 5, 2) := by decide +kernel
theorem dX12_witness_10 : decode cX12_witness 10 = .ok (.iload_n 1, 1) := by decide +kernel
theorem dX12_witness_11 : decode cX12_witness 11 = .ok (.invokestatic 353, 3) := by decide +kernel
theorem dX12_witness_14 : decode cX12_witness 14 = .ok (.ifCond .eq 8, 3) := by decide +kernel
theorem dX12_witness_17 : decode cX12_witness 17 = .ok (.iload 5, 2) := by decide +kernel
theorem dX12_witness_19 : decode cX12_witness 19 = .ok (.ifCond .ne 5, 3) := by decide +kernel
theorem dX12_witness_22 : decode cX12_witness 22 = .ok (.iconst (-1), 1) := by decide +kernel
theorem dX12_witness_23 : decode cX12_witness 23 = .ok (.ireturn, 1) := by decide +kernel
theorem dX12_witness_24 : decode cX12_witness 24 = .ok (.aload_n 0, 1) := by decide +kernel
theorem dX12_witness_25 : decode cX12_witness 25 = .ok (.invokevirtual 336, 3) := by decide +kernel
theorem dX12_witness_28 : decode cX12_witness 28 = .ok (.aload_n 0, 1) := by decide +kernel
theorem dX12_witness_29 : decode cX12_witness 29 = .ok (.iload_n 2, 1) := by decide +kernel
theorem dX12_witness_30 : decode cX12_witness 30 = .ok (.iload_n 3, 1) := by decide +kernel
theorem dX12_witness_31 : decode cX12_witness 31 = .ok (.iload 4, 2) := by decide +kernel
theorem dX12_witness_33 : decode cX12_witness 33 = .ok (.iload 5, 2) := by decide +kernel
theorem dX12_witness_35 : decode cX12_witness 35 = .ok (.invokevirtual 339, 3) := by decide +kernel
theorem dX12_witness_38 : decode cX12_witness 38 = .ok (.aload_n 0, 1) := by decide +kernel
theorem dX12_witness_39 : decode cX12_witness 39 = .ok (.iload 5, 2) := by decide +kernel
theorem dX12_witness_41 : decode cX12_witness 41 = .ok (.invokevirtual 343, 3) := by decide +kernel
theorem dX12_witness_44 : decode cX12_witness 44 = .ok (.sipush 1000, 3) := by decide +kernel
theorem dX12_witness_47 : decode cX12_witness 47 = .ok (.if_icmp .eq 6, 3) := by decide +kernel
theorem dX12_witness_50 : decode cX12_witness 50 = .ok (.bipush (-4), 2) := by decide +kernel
theorem dX12_witness_52 : decode cX12_witness 52 = .ok (.ireturn, 1) := by decide +kernel
theorem dX12_witness_53 : decode cX12_witness 53 = .ok (.aload_n 0, 1) := by decide +kernel
theorem dX12_witness_54 : decode cX12_witness 54 = .ok (.getfield 105, 3) := by decide +kernel
theorem dX12_witness_57 : decode cX12_witness 57 = .ok (.iload_n 1, 1) := by decide +kernel
theorem dX12_witness_58 : decode cX12_witness 58 = .ok (.iconst 1, 1) := by decide +kernel
theorem dX12_witness_59 : decode cX12_witness 59 = .ok (.iastore, 1) := by decide +kernel
theorem dX12_witness_60 : decode cX12_witness 60 = .ok (.aload_n 0, 1) := by decide +kernel
theorem dX12_witness_61 : decode cX12_witness 61 = .ok (.getfield 108, 3) := by decide +kernel
theorem dX12_witness_64 : decode cX12_witness 64 = .ok (.iload_n 1, 1) := by decide +kernel
theorem dX12_witness_65 : decode cX12_witness 65 = .ok (.aload_n 0, 1) := by decide +kernel
theorem dX12_witness_66 : decode cX12_witness 66 = .ok (.invokevirtual 242, 3) := by decide +kernel
theorem dX12_witness_69 : decode cX12_witness 69 = .ok (.iastore, 1) := by decide +kernel
theorem dX12_witness_70 : decode cX12_witness 70 = .ok (.iconst 0, 1) := by decide +kernel
theorem dX12_witness_71 : decode cX12_witness 71 = .ok (.istore 6, 2) := by decide +kernel
theorem dX12_witness_73 : decode cX12_witness 73 = .ok (.iload 6, 2) := by decide +kernel
theorem dX12_witness_75 : decode cX12_witness 75 = .ok (.aload_n 0, 1) := by decide +kernel
theorem dX12_witness_76 : decode cX12_witness 76 = .ok (.invokevirtual 242, 3) := by decide +kernel
theorem dX12_witness_79 : decode cX12_witness 79 = .ok (.if_icmp .ge 45, 3) := by decide +kernel
theorem dX12_witness_82 : decode cX12_witness 82 = .ok (.aload_n 0, 1) := by decide +kernel
theorem dX12_witness_83 : decode cX12_witness 83 = .ok (.getfield 111, 3) := by decide +kernel
theorem dX12_witness_86 : decode cX12_witness 86 = .ok (.sipush 256, 3) := by decide +kernel
theorem dX12_witness_89 : decode cX12_witness 89 = .ok (.iload_n 1, 1) := by decide +kernel
theorem dX12_witness_90 : decode cX12_witness 90 = .ok (.imul, 1) := by decide +kernel
theorem dX12_witness_91 : decode cX12_witness 91 = .ok (.iload 6, 2) := by decide +kernel
theorem dX12_witness_93 : decode cX12_witness 93 = .ok (.iadd, 1) := by decide +kernel
theorem dX12_witness_94 : decode cX12_witness 94 = .ok (.aload_n 0, 1) := by decide +kernel
theorem dX12_witness_95 : decode cX12_witness 95 = .ok (.getfield 32, 3) := by decide +kernel
theorem dX12_witness_98 : decode cX12_witness 98 = .ok (.iload 6, 2) := by decide +kernel
theorem dX12_witness_100 : decode cX12_witness 100 = .ok (.baload, 1) := by decide +kernel
theorem dX12_witness_101 : decode cX12_witness 101 = .ok (.ifCond .eq 7, 3) := by decide +kernel
theorem dX12_witness_104 : decode cX12_witness 104 = .ok (.lconst 0, 1) := by decide +kernel
theorem dX12_witness_105 : decode cX12_witness 105 = .ok (.goto 12, 3) := by decide +kernel
theorem dX12_witness_108 : decode cX12_witness 108 = .ok (.aload_n 0, 1) := by decide +kernel
theorem dX12_witness_109 : decode cX12_witness 109 = .ok (.iload 5, 2) := by decide +kernel
theorem dX12_witness_111 : decode cX12_witness 111 = .ok (.iload 6, 2) := by decide +kernel
theorem dX12_witness_113 : decode cX12_witness 113 = .ok (.invokevirtual 329, 3) := by decide +kernel
theorem dX12_witness_116 : decode cX12_witness 116 = .ok (.i2l, 1) := by decide +kernel
theorem dX12_witness_117 : decode cX12_witness 117 = .ok (.lastore, 1) := by decide +kernel
theorem dX12_witness_118 : decode cX12_witness 118 = .ok (.iinc 6 1, 3) := by decide +kernel
theorem dX12_witness_121 : decode cX12_witness 121 = .ok (.goto (-48), 3) := by decide +kernel
theorem dX12_witness_124 : decode cX12_witness 124 = .ok (.aload_n 0, 1) := by decide +kernel
theorem dX12_witness_125 : decode cX12_witness 125 = .ok (.invokevirtual 242, 3) := by decide +kernel
theorem dX12_witness_128 : decode cX12_witness 128 = .ok (.ireturn, 1) := by decide +kernel
theorem dX12_judge_0 : decode cX12_judge 0 = .ok (.aload_n 0, 1) := by decide +kernel
theorem dX12_judge_1 : decode cX12_judge 1 = .ok (.iload_n 2, 1) := by decide +kernel
theorem dX12_judge_2 : decode cX12_judge 2 = .ok (.iload_n 3, 1) := by decide +kernel
theorem dX12_judge_3 : decode cX12_judge 3 = .ok (.iload 4, 2) := by decide +kernel
theorem dX12_judge_5 : decode cX12_judge 5 = .ok (.invokevirtual 332, 3) := by decide +kernel
theorem dX12_judge_8 : decode cX12_judge 8 = .ok (.istore 5, 2) := by decide +kernel
theorem dX12_judge_10 : decode cX12_judge 10 = .ok (.iload_n 1, 1) := by decide +kernel
theorem dX12_judge_11 : decode cX12_judge 11 = .ok (.invokestatic 353, 3) := by decide +kernel
theorem dX12_judge_14 : decode cX12_judge 14 = .ok (.ifCond .eq 8, 3) := by decide +kernel
theorem dX12_judge_17 : decode cX12_judge 17 = .ok (.iload 5, 2) := by decide +kernel
theorem dX12_judge_19 : decode cX12_judge 19 = .ok (.ifCond .ne 5, 3) := by decide +kernel
theorem dX12_judge_22 : decode cX12_judge 22 = .ok (.iconst (-1), 1) := by decide +kernel
theorem dX12_judge_23 : decode cX12_judge 23 = .ok (.ireturn, 1) := by decide +kernel
theorem dX12_judge_24 : decode cX12_judge 24 = .ok (.aload_n 0, 1) := by decide +kernel
theorem dX12_judge_25 : decode cX12_judge 25 = .ok (.getfield 105, 3) := by decide +kernel
theorem dX12_judge_28 : decode cX12_judge 28 = .ok (.iload_n 1, 1) := by decide +kernel
theorem dX12_judge_29 : decode cX12_judge 29 = .ok (.iaload, 1) := by decide +kernel
theorem dX12_judge_30 : decode cX12_judge 30 = .ok (.ifCond .ne 10, 3) := by decide +kernel
theorem dX12_judge_33 : decode cX12_judge 33 = .ok (.aload_n 0, 1) := by decide +kernel
theorem dX12_judge_34 : decode cX12_judge 34 = .ok (.bipush (-11), 2) := by decide +kernel
theorem dX12_judge_36 : decode cX12_judge 36 = .ok (.invokevirtual 356, 3) := by decide +kernel
theorem dX12_judge_39 : decode cX12_judge 39 = .ok (.ireturn, 1) := by decide +kernel
theorem dX12_judge_40 : decode cX12_judge 40 = .ok (.aload_n 0, 1) := by decide +kernel
theorem dX12_judge_41 : decode cX12_judge 41 = .ok (.getfield 105, 3) := by decide +kernel
theorem dX12_judge_44 : decode cX12_judge 44 = .ok (.iload_n 1, 1) := by decide +kernel
theorem dX12_judge_45 : decode cX12_judge 45 = .ok (.iaload, 1) := by decide +kernel
theorem dX12_judge_46 : decode cX12_judge 46 = .ok (.iconst 1, 1) := by decide +kernel
theorem dX12_judge_47 : decode cX12_judge 47 = .ok (.if_icmp .eq 10, 3) := by decide +kernel
theorem dX12_judge_50 : decode cX12_judge 50 = .ok (.aload_n 0, 1) := by decide +kernel
theorem dX12_judge_51 : decode cX12_judge 51 = .ok (.bipush (-12), 2) := by decide +kernel
theorem dX12_judge_53 : decode cX12_judge 53 = .ok (.invokevirtual 356, 3) := by decide +kernel
theorem dX12_judge_56 : decode cX12_judge 56 = .ok (.ireturn, 1) := by decide +kernel
theorem dX12_judge_57 : decode cX12_judge 57 = .ok (.aload_n 0, 1) := by decide +kernel
theorem dX12_judge_58 : decode cX12_judge 58 = .ok (.invokevirtual 336, 3) := by decide +kernel
theorem dX12_judge_61 : decode cX12_judge 61 = .ok (.aload_n 0, 1) := by decide +kernel
theorem dX12_judge_62 : decode cX12_judge 62 = .ok (.iload_n 2, 1) := by decide +kernel
theorem dX12_judge_63 : decode cX12_judge 63 = .ok (.iload_n 3, 1) := by decide +kernel
theorem dX12_judge_64 : decode cX12_judge 64 = .ok (.iload 4, 2) := by decide +kernel
theorem dX12_judge_66 : decode cX12_judge 66 = .ok (.iload 5, 2) := by decide +kernel
theorem dX12_judge_68 : decode cX12_judge 68 = .ok (.invokevirtual 339, 3) := by decide +kernel
theorem dX12_judge_71 : decode cX12_judge 71 = .ok (.iconst 0, 1) := by decide +kernel
theorem dX12_judge_72 : decode cX12_judge 72 = .ok (.istore 6, 2) := by decide +kernel
theorem dX12_judge_74 : decode cX12_judge 74 = .ok (.iload 6, 2) := by decide +kernel
theorem dX12_judge_76 : decode cX12_judge 76 = .ok (.aload_n 0, 1) := by decide +kernel
theorem dX12_judge_77 : decode cX12_judge 77 = .ok (.invokevirtual 242, 3) := by decide +kernel
theorem dX12_judge_80 : decode cX12_judge 80 = .ok (.if_icmp .ge 85, 3) := by decide +kernel
theorem dX12_judge_83 : decode cX12_judge 83 = .ok (.aload_n 0, 1) := by decide +kernel
theorem dX12_judge_84 : decode cX12_judge 84 = .ok (.getfield 32, 3) := by decide +kernel
theorem dX12_judge_87 : decode cX12_judge 87 = .ok (.iload 6, 2) := by decide +kernel
theorem dX12_judge_89 : decode cX12_judge 89 = .ok (.baload, 1) := by decide +kernel
theorem dX12_judge_90 : decode cX12_judge 90 = .ok (.ifCond .ne 69, 3) := by decide +kernel
theorem dX12_judge_93 : decode cX12_judge 93 = .ok (.iload 6, 2) := by decide +kernel
theorem dX12_judge_95 : decode cX12_judge 95 = .ok (.aload_n 0, 1) := by decide +kernel
theorem dX12_judge_96 : decode cX12_judge 96 = .ok (.getfield 108, 3) := by decide +kernel
theorem dX12_judge_99 : decode cX12_judge 99 = .ok (.iload_n 1, 1) := by decide +kernel
theorem dX12_judge_100 : decode cX12_judge 100 = .ok (.iaload, 1) := by decide +kernel
theorem dX12_judge_101 : decode cX12_judge 101 = .ok (.if_icmp .lt 10, 3) := by decide +kernel
theorem dX12_judge_104 : decode cX12_judge 104 = .ok (.aload_n 0, 1) := by decide +kernel
theorem dX12_judge_105 : decode cX12_judge 105 = .ok (.bipush (-13), 2) := by decide +kernel
theorem dX12_judge_107 : decode cX12_judge 107 = .ok (.invokevirtual 356, 3) := by decide +kernel
theorem dX12_judge_110 : decode cX12_judge 110 = .ok (.ireturn, 1) := by decide +kernel
theorem dX12_judge_111 : decode cX12_judge 111 = .ok (.aload_n 0, 1) := by decide +kernel
theorem dX12_judge_112 : decode cX12_judge 112 = .ok (.getfield 111, 3) := by decide +kernel
theorem dX12_judge_115 : decode cX12_judge 115 = .ok (.sipush 256, 3) := by decide +kernel
theorem dX12_judge_118 : decode cX12_judge 118 = .ok (.iload_n 1, 1) := by decide +kernel
theorem dX12_judge_119 : decode cX12_judge 119 = .ok (.imul, 1) := by decide +kernel
theorem dX12_judge_120 : decode cX12_judge 120 = .ok (.iload 6, 2) := by decide +kernel
theorem dX12_judge_122 : decode cX12_judge 122 = .ok (.iadd, 1) := by decide +kernel
theorem dX12_judge_123 : decode cX12_judge 123 = .ok (.laload, 1) := by decide +kernel
theorem dX12_judge_124 : decode cX12_judge 124 = .ok (.lstore 7, 2) := by decide +kernel
theorem dX12_judge_126 : decode cX12_judge 126 = .ok (.lload 7, 2) := by decide +kernel
theorem dX12_judge_128 : decode cX12_judge 128 = .ok (.lconst 0, 1) := by decide +kernel
theorem dX12_judge_129 : decode cX12_judge 129 = .ok (.lcmp, 1) := by decide +kernel
theorem dX12_judge_130 : decode cX12_judge 130 = .ok (.ifCond .lt 26, 3) := by decide +kernel
theorem dX12_judge_133 : decode cX12_judge 133 = .ok (.lload 7, 2) := by decide +kernel
theorem dX12_judge_135 : decode cX12_judge 135 = .ok (.iconst 1, 1) := by decide +kernel
theorem dX12_judge_136 : decode cX12_judge 136 = .ok (.iload 5, 2) := by decide +kernel
theorem dX12_judge_138 : decode cX12_judge 138 = .ok (.ishl, 1) := by decide +kernel
theorem dX12_judge_139 : decode cX12_judge 139 = .ok (.i2l, 1) := by decide +kernel
theorem dX12_judge_140 : decode cX12_judge 140 = .ok (.lcmp, 1) := by decide +kernel
theorem dX12_judge_141 : decode cX12_judge 141 = .ok (.ifCond .ge 15, 3) := by decide +kernel
theorem dX12_judge_144 : decode cX12_judge 144 = .ok (.aload_n 0, 1) := by decide +kernel
theorem dX12_judge_145 : decode cX12_judge 145 = .ok (.lload 7, 2) := by decide +kernel
theorem dX12_judge_147 : decode cX12_judge 147 = .ok (.l2i, 1) := by decide +kernel
theorem dX12_judge_148 : decode cX12_judge 148 = .ok (.iload 6, 2) := by decide +kernel
theorem dX12_judge_150 : decode cX12_judge 150 = .ok (.invokevirtual 326, 3) := by decide +kernel
theorem dX12_judge_153 : decode cX12_judge 153 = .ok (.ifCond .ne 6, 3) := by decide +kernel
theorem dX12_judge_156 : decode cX12_judge 156 = .ok (.iload 6, 2) := by decide +kernel
theorem dX12_judge_158 : decode cX12_judge 158 = .ok (.ireturn, 1) := by decide +kernel
theorem dX12_judge_159 : decode cX12_judge 159 = .ok (.iinc 6 1, 3) := by decide +kernel
theorem dX12_judge_162 : decode cX12_judge 162 = .ok (.goto (-88), 3) := by decide +kernel
theorem dX12_judge_165 : decode cX12_judge 165 = .ok (.sipush 1000, 3) := by decide +kernel
theorem dX12_judge_168 : decode cX12_judge 168 = .ok (.ireturn, 1) := by decide +kernel
theorem dX12_functions_0 : decode cX12_functions 0 = .ok (.iconst 1, 1) := by decide +kernel
theorem dX12_functions_1 : decode cX12_functions 1 = .ok (.iconst 1, 1) := by decide +kernel
theorem dX12_functions_2 : decode cX12_functions 2 = .ok (.iload_n 0, 1) := by decide +kernel
theorem dX12_functions_3 : decode cX12_functions 3 = .ok (.ishl, 1) := by decide +kernel
theorem dX12_functions_4 : decode cX12_functions 4 = .ok (.ishl, 1) := by decide +kernel
theorem dX12_functions_5 : decode cX12_functions 5 = .ok (.ireturn, 1) := by decide +kernel
theorem dX12_projection_0 : decode cX12_projection 0 = .ok (.iconst 0, 1) := by decide +kernel
theorem dX12_projection_1 : decode cX12_projection 1 = .ok (.istore_n 2, 1) := by decide +kernel
theorem dX12_projection_2 : decode cX12_projection 2 = .ok (.iconst 0, 1) := by decide +kernel
theorem dX12_projection_3 : decode cX12_projection 3 = .ok (.istore_n 3, 1) := by decide +kernel
theorem dX12_projection_4 : decode cX12_projection 4 = .ok (.iload_n 3, 1) := by decide +kernel
theorem dX12_projection_5 : decode cX12_projection 5 = .ok (.iconst 1, 1) := by decide +kernel
theorem dX12_projection_6 : decode cX12_projection 6 = .ok (.iload_n 0, 1) := by decide +kernel
theorem dX12_projection_7 : decode cX12_projection 7 = .ok (.ishl, 1) := by decide +kernel
theorem dX12_projection_8 : decode cX12_projection 8 = .ok (.if_icmp .ge 19, 3) := by decide +kernel
theorem dX12_projection_11 : decode cX12_projection 11 = .ok (.iload_n 2, 1) := by decide +kernel
theorem dX12_projection_12 : decode cX12_projection 12 = .ok (.iload_n 3, 1) := by decide +kernel
theorem dX12_projection_13 : decode cX12_projection 13 = .ok (.iload_n 1, 1) := by decide +kernel
theorem dX12_projection_14 : decode cX12_projection 14 = .ok (.ishr, 1) := by decide +kernel
theorem dX12_projection_15 : decode cX12_projection 15 = .ok (.iconst 1, 1) := by decide +kernel
theorem dX12_projection_16 : decode cX12_projection 16 = .ok (.iand, 1) := by decide +kernel
theorem dX12_projection_17 : decode cX12_projection 17 = .ok (.iload_n 3, 1) := by decide +kernel
theorem dX12_projection_18 : decode cX12_projection 18 = .ok (.ishl, 1) := by decide +kernel
theorem dX12_projection_19 : decode cX12_projection 19 = .ok (.ior, 1) := by decide +kernel
theorem dX12_projection_20 : decode cX12_projection 20 = .ok (.istore_n 2, 1) := by decide +kernel
theorem dX12_projection_21 : decode cX12_projection 21 = .ok (.iinc 3 1, 3) := by decide +kernel
theorem dX12_projection_24 : decode cX12_projection 24 = .ok (.goto (-20), 3) := by decide +kernel
theorem dX12_projection_27 : decode cX12_projection 27 = .ok (.iload_n 2, 1) := by decide +kernel
theorem dX12_projection_28 : decode cX12_projection 28 = .ok (.ireturn, 1) := by decide +kernel
theorem dX12_joined_0 : decode cX12_joined 0 = .ok (.iload_n 0, 1) := by decide +kernel
theorem dX12_joined_1 : decode cX12_joined 1 = .ok (.iload_n 2, 1) := by decide +kernel
theorem dX12_joined_2 : decode cX12_joined 2 = .ok (.i2l, 1) := by decide +kernel
theorem dX12_joined_3 : decode cX12_joined 3 = .ok (.iload_n 3, 1) := by decide +kernel
theorem dX12_joined_4 : decode cX12_joined 4 = .ok (.i2l, 1) := by decide +kernel
theorem dX12_joined_5 : decode cX12_joined 5 = .ok (.invokestatic 283, 3) := by decide +kernel
theorem dX12_joined_8 : decode cX12_joined 8 = .ok (.l2i, 1) := by decide +kernel
theorem dX12_joined_9 : decode cX12_joined 9 = .ok (.iload_n 1, 1) := by decide +kernel
theorem dX12_joined_10 : decode cX12_joined 10 = .ok (.iand, 1) := by decide +kernel
theorem dX12_joined_11 : decode cX12_joined 11 = .ok (.ireturn, 1) := by decide +kernel
theorem dX12_lacks_0 : decode cX12_lacks 0 = .ok (.iconst 0, 1) := by decide +kernel
theorem dX12_lacks_1 : decode cX12_lacks 1 = .ok (.istore_n 2, 1) := by decide +kernel
theorem dX12_lacks_2 : decode cX12_lacks 2 = .ok (.iconst 0, 1) := by decide +kernel
theorem dX12_lacks_3 : decode cX12_lacks 3 = .ok (.istore_n 3, 1) := by decide +kernel
theorem dX12_lacks_4 : decode cX12_lacks 4 = .ok (.iload_n 3, 1) := by decide +kernel
theorem dX12_lacks_5 : decode cX12_lacks 5 = .ok (.iload_n 1, 1) := by decide +kernel
theorem dX12_lacks_6 : decode cX12_lacks 6 = .ok (.if_icmp .gt 29, 3) := by decide +kernel
theorem dX12_lacks_9 : decode cX12_lacks 9 = .ok (.iload_n 2, 1) := by decide +kernel
theorem dX12_lacks_10 : decode cX12_lacks 10 = .ok (.ifCond .ne 13, 3) := by decide +kernel
theorem dX12_lacks_13 : decode cX12_lacks 13 = .ok (.aload_n 0, 1) := by decide +kernel
theorem dX12_lacks_14 : decode cX12_lacks 14 = .ok (.getfield 166, 3) := by decide +kernel
theorem dX12_lacks_17 : decode cX12_lacks 17 = .ok (.iload_n 3, 1) := by decide +kernel
theorem dX12_lacks_18 : decode cX12_lacks 18 = .ok (.iaload, 1) := by decide +kernel
theorem dX12_lacks_19 : decode cX12_lacks 19 = .ok (.iconst (-1), 1) := by decide +kernel
theorem dX12_lacks_20 : decode cX12_lacks 20 = .ok (.if_icmp .ne 7, 3) := by decide +kernel
theorem dX12_lacks_23 : decode cX12_lacks 23 = .ok (.iconst 1, 1) := by decide +kernel
theorem dX12_lacks_24 : decode cX12_lacks 24 = .ok (.goto 4, 3) := by decide +kernel
theorem dX12_lacks_27 : decode cX12_lacks 27 = .ok (.iconst 0, 1) := by decide +kernel
theorem dX12_lacks_28 : decode cX12_lacks 28 = .ok (.istore_n 2, 1) := by decide +kernel
theorem dX12_lacks_29 : decode cX12_lacks 29 = .ok (.iinc 3 1, 3) := by decide +kernel
theorem dX12_lacks_32 : decode cX12_lacks 32 = .ok (.goto (-28), 3) := by decide +kernel
theorem dX12_lacks_35 : decode cX12_lacks 35 = .ok (.iload_n 2, 1) := by decide +kernel
theorem dX12_lacks_36 : decode cX12_lacks 36 = .ok (.ireturn, 1) := by decide +kernel
theorem dX12_joins_0 : decode cX12_joins 0 = .ok (.iconst 0, 1) := by decide +kernel
theorem dX12_joins_1 : decode cX12_joins 1 = .ok (.istore_n 3, 1) := by decide +kernel
theorem dX12_joins_2 : decode cX12_joins 2 = .ok (.iload_n 3, 1) := by decide +kernel
theorem dX12_joins_3 : decode cX12_joins 3 = .ok (.iload_n 1, 1) := by decide +kernel
theorem dX12_joins_4 : decode cX12_joins 4 = .ok (.if_icmp .gt 161, 3) := by decide +kernel
theorem dX12_joins_7 : decode cX12_joins 7 = .ok (.aload_n 0, 1) := by decide +kernel
theorem dX12_joins_8 : decode cX12_joins 8 = .ok (.getfield 166, 3) := by decide +kernel
theorem dX12_joins_11 : decode cX12_joins 11 = .ok (.iload_n 3, 1) := by decide +kernel
theorem dX12_joins_12 : decode cX12_joins 12 = .ok (.iaload, 1) := by decide +kernel
theorem dX12_joins_13 : decode cX12_joins 13 = .ok (.iload_n 2, 1) := by decide +kernel
theorem dX12_joins_14 : decode cX12_joins 14 = .ok (.iconst 1, 1) := by decide +kernel
theorem dX12_joins_15 : decode cX12_joins 15 = .ok (.isub, 1) := by decide +kernel
theorem dX12_joins_16 : decode cX12_joins 16 = .ok (.if_icmp .ne 24, 3) := by decide +kernel
theorem dX12_joins_19 : decode cX12_joins 19 = .ok (.aload_n 0, 1) := by decide +kernel
theorem dX12_joins_20 : decode cX12_joins 20 = .ok (.getfield 166, 3) := by decide +kernel
theorem dX12_joins_23 : decode cX12_joins 23 = .ok (.iload_n 3, 1) := by decide +kernel
theorem dX12_joins_24 : decode cX12_joins 24 = .ok (.iload_n 1, 1) := by decide +kernel
theorem dX12_joins_25 : decode cX12_joins 25 = .ok (.ixor, 1) := by decide +kernel
theorem dX12_joins_26 : decode cX12_joins 26 = .ok (.iaload, 1) := by decide +kernel
theorem dX12_joins_27 : decode cX12_joins 27 = .ok (.iconst (-1), 1) := by decide +kernel
theorem dX12_joins_28 : decode cX12_joins 28 = .ok (.if_icmp .ne 12, 3) := by decide +kernel
theorem dX12_joins_31 : decode cX12_joins 31 = .ok (.aload_n 0, 1) := by decide +kernel
theorem dX12_joins_32 : decode cX12_joins 32 = .ok (.getfield 166, 3) := by decide +kernel
theorem dX12_joins_35 : decode cX12_joins 35 = .ok (.iload_n 3, 1) := by decide +kernel
theorem dX12_joins_36 : decode cX12_joins 36 = .ok (.iload_n 1, 1) := by decide +kernel
theorem dX12_joins_37 : decode cX12_joins 37 = .ok (.ixor, 1) := by decide +kernel
theorem dX12_joins_38 : decode cX12_joins 38 = .ok (.iload_n 2, 1) := by decide +kernel
theorem dX12_joins_39 : decode cX12_joins 39 = .ok (.iastore, 1) := by decide +kernel
theorem dX12_joins_40 : decode cX12_joins 40 = .ok (.iconst 0, 1) := by decide +kernel
theorem dX12_joins_41 : decode cX12_joins 41 = .ok (.istore 4, 2) := by decide +kernel
theorem dX12_joins_43 : decode cX12_joins 43 = .ok (.iload 4, 2) := by decide +kernel
theorem dX12_joins_45 : decode cX12_joins 45 = .ok (.iload_n 1, 1) := by decide +kernel
theorem dX12_joins_46 : decode cX12_joins 46 = .ok (.if_icmp .gt 113, 3) := by decide +kernel
theorem dX12_joins_49 : decode cX12_joins 49 = .ok (.aload_n 0, 1) := by decide +kernel
theorem dX12_joins_50 : decode cX12_joins 50 = .ok (.getfield 166, 3) := by decide +kernel
theorem dX12_joins_53 : decode cX12_joins 53 = .ok (.iload_n 3, 1) := by decide +kernel
theorem dX12_joins_54 : decode cX12_joins 54 = .ok (.iaload, 1) := by decide +kernel
theorem dX12_joins_55 : decode cX12_joins 55 = .ok (.ifCond .lt 104, 3) := by decide +kernel
theorem dX12_joins_58 : decode cX12_joins 58 = .ok (.aload_n 0, 1) := by decide +kernel
theorem dX12_joins_59 : decode cX12_joins 59 = .ok (.getfield 166, 3) := by decide +kernel
theorem dX12_joins_62 : decode cX12_joins 62 = .ok (.iload_n 3, 1) := by decide +kernel
theorem dX12_joins_63 : decode cX12_joins 63 = .ok (.iaload, 1) := by decide +kernel
theorem dX12_joins_64 : decode cX12_joins 64 = .ok (.iload_n 2, 1) := by decide +kernel
theorem dX12_joins_65 : decode cX12_joins 65 = .ok (.if_icmp .ge 94, 3) := by decide +kernel
theorem dX12_joins_68 : decode cX12_joins 68 = .ok (.iconst 1, 1) := by decide +kernel
theorem dX12_joins_69 : decode cX12_joins 69 = .ok (.istore 5, 2) := by decide +kernel
theorem dX12_joins_71 : decode cX12_joins 71 = .ok (.iload 5, 2) := by decide +kernel
theorem dX12_joins_73 : decode cX12_joins 73 = .ok (.iconst 5, 1) := by decide +kernel
theorem dX12_joins_74 : decode cX12_joins 74 = .ok (.if_icmp .gt 79, 3) := by decide +kernel
theorem dX12_joins_77 : decode cX12_joins 77 = .ok (.aload_n 0, 1) := by decide +kernel
theorem dX12_joins_78 : decode cX12_joins 78 = .ok (.getfield 166, 3) := by decide +kernel
theorem dX12_joins_81 : decode cX12_joins 81 = .ok (.iload 4, 2) := by decide +kernel
theorem dX12_joins_83 : decode cX12_joins 83 = .ok (.iaload, 1) := by decide +kernel
theorem dX12_joins_84 : decode cX12_joins 84 = .ok (.ifCond .lt 69, 3) := by decide +kernel
theorem dX12_joins_87 : decode cX12_joins 87 = .ok (.aload_n 0, 1) := by decide +kernel
theorem dX12_joins_88 : decode cX12_joins 88 = .ok (.getfield 166, 3) := by decide +kernel
theorem dX12_joins_91 : decode cX12_joins 91 = .ok (.iload_n 3, 1) := by decide +kernel
theorem dX12_joins_92 : decode cX12_joins 92 = .ok (.iaload, 1) := by decide +kernel
theorem dX12_joins_93 : decode cX12_joins 93 = .ok (.aload_n 0, 1) := by decide +kernel
theorem dX12_joins_94 : decode cX12_joins 94 = .ok (.getfield 166, 3) := by decide +kernel
theorem dX12_joins_97 : decode cX12_joins 97 = .ok (.iload 4, 2) := by decide +kernel
theorem dX12_joins_99 : decode cX12_joins 99 = .ok (.iaload, 1) := by decide +kernel
theorem dX12_joins_100 : decode cX12_joins 100 = .ok (.iadd, 1) := by decide +kernel
theorem dX12_joins_101 : decode cX12_joins 101 = .ok (.iload_n 2, 1) := by decide +kernel
theorem dX12_joins_102 : decode cX12_joins 102 = .ok (.iconst 1, 1) := by decide +kernel
theorem dX12_joins_103 : decode cX12_joins 103 = .ok (.isub, 1) := by decide +kernel
theorem dX12_joins_104 : decode cX12_joins 104 = .ok (.if_icmp .ne 49, 3) := by decide +kernel
theorem dX12_joins_107 : decode cX12_joins 107 = .ok (.iload 5, 2) := by decide +kernel
theorem dX12_joins_109 : decode cX12_joins 109 = .ok (.iload_n 1, 1) := by decide +kernel
theorem dX12_joins_110 : decode cX12_joins 110 = .ok (.iload_n 3, 1) := by decide +kernel
theorem dX12_joins_111 : decode cX12_joins 111 = .ok (.iload 4, 2) := by decide +kernel
theorem dX12_joins_113 : decode cX12_joins 113 = .ok (.invokestatic 371, 3) := by decide +kernel
theorem dX12_joins_116 : decode cX12_joins 116 = .ok (.istore 6, 2) := by decide +kernel
theorem dX12_joins_118 : decode cX12_joins 118 = .ok (.aload_n 0, 1) := by decide +kernel
theorem dX12_joins_119 : decode cX12_joins 119 = .ok (.getfield 166, 3) := by decide +kernel
theorem dX12_joins_122 : decode cX12_joins 122 = .ok (.iload 6, 2) := by decide +kernel
theorem dX12_joins_124 : decode cX12_joins 124 = .ok (.aload_n 0, 1) := by decide +kernel
theorem dX12_joins_125 : decode cX12_joins 125 = .ok (.getfield 166, 3) := by decide +kernel
theorem dX12_joins_128 : decode cX12_joins 128 = .ok (.iload 6, 2) := by decide +kernel
theorem dX12_joins_130 : decode cX12_joins 130 = .ok (.iaload, 1) := by decide +kernel
theorem dX12_joins_131 : decode cX12_joins 131 = .ok (.iconst (-1), 1) := by decide +kernel
theorem dX12_joins_132 : decode cX12_joins 132 = .ok (.if_icmp .ne 7, 3) := by decide +kernel
theorem dX12_joins_135 : decode cX12_joins 135 = .ok (.iload_n 2, 1) := by decide +kernel
theorem dX12_joins_136 : decode cX12_joins 136 = .ok (.goto 10, 3) := by decide +kernel
theorem dX12_joins_139 : decode cX12_joins 139 = .ok (.aload_n 0, 1) := by decide +kernel
theorem dX12_joins_140 : decode cX12_joins 140 = .ok (.getfield 166, 3) := by decide +kernel
theorem dX12_joins_143 : decode cX12_joins 143 = .ok (.iload 6, 2) := by decide +kernel
theorem dX12_joins_145 : decode cX12_joins 145 = .ok (.iaload, 1) := by decide +kernel
theorem dX12_joins_146 : decode cX12_joins 146 = .ok (.iastore, 1) := by decide +kernel
theorem dX12_joins_147 : decode cX12_joins 147 = .ok (.iinc 5 1, 3) := by decide +kernel
theorem dX12_joins_150 : decode cX12_joins 150 = .ok (.goto (-79), 3) := by decide +kernel
theorem dX12_joins_153 : decode cX12_joins 153 = .ok (.iinc 4 1, 3) := by decide +kernel
theorem dX12_joins_156 : decode cX12_joins 156 = .ok (.goto (-113), 3) := by decide +kernel
theorem dX12_joins_159 : decode cX12_joins 159 = .ok (.iinc 3 1, 3) := by decide +kernel
theorem dX12_joins_162 : decode cX12_joins 162 = .ok (.goto (-160), 3) := by decide +kernel
theorem dX12_joins_165 : decode cX12_joins 165 = .ok (.return_, 1) := by decide +kernel
theorem dX12_reckons_0 : decode cX12_reckons 0 = .ok (.iload_n 1, 1) := by decide +kernel
theorem dX12_reckons_1 : decode cX12_reckons 1 = .ok (.invokestatic 359, 3) := by decide +kernel
theorem dX12_reckons_4 : decode cX12_reckons 4 = .ok (.iconst 1, 1) := by decide +kernel
theorem dX12_reckons_5 : decode cX12_reckons 5 = .ok (.isub, 1) := by decide +kernel
theorem dX12_reckons_6 : decode cX12_reckons 6 = .ok (.istore_n 2, 1) := by decide +kernel
theorem dX12_reckons_7 : decode cX12_reckons 7 = .ok (.aload_n 0, 1) := by decide +kernel
theorem dX12_reckons_8 : decode cX12_reckons 8 = .ok (.getfield 169, 3) := by decide +kernel
theorem dX12_reckons_11 : decode cX12_reckons 11 = .ok (.iload_n 1, 1) := by decide +kernel
theorem dX12_reckons_12 : decode cX12_reckons 12 = .ok (.baload, 1) := by decide +kernel
theorem dX12_reckons_13 : decode cX12_reckons 13 = .ok (.ifCond .ne 120, 3) := by decide +kernel
theorem dX12_reckons_16 : decode cX12_reckons 16 = .ok (.aload_n 0, 1) := by decide +kernel
theorem dX12_reckons_17 : decode cX12_reckons 17 = .ok (.getfield 169, 3) := by decide +kernel
theorem dX12_reckons_20 : decode cX12_reckons 20 = .ok (.iload_n 1, 1) := by decide +kernel
theorem dX12_reckons_21 : decode cX12_reckons 21 = .ok (.iconst 1, 1) := by decide +kernel
theorem dX12_reckons_22 : decode cX12_reckons 22 = .ok (.bastore, 1) := by decide +kernel
theorem dX12_reckons_23 : decode cX12_reckons 23 = .ok (.iconst 0, 1) := by decide +kernel
theorem dX12_reckons_24 : decode cX12_reckons 24 = .ok (.istore_n 3, 1) := by decide +kernel
theorem dX12_reckons_25 : decode cX12_reckons 25 = .ok (.iload_n 3, 1) := by decide +kernel
theorem dX12_reckons_26 : decode cX12_reckons 26 = .ok (.iload_n 2, 1) := by decide +kernel
theorem dX12_reckons_27 : decode cX12_reckons 27 = .ok (.if_icmp .gt 29, 3) := by decide +kernel
theorem dX12_reckons_30 : decode cX12_reckons 30 = .ok (.aload_n 0, 1) := by decide +kernel
theorem dX12_reckons_31 : decode cX12_reckons 31 = .ok (.getfield 166, 3) := by decide +kernel
theorem dX12_reckons_34 : decode cX12_reckons 34 = .ok (.iload_n 3, 1) := by decide +kernel
theorem dX12_reckons_35 : decode cX12_reckons 35 = .ok (.iload_n 3, 1) := by decide +kernel
theorem dX12_reckons_36 : decode cX12_reckons 36 = .ok (.ifCond .eq 8, 3) := by decide +kernel
theorem dX12_reckons_39 : decode cX12_reckons 39 = .ok (.iload_n 3, 1) := by decide +kernel
theorem dX12_reckons_40 : decode cX12_reckons 40 = .ok (.iload_n 2, 1) := by decide +kernel
theorem dX12_reckons_41 : decode cX12_reckons 41 = .ok (.if_icmp .ne 7, 3) := by decide +kernel
theorem dX12_reckons_44 : decode cX12_reckons 44 = .ok (.iconst 0, 1) := by decide +kernel
theorem dX12_reckons_45 : decode cX12_reckons 45 = .ok (.goto 4, 3) := by decide +kernel
theorem dX12_reckons_48 : decode cX12_reckons 48 = .ok (.iconst (-1), 1) := by decide +kernel
theorem dX12_reckons_49 : decode cX12_reckons 49 = .ok (.iastore, 1) := by decide +kernel
theorem dX12_reckons_50 : decode cX12_reckons 50 = .ok (.iinc 3 1, 3) := by decide +kernel
theorem dX12_reckons_53 : decode cX12_reckons 53 = .ok (.goto (-28), 3) := by decide +kernel
theorem dX12_reckons_56 : decode cX12_reckons 56 = .ok (.iconst 0, 1) := by decide +kernel
theorem dX12_reckons_57 : decode cX12_reckons 57 = .ok (.istore_n 3, 1) := by decide +kernel
theorem dX12_reckons_58 : decode cX12_reckons 58 = .ok (.iload_n 3, 1) := by decide +kernel
theorem dX12_reckons_59 : decode cX12_reckons 59 = .ok (.iload_n 1, 1) := by decide +kernel
theorem dX12_reckons_60 : decode cX12_reckons 60 = .ok (.if_icmp .ge 20, 3) := by decide +kernel
theorem dX12_reckons_63 : decode cX12_reckons 63 = .ok (.aload_n 0, 1) := by decide +kernel
theorem dX12_reckons_64 : decode cX12_reckons 64 = .ok (.getfield 166, 3) := by decide +kernel
theorem dX12_reckons_67 : decode cX12_reckons 67 = .ok (.iload_n 1, 1) := by decide +kernel
theorem dX12_reckons_68 : decode cX12_reckons 68 = .ok (.iload_n 3, 1) := by decide +kernel
theorem dX12_reckons_69 : decode cX12_reckons 69 = .ok (.invokestatic 362, 3) := by decide +kernel
theorem dX12_reckons_72 : decode cX12_reckons 72 = .ok (.iconst 0, 1) := by decide +kernel
theorem dX12_reckons_73 : decode cX12_reckons 73 = .ok (.iastore, 1) := by decide +kernel
theorem dX12_reckons_74 : decode cX12_reckons 74 = .ok (.iinc 3 1, 3) := by decide +kernel
theorem dX12_reckons_77 : decode cX12_reckons 77 = .ok (.goto (-19), 3) := by decide +kernel
theorem dX12_reckons_80 : decode cX12_reckons 80 = .ok (.iconst 1, 1) := by decide +kernel
theorem dX12_reckons_81 : decode cX12_reckons 81 = .ok (.istore_n 3, 1) := by decide +kernel
theorem dX12_reckons_82 : decode cX12_reckons 82 = .ok (.aload_n 0, 1) := by decide +kernel
theorem dX12_reckons_83 : decode cX12_reckons 83 = .ok (.iload_n 2, 1) := by decide +kernel
theorem dX12_reckons_84 : decode cX12_reckons 84 = .ok (.invokevirtual 365, 3) := by decide +kernel
theorem dX12_reckons_87 : decode cX12_reckons 87 = .ok (.ifCond .eq 15, 3) := by decide +kernel
theorem dX12_reckons_90 : decode cX12_reckons 90 = .ok (.aload_n 0, 1) := by decide +kernel
theorem dX12_reckons_91 : decode cX12_reckons 91 = .ok (.iload_n 2, 1) := by decide +kernel
theorem dX12_reckons_92 : decode cX12_reckons 92 = .ok (.iload_n 3, 1) := by decide +kernel
theorem dX12_reckons_93 : decode cX12_reckons 93 = .ok (.invokevirtual 368, 3) := by decide +kernel
theorem dX12_reckons_96 : decode cX12_reckons 96 = .ok (.iinc 3 1, 3) := by decide +kernel
theorem dX12_reckons_99 : decode cX12_reckons 99 = .ok (.goto (-17), 3) := by decide +kernel
theorem dX12_reckons_102 : decode cX12_reckons 102 = .ok (.iconst 0, 1) := by decide +kernel
theorem dX12_reckons_103 : decode cX12_reckons 103 = .ok (.istore_n 3, 1) := by decide +kernel
theorem dX12_reckons_104 : decode cX12_reckons 104 = .ok (.iload_n 3, 1) := by decide +kernel
theorem dX12_reckons_105 : decode cX12_reckons 105 = .ok (.iload_n 2, 1) := by decide +kernel
theorem dX12_reckons_106 : decode cX12_reckons 106 = .ok (.if_icmp .gt 27, 3) := by decide +kernel
theorem dX12_reckons_109 : decode cX12_reckons 109 = .ok (.aload_n 0, 1) := by decide +kernel
theorem dX12_reckons_110 : decode cX12_reckons 110 = .ok (.getfield 172, 3) := by decide +kernel
theorem dX12_reckons_113 : decode cX12_reckons 113 = .ok (.sipush 256, 3) := by decide +kernel
theorem dX12_reckons_116 : decode cX12_reckons 116 = .ok (.iload_n 1, 1) := by decide +kernel
theorem dX12_reckons_117 : decode cX12_reckons 117 = .ok (.imul, 1) := by decide +kernel
theorem dX12_reckons_118 : decode cX12_reckons 118 = .ok (.iload_n 3, 1) := by decide +kernel
theorem dX12_reckons_119 : decode cX12_reckons 119 = .ok (.iadd, 1) := by decide +kernel
theorem dX12_reckons_120 : decode cX12_reckons 120 = .ok (.aload_n 0, 1) := by decide +kernel
theorem dX12_reckons_121 : decode cX12_reckons 121 = .ok (.getfield 166, 3) := by decide +kernel
theorem dX12_reckons_124 : decode cX12_reckons 124 = .ok (.iload_n 3, 1) := by decide +kernel
theorem dX12_reckons_125 : decode cX12_reckons 125 = .ok (.iaload, 1) := by decide +kernel
theorem dX12_reckons_126 : decode cX12_reckons 126 = .ok (.iastore, 1) := by decide +kernel
theorem dX12_reckons_127 : decode cX12_reckons 127 = .ok (.iinc 3 1, 3) := by decide +kernel
theorem dX12_reckons_130 : decode cX12_reckons 130 = .ok (.goto (-26), 3) := by decide +kernel
theorem dX12_reckons_133 : decode cX12_reckons 133 = .ok (.iconst 0, 1) := by decide +kernel
theorem dX12_reckons_134 : decode cX12_reckons 134 = .ok (.istore_n 3, 1) := by decide +kernel
theorem dX12_reckons_135 : decode cX12_reckons 135 = .ok (.iload_n 3, 1) := by decide +kernel
theorem dX12_reckons_136 : decode cX12_reckons 136 = .ok (.iload_n 2, 1) := by decide +kernel
theorem dX12_reckons_137 : decode cX12_reckons 137 = .ok (.if_icmp .gt 27, 3) := by decide +kernel
theorem dX12_reckons_140 : decode cX12_reckons 140 = .ok (.aload_n 0, 1) := by decide +kernel
theorem dX12_reckons_141 : decode cX12_reckons 141 = .ok (.getfield 166, 3) := by decide +kernel
theorem dX12_reckons_144 : decode cX12_reckons 144 = .ok (.iload_n 3, 1) := by decide +kernel
theorem dX12_reckons_145 : decode cX12_reckons 145 = .ok (.aload_n 0, 1) := by decide +kernel
theorem dX12_reckons_146 : decode cX12_reckons 146 = .ok (.getfield 172, 3) := by decide +kernel
theorem dX12_reckons_149 : decode cX12_reckons 149 = .ok (.sipush 256, 3) := by decide +kernel
theorem dX12_reckons_152 : decode cX12_reckons 152 = .ok (.iload_n 1, 1) := by decide +kernel
theorem dX12_reckons_153 : decode cX12_reckons 153 = .ok (.imul, 1) := by decide +kernel
theorem dX12_reckons_154 : decode cX12_reckons 154 = .ok (.iload_n 3, 1) := by decide +kernel
theorem dX12_reckons_155 : decode cX12_reckons 155 = .ok (.iadd, 1) := by decide +kernel
theorem dX12_reckons_156 : decode cX12_reckons 156 = .ok (.iaload, 1) := by decide +kernel
theorem dX12_reckons_157 : decode cX12_reckons 157 = .ok (.iastore, 1) := by decide +kernel
theorem dX12_reckons_158 : decode cX12_reckons 158 = .ok (.iinc 3 1, 3) := by decide +kernel
theorem dX12_reckons_161 : decode cX12_reckons 161 = .ok (.goto (-26), 3) := by decide +kernel
theorem dX12_reckons_164 : decode cX12_reckons 164 = .ok (.return_, 1) := by decide +kernel
theorem dX12_grows_0 : decode cX12_grows 0 = .ok (.aload_n 0, 1) := by decide +kernel
theorem dX12_grows_1 : decode cX12_grows 1 = .ok (.getfield 78, 3) := by decide +kernel
theorem dX12_grows_4 : decode cX12_grows 4 = .ok (.aload_n 0, 1) := by decide +kernel
theorem dX12_grows_5 : decode cX12_grows 5 = .ok (.getfield 381, 3) := by decide +kernel
theorem dX12_grows_8 : decode cX12_grows 8 = .ok (.iload_n 1, 1) := by decide +kernel
theorem dX12_grows_9 : decode cX12_grows 9 = .ok (.iastore, 1) := by decide +kernel
theorem dX12_grows_10 : decode cX12_grows 10 = .ok (.aload_n 0, 1) := by decide +kernel
theorem dX12_grows_11 : decode cX12_grows 11 = .ok (.getfield 81, 3) := by decide +kernel
theorem dX12_grows_14 : decode cX12_grows 14 = .ok (.aload_n 0, 1) := by decide +kernel
theorem dX12_grows_15 : decode cX12_grows 15 = .ok (.getfield 381, 3) := by decide +kernel
theorem dX12_grows_18 : decode cX12_grows 18 = .ok (.iload_n 2, 1) := by decide +kernel
theorem dX12_grows_19 : decode cX12_grows 19 = .ok (.iastore, 1) := by decide +kernel
theorem dX12_grows_20 : decode cX12_grows 20 = .ok (.aload_n 0, 1) := by decide +kernel
theorem dX12_grows_21 : decode cX12_grows 21 = .ok (.getfield 84, 3) := by decide +kernel
theorem dX12_grows_24 : decode cX12_grows 24 = .ok (.aload_n 0, 1) := by decide +kernel
theorem dX12_grows_25 : decode cX12_grows 25 = .ok (.getfield 381, 3) := by decide +kernel
theorem dX12_grows_28 : decode cX12_grows 28 = .ok (.iload_n 3, 1) := by decide +kernel
theorem dX12_grows_29 : decode cX12_grows 29 = .ok (.iastore, 1) := by decide +kernel
theorem dX12_grows_30 : decode cX12_grows 30 = .ok (.aload_n 0, 1) := by decide +kernel
theorem dX12_grows_31 : decode cX12_grows 31 = .ok (.getfield 87, 3) := by decide +kernel
theorem dX12_grows_34 : decode cX12_grows 34 = .ok (.aload_n 0, 1) := by decide +kernel
theorem dX12_grows_35 : decode cX12_grows 35 = .ok (.getfield 381, 3) := by decide +kernel
theorem dX12_grows_38 : decode cX12_grows 38 = .ok (.iload 4, 2) := by decide +kernel
theorem dX12_grows_40 : decode cX12_grows 40 = .ok (.iastore, 1) := by decide +kernel
theorem dX12_grows_41 : decode cX12_grows 41 = .ok (.aload_n 0, 1) := by decide +kernel
theorem dX12_grows_42 : decode cX12_grows 42 = .ok (.getfield 90, 3) := by decide +kernel
theorem dX12_grows_45 : decode cX12_grows 45 = .ok (.aload_n 0, 1) := by decide +kernel
theorem dX12_grows_46 : decode cX12_grows 46 = .ok (.getfield 381, 3) := by decide +kernel
theorem dX12_grows_49 : decode cX12_grows 49 = .ok (.bipush (-2), 2) := by decide +kernel
theorem dX12_grows_51 : decode cX12_grows 51 = .ok (.iastore, 1) := by decide +kernel
theorem dX12_grows_52 : decode cX12_grows 52 = .ok (.aload_n 0, 1) := by decide +kernel
theorem dX12_grows_53 : decode cX12_grows 53 = .ok (.dup, 1) := by decide +kernel
theorem dX12_grows_54 : decode cX12_grows 54 = .ok (.getfield 381, 3) := by decide +kernel
theorem dX12_grows_57 : decode cX12_grows 57 = .ok (.iconst 1, 1) := by decide +kernel
theorem dX12_grows_58 : decode cX12_grows 58 = .ok (.iadd, 1) := by decide +kernel
theorem dX12_grows_59 : decode cX12_grows 59 = .ok (.putfield 381, 3) := by decide +kernel
theorem dX12_grows_62 : decode cX12_grows 62 = .ok (.aload_n 0, 1) := by decide +kernel
theorem dX12_grows_63 : decode cX12_grows 63 = .ok (.getfield 381, 3) := by decide +kernel
theorem dX12_grows_66 : decode cX12_grows 66 = .ok (.iconst 1, 1) := by decide +kernel
theorem dX12_grows_67 : decode cX12_grows 67 = .ok (.isub, 1) := by decide +kernel
theorem dX12_grows_68 : decode cX12_grows 68 = .ok (.ireturn, 1) := by decide +kernel
theorem dX12_trees_0 : decode cX12_trees 0 = .ok (.iload_n 1, 1) := by decide +kernel
theorem dX12_trees_1 : decode cX12_trees 1 = .ok (.invokestatic 359, 3) := by decide +kernel
theorem dX12_trees_4 : decode cX12_trees 4 = .ok (.iconst 1, 1) := by decide +kernel
theorem dX12_trees_5 : decode cX12_trees 5 = .ok (.isub, 1) := by decide +kernel
theorem dX12_trees_6 : decode cX12_trees 6 = .ok (.istore 4, 2) := by decide +kernel
theorem dX12_trees_8 : decode cX12_trees 8 = .ok (.iload_n 2, 1) := by decide +kernel
theorem dX12_trees_9 : decode cX12_trees 9 = .ok (.ifCond .eq 9, 3) := by decide +kernel
theorem dX12_trees_12 : decode cX12_trees 12 = .ok (.iload_n 2, 1) := by decide +kernel
theorem dX12_trees_13 : decode cX12_trees 13 = .ok (.iload 4, 2) := by decide +kernel
theorem dX12_trees_15 : decode cX12_trees 15 = .ok (.if_icmp .ne 17, 3) := by decide +kernel
theorem dX12_trees_18 : decode cX12_trees 18 = .ok (.iload_n 2, 1) := by decide +kernel
theorem dX12_trees_19 : decode cX12_trees 19 = .ok (.ifCond .ne 9, 3) := by decide +kernel
theorem dX12_trees_22 : decode cX12_trees 22 = .ok (.sipush 200, 3) := by decide +kernel
theorem dX12_trees_25 : decode cX12_trees 25 = .ok (.goto 6, 3) := by decide +kernel
theorem dX12_trees_28 : decode cX12_trees 28 = .ok (.sipush 201, 3) := by decide +kernel
theorem dX12_trees_31 : decode cX12_trees 31 = .ok (.ireturn, 1) := by decide +kernel
theorem dX12_trees_32 : decode cX12_trees 32 = .ok (.iconst 0, 1) := by decide +kernel
theorem dX12_trees_33 : decode cX12_trees 33 = .ok (.istore 5, 2) := by decide +kernel
theorem dX12_trees_35 : decode cX12_trees 35 = .ok (.iload 5, 2) := by decide +kernel
theorem dX12_trees_37 : decode cX12_trees 37 = .ok (.iload_n 1, 1) := by decide +kernel
theorem dX12_trees_38 : decode cX12_trees 38 = .ok (.if_icmp .ge 25, 3) := by decide +kernel
theorem dX12_trees_41 : decode cX12_trees 41 = .ok (.iload_n 1, 1) := by decide +kernel
theorem dX12_trees_42 : decode cX12_trees 42 = .ok (.iload 5, 2) := by decide +kernel
theorem dX12_trees_44 : decode cX12_trees 44 = .ok (.invokestatic 362, 3) := by decide +kernel
theorem dX12_trees_47 : decode cX12_trees 47 = .ok (.iload_n 2, 1) := by decide +kernel
theorem dX12_trees_48 : decode cX12_trees 48 = .ok (.if_icmp .ne 9, 3) := by decide +kernel
theorem dX12_trees_51 : decode cX12_trees 51 = .ok (.bipush 100, 2) := by decide +kernel
theorem dX12_trees_53 : decode cX12_trees 53 = .ok (.iload 5, 2) := by decide +kernel
theorem dX12_trees_55 : decode cX12_trees 55 = .ok (.iadd, 1) := by decide +kernel
theorem dX12_trees_56 : decode cX12_trees 56 = .ok (.ireturn, 1) := by decide +kernel
theorem dX12_trees_57 : decode cX12_trees 57 = .ok (.iinc 5 1, 3) := by decide +kernel
theorem dX12_trees_60 : decode cX12_trees 60 = .ok (.goto (-25), 3) := by decide +kernel
theorem dX12_trees_63 : decode cX12_trees 63 = .ok (.aload_n 0, 1) := by decide +kernel
theorem dX12_trees_64 : decode cX12_trees 64 = .ok (.getfield 166, 3) := by decide +kernel
theorem dX12_trees_67 : decode cX12_trees 67 = .ok (.iload_n 2, 1) := by decide +kernel
theorem dX12_trees_68 : decode cX12_trees 68 = .ok (.iload 4, 2) := by decide +kernel
theorem dX12_trees_70 : decode cX12_trees 70 = .ok (.ixor, 1) := by decide +kernel
theorem dX12_trees_71 : decode cX12_trees 71 = .ok (.iaload, 1) := by decide +kernel
theorem dX12_trees_72 : decode cX12_trees 72 = .ok (.aload_n 0, 1) := by decide +kernel
theorem dX12_trees_73 : decode cX12_trees 73 = .ok (.getfield 166, 3) := by decide +kernel
theorem dX12_trees_76 : decode cX12_trees 76 = .ok (.iload_n 2, 1) := by decide +kernel
theorem dX12_trees_77 : decode cX12_trees 77 = .ok (.iaload, 1) := by decide +kernel
theorem dX12_trees_78 : decode cX12_trees 78 = .ok (.iconst 1, 1) := by decide +kernel
theorem dX12_trees_79 : decode cX12_trees 79 = .ok (.isub, 1) := by decide +kernel
theorem dX12_trees_80 : decode cX12_trees 80 = .ok (.if_icmp .ne 22, 3) := by decide +kernel
theorem dX12_trees_83 : decode cX12_trees 83 = .ok (.aload_n 0, 1) := by decide +kernel
theorem dX12_trees_84 : decode cX12_trees 84 = .ok (.iconst 0, 1) := by decide +kernel
theorem dX12_trees_85 : decode cX12_trees 85 = .ok (.aload_n 0, 1) := by decide +kernel
theorem dX12_trees_86 : decode cX12_trees 86 = .ok (.iload_n 1, 1) := by decide +kernel
theorem dX12_trees_87 : decode cX12_trees 87 = .ok (.iload_n 2, 1) := by decide +kernel
theorem dX12_trees_88 : decode cX12_trees 88 = .ok (.iload 4, 2) := by decide +kernel
theorem dX12_trees_90 : decode cX12_trees 90 = .ok (.ixor, 1) := by decide +kernel
theorem dX12_trees_91 : decode cX12_trees 91 = .ok (.iload_n 3, 1) := by decide +kernel
theorem dX12_trees_92 : decode cX12_trees 92 = .ok (.invokevirtual 375, 3) := by decide +kernel
theorem dX12_trees_95 : decode cX12_trees 95 = .ok (.bipush (-2), 2) := by decide +kernel
theorem dX12_trees_97 : decode cX12_trees 97 = .ok (.iload_n 3, 1) := by decide +kernel
theorem dX12_trees_98 : decode cX12_trees 98 = .ok (.invokevirtual 378, 3) := by decide +kernel
theorem dX12_trees_101 : decode cX12_trees 101 = .ok (.ireturn, 1) := by decide +kernel
theorem dX12_trees_102 : decode cX12_trees 102 = .ok (.iconst 1, 1) := by decide +kernel
theorem dX12_trees_103 : decode cX12_trees 103 = .ok (.istore 5, 2) := by decide +kernel
theorem dX12_trees_105 : decode cX12_trees 105 = .ok (.iload 5, 2) := by decide +kernel
theorem dX12_trees_107 : decode cX12_trees 107 = .ok (.iconst 5, 1) := by decide +kernel
theorem dX12_trees_108 : decode cX12_trees 108 = .ok (.if_icmp .gt 114, 3) := by decide +kernel
theorem dX12_trees_111 : decode cX12_trees 111 = .ok (.iconst 0, 1) := by decide +kernel
theorem dX12_trees_112 : decode cX12_trees 112 = .ok (.istore 6, 2) := by decide +kernel
theorem dX12_trees_114 : decode cX12_trees 114 = .ok (.iload 6, 2) := by decide +kernel
theorem dX12_trees_116 : decode cX12_trees 116 = .ok (.iload 4, 2) := by decide +kernel
theorem dX12_trees_118 : decode cX12_trees 118 = .ok (.if_icmp .gt 98, 3) := by decide +kernel
theorem dX12_trees_121 : decode cX12_trees 121 = .ok (.iconst 0, 1) := by decide +kernel
theorem dX12_trees_122 : decode cX12_trees 122 = .ok (.istore 7, 2) := by decide +kernel
theorem dX12_trees_124 : decode cX12_trees 124 = .ok (.iload 7, 2) := by decide +kernel
theorem dX12_trees_126 : decode cX12_trees 126 = .ok (.iload 4, 2) := by decide +kernel
theorem dX12_trees_128 : decode cX12_trees 128 = .ok (.if_icmp .gt 82, 3) := by decide +kernel
theorem dX12_trees_131 : decode cX12_trees 131 = .ok (.aload_n 0, 1) := by decide +kernel
theorem dX12_trees_132 : decode cX12_trees 132 = .ok (.getfield 166, 3) := by decide +kernel
theorem dX12_trees_135 : decode cX12_trees 135 = .ok (.iload 6, 2) := by decide +kernel
theorem dX12_trees_137 : decode cX12_trees 137 = .ok (.iaload, 1) := by decide +kernel
theorem dX12_trees_138 : decode cX12_trees 138 = .ok (.aload_n 0, 1) := by decide +kernel
theorem dX12_trees_139 : decode cX12_trees 139 = .ok (.getfield 166, 3) := by decide +kernel
theorem dX12_trees_142 : decode cX12_trees 142 = .ok (.iload 7, 2) := by decide +kernel
theorem dX12_trees_144 : decode cX12_trees 144 = .ok (.iaload, 1) := by decide +kernel
theorem dX12_trees_145 : decode cX12_trees 145 = .ok (.iadd, 1) := by decide +kernel
theorem dX12_trees_146 : decode cX12_trees 146 = .ok (.aload_n 0, 1) := by decide +kernel
theorem dX12_trees_147 : decode cX12_trees 147 = .ok (.getfield 166, 3) := by decide +kernel
theorem dX12_trees_150 : decode cX12_trees 150 = .ok (.iload_n 2, 1) := by decide +kernel
theorem dX12_trees_151 : decode cX12_trees 151 = .ok (.iaload, 1) := by decide +kernel
theorem dX12_trees_152 : decode cX12_trees 152 = .ok (.iconst 1, 1) := by decide +kernel
theorem dX12_trees_153 : decode cX12_trees 153 = .ok (.isub, 1) := by decide +kernel
theorem dX12_trees_154 : decode cX12_trees 154 = .ok (.if_icmp .ne 50, 3) := by decide +kernel
theorem dX12_trees_157 : decode cX12_trees 157 = .ok (.iload 5, 2) := by decide +kernel
theorem dX12_trees_159 : decode cX12_trees 159 = .ok (.iload 4, 2) := by decide +kernel
theorem dX12_trees_161 : decode cX12_trees 161 = .ok (.iload 6, 2) := by decide +kernel
theorem dX12_trees_163 : decode cX12_trees 163 = .ok (.iload 7, 2) := by decide +kernel
theorem dX12_trees_165 : decode cX12_trees 165 = .ok (.invokestatic 371, 3) := by decide +kernel
theorem dX12_trees_168 : decode cX12_trees 168 = .ok (.iload_n 2, 1) := by decide +kernel
theorem dX12_trees_169 : decode cX12_trees 169 = .ok (.if_icmp .ne 35, 3) := by decide +kernel
theorem dX12_trees_172 : decode cX12_trees 172 = .ok (.aload_n 0, 1) := by decide +kernel
theorem dX12_trees_173 : decode cX12_trees 173 = .ok (.iload_n 1, 1) := by decide +kernel
theorem dX12_trees_174 : decode cX12_trees 174 = .ok (.iload 6, 2) := by decide +kernel
theorem dX12_trees_176 : decode cX12_trees 176 = .ok (.iload_n 3, 1) := by decide +kernel
theorem dX12_trees_177 : decode cX12_trees 177 = .ok (.invokevirtual 375, 3) := by decide +kernel
theorem dX12_trees_180 : decode cX12_trees 180 = .ok (.istore 8, 2) := by decide +kernel
theorem dX12_trees_182 : decode cX12_trees 182 = .ok (.aload_n 0, 1) := by decide +kernel
theorem dX12_trees_183 : decode cX12_trees 183 = .ok (.iload_n 1, 1) := by decide +kernel
theorem dX12_trees_184 : decode cX12_trees 184 = .ok (.iload 7, 2) := by decide +kernel
theorem dX12_trees_186 : decode cX12_trees 186 = .ok (.iload_n 3, 1) := by decide +kernel
theorem dX12_trees_187 : decode cX12_trees 187 = .ok (.invokevirtual 375, 3) := by decide +kernel
theorem dX12_trees_190 : decode cX12_trees 190 = .ok (.istore 9, 2) := by decide +kernel
theorem dX12_trees_192 : decode cX12_trees 192 = .ok (.aload_n 0, 1) := by decide +kernel
theorem dX12_trees_193 : decode cX12_trees 193 = .ok (.iload 5, 2) := by decide +kernel
theorem dX12_trees_195 : decode cX12_trees 195 = .ok (.iload 8, 2) := by decide +kernel
theorem dX12_trees_197 : decode cX12_trees 197 = .ok (.iload 9, 2) := by decide +kernel
theorem dX12_trees_199 : decode cX12_trees 199 = .ok (.iload_n 3, 1) := by decide +kernel
theorem dX12_trees_200 : decode cX12_trees 200 = .ok (.invokevirtual 378, 3) := by decide +kernel
theorem dX12_trees_203 : decode cX12_trees 203 = .ok (.ireturn, 1) := by decide +kernel
theorem dX12_trees_204 : decode cX12_trees 204 = .ok (.iinc 7 1, 3) := by decide +kernel
theorem dX12_trees_207 : decode cX12_trees 207 = .ok (.goto (-83), 3) := by decide +kernel
theorem dX12_trees_210 : decode cX12_trees 210 = .ok (.iinc 6 1, 3) := by decide +kernel
theorem dX12_trees_213 : decode cX12_trees 213 = .ok (.goto (-99), 3) := by decide +kernel
theorem dX12_trees_216 : decode cX12_trees 216 = .ok (.iinc 5 1, 3) := by decide +kernel
theorem dX12_trees_219 : decode cX12_trees 219 = .ok (.goto (-114), 3) := by decide +kernel
theorem dX12_trees_222 : decode cX12_trees 222 = .ok (.iconst (-1), 1) := by decide +kernel
theorem dX12_trees_223 : decode cX12_trees 223 = .ok (.ireturn, 1) := by decide +kernel
theorem dX12_cost_0 : decode cX12_cost 0 = .ok (.iload_n 1, 1) := by decide +kernel
theorem dX12_cost_1 : decode cX12_cost 1 = .ok (.iconst 0, 1) := by decide +kernel
theorem dX12_cost_2 : decode cX12_cost 2 = .ok (.iconst 3, 1) := by decide +kernel
theorem dX12_cost_3 : decode cX12_cost 3 = .ok (.invokestatic 212, 3) := by decide +kernel
theorem dX12_cost_6 : decode cX12_cost 6 = .ok (.ifCond .eq 17, 3) := by decide +kernel
theorem dX12_cost_9 : decode cX12_cost 9 = .ok (.iload_n 2, 1) := by decide +kernel
theorem dX12_cost_10 : decode cX12_cost 10 = .ok (.iconst 0, 1) := by decide +kernel
theorem dX12_cost_11 : decode cX12_cost 11 = .ok (.iload_n 1, 1) := by decide +kernel
theorem dX12_cost_12 : decode cX12_cost 12 = .ok (.invokestatic 359, 3) := by decide +kernel
theorem dX12_cost_15 : decode cX12_cost 15 = .ok (.iconst 1, 1) := by decide +kernel
theorem dX12_cost_16 : decode cX12_cost 16 = .ok (.isub, 1) := by decide +kernel
theorem dX12_cost_17 : decode cX12_cost 17 = .ok (.invokestatic 212, 3) := by decide +kernel
theorem dX12_cost_20 : decode cX12_cost 20 = .ok (.ifCond .ne 5, 3) := by decide +kernel
theorem dX12_cost_23 : decode cX12_cost 23 = .ok (.iconst (-1), 1) := by decide +kernel
theorem dX12_cost_24 : decode cX12_cost 24 = .ok (.ireturn, 1) := by decide +kernel
theorem dX12_cost_25 : decode cX12_cost 25 = .ok (.aload_n 0, 1) := by decide +kernel
theorem dX12_cost_26 : decode cX12_cost 26 = .ok (.iload_n 1, 1) := by decide +kernel
theorem dX12_cost_27 : decode cX12_cost 27 = .ok (.invokevirtual 384, 3) := by decide +kernel
theorem dX12_cost_30 : decode cX12_cost 30 = .ok (.aload_n 0, 1) := by decide +kernel
theorem dX12_cost_31 : decode cX12_cost 31 = .ok (.getfield 166, 3) := by decide +kernel
theorem dX12_cost_34 : decode cX12_cost 34 = .ok (.iload_n 2, 1) := by decide +kernel
theorem dX12_cost_35 : decode cX12_cost 35 = .ok (.iaload, 1) := by decide +kernel
theorem dX12_cost_36 : decode cX12_cost 36 = .ok (.ireturn, 1) := by decide +kernel
theorem dX12_pattern_0 : decode cX12_pattern 0 = .ok (.iconst 0, 1) := by decide +kernel
theorem dX12_pattern_1 : decode cX12_pattern 1 = .ok (.istore_n 3, 1) := by decide +kernel
theorem dX12_pattern_2 : decode cX12_pattern 2 = .ok (.iconst 0, 1) := by decide +kernel
theorem dX12_pattern_3 : decode cX12_pattern 3 = .ok (.istore 4, 2) := by decide +kernel
theorem dX12_pattern_5 : decode cX12_pattern 5 = .ok (.iload 4, 2) := by decide +kernel
theorem dX12_pattern_7 : decode cX12_pattern 7 = .ok (.iload_n 2, 1) := by decide +kernel
theorem dX12_pattern_8 : decode cX12_pattern 8 = .ok (.if_icmp .ge 36, 3) := by decide +kernel
theorem dX12_pattern_11 : decode cX12_pattern 11 = .ok (.iload_n 3, 1) := by decide +kernel
theorem dX12_pattern_12 : decode cX12_pattern 12 = .ok (.aload_n 0, 1) := by decide +kernel
theorem dX12_pattern_13 : decode cX12_pattern 13 = .ok (.iconst 0, 1) := by decide +kernel
theorem dX12_pattern_14 : decode cX12_pattern 14 = .ok (.aload_n 0, 1) := by decide +kernel
theorem dX12_pattern_15 : decode cX12_pattern 15 = .ok (.getfield 178, 3) := by decide +kernel
theorem dX12_pattern_18 : decode cX12_pattern 18 = .ok (.iload 4, 2) := by decide +kernel
theorem dX12_pattern_20 : decode cX12_pattern 20 = .ok (.iaload, 1) := by decide +kernel
theorem dX12_pattern_21 : decode cX12_pattern 21 = .ok (.iload_n 1, 1) := by decide +kernel
theorem dX12_pattern_22 : decode cX12_pattern 22 = .ok (.invokevirtual 313, 3) := by decide +kernel
theorem dX12_pattern_25 : decode cX12_pattern 25 = .ok (.ifCond .eq 10, 3) := by decide +kernel
theorem dX12_pattern_28 : decode cX12_pattern 28 = .ok (.iconst 1, 1) := by decide +kernel
theorem dX12_pattern_29 : decode cX12_pattern 29 = .ok (.iload 4, 2) := by decide +kernel
theorem dX12_pattern_31 : decode cX12_pattern 31 = .ok (.ishl, 1) := by decide +kernel
theorem dX12_pattern_32 : decode cX12_pattern 32 = .ok (.goto 4, 3) := by decide +kernel
theorem dX12_pattern_35 : decode cX12_pattern 35 = .ok (.iconst 0, 1) := by decide +kernel
theorem dX12_pattern_36 : decode cX12_pattern 36 = .ok (.ior, 1) := by decide +kernel
theorem dX12_pattern_37 : decode cX12_pattern 37 = .ok (.istore_n 3, 1) := by decide +kernel
theorem dX12_pattern_38 : decode cX12_pattern 38 = .ok (.iinc 4 1, 3) := by decide +kernel
theorem dX12_pattern_41 : decode cX12_pattern 41 = .ok (.goto (-36), 3) := by decide +kernel
theorem dX12_pattern_44 : decode cX12_pattern 44 = .ok (.iload_n 3, 1) := by decide +kernel
theorem dX12_pattern_45 : decode cX12_pattern 45 = .ok (.ireturn, 1) := by decide +kernel
theorem dX12_clashes_0 : decode cX12_clashes 0 = .ok (.iconst 0, 1) := by decide +kernel
theorem dX12_clashes_1 : decode cX12_clashes 1 = .ok (.istore_n 3, 1) := by decide +kernel
theorem dX12_clashes_2 : decode cX12_clashes 2 = .ok (.aload_n 0, 1) := by decide +kernel
theorem dX12_clashes_3 : decode cX12_clashes 3 = .ok (.getfield 32, 3) := by decide +kernel
theorem dX12_clashes_6 : decode cX12_clashes 6 = .ok (.iload_n 3, 1) := by decide +kernel
theorem dX12_clashes_7 : decode cX12_clashes 7 = .ok (.baload, 1) := by decide +kernel
theorem dX12_clashes_8 : decode cX12_clashes 8 = .ok (.ifCond .ne 18, 3) := by decide +kernel
theorem dX12_clashes_11 : decode cX12_clashes 11 = .ok (.aload_n 0, 1) := by decide +kernel
theorem dX12_clashes_12 : decode cX12_clashes 12 = .ok (.iload_n 3, 1) := by decide +kernel
theorem dX12_clashes_13 : decode cX12_clashes 13 = .ok (.iload_n 2, 1) := by decide +kernel
theorem dX12_clashes_14 : decode cX12_clashes 14 = .ok (.invokevirtual 387, 3) := by decide +kernel
theorem dX12_clashes_17 : decode cX12_clashes 17 = .ok (.aload_n 0, 1) := by decide +kernel
theorem dX12_clashes_18 : decode cX12_clashes 18 = .ok (.iload_n 1, 1) := by decide +kernel
theorem dX12_clashes_19 : decode cX12_clashes 19 = .ok (.iload_n 2, 1) := by decide +kernel
theorem dX12_clashes_20 : decode cX12_clashes 20 = .ok (.invokevirtual 387, 3) := by decide +kernel
theorem dX12_clashes_23 : decode cX12_clashes 23 = .ok (.if_icmp .eq 9, 3) := by decide +kernel
theorem dX12_clashes_26 : decode cX12_clashes 26 = .ok (.iinc 3 1, 3) := by decide +kernel
theorem dX12_clashes_29 : decode cX12_clashes 29 = .ok (.goto (-27), 3) := by decide +kernel
theorem dX12_clashes_32 : decode cX12_clashes 32 = .ok (.aload_n 0, 1) := by decide +kernel
theorem dX12_clashes_33 : decode cX12_clashes 33 = .ok (.iload_n 3, 1) := by decide +kernel
theorem dX12_clashes_34 : decode cX12_clashes 34 = .ok (.putfield 63, 3) := by decide +kernel
theorem dX12_clashes_37 : decode cX12_clashes 37 = .ok (.aload_n 0, 1) := by decide +kernel
theorem dX12_clashes_38 : decode cX12_clashes 38 = .ok (.iload_n 1, 1) := by decide +kernel
theorem dX12_clashes_39 : decode cX12_clashes 39 = .ok (.putfield 66, 3) := by decide +kernel
theorem dX12_clashes_42 : decode cX12_clashes 42 = .ok (.return_, 1) := by decide +kernel
theorem dX12_single_0 : decode cX12_single 0 = .ok (.iconst (-1), 1) := by decide +kernel
theorem dX12_single_1 : decode cX12_single 1 = .ok (.istore_n 2, 1) := by decide +kernel
theorem dX12_single_2 : decode cX12_single 2 = .ok (.iconst 0, 1) := by decide +kernel
theorem dX12_single_3 : decode cX12_single 3 = .ok (.istore_n 3, 1) := by decide +kernel
theorem dX12_single_4 : decode cX12_single 4 = .ok (.iload_n 3, 1) := by decide +kernel
theorem dX12_single_5 : decode cX12_single 5 = .ok (.iload_n 1, 1) := by decide +kernel
theorem dX12_single_6 : decode cX12_single 6 = .ok (.invokestatic 359, 3) := by decide +kernel
theorem dX12_single_9 : decode cX12_single 9 = .ok (.if_icmp .ge 93, 3) := by decide +kernel
theorem dX12_single_12 : decode cX12_single 12 = .ok (.iconst 1, 1) := by decide +kernel
theorem dX12_single_13 : decode cX12_single 13 = .ok (.istore 4, 2) := by decide +kernel
theorem dX12_single_15 : decode cX12_single 15 = .ok (.iconst 0, 1) := by decide +kernel
theorem dX12_single_16 : decode cX12_single 16 = .ok (.istore 5, 2) := by decide +kernel
theorem dX12_single_18 : decode cX12_single 18 = .ok (.iload 5, 2) := by decide +kernel
theorem dX12_single_20 : decode cX12_single 20 = .ok (.iconst 1, 1) := by decide +kernel
theorem dX12_single_21 : decode cX12_single 21 = .ok (.iload_n 1, 1) := by decide +kernel
theorem dX12_single_22 : decode cX12_single 22 = .ok (.ishl, 1) := by decide +kernel
theorem dX12_single_23 : decode cX12_single 23 = .ok (.if_icmp .ge 41, 3) := by decide +kernel
theorem dX12_single_26 : decode cX12_single 26 = .ok (.iload 4, 2) := by decide +kernel
theorem dX12_single_28 : decode cX12_single 28 = .ok (.ifCond .eq 27, 3) := by decide +kernel
theorem dX12_single_31 : decode cX12_single 31 = .ok (.aload_n 0, 1) := by decide +kernel
theorem dX12_single_32 : decode cX12_single 32 = .ok (.getfield 175, 3) := by decide +kernel
theorem dX12_single_35 : decode cX12_single 35 = .ok (.iload 5, 2) := by decide +kernel
theorem dX12_single_37 : decode cX12_single 37 = .ok (.iaload, 1) := by decide +kernel
theorem dX12_single_38 : decode cX12_single 38 = .ok (.iload_n 3, 1) := by decide +kernel
theorem dX12_single_39 : decode cX12_single 39 = .ok (.iload 5, 2) := by decide +kernel
theorem dX12_single_41 : decode cX12_single 41 = .ok (.ishr, 1) := by decide +kernel
theorem dX12_single_42 : decode cX12_single 42 = .ok (.iconst 1, 1) := by decide +kernel
theorem dX12_single_43 : decode cX12_single 43 = .ok (.iand, 1) := by decide +kernel
theorem dX12_single_44 : decode cX12_single 44 = .ok (.ishr, 1) := by decide +kernel
theorem dX12_single_45 : decode cX12_single 45 = .ok (.iconst 1, 1) := by decide +kernel
theorem dX12_single_46 : decode cX12_single 46 = .ok (.iand, 1) := by decide +kernel
theorem dX12_single_47 : decode cX12_single 47 = .ok (.iconst 1, 1) := by decide +kernel
theorem dX12_single_48 : decode cX12_single 48 = .ok (.if_icmp .ne 7, 3) := by decide +kernel
theorem dX12_single_51 : decode cX12_single 51 = .ok (.iconst 1, 1) := by decide +kernel
theorem dX12_single_52 : decode cX12_single 52 = .ok (.goto 4, 3) := by decide +kernel
theorem dX12_single_55 : decode cX12_single 55 = .ok (.iconst 0, 1) := by decide +kernel
theorem dX12_single_56 : decode cX12_single 56 = .ok (.istore 4, 2) := by decide +kernel
theorem dX12_single_58 : decode cX12_single 58 = .ok (.iinc 5 1, 3) := by decide +kernel
theorem dX12_single_61 : decode cX12_single 61 = .ok (.goto (-43), 3) := by decide +kernel
theorem dX12_single_64 : decode cX12_single 64 = .ok (.iload 4, 2) := by decide +kernel
theorem dX12_single_66 : decode cX12_single 66 = .ok (.ifCond .eq 30, 3) := by decide +kernel
theorem dX12_single_69 : decode cX12_single 69 = .ok (.iload_n 2, 1) := by decide +kernel
theorem dX12_single_70 : decode cX12_single 70 = .ok (.iconst (-1), 1) := by decide +kernel
theorem dX12_single_71 : decode cX12_single 71 = .ok (.if_icmp .eq 13, 3) := by decide +kernel
theorem dX12_single_74 : decode cX12_single 74 = .ok (.aload_n 0, 1) := by decide +kernel
theorem dX12_single_75 : decode cX12_single 75 = .ok (.getfield 166, 3) := by decide +kernel
theorem dX12_single_78 : decode cX12_single 78 = .ok (.iload_n 3, 1) := by decide +kernel
theorem dX12_single_79 : decode cX12_single 79 = .ok (.iaload, 1) := by decide +kernel
theorem dX12_single_80 : decode cX12_single 80 = .ok (.iload_n 2, 1) := by decide +kernel
theorem dX12_single_81 : decode cX12_single 81 = .ok (.if_icmp .ge 15, 3) := by decide +kernel
theorem dX12_single_84 : decode cX12_single 84 = .ok (.aload_n 0, 1) := by decide +kernel
theorem dX12_single_85 : decode cX12_single 85 = .ok (.getfield 166, 3) := by decide +kernel
theorem dX12_single_88 : decode cX12_single 88 = .ok (.iload_n 3, 1) := by decide +kernel
theorem dX12_single_89 : decode cX12_single 89 = .ok (.iaload, 1) := by decide +kernel
theorem dX12_single_90 : decode cX12_single 90 = .ok (.istore_n 2, 1) := by decide +kernel
theorem dX12_single_91 : decode cX12_single 91 = .ok (.aload_n 0, 1) := by decide +kernel
theorem dX12_single_92 : decode cX12_single 92 = .ok (.iload_n 3, 1) := by decide +kernel
theorem dX12_single_93 : decode cX12_single 93 = .ok (.putfield 399, 3) := by decide +kernel
theorem dX12_single_96 : decode cX12_single 96 = .ok (.iinc 3 1, 3) := by decide +kernel
theorem dX12_single_99 : decode cX12_single 99 = .ok (.goto (-95), 3) := by decide +kernel
theorem dX12_single_102 : decode cX12_single 102 = .ok (.iload_n 2, 1) := by decide +kernel
theorem dX12_single_103 : decode cX12_single 103 = .ok (.ireturn, 1) := by decide +kernel
theorem dX12_both_0 : decode cX12_both 0 = .ok (.iconst (-1), 1) := by decide +kernel
theorem dX12_both_1 : decode cX12_both 1 = .ok (.istore_n 2, 1) := by decide +kernel
theorem dX12_both_2 : decode cX12_both 2 = .ok (.iconst 0, 1) := by decide +kernel
theorem dX12_both_3 : decode cX12_both 3 = .ok (.istore_n 3, 1) := by decide +kernel
theorem dX12_both_4 : decode cX12_both 4 = .ok (.iload_n 3, 1) := by decide +kernel
theorem dX12_both_5 : decode cX12_both 5 = .ok (.iload_n 1, 1) := by decide +kernel
theorem dX12_both_6 : decode cX12_both 6 = .ok (.invokestatic 359, 3) := by decide +kernel
theorem dX12_both_9 : decode cX12_both 9 = .ok (.if_icmp .ge 147, 3) := by decide +kernel
theorem dX12_both_12 : decode cX12_both 12 = .ok (.iconst 0, 1) := by decide +kernel
theorem dX12_both_13 : decode cX12_both 13 = .ok (.istore 4, 2) := by decide +kernel
theorem dX12_both_15 : decode cX12_both 15 = .ok (.iload 4, 2) := by decide +kernel
theorem dX12_both_17 : decode cX12_both 17 = .ok (.iload_n 1, 1) := by decide +kernel
theorem dX12_both_18 : decode cX12_both 18 = .ok (.invokestatic 359, 3) := by decide +kernel
theorem dX12_both_21 : decode cX12_both 21 = .ok (.if_icmp .ge 129, 3) := by decide +kernel
theorem dX12_both_24 : decode cX12_both 24 = .ok (.iload_n 2, 1) := by decide +kernel
theorem dX12_both_25 : decode cX12_both 25 = .ok (.iconst (-1), 1) := by decide +kernel
theorem dX12_both_26 : decode cX12_both 26 = .ok (.if_icmp .eq 21, 3) := by decide +kernel
theorem dX12_both_29 : decode cX12_both 29 = .ok (.aload_n 0, 1) := by decide +kernel
theorem dX12_both_30 : decode cX12_both 30 = .ok (.getfield 166, 3) := by decide +kernel
theorem dX12_both_33 : decode cX12_both 33 = .ok (.iload_n 3, 1) := by decide +kernel
theorem dX12_both_34 : decode cX12_both 34 = .ok (.iaload, 1) := by decide +kernel
theorem dX12_both_35 : decode cX12_both 35 = .ok (.aload_n 0, 1) := by decide +kernel
theorem dX12_both_36 : decode cX12_both 36 = .ok (.getfield 166, 3) := by decide +kernel
theorem dX12_both_39 : decode cX12_both 39 = .ok (.iload 4, 2) := by decide +kernel
theorem dX12_both_41 : decode cX12_both 41 = .ok (.iaload, 1) := by decide +kernel
theorem dX12_both_42 : decode cX12_both 42 = .ok (.iadd, 1) := by decide +kernel
theorem dX12_both_43 : decode cX12_both 43 = .ok (.iload_n 2, 1) := by decide +kernel
theorem dX12_both_44 : decode cX12_both 44 = .ok (.if_icmp .ge 7, 3) := by decide +kernel
theorem dX12_both_47 : decode cX12_both 47 = .ok (.iconst 1, 1) := by decide +kernel
theorem dX12_both_48 : decode cX12_both 48 = .ok (.goto 4, 3) := by decide +kernel
theorem dX12_both_51 : decode cX12_both 51 = .ok (.iconst 0, 1) := by decide +kernel
theorem dX12_both_52 : decode cX12_both 52 = .ok (.istore 5, 2) := by decide +kernel
theorem dX12_both_54 : decode cX12_both 54 = .ok (.iconst 0, 1) := by decide +kernel
theorem dX12_both_55 : decode cX12_both 55 = .ok (.istore 6, 2) := by decide +kernel
theorem dX12_both_57 : decode cX12_both 57 = .ok (.iload 6, 2) := by decide +kernel
theorem dX12_both_59 : decode cX12_both 59 = .ok (.iconst 1, 1) := by decide +kernel
theorem dX12_both_60 : decode cX12_both 60 = .ok (.iload_n 1, 1) := by decide +kernel
theorem dX12_both_61 : decode cX12_both 61 = .ok (.ishl, 1) := by decide +kernel
theorem dX12_both_62 : decode cX12_both 62 = .ok (.if_icmp .ge 51, 3) := by decide +kernel
theorem dX12_both_65 : decode cX12_both 65 = .ok (.iload 5, 2) := by decide +kernel
theorem dX12_both_67 : decode cX12_both 67 = .ok (.ifCond .eq 46, 3) := by decide +kernel
theorem dX12_both_70 : decode cX12_both 70 = .ok (.aload_n 0, 1) := by decide +kernel
theorem dX12_both_71 : decode cX12_both 71 = .ok (.getfield 175, 3) := by decide +kernel
theorem dX12_both_74 : decode cX12_both 74 = .ok (.iload 6, 2) := by decide +kernel
theorem dX12_both_76 : decode cX12_both 76 = .ok (.iaload, 1) := by decide +kernel
theorem dX12_both_77 : decode cX12_both 77 = .ok (.iload_n 3, 1) := by decide +kernel
theorem dX12_both_78 : decode cX12_both 78 = .ok (.iload 6, 2) := by decide +kernel
theorem dX12_both_80 : decode cX12_both 80 = .ok (.ishr, 1) := by decide +kernel
theorem dX12_both_81 : decode cX12_both 81 = .ok (.iconst 1, 1) := by decide +kernel
theorem dX12_both_82 : decode cX12_both 82 = .ok (.iand, 1) := by decide +kernel
theorem dX12_both_83 : decode cX12_both 83 = .ok (.iconst 2, 1) := by decide +kernel
theorem dX12_both_84 : decode cX12_both 84 = .ok (.iload 4, 2) := by decide +kernel
theorem dX12_both_86 : decode cX12_both 86 = .ok (.iload 6, 2) := by decide +kernel
theorem dX12_both_88 : decode cX12_both 88 = .ok (.ishr, 1) := by decide +kernel
theorem dX12_both_89 : decode cX12_both 89 = .ok (.iconst 1, 1) := by decide +kernel
theorem dX12_both_90 : decode cX12_both 90 = .ok (.iand, 1) := by decide +kernel
theorem dX12_both_91 : decode cX12_both 91 = .ok (.imul, 1) := by decide +kernel
theorem dX12_both_92 : decode cX12_both 92 = .ok (.iadd, 1) := by decide +kernel
theorem dX12_both_93 : decode cX12_both 93 = .ok (.ishr, 1) := by decide +kernel
theorem dX12_both_94 : decode cX12_both 94 = .ok (.iconst 1, 1) := by decide +kernel
theorem dX12_both_95 : decode cX12_both 95 = .ok (.iand, 1) := by decide +kernel
theorem dX12_both_96 : decode cX12_both 96 = .ok (.iconst 1, 1) := by decide +kernel
theorem dX12_both_97 : decode cX12_both 97 = .ok (.if_icmp .ne 7, 3) := by decide +kernel
theorem dX12_both_100 : decode cX12_both 100 = .ok (.iconst 1, 1) := by decide +kernel
theorem dX12_both_101 : decode cX12_both 101 = .ok (.goto 4, 3) := by decide +kernel
theorem dX12_both_104 : decode cX12_both 104 = .ok (.iconst 0, 1) := by decide +kernel
theorem dX12_both_105 : decode cX12_both 105 = .ok (.istore 5, 2) := by decide +kernel
theorem dX12_both_107 : decode cX12_both 107 = .ok (.iinc 6 1, 3) := by decide +kernel
theorem dX12_both_110 : decode cX12_both 110 = .ok (.goto (-53), 3) := by decide +kernel
theorem dX12_both_113 : decode cX12_both 113 = .ok (.iload 5, 2) := by decide +kernel
theorem dX12_both_115 : decode cX12_both 115 = .ok (.ifCond .eq 29, 3) := by decide +kernel
theorem dX12_both_118 : decode cX12_both 118 = .ok (.aload_n 0, 1) := by decide +kernel
theorem dX12_both_119 : decode cX12_both 119 = .ok (.getfield 166, 3) := by decide +kernel
theorem dX12_both_122 : decode cX12_both 122 = .ok (.iload_n 3, 1) := by decide +kernel
theorem dX12_both_123 : decode cX12_both 123 = .ok (.iaload, 1) := by decide +kernel
theorem dX12_both_124 : decode cX12_both 124 = .ok (.aload_n 0, 1) := by decide +kernel
theorem dX12_both_125 : decode cX12_both 125 = .ok (.getfield 166, 3) := by decide +kernel
theorem dX12_both_128 : decode cX12_both 128 = .ok (.iload 4, 2) := by decide +kernel
theorem dX12_both_130 : decode cX12_both 130 = .ok (.iaload, 1) := by decide +kernel
theorem dX12_both_131 : decode cX12_both 131 = .ok (.iadd, 1) := by decide +kernel
theorem dX12_both_132 : decode cX12_both 132 = .ok (.istore_n 2, 1) := by decide +kernel
theorem dX12_both_133 : decode cX12_both 133 = .ok (.aload_n 0, 1) := by decide +kernel
theorem dX12_both_134 : decode cX12_both 134 = .ok (.iload_n 3, 1) := by decide +kernel
theorem dX12_both_135 : decode cX12_both 135 = .ok (.putfield 399, 3) := by decide +kernel
theorem dX12_both_138 : decode cX12_both 138 = .ok (.aload_n 0, 1) := by decide +kernel
theorem dX12_both_139 : decode cX12_both 139 = .ok (.iload 4, 2) := by decide +kernel
theorem dX12_both_141 : decode cX12_both 141 = .ok (.putfield 402, 3) := by decide +kernel
theorem dX12_both_144 : decode cX12_both 144 = .ok (.iinc 4 1, 3) := by decide +kernel
theorem dX12_both_147 : decode cX12_both 147 = .ok (.goto (-132), 3) := by decide +kernel
theorem dX12_both_150 : decode cX12_both 150 = .ok (.iinc 3 1, 3) := by decide +kernel
theorem dX12_both_153 : decode cX12_both 153 = .ok (.goto (-149), 3) := by decide +kernel
theorem dX12_both_156 : decode cX12_both 156 = .ok (.iload_n 2, 1) := by decide +kernel
theorem dX12_both_157 : decode cX12_both 157 = .ok (.ireturn, 1) := by decide +kernel
theorem dX12_finds_0 : decode cX12_finds 0 = .ok (.aload_n 0, 1) := by decide +kernel
theorem dX12_finds_1 : decode cX12_finds 1 = .ok (.invokevirtual 336, 3) := by decide +kernel
theorem dX12_finds_4 : decode cX12_finds 4 = .ok (.aload_n 0, 1) := by decide +kernel
theorem dX12_finds_5 : decode cX12_finds 5 = .ok (.iload_n 1, 1) := by decide +kernel
theorem dX12_finds_6 : decode cX12_finds 6 = .ok (.iload_n 2, 1) := by decide +kernel
theorem dX12_finds_7 : decode cX12_finds 7 = .ok (.iconst (-1), 1) := by decide +kernel
theorem dX12_finds_8 : decode cX12_finds 8 = .ok (.iload_n 3, 1) := by decide +kernel
theorem dX12_finds_9 : decode cX12_finds 9 = .ok (.invokevirtual 339, 3) := by decide +kernel
theorem dX12_finds_12 : decode cX12_finds 12 = .ok (.aload_n 0, 1) := by decide +kernel
theorem dX12_finds_13 : decode cX12_finds 13 = .ok (.iconst 0, 1) := by decide +kernel
theorem dX12_finds_14 : decode cX12_finds 14 = .ok (.invokevirtual 310, 3) := by decide +kernel
theorem dX12_finds_17 : decode cX12_finds 17 = .ok (.iconst 0, 1) := by decide +kernel
theorem dX12_finds_18 : decode cX12_finds 18 = .ok (.istore 6, 2) := by decide +kernel
theorem dX12_finds_20 : decode cX12_finds 20 = .ok (.iload 6, 2) := by decide +kernel
theorem dX12_finds_22 : decode cX12_finds 22 = .ok (.bipush 8, 2) := by decide +kernel
theorem dX12_finds_24 : decode cX12_finds 24 = .ok (.if_icmp .ge 23, 3) := by decide +kernel
theorem dX12_finds_27 : decode cX12_finds 27 = .ok (.aload_n 0, 1) := by decide +kernel
theorem dX12_finds_28 : decode cX12_finds 28 = .ok (.getfield 175, 3) := by decide +kernel
theorem dX12_finds_31 : decode cX12_finds 31 = .ok (.iload 6, 2) := by decide +kernel
theorem dX12_finds_33 : decode cX12_finds 33 = .ok (.iconst 1, 1) := by decide +kernel
theorem dX12_finds_34 : decode cX12_finds 34 = .ok (.iconst 1, 1) := by decide +kernel
theorem dX12_finds_35 : decode cX12_finds 35 = .ok (.iload_n 3, 1) := by decide +kernel
theorem dX12_finds_36 : decode cX12_finds 36 = .ok (.ishl, 1) := by decide +kernel
theorem dX12_finds_37 : decode cX12_finds 37 = .ok (.ishl, 1) := by decide +kernel
theorem dX12_finds_38 : decode cX12_finds 38 = .ok (.iconst 1, 1) := by decide +kernel
theorem dX12_finds_39 : decode cX12_finds 39 = .ok (.isub, 1) := by decide +kernel
theorem dX12_finds_40 : decode cX12_finds 40 = .ok (.iastore, 1) := by decide +kernel
theorem dX12_finds_41 : decode cX12_finds 41 = .ok (.iinc 6 1, 3) := by decide +kernel
theorem dX12_finds_44 : decode cX12_finds 44 = .ok (.goto (-24), 3) := by decide +kernel
theorem dX12_finds_47 : decode cX12_finds 47 = .ok (.iconst 0, 1) := by decide +kernel
theorem dX12_finds_48 : decode cX12_finds 48 = .ok (.istore 6, 2) := by decide +kernel
theorem dX12_finds_50 : decode cX12_finds 50 = .ok (.iload 6, 2) := by decide +kernel
theorem dX12_finds_52 : decode cX12_finds 52 = .ok (.aload_n 0, 1) := by decide +kernel
theorem dX12_finds_53 : decode cX12_finds 53 = .ok (.invokevirtual 242, 3) := by decide +kernel
theorem dX12_finds_56 : decode cX12_finds 56 = .ok (.if_icmp .ge 103, 3) := by decide +kernel
theorem dX12_finds_59 : decode cX12_finds 59 = .ok (.aload_n 0, 1) := by decide +kernel
theorem dX12_finds_60 : decode cX12_finds 60 = .ok (.getfield 32, 3) := by decide +kernel
theorem dX12_finds_63 : decode cX12_finds 63 = .ok (.iload 6, 2) := by decide +kernel
theorem dX12_finds_65 : decode cX12_finds 65 = .ok (.baload, 1) := by decide +kernel
theorem dX12_finds_66 : decode cX12_finds 66 = .ok (.ifCond .ne 87, 3) := by decide +kernel
theorem dX12_finds_69 : decode cX12_finds 69 = .ok (.aload_n 0, 1) := by decide +kernel
theorem dX12_finds_70 : decode cX12_finds 70 = .ok (.iload 6, 2) := by decide +kernel
theorem dX12_finds_72 : decode cX12_finds 72 = .ok (.iload 4, 2) := by decide +kernel
theorem dX12_finds_74 : decode cX12_finds 74 = .ok (.invokevirtual 387, 3) := by decide +kernel
theorem dX12_finds_77 : decode cX12_finds 77 = .ok (.istore 7, 2) := by decide +kernel
theorem dX12_finds_79 : decode cX12_finds 79 = .ok (.iconst 0, 1) := by decide +kernel
theorem dX12_finds_80 : decode cX12_finds 80 = .ok (.istore 8, 2) := by decide +kernel
theorem dX12_finds_82 : decode cX12_finds 82 = .ok (.iload 8, 2) := by decide +kernel
theorem dX12_finds_84 : decode cX12_finds 84 = .ok (.iconst 1, 1) := by decide +kernel
theorem dX12_finds_85 : decode cX12_finds 85 = .ok (.iload_n 3, 1) := by decide +kernel
theorem dX12_finds_86 : decode cX12_finds 86 = .ok (.ishl, 1) := by decide +kernel
theorem dX12_finds_87 : decode cX12_finds 87 = .ok (.if_icmp .ge 40, 3) := by decide +kernel
theorem dX12_finds_90 : decode cX12_finds 90 = .ok (.aload_n 0, 1) := by decide +kernel
theorem dX12_finds_91 : decode cX12_finds 91 = .ok (.getfield 175, 3) := by decide +kernel
theorem dX12_finds_94 : decode cX12_finds 94 = .ok (.iload 7, 2) := by decide +kernel
theorem dX12_finds_96 : decode cX12_finds 96 = .ok (.dup2, 1) := by decide +kernel
theorem dX12_finds_97 : decode cX12_finds 97 = .ok (.iaload, 1) := by decide +kernel
theorem dX12_finds_98 : decode cX12_finds 98 = .ok (.aload_n 0, 1) := by decide +kernel
theorem dX12_finds_99 : decode cX12_finds 99 = .ok (.iload 8, 2) := by decide +kernel
theorem dX12_finds_101 : decode cX12_finds 101 = .ok (.iload 6, 2) := by decide +kernel
theorem dX12_finds_103 : decode cX12_finds 103 = .ok (.invokevirtual 326, 3) := by decide +kernel
theorem dX12_finds_106 : decode cX12_finds 106 = .ok (.ifCond .eq 7, 3) := by decide +kernel
theorem dX12_finds_109 : decode cX12_finds 109 = .ok (.iconst (-1), 1) := by decide +kernel
theorem dX12_finds_110 : decode cX12_finds 110 = .ok (.goto 9, 3) := by decide +kernel
theorem dX12_finds_113 : decode cX12_finds 113 = .ok (.iconst 1, 1) := by decide +kernel
theorem dX12_finds_114 : decode cX12_finds 114 = .ok (.iload 8, 2) := by decide +kernel
theorem dX12_finds_116 : decode cX12_finds 116 = .ok (.ishl, 1) := by decide +kernel
theorem dX12_finds_117 : decode cX12_finds 117 = .ok (.iconst (-1), 1) := by decide +kernel
theorem dX12_finds_118 : decode cX12_finds 118 = .ok (.ixor, 1) := by decide +kernel
theorem dX12_finds_119 : decode cX12_finds 119 = .ok (.iand, 1) := by decide +kernel
theorem dX12_finds_120 : decode cX12_finds 120 = .ok (.iastore, 1) := by decide +kernel
theorem dX12_finds_121 : decode cX12_finds 121 = .ok (.iinc 8 1, 3) := by decide +kernel
theorem dX12_finds_124 : decode cX12_finds 124 = .ok (.goto (-42), 3) := by decide +kernel
theorem dX12_finds_127 : decode cX12_finds 127 = .ok (.aload_n 0, 1) := by decide +kernel
theorem dX12_finds_128 : decode cX12_finds 128 = .ok (.getfield 175, 3) := by decide +kernel
theorem dX12_finds_131 : decode cX12_finds 131 = .ok (.iload 7, 2) := by decide +kernel
theorem dX12_finds_133 : decode cX12_finds 133 = .ok (.iaload, 1) := by decide +kernel
theorem dX12_finds_134 : decode cX12_finds 134 = .ok (.ifCond .ne 19, 3) := by decide +kernel
theorem dX12_finds_137 : decode cX12_finds 137 = .ok (.iload 5, 2) := by decide +kernel
theorem dX12_finds_139 : decode cX12_finds 139 = .ok (.ifCond .eq 11, 3) := by decide +kernel
theorem dX12_finds_142 : decode cX12_finds 142 = .ok (.aload_n 0, 1) := by decide +kernel
theorem dX12_finds_143 : decode cX12_finds 143 = .ok (.iload 6, 2) := by decide +kernel
theorem dX12_finds_145 : decode cX12_finds 145 = .ok (.iload 4, 2) := by decide +kernel
theorem dX12_finds_147 : decode cX12_finds 147 = .ok (.invokevirtual 390, 3) := by decide +kernel
theorem dX12_finds_150 : decode cX12_finds 150 = .ok (.bipush (-4), 2) := by decide +kernel
theorem dX12_finds_152 : decode cX12_finds 152 = .ok (.ireturn, 1) := by decide +kernel
theorem dX12_finds_153 : decode cX12_finds 153 = .ok (.iinc 6 1, 3) := by decide +kernel
theorem dX12_finds_156 : decode cX12_finds 156 = .ok (.goto (-106), 3) := by decide +kernel
theorem dX12_finds_159 : decode cX12_finds 159 = .ok (.aload_n 0, 1) := by decide +kernel
theorem dX12_finds_160 : decode cX12_finds 160 = .ok (.iload 4, 2) := by decide +kernel
theorem dX12_finds_162 : decode cX12_finds 162 = .ok (.invokevirtual 384, 3) := by decide +kernel
theorem dX12_finds_165 : decode cX12_finds 165 = .ok (.iload_n 3, 1) := by decide +kernel
theorem dX12_finds_166 : decode cX12_finds 166 = .ok (.iconst 1, 1) := by decide +kernel
theorem dX12_finds_167 : decode cX12_finds 167 = .ok (.if_icmp .ne 12, 3) := by decide +kernel
theorem dX12_finds_170 : decode cX12_finds 170 = .ok (.aload_n 0, 1) := by decide +kernel
theorem dX12_finds_171 : decode cX12_finds 171 = .ok (.iload 4, 2) := by decide +kernel
theorem dX12_finds_173 : decode cX12_finds 173 = .ok (.invokevirtual 393, 3) := by decide +kernel
theorem dX12_finds_176 : decode cX12_finds 176 = .ok (.goto 9, 3) := by decide +kernel
theorem dX12_finds_179 : decode cX12_finds 179 = .ok (.aload_n 0, 1) := by decide +kernel
theorem dX12_finds_180 : decode cX12_finds 180 = .ok (.iload 4, 2) := by decide +kernel
theorem dX12_finds_182 : decode cX12_finds 182 = .ok (.invokevirtual 396, 3) := by decide +kernel
theorem dX12_finds_185 : decode cX12_finds 185 = .ok (.ireturn, 1) := by decide +kernel
theorem dX12_keepsPatch_0 : decode cX12_keepsPatch 0 = .ok (.aload_n 0, 1) := by decide +kernel
theorem dX12_keepsPatch_1 : decode cX12_keepsPatch 1 = .ok (.iconst 1, 1) := by decide +kernel
theorem dX12_keepsPatch_2 : decode cX12_keepsPatch 2 = .ok (.putfield 229, 3) := by decide +kernel
theorem dX12_keepsPatch_5 : decode cX12_keepsPatch 5 = .ok (.aload_n 0, 1) := by decide +kernel
theorem dX12_keepsPatch_6 : decode cX12_keepsPatch 6 = .ok (.iconst 0, 1) := by decide +kernel
theorem dX12_keepsPatch_7 : decode cX12_keepsPatch 7 = .ok (.putfield 405, 3) := by decide +kernel
theorem dX12_keepsPatch_10 : decode cX12_keepsPatch 10 = .ok (.aload_n 0, 1) := by decide +kernel
theorem dX12_keepsPatch_11 : decode cX12_keepsPatch 11 = .ok (.iload_n 3, 1) := by decide +kernel
theorem dX12_keepsPatch_12 : decode cX12_keepsPatch 12 = .ok (.putfield 408, 3) := by decide +kernel
theorem dX12_keepsPatch_15 : decode cX12_keepsPatch 15 = .ok (.aload_n 0, 1) := by decide +kernel
theorem dX12_keepsPatch_16 : decode cX12_keepsPatch 16 = .ok (.iload 4, 2) := by decide +kernel
theorem dX12_keepsPatch_18 : decode cX12_keepsPatch 18 = .ok (.putfield 411, 3) := by decide +kernel
theorem dX12_keepsPatch_21 : decode cX12_keepsPatch 21 = .ok (.aload_n 0, 1) := by decide +kernel
theorem dX12_keepsPatch_22 : decode cX12_keepsPatch 22 = .ok (.iconst 0, 1) := by decide +kernel
theorem dX12_keepsPatch_23 : decode cX12_keepsPatch 23 = .ok (.putfield 381, 3) := by decide +kernel
theorem dX12_keepsPatch_26 : decode cX12_keepsPatch 26 = .ok (.aload_n 0, 1) := by decide +kernel
theorem dX12_keepsPatch_27 : decode cX12_keepsPatch 27 = .ok (.getfield 69, 3) := by decide +kernel
theorem dX12_keepsPatch_30 : decode cX12_keepsPatch 30 = .ok (.iconst 0, 1) := by decide +kernel
theorem dX12_keepsPatch_31 : decode cX12_keepsPatch 31 = .ok (.iload_n 1, 1) := by decide +kernel
theorem dX12_keepsPatch_32 : decode cX12_keepsPatch 32 = .ok (.iastore, 1) := by decide +kernel
theorem dX12_keepsPatch_33 : decode cX12_keepsPatch 33 = .ok (.aload_n 0, 1) := by decide +kernel
theorem dX12_keepsPatch_34 : decode cX12_keepsPatch 34 = .ok (.getfield 69, 3) := by decide +kernel
theorem dX12_keepsPatch_37 : decode cX12_keepsPatch 37 = .ok (.iconst 1, 1) := by decide +kernel
theorem dX12_keepsPatch_38 : decode cX12_keepsPatch 38 = .ok (.iload_n 2, 1) := by decide +kernel
theorem dX12_keepsPatch_39 : decode cX12_keepsPatch 39 = .ok (.iastore, 1) := by decide +kernel
theorem dX12_keepsPatch_40 : decode cX12_keepsPatch 40 = .ok (.aload_n 0, 1) := by decide +kernel
theorem dX12_keepsPatch_41 : decode cX12_keepsPatch 41 = .ok (.getfield 75, 3) := by decide +kernel
theorem dX12_keepsPatch_44 : decode cX12_keepsPatch 44 = .ok (.iconst 0, 1) := by decide +kernel
theorem dX12_keepsPatch_45 : decode cX12_keepsPatch 45 = .ok (.aload_n 0, 1) := by decide +kernel
theorem dX12_keepsPatch_46 : decode cX12_keepsPatch 46 = .ok (.getfield 399, 3) := by decide +kernel
theorem dX12_keepsPatch_49 : decode cX12_keepsPatch 49 = .ok (.iastore, 1) := by decide +kernel
theorem dX12_keepsPatch_50 : decode cX12_keepsPatch 50 = .ok (.aload_n 0, 1) := by decide +kernel
theorem dX12_keepsPatch_51 : decode cX12_keepsPatch 51 = .ok (.getfield 75, 3) := by decide +kernel
theorem dX12_keepsPatch_54 : decode cX12_keepsPatch 54 = .ok (.iconst 1, 1) := by decide +kernel
theorem dX12_keepsPatch_55 : decode cX12_keepsPatch 55 = .ok (.aload_n 0, 1) := by decide +kernel
theorem dX12_keepsPatch_56 : decode cX12_keepsPatch 56 = .ok (.getfield 402, 3) := by decide +kernel
theorem dX12_keepsPatch_59 : decode cX12_keepsPatch 59 = .ok (.iastore, 1) := by decide +kernel
theorem dX12_keepsPatch_60 : decode cX12_keepsPatch 60 = .ok (.iconst 0, 1) := by decide +kernel
theorem dX12_keepsPatch_61 : decode cX12_keepsPatch 61 = .ok (.istore 5, 2) := by decide +kernel
theorem dX12_keepsPatch_63 : decode cX12_keepsPatch 63 = .ok (.iload 5, 2) := by decide +kernel
theorem dX12_keepsPatch_65 : decode cX12_keepsPatch 65 = .ok (.iload 4, 2) := by decide +kernel
theorem dX12_keepsPatch_67 : decode cX12_keepsPatch 67 = .ok (.if_icmp .ge 23, 3) := by decide +kernel
theorem dX12_keepsPatch_70 : decode cX12_keepsPatch 70 = .ok (.aload_n 0, 1) := by decide +kernel
theorem dX12_keepsPatch_71 : decode cX12_keepsPatch 71 = .ok (.getfield 72, 3) := by decide +kernel
theorem dX12_keepsPatch_74 : decode cX12_keepsPatch 74 = .ok (.iload 5, 2) := by decide +kernel
theorem dX12_keepsPatch_76 : decode cX12_keepsPatch 76 = .ok (.aload_n 0, 1) := by decide +kernel
theorem dX12_keepsPatch_77 : decode cX12_keepsPatch 77 = .ok (.getfield 178, 3) := by decide +kernel
theorem dX12_keepsPatch_80 : decode cX12_keepsPatch 80 = .ok (.iload 5, 2) := by decide +kernel
theorem dX12_keepsPatch_82 : decode cX12_keepsPatch 82 = .ok (.iaload, 1) := by decide +kernel
theorem dX12_keepsPatch_83 : decode cX12_keepsPatch 83 = .ok (.iastore, 1) := by decide +kernel
theorem dX12_keepsPatch_84 : decode cX12_keepsPatch 84 = .ok (.iinc 5 1, 3) := by decide +kernel
theorem dX12_keepsPatch_87 : decode cX12_keepsPatch 87 = .ok (.goto (-24), 3) := by decide +kernel
theorem dX12_keepsPatch_90 : decode cX12_keepsPatch 90 = .ok (.aload_n 0, 1) := by decide +kernel
theorem dX12_keepsPatch_91 : decode cX12_keepsPatch 91 = .ok (.iload 4, 2) := by decide +kernel
theorem dX12_keepsPatch_93 : decode cX12_keepsPatch 93 = .ok (.invokevirtual 384, 3) := by decide +kernel
theorem dX12_keepsPatch_96 : decode cX12_keepsPatch 96 = .ok (.iconst 0, 1) := by decide +kernel
theorem dX12_keepsPatch_97 : decode cX12_keepsPatch 97 = .ok (.istore 5, 2) := by decide +kernel
theorem dX12_keepsPatch_99 : decode cX12_keepsPatch 99 = .ok (.iload 5, 2) := by decide +kernel
theorem dX12_keepsPatch_101 : decode cX12_keepsPatch 101 = .ok (.iload_n 3, 1) := by decide +kernel
theorem dX12_keepsPatch_102 : decode cX12_keepsPatch 102 = .ok (.if_icmp .ge 26, 3) := by decide +kernel
theorem dX12_keepsPatch_105 : decode cX12_keepsPatch 105 = .ok (.aload_n 0, 1) := by decide +kernel
theorem dX12_keepsPatch_106 : decode cX12_keepsPatch 106 = .ok (.iload 4, 2) := by decide +kernel
theorem dX12_keepsPatch_108 : decode cX12_keepsPatch 108 = .ok (.aload_n 0, 1) := by decide +kernel
theorem dX12_keepsPatch_109 : decode cX12_keepsPatch 109 = .ok (.getfield 75, 3) := by decide +kernel
theorem dX12_keepsPatch_112 : decode cX12_keepsPatch 112 = .ok (.iload 5, 2) := by decide +kernel
theorem dX12_keepsPatch_114 : decode cX12_keepsPatch 114 = .ok (.iaload, 1) := by decide +kernel
theorem dX12_keepsPatch_115 : decode cX12_keepsPatch 115 = .ok (.iload 5, 2) := by decide +kernel
theorem dX12_keepsPatch_117 : decode cX12_keepsPatch 117 = .ok (.invokevirtual 375, 3) := by decide +kernel
theorem dX12_keepsPatch_120 : decode cX12_keepsPatch 120 = .ok (.istore 6, 2) := by decide +kernel
theorem dX12_keepsPatch_122 : decode cX12_keepsPatch 122 = .ok (.iinc 5 1, 3) := by decide +kernel
theorem dX12_keepsPatch_125 : decode cX12_keepsPatch 125 = .ok (.goto (-26), 3) := by decide +kernel
theorem dX12_keepsPatch_128 : decode cX12_keepsPatch 128 = .ok (.return_, 1) := by decide +kernel
theorem dX12_patch_0 : decode cX12_patch 0 = .ok (.aload_n 0, 1) := by decide +kernel
theorem dX12_patch_1 : decode cX12_patch 1 = .ok (.iload_n 1, 1) := by decide +kernel
theorem dX12_patch_2 : decode cX12_patch 2 = .ok (.iload_n 2, 1) := by decide +kernel
theorem dX12_patch_3 : decode cX12_patch 3 = .ok (.iconst (-1), 1) := by decide +kernel
theorem dX12_patch_4 : decode cX12_patch 4 = .ok (.invokevirtual 332, 3) := by decide +kernel
theorem dX12_patch_7 : decode cX12_patch 7 = .ok (.istore 6, 2) := by decide +kernel
theorem dX12_patch_9 : decode cX12_patch 9 = .ok (.iload_n 3, 1) := by decide +kernel
theorem dX12_patch_10 : decode cX12_patch 10 = .ok (.iconst (-1), 1) := by decide +kernel
theorem dX12_patch_11 : decode cX12_patch 11 = .ok (.if_icmp .ne 7, 3) := by decide +kernel
theorem dX12_patch_14 : decode cX12_patch 14 = .ok (.iconst 0, 1) := by decide +kernel
theorem dX12_patch_15 : decode cX12_patch 15 = .ok (.goto 24, 3) := by decide +kernel
theorem dX12_patch_18 : decode cX12_patch 18 = .ok (.iload 4, 2) := by decide +kernel
theorem dX12_patch_20 : decode cX12_patch 20 = .ok (.iconst (-1), 1) := by decide +kernel
theorem dX12_patch_21 : decode cX12_patch 21 = .ok (.if_icmp .ne 7, 3) := by decide +kernel
theorem dX12_patch_24 : decode cX12_patch 24 = .ok (.iconst 1, 1) := by decide +kernel
theorem dX12_patch_25 : decode cX12_patch 25 = .ok (.goto 14, 3) := by decide +kernel
theorem dX12_patch_28 : decode cX12_patch 28 = .ok (.iload 5, 2) := by decide +kernel
theorem dX12_patch_30 : decode cX12_patch 30 = .ok (.iconst (-1), 1) := by decide +kernel
theorem dX12_patch_31 : decode cX12_patch 31 = .ok (.if_icmp .ne 7, 3) := by decide +kernel
theorem dX12_patch_34 : decode cX12_patch 34 = .ok (.iconst 2, 1) := by decide +kernel
theorem dX12_patch_35 : decode cX12_patch 35 = .ok (.goto 4, 3) := by decide +kernel
theorem dX12_patch_38 : decode cX12_patch 38 = .ok (.iconst 3, 1) := by decide +kernel
theorem dX12_patch_39 : decode cX12_patch 39 = .ok (.istore 7, 2) := by decide +kernel
theorem dX12_patch_41 : decode cX12_patch 41 = .ok (.iload 6, 2) := by decide +kernel
theorem dX12_patch_43 : decode cX12_patch 43 = .ok (.ifCond .le 30, 3) := by decide +kernel
theorem dX12_patch_46 : decode cX12_patch 46 = .ok (.iload_n 3, 1) := by decide +kernel
theorem dX12_patch_47 : decode cX12_patch 47 = .ok (.iconst (-1), 1) := by decide +kernel
theorem dX12_patch_48 : decode cX12_patch 48 = .ok (.if_icmp .ne 9, 3) := by decide +kernel
theorem dX12_patch_51 : decode cX12_patch 51 = .ok (.iload 4, 2) := by decide +kernel
theorem dX12_patch_53 : decode cX12_patch 53 = .ok (.iconst (-1), 1) := by decide +kernel
theorem dX12_patch_54 : decode cX12_patch 54 = .ok (.if_icmp .ne 19, 3) := by decide +kernel
theorem dX12_patch_57 : decode cX12_patch 57 = .ok (.iload 4, 2) := by decide +kernel
theorem dX12_patch_59 : decode cX12_patch 59 = .ok (.iconst (-1), 1) := by decide +kernel
theorem dX12_patch_60 : decode cX12_patch 60 = .ok (.if_icmp .ne 9, 3) := by decide +kernel
theorem dX12_patch_63 : decode cX12_patch 63 = .ok (.iload 5, 2) := by decide +kernel
theorem dX12_patch_65 : decode cX12_patch 65 = .ok (.iconst (-1), 1) := by decide +kernel
theorem dX12_patch_66 : decode cX12_patch 66 = .ok (.if_icmp .ne 7, 3) := by decide +kernel
theorem dX12_patch_69 : decode cX12_patch 69 = .ok (.iconst 1, 1) := by decide +kernel
theorem dX12_patch_70 : decode cX12_patch 70 = .ok (.goto 4, 3) := by decide +kernel
theorem dX12_patch_73 : decode cX12_patch 73 = .ok (.iconst 0, 1) := by decide +kernel
theorem dX12_patch_74 : decode cX12_patch 74 = .ok (.istore 8, 2) := by decide +kernel
theorem dX12_patch_76 : decode cX12_patch 76 = .ok (.iload 8, 2) := by decide +kernel
theorem dX12_patch_78 : decode cX12_patch 78 = .ok (.ifCond .eq 66, 3) := by decide +kernel
theorem dX12_patch_81 : decode cX12_patch 81 = .ok (.iload_n 3, 1) := by decide +kernel
theorem dX12_patch_82 : decode cX12_patch 82 = .ok (.iconst (-1), 1) := by decide +kernel
theorem dX12_patch_83 : decode cX12_patch 83 = .ok (.if_icmp .eq 12, 3) := by decide +kernel
theorem dX12_patch_86 : decode cX12_patch 86 = .ok (.aload_n 0, 1) := by decide +kernel
theorem dX12_patch_87 : decode cX12_patch 87 = .ok (.iconst 0, 1) := by decide +kernel
theorem dX12_patch_88 : decode cX12_patch 88 = .ok (.iload_n 3, 1) := by decide +kernel
theorem dX12_patch_89 : decode cX12_patch 89 = .ok (.invokevirtual 245, 3) := by decide +kernel
theorem dX12_patch_92 : decode cX12_patch 92 = .ok (.ifCond .eq 52, 3) := by decide +kernel
theorem dX12_patch_95 : decode cX12_patch 95 = .ok (.iload 4, 2) := by decide +kernel
theorem dX12_patch_97 : decode cX12_patch 97 = .ok (.iconst (-1), 1) := by decide +kernel
theorem dX12_patch_98 : decode cX12_patch 98 = .ok (.if_icmp .eq 19, 3) := by decide +kernel
theorem dX12_patch_101 : decode cX12_patch 101 = .ok (.aload_n 0, 1) := by decide +kernel
theorem dX12_patch_102 : decode cX12_patch 102 = .ok (.iconst 0, 1) := by decide +kernel
theorem dX12_patch_103 : decode cX12_patch 103 = .ok (.iload 4, 2) := by decide +kernel
theorem dX12_patch_105 : decode cX12_patch 105 = .ok (.invokevirtual 245, 3) := by decide +kernel
theorem dX12_patch_108 : decode cX12_patch 108 = .ok (.ifCond .eq 36, 3) := by decide +kernel
theorem dX12_patch_111 : decode cX12_patch 111 = .ok (.iload 4, 2) := by decide +kernel
theorem dX12_patch_113 : decode cX12_patch 113 = .ok (.iload_n 3, 1) := by decide +kernel
theorem dX12_patch_114 : decode cX12_patch 114 = .ok (.if_icmp .le 30, 3) := by decide +kernel
theorem dX12_patch_117 : decode cX12_patch 117 = .ok (.iload 5, 2) := by decide +kernel
theorem dX12_patch_119 : decode cX12_patch 119 = .ok (.iconst (-1), 1) := by decide +kernel
theorem dX12_patch_120 : decode cX12_patch 120 = .ok (.if_icmp .eq 20, 3) := by decide +kernel
theorem dX12_patch_123 : decode cX12_patch 123 = .ok (.aload_n 0, 1) := by decide +kernel
theorem dX12_patch_124 : decode cX12_patch 124 = .ok (.iconst 0, 1) := by decide +kernel
theorem dX12_patch_125 : decode cX12_patch 125 = .ok (.iload 5, 2) := by decide +kernel
theorem dX12_patch_127 : decode cX12_patch 127 = .ok (.invokevirtual 245, 3) := by decide +kernel
theorem dX12_patch_130 : decode cX12_patch 130 = .ok (.ifCond .eq 14, 3) := by decide +kernel
theorem dX12_patch_133 : decode cX12_patch 133 = .ok (.iload 5, 2) := by decide +kernel
theorem dX12_patch_135 : decode cX12_patch 135 = .ok (.iload 4, 2) := by decide +kernel
theorem dX12_patch_137 : decode cX12_patch 137 = .ok (.if_icmp .le 7, 3) := by decide +kernel
theorem dX12_patch_140 : decode cX12_patch 140 = .ok (.iconst 1, 1) := by decide +kernel
theorem dX12_patch_141 : decode cX12_patch 141 = .ok (.goto 4, 3) := by decide +kernel
theorem dX12_patch_144 : decode cX12_patch 144 = .ok (.iconst 0, 1) := by decide +kernel
theorem dX12_patch_145 : decode cX12_patch 145 = .ok (.istore 8, 2) := by decide +kernel
theorem dX12_patch_147 : decode cX12_patch 147 = .ok (.iload 8, 2) := by decide +kernel
theorem dX12_patch_149 : decode cX12_patch 149 = .ok (.ifCond .ne 5, 3) := by decide +kernel
theorem dX12_patch_152 : decode cX12_patch 152 = .ok (.iconst (-1), 1) := by decide +kernel
theorem dX12_patch_153 : decode cX12_patch 153 = .ok (.ireturn, 1) := by decide +kernel
theorem dX12_patch_154 : decode cX12_patch 154 = .ok (.aload_n 0, 1) := by decide +kernel
theorem dX12_patch_155 : decode cX12_patch 155 = .ok (.getfield 178, 3) := by decide +kernel
theorem dX12_patch_158 : decode cX12_patch 158 = .ok (.iconst 0, 1) := by decide +kernel
theorem dX12_patch_159 : decode cX12_patch 159 = .ok (.iload_n 3, 1) := by decide +kernel
theorem dX12_patch_160 : decode cX12_patch 160 = .ok (.iastore, 1) := by decide +kernel
theorem dX12_patch_161 : decode cX12_patch 161 = .ok (.aload_n 0, 1) := by decide +kernel
theorem dX12_patch_162 : decode cX12_patch 162 = .ok (.getfield 178, 3) := by decide +kernel
theorem dX12_patch_165 : decode cX12_patch 165 = .ok (.iconst 1, 1) := by decide +kernel
theorem dX12_patch_166 : decode cX12_patch 166 = .ok (.iload 4, 2) := by decide +kernel
theorem dX12_patch_168 : decode cX12_patch 168 = .ok (.iastore, 1) := by decide +kernel
theorem dX12_patch_169 : decode cX12_patch 169 = .ok (.aload_n 0, 1) := by decide +kernel
theorem dX12_patch_170 : decode cX12_patch 170 = .ok (.getfield 178, 3) := by decide +kernel
theorem dX12_patch_173 : decode cX12_patch 173 = .ok (.iconst 2, 1) := by decide +kernel
theorem dX12_patch_174 : decode cX12_patch 174 = .ok (.iload 5, 2) := by decide +kernel
theorem dX12_patch_176 : decode cX12_patch 176 = .ok (.iastore, 1) := by decide +kernel
theorem dX12_patch_177 : decode cX12_patch 177 = .ok (.iconst 0, 1) := by decide +kernel
theorem dX12_patch_178 : decode cX12_patch 178 = .ok (.istore 9, 2) := by decide +kernel
theorem dX12_patch_180 : decode cX12_patch 180 = .ok (.iload 9, 2) := by decide +kernel
theorem dX12_patch_182 : decode cX12_patch 182 = .ok (.iload 7, 2) := by decide +kernel
theorem dX12_patch_184 : decode cX12_patch 184 = .ok (.if_icmp .ge 48, 3) := by decide +kernel
theorem dX12_patch_187 : decode cX12_patch 187 = .ok (.aload_n 0, 1) := by decide +kernel
theorem dX12_patch_188 : decode cX12_patch 188 = .ok (.iconst 0, 1) := by decide +kernel
theorem dX12_patch_189 : decode cX12_patch 189 = .ok (.aload_n 0, 1) := by decide +kernel
theorem dX12_patch_190 : decode cX12_patch 190 = .ok (.getfield 178, 3) := by decide +kernel
theorem dX12_patch_193 : decode cX12_patch 193 = .ok (.iload 9, 2) := by decide +kernel
theorem dX12_patch_195 : decode cX12_patch 195 = .ok (.iaload, 1) := by decide +kernel
theorem dX12_patch_196 : decode cX12_patch 196 = .ok (.invokevirtual 277, 3) := by decide +kernel
theorem dX12_patch_199 : decode cX12_patch 199 = .ok (.aload_n 0, 1) := by decide +kernel
theorem dX12_patch_200 : decode cX12_patch 200 = .ok (.getfield 148, 3) := by decide +kernel
theorem dX12_patch_203 : decode cX12_patch 203 = .ok (.iload_n 1, 1) := by decide +kernel
theorem dX12_patch_204 : decode cX12_patch 204 = .ok (.baload, 1) := by decide +kernel
theorem dX12_patch_205 : decode cX12_patch 205 = .ok (.ifCond .ne 18, 3) := by decide +kernel
theorem dX12_patch_208 : decode cX12_patch 208 = .ok (.iload 6, 2) := by decide +kernel
theorem dX12_patch_210 : decode cX12_patch 210 = .ok (.iconst 1, 1) := by decide +kernel
theorem dX12_patch_211 : decode cX12_patch 211 = .ok (.if_icmp .le 15, 3) := by decide +kernel
theorem dX12_patch_214 : decode cX12_patch 214 = .ok (.aload_n 0, 1) := by decide +kernel
theorem dX12_patch_215 : decode cX12_patch 215 = .ok (.getfield 148, 3) := by decide +kernel
theorem dX12_patch_218 : decode cX12_patch 218 = .ok (.iload_n 2, 1) := by decide +kernel
theorem dX12_patch_219 : decode cX12_patch 219 = .ok (.baload, 1) := by decide +kernel
theorem dX12_patch_220 : decode cX12_patch 220 = .ok (.ifCond .eq 6, 3) := by decide +kernel
theorem dX12_patch_223 : decode cX12_patch 223 = .ok (.bipush (-2), 2) := by decide +kernel
theorem dX12_patch_225 : decode cX12_patch 225 = .ok (.ireturn, 1) := by decide +kernel
theorem dX12_patch_226 : decode cX12_patch 226 = .ok (.iinc 9 1, 3) := by decide +kernel
theorem dX12_patch_229 : decode cX12_patch 229 = .ok (.goto (-49), 3) := by decide +kernel
theorem dX12_patch_232 : decode cX12_patch 232 = .ok (.aload_n 0, 1) := by decide +kernel
theorem dX12_patch_233 : decode cX12_patch 233 = .ok (.iload_n 1, 1) := by decide +kernel
theorem dX12_patch_234 : decode cX12_patch 234 = .ok (.iload_n 2, 1) := by decide +kernel
theorem dX12_patch_235 : decode cX12_patch 235 = .ok (.iload 6, 2) := by decide +kernel
theorem dX12_patch_237 : decode cX12_patch 237 = .ok (.iload 7, 2) := by decide +kernel
theorem dX12_patch_239 : decode cX12_patch 239 = .ok (.iconst 1, 1) := by decide +kernel
theorem dX12_patch_240 : decode cX12_patch 240 = .ok (.invokevirtual 414, 3) := by decide +kernel
theorem dX12_patch_243 : decode cX12_patch 243 = .ok (.istore 9, 2) := by decide +kernel
theorem dX12_patch_245 : decode cX12_patch 245 = .ok (.aload_n 0, 1) := by decide +kernel
theorem dX12_patch_246 : decode cX12_patch 246 = .ok (.iconst 0, 1) := by decide +kernel
theorem dX12_patch_247 : decode cX12_patch 247 = .ok (.putfield 229, 3) := by decide +kernel
theorem dX12_patch_250 : decode cX12_patch 250 = .ok (.iload 9, 2) := by decide +kernel
theorem dX12_patch_252 : decode cX12_patch 252 = .ok (.bipush (-4), 2) := by decide +kernel
theorem dX12_patch_254 : decode cX12_patch 254 = .ok (.if_icmp .ne 6, 3) := by decide +kernel
theorem dX12_patch_257 : decode cX12_patch 257 = .ok (.bipush (-4), 2) := by decide +kernel
theorem dX12_patch_259 : decode cX12_patch 259 = .ok (.ireturn, 1) := by decide +kernel
theorem dX12_patch_260 : decode cX12_patch 260 = .ok (.aload_n 0, 1) := by decide +kernel
theorem dX12_patch_261 : decode cX12_patch 261 = .ok (.iload_n 1, 1) := by decide +kernel
theorem dX12_patch_262 : decode cX12_patch 262 = .ok (.iload_n 2, 1) := by decide +kernel
theorem dX12_patch_263 : decode cX12_patch 263 = .ok (.iload 6, 2) := by decide +kernel
theorem dX12_patch_265 : decode cX12_patch 265 = .ok (.iload 7, 2) := by decide +kernel
theorem dX12_patch_267 : decode cX12_patch 267 = .ok (.invokevirtual 418, 3) := by decide +kernel
theorem dX12_patch_270 : decode cX12_patch 270 = .ok (.iload 9, 2) := by decide +kernel
theorem dX12_patch_272 : decode cX12_patch 272 = .ok (.ireturn, 1) := by decide +kernel
theorem dX12_clash_0 : decode cX12_clash 0 = .ok (.iload_n 1, 1) := by decide +kernel
theorem dX12_clash_1 : decode cX12_clash 1 = .ok (.ifCond .ne 10, 3) := by decide +kernel
theorem dX12_clash_4 : decode cX12_clash 4 = .ok (.aload_n 0, 1) := by decide +kernel
theorem dX12_clash_5 : decode cX12_clash 5 = .ok (.getfield 63, 3) := by decide +kernel
theorem dX12_clash_8 : decode cX12_clash 8 = .ok (.goto 16, 3) := by decide +kernel
theorem dX12_clash_11 : decode cX12_clash 11 = .ok (.iload_n 1, 1) := by decide +kernel
theorem dX12_clash_12 : decode cX12_clash 12 = .ok (.iconst 1, 1) := by decide +kernel
theorem dX12_clash_13 : decode cX12_clash 13 = .ok (.if_icmp .ne 10, 3) := by decide +kernel
theorem dX12_clash_16 : decode cX12_clash 16 = .ok (.aload_n 0, 1) := by decide +kernel
theorem dX12_clash_17 : decode cX12_clash 17 = .ok (.getfield 66, 3) := by decide +kernel
theorem dX12_clash_20 : decode cX12_clash 20 = .ok (.goto 4, 3) := by decide +kernel
theorem dX12_clash_23 : decode cX12_clash 23 = .ok (.iconst (-1), 1) := by decide +kernel
theorem dX12_clash_24 : decode cX12_clash 24 = .ok (.ireturn, 1) := by decide +kernel
theorem dX12_marked_0 : decode cX12_marked 0 = .ok (.iconst 0, 1) := by decide +kernel
theorem dX12_marked_1 : decode cX12_marked 1 = .ok (.istore_n 1, 1) := by decide +kernel
theorem dX12_marked_2 : decode cX12_marked 2 = .ok (.iconst 0, 1) := by decide +kernel
theorem dX12_marked_3 : decode cX12_marked 3 = .ok (.istore_n 2, 1) := by decide +kernel
theorem dX12_marked_4 : decode cX12_marked 4 = .ok (.iload_n 2, 1) := by decide +kernel
theorem dX12_marked_5 : decode cX12_marked 5 = .ok (.bipush 48, 2) := by decide +kernel
theorem dX12_marked_7 : decode cX12_marked 7 = .ok (.if_icmp .ge 27, 3) := by decide +kernel
theorem dX12_marked_10 : decode cX12_marked 10 = .ok (.iload_n 1, 1) := by decide +kernel
theorem dX12_marked_11 : decode cX12_marked 11 = .ok (.aload_n 0, 1) := by decide +kernel
theorem dX12_marked_12 : decode cX12_marked 12 = .ok (.getfield 57, 3) := by decide +kernel
theorem dX12_marked_15 : decode cX12_marked 15 = .ok (.iload_n 2, 1) := by decide +kernel
theorem dX12_marked_16 : decode cX12_marked 16 = .ok (.iaload, 1) := by decide +kernel
theorem dX12_marked_17 : decode cX12_marked 17 = .ok (.iconst (-1), 1) := by decide +kernel
theorem dX12_marked_18 : decode cX12_marked 18 = .ok (.if_icmp .eq 7, 3) := by decide +kernel
theorem dX12_marked_21 : decode cX12_marked 21 = .ok (.iconst 1, 1) := by decide +kernel
theorem dX12_marked_22 : decode cX12_marked 22 = .ok (.goto 4, 3) := by decide +kernel
theorem dX12_marked_25 : decode cX12_marked 25 = .ok (.iconst 0, 1) := by decide +kernel
theorem dX12_marked_26 : decode cX12_marked 26 = .ok (.iadd, 1) := by decide +kernel
theorem dX12_marked_27 : decode cX12_marked 27 = .ok (.istore_n 1, 1) := by decide +kernel
theorem dX12_marked_28 : decode cX12_marked 28 = .ok (.iinc 2 1, 3) := by decide +kernel
theorem dX12_marked_31 : decode cX12_marked 31 = .ok (.goto (-27), 3) := by decide +kernel
theorem dX12_marked_34 : decode cX12_marked 34 = .ok (.iload_n 1, 1) := by decide +kernel
theorem dX12_marked_35 : decode cX12_marked 35 = .ok (.ireturn, 1) := by decide +kernel
theorem dX12_mark_0 : decode cX12_mark 0 = .ok (.aload_n 0, 1) := by decide +kernel
theorem dX12_mark_1 : decode cX12_mark 1 = .ok (.iconst 0, 1) := by decide +kernel
theorem dX12_mark_2 : decode cX12_mark 2 = .ok (.iload_n 1, 1) := by decide +kernel
theorem dX12_mark_3 : decode cX12_mark 3 = .ok (.invokevirtual 245, 3) := by decide +kernel
theorem dX12_mark_6 : decode cX12_mark 6 = .ok (.ifCond .eq 13, 3) := by decide +kernel
theorem dX12_mark_9 : decode cX12_mark 9 = .ok (.iload_n 2, 1) := by decide +kernel
theorem dX12_mark_10 : decode cX12_mark 10 = .ok (.iconst (-1), 1) := by decide +kernel
theorem dX12_mark_11 : decode cX12_mark 11 = .ok (.bipush 9, 2) := by decide +kernel
theorem dX12_mark_13 : decode cX12_mark 13 = .ok (.invokestatic 212, 3) := by decide +kernel
theorem dX12_mark_16 : decode cX12_mark 16 = .ok (.ifCond .ne 5, 3) := by decide +kernel
theorem dX12_mark_19 : decode cX12_mark 19 = .ok (.iconst (-1), 1) := by decide +kernel
theorem dX12_mark_20 : decode cX12_mark 20 = .ok (.ireturn, 1) := by decide +kernel
theorem dX12_mark_21 : decode cX12_mark 21 = .ok (.iload_n 2, 1) := by decide +kernel
theorem dX12_mark_22 : decode cX12_mark 22 = .ok (.iconst (-1), 1) := by decide +kernel
theorem dX12_mark_23 : decode cX12_mark 23 = .ok (.if_icmp .eq 25, 3) := by decide +kernel
theorem dX12_mark_26 : decode cX12_mark 26 = .ok (.aload_n 0, 1) := by decide +kernel
theorem dX12_mark_27 : decode cX12_mark 27 = .ok (.getfield 57, 3) := by decide +kernel
theorem dX12_mark_30 : decode cX12_mark 30 = .ok (.iload_n 1, 1) := by decide +kernel
theorem dX12_mark_31 : decode cX12_mark 31 = .ok (.iaload, 1) := by decide +kernel
theorem dX12_mark_32 : decode cX12_mark 32 = .ok (.iconst (-1), 1) := by decide +kernel
theorem dX12_mark_33 : decode cX12_mark 33 = .ok (.if_icmp .ne 15, 3) := by decide +kernel
theorem dX12_mark_36 : decode cX12_mark 36 = .ok (.aload_n 0, 1) := by decide +kernel
theorem dX12_mark_37 : decode cX12_mark 37 = .ok (.invokevirtual 421, 3) := by decide +kernel
theorem dX12_mark_40 : decode cX12_mark 40 = .ok (.bipush 10, 2) := by decide +kernel
theorem dX12_mark_42 : decode cX12_mark 42 = .ok (.if_icmp .ne 6, 3) := by decide +kernel
theorem dX12_mark_45 : decode cX12_mark 45 = .ok (.bipush (-3), 2) := by decide +kernel
theorem dX12_mark_47 : decode cX12_mark 47 = .ok (.ireturn, 1) := by decide +kernel
theorem dX12_mark_48 : decode cX12_mark 48 = .ok (.aload_n 0, 1) := by decide +kernel
theorem dX12_mark_49 : decode cX12_mark 49 = .ok (.getfield 57, 3) := by decide +kernel
theorem dX12_mark_52 : decode cX12_mark 52 = .ok (.iload_n 1, 1) := by decide +kernel
theorem dX12_mark_53 : decode cX12_mark 53 = .ok (.iload_n 2, 1) := by decide +kernel
theorem dX12_mark_54 : decode cX12_mark 54 = .ok (.iastore, 1) := by decide +kernel
theorem dX12_mark_55 : decode cX12_mark 55 = .ok (.aload_n 0, 1) := by decide +kernel
theorem dX12_mark_56 : decode cX12_mark 56 = .ok (.invokevirtual 421, 3) := by decide +kernel
theorem dX12_mark_59 : decode cX12_mark 59 = .ok (.ireturn, 1) := by decide +kernel
theorem dX12_tries_0 : decode cX12_tries 0 = .ok (.iconst 0, 1) := by decide +kernel
theorem dX12_tries_1 : decode cX12_tries 1 = .ok (.istore_n 3, 1) := by decide +kernel
theorem dX12_tries_2 : decode cX12_tries 2 = .ok (.iconst 0, 1) := by decide +kernel
theorem dX12_tries_3 : decode cX12_tries 3 = .ok (.istore 4, 2) := by decide +kernel
theorem dX12_tries_5 : decode cX12_tries 5 = .ok (.iload 4, 2) := by decide +kernel
theorem dX12_tries_7 : decode cX12_tries 7 = .ok (.iload_n 2, 1) := by decide +kernel
theorem dX12_tries_8 : decode cX12_tries 8 = .ok (.if_icmp .ge 24, 3) := by decide +kernel
theorem dX12_tries_11 : decode cX12_tries 11 = .ok (.iload_n 3, 1) := by decide +kernel
theorem dX12_tries_12 : decode cX12_tries 12 = .ok (.aload_n 0, 1) := by decide +kernel
theorem dX12_tries_13 : decode cX12_tries 13 = .ok (.getfield 57, 3) := by decide +kernel
theorem dX12_tries_16 : decode cX12_tries 16 = .ok (.aload_n 0, 1) := by decide +kernel
theorem dX12_tries_17 : decode cX12_tries 17 = .ok (.getfield 178, 3) := by decide +kernel
theorem dX12_tries_20 : decode cX12_tries 20 = .ok (.iload 4, 2) := by decide +kernel
theorem dX12_tries_22 : decode cX12_tries 22 = .ok (.iaload, 1) := by decide +kernel
theorem dX12_tries_23 : decode cX12_tries 23 = .ok (.iaload, 1) := by decide +kernel
theorem dX12_tries_24 : decode cX12_tries 24 = .ok (.iadd, 1) := by decide +kernel
theorem dX12_tries_25 : decode cX12_tries 25 = .ok (.istore_n 3, 1) := by decide +kernel
theorem dX12_tries_26 : decode cX12_tries 26 = .ok (.iinc 4 1, 3) := by decide +kernel
theorem dX12_tries_29 : decode cX12_tries 29 = .ok (.goto (-24), 3) := by decide +kernel
theorem dX12_tries_32 : decode cX12_tries 32 = .ok (.aload_n 0, 1) := by decide +kernel
theorem dX12_tries_33 : decode cX12_tries 33 = .ok (.iload_n 1, 1) := by decide +kernel
theorem dX12_tries_34 : decode cX12_tries 34 = .ok (.iconst (-1), 1) := by decide +kernel
theorem dX12_tries_35 : decode cX12_tries 35 = .ok (.iconst 1, 1) := by decide +kernel
theorem dX12_tries_36 : decode cX12_tries 36 = .ok (.iload_n 2, 1) := by decide +kernel
theorem dX12_tries_37 : decode cX12_tries 37 = .ok (.iconst 0, 1) := by decide +kernel
theorem dX12_tries_38 : decode cX12_tries 38 = .ok (.invokevirtual 414, 3) := by decide +kernel
theorem dX12_tries_41 : decode cX12_tries 41 = .ok (.istore 4, 2) := by decide +kernel
theorem dX12_tries_43 : decode cX12_tries 43 = .ok (.iload 4, 2) := by decide +kernel
theorem dX12_tries_45 : decode cX12_tries 45 = .ok (.bipush (-4), 2) := by decide +kernel
theorem dX12_tries_47 : decode cX12_tries 47 = .ok (.if_icmp .eq 70, 3) := by decide +kernel
theorem dX12_tries_50 : decode cX12_tries 50 = .ok (.aload_n 0, 1) := by decide +kernel
theorem dX12_tries_51 : decode cX12_tries 51 = .ok (.getfield 424, 3) := by decide +kernel
theorem dX12_tries_54 : decode cX12_tries 54 = .ok (.iconst (-1), 1) := by decide +kernel
theorem dX12_tries_55 : decode cX12_tries 55 = .ok (.if_icmp .eq 17, 3) := by decide +kernel
theorem dX12_tries_58 : decode cX12_tries 58 = .ok (.bipush 10, 2) := by decide +kernel
theorem dX12_tries_60 : decode cX12_tries 60 = .ok (.iload 4, 2) := by decide +kernel
theorem dX12_tries_62 : decode cX12_tries 62 = .ok (.imul, 1) := by decide +kernel
theorem dX12_tries_63 : decode cX12_tries 63 = .ok (.iload_n 3, 1) := by decide +kernel
theorem dX12_tries_64 : decode cX12_tries 64 = .ok (.iadd, 1) := by decide +kernel
theorem dX12_tries_65 : decode cX12_tries 65 = .ok (.aload_n 0, 1) := by decide +kernel
theorem dX12_tries_66 : decode cX12_tries 66 = .ok (.getfield 424, 3) := by decide +kernel
theorem dX12_tries_69 : decode cX12_tries 69 = .ok (.if_icmp .ge 48, 3) := by decide +kernel
theorem dX12_tries_72 : decode cX12_tries 72 = .ok (.aload_n 0, 1) := by decide +kernel
theorem dX12_tries_73 : decode cX12_tries 73 = .ok (.bipush 10, 2) := by decide +kernel
theorem dX12_tries_75 : decode cX12_tries 75 = .ok (.iload 4, 2) := by decide +kernel
theorem dX12_tries_77 : decode cX12_tries 77 = .ok (.imul, 1) := by decide +kernel
theorem dX12_tries_78 : decode cX12_tries 78 = .ok (.iload_n 3, 1) := by decide +kernel
theorem dX12_tries_79 : decode cX12_tries 79 = .ok (.iadd, 1) := by decide +kernel
theorem dX12_tries_80 : decode cX12_tries 80 = .ok (.putfield 424, 3) := by decide +kernel
theorem dX12_tries_83 : decode cX12_tries 83 = .ok (.aload_n 0, 1) := by decide +kernel
theorem dX12_tries_84 : decode cX12_tries 84 = .ok (.iload_n 2, 1) := by decide +kernel
theorem dX12_tries_85 : decode cX12_tries 85 = .ok (.putfield 427, 3) := by decide +kernel
theorem dX12_tries_88 : decode cX12_tries 88 = .ok (.iconst 0, 1) := by decide +kernel
theorem dX12_tries_89 : decode cX12_tries 89 = .ok (.istore 5, 2) := by decide +kernel
theorem dX12_tries_91 : decode cX12_tries 91 = .ok (.iload 5, 2) := by decide +kernel
theorem dX12_tries_93 : decode cX12_tries 93 = .ok (.iload_n 2, 1) := by decide +kernel
theorem dX12_tries_94 : decode cX12_tries 94 = .ok (.if_icmp .ge 23, 3) := by decide +kernel
theorem dX12_tries_97 : decode cX12_tries 97 = .ok (.aload_n 0, 1) := by decide +kernel
theorem dX12_tries_98 : decode cX12_tries 98 = .ok (.getfield 181, 3) := by decide +kernel
theorem dX12_tries_101 : decode cX12_tries 101 = .ok (.iload 5, 2) := by decide +kernel
theorem dX12_tries_103 : decode cX12_tries 103 = .ok (.aload_n 0, 1) := by decide +kernel
theorem dX12_tries_104 : decode cX12_tries 104 = .ok (.getfield 178, 3) := by decide +kernel
theorem dX12_tries_107 : decode cX12_tries 107 = .ok (.iload 5, 2) := by decide +kernel
theorem dX12_tries_109 : decode cX12_tries 109 = .ok (.iaload, 1) := by decide +kernel
theorem dX12_tries_110 : decode cX12_tries 110 = .ok (.iastore, 1) := by decide +kernel
theorem dX12_tries_111 : decode cX12_tries 111 = .ok (.iinc 5 1, 3) := by decide +kernel
theorem dX12_tries_114 : decode cX12_tries 114 = .ok (.goto (-23), 3) := by decide +kernel
theorem dX12_tries_117 : decode cX12_tries 117 = .ok (.return_, 1) := by decide +kernel
theorem dX12_best_0 : decode cX12_best 0 = .ok (.aload_n 0, 1) := by decide +kernel
theorem dX12_best_1 : decode cX12_best 1 = .ok (.iconst 0, 1) := by decide +kernel
theorem dX12_best_2 : decode cX12_best 2 = .ok (.iload_n 1, 1) := by decide +kernel
theorem dX12_best_3 : decode cX12_best 3 = .ok (.invokevirtual 268, 3) := by decide +kernel
theorem dX12_best_6 : decode cX12_best 6 = .ok (.ifCond .ne 5, 3) := by decide +kernel
theorem dX12_best_9 : decode cX12_best 9 = .ok (.iconst (-1), 1) := by decide +kernel
theorem dX12_best_10 : decode cX12_best 10 = .ok (.ireturn, 1) := by decide +kernel
theorem dX12_best_11 : decode cX12_best 11 = .ok (.iconst 0, 1) := by decide +kernel
theorem dX12_best_12 : decode cX12_best 12 = .ok (.istore_n 2, 1) := by decide +kernel
theorem dX12_best_13 : decode cX12_best 13 = .ok (.iconst 0, 1) := by decide +kernel
theorem dX12_best_14 : decode cX12_best 14 = .ok (.istore_n 3, 1) := by decide +kernel
theorem dX12_best_15 : decode cX12_best 15 = .ok (.iload_n 3, 1) := by decide +kernel
theorem dX12_best_16 : decode cX12_best 16 = .ok (.aload_n 0, 1) := by decide +kernel
theorem dX12_best_17 : decode cX12_best 17 = .ok (.iconst 0, 1) := by decide +kernel
theorem dX12_best_18 : decode cX12_best 18 = .ok (.invokevirtual 216, 3) := by decide +kernel
theorem dX12_best_21 : decode cX12_best 21 = .ok (.if_icmp .ge 39, 3) := by decide +kernel
theorem dX12_best_24 : decode cX12_best 24 = .ok (.aload_n 0, 1) := by decide +kernel
theorem dX12_best_25 : decode cX12_best 25 = .ok (.getfield 57, 3) := by decide +kernel
theorem dX12_best_28 : decode cX12_best 28 = .ok (.iload_n 3, 1) := by decide +kernel
theorem dX12_best_29 : decode cX12_best 29 = .ok (.iaload, 1) := by decide +kernel
theorem dX12_best_30 : decode cX12_best 30 = .ok (.iconst (-1), 1) := by decide +kernel
theorem dX12_best_31 : decode cX12_best 31 = .ok (.if_icmp .eq 23, 3) := by decide +kernel
theorem dX12_best_34 : decode cX12_best 34 = .ok (.aload_n 0, 1) := by decide +kernel
theorem dX12_best_35 : decode cX12_best 35 = .ok (.iconst 0, 1) := by decide +kernel
theorem dX12_best_36 : decode cX12_best 36 = .ok (.iload_n 3, 1) := by decide +kernel
theorem dX12_best_37 : decode cX12_best 37 = .ok (.iload_n 1, 1) := by decide +kernel
theorem dX12_best_38 : decode cX12_best 38 = .ok (.invokevirtual 271, 3) := by decide +kernel
theorem dX12_best_41 : decode cX12_best 41 = .ok (.ifCond .ne 13, 3) := by decide +kernel
theorem dX12_best_44 : decode cX12_best 44 = .ok (.aload_n 0, 1) := by decide +kernel
theorem dX12_best_45 : decode cX12_best 45 = .ok (.getfield 184, 3) := by decide +kernel
theorem dX12_best_48 : decode cX12_best 48 = .ok (.iload_n 2, 1) := by decide +kernel
theorem dX12_best_49 : decode cX12_best 49 = .ok (.iload_n 3, 1) := by decide +kernel
theorem dX12_best_50 : decode cX12_best 50 = .ok (.iastore, 1) := by decide +kernel
theorem dX12_best_51 : decode cX12_best 51 = .ok (.iinc 2 1, 3) := by decide +kernel
theorem dX12_best_54 : decode cX12_best 54 = .ok (.iinc 3 1, 3) := by decide +kernel
theorem dX12_best_57 : decode cX12_best 57 = .ok (.goto (-42), 3) := by decide +kernel
theorem dX12_best_60 : decode cX12_best 60 = .ok (.aload_n 0, 1) := by decide +kernel
theorem dX12_best_61 : decode cX12_best 61 = .ok (.iconst 0, 1) := by decide +kernel
theorem dX12_best_62 : decode cX12_best 62 = .ok (.putfield 229, 3) := by decide +kernel
theorem dX12_best_65 : decode cX12_best 65 = .ok (.aload_n 0, 1) := by decide +kernel
theorem dX12_best_66 : decode cX12_best 66 = .ok (.iconst (-1), 1) := by decide +kernel
theorem dX12_best_67 : decode cX12_best 67 = .ok (.putfield 424, 3) := by decide +kernel
theorem dX12_best_70 : decode cX12_best 70 = .ok (.aload_n 0, 1) := by decide +kernel
theorem dX12_best_71 : decode cX12_best 71 = .ok (.iload_n 1, 1) := by decide +kernel
theorem dX12_best_72 : decode cX12_best 72 = .ok (.iconst 0, 1) := by decide +kernel
theorem dX12_best_73 : decode cX12_best 73 = .ok (.invokevirtual 430, 3) := by decide +kernel
theorem dX12_best_76 : decode cX12_best 76 = .ok (.iconst 0, 1) := by decide +kernel
theorem dX12_best_77 : decode cX12_best 77 = .ok (.istore_n 3, 1) := by decide +kernel
theorem dX12_best_78 : decode cX12_best 78 = .ok (.iload_n 3, 1) := by decide +kernel
theorem dX12_best_79 : decode cX12_best 79 = .ok (.iload_n 2, 1) := by decide +kernel
theorem dX12_best_80 : decode cX12_best 80 = .ok (.if_icmp .ge 27, 3) := by decide +kernel
theorem dX12_best_83 : decode cX12_best 83 = .ok (.aload_n 0, 1) := by decide +kernel
theorem dX12_best_84 : decode cX12_best 84 = .ok (.getfield 178, 3) := by decide +kernel
theorem dX12_best_87 : decode cX12_best 87 = .ok (.iconst 0, 1) := by decide +kernel
theorem dX12_best_88 : decode cX12_best 88 = .ok (.aload_n 0, 1) := by decide +kernel
theorem dX12_best_89 : decode cX12_best 89 = .ok (.getfield 184, 3) := by decide +kernel
theorem dX12_best_92 : decode cX12_best 92 = .ok (.iload_n 3, 1) := by decide +kernel
theorem dX12_best_93 : decode cX12_best 93 = .ok (.iaload, 1) := by decide +kernel
theorem dX12_best_94 : decode cX12_best 94 = .ok (.iastore, 1) := by decide +kernel
theorem dX12_best_95 : decode cX12_best 95 = .ok (.aload_n 0, 1) := by decide +kernel
theorem dX12_best_96 : decode cX12_best 96 = .ok (.iload_n 1, 1) := by decide +kernel
theorem dX12_best_97 : decode cX12_best 97 = .ok (.iconst 1, 1) := by decide +kernel
theorem dX12_best_98 : decode cX12_best 98 = .ok (.invokevirtual 430, 3) := by decide +kernel
theorem dX12_best_101 : decode cX12_best 101 = .ok (.iinc 3 1, 3) := by decide +kernel
theorem dX12_best_104 : decode cX12_best 104 = .ok (.goto (-26), 3) := by decide +kernel
theorem dX12_best_107 : decode cX12_best 107 = .ok (.iconst 0, 1) := by decide +kernel
theorem dX12_best_108 : decode cX12_best 108 = .ok (.istore_n 3, 1) := by decide +kernel
theorem dX12_best_109 : decode cX12_best 109 = .ok (.iload_n 3, 1) := by decide +kernel
theorem dX12_best_110 : decode cX12_best 110 = .ok (.iload_n 2, 1) := by decide +kernel
theorem dX12_best_111 : decode cX12_best 111 = .ok (.if_icmp .ge 57, 3) := by decide +kernel
theorem dX12_best_114 : decode cX12_best 114 = .ok (.iload_n 3, 1) := by decide +kernel
theorem dX12_best_115 : decode cX12_best 115 = .ok (.iconst 1, 1) := by decide +kernel
theorem dX12_best_116 : decode cX12_best 116 = .ok (.iadd, 1) := by decide +kernel
theorem dX12_best_117 : decode cX12_best 117 = .ok (.istore 4, 2) := by decide +kernel
theorem dX12_best_119 : decode cX12_best 119 = .ok (.iload 4, 2) := by decide +kernel
theorem dX12_best_121 : decode cX12_best 121 = .ok (.iload_n 2, 1) := by decide +kernel
theorem dX12_best_122 : decode cX12_best 122 = .ok (.if_icmp .ge 40, 3) := by decide +kernel
theorem dX12_best_125 : decode cX12_best 125 = .ok (.aload_n 0, 1) := by decide +kernel
theorem dX12_best_126 : decode cX12_best 126 = .ok (.getfield 178, 3) := by decide +kernel
theorem dX12_best_129 : decode cX12_best 129 = .ok (.iconst 0, 1) := by decide +kernel
theorem dX12_best_130 : decode cX12_best 130 = .ok (.aload_n 0, 1) := by decide +kernel
theorem dX12_best_131 : decode cX12_best 131 = .ok (.getfield 184, 3) := by decide +kernel
theorem dX12_best_134 : decode cX12_best 134 = .ok (.iload_n 3, 1) := by decide +kernel
theorem dX12_best_135 : decode cX12_best 135 = .ok (.iaload, 1) := by decide +kernel
theorem dX12_best_136 : decode cX12_best 136 = .ok (.iastore, 1) := by decide +kernel
theorem dX12_best_137 : decode cX12_best 137 = .ok (.aload_n 0, 1) := by decide +kernel
theorem dX12_best_138 : decode cX12_best 138 = .ok (.getfield 178, 3) := by decide +kernel
theorem dX12_best_141 : decode cX12_best 141 = .ok (.iconst 1, 1) := by decide +kernel
theorem dX12_best_142 : decode cX12_best 142 = .ok (.aload_n 0, 1) := by decide +kernel
theorem dX12_best_143 : decode cX12_best 143 = .ok (.getfield 184, 3) := by decide +kernel
theorem dX12_best_146 : decode cX12_best 146 = .ok (.iload 4, 2) := by decide +kernel
theorem dX12_best_148 : decode cX12_best 148 = .ok (.iaload, 1) := by decide +kernel
theorem dX12_best_149 : decode cX12_best 149 = .ok (.iastore, 1) := by decide +kernel
theorem dX12_best_150 : decode cX12_best 150 = .ok (.aload_n 0, 1) := by decide +kernel
theorem dX12_best_151 : decode cX12_best 151 = .ok (.iload_n 1, 1) := by decide +kernel
theorem dX12_best_152 : decode cX12_best 152 = .ok (.iconst 2, 1) := by decide +kernel
theorem dX12_best_153 : decode cX12_best 153 = .ok (.invokevirtual 430, 3) := by decide +kernel
theorem dX12_best_156 : decode cX12_best 156 = .ok (.iinc 4 1, 3) := by decide +kernel
theorem dX12_best_159 : decode cX12_best 159 = .ok (.goto (-40), 3) := by decide +kernel
theorem dX12_best_162 : decode cX12_best 162 = .ok (.iinc 3 1, 3) := by decide +kernel
theorem dX12_best_165 : decode cX12_best 165 = .ok (.goto (-56), 3) := by decide +kernel
theorem dX12_best_168 : decode cX12_best 168 = .ok (.iconst 0, 1) := by decide +kernel
theorem dX12_best_169 : decode cX12_best 169 = .ok (.istore_n 3, 1) := by decide +kernel
theorem dX12_best_170 : decode cX12_best 170 = .ok (.iload_n 3, 1) := by decide +kernel
theorem dX12_best_171 : decode cX12_best 171 = .ok (.iload_n 2, 1) := by decide +kernel
theorem dX12_best_172 : decode cX12_best 172 = .ok (.if_icmp .ge 88, 3) := by decide +kernel
theorem dX12_best_175 : decode cX12_best 175 = .ok (.iload_n 3, 1) := by decide +kernel
theorem dX12_best_176 : decode cX12_best 176 = .ok (.iconst 1, 1) := by decide +kernel
theorem dX12_best_177 : decode cX12_best 177 = .ok (.iadd, 1) := by decide +kernel
theorem dX12_best_178 : decode cX12_best 178 = .ok (.istore 4, 2) := by decide +kernel
theorem dX12_best_180 : decode cX12_best 180 = .ok (.iload 4, 2) := by decide +kernel
theorem dX12_best_182 : decode cX12_best 182 = .ok (.iload_n 2, 1) := by decide +kernel
theorem dX12_best_183 : decode cX12_best 183 = .ok (.if_icmp .ge 71, 3) := by decide +kernel
theorem dX12_best_186 : decode cX12_best 186 = .ok (.iload 4, 2) := by decide +kernel
theorem dX12_best_188 : decode cX12_best 188 = .ok (.iconst 1, 1) := by decide +kernel
theorem dX12_best_189 : decode cX12_best 189 = .ok (.iadd, 1) := by decide +kernel
theorem dX12_best_190 : decode cX12_best 190 = .ok (.istore 5, 2) := by decide +kernel
theorem dX12_best_192 : decode cX12_best 192 = .ok (.iload 5, 2) := by decide +kernel
theorem dX12_best_194 : decode cX12_best 194 = .ok (.iload_n 2, 1) := by decide +kernel
theorem dX12_best_195 : decode cX12_best 195 = .ok (.if_icmp .ge 53, 3) := by decide +kernel
theorem dX12_best_198 : decode cX12_best 198 = .ok (.aload_n 0, 1) := by decide +kernel
theorem dX12_best_199 : decode cX12_best 199 = .ok (.getfield 178, 3) := by decide +kernel
theorem dX12_best_202 : decode cX12_best 202 = .ok (.iconst 0, 1) := by decide +kernel
theorem dX12_best_203 : decode cX12_best 203 = .ok (.aload_n 0, 1) := by decide +kernel
theorem dX12_best_204 : decode cX12_best 204 = .ok (.getfield 184, 3) := by decide +kernel
theorem dX12_best_207 : decode cX12_best 207 = .ok (.iload_n 3, 1) := by decide +kernel
theorem dX12_best_208 : decode cX12_best 208 = .ok (.iaload, 1) := by decide +kernel
theorem dX12_best_209 : decode cX12_best 209 = .ok (.iastore, 1) := by decide +kernel
theorem dX12_best_210 : decode cX12_best 210 = .ok (.aload_n 0, 1) := by decide +kernel
theorem dX12_best_211 : decode cX12_best 211 = .ok (.getfield 178, 3) := by decide +kernel
theorem dX12_best_214 : decode cX12_best 214 = .ok (.iconst 1, 1) := by decide +kernel
theorem dX12_best_215 : decode cX12_best 215 = .ok (.aload_n 0, 1) := by decide +kernel
theorem dX12_best_216 : decode cX12_best 216 = .ok (.getfield 184, 3) := by decide +kernel
theorem dX12_best_219 : decode cX12_best 219 = .ok (.iload 4, 2) := by decide +kernel
theorem dX12_best_221 : decode cX12_best 221 = .ok (.iaload, 1) := by decide +kernel
theorem dX12_best_222 : decode cX12_best 222 = .ok (.iastore, 1) := by decide +kernel
theorem dX12_best_223 : decode cX12_best 223 = .ok (.aload_n 0, 1) := by decide +kernel
theorem dX12_best_224 : decode cX12_best 224 = .ok (.getfield 178, 3) := by decide +kernel
theorem dX12_best_227 : decode cX12_best 227 = .ok (.iconst 2, 1) := by decide +kernel
theorem dX12_best_228 : decode cX12_best 228 = .ok (.aload_n 0, 1) := by decide +kernel
theorem dX12_best_229 : decode cX12_best 229 = .ok (.getfield 184, 3) := by decide +kernel
theorem dX12_best_232 : decode cX12_best 232 = .ok (.iload 5, 2) := by decide +kernel
theorem dX12_best_234 : decode cX12_best 234 = .ok (.iaload, 1) := by decide +kernel
theorem dX12_best_235 : decode cX12_best 235 = .ok (.iastore, 1) := by decide +kernel
theorem dX12_best_236 : decode cX12_best 236 = .ok (.aload_n 0, 1) := by decide +kernel
theorem dX12_best_237 : decode cX12_best 237 = .ok (.iload_n 1, 1) := by decide +kernel
theorem dX12_best_238 : decode cX12_best 238 = .ok (.iconst 3, 1) := by decide +kernel
theorem dX12_best_239 : decode cX12_best 239 = .ok (.invokevirtual 430, 3) := by decide +kernel
theorem dX12_best_242 : decode cX12_best 242 = .ok (.iinc 5 1, 3) := by decide +kernel
theorem dX12_best_245 : decode cX12_best 245 = .ok (.goto (-53), 3) := by decide +kernel
theorem dX12_best_248 : decode cX12_best 248 = .ok (.iinc 4 1, 3) := by decide +kernel
theorem dX12_best_251 : decode cX12_best 251 = .ok (.goto (-71), 3) := by decide +kernel
theorem dX12_best_254 : decode cX12_best 254 = .ok (.iinc 3 1, 3) := by decide +kernel
theorem dX12_best_257 : decode cX12_best 257 = .ok (.goto (-87), 3) := by decide +kernel
theorem dX12_best_260 : decode cX12_best 260 = .ok (.aload_n 0, 1) := by decide +kernel
theorem dX12_best_261 : decode cX12_best 261 = .ok (.getfield 424, 3) := by decide +kernel
theorem dX12_best_264 : decode cX12_best 264 = .ok (.iconst (-1), 1) := by decide +kernel
theorem dX12_best_265 : decode cX12_best 265 = .ok (.if_icmp .ne 6, 3) := by decide +kernel
theorem dX12_best_268 : decode cX12_best 268 = .ok (.bipush (-4), 2) := by decide +kernel
theorem dX12_best_270 : decode cX12_best 270 = .ok (.ireturn, 1) := by decide +kernel
theorem dX12_best_271 : decode cX12_best 271 = .ok (.iconst 0, 1) := by decide +kernel
theorem dX12_best_272 : decode cX12_best 272 = .ok (.istore_n 3, 1) := by decide +kernel
theorem dX12_best_273 : decode cX12_best 273 = .ok (.iload_n 3, 1) := by decide +kernel
theorem dX12_best_274 : decode cX12_best 274 = .ok (.aload_n 0, 1) := by decide +kernel
theorem dX12_best_275 : decode cX12_best 275 = .ok (.getfield 427, 3) := by decide +kernel
theorem dX12_best_278 : decode cX12_best 278 = .ok (.if_icmp .ge 21, 3) := by decide +kernel
theorem dX12_best_281 : decode cX12_best 281 = .ok (.aload_n 0, 1) := by decide +kernel
theorem dX12_best_282 : decode cX12_best 282 = .ok (.getfield 178, 3) := by decide +kernel
theorem dX12_best_285 : decode cX12_best 285 = .ok (.iload_n 3, 1) := by decide +kernel
theorem dX12_best_286 : decode cX12_best 286 = .ok (.aload_n 0, 1) := by decide +kernel
theorem dX12_best_287 : decode cX12_best 287 = .ok (.getfield 181, 3) := by decide +kernel
theorem dX12_best_290 : decode cX12_best 290 = .ok (.iload_n 3, 1) := by decide +kernel
theorem dX12_best_291 : decode cX12_best 291 = .ok (.iaload, 1) := by decide +kernel
theorem dX12_best_292 : decode cX12_best 292 = .ok (.iastore, 1) := by decide +kernel
theorem dX12_best_293 : decode cX12_best 293 = .ok (.iinc 3 1, 3) := by decide +kernel
theorem dX12_best_296 : decode cX12_best 296 = .ok (.goto (-23), 3) := by decide +kernel
theorem dX12_best_299 : decode cX12_best 299 = .ok (.aload_n 0, 1) := by decide +kernel
theorem dX12_best_300 : decode cX12_best 300 = .ok (.iload_n 1, 1) := by decide +kernel
theorem dX12_best_301 : decode cX12_best 301 = .ok (.iconst (-1), 1) := by decide +kernel
theorem dX12_best_302 : decode cX12_best 302 = .ok (.iconst 1, 1) := by decide +kernel
theorem dX12_best_303 : decode cX12_best 303 = .ok (.aload_n 0, 1) := by decide +kernel
theorem dX12_best_304 : decode cX12_best 304 = .ok (.getfield 427, 3) := by decide +kernel
theorem dX12_best_307 : decode cX12_best 307 = .ok (.iconst 0, 1) := by decide +kernel
theorem dX12_best_308 : decode cX12_best 308 = .ok (.invokevirtual 414, 3) := by decide +kernel
theorem dX12_best_311 : decode cX12_best 311 = .ok (.istore_n 3, 1) := by decide +kernel
theorem dX12_best_312 : decode cX12_best 312 = .ok (.aload_n 0, 1) := by decide +kernel
theorem dX12_best_313 : decode cX12_best 313 = .ok (.iload_n 1, 1) := by decide +kernel
theorem dX12_best_314 : decode cX12_best 314 = .ok (.iconst (-1), 1) := by decide +kernel
theorem dX12_best_315 : decode cX12_best 315 = .ok (.iconst 1, 1) := by decide +kernel
theorem dX12_best_316 : decode cX12_best 316 = .ok (.aload_n 0, 1) := by decide +kernel
theorem dX12_best_317 : decode cX12_best 317 = .ok (.getfield 427, 3) := by decide +kernel
theorem dX12_best_320 : decode cX12_best 320 = .ok (.invokevirtual 418, 3) := by decide +kernel
theorem dX12_best_323 : decode cX12_best 323 = .ok (.aload_n 0, 1) := by decide +kernel
theorem dX12_best_324 : decode cX12_best 324 = .ok (.getfield 424, 3) := by decide +kernel
theorem dX12_best_327 : decode cX12_best 327 = .ok (.ireturn, 1) := by decide +kernel
theorem dX12_patched_0 : decode cX12_patched 0 = .ok (.aload_n 0, 1) := by decide +kernel
theorem dX12_patched_1 : decode cX12_patched 1 = .ok (.getfield 229, 3) := by decide +kernel
theorem dX12_patched_4 : decode cX12_patched 4 = .ok (.ifCond .ne 5, 3) := by decide +kernel
theorem dX12_patched_7 : decode cX12_patched 7 = .ok (.iconst (-1), 1) := by decide +kernel
theorem dX12_patched_8 : decode cX12_patched 8 = .ok (.ireturn, 1) := by decide +kernel
theorem dX12_patched_9 : decode cX12_patched 9 = .ok (.iload_n 1, 1) := by decide +kernel
theorem dX12_patched_10 : decode cX12_patched 10 = .ok (.tableswitch 58 0 3 #[30, 35, 40, 45], 30) := by decide +kernel
theorem dX12_patched_40 : decode cX12_patched 40 = .ok (.aload_n 0, 1) := by decide +kernel
theorem dX12_patched_41 : decode cX12_patched 41 = .ok (.getfield 381, 3) := by decide +kernel
theorem dX12_patched_44 : decode cX12_patched 44 = .ok (.ireturn, 1) := by decide +kernel
theorem dX12_patched_45 : decode cX12_patched 45 = .ok (.aload_n 0, 1) := by decide +kernel
theorem dX12_patched_46 : decode cX12_patched 46 = .ok (.getfield 408, 3) := by decide +kernel
theorem dX12_patched_49 : decode cX12_patched 49 = .ok (.ireturn, 1) := by decide +kernel
theorem dX12_patched_50 : decode cX12_patched 50 = .ok (.aload_n 0, 1) := by decide +kernel
theorem dX12_patched_51 : decode cX12_patched 51 = .ok (.getfield 411, 3) := by decide +kernel
theorem dX12_patched_54 : decode cX12_patched 54 = .ok (.ireturn, 1) := by decide +kernel
theorem dX12_patched_55 : decode cX12_patched 55 = .ok (.aload_n 0, 1) := by decide +kernel
theorem dX12_patched_56 : decode cX12_patched 56 = .ok (.getfield 405, 3) := by decide +kernel
theorem dX12_patched_59 : decode cX12_patched 59 = .ok (.ifCond .eq 7, 3) := by decide +kernel
theorem dX12_patched_62 : decode cX12_patched 62 = .ok (.iconst 1, 1) := by decide +kernel
theorem dX12_patched_63 : decode cX12_patched 63 = .ok (.goto 4, 3) := by decide +kernel
theorem dX12_patched_66 : decode cX12_patched 66 = .ok (.iconst 0, 1) := by decide +kernel
theorem dX12_patched_67 : decode cX12_patched 67 = .ok (.ireturn, 1) := by decide +kernel
theorem dX12_patched_68 : decode cX12_patched 68 = .ok (.iconst (-1), 1) := by decide +kernel
theorem dX12_patched_69 : decode cX12_patched 69 = .ok (.ireturn, 1) := by decide +kernel
theorem dX12_function_0 : decode cX12_function 0 = .ok (.aload_n 0, 1) := by decide +kernel
theorem dX12_function_1 : decode cX12_function 1 = .ok (.getfield 229, 3) := by decide +kernel
theorem dX12_function_4 : decode cX12_function 4 = .ok (.ifCond .eq 26, 3) := by decide +kernel
theorem dX12_function_7 : decode cX12_function 7 = .ok (.iload_n 1, 1) := by decide +kernel
theorem dX12_function_8 : decode cX12_function 8 = .ok (.iconst 0, 1) := by decide +kernel
theorem dX12_function_9 : decode cX12_function 9 = .ok (.aload_n 0, 1) := by decide +kernel
theorem dX12_function_10 : decode cX12_function 10 = .ok (.getfield 408, 3) := by decide +kernel
theorem dX12_function_13 : decode cX12_function 13 = .ok (.iconst 1, 1) := by decide +kernel
theorem dX12_function_14 : decode cX12_function 14 = .ok (.isub, 1) := by decide +kernel
theorem dX12_function_15 : decode cX12_function 15 = .ok (.invokestatic 212, 3) := by decide +kernel
theorem dX12_function_18 : decode cX12_function 18 = .ok (.ifCond .eq 12, 3) := by decide +kernel
theorem dX12_function_21 : decode cX12_function 21 = .ok (.aload_n 0, 1) := by decide +kernel
theorem dX12_function_22 : decode cX12_function 22 = .ok (.getfield 75, 3) := by decide +kernel
theorem dX12_function_25 : decode cX12_function 25 = .ok (.iload_n 1, 1) := by decide +kernel
theorem dX12_function_26 : decode cX12_function 26 = .ok (.iaload, 1) := by decide +kernel
theorem dX12_function_27 : decode cX12_function 27 = .ok (.goto 4, 3) := by decide +kernel
theorem dX12_function_30 : decode cX12_function 30 = .ok (.iconst (-1), 1) := by decide +kernel
theorem dX12_function_31 : decode cX12_function 31 = .ok (.ireturn, 1) := by decide +kernel
theorem dX12_told_0 : decode cX12_told 0 = .ok (.aload_n 0, 1) := by decide +kernel
theorem dX12_told_1 : decode cX12_told 1 = .ok (.getfield 229, 3) := by decide +kernel
theorem dX12_told_4 : decode cX12_told 4 = .ok (.ifCond .eq 26, 3) := by decide +kernel
theorem dX12_told_7 : decode cX12_told 7 = .ok (.iload_n 1, 1) := by decide +kernel
theorem dX12_told_8 : decode cX12_told 8 = .ok (.iconst 0, 1) := by decide +kernel
theorem dX12_told_9 : decode cX12_told 9 = .ok (.aload_n 0, 1) := by decide +kernel
theorem dX12_told_10 : decode cX12_told 10 = .ok (.getfield 411, 3) := by decide +kernel
theorem dX12_told_13 : decode cX12_told 13 = .ok (.iconst 1, 1) := by decide +kernel
theorem dX12_told_14 : decode cX12_told 14 = .ok (.isub, 1) := by decide +kernel
theorem dX12_told_15 : decode cX12_told 15 = .ok (.invokestatic 212, 3) := by decide +kernel
theorem dX12_told_18 : decode cX12_told 18 = .ok (.ifCond .eq 12, 3) := by decide +kernel
theorem dX12_told_21 : decode cX12_told 21 = .ok (.aload_n 0, 1) := by decide +kernel
theorem dX12_told_22 : decode cX12_told 22 = .ok (.getfield 72, 3) := by decide +kernel
theorem dX12_told_25 : decode cX12_told 25 = .ok (.iload_n 1, 1) := by decide +kernel
theorem dX12_told_26 : decode cX12_told 26 = .ok (.iaload, 1) := by decide +kernel
theorem dX12_told_27 : decode cX12_told 27 = .ok (.goto 4, 3) := by decide +kernel
theorem dX12_told_30 : decode cX12_told 30 = .ok (.iconst (-1), 1) := by decide +kernel
theorem dX12_told_31 : decode cX12_told 31 = .ok (.ireturn, 1) := by decide +kernel
def XX12_doesMend (x0 : Int) (x1 : Int) (h : Hp) : OR :=
  chk (4 * x0) (chk (x1.tdiv 64) (chk ((4 * x0) + (x1.tdiv 64)) (inb ((4 * x0) + (x1.tdiv 64)) 32 (chk (x1 - x1.tdiv 64 * 64) (if (jcmp (jand (jshr (h 190 ((4 * x0) + (x1.tdiv 64)).toNat) (x1 - x1.tdiv 64 * 64)) 1) 1) = 0 then zb 1 (some (1, h)) else zb 0 (some (0, h)))))))
theorem sX12_doesMend {G : GG} {w : Wd} (hw : okM w) (x0 : Int) (x1 : Int) (h : Hp) : SC G w yX12_doesMend (Cond.code yX12_doesMend cX12_doesMend 3 (Option.some Jvm.ClassFile.FieldType.boolean)) 1 0 [vP 143, vI x0, vI x1] (XX12_doesMend x0 x1 h) h := by
  refine SC_of (own := "GatePatchModel") plain_Mod rfl (Nat.le_of_ble_eq_true rfl) (fun Γ hG g => ?_)
  subst hG
  show Sim Γ w 0 _ h 0 [(0, vP 143), (1, vI x0), (2, vI x1)] []
  unfold XX12_doesMend
  refine S_aload_n (kk := 0) g dX12_doesMend_0 rfl rfl ?_
  refine S_getr g dX12_doesMend_1 fl_Mod_163 (at_143 hw) rfl (rc_143_65 hw) ?_
  refine S_iconst g dX12_doesMend_4 ⟨by decide, by decide⟩ ?_
  refine S_iload_n (kk := 1) g dX12_doesMend_5 rfl rfl ?_
  refine S_imul g dX12_doesMend_6 ?_
  refine S_iload_n (kk := 2) g dX12_doesMend_7 rfl rfl ?_
  refine S_bipush g dX12_doesMend_8 ⟨by decide, by decide⟩ rfl ?_
  refine S_idiv g dX12_doesMend_10 (by decide) ?_
  refine S_iadd g dX12_doesMend_11 ?_
  refine S_laload g dX12_doesMend_12 (at_190 hw) ?_
  refine S_iload_n (kk := 2) g dX12_doesMend_13 rfl rfl ?_
  refine S_bipush g dX12_doesMend_14 ⟨by decide, by decide⟩ rfl ?_
  refine S_irem g dX12_doesMend_16 (by decide) ?_
  refine S_lshr g dX12_doesMend_17 ?_
  refine S_lconst (x := 1) g dX12_doesMend_18 ⟨by decide, by decide⟩ rfl ?_
  refine S_land g dX12_doesMend_19 ?_
  refine S_lconst (x := 1) g dX12_doesMend_20 ⟨by decide, by decide⟩ rfl ?_
  refine S_lcmp g dX12_doesMend_21 ?_
  refine S_if_ne (tgt := 29) g dX12_doesMend_22 (by decide) ?_ ?_
  · refine S_iconst g dX12_doesMend_29 ⟨by decide, by decide⟩ ?_
    exact S_zreturn g dX12_doesMend_30 rfl
  · refine S_iconst g dX12_doesMend_25 ⟨by decide, by decide⟩ ?_
    refine S_goto (tgt := 30) g dX12_doesMend_26 (by decide) ?_
    exact S_zreturn g dX12_doesMend_30 rfl

def XX12_leastMend_b2   (self2 : Int → Int → Int → Hp → OR) (l1 l2 l3 : Int) (h : Hp) : OR :=
  if (ashl 1 l1) ≤ l3 then some ((-1), h) else cal (XX12_doesMend l3 l2 h) (fun r1 h2 => if r1 = 0 then chk (l3 + 1) (self2 l1 l2 (l3 + 1) h2) else some (l3, h2))
def XX12_leastMend_L2   (l1 l2 l3 : Int) (h : Hp) : OR := lup3 (XX12_leastMend_b2 ) FU l1 l2 l3 h
def XX12_leastMend (x0 : Int) (x1 : Int) (h : Hp) : OR :=
  XX12_leastMend_L2 x0 x1 0 h
theorem sX12_leastMend_L2 {Γ : Cx} {w : Wd} (hw : okM w) (g : Gd Γ cX12_leastMend 4 "GatePatchModel" (Option.some Jvm.ClassFile.FieldType.int) (rmd 2))   : ∀ (l1 l2 l3 : Int) (h : Hp), Sim Γ w 0 (XX12_leastMend_L2  l1 l2 l3 h) h 2 [(0, vP 143), (1, vI l1), (2, vI l2), (3, vI l3)] [] := by
  refine S_lup3 (fun l1 l2 l3 => [(0, vP 143), (1, vI l1), (2, vI l2), (3, vI l3)]) (fun self2 hs2 l1 l2 l3 h => ?_) FU
  unfold XX12_leastMend_b2
  refine S_iload_n (kk := 3) g dX12_leastMend_2 rfl rfl ?_
  refine S_iconst g dX12_leastMend_3 ⟨by decide, by decide⟩ ?_
  refine S_iload_n (kk := 1) g dX12_leastMend_4 rfl rfl ?_
  refine S_ishl g dX12_leastMend_5 ?_
  refine S_icmp_ge (tgt := 26) g dX12_leastMend_6 (by decide) ?_ ?_
  · refine S_iconst g dX12_leastMend_26 ⟨by decide, by decide⟩ ?_
    exact S_ireturn g dX12_leastMend_27 rfl
  · refine S_aload_n (kk := 0) g dX12_leastMend_9 rfl rfl ?_
    refine S_iload_n (kk := 3) g dX12_leastMend_10 rfl rfl ?_
    refine S_iload_n (kk := 2) g dX12_leastMend_11 rfl rfl ?_
    refine S_callVi (As := [vI l3, vI l2]) g dX12_leastMend_12 (sX12_doesMend hw _ _ _) rfl (at_143 hw) rfl im_X12_doesMend se_X12_doesMend cw_X12_doesMend ml_Mod_326 ini_Mod nd_X12_doesMend ⟨by decide, by decide⟩ (Nat.le_of_ble_eq_true rfl) (fun r1 h2 => ?_)
    refine S_if_eq (tgt := 20) g dX12_leastMend_15 (by decide) ?_ ?_
    · refine S_iinc (kk := 3) g dX12_leastMend_20 rfl (by decide) rfl ?_
      refine S_goto (tgt := 2) g dX12_leastMend_23 (by decide) ?_
      refine S_sub g [1, 2, 3, 0] rfl ?_
      exact hs2 _ _ _ _
    · refine S_iload_n (kk := 3) g dX12_leastMend_18 rfl rfl ?_
      exact S_ireturn g dX12_leastMend_19 rfl

theorem sX12_leastMend {G : GG} {w : Wd} (hw : okM w) (x0 : Int) (x1 : Int) (h : Hp) : SC G w yX12_leastMend (Cond.code yX12_leastMend cX12_leastMend 4 (Option.some Jvm.ClassFile.FieldType.int)) 2 0 [vP 143, vI x0, vI x1] (XX12_leastMend x0 x1 h) h := by
  refine SC_of (own := "GatePatchModel") plain_Mod rfl (Nat.le_of_ble_eq_true rfl) (fun Γ hG g => ?_)
  subst hG
  show Sim Γ w 0 _ h 0 [(0, vP 143), (1, vI x0), (2, vI x1)] []
  unfold XX12_leastMend
  refine S_iconst g dX12_leastMend_0 ⟨by decide, by decide⟩ ?_
  refine S_istore_n g dX12_leastMend_1 rfl (by decide) rfl ?_
  refine S_sub g [1, 2, 3, 0] rfl ?_
  exact sX12_leastMend_L2 hw g _ _ _ _

def XX12_lacking_p31  (self2 : Int → Int → Hp → OR) (l1 l2 : Int) (h : Hp) : OR :=
  chk (l2 + 1) (self2 l1 (l2 + 1) h)
def XX12_lacking_b2   (self2 : Int → Int → Hp → OR) (l1 l2 : Int) (h : Hp) : OR :=
  cal (XX12_cases h) (fun r1 h2 => if r1 ≤ l2 then some (1000, h2) else inb l2 256 (if (h2 149 l2.toNat) = 0 then cal (XX12_leastMend l1 l2 h2) (fun r3 h4 => if r3 = (-1) then some (l2, h4) else XX12_lacking_p31 self2 l1 l2 h4) else XX12_lacking_p31 self2 l1 l2 h2))
def XX12_lacking_L2   (l1 l2 : Int) (h : Hp) : OR := lup2 (XX12_lacking_b2 ) FU l1 l2 h
def XX12_lacking (x0 : Int) (h : Hp) : OR :=
  XX12_lacking_L2 x0 0 h
theorem sX12_lacking_p31 {Γ : Cx} {w : Wd} (hw : okM w) (g : Gd Γ cX12_lacking 3 "GatePatchModel" (Option.some Jvm.ClassFile.FieldType.int) (rmd 3))  (self2 : Int → Int → Hp → OR) (hs2 : ∀ (x0 x1 : Int) (h : Hp), Sim Γ w 0 (self2 x0 x1 h) h 2 [(0, vP 143), (1, vI x0), (2, vI x1)] []) (l1 l2 : Int) (h : Hp) : Sim Γ w 0 (XX12_lacking_p31 self2 l1 l2  h) h 31 [(0, vP 143), (1, vI l1), (2, vI l2)] [] := by
  unfold XX12_lacking_p31
  refine S_iinc (kk := 2) g dX12_lacking_31 rfl (by decide) rfl ?_
  refine S_goto (tgt := 2) g dX12_lacking_34 (by decide) ?_
  refine S_sub g [1, 2, 0] rfl ?_
  exact hs2 _ _ _

theorem sX12_lacking_L2 {Γ : Cx} {w : Wd} (hw : okM w) (g : Gd Γ cX12_lacking 3 "GatePatchModel" (Option.some Jvm.ClassFile.FieldType.int) (rmd 3))   : ∀ (l1 l2 : Int) (h : Hp), Sim Γ w 0 (XX12_lacking_L2  l1 l2 h) h 2 [(0, vP 143), (1, vI l1), (2, vI l2)] [] := by
  refine S_lup2 (fun l1 l2 => [(0, vP 143), (1, vI l1), (2, vI l2)]) (fun self2 hs2 l1 l2 h => ?_) FU
  unfold XX12_lacking_b2
  refine S_iload_n (kk := 2) g dX12_lacking_2 rfl rfl ?_
  refine S_aload_n (kk := 0) g dX12_lacking_3 rfl rfl ?_
  refine S_callVi (As := []) g dX12_lacking_4 (sX12_cases hw  _) rfl (at_143 hw) rfl im_X12_cases se_X12_cases cw_X12_cases ml_Mod_242 ini_Mod nd_X12_cases ⟨by decide, by decide⟩ (Nat.le_of_ble_eq_true rfl) (fun r1 h2 => ?_)
  refine S_icmp_ge (tgt := 37) g dX12_lacking_7 (by decide) ?_ ?_
  · refine S_sipush g dX12_lacking_37 ⟨by decide, by decide⟩ rfl ?_
    exact S_ireturn g dX12_lacking_40 rfl
  · refine S_aload_n (kk := 0) g dX12_lacking_10 rfl rfl ?_
    refine S_getr g dX12_lacking_11 fl_Mod_32 (at_143 hw) rfl (rc_143_9 hw) ?_
    refine S_iload_n (kk := 2) g dX12_lacking_14 rfl rfl ?_
    refine S_zaload g dX12_lacking_15 (at_149 hw) ?_
    refine S_if_ne (tgt := 31) g dX12_lacking_16 (by decide) ?_ ?_
    · exact sX12_lacking_p31 hw g self2 hs2 _ _ _
    · refine S_aload_n (kk := 0) g dX12_lacking_19 rfl rfl ?_
      refine S_iload_n (kk := 1) g dX12_lacking_20 rfl rfl ?_
      refine S_iload_n (kk := 2) g dX12_lacking_21 rfl rfl ?_
      refine S_callVi (As := [vI l1, vI l2]) g dX12_lacking_22 (sX12_leastMend hw _ _ _) rfl (at_143 hw) rfl im_X12_leastMend se_X12_leastMend cw_X12_leastMend ml_Mod_329 ini_Mod nd_X12_leastMend ⟨by decide, by decide⟩ (Nat.le_of_ble_eq_true rfl) (fun r3 h4 => ?_)
      refine S_iconst g dX12_lacking_25 ⟨by decide, by decide⟩ ?_
      refine S_icmp_ne (tgt := 31) g dX12_lacking_26 (by decide) ?_ ?_
      · exact sX12_lacking_p31 hw g self2 hs2 _ _ _
      · refine S_iload_n (kk := 2) g dX12_lacking_29 rfl rfl ?_
        exact S_ireturn g dX12_lacking_30 rfl

theorem sX12_lacking {G : GG} {w : Wd} (hw : okM w) (x0 : Int) (h : Hp) : SC G w yX12_lacking (Cond.code yX12_lacking cX12_lacking 3 (Option.some Jvm.ClassFile.FieldType.int)) 3 0 [vP 143, vI x0] (XX12_lacking x0 h) h := by
  refine SC_of (own := "GatePatchModel") plain_Mod rfl (Nat.le_of_ble_eq_true rfl) (fun Γ hG g => ?_)
  subst hG
  show Sim Γ w 0 _ h 0 [(0, vP 143), (1, vI x0)] []
  unfold XX12_lacking
  refine S_iconst g dX12_lacking_0 ⟨by decide, by decide⟩ ?_
  refine S_istore_n g dX12_lacking_1 rfl (by decide) rfl ?_
  refine S_sub g [1, 2, 0] rfl ?_
  exact sX12_lacking_L2 hw g _ _ _

def XX12_enough (x0 : Int) (x1 : Int) (x2 : Int) (h : Hp) : OR :=
  cal (XX12_arePoints x0 x1 x2 h) (fun r1 h2 => if r1 = 0 then some ((-1), h2) else cal (XX12_prepares h2) (fun r3 h4 => cal (XX12_mendings x0 x1 x2 r1 h4) (fun r5 h6 => cal (XX12_lacking r1 h6) (fun r7 h8 => some (r7, h8)))))
theorem sX12_enough {G : GG} {w : Wd} (hw : okM w) (x0 : Int) (x1 : Int) (x2 : Int) (h : Hp) : SC G w yX12_enough (Cond.code yX12_enough cX12_enough 5 (Option.some Jvm.ClassFile.FieldType.int)) 7 0 [vP 143, vI x0, vI x1, vI x2] (XX12_enough x0 x1 x2 h) h := by
  refine SC_of (own := "GatePatchModel") plain_Mod rfl (Nat.le_of_ble_eq_true rfl) (fun Γ hG g => ?_)
  subst hG
  show Sim Γ w 0 _ h 0 [(0, vP 143), (1, vI x0), (2, vI x1), (3, vI x2)] []
  unfold XX12_enough
  refine S_aload_n (kk := 0) g dX12_enough_0 rfl rfl ?_
  refine S_iload_n (kk := 1) g dX12_enough_1 rfl rfl ?_
  refine S_iload_n (kk := 2) g dX12_enough_2 rfl rfl ?_
  refine S_iload_n (kk := 3) g dX12_enough_3 rfl rfl ?_
  refine S_callVi (As := [vI x0, vI x1, vI x2]) g dX12_enough_4 (sX12_arePoints hw _ _ _ _) rfl (at_143 hw) rfl im_X12_arePoints se_X12_arePoints cw_X12_arePoints ml_Mod_332 ini_Mod nd_X12_arePoints ⟨by decide, by decide⟩ (Nat.le_of_ble_eq_true rfl) (fun r1 h2 => ?_)
  refine S_istore g dX12_enough_7 (by decide) rfl ?_
  refine S_iload (kk := 0) g dX12_enough_9 rfl ?_
  refine S_if_ne (tgt := 16) g dX12_enough_11 (by decide) ?_ ?_
  · refine S_aload_n (kk := 1) g dX12_enough_16 rfl rfl ?_
    refine S_callVv (As := []) g dX12_enough_17 (sX12_prepares hw  _) rfl (at_143 hw) rfl im_X12_prepares se_X12_prepares cw_X12_prepares ml_Mod_336 ini_Mod nd_X12_prepares ⟨by decide, by decide⟩ (Nat.le_of_ble_eq_true rfl) (fun r3 h4 => ?_)
    refine S_aload_n (kk := 1) g dX12_enough_20 rfl rfl ?_
    refine S_iload_n (kk := 2) g dX12_enough_21 rfl rfl ?_
    refine S_iload_n (kk := 3) g dX12_enough_22 rfl rfl ?_
    refine S_iload_n (kk := 4) g dX12_enough_23 rfl rfl ?_
    refine S_iload (kk := 0) g dX12_enough_24 rfl ?_
    refine S_callVv (As := [vI x0, vI x1, vI x2, vI r1]) g dX12_enough_26 (sX12_mendings hw _ _ _ _ _) rfl (at_143 hw) rfl im_X12_mendings se_X12_mendings cw_X12_mendings ml_Mod_339 ini_Mod nd_X12_mendings ⟨by decide, by decide⟩ (Nat.le_of_ble_eq_true rfl) (fun r5 h6 => ?_)
    refine S_aload_n (kk := 1) g dX12_enough_29 rfl rfl ?_
    refine S_iload (kk := 0) g dX12_enough_30 rfl ?_
    refine S_callVi (As := [vI r1]) g dX12_enough_32 (sX12_lacking hw _ _) rfl (at_143 hw) rfl im_X12_lacking se_X12_lacking cw_X12_lacking ml_Mod_343 ini_Mod nd_X12_lacking ⟨by decide, by decide⟩ (Nat.le_of_ble_eq_true rfl) (fun r7 h8 => ?_)
    exact S_ireturn g dX12_enough_35 rfl
  · refine S_iconst g dX12_enough_14 ⟨by decide, by decide⟩ ?_
    exact S_ireturn g dX12_enough_15 rfl

def XX12_areEnough (x0 : Int) (x1 : Int) (x2 : Int) (x3 : Int) (h : Hp) : OR :=
  cal (XX12_mendings x0 x1 x2 x3 h) (fun r1 h2 => cal (XX12_lacking x3 h2) (fun r3 h4 => if r3 = 1000 then hm (wr h4 143 19 x3) (fun h5 => inb 0 3 (hm (wr h5 158 (0 : Int).toNat x0) (fun h6 => inb 1 3 (hm (wr h6 158 (1 : Int).toNat x1) (fun h7 => inb 2 3 (hm (wr h7 158 (2 : Int).toNat x2) (fun h8 => zb 1 (some (1, h8))))))))) else zb 0 (some (0, h4))))
theorem sX12_areEnough {G : GG} {w : Wd} (hw : okM w) (x0 : Int) (x1 : Int) (x2 : Int) (x3 : Int) (h : Hp) : SC G w yX12_areEnough (Cond.code yX12_areEnough cX12_areEnough 5 (Option.some Jvm.ClassFile.FieldType.boolean)) 5 0 [vP 143, vI x0, vI x1, vI x2, vI x3] (XX12_areEnough x0 x1 x2 x3 h) h := by
  refine SC_of (own := "GatePatchModel") plain_Mod rfl (Nat.le_of_ble_eq_true rfl) (fun Γ hG g => ?_)
  subst hG
  show Sim Γ w 0 _ h 0 [(0, vP 143), (1, vI x0), (2, vI x1), (3, vI x2), (4, vI x3)] []
  unfold XX12_areEnough
  refine S_aload_n (kk := 0) g dX12_areEnough_0 rfl rfl ?_
  refine S_iload_n (kk := 1) g dX12_areEnough_1 rfl rfl ?_
  refine S_iload_n (kk := 2) g dX12_areEnough_2 rfl rfl ?_
  refine S_iload_n (kk := 3) g dX12_areEnough_3 rfl rfl ?_
  refine S_iload (kk := 4) g dX12_areEnough_4 rfl ?_
  refine S_callVv (As := [vI x0, vI x1, vI x2, vI x3]) g dX12_areEnough_6 (sX12_mendings hw _ _ _ _ _) rfl (at_143 hw) rfl im_X12_mendings se_X12_mendings cw_X12_mendings ml_Mod_339 ini_Mod nd_X12_mendings ⟨by decide, by decide⟩ (Nat.le_of_ble_eq_true rfl) (fun r1 h2 => ?_)
  refine S_aload_n (kk := 0) g dX12_areEnough_9 rfl rfl ?_
  refine S_iload (kk := 4) g dX12_areEnough_10 rfl ?_
  refine S_callVi (As := [vI x3]) g dX12_areEnough_12 (sX12_lacking hw _ _) rfl (at_143 hw) rfl im_X12_lacking se_X12_lacking cw_X12_lacking ml_Mod_343 ini_Mod nd_X12_lacking ⟨by decide, by decide⟩ (Nat.le_of_ble_eq_true rfl) (fun r3 h4 => ?_)
  refine S_sipush g dX12_areEnough_15 ⟨by decide, by decide⟩ rfl ?_
  refine S_icmp_eq (tgt := 23) g dX12_areEnough_18 (by decide) ?_ ?_
  · refine S_aload_n (kk := 0) g dX12_areEnough_23 rfl rfl ?_
    refine S_iload (kk := 4) g dX12_areEnough_24 rfl ?_
    refine S_puti g dX12_areEnough_26 fp_Mod_226 (at_143 hw) rfl (fun h5 => ?_)
    refine S_aload_n (kk := 0) g dX12_areEnough_29 rfl rfl ?_
    refine S_getr g dX12_areEnough_30 fl_Mod_60 (at_143 hw) rfl (rc_143_20 hw) ?_
    refine S_iconst g dX12_areEnough_33 ⟨by decide, by decide⟩ ?_
    refine S_iload_n (kk := 1) g dX12_areEnough_34 rfl rfl ?_
    refine S_iastore g dX12_areEnough_35 (at_158 hw) (fun h6 => ?_)
    refine S_aload_n (kk := 0) g dX12_areEnough_36 rfl rfl ?_
    refine S_getr g dX12_areEnough_37 fl_Mod_60 (at_143 hw) rfl (rc_143_20 hw) ?_
    refine S_iconst g dX12_areEnough_40 ⟨by decide, by decide⟩ ?_
    refine S_iload_n (kk := 2) g dX12_areEnough_41 rfl rfl ?_
    refine S_iastore g dX12_areEnough_42 (at_158 hw) (fun h7 => ?_)
    refine S_aload_n (kk := 0) g dX12_areEnough_43 rfl rfl ?_
    refine S_getr g dX12_areEnough_44 fl_Mod_60 (at_143 hw) rfl (rc_143_20 hw) ?_
    refine S_iconst g dX12_areEnough_47 ⟨by decide, by decide⟩ ?_
    refine S_iload_n (kk := 3) g dX12_areEnough_48 rfl rfl ?_
    refine S_iastore g dX12_areEnough_49 (at_158 hw) (fun h8 => ?_)
    refine S_iconst g dX12_areEnough_50 ⟨by decide, by decide⟩ ?_
    exact S_zreturn g dX12_areEnough_51 rfl
  · refine S_iconst g dX12_areEnough_21 ⟨by decide, by decide⟩ ?_
    exact S_zreturn g dX12_areEnough_22 rfl

def XX12_points_b146  (self119 : Int → Int → Int → Hp → OR) (self134 : Int → Int → Int → Int → Hp → OR) (self146 : Int → Int → Int → Int → Int → Hp → OR) (l1 l2 l3 l4 l5 : Int) (h : Hp) : OR :=
  if l2 ≤ l5 then chk (l4 + 1) (self134 l1 l2 l3 (l4 + 1) h) else cal (XX12_areEnough l3 l4 l5 3 h) (fun r17 h18 => if r17 = 0 then chk (l5 + 1) (self146 l1 l2 l3 l4 (l5 + 1) h18) else some (3, h18))
def XX12_points_L146  (self119 : Int → Int → Int → Hp → OR) (self134 : Int → Int → Int → Int → Hp → OR) (l1 l2 l3 l4 l5 : Int) (h : Hp) : OR := lup5 (XX12_points_b146 self119 self134) FU l1 l2 l3 l4 l5 h
def XX12_points_b134  (self119 : Int → Int → Int → Hp → OR) (self134 : Int → Int → Int → Int → Hp → OR) (l1 l2 l3 l4 : Int) (h : Hp) : OR :=
  if l2 ≤ l4 then chk (l3 + 1) (self119 l1 l2 (l3 + 1) h) else chk (l4 + 1) (nm (l4 + 1) (fun v16 => XX12_points_L146 self119 self134 l1 l2 l3 l4 v16 h))
def XX12_points_L134  (self119 : Int → Int → Int → Hp → OR) (l1 l2 l3 l4 : Int) (h : Hp) : OR := lup4 (XX12_points_b134 self119) FU l1 l2 l3 l4 h
def XX12_points_b119   (self119 : Int → Int → Int → Hp → OR) (l1 l2 l3 : Int) (h : Hp) : OR :=
  if l2 ≤ l3 then some ((-4), h) else if l1 ≤ 2 then some ((-4), h) else chk (l3 + 1) (nm (l3 + 1) (fun v15 => XX12_points_L134 self119 l1 l2 l3 v15 h))
def XX12_points_L119   (l1 l2 l3 : Int) (h : Hp) : OR := lup3 (XX12_points_b119 ) FU l1 l2 l3 h
def XX12_points_p114   (l1 l2 : Int) (h : Hp) : OR :=
  cal (XX12_begun h) (fun r13 h14 => XX12_points_L119 l1 l2 r13 h14)
def XX12_points_b82  (self67 : Int → Int → Int → Hp → OR) (self82 : Int → Int → Int → Int → Hp → OR) (l1 l2 l3 l4 : Int) (h : Hp) : OR :=
  if l2 ≤ l4 then chk (l3 + 1) (self67 l1 l2 (l3 + 1) h) else cal (XX12_areEnough l3 l4 (-1) 2 h) (fun r20 h21 => if r20 = 0 then chk (l4 + 1) (self82 l1 l2 l3 (l4 + 1) h21) else some (2, h21))
def XX12_points_L82  (self67 : Int → Int → Int → Hp → OR) (l1 l2 l3 l4 : Int) (h : Hp) : OR := lup4 (XX12_points_b82 self67) FU l1 l2 l3 l4 h
def XX12_points_b67   (self67 : Int → Int → Int → Hp → OR) (l1 l2 l3 : Int) (h : Hp) : OR :=
  if l2 ≤ l3 then XX12_points_p114 l1 l2 h else if l1 ≤ 1 then XX12_points_p114 l1 l2 h else chk (l3 + 1) (nm (l3 + 1) (fun v19 => XX12_points_L82 self67 l1 l2 l3 v19 h))
def XX12_points_L67   (l1 l2 l3 : Int) (h : Hp) : OR := lup3 (XX12_points_b67 ) FU l1 l2 l3 h
def XX12_points_b38   (self38 : Int → Int → Int → Hp → OR) (l1 l2 l3 : Int) (h : Hp) : OR :=
  if l2 ≤ l3 then cal (XX12_begun h) (fun r11 h12 => XX12_points_L67 l1 l2 r11 h12) else cal (XX12_areEnough l3 (-1) (-1) 1 h) (fun r22 h23 => if r22 = 0 then chk (l3 + 1) (self38 l1 l2 (l3 + 1) h23) else some (1, h23))
def XX12_points_L38   (l1 l2 l3 : Int) (h : Hp) : OR := lup3 (XX12_points_b38 ) FU l1 l2 l3 h
def XX12_points (x0 : Int) (h : Hp) : OR :=
  cal (XX12_in x0 1 3 h) (fun r1 h2 => if r1 = 0 then some ((-1), h2) else cal (XX12_differ h2) (fun r3 h4 => if r3 = 1000 then some (0, h4) else cal (XX12_prepares h4) (fun r5 h6 => cal (XX12_wires 0 h6) (fun r7 h8 => cal (XX12_begun h8) (fun r9 h10 => XX12_points_L38 x0 r7 r9 h10)))))
theorem sX12_points_L146 {Γ : Cx} {w : Wd} (hw : okM w) (g : Gd Γ cX12_points 6 "GatePatchModel" (Option.some Jvm.ClassFile.FieldType.int) (rmd 7))  (self119 : Int → Int → Int → Hp → OR) (hs119 : ∀ (x0 x1 x2 : Int) (h : Hp), Sim Γ w 0 (self119 x0 x1 x2 h) h 119 [(0, vP 143), (1, vI x0), (2, vI x1), (3, vI x2)] []) (self134 : Int → Int → Int → Int → Hp → OR) (hs134 : ∀ (x0 x1 x2 x3 : Int) (h : Hp), Sim Γ w 0 (self134 x0 x1 x2 x3 h) h 134 [(0, vP 143), (1, vI x0), (2, vI x1), (3, vI x2), (4, vI x3)] []) : ∀ (l1 l2 l3 l4 l5 : Int) (h : Hp), Sim Γ w 0 (XX12_points_L146 self119 self134 l1 l2 l3 l4 l5 h) h 146 [(0, vP 143), (1, vI l1), (2, vI l2), (3, vI l3), (4, vI l4), (5, vI l5)] [] := by
  refine S_lup5 (fun l1 l2 l3 l4 l5 => [(0, vP 143), (1, vI l1), (2, vI l2), (3, vI l3), (4, vI l4), (5, vI l5)]) (fun self146 hs146 l1 l2 l3 l4 l5 h => ?_) FU
  unfold XX12_points_b146
  refine S_iload (kk := 5) g dX12_points_146 rfl ?_
  refine S_iload_n (kk := 2) g dX12_points_148 rfl rfl ?_
  refine S_icmp_ge (tgt := 173) g dX12_points_149 (by decide) ?_ ?_
  · refine S_iinc (kk := 4) g dX12_points_173 rfl (by decide) rfl ?_
    refine S_goto (tgt := 134) g dX12_points_176 (by decide) ?_
    refine S_sub g [1, 2, 3, 4, 0] rfl ?_
    exact hs134 _ _ _ _ _
  · refine S_aload_n (kk := 0) g dX12_points_152 rfl rfl ?_
    refine S_iload_n (kk := 3) g dX12_points_153 rfl rfl ?_
    refine S_iload (kk := 4) g dX12_points_154 rfl ?_
    refine S_iload (kk := 5) g dX12_points_156 rfl ?_
    refine S_iconst g dX12_points_158 ⟨by decide, by decide⟩ ?_
    refine S_callVi (As := [vI l3, vI l4, vI l5, vI 3]) g dX12_points_159 (sX12_areEnough hw _ _ _ _ _) rfl (at_143 hw) rfl im_X12_areEnough se_X12_areEnough cw_X12_areEnough ml_Mod_349 ini_Mod nd_X12_areEnough ⟨by decide, by decide⟩ (Nat.le_of_ble_eq_true rfl) (fun r17 h18 => ?_)
    refine S_if_eq (tgt := 167) g dX12_points_162 (by decide) ?_ ?_
    · refine S_iinc (kk := 5) g dX12_points_167 rfl (by decide) rfl ?_
      refine S_goto (tgt := 146) g dX12_points_170 (by decide) ?_
      refine S_sub g [1, 2, 3, 4, 5, 0] rfl ?_
      exact hs146 _ _ _ _ _ _
    · refine S_iconst g dX12_points_165 ⟨by decide, by decide⟩ ?_
      exact S_ireturn g dX12_points_166 rfl

theorem sX12_points_L134 {Γ : Cx} {w : Wd} (hw : okM w) (g : Gd Γ cX12_points 6 "GatePatchModel" (Option.some Jvm.ClassFile.FieldType.int) (rmd 7))  (self119 : Int → Int → Int → Hp → OR) (hs119 : ∀ (x0 x1 x2 : Int) (h : Hp), Sim Γ w 0 (self119 x0 x1 x2 h) h 119 [(0, vP 143), (1, vI x0), (2, vI x1), (3, vI x2)] []) : ∀ (l1 l2 l3 l4 : Int) (h : Hp), Sim Γ w 0 (XX12_points_L134 self119 l1 l2 l3 l4 h) h 134 [(0, vP 143), (1, vI l1), (2, vI l2), (3, vI l3), (4, vI l4)] [] := by
  refine S_lup4 (fun l1 l2 l3 l4 => [(0, vP 143), (1, vI l1), (2, vI l2), (3, vI l3), (4, vI l4)]) (fun self134 hs134 l1 l2 l3 l4 h => ?_) FU
  unfold XX12_points_b134
  refine S_iload (kk := 4) g dX12_points_134 rfl ?_
  refine S_iload_n (kk := 2) g dX12_points_136 rfl rfl ?_
  refine S_icmp_ge (tgt := 179) g dX12_points_137 (by decide) ?_ ?_
  · refine S_iinc (kk := 3) g dX12_points_179 rfl (by decide) rfl ?_
    refine S_goto (tgt := 119) g dX12_points_182 (by decide) ?_
    refine S_sub g [1, 2, 3, 0] rfl ?_
    exact hs119 _ _ _ _
  · refine S_iload (kk := 4) g dX12_points_140 rfl ?_
    refine S_iconst g dX12_points_142 ⟨by decide, by decide⟩ ?_
    refine S_iadd g dX12_points_143 ?_
    refine S_nmI (fun v16 => ?_)
    refine S_istore g dX12_points_144 (by decide) rfl ?_
    refine S_sub g [1, 2, 3, 4, 5, 0] rfl ?_
    exact sX12_points_L146 hw g self119 hs119 self134 hs134 _ _ _ _ _ _

theorem sX12_points_L119 {Γ : Cx} {w : Wd} (hw : okM w) (g : Gd Γ cX12_points 6 "GatePatchModel" (Option.some Jvm.ClassFile.FieldType.int) (rmd 7))   : ∀ (l1 l2 l3 : Int) (h : Hp), Sim Γ w 0 (XX12_points_L119  l1 l2 l3 h) h 119 [(0, vP 143), (1, vI l1), (2, vI l2), (3, vI l3)] [] := by
  refine S_lup3 (fun l1 l2 l3 => [(0, vP 143), (1, vI l1), (2, vI l2), (3, vI l3)]) (fun self119 hs119 l1 l2 l3 h => ?_) FU
  unfold XX12_points_b119
  refine S_iload_n (kk := 3) g dX12_points_119 rfl rfl ?_
  refine S_iload_n (kk := 2) g dX12_points_120 rfl rfl ?_
  refine S_icmp_ge (tgt := 185) g dX12_points_121 (by decide) ?_ ?_
  · refine S_bipush g dX12_points_185 ⟨by decide, by decide⟩ rfl ?_
    exact S_ireturn g dX12_points_187 rfl
  · refine S_iload_n (kk := 1) g dX12_points_124 rfl rfl ?_
    refine S_iconst g dX12_points_125 ⟨by decide, by decide⟩ ?_
    refine S_icmp_le (tgt := 185) g dX12_points_126 (by decide) ?_ ?_
    · refine S_bipush g dX12_points_185 ⟨by decide, by decide⟩ rfl ?_
      exact S_ireturn g dX12_points_187 rfl
    · refine S_iload_n (kk := 3) g dX12_points_129 rfl rfl ?_
      refine S_iconst g dX12_points_130 ⟨by decide, by decide⟩ ?_
      refine S_iadd g dX12_points_131 ?_
      refine S_nmI (fun v15 => ?_)
      refine S_istore g dX12_points_132 (by decide) rfl ?_
      refine S_sub g [1, 2, 3, 4, 0] rfl ?_
      exact sX12_points_L134 hw g self119 hs119 _ _ _ _ _

theorem sX12_points_p114 {Γ : Cx} {w : Wd} (hw : okM w) (g : Gd Γ cX12_points 6 "GatePatchModel" (Option.some Jvm.ClassFile.FieldType.int) (rmd 7))   (l1 l2 : Int) (h : Hp) : Sim Γ w 0 (XX12_points_p114  l1 l2  h) h 114 [(0, vP 143), (1, vI l1), (2, vI l2)] [] := by
  unfold XX12_points_p114
  refine S_aload_n (kk := 0) g dX12_points_114 rfl rfl ?_
  refine S_callVi (As := []) g dX12_points_115 (sX12_begun hw  _) rfl (at_143 hw) rfl im_X12_begun se_X12_begun cw_X12_begun ml_Mod_208 ini_Mod nd_X12_begun ⟨by decide, by decide⟩ (Nat.le_of_ble_eq_true rfl) (fun r13 h14 => ?_)
  refine S_istore_n g dX12_points_118 rfl (by decide) rfl ?_
  refine S_sub g [1, 2, 3, 0] rfl ?_
  exact sX12_points_L119 hw g _ _ _ _

theorem sX12_points_L82 {Γ : Cx} {w : Wd} (hw : okM w) (g : Gd Γ cX12_points 6 "GatePatchModel" (Option.some Jvm.ClassFile.FieldType.int) (rmd 7))  (self67 : Int → Int → Int → Hp → OR) (hs67 : ∀ (x0 x1 x2 : Int) (h : Hp), Sim Γ w 0 (self67 x0 x1 x2 h) h 67 [(0, vP 143), (1, vI x0), (2, vI x1), (3, vI x2)] []) : ∀ (l1 l2 l3 l4 : Int) (h : Hp), Sim Γ w 0 (XX12_points_L82 self67 l1 l2 l3 l4 h) h 82 [(0, vP 143), (1, vI l1), (2, vI l2), (3, vI l3), (4, vI l4)] [] := by
  refine S_lup4 (fun l1 l2 l3 l4 => [(0, vP 143), (1, vI l1), (2, vI l2), (3, vI l3), (4, vI l4)]) (fun self82 hs82 l1 l2 l3 l4 h => ?_) FU
  unfold XX12_points_b82
  refine S_iload (kk := 4) g dX12_points_82 rfl ?_
  refine S_iload_n (kk := 2) g dX12_points_84 rfl rfl ?_
  refine S_icmp_ge (tgt := 108) g dX12_points_85 (by decide) ?_ ?_
  · refine S_iinc (kk := 3) g dX12_points_108 rfl (by decide) rfl ?_
    refine S_goto (tgt := 67) g dX12_points_111 (by decide) ?_
    refine S_sub g [1, 2, 3, 0] rfl ?_
    exact hs67 _ _ _ _
  · refine S_aload_n (kk := 0) g dX12_points_88 rfl rfl ?_
    refine S_iload_n (kk := 3) g dX12_points_89 rfl rfl ?_
    refine S_iload (kk := 4) g dX12_points_90 rfl ?_
    refine S_iconst g dX12_points_92 ⟨by decide, by decide⟩ ?_
    refine S_iconst g dX12_points_93 ⟨by decide, by decide⟩ ?_
    refine S_callVi (As := [vI l3, vI l4, vI (-1), vI 2]) g dX12_points_94 (sX12_areEnough hw _ _ _ _ _) rfl (at_143 hw) rfl im_X12_areEnough se_X12_areEnough cw_X12_areEnough ml_Mod_349 ini_Mod nd_X12_areEnough ⟨by decide, by decide⟩ (Nat.le_of_ble_eq_true rfl) (fun r20 h21 => ?_)
    refine S_if_eq (tgt := 102) g dX12_points_97 (by decide) ?_ ?_
    · refine S_iinc (kk := 4) g dX12_points_102 rfl (by decide) rfl ?_
      refine S_goto (tgt := 82) g dX12_points_105 (by decide) ?_
      refine S_sub g [1, 2, 3, 4, 0] rfl ?_
      exact hs82 _ _ _ _ _
    · refine S_iconst g dX12_points_100 ⟨by decide, by decide⟩ ?_
      exact S_ireturn g dX12_points_101 rfl

theorem sX12_points_L67 {Γ : Cx} {w : Wd} (hw : okM w) (g : Gd Γ cX12_points 6 "GatePatchModel" (Option.some Jvm.ClassFile.FieldType.int) (rmd 7))   : ∀ (l1 l2 l3 : Int) (h : Hp), Sim Γ w 0 (XX12_points_L67  l1 l2 l3 h) h 67 [(0, vP 143), (1, vI l1), (2, vI l2), (3, vI l3)] [] := by
  refine S_lup3 (fun l1 l2 l3 => [(0, vP 143), (1, vI l1), (2, vI l2), (3, vI l3)]) (fun self67 hs67 l1 l2 l3 h => ?_) FU
  unfold XX12_points_b67
  refine S_iload_n (kk := 3) g dX12_points_67 rfl rfl ?_
  refine S_iload_n (kk := 2) g dX12_points_68 rfl rfl ?_
  refine S_icmp_ge (tgt := 114) g dX12_points_69 (by decide) ?_ ?_
  · refine S_sub g [0, 1, 2] rfl ?_
    exact sX12_points_p114 hw g _ _ _
  · refine S_iload_n (kk := 1) g dX12_points_72 rfl rfl ?_
    refine S_iconst g dX12_points_73 ⟨by decide, by decide⟩ ?_
    refine S_icmp_le (tgt := 114) g dX12_points_74 (by decide) ?_ ?_
    · refine S_sub g [0, 1, 2] rfl ?_
      exact sX12_points_p114 hw g _ _ _
    · refine S_iload_n (kk := 3) g dX12_points_77 rfl rfl ?_
      refine S_iconst g dX12_points_78 ⟨by decide, by decide⟩ ?_
      refine S_iadd g dX12_points_79 ?_
      refine S_nmI (fun v19 => ?_)
      refine S_istore g dX12_points_80 (by decide) rfl ?_
      refine S_sub g [1, 2, 3, 4, 0] rfl ?_
      exact sX12_points_L82 hw g self67 hs67 _ _ _ _ _

theorem sX12_points_L38 {Γ : Cx} {w : Wd} (hw : okM w) (g : Gd Γ cX12_points 6 "GatePatchModel" (Option.some Jvm.ClassFile.FieldType.int) (rmd 7))   : ∀ (l1 l2 l3 : Int) (h : Hp), Sim Γ w 0 (XX12_points_L38  l1 l2 l3 h) h 38 [(0, vP 143), (1, vI l1), (2, vI l2), (3, vI l3)] [] := by
  refine S_lup3 (fun l1 l2 l3 => [(0, vP 143), (1, vI l1), (2, vI l2), (3, vI l3)]) (fun self38 hs38 l1 l2 l3 h => ?_) FU
  unfold XX12_points_b38
  refine S_iload_n (kk := 3) g dX12_points_38 rfl rfl ?_
  refine S_iload_n (kk := 2) g dX12_points_39 rfl rfl ?_
  refine S_icmp_ge (tgt := 62) g dX12_points_40 (by decide) ?_ ?_
  · refine S_aload_n (kk := 0) g dX12_points_62 rfl rfl ?_
    refine S_callVi (As := []) g dX12_points_63 (sX12_begun hw  _) rfl (at_143 hw) rfl im_X12_begun se_X12_begun cw_X12_begun ml_Mod_208 ini_Mod nd_X12_begun ⟨by decide, by decide⟩ (Nat.le_of_ble_eq_true rfl) (fun r11 h12 => ?_)
    refine S_istore_n g dX12_points_66 rfl (by decide) rfl ?_
    refine S_sub g [1, 2, 3, 0] rfl ?_
    exact sX12_points_L67 hw g _ _ _ _
  · refine S_aload_n (kk := 0) g dX12_points_43 rfl rfl ?_
    refine S_iload_n (kk := 3) g dX12_points_44 rfl rfl ?_
    refine S_iconst g dX12_points_45 ⟨by decide, by decide⟩ ?_
    refine S_iconst g dX12_points_46 ⟨by decide, by decide⟩ ?_
    refine S_iconst g dX12_points_47 ⟨by decide, by decide⟩ ?_
    refine S_callVi (As := [vI l3, vI (-1), vI (-1), vI 1]) g dX12_points_48 (sX12_areEnough hw _ _ _ _ _) rfl (at_143 hw) rfl im_X12_areEnough se_X12_areEnough cw_X12_areEnough ml_Mod_349 ini_Mod nd_X12_areEnough ⟨by decide, by decide⟩ (Nat.le_of_ble_eq_true rfl) (fun r22 h23 => ?_)
    refine S_if_eq (tgt := 56) g dX12_points_51 (by decide) ?_ ?_
    · refine S_iinc (kk := 3) g dX12_points_56 rfl (by decide) rfl ?_
      refine S_goto (tgt := 38) g dX12_points_59 (by decide) ?_
      refine S_sub g [1, 2, 3, 0] rfl ?_
      exact hs38 _ _ _ _
    · refine S_iconst g dX12_points_54 ⟨by decide, by decide⟩ ?_
      exact S_ireturn g dX12_points_55 rfl

theorem sX12_points {G : GG} {w : Wd} (hw : okM w) (x0 : Int) (h : Hp) : SC G w yX12_points (Cond.code yX12_points cX12_points 6 (Option.some Jvm.ClassFile.FieldType.int)) 7 0 [vP 143, vI x0] (XX12_points x0 h) h := by
  refine SC_of (own := "GatePatchModel") plain_Mod rfl (Nat.le_of_ble_eq_true rfl) (fun Γ hG g => ?_)
  subst hG
  show Sim Γ w 0 _ h 0 [(0, vP 143), (1, vI x0)] []
  unfold XX12_points
  refine S_iload_n (kk := 1) g dX12_points_0 rfl rfl ?_
  refine S_iconst g dX12_points_1 ⟨by decide, by decide⟩ ?_
  refine S_iconst g dX12_points_2 ⟨by decide, by decide⟩ ?_
  refine S_callSi (As := [vI x0, vI 1, vI 3]) g dX12_points_3 (sX12_in hw _ _ _ _) rfl st_X12_in cw_X12_in ml_Mod_212 ini_Mod nd_X12_in ⟨by decide, by decide⟩ (Nat.le_of_ble_eq_true rfl) (fun r1 h2 => ?_)
  refine S_if_ne (tgt := 11) g dX12_points_6 (by decide) ?_ ?_
  · refine S_aload_n (kk := 0) g dX12_points_11 rfl rfl ?_
    refine S_callVi (As := []) g dX12_points_12 (sX12_differ hw  _) rfl (at_143 hw) rfl im_X12_differ se_X12_differ cw_X12_differ ml_Mod_346 ini_Mod nd_X12_differ ⟨by decide, by decide⟩ (Nat.le_of_ble_eq_true rfl) (fun r3 h4 => ?_)
    refine S_sipush g dX12_points_15 ⟨by decide, by decide⟩ rfl ?_
    refine S_icmp_ne (tgt := 23) g dX12_points_18 (by decide) ?_ ?_
    · refine S_aload_n (kk := 0) g dX12_points_23 rfl rfl ?_
      refine S_callVv (As := []) g dX12_points_24 (sX12_prepares hw  _) rfl (at_143 hw) rfl im_X12_prepares se_X12_prepares cw_X12_prepares ml_Mod_336 ini_Mod nd_X12_prepares ⟨by decide, by decide⟩ (Nat.le_of_ble_eq_true rfl) (fun r5 h6 => ?_)
      refine S_aload_n (kk := 0) g dX12_points_27 rfl rfl ?_
      refine S_iconst g dX12_points_28 ⟨by decide, by decide⟩ ?_
      refine S_callVi (As := [vI 0]) g dX12_points_29 (sX12_wires hw _ _) rfl (at_143 hw) rfl im_X12_wires se_X12_wires cw_X12_wires ml_Mod_216 ini_Mod nd_X12_wires ⟨by decide, by decide⟩ (Nat.le_of_ble_eq_true rfl) (fun r7 h8 => ?_)
      refine S_istore_n g dX12_points_32 rfl (by decide) rfl ?_
      refine S_aload_n (kk := 1) g dX12_points_33 rfl rfl ?_
      refine S_callVi (As := []) g dX12_points_34 (sX12_begun hw  _) rfl (at_143 hw) rfl im_X12_begun se_X12_begun cw_X12_begun ml_Mod_208 ini_Mod nd_X12_begun ⟨by decide, by decide⟩ (Nat.le_of_ble_eq_true rfl) (fun r9 h10 => ?_)
      refine S_istore_n g dX12_points_37 rfl (by decide) rfl ?_
      refine S_sub g [2, 3, 1, 0] rfl ?_
      exact sX12_points_L38 hw g _ _ _ _
    · refine S_iconst g dX12_points_21 ⟨by decide, by decide⟩ ?_
      exact S_ireturn g dX12_points_22 rfl
  · refine S_iconst g dX12_points_9 ⟨by decide, by decide⟩ ?_
    exact S_ireturn g dX12_points_10 rfl

def XX12_point (x0 : Int) (h : Hp) : OR :=
  chk ((h 143 19) - 1) (cal (XX12_in x0 0 ((h 143 19) - 1) h) (fun r1 h2 => if r1 = 0 then some ((-1), h2) else inb x0 3 (some ((h2 158 x0.toNat), h2))))
theorem sX12_point {G : GG} {w : Wd} (hw : okM w) (x0 : Int) (h : Hp) : SC G w yX12_point (Cond.code yX12_point cX12_point 2 (Option.some Jvm.ClassFile.FieldType.int)) 2 0 [vP 143, vI x0] (XX12_point x0 h) h := by
  refine SC_of (own := "GatePatchModel") plain_Mod rfl (Nat.le_of_ble_eq_true rfl) (fun Γ hG g => ?_)
  subst hG
  show Sim Γ w 0 _ h 0 [(0, vP 143), (1, vI x0)] []
  unfold XX12_point
  refine S_iload_n (kk := 1) g dX12_point_0 rfl rfl ?_
  refine S_iconst g dX12_point_1 ⟨by decide, by decide⟩ ?_
  refine S_aload_n (kk := 0) g dX12_point_2 rfl rfl ?_
  refine S_geti g dX12_point_3 fl_Mod_226 (at_143 hw) (Or.inl rfl) ?_
  refine S_iconst g dX12_point_6 ⟨by decide, by decide⟩ ?_
  refine S_isub g dX12_point_7 ?_
  refine S_callSi (As := [vI x0, vI 0, vI ((h 143 19) - 1)]) g dX12_point_8 (sX12_in hw _ _ _ _) rfl st_X12_in cw_X12_in ml_Mod_212 ini_Mod nd_X12_in ⟨by decide, by decide⟩ (Nat.le_of_ble_eq_true rfl) (fun r1 h2 => ?_)
  refine S_if_eq (tgt := 23) g dX12_point_11 (by decide) ?_ ?_
  · refine S_iconst g dX12_point_23 ⟨by decide, by decide⟩ ?_
    exact S_ireturn g dX12_point_24 rfl
  · refine S_aload_n (kk := 0) g dX12_point_14 rfl rfl ?_
    refine S_getr g dX12_point_15 fl_Mod_60 (at_143 hw) rfl (rc_143_20 hw) ?_
    refine S_iload_n (kk := 1) g dX12_point_18 rfl rfl ?_
    refine S_iaload g dX12_point_19 (at_158 hw) ?_
    refine S_goto (tgt := 24) g dX12_point_20 (by decide) ?_
    exact S_ireturn g dX12_point_24 rfl

def XX12_mend (x0 : Int) (x1 : Int) (x2 : Int) (x3 : Int) (h : Hp) : OR :=
  cal (XX12_arePoints x0 x1 x2 h) (fun r1 h2 => if r1 = 0 then some ((-1), h2) else cal (XX12_isCase x3 h2) (fun r3 h4 => if r3 = 0 then some ((-1), h4) else cal (XX12_prepares h4) (fun r5 h6 => cal (XX12_mendings x0 x1 x2 r1 h6) (fun r7 h8 => cal (XX12_leastMend r1 x3 h8) (fun r9 h10 => if r9 = (-1) then some ((-4), h10) else some (r9, h10))))))
theorem sX12_mend {G : GG} {w : Wd} (hw : okM w) (x0 : Int) (x1 : Int) (x2 : Int) (x3 : Int) (h : Hp) : SC G w yX12_mend (Cond.code yX12_mend cX12_mend 7 (Option.some Jvm.ClassFile.FieldType.int)) 7 0 [vP 143, vI x0, vI x1, vI x2, vI x3] (XX12_mend x0 x1 x2 x3 h) h := by
  refine SC_of (own := "GatePatchModel") plain_Mod rfl (Nat.le_of_ble_eq_true rfl) (fun Γ hG g => ?_)
  subst hG
  show Sim Γ w 0 _ h 0 [(0, vP 143), (1, vI x0), (2, vI x1), (3, vI x2), (4, vI x3)] []
  unfold XX12_mend
  refine S_aload_n (kk := 0) g dX12_mend_0 rfl rfl ?_
  refine S_iload_n (kk := 1) g dX12_mend_1 rfl rfl ?_
  refine S_iload_n (kk := 2) g dX12_mend_2 rfl rfl ?_
  refine S_iload_n (kk := 3) g dX12_mend_3 rfl rfl ?_
  refine S_callVi (As := [vI x0, vI x1, vI x2]) g dX12_mend_4 (sX12_arePoints hw _ _ _ _) rfl (at_143 hw) rfl im_X12_arePoints se_X12_arePoints cw_X12_arePoints ml_Mod_332 ini_Mod nd_X12_arePoints ⟨by decide, by decide⟩ (Nat.le_of_ble_eq_true rfl) (fun r1 h2 => ?_)
  refine S_istore g dX12_mend_7 (by decide) rfl ?_
  refine S_iload (kk := 0) g dX12_mend_9 rfl ?_
  refine S_if_eq (tgt := 23) g dX12_mend_11 (by decide) ?_ ?_
  · refine S_iconst g dX12_mend_23 ⟨by decide, by decide⟩ ?_
    exact S_ireturn g dX12_mend_24 rfl
  · refine S_aload_n (kk := 1) g dX12_mend_14 rfl rfl ?_
    refine S_iload (kk := 5) g dX12_mend_15 rfl ?_
    refine S_callVi (As := [vI x3]) g dX12_mend_17 (sX12_isCase hw _ _) rfl (at_143 hw) rfl im_X12_isCase se_X12_isCase cw_X12_isCase ml_Mod_274 ini_Mod nd_X12_isCase ⟨by decide, by decide⟩ (Nat.le_of_ble_eq_true rfl) (fun r3 h4 => ?_)
    refine S_if_ne (tgt := 25) g dX12_mend_20 (by decide) ?_ ?_
    · refine S_aload_n (kk := 1) g dX12_mend_25 rfl rfl ?_
      refine S_callVv (As := []) g dX12_mend_26 (sX12_prepares hw  _) rfl (at_143 hw) rfl im_X12_prepares se_X12_prepares cw_X12_prepares ml_Mod_336 ini_Mod nd_X12_prepares ⟨by decide, by decide⟩ (Nat.le_of_ble_eq_true rfl) (fun r5 h6 => ?_)
      refine S_aload_n (kk := 1) g dX12_mend_29 rfl rfl ?_
      refine S_iload_n (kk := 2) g dX12_mend_30 rfl rfl ?_
      refine S_iload_n (kk := 3) g dX12_mend_31 rfl rfl ?_
      refine S_iload_n (kk := 4) g dX12_mend_32 rfl rfl ?_
      refine S_iload (kk := 0) g dX12_mend_33 rfl ?_
      refine S_callVv (As := [vI x0, vI x1, vI x2, vI r1]) g dX12_mend_35 (sX12_mendings hw _ _ _ _ _) rfl (at_143 hw) rfl im_X12_mendings se_X12_mendings cw_X12_mendings ml_Mod_339 ini_Mod nd_X12_mendings ⟨by decide, by decide⟩ (Nat.le_of_ble_eq_true rfl) (fun r7 h8 => ?_)
      refine S_aload_n (kk := 1) g dX12_mend_38 rfl rfl ?_
      refine S_iload (kk := 0) g dX12_mend_39 rfl ?_
      refine S_iload (kk := 5) g dX12_mend_41 rfl ?_
      refine S_callVi (As := [vI r1, vI x3]) g dX12_mend_43 (sX12_leastMend hw _ _ _) rfl (at_143 hw) rfl im_X12_leastMend se_X12_leastMend cw_X12_leastMend ml_Mod_329 ini_Mod nd_X12_leastMend ⟨by decide, by decide⟩ (Nat.le_of_ble_eq_true rfl) (fun r9 h10 => ?_)
      refine S_istore g dX12_mend_46 (by decide) rfl ?_
      refine S_iload (kk := 0) g dX12_mend_48 rfl ?_
      refine S_iconst g dX12_mend_50 ⟨by decide, by decide⟩ ?_
      refine S_icmp_ne (tgt := 59) g dX12_mend_51 (by decide) ?_ ?_
      · refine S_iload (kk := 0) g dX12_mend_59 rfl ?_
        exact S_ireturn g dX12_mend_61 rfl
      · refine S_bipush g dX12_mend_54 ⟨by decide, by decide⟩ rfl ?_
        refine S_goto (tgt := 61) g dX12_mend_56 (by decide) ?_
        exact S_ireturn g dX12_mend_61 rfl
    · refine S_iconst g dX12_mend_23 ⟨by decide, by decide⟩ ?_
      exact S_ireturn g dX12_mend_24 rfl

def XX12_isTape (x0 : Int) (h : Hp) : OR :=
  cal (XX12_in x0 0 5 h) (fun r1 h2 => zb r1 (some (r1, h2)))
theorem sX12_isTape {G : GG} {w : Wd} (hw : okM w) (x0 : Int) (h : Hp) : SC G w yX12_isTape (Cond.code yX12_isTape cX12_isTape 1 (Option.some Jvm.ClassFile.FieldType.boolean)) 2 0 [vI x0] (XX12_isTape x0 h) h := by
  refine SC_of (own := "GatePatchModel") plain_Mod rfl (Nat.le_of_ble_eq_true rfl) (fun Γ hG g => ?_)
  subst hG
  show Sim Γ w 0 _ h 0 [(0, vI x0)] []
  unfold XX12_isTape
  refine S_iload_n (kk := 0) g dX12_isTape_0 rfl rfl ?_
  refine S_iconst g dX12_isTape_1 ⟨by decide, by decide⟩ ?_
  refine S_iconst g dX12_isTape_2 ⟨by decide, by decide⟩ ?_
  refine S_callSi (As := [vI x0, vI 0, vI 5]) g dX12_isTape_3 (sX12_in hw _ _ _ _) rfl st_X12_in cw_X12_in ml_Mod_212 ini_Mod nd_X12_in ⟨by decide, by decide⟩ (Nat.le_of_ble_eq_true rfl) (fun r1 h2 => ?_)
  exact S_zreturn g dX12_isTape_6 rfl

def XX12_witness_p117  (self73 : Int → Int → Int → Hp → OR) (l1 l5 l6 : Int) (s1 s2 : Int) (h : Hp) : OR :=
  inb s1 1536 (hm (wr h 173 s1.toNat s2) (fun h21 => chk (l6 + 1) (self73 l1 l5 (l6 + 1) h21)))
def XX12_witness_b73   (self73 : Int → Int → Int → Hp → OR) (l1 l5 l6 : Int) (h : Hp) : OR :=
  cal (XX12_cases h) (fun r15 h16 => if r15 ≤ l6 then cal (XX12_cases h16) (fun r17 h18 => some (r17, h18)) else chk (256 * l1) (chk ((256 * l1) + l6) (inb l6 256 (if (h16 149 l6.toNat) = 0 then cal (XX12_leastMend l5 l6 h16) (fun r19 h20 => XX12_witness_p117 self73 l1 l5 l6 ((256 * l1) + l6) r19 h20) else XX12_witness_p117 self73 l1 l5 l6 ((256 * l1) + l6) 0 h16))))
def XX12_witness_L73   (l1 l5 l6 : Int) (h : Hp) : OR := lup3 (XX12_witness_b73 ) FU l1 l5 l6 h
def XX12_witness (x0 : Int) (x1 : Int) (x2 : Int) (x3 : Int) (h : Hp) : OR :=
  cal (XX12_arePoints x1 x2 x3 h) (fun r1 h2 => cal (XX12_isTape x0 h2) (fun r3 h4 => if r3 = 0 then some ((-1), h4) else if r1 = 0 then some ((-1), h4) else cal (XX12_prepares h4) (fun r5 h6 => cal (XX12_mendings x1 x2 x3 r1 h6) (fun r7 h8 => cal (XX12_lacking r1 h8) (fun r9 h10 => if r9 = 1000 then inb x0 6 (hm (wr h10 171 x0.toNat 1) (fun h11 => cal (XX12_cases h11) (fun r12 h13 => inb x0 6 (hm (wr h13 172 x0.toNat r12) (fun h14 => XX12_witness_L73 x0 r1 0 h14))))) else some ((-4), h10))))))
theorem sX12_witness_p117 {Γ : Cx} {w : Wd} (hw : okM w) (g : Gd Γ cX12_witness 7 "GatePatchModel" (Option.some Jvm.ClassFile.FieldType.int) (rmd 7))  (self73 : Int → Int → Int → Hp → OR) (hs73 : ∀ (x0 x1 x2 : Int) (h : Hp), Sim Γ w 0 (self73 x0 x1 x2 h) h 73 [(0, vP 143), (1, vI x0), (5, vI x1), (6, vI x2)] []) (l1 l5 l6 : Int) (s1 s2 : Int) (h : Hp) : Sim Γ w 0 (XX12_witness_p117 self73 l1 l5 l6 s1 s2 h) h 117 [(0, vP 143), (1, vI l1), (5, vI l5), (6, vI l6)] [vJ s2, vI s1, vP 173] := by
  unfold XX12_witness_p117
  refine S_lastore g dX12_witness_117 (at_173 hw) (fun h21 => ?_)
  refine S_iinc (kk := 3) g dX12_witness_118 rfl (by decide) rfl ?_
  refine S_goto (tgt := 73) g dX12_witness_121 (by decide) ?_
  refine S_sub g [1, 2, 3, 0] rfl ?_
  exact hs73 _ _ _ _

theorem sX12_witness_L73 {Γ : Cx} {w : Wd} (hw : okM w) (g : Gd Γ cX12_witness 7 "GatePatchModel" (Option.some Jvm.ClassFile.FieldType.int) (rmd 7))   : ∀ (l1 l5 l6 : Int) (h : Hp), Sim Γ w 0 (XX12_witness_L73  l1 l5 l6 h) h 73 [(0, vP 143), (1, vI l1), (5, vI l5), (6, vI l6)] [] := by
  refine S_lup3 (fun l1 l5 l6 => [(0, vP 143), (1, vI l1), (5, vI l5), (6, vI l6)]) (fun self73 hs73 l1 l5 l6 h => ?_) FU
  unfold XX12_witness_b73
  refine S_iload (kk := 3) g dX12_witness_73 rfl ?_
  refine S_aload_n (kk := 0) g dX12_witness_75 rfl rfl ?_
  refine S_callVi (As := []) g dX12_witness_76 (sX12_cases hw  _) rfl (at_143 hw) rfl im_X12_cases se_X12_cases cw_X12_cases ml_Mod_242 ini_Mod nd_X12_cases ⟨by decide, by decide⟩ (Nat.le_of_ble_eq_true rfl) (fun r15 h16 => ?_)
  refine S_icmp_ge (tgt := 124) g dX12_witness_79 (by decide) ?_ ?_
  · refine S_aload_n (kk := 0) g dX12_witness_124 rfl rfl ?_
    refine S_callVi (As := []) g dX12_witness_125 (sX12_cases hw  _) rfl (at_143 hw) rfl im_X12_cases se_X12_cases cw_X12_cases ml_Mod_242 ini_Mod nd_X12_cases ⟨by decide, by decide⟩ (Nat.le_of_ble_eq_true rfl) (fun r17 h18 => ?_)
    exact S_ireturn g dX12_witness_128 rfl
  · refine S_aload_n (kk := 0) g dX12_witness_82 rfl rfl ?_
    refine S_getr g dX12_witness_83 fl_Mod_111 (at_143 hw) rfl (rc_143_45 hw) ?_
    refine S_sipush g dX12_witness_86 ⟨by decide, by decide⟩ rfl ?_
    refine S_iload_n (kk := 1) g dX12_witness_89 rfl rfl ?_
    refine S_imul g dX12_witness_90 ?_
    refine S_iload (kk := 3) g dX12_witness_91 rfl ?_
    refine S_iadd g dX12_witness_93 ?_
    refine S_aload_n (kk := 0) g dX12_witness_94 rfl rfl ?_
    refine S_getr g dX12_witness_95 fl_Mod_32 (at_143 hw) rfl (rc_143_9 hw) ?_
    refine S_iload (kk := 3) g dX12_witness_98 rfl ?_
    refine S_zaload g dX12_witness_100 (at_149 hw) ?_
    refine S_if_eq (tgt := 108) g dX12_witness_101 (by decide) ?_ ?_
    · refine S_aload_n (kk := 0) g dX12_witness_108 rfl rfl ?_
      refine S_iload (kk := 2) g dX12_witness_109 rfl ?_
      refine S_iload (kk := 3) g dX12_witness_111 rfl ?_
      refine S_callVi (As := [vI l5, vI l6]) g dX12_witness_113 (sX12_leastMend hw _ _ _) rfl (at_143 hw) rfl im_X12_leastMend se_X12_leastMend cw_X12_leastMend ml_Mod_329 ini_Mod nd_X12_leastMend ⟨by decide, by decide⟩ (Nat.le_of_ble_eq_true rfl) (fun r19 h20 => ?_)
      refine S_i2l g dX12_witness_116 ?_
      exact sX12_witness_p117 hw g self73 hs73 _ _ _ _ _ _
    · refine S_lconst (x := 0) g dX12_witness_104 ⟨by decide, by decide⟩ rfl ?_
      refine S_goto (tgt := 117) g dX12_witness_105 (by decide) ?_
      exact sX12_witness_p117 hw g self73 hs73 _ _ _ _ _ _

theorem sX12_witness {G : GG} {w : Wd} (hw : okM w) (x0 : Int) (x1 : Int) (x2 : Int) (x3 : Int) (h : Hp) : SC G w yX12_witness (Cond.code yX12_witness cX12_witness 7 (Option.some Jvm.ClassFile.FieldType.int)) 7 0 [vP 143, vI x0, vI x1, vI x2, vI x3] (XX12_witness x0 x1 x2 x3 h) h := by
  refine SC_of (own := "GatePatchModel") plain_Mod rfl (Nat.le_of_ble_eq_true rfl) (fun Γ hG g => ?_)
  subst hG
  show Sim Γ w 0 _ h 0 [(0, vP 143), (1, vI x0), (2, vI x1), (3, vI x2), (4, vI x3)] []
  unfold XX12_witness
  refine S_aload_n (kk := 0) g dX12_witness_0 rfl rfl ?_
  refine S_iload_n (kk := 2) g dX12_witness_1 rfl rfl ?_
  refine S_iload_n (kk := 3) g dX12_witness_2 rfl rfl ?_
  refine S_iload (kk := 4) g dX12_witness_3 rfl ?_
  refine S_callVi (As := [vI x1, vI x2, vI x3]) g dX12_witness_5 (sX12_arePoints hw _ _ _ _) rfl (at_143 hw) rfl im_X12_arePoints se_X12_arePoints cw_X12_arePoints ml_Mod_332 ini_Mod nd_X12_arePoints ⟨by decide, by decide⟩ (Nat.le_of_ble_eq_true rfl) (fun r1 h2 => ?_)
  refine S_istore g dX12_witness_8 (by decide) rfl ?_
  refine S_iload_n (kk := 2) g dX12_witness_10 rfl rfl ?_
  refine S_callSi (As := [vI x0]) g dX12_witness_11 (sX12_isTape hw _ _) rfl st_X12_isTape cw_X12_isTape ml_Mod_353 ini_Mod nd_X12_isTape ⟨by decide, by decide⟩ (Nat.le_of_ble_eq_true rfl) (fun r3 h4 => ?_)
  refine S_if_eq (tgt := 22) g dX12_witness_14 (by decide) ?_ ?_
  · refine S_iconst g dX12_witness_22 ⟨by decide, by decide⟩ ?_
    exact S_ireturn g dX12_witness_23 rfl
  · refine S_iload (kk := 0) g dX12_witness_17 rfl ?_
    refine S_if_ne (tgt := 24) g dX12_witness_19 (by decide) ?_ ?_
    · refine S_aload_n (kk := 1) g dX12_witness_24 rfl rfl ?_
      refine S_callVv (As := []) g dX12_witness_25 (sX12_prepares hw  _) rfl (at_143 hw) rfl im_X12_prepares se_X12_prepares cw_X12_prepares ml_Mod_336 ini_Mod nd_X12_prepares ⟨by decide, by decide⟩ (Nat.le_of_ble_eq_true rfl) (fun r5 h6 => ?_)
      refine S_aload_n (kk := 1) g dX12_witness_28 rfl rfl ?_
      refine S_iload_n (kk := 3) g dX12_witness_29 rfl rfl ?_
      refine S_iload_n (kk := 4) g dX12_witness_30 rfl rfl ?_
      refine S_iload (kk := 5) g dX12_witness_31 rfl ?_
      refine S_iload (kk := 0) g dX12_witness_33 rfl ?_
      refine S_callVv (As := [vI x1, vI x2, vI x3, vI r1]) g dX12_witness_35 (sX12_mendings hw _ _ _ _ _) rfl (at_143 hw) rfl im_X12_mendings se_X12_mendings cw_X12_mendings ml_Mod_339 ini_Mod nd_X12_mendings ⟨by decide, by decide⟩ (Nat.le_of_ble_eq_true rfl) (fun r7 h8 => ?_)
      refine S_aload_n (kk := 1) g dX12_witness_38 rfl rfl ?_
      refine S_iload (kk := 0) g dX12_witness_39 rfl ?_
      refine S_callVi (As := [vI r1]) g dX12_witness_41 (sX12_lacking hw _ _) rfl (at_143 hw) rfl im_X12_lacking se_X12_lacking cw_X12_lacking ml_Mod_343 ini_Mod nd_X12_lacking ⟨by decide, by decide⟩ (Nat.le_of_ble_eq_true rfl) (fun r9 h10 => ?_)
      refine S_sipush g dX12_witness_44 ⟨by decide, by decide⟩ rfl ?_
      refine S_icmp_eq (tgt := 53) g dX12_witness_47 (by decide) ?_ ?_
      · refine S_aload_n (kk := 1) g dX12_witness_53 rfl rfl ?_
        refine S_getr g dX12_witness_54 fl_Mod_105 (at_143 hw) rfl (rc_143_43 hw) ?_
        refine S_iload_n (kk := 2) g dX12_witness_57 rfl rfl ?_
        refine S_iconst g dX12_witness_58 ⟨by decide, by decide⟩ ?_
        refine S_iastore g dX12_witness_59 (at_171 hw) (fun h11 => ?_)
        refine S_aload_n (kk := 1) g dX12_witness_60 rfl rfl ?_
        refine S_getr g dX12_witness_61 fl_Mod_108 (at_143 hw) rfl (rc_143_44 hw) ?_
        refine S_iload_n (kk := 2) g dX12_witness_64 rfl rfl ?_
        refine S_aload_n (kk := 1) g dX12_witness_65 rfl rfl ?_
        refine S_callVi (As := []) g dX12_witness_66 (sX12_cases hw  _) rfl (at_143 hw) rfl im_X12_cases se_X12_cases cw_X12_cases ml_Mod_242 ini_Mod nd_X12_cases ⟨by decide, by decide⟩ (Nat.le_of_ble_eq_true rfl) (fun r12 h13 => ?_)
        refine S_iastore g dX12_witness_69 (at_172 hw) (fun h14 => ?_)
        refine S_iconst g dX12_witness_70 ⟨by decide, by decide⟩ ?_
        refine S_istore g dX12_witness_71 (by decide) rfl ?_
        refine S_sub g [2, 3, 1, 0] rfl ?_
        exact sX12_witness_L73 hw g _ _ _ _
      · refine S_bipush g dX12_witness_50 ⟨by decide, by decide⟩ rfl ?_
        exact S_ireturn g dX12_witness_52 rfl
    · refine S_iconst g dX12_witness_22 ⟨by decide, by decide⟩ ?_
      exact S_ireturn g dX12_witness_23 rfl

def XX12_judge_p159  (self74 : Int → Int → Int → Hp → OR) (l1 l5 l6 : Int) (h : Hp) : OR :=
  chk (l6 + 1) (self74 l1 l5 (l6 + 1) h)
def XX12_judge_b74   (self74 : Int → Int → Int → Hp → OR) (l1 l5 l6 : Int) (h : Hp) : OR :=
  cal (XX12_cases h) (fun r9 h10 => if r9 ≤ l6 then some (1000, h10) else inb l6 256 (if (h10 149 l6.toNat) = 0 then inb l1 6 (if l6 < (h10 172 l1.toNat) then chk (256 * l1) (chk ((256 * l1) + l6) (inb ((256 * l1) + l6) 1536 (nm (h10 173 ((256 * l1) + l6).toNat) (fun v11 => if (jcmp v11 0) < 0 then some (l6, h10) else if 0 ≤ (jcmp v11 (ashl 1 l5)) then some (l6, h10) else cal (XX12_doesMend (al2i v11) l6 h10) (fun r12 h13 => if r12 = 0 then some (l6, h13) else XX12_judge_p159 self74 l1 l5 l6 h13))))) else cal (XX12_refuse (-13) h10) (fun r14 h15 => some (r14, h15))) else XX12_judge_p159 self74 l1 l5 l6 h10))
def XX12_judge_L74   (l1 l5 l6 : Int) (h : Hp) : OR := lup3 (XX12_judge_b74 ) FU l1 l5 l6 h
def XX12_judge (x0 : Int) (x1 : Int) (x2 : Int) (x3 : Int) (h : Hp) : OR :=
  cal (XX12_arePoints x1 x2 x3 h) (fun r1 h2 => cal (XX12_isTape x0 h2) (fun r3 h4 => if r3 = 0 then some ((-1), h4) else if r1 = 0 then some ((-1), h4) else inb x0 6 (if (h4 171 x0.toNat) = 0 then cal (XX12_refuse (-11) h4) (fun r18 h19 => some (r18, h19)) else inb x0 6 (if (h4 171 x0.toNat) = 1 then cal (XX12_prepares h4) (fun r5 h6 => cal (XX12_mendings x1 x2 x3 r1 h6) (fun r7 h8 => XX12_judge_L74 x0 r1 0 h8)) else cal (XX12_refuse (-12) h4) (fun r16 h17 => some (r16, h17))))))
theorem sX12_judge_p159 {Γ : Cx} {w : Wd} (hw : okM w) (g : Gd Γ cX12_judge 9 "GatePatchModel" (Option.some Jvm.ClassFile.FieldType.int) (rmd 7))  (self74 : Int → Int → Int → Hp → OR) (hs74 : ∀ (x0 x1 x2 : Int) (h : Hp), Sim Γ w 0 (self74 x0 x1 x2 h) h 74 [(0, vP 143), (1, vI x0), (5, vI x1), (6, vI x2)] []) (l1 l5 l6 : Int) (h : Hp) : Sim Γ w 0 (XX12_judge_p159 self74 l1 l5 l6  h) h 159 [(0, vP 143), (1, vI l1), (5, vI l5), (6, vI l6)] [] := by
  unfold XX12_judge_p159
  refine S_iinc (kk := 3) g dX12_judge_159 rfl (by decide) rfl ?_
  refine S_goto (tgt := 74) g dX12_judge_162 (by decide) ?_
  refine S_sub g [1, 2, 3, 0] rfl ?_
  exact hs74 _ _ _ _

theorem sX12_judge_L74 {Γ : Cx} {w : Wd} (hw : okM w) (g : Gd Γ cX12_judge 9 "GatePatchModel" (Option.some Jvm.ClassFile.FieldType.int) (rmd 7))   : ∀ (l1 l5 l6 : Int) (h : Hp), Sim Γ w 0 (XX12_judge_L74  l1 l5 l6 h) h 74 [(0, vP 143), (1, vI l1), (5, vI l5), (6, vI l6)] [] := by
  refine S_lup3 (fun l1 l5 l6 => [(0, vP 143), (1, vI l1), (5, vI l5), (6, vI l6)]) (fun self74 hs74 l1 l5 l6 h => ?_) FU
  unfold XX12_judge_b74
  refine S_iload (kk := 3) g dX12_judge_74 rfl ?_
  refine S_aload_n (kk := 0) g dX12_judge_76 rfl rfl ?_
  refine S_callVi (As := []) g dX12_judge_77 (sX12_cases hw  _) rfl (at_143 hw) rfl im_X12_cases se_X12_cases cw_X12_cases ml_Mod_242 ini_Mod nd_X12_cases ⟨by decide, by decide⟩ (Nat.le_of_ble_eq_true rfl) (fun r9 h10 => ?_)
  refine S_icmp_ge (tgt := 165) g dX12_judge_80 (by decide) ?_ ?_
  · refine S_sipush g dX12_judge_165 ⟨by decide, by decide⟩ rfl ?_
    exact S_ireturn g dX12_judge_168 rfl
  · refine S_aload_n (kk := 0) g dX12_judge_83 rfl rfl ?_
    refine S_getr g dX12_judge_84 fl_Mod_32 (at_143 hw) rfl (rc_143_9 hw) ?_
    refine S_iload (kk := 3) g dX12_judge_87 rfl ?_
    refine S_zaload g dX12_judge_89 (at_149 hw) ?_
    refine S_if_ne (tgt := 159) g dX12_judge_90 (by decide) ?_ ?_
    · exact sX12_judge_p159 hw g self74 hs74 _ _ _ _
    · refine S_iload (kk := 3) g dX12_judge_93 rfl ?_
      refine S_aload_n (kk := 0) g dX12_judge_95 rfl rfl ?_
      refine S_getr g dX12_judge_96 fl_Mod_108 (at_143 hw) rfl (rc_143_44 hw) ?_
      refine S_iload_n (kk := 1) g dX12_judge_99 rfl rfl ?_
      refine S_iaload g dX12_judge_100 (at_172 hw) ?_
      refine S_icmp_lt (tgt := 111) g dX12_judge_101 (by decide) ?_ ?_
      · refine S_aload_n (kk := 0) g dX12_judge_111 rfl rfl ?_
        refine S_getr g dX12_judge_112 fl_Mod_111 (at_143 hw) rfl (rc_143_45 hw) ?_
        refine S_sipush g dX12_judge_115 ⟨by decide, by decide⟩ rfl ?_
        refine S_iload_n (kk := 1) g dX12_judge_118 rfl rfl ?_
        refine S_imul g dX12_judge_119 ?_
        refine S_iload (kk := 3) g dX12_judge_120 rfl ?_
        refine S_iadd g dX12_judge_122 ?_
        refine S_laload g dX12_judge_123 (at_173 hw) ?_
        refine S_nmJ (fun v11 => ?_)
        refine S_lstore g dX12_judge_124 (by decide) rfl ?_
        refine S_lload (kk := 0) g dX12_judge_126 rfl ?_
        refine S_lconst (x := 0) g dX12_judge_128 ⟨by decide, by decide⟩ rfl ?_
        refine S_lcmp g dX12_judge_129 ?_
        refine S_if_lt (tgt := 156) g dX12_judge_130 (by decide) ?_ ?_
        · refine S_iload (kk := 4) g dX12_judge_156 rfl ?_
          exact S_ireturn g dX12_judge_158 rfl
        · refine S_lload (kk := 0) g dX12_judge_133 rfl ?_
          refine S_iconst g dX12_judge_135 ⟨by decide, by decide⟩ ?_
          refine S_iload (kk := 3) g dX12_judge_136 rfl ?_
          refine S_ishl g dX12_judge_138 ?_
          refine S_i2l g dX12_judge_139 ?_
          refine S_lcmp g dX12_judge_140 ?_
          refine S_if_ge (tgt := 156) g dX12_judge_141 (by decide) ?_ ?_
          · refine S_iload (kk := 4) g dX12_judge_156 rfl ?_
            exact S_ireturn g dX12_judge_158 rfl
          · refine S_aload_n (kk := 1) g dX12_judge_144 rfl rfl ?_
            refine S_lload (kk := 0) g dX12_judge_145 rfl ?_
            refine S_l2i g dX12_judge_147 ?_
            refine S_iload (kk := 4) g dX12_judge_148 rfl ?_
            refine S_callVi (As := [vI (al2i v11), vI l6]) g dX12_judge_150 (sX12_doesMend hw _ _ _) rfl (at_143 hw) rfl im_X12_doesMend se_X12_doesMend cw_X12_doesMend ml_Mod_326 ini_Mod nd_X12_doesMend ⟨by decide, by decide⟩ (Nat.le_of_ble_eq_true rfl) (fun r12 h13 => ?_)
            refine S_if_ne (tgt := 159) g dX12_judge_153 (by decide) ?_ ?_
            · refine S_sub g [1, 2, 3, 4] rfl ?_
              exact sX12_judge_p159 hw g self74 hs74 _ _ _ _
            · refine S_iload (kk := 4) g dX12_judge_156 rfl ?_
              exact S_ireturn g dX12_judge_158 rfl
      · refine S_aload_n (kk := 0) g dX12_judge_104 rfl rfl ?_
        refine S_bipush g dX12_judge_105 ⟨by decide, by decide⟩ rfl ?_
        refine S_callVi (As := [vI (-13)]) g dX12_judge_107 (sX12_refuse hw _ _) rfl (at_143 hw) rfl im_X12_refuse se_X12_refuse cw_X12_refuse ml_Mod_356 ini_Mod nd_X12_refuse ⟨by decide, by decide⟩ (Nat.le_of_ble_eq_true rfl) (fun r14 h15 => ?_)
        exact S_ireturn g dX12_judge_110 rfl

theorem sX12_judge {G : GG} {w : Wd} (hw : okM w) (x0 : Int) (x1 : Int) (x2 : Int) (x3 : Int) (h : Hp) : SC G w yX12_judge (Cond.code yX12_judge cX12_judge 9 (Option.some Jvm.ClassFile.FieldType.int)) 7 0 [vP 143, vI x0, vI x1, vI x2, vI x3] (XX12_judge x0 x1 x2 x3 h) h := by
  refine SC_of (own := "GatePatchModel") plain_Mod rfl (Nat.le_of_ble_eq_true rfl) (fun Γ hG g => ?_)
  subst hG
  show Sim Γ w 0 _ h 0 [(0, vP 143), (1, vI x0), (2, vI x1), (3, vI x2), (4, vI x3)] []
  unfold XX12_judge
  refine S_aload_n (kk := 0) g dX12_judge_0 rfl rfl ?_
  refine S_iload_n (kk := 2) g dX12_judge_1 rfl rfl ?_
  refine S_iload_n (kk := 3) g dX12_judge_2 rfl rfl ?_
  refine S_iload (kk := 4) g dX12_judge_3 rfl ?_
  refine S_callVi (As := [vI x1, vI x2, vI x3]) g dX12_judge_5 (sX12_arePoints hw _ _ _ _) rfl (at_143 hw) rfl im_X12_arePoints se_X12_arePoints cw_X12_arePoints ml_Mod_332 ini_Mod nd_X12_arePoints ⟨by decide, by decide⟩ (Nat.le_of_ble_eq_true rfl) (fun r1 h2 => ?_)
  refine S_istore g dX12_judge_8 (by decide) rfl ?_
  refine S_iload_n (kk := 2) g dX12_judge_10 rfl rfl ?_
  refine S_callSi (As := [vI x0]) g dX12_judge_11 (sX12_isTape hw _ _) rfl st_X12_isTape cw_X12_isTape ml_Mod_353 ini_Mod nd_X12_isTape ⟨by decide, by decide⟩ (Nat.le_of_ble_eq_true rfl) (fun r3 h4 => ?_)
  refine S_if_eq (tgt := 22) g dX12_judge_14 (by decide) ?_ ?_
  · refine S_iconst g dX12_judge_22 ⟨by decide, by decide⟩ ?_
    exact S_ireturn g dX12_judge_23 rfl
  · refine S_iload (kk := 0) g dX12_judge_17 rfl ?_
    refine S_if_ne (tgt := 24) g dX12_judge_19 (by decide) ?_ ?_
    · refine S_aload_n (kk := 1) g dX12_judge_24 rfl rfl ?_
      refine S_getr g dX12_judge_25 fl_Mod_105 (at_143 hw) rfl (rc_143_43 hw) ?_
      refine S_iload_n (kk := 2) g dX12_judge_28 rfl rfl ?_
      refine S_iaload g dX12_judge_29 (at_171 hw) ?_
      refine S_if_ne (tgt := 40) g dX12_judge_30 (by decide) ?_ ?_
      · refine S_aload_n (kk := 1) g dX12_judge_40 rfl rfl ?_
        refine S_getr g dX12_judge_41 fl_Mod_105 (at_143 hw) rfl (rc_143_43 hw) ?_
        refine S_iload_n (kk := 2) g dX12_judge_44 rfl rfl ?_
        refine S_iaload g dX12_judge_45 (at_171 hw) ?_
        refine S_iconst g dX12_judge_46 ⟨by decide, by decide⟩ ?_
        refine S_icmp_eq (tgt := 57) g dX12_judge_47 (by decide) ?_ ?_
        · refine S_aload_n (kk := 1) g dX12_judge_57 rfl rfl ?_
          refine S_callVv (As := []) g dX12_judge_58 (sX12_prepares hw  _) rfl (at_143 hw) rfl im_X12_prepares se_X12_prepares cw_X12_prepares ml_Mod_336 ini_Mod nd_X12_prepares ⟨by decide, by decide⟩ (Nat.le_of_ble_eq_true rfl) (fun r5 h6 => ?_)
          refine S_aload_n (kk := 1) g dX12_judge_61 rfl rfl ?_
          refine S_iload_n (kk := 3) g dX12_judge_62 rfl rfl ?_
          refine S_iload_n (kk := 4) g dX12_judge_63 rfl rfl ?_
          refine S_iload (kk := 5) g dX12_judge_64 rfl ?_
          refine S_iload (kk := 0) g dX12_judge_66 rfl ?_
          refine S_callVv (As := [vI x1, vI x2, vI x3, vI r1]) g dX12_judge_68 (sX12_mendings hw _ _ _ _ _) rfl (at_143 hw) rfl im_X12_mendings se_X12_mendings cw_X12_mendings ml_Mod_339 ini_Mod nd_X12_mendings ⟨by decide, by decide⟩ (Nat.le_of_ble_eq_true rfl) (fun r7 h8 => ?_)
          refine S_iconst g dX12_judge_71 ⟨by decide, by decide⟩ ?_
          refine S_istore g dX12_judge_72 (by decide) rfl ?_
          refine S_sub g [2, 3, 1, 0] rfl ?_
          exact sX12_judge_L74 hw g _ _ _ _
        · refine S_aload_n (kk := 1) g dX12_judge_50 rfl rfl ?_
          refine S_bipush g dX12_judge_51 ⟨by decide, by decide⟩ rfl ?_
          refine S_callVi (As := [vI (-12)]) g dX12_judge_53 (sX12_refuse hw _ _) rfl (at_143 hw) rfl im_X12_refuse se_X12_refuse cw_X12_refuse ml_Mod_356 ini_Mod nd_X12_refuse ⟨by decide, by decide⟩ (Nat.le_of_ble_eq_true rfl) (fun r16 h17 => ?_)
          exact S_ireturn g dX12_judge_56 rfl
      · refine S_aload_n (kk := 1) g dX12_judge_33 rfl rfl ?_
        refine S_bipush g dX12_judge_34 ⟨by decide, by decide⟩ rfl ?_
        refine S_callVi (As := [vI (-11)]) g dX12_judge_36 (sX12_refuse hw _ _) rfl (at_143 hw) rfl im_X12_refuse se_X12_refuse cw_X12_refuse ml_Mod_356 ini_Mod nd_X12_refuse ⟨by decide, by decide⟩ (Nat.le_of_ble_eq_true rfl) (fun r18 h19 => ?_)
        exact S_ireturn g dX12_judge_39 rfl
    · refine S_iconst g dX12_judge_22 ⟨by decide, by decide⟩ ?_
      exact S_ireturn g dX12_judge_23 rfl

def XX12_functions (x0 : Int) (h : Hp) : OR :=
  some ((ashl 1 (ashl 1 x0)), h)
theorem sX12_functions {G : GG} {w : Wd} (hw : okM w) (x0 : Int) (h : Hp) : SC G w yX12_functions (Cond.code yX12_functions cX12_functions 1 (Option.some Jvm.ClassFile.FieldType.int)) 1 0 [vI x0] (XX12_functions x0 h) h := by
  refine SC_of (own := "GatePatchModel") plain_Mod rfl (Nat.le_of_ble_eq_true rfl) (fun Γ hG g => ?_)
  subst hG
  show Sim Γ w 0 _ h 0 [(0, vI x0)] []
  unfold XX12_functions
  refine S_iconst g dX12_functions_0 ⟨by decide, by decide⟩ ?_
  refine S_iconst g dX12_functions_1 ⟨by decide, by decide⟩ ?_
  refine S_iload_n (kk := 0) g dX12_functions_2 rfl rfl ?_
  refine S_ishl g dX12_functions_3 ?_
  refine S_ishl g dX12_functions_4 ?_
  exact S_ireturn g dX12_functions_5 rfl

def XX12_projection_b4   (self4 : Int → Int → Int → Int → Hp → OR) (l0 l1 l2 l3 : Int) (h : Hp) : OR :=
  if (ashl 1 l0) ≤ l3 then some (l2, h) else nm (aor l2 (ashl (aand (ashr l3 l1) 1) l3)) (fun v1 => chk (l3 + 1) (self4 l0 l1 v1 (l3 + 1) h))
def XX12_projection_L4   (l0 l1 l2 l3 : Int) (h : Hp) : OR := lup4 (XX12_projection_b4 ) FU l0 l1 l2 l3 h
def XX12_projection (x0 : Int) (x1 : Int) (h : Hp) : OR :=
  XX12_projection_L4 x0 x1 0 0 h
theorem sX12_projection_L4 {Γ : Cx} {w : Wd} (hw : okM w) (g : Gd Γ cX12_projection 4 "GatePatchModel" (Option.some Jvm.ClassFile.FieldType.int) (rmd 1))   : ∀ (l0 l1 l2 l3 : Int) (h : Hp), Sim Γ w 0 (XX12_projection_L4  l0 l1 l2 l3 h) h 4 [(0, vI l0), (1, vI l1), (2, vI l2), (3, vI l3)] [] := by
  refine S_lup4 (fun l0 l1 l2 l3 => [(0, vI l0), (1, vI l1), (2, vI l2), (3, vI l3)]) (fun self4 hs4 l0 l1 l2 l3 h => ?_) FU
  unfold XX12_projection_b4
  refine S_iload_n (kk := 3) g dX12_projection_4 rfl rfl ?_
  refine S_iconst g dX12_projection_5 ⟨by decide, by decide⟩ ?_
  refine S_iload_n (kk := 0) g dX12_projection_6 rfl rfl ?_
  refine S_ishl g dX12_projection_7 ?_
  refine S_icmp_ge (tgt := 27) g dX12_projection_8 (by decide) ?_ ?_
  · refine S_iload_n (kk := 2) g dX12_projection_27 rfl rfl ?_
    exact S_ireturn g dX12_projection_28 rfl
  · refine S_iload_n (kk := 2) g dX12_projection_11 rfl rfl ?_
    refine S_iload_n (kk := 3) g dX12_projection_12 rfl rfl ?_
    refine S_iload_n (kk := 1) g dX12_projection_13 rfl rfl ?_
    refine S_ishr g dX12_projection_14 ?_
    refine S_iconst g dX12_projection_15 ⟨by decide, by decide⟩ ?_
    refine S_iand g dX12_projection_16 ?_
    refine S_iload_n (kk := 3) g dX12_projection_17 rfl rfl ?_
    refine S_ishl g dX12_projection_18 ?_
    refine S_ior g dX12_projection_19 ?_
    refine S_nmI (fun v1 => ?_)
    refine S_istore_n g dX12_projection_20 rfl (by decide) rfl ?_
    refine S_iinc (kk := 3) g dX12_projection_21 rfl (by decide) rfl ?_
    refine S_goto (tgt := 4) g dX12_projection_24 (by decide) ?_
    refine S_sub g [2, 3, 1, 0] rfl ?_
    exact hs4 _ _ _ _ _

theorem sX12_projection {G : GG} {w : Wd} (hw : okM w) (x0 : Int) (x1 : Int) (h : Hp) : SC G w yX12_projection (Cond.code yX12_projection cX12_projection 4 (Option.some Jvm.ClassFile.FieldType.int)) 1 0 [vI x0, vI x1] (XX12_projection x0 x1 h) h := by
  refine SC_of (own := "GatePatchModel") plain_Mod rfl (Nat.le_of_ble_eq_true rfl) (fun Γ hG g => ?_)
  subst hG
  show Sim Γ w 0 _ h 0 [(0, vI x0), (1, vI x1)] []
  unfold XX12_projection
  refine S_iconst g dX12_projection_0 ⟨by decide, by decide⟩ ?_
  refine S_istore_n g dX12_projection_1 rfl (by decide) rfl ?_
  refine S_iconst g dX12_projection_2 ⟨by decide, by decide⟩ ?_
  refine S_istore_n g dX12_projection_3 rfl (by decide) rfl ?_
  refine S_sub g [2, 3, 1, 0] rfl ?_
  exact sX12_projection_L4 hw g _ _ _ _ _

def XX12_joined (x0 : Int) (x1 : Int) (x2 : Int) (x3 : Int) (h : Hp) : OR :=
  cal (XX12_two x0 x2 x3 h) (fun r1 h2 => some ((aand (al2i r1) x1), h2))
theorem sX12_joined {G : GG} {w : Wd} (hw : okM w) (x0 : Int) (x1 : Int) (x2 : Int) (x3 : Int) (h : Hp) : SC G w yX12_joined (Cond.code yX12_joined cX12_joined 4 (Option.some Jvm.ClassFile.FieldType.int)) 2 0 [vI x0, vI x1, vI x2, vI x3] (XX12_joined x0 x1 x2 x3 h) h := by
  refine SC_of (own := "GatePatchModel") plain_Mod rfl (Nat.le_of_ble_eq_true rfl) (fun Γ hG g => ?_)
  subst hG
  show Sim Γ w 0 _ h 0 [(0, vI x0), (1, vI x1), (2, vI x2), (3, vI x3)] []
  unfold XX12_joined
  refine S_iload_n (kk := 0) g dX12_joined_0 rfl rfl ?_
  refine S_iload_n (kk := 2) g dX12_joined_1 rfl rfl ?_
  refine S_i2l g dX12_joined_2 ?_
  refine S_iload_n (kk := 3) g dX12_joined_3 rfl rfl ?_
  refine S_i2l g dX12_joined_4 ?_
  refine S_callSj (As := [vI x0, vJ x2, vJ x3]) g dX12_joined_5 (sX12_two hw _ _ _ _) rfl st_X12_two cw_X12_two ml_Mod_283 ini_Mod nd_X12_two ⟨by decide, by decide⟩ (Nat.le_of_ble_eq_true rfl) (fun r1 h2 => ?_)
  refine S_l2i g dX12_joined_8 ?_
  refine S_iload_n (kk := 1) g dX12_joined_9 rfl rfl ?_
  refine S_iand g dX12_joined_10 ?_
  exact S_ireturn g dX12_joined_11 rfl

def XX12_lacks_p28  (self4 : Int → Int → Int → Hp → OR) (l1 l3 : Int) (s0 : Int) (h : Hp) : OR :=
  chk (l3 + 1) (self4 l1 s0 (l3 + 1) h)
def XX12_lacks_p23  (self4 : Int → Int → Int → Hp → OR) (l1 l3 : Int) (h : Hp) : OR :=
  XX12_lacks_p28 self4 l1 l3 1 h
def XX12_lacks_b4   (self4 : Int → Int → Int → Hp → OR) (l1 l2 l3 : Int) (h : Hp) : OR :=
  if l1 < l3 then zb l2 (some (l2, h)) else if l2 = 0 then inb l3 256 (if (h 191 l3.toNat) = (-1) then XX12_lacks_p23 self4 l1 l3 h else XX12_lacks_p28 self4 l1 l3 0 h) else XX12_lacks_p23 self4 l1 l3 h
def XX12_lacks_L4   (l1 l2 l3 : Int) (h : Hp) : OR := lup3 (XX12_lacks_b4 ) FU l1 l2 l3 h
def XX12_lacks (x0 : Int) (h : Hp) : OR :=
  XX12_lacks_L4 x0 0 0 h
theorem sX12_lacks_p28 {Γ : Cx} {w : Wd} (hw : okM w) (g : Gd Γ cX12_lacks 4 "GatePatchModel" (Option.some Jvm.ClassFile.FieldType.boolean) (rmd 1))  (self4 : Int → Int → Int → Hp → OR) (hs4 : ∀ (x0 x1 x2 : Int) (h : Hp), Sim Γ w 0 (self4 x0 x1 x2 h) h 4 [(0, vP 143), (1, vI x0), (2, vI x1), (3, vI x2)] []) (l1 l3 : Int) (s0 : Int) (h : Hp) : Sim Γ w 0 (XX12_lacks_p28 self4 l1 l3 s0 h) h 28 [(0, vP 143), (1, vI l1), (3, vI l3)] [vI s0] := by
  unfold XX12_lacks_p28
  refine S_istore_n g dX12_lacks_28 rfl (by decide) rfl ?_
  refine S_iinc (kk := 3) g dX12_lacks_29 rfl (by decide) rfl ?_
  refine S_goto (tgt := 4) g dX12_lacks_32 (by decide) ?_
  refine S_sub g [2, 3, 1, 0] rfl ?_
  exact hs4 _ _ _ _

theorem sX12_lacks_p23 {Γ : Cx} {w : Wd} (hw : okM w) (g : Gd Γ cX12_lacks 4 "GatePatchModel" (Option.some Jvm.ClassFile.FieldType.boolean) (rmd 1))  (self4 : Int → Int → Int → Hp → OR) (hs4 : ∀ (x0 x1 x2 : Int) (h : Hp), Sim Γ w 0 (self4 x0 x1 x2 h) h 4 [(0, vP 143), (1, vI x0), (2, vI x1), (3, vI x2)] []) (l1 l3 : Int) (h : Hp) : Sim Γ w 0 (XX12_lacks_p23 self4 l1 l3  h) h 23 [(0, vP 143), (1, vI l1), (3, vI l3)] [] := by
  unfold XX12_lacks_p23
  refine S_iconst g dX12_lacks_23 ⟨by decide, by decide⟩ ?_
  refine S_goto (tgt := 28) g dX12_lacks_24 (by decide) ?_
  exact sX12_lacks_p28 hw g self4 hs4 _ _ _ _

theorem sX12_lacks_L4 {Γ : Cx} {w : Wd} (hw : okM w) (g : Gd Γ cX12_lacks 4 "GatePatchModel" (Option.some Jvm.ClassFile.FieldType.boolean) (rmd 1))   : ∀ (l1 l2 l3 : Int) (h : Hp), Sim Γ w 0 (XX12_lacks_L4  l1 l2 l3 h) h 4 [(0, vP 143), (1, vI l1), (2, vI l2), (3, vI l3)] [] := by
  refine S_lup3 (fun l1 l2 l3 => [(0, vP 143), (1, vI l1), (2, vI l2), (3, vI l3)]) (fun self4 hs4 l1 l2 l3 h => ?_) FU
  unfold XX12_lacks_b4
  refine S_iload_n (kk := 3) g dX12_lacks_4 rfl rfl ?_
  refine S_iload_n (kk := 1) g dX12_lacks_5 rfl rfl ?_
  refine S_icmp_gt (tgt := 35) g dX12_lacks_6 (by decide) ?_ ?_
  · refine S_iload_n (kk := 2) g dX12_lacks_35 rfl rfl ?_
    exact S_zreturn g dX12_lacks_36 rfl
  · refine S_iload_n (kk := 2) g dX12_lacks_9 rfl rfl ?_
    refine S_if_ne (tgt := 23) g dX12_lacks_10 (by decide) ?_ ?_
    · refine S_sub g [0, 1, 3] rfl ?_
      exact sX12_lacks_p23 hw g self4 hs4 _ _ _
    · refine S_aload_n (kk := 0) g dX12_lacks_13 rfl rfl ?_
      refine S_getr g dX12_lacks_14 fl_Mod_166 (at_143 hw) rfl (rc_143_66 hw) ?_
      refine S_iload_n (kk := 3) g dX12_lacks_17 rfl rfl ?_
      refine S_iaload g dX12_lacks_18 (at_191 hw) ?_
      refine S_iconst g dX12_lacks_19 ⟨by decide, by decide⟩ ?_
      refine S_icmp_ne (tgt := 27) g dX12_lacks_20 (by decide) ?_ ?_
      · refine S_iconst g dX12_lacks_27 ⟨by decide, by decide⟩ ?_
        refine S_sub g [0, 1, 3] rfl ?_
        exact sX12_lacks_p28 hw g self4 hs4 _ _ _ _
      · refine S_sub g [0, 1, 3] rfl ?_
        exact sX12_lacks_p23 hw g self4 hs4 _ _ _

theorem sX12_lacks {G : GG} {w : Wd} (hw : okM w) (x0 : Int) (h : Hp) : SC G w yX12_lacks (Cond.code yX12_lacks cX12_lacks 4 (Option.some Jvm.ClassFile.FieldType.boolean)) 1 0 [vP 143, vI x0] (XX12_lacks x0 h) h := by
  refine SC_of (own := "GatePatchModel") plain_Mod rfl (Nat.le_of_ble_eq_true rfl) (fun Γ hG g => ?_)
  subst hG
  show Sim Γ w 0 _ h 0 [(0, vP 143), (1, vI x0)] []
  unfold XX12_lacks
  refine S_iconst g dX12_lacks_0 ⟨by decide, by decide⟩ ?_
  refine S_istore_n g dX12_lacks_1 rfl (by decide) rfl ?_
  refine S_iconst g dX12_lacks_2 ⟨by decide, by decide⟩ ?_
  refine S_istore_n g dX12_lacks_3 rfl (by decide) rfl ?_
  refine S_sub g [2, 3, 1, 0] rfl ?_
  exact sX12_lacks_L4 hw g _ _ _ _

def XX12_joins_p159  (self2 : Int → Int → Int → Hp → OR) (l1 l2 l3 : Int) (h : Hp) : OR :=
  chk (l3 + 1) (self2 l1 l2 (l3 + 1) h)
def XX12_joins_p153  (self2 : Int → Int → Int → Hp → OR) (self43 : Int → Int → Int → Int → Hp → OR) (l1 l2 l3 l4 : Int) (h : Hp) : OR :=
  chk (l4 + 1) (self43 l1 l2 l3 (l4 + 1) h)
def XX12_joins_p146  (self2 : Int → Int → Int → Hp → OR) (self43 : Int → Int → Int → Int → Hp → OR) (self71 : Int → Int → Int → Int → Int → Hp → OR) (l1 l2 l3 l4 l5 : Int) (s1 s2 : Int) (h : Hp) : OR :=
  inb s1 256 (hm (wr h 191 s1.toNat s2) (fun h3 => chk (l5 + 1) (self71 l1 l2 l3 l4 (l5 + 1) h3)))
def XX12_joins_b71  (self2 : Int → Int → Int → Hp → OR) (self43 : Int → Int → Int → Int → Hp → OR) (self71 : Int → Int → Int → Int → Int → Hp → OR) (l1 l2 l3 l4 l5 : Int) (h : Hp) : OR :=
  if 5 < l5 then XX12_joins_p153 self2 self43 l1 l2 l3 l4 h else inb l4 256 (if (h 191 l4.toNat) < 0 then XX12_joins_p153 self2 self43 l1 l2 l3 l4 h else inb l3 256 (inb l4 256 (chk ((h 191 l3.toNat) + (h 191 l4.toNat)) (chk (l2 - 1) (if ((h 191 l3.toNat) + (h 191 l4.toNat)) = (l2 - 1) then cal (XX12_joined l5 l1 l3 l4 h) (fun r1 h2 => inb r1 256 (if (h2 191 r1.toNat) = (-1) then XX12_joins_p146 self2 self43 self71 l1 l2 l3 l4 l5 r1 l2 h2 else inb r1 256 (XX12_joins_p146 self2 self43 self71 l1 l2 l3 l4 l5 r1 (h2 191 r1.toNat) h2))) else XX12_joins_p153 self2 self43 l1 l2 l3 l4 h)))))
def XX12_joins_L71  (self2 : Int → Int → Int → Hp → OR) (self43 : Int → Int → Int → Int → Hp → OR) (l1 l2 l3 l4 l5 : Int) (h : Hp) : OR := lup5 (XX12_joins_b71 self2 self43) FU l1 l2 l3 l4 l5 h
def XX12_joins_b43  (self2 : Int → Int → Int → Hp → OR) (self43 : Int → Int → Int → Int → Hp → OR) (l1 l2 l3 l4 : Int) (h : Hp) : OR :=
  if l1 < l4 then XX12_joins_p159 self2 l1 l2 l3 h else inb l3 256 (if (h 191 l3.toNat) < 0 then XX12_joins_p159 self2 l1 l2 l3 h else inb l3 256 (if l2 ≤ (h 191 l3.toNat) then XX12_joins_p159 self2 l1 l2 l3 h else XX12_joins_L71 self2 self43 l1 l2 l3 l4 1 h))
def XX12_joins_L43  (self2 : Int → Int → Int → Hp → OR) (l1 l2 l3 l4 : Int) (h : Hp) : OR := lup4 (XX12_joins_b43 self2) FU l1 l2 l3 l4 h
def XX12_joins_p40  (self2 : Int → Int → Int → Hp → OR) (l1 l2 l3 : Int) (h : Hp) : OR :=
  XX12_joins_L43 self2 l1 l2 l3 0 h
def XX12_joins_b2   (self2 : Int → Int → Int → Hp → OR) (l1 l2 l3 : Int) (h : Hp) : OR :=
  if l1 < l3 then some (0, h) else inb l3 256 (chk (l2 - 1) (if (h 191 l3.toNat) = (l2 - 1) then inb (axor l3 l1) 256 (if (h 191 (axor l3 l1).toNat) = (-1) then inb (axor l3 l1) 256 (hm (wr h 191 (axor l3 l1).toNat l2) (fun h4 => XX12_joins_p40 self2 l1 l2 l3 h4)) else XX12_joins_p40 self2 l1 l2 l3 h) else XX12_joins_p40 self2 l1 l2 l3 h))
def XX12_joins_L2   (l1 l2 l3 : Int) (h : Hp) : OR := lup3 (XX12_joins_b2 ) FU l1 l2 l3 h
def XX12_joins (x0 : Int) (x1 : Int) (h : Hp) : OR :=
  XX12_joins_L2 x0 x1 0 h
theorem sX12_joins_p159 {Γ : Cx} {w : Wd} (hw : okM w) (g : Gd Γ cX12_joins 7 "GatePatchModel" (Option.none : Option Jvm.ClassFile.FieldType) (rmd 3))  (self2 : Int → Int → Int → Hp → OR) (hs2 : ∀ (x0 x1 x2 : Int) (h : Hp), Sim Γ w 3 (self2 x0 x1 x2 h) h 2 [(0, vP 143), (1, vI x0), (2, vI x1), (3, vI x2)] []) (l1 l2 l3 : Int) (h : Hp) : Sim Γ w 3 (XX12_joins_p159 self2 l1 l2 l3  h) h 159 [(0, vP 143), (1, vI l1), (2, vI l2), (3, vI l3)] [] := by
  unfold XX12_joins_p159
  refine S_iinc (kk := 3) g dX12_joins_159 rfl (by decide) rfl ?_
  refine S_goto (tgt := 2) g dX12_joins_162 (by decide) ?_
  refine S_sub g [1, 2, 3, 0] rfl ?_
  exact hs2 _ _ _ _

theorem sX12_joins_p153 {Γ : Cx} {w : Wd} (hw : okM w) (g : Gd Γ cX12_joins 7 "GatePatchModel" (Option.none : Option Jvm.ClassFile.FieldType) (rmd 3))  (self2 : Int → Int → Int → Hp → OR) (hs2 : ∀ (x0 x1 x2 : Int) (h : Hp), Sim Γ w 3 (self2 x0 x1 x2 h) h 2 [(0, vP 143), (1, vI x0), (2, vI x1), (3, vI x2)] []) (self43 : Int → Int → Int → Int → Hp → OR) (hs43 : ∀ (x0 x1 x2 x3 : Int) (h : Hp), Sim Γ w 3 (self43 x0 x1 x2 x3 h) h 43 [(0, vP 143), (1, vI x0), (2, vI x1), (3, vI x2), (4, vI x3)] []) (l1 l2 l3 l4 : Int) (h : Hp) : Sim Γ w 3 (XX12_joins_p153 self2 self43 l1 l2 l3 l4  h) h 153 [(0, vP 143), (1, vI l1), (2, vI l2), (3, vI l3), (4, vI l4)] [] := by
  unfold XX12_joins_p153
  refine S_iinc (kk := 4) g dX12_joins_153 rfl (by decide) rfl ?_
  refine S_goto (tgt := 43) g dX12_joins_156 (by decide) ?_
  refine S_sub g [1, 2, 3, 4, 0] rfl ?_
  exact hs43 _ _ _ _ _

theorem sX12_joins_p146 {Γ : Cx} {w : Wd} (hw : okM w) (g : Gd Γ cX12_joins 7 "GatePatchModel" (Option.none : Option Jvm.ClassFile.FieldType) (rmd 3))  (self2 : Int → Int → Int → Hp → OR) (hs2 : ∀ (x0 x1 x2 : Int) (h : Hp), Sim Γ w 3 (self2 x0 x1 x2 h) h 2 [(0, vP 143), (1, vI x0), (2, vI x1), (3, vI x2)] []) (self43 : Int → Int → Int → Int → Hp → OR) (hs43 : ∀ (x0 x1 x2 x3 : Int) (h : Hp), Sim Γ w 3 (self43 x0 x1 x2 x3 h) h 43 [(0, vP 143), (1, vI x0), (2, vI x1), (3, vI x2), (4, vI x3)] []) (self71 : Int → Int → Int → Int → Int → Hp → OR) (hs71 : ∀ (x0 x1 x2 x3 x4 : Int) (h : Hp), Sim Γ w 3 (self71 x0 x1 x2 x3 x4 h) h 71 [(0, vP 143), (1, vI x0), (2, vI x1), (3, vI x2), (4, vI x3), (5, vI x4)] []) (l1 l2 l3 l4 l5 : Int) (s1 s2 : Int) (h : Hp) : Sim Γ w 3 (XX12_joins_p146 self2 self43 self71 l1 l2 l3 l4 l5 s1 s2 h) h 146 [(0, vP 143), (1, vI l1), (2, vI l2), (3, vI l3), (4, vI l4), (5, vI l5)] [vI s2, vI s1, vP 191] := by
  unfold XX12_joins_p146
  refine S_iastore g dX12_joins_146 (at_191 hw) (fun h3 => ?_)
  refine S_iinc (kk := 5) g dX12_joins_147 rfl (by decide) rfl ?_
  refine S_goto (tgt := 71) g dX12_joins_150 (by decide) ?_
  refine S_sub g [1, 2, 3, 4, 5, 0] rfl ?_
  exact hs71 _ _ _ _ _ _

theorem sX12_joins_L71 {Γ : Cx} {w : Wd} (hw : okM w) (g : Gd Γ cX12_joins 7 "GatePatchModel" (Option.none : Option Jvm.ClassFile.FieldType) (rmd 3))  (self2 : Int → Int → Int → Hp → OR) (hs2 : ∀ (x0 x1 x2 : Int) (h : Hp), Sim Γ w 3 (self2 x0 x1 x2 h) h 2 [(0, vP 143), (1, vI x0), (2, vI x1), (3, vI x2)] []) (self43 : Int → Int → Int → Int → Hp → OR) (hs43 : ∀ (x0 x1 x2 x3 : Int) (h : Hp), Sim Γ w 3 (self43 x0 x1 x2 x3 h) h 43 [(0, vP 143), (1, vI x0), (2, vI x1), (3, vI x2), (4, vI x3)] []) : ∀ (l1 l2 l3 l4 l5 : Int) (h : Hp), Sim Γ w 3 (XX12_joins_L71 self2 self43 l1 l2 l3 l4 l5 h) h 71 [(0, vP 143), (1, vI l1), (2, vI l2), (3, vI l3), (4, vI l4), (5, vI l5)] [] := by
  refine S_lup5 (fun l1 l2 l3 l4 l5 => [(0, vP 143), (1, vI l1), (2, vI l2), (3, vI l3), (4, vI l4), (5, vI l5)]) (fun self71 hs71 l1 l2 l3 l4 l5 h => ?_) FU
  unfold XX12_joins_b71
  refine S_iload (kk := 5) g dX12_joins_71 rfl ?_
  refine S_iconst g dX12_joins_73 ⟨by decide, by decide⟩ ?_
  refine S_icmp_gt (tgt := 153) g dX12_joins_74 (by decide) ?_ ?_
  · refine S_sub g [0, 1, 2, 3, 4] rfl ?_
    exact sX12_joins_p153 hw g self2 hs2 self43 hs43 _ _ _ _ _
  · refine S_aload_n (kk := 0) g dX12_joins_77 rfl rfl ?_
    refine S_getr g dX12_joins_78 fl_Mod_166 (at_143 hw) rfl (rc_143_66 hw) ?_
    refine S_iload (kk := 4) g dX12_joins_81 rfl ?_
    refine S_iaload g dX12_joins_83 (at_191 hw) ?_
    refine S_if_lt (tgt := 153) g dX12_joins_84 (by decide) ?_ ?_
    · refine S_sub g [0, 1, 2, 3, 4] rfl ?_
      exact sX12_joins_p153 hw g self2 hs2 self43 hs43 _ _ _ _ _
    · refine S_aload_n (kk := 0) g dX12_joins_87 rfl rfl ?_
      refine S_getr g dX12_joins_88 fl_Mod_166 (at_143 hw) rfl (rc_143_66 hw) ?_
      refine S_iload_n (kk := 3) g dX12_joins_91 rfl rfl ?_
      refine S_iaload g dX12_joins_92 (at_191 hw) ?_
      refine S_aload_n (kk := 0) g dX12_joins_93 rfl rfl ?_
      refine S_getr g dX12_joins_94 fl_Mod_166 (at_143 hw) rfl (rc_143_66 hw) ?_
      refine S_iload (kk := 4) g dX12_joins_97 rfl ?_
      refine S_iaload g dX12_joins_99 (at_191 hw) ?_
      refine S_iadd g dX12_joins_100 ?_
      refine S_iload_n (kk := 2) g dX12_joins_101 rfl rfl ?_
      refine S_iconst g dX12_joins_102 ⟨by decide, by decide⟩ ?_
      refine S_isub g dX12_joins_103 ?_
      refine S_icmp_ne (tgt := 153) g dX12_joins_104 (by decide) ?_ ?_
      · refine S_sub g [0, 1, 2, 3, 4] rfl ?_
        exact sX12_joins_p153 hw g self2 hs2 self43 hs43 _ _ _ _ _
      · refine S_iload (kk := 5) g dX12_joins_107 rfl ?_
        refine S_iload_n (kk := 1) g dX12_joins_109 rfl rfl ?_
        refine S_iload_n (kk := 3) g dX12_joins_110 rfl rfl ?_
        refine S_iload (kk := 4) g dX12_joins_111 rfl ?_
        refine S_callSi (As := [vI l5, vI l1, vI l3, vI l4]) g dX12_joins_113 (sX12_joined hw _ _ _ _ _) rfl st_X12_joined cw_X12_joined ml_Mod_371 ini_Mod nd_X12_joined ⟨by decide, by decide⟩ (Nat.le_of_ble_eq_true rfl) (fun r1 h2 => ?_)
        refine S_istore g dX12_joins_116 (by decide) rfl ?_
        refine S_aload_n (kk := 1) g dX12_joins_118 rfl rfl ?_
        refine S_getr g dX12_joins_119 fl_Mod_166 (at_143 hw) rfl (rc_143_66 hw) ?_
        refine S_iload (kk := 0) g dX12_joins_122 rfl ?_
        refine S_aload_n (kk := 1) g dX12_joins_124 rfl rfl ?_
        refine S_getr g dX12_joins_125 fl_Mod_166 (at_143 hw) rfl (rc_143_66 hw) ?_
        refine S_iload (kk := 0) g dX12_joins_128 rfl ?_
        refine S_iaload g dX12_joins_130 (at_191 hw) ?_
        refine S_iconst g dX12_joins_131 ⟨by decide, by decide⟩ ?_
        refine S_icmp_ne (tgt := 139) g dX12_joins_132 (by decide) ?_ ?_
        · refine S_aload_n (kk := 1) g dX12_joins_139 rfl rfl ?_
          refine S_getr g dX12_joins_140 fl_Mod_166 (at_143 hw) rfl (rc_143_66 hw) ?_
          refine S_iload (kk := 0) g dX12_joins_143 rfl ?_
          refine S_iaload g dX12_joins_145 (at_191 hw) ?_
          refine S_sub g [1, 2, 3, 4, 5, 6] rfl ?_
          exact sX12_joins_p146 hw g self2 hs2 self43 hs43 self71 hs71 _ _ _ _ _ _ _ _
        · refine S_iload_n (kk := 3) g dX12_joins_135 rfl rfl ?_
          refine S_goto (tgt := 146) g dX12_joins_136 (by decide) ?_
          refine S_sub g [1, 2, 3, 4, 5, 6] rfl ?_
          exact sX12_joins_p146 hw g self2 hs2 self43 hs43 self71 hs71 _ _ _ _ _ _ _ _

theorem sX12_joins_L43 {Γ : Cx} {w : Wd} (hw : okM w) (g : Gd Γ cX12_joins 7 "GatePatchModel" (Option.none : Option Jvm.ClassFile.FieldType) (rmd 3))  (self2 : Int → Int → Int → Hp → OR) (hs2 : ∀ (x0 x1 x2 : Int) (h : Hp), Sim Γ w 3 (self2 x0 x1 x2 h) h 2 [(0, vP 143), (1, vI x0), (2, vI x1), (3, vI x2)] []) : ∀ (l1 l2 l3 l4 : Int) (h : Hp), Sim Γ w 3 (XX12_joins_L43 self2 l1 l2 l3 l4 h) h 43 [(0, vP 143), (1, vI l1), (2, vI l2), (3, vI l3), (4, vI l4)] [] := by
  refine S_lup4 (fun l1 l2 l3 l4 => [(0, vP 143), (1, vI l1), (2, vI l2), (3, vI l3), (4, vI l4)]) (fun self43 hs43 l1 l2 l3 l4 h => ?_) FU
  unfold XX12_joins_b43
  refine S_iload (kk := 4) g dX12_joins_43 rfl ?_
  refine S_iload_n (kk := 1) g dX12_joins_45 rfl rfl ?_
  refine S_icmp_gt (tgt := 159) g dX12_joins_46 (by decide) ?_ ?_
  · refine S_sub g [0, 1, 2, 3] rfl ?_
    exact sX12_joins_p159 hw g self2 hs2 _ _ _ _
  · refine S_aload_n (kk := 0) g dX12_joins_49 rfl rfl ?_
    refine S_getr g dX12_joins_50 fl_Mod_166 (at_143 hw) rfl (rc_143_66 hw) ?_
    refine S_iload_n (kk := 3) g dX12_joins_53 rfl rfl ?_
    refine S_iaload g dX12_joins_54 (at_191 hw) ?_
    refine S_if_lt (tgt := 159) g dX12_joins_55 (by decide) ?_ ?_
    · refine S_sub g [0, 1, 2, 3] rfl ?_
      exact sX12_joins_p159 hw g self2 hs2 _ _ _ _
    · refine S_aload_n (kk := 0) g dX12_joins_58 rfl rfl ?_
      refine S_getr g dX12_joins_59 fl_Mod_166 (at_143 hw) rfl (rc_143_66 hw) ?_
      refine S_iload_n (kk := 3) g dX12_joins_62 rfl rfl ?_
      refine S_iaload g dX12_joins_63 (at_191 hw) ?_
      refine S_iload_n (kk := 2) g dX12_joins_64 rfl rfl ?_
      refine S_icmp_ge (tgt := 159) g dX12_joins_65 (by decide) ?_ ?_
      · refine S_sub g [0, 1, 2, 3] rfl ?_
        exact sX12_joins_p159 hw g self2 hs2 _ _ _ _
      · refine S_iconst g dX12_joins_68 ⟨by decide, by decide⟩ ?_
        refine S_istore g dX12_joins_69 (by decide) rfl ?_
        refine S_sub g [1, 2, 3, 4, 5, 0] rfl ?_
        exact sX12_joins_L71 hw g self2 hs2 self43 hs43 _ _ _ _ _ _

theorem sX12_joins_p40 {Γ : Cx} {w : Wd} (hw : okM w) (g : Gd Γ cX12_joins 7 "GatePatchModel" (Option.none : Option Jvm.ClassFile.FieldType) (rmd 3))  (self2 : Int → Int → Int → Hp → OR) (hs2 : ∀ (x0 x1 x2 : Int) (h : Hp), Sim Γ w 3 (self2 x0 x1 x2 h) h 2 [(0, vP 143), (1, vI x0), (2, vI x1), (3, vI x2)] []) (l1 l2 l3 : Int) (h : Hp) : Sim Γ w 3 (XX12_joins_p40 self2 l1 l2 l3  h) h 40 [(0, vP 143), (1, vI l1), (2, vI l2), (3, vI l3)] [] := by
  unfold XX12_joins_p40
  refine S_iconst g dX12_joins_40 ⟨by decide, by decide⟩ ?_
  refine S_istore g dX12_joins_41 (by decide) rfl ?_
  refine S_sub g [1, 2, 3, 4, 0] rfl ?_
  exact sX12_joins_L43 hw g self2 hs2 _ _ _ _ _

theorem sX12_joins_L2 {Γ : Cx} {w : Wd} (hw : okM w) (g : Gd Γ cX12_joins 7 "GatePatchModel" (Option.none : Option Jvm.ClassFile.FieldType) (rmd 3))   : ∀ (l1 l2 l3 : Int) (h : Hp), Sim Γ w 3 (XX12_joins_L2  l1 l2 l3 h) h 2 [(0, vP 143), (1, vI l1), (2, vI l2), (3, vI l3)] [] := by
  refine S_lup3 (fun l1 l2 l3 => [(0, vP 143), (1, vI l1), (2, vI l2), (3, vI l3)]) (fun self2 hs2 l1 l2 l3 h => ?_) FU
  unfold XX12_joins_b2
  refine S_iload_n (kk := 3) g dX12_joins_2 rfl rfl ?_
  refine S_iload_n (kk := 1) g dX12_joins_3 rfl rfl ?_
  refine S_icmp_gt (tgt := 165) g dX12_joins_4 (by decide) ?_ ?_
  · exact S_return g dX12_joins_165 rfl
  · refine S_aload_n (kk := 0) g dX12_joins_7 rfl rfl ?_
    refine S_getr g dX12_joins_8 fl_Mod_166 (at_143 hw) rfl (rc_143_66 hw) ?_
    refine S_iload_n (kk := 3) g dX12_joins_11 rfl rfl ?_
    refine S_iaload g dX12_joins_12 (at_191 hw) ?_
    refine S_iload_n (kk := 2) g dX12_joins_13 rfl rfl ?_
    refine S_iconst g dX12_joins_14 ⟨by decide, by decide⟩ ?_
    refine S_isub g dX12_joins_15 ?_
    refine S_icmp_ne (tgt := 40) g dX12_joins_16 (by decide) ?_ ?_
    · exact sX12_joins_p40 hw g self2 hs2 _ _ _ _
    · refine S_aload_n (kk := 0) g dX12_joins_19 rfl rfl ?_
      refine S_getr g dX12_joins_20 fl_Mod_166 (at_143 hw) rfl (rc_143_66 hw) ?_
      refine S_iload_n (kk := 3) g dX12_joins_23 rfl rfl ?_
      refine S_iload_n (kk := 1) g dX12_joins_24 rfl rfl ?_
      refine S_ixor g dX12_joins_25 ?_
      refine S_iaload g dX12_joins_26 (at_191 hw) ?_
      refine S_iconst g dX12_joins_27 ⟨by decide, by decide⟩ ?_
      refine S_icmp_ne (tgt := 40) g dX12_joins_28 (by decide) ?_ ?_
      · exact sX12_joins_p40 hw g self2 hs2 _ _ _ _
      · refine S_aload_n (kk := 0) g dX12_joins_31 rfl rfl ?_
        refine S_getr g dX12_joins_32 fl_Mod_166 (at_143 hw) rfl (rc_143_66 hw) ?_
        refine S_iload_n (kk := 3) g dX12_joins_35 rfl rfl ?_
        refine S_iload_n (kk := 1) g dX12_joins_36 rfl rfl ?_
        refine S_ixor g dX12_joins_37 ?_
        refine S_iload_n (kk := 2) g dX12_joins_38 rfl rfl ?_
        refine S_iastore g dX12_joins_39 (at_191 hw) (fun h4 => ?_)
        exact sX12_joins_p40 hw g self2 hs2 _ _ _ _

theorem sX12_joins {G : GG} {w : Wd} (hw : okM w) (x0 : Int) (x1 : Int) (h : Hp) : SC G w yX12_joins (Cond.code yX12_joins cX12_joins 7 (Option.none : Option Jvm.ClassFile.FieldType)) 3 3 [vP 143, vI x0, vI x1] (XX12_joins x0 x1 h) h := by
  refine SC_of (own := "GatePatchModel") plain_Mod rfl (Nat.le_of_ble_eq_true rfl) (fun Γ hG g => ?_)
  subst hG
  show Sim Γ w 3 _ h 0 [(0, vP 143), (1, vI x0), (2, vI x1)] []
  unfold XX12_joins
  refine S_iconst g dX12_joins_0 ⟨by decide, by decide⟩ ?_
  refine S_istore_n g dX12_joins_1 rfl (by decide) rfl ?_
  refine S_sub g [1, 2, 3, 0] rfl ?_
  exact sX12_joins_L2 hw g _ _ _ _

def XX12_reckons_b135   (self135 : Int → Int → Int → Hp → OR) (l1 l2 l3 : Int) (h : Hp) : OR :=
  if l2 < l3 then some (0, h) else chk (256 * l1) (chk ((256 * l1) + l3) (inb ((256 * l1) + l3) 1024 (inb l3 256 (hm (wr h 191 l3.toNat (h 193 ((256 * l1) + l3).toNat)) (fun h4 => chk (l3 + 1) (self135 l1 l2 (l3 + 1) h4))))))
def XX12_reckons_L135   (l1 l2 l3 : Int) (h : Hp) : OR := lup3 (XX12_reckons_b135 ) FU l1 l2 l3 h
def XX12_reckons_p133   (l1 l2 : Int) (h : Hp) : OR :=
  XX12_reckons_L135 l1 l2 0 h
def XX12_reckons_b104   (self104 : Int → Int → Int → Hp → OR) (l1 l2 l3 : Int) (h : Hp) : OR :=
  if l2 < l3 then XX12_reckons_p133 l1 l2 h else chk (256 * l1) (chk ((256 * l1) + l3) (inb l3 256 (inb ((256 * l1) + l3) 1024 (hm (wr h 193 ((256 * l1) + l3).toNat (h 191 l3.toNat)) (fun h8 => chk (l3 + 1) (self104 l1 l2 (l3 + 1) h8))))))
def XX12_reckons_L104   (l1 l2 l3 : Int) (h : Hp) : OR := lup3 (XX12_reckons_b104 ) FU l1 l2 l3 h
def XX12_reckons_b82   (self82 : Int → Int → Int → Hp → OR) (l1 l2 l3 : Int) (h : Hp) : OR :=
  cal (XX12_lacks l2 h) (fun r6 h7 => if r6 = 0 then XX12_reckons_L104 l1 l2 0 h7 else cal (XX12_joins l2 l3 h7) (fun r9 h10 => chk (l3 + 1) (self82 l1 l2 (l3 + 1) h10)))
def XX12_reckons_L82   (l1 l2 l3 : Int) (h : Hp) : OR := lup3 (XX12_reckons_b82 ) FU l1 l2 l3 h
def XX12_reckons_b58   (self58 : Int → Int → Int → Hp → OR) (l1 l2 l3 : Int) (h : Hp) : OR :=
  if l1 ≤ l3 then XX12_reckons_L82 l1 l2 1 h else cal (XX12_projection l1 l3 h) (fun r11 h12 => inb r11 256 (hm (wr h12 191 r11.toNat 0) (fun h13 => chk (l3 + 1) (self58 l1 l2 (l3 + 1) h13))))
def XX12_reckons_L58   (l1 l2 l3 : Int) (h : Hp) : OR := lup3 (XX12_reckons_b58 ) FU l1 l2 l3 h
def XX12_reckons_p49  (self25 : Int → Int → Int → Hp → OR) (l1 l2 l3 : Int) (s1 s2 : Int) (h : Hp) : OR :=
  inb s1 256 (hm (wr h 191 s1.toNat s2) (fun h14 => chk (l3 + 1) (self25 l1 l2 (l3 + 1) h14)))
def XX12_reckons_p44  (self25 : Int → Int → Int → Hp → OR) (l1 l2 l3 : Int) (s1 : Int) (h : Hp) : OR :=
  XX12_reckons_p49 self25 l1 l2 l3 s1 0 h
def XX12_reckons_b25   (self25 : Int → Int → Int → Hp → OR) (l1 l2 l3 : Int) (h : Hp) : OR :=
  if l2 < l3 then XX12_reckons_L58 l1 l2 0 h else if l3 = 0 then XX12_reckons_p44 self25 l1 l2 l3 l3 h else if l3 = l2 then XX12_reckons_p44 self25 l1 l2 l3 l3 h else XX12_reckons_p49 self25 l1 l2 l3 l3 (-1) h
def XX12_reckons_L25   (l1 l2 l3 : Int) (h : Hp) : OR := lup3 (XX12_reckons_b25 ) FU l1 l2 l3 h
def XX12_reckons (x0 : Int) (h : Hp) : OR :=
  cal (XX12_functions x0 h) (fun r1 h2 => chk (r1 - 1) (nm (r1 - 1) (fun v3 => inb x0 4 (if (h2 192 x0.toNat) = 0 then inb x0 4 (zb 1 (hm (wr h2 192 x0.toNat 1) (fun h5 => XX12_reckons_L25 x0 v3 0 h5))) else XX12_reckons_p133 x0 v3 h2))))
theorem sX12_reckons_L135 {Γ : Cx} {w : Wd} (hw : okM w) (g : Gd Γ cX12_reckons 4 "GatePatchModel" (Option.none : Option Jvm.ClassFile.FieldType) (rmd 4))   : ∀ (l1 l2 l3 : Int) (h : Hp), Sim Γ w 3 (XX12_reckons_L135  l1 l2 l3 h) h 135 [(0, vP 143), (1, vI l1), (2, vI l2), (3, vI l3)] [] := by
  refine S_lup3 (fun l1 l2 l3 => [(0, vP 143), (1, vI l1), (2, vI l2), (3, vI l3)]) (fun self135 hs135 l1 l2 l3 h => ?_) FU
  unfold XX12_reckons_b135
  refine S_iload_n (kk := 3) g dX12_reckons_135 rfl rfl ?_
  refine S_iload_n (kk := 2) g dX12_reckons_136 rfl rfl ?_
  refine S_icmp_gt (tgt := 164) g dX12_reckons_137 (by decide) ?_ ?_
  · exact S_return g dX12_reckons_164 rfl
  · refine S_aload_n (kk := 0) g dX12_reckons_140 rfl rfl ?_
    refine S_getr g dX12_reckons_141 fl_Mod_166 (at_143 hw) rfl (rc_143_66 hw) ?_
    refine S_iload_n (kk := 3) g dX12_reckons_144 rfl rfl ?_
    refine S_aload_n (kk := 0) g dX12_reckons_145 rfl rfl ?_
    refine S_getr g dX12_reckons_146 fl_Mod_172 (at_143 hw) rfl (rc_143_68 hw) ?_
    refine S_sipush g dX12_reckons_149 ⟨by decide, by decide⟩ rfl ?_
    refine S_iload_n (kk := 1) g dX12_reckons_152 rfl rfl ?_
    refine S_imul g dX12_reckons_153 ?_
    refine S_iload_n (kk := 3) g dX12_reckons_154 rfl rfl ?_
    refine S_iadd g dX12_reckons_155 ?_
    refine S_iaload g dX12_reckons_156 (at_193 hw) ?_
    refine S_iastore g dX12_reckons_157 (at_191 hw) (fun h4 => ?_)
    refine S_iinc (kk := 3) g dX12_reckons_158 rfl (by decide) rfl ?_
    refine S_goto (tgt := 135) g dX12_reckons_161 (by decide) ?_
    refine S_sub g [1, 2, 3, 0] rfl ?_
    exact hs135 _ _ _ _

theorem sX12_reckons_p133 {Γ : Cx} {w : Wd} (hw : okM w) (g : Gd Γ cX12_reckons 4 "GatePatchModel" (Option.none : Option Jvm.ClassFile.FieldType) (rmd 4))   (l1 l2 : Int) (h : Hp) : Sim Γ w 3 (XX12_reckons_p133  l1 l2  h) h 133 [(0, vP 143), (1, vI l1), (2, vI l2)] [] := by
  unfold XX12_reckons_p133
  refine S_iconst g dX12_reckons_133 ⟨by decide, by decide⟩ ?_
  refine S_istore_n g dX12_reckons_134 rfl (by decide) rfl ?_
  refine S_sub g [1, 2, 3, 0] rfl ?_
  exact sX12_reckons_L135 hw g _ _ _ _

theorem sX12_reckons_L104 {Γ : Cx} {w : Wd} (hw : okM w) (g : Gd Γ cX12_reckons 4 "GatePatchModel" (Option.none : Option Jvm.ClassFile.FieldType) (rmd 4))   : ∀ (l1 l2 l3 : Int) (h : Hp), Sim Γ w 3 (XX12_reckons_L104  l1 l2 l3 h) h 104 [(0, vP 143), (1, vI l1), (2, vI l2), (3, vI l3)] [] := by
  refine S_lup3 (fun l1 l2 l3 => [(0, vP 143), (1, vI l1), (2, vI l2), (3, vI l3)]) (fun self104 hs104 l1 l2 l3 h => ?_) FU
  unfold XX12_reckons_b104
  refine S_iload_n (kk := 3) g dX12_reckons_104 rfl rfl ?_
  refine S_iload_n (kk := 2) g dX12_reckons_105 rfl rfl ?_
  refine S_icmp_gt (tgt := 133) g dX12_reckons_106 (by decide) ?_ ?_
  · refine S_sub g [0, 1, 2] rfl ?_
    exact sX12_reckons_p133 hw g _ _ _
  · refine S_aload_n (kk := 0) g dX12_reckons_109 rfl rfl ?_
    refine S_getr g dX12_reckons_110 fl_Mod_172 (at_143 hw) rfl (rc_143_68 hw) ?_
    refine S_sipush g dX12_reckons_113 ⟨by decide, by decide⟩ rfl ?_
    refine S_iload_n (kk := 1) g dX12_reckons_116 rfl rfl ?_
    refine S_imul g dX12_reckons_117 ?_
    refine S_iload_n (kk := 3) g dX12_reckons_118 rfl rfl ?_
    refine S_iadd g dX12_reckons_119 ?_
    refine S_aload_n (kk := 0) g dX12_reckons_120 rfl rfl ?_
    refine S_getr g dX12_reckons_121 fl_Mod_166 (at_143 hw) rfl (rc_143_66 hw) ?_
    refine S_iload_n (kk := 3) g dX12_reckons_124 rfl rfl ?_
    refine S_iaload g dX12_reckons_125 (at_191 hw) ?_
    refine S_iastore g dX12_reckons_126 (at_193 hw) (fun h8 => ?_)
    refine S_iinc (kk := 3) g dX12_reckons_127 rfl (by decide) rfl ?_
    refine S_goto (tgt := 104) g dX12_reckons_130 (by decide) ?_
    refine S_sub g [1, 2, 3, 0] rfl ?_
    exact hs104 _ _ _ _

theorem sX12_reckons_L82 {Γ : Cx} {w : Wd} (hw : okM w) (g : Gd Γ cX12_reckons 4 "GatePatchModel" (Option.none : Option Jvm.ClassFile.FieldType) (rmd 4))   : ∀ (l1 l2 l3 : Int) (h : Hp), Sim Γ w 3 (XX12_reckons_L82  l1 l2 l3 h) h 82 [(0, vP 143), (1, vI l1), (2, vI l2), (3, vI l3)] [] := by
  refine S_lup3 (fun l1 l2 l3 => [(0, vP 143), (1, vI l1), (2, vI l2), (3, vI l3)]) (fun self82 hs82 l1 l2 l3 h => ?_) FU
  unfold XX12_reckons_b82
  refine S_aload_n (kk := 0) g dX12_reckons_82 rfl rfl ?_
  refine S_iload_n (kk := 2) g dX12_reckons_83 rfl rfl ?_
  refine S_callVi (As := [vI l2]) g dX12_reckons_84 (sX12_lacks hw _ _) rfl (at_143 hw) rfl im_X12_lacks se_X12_lacks cw_X12_lacks ml_Mod_365 ini_Mod nd_X12_lacks ⟨by decide, by decide⟩ (Nat.le_of_ble_eq_true rfl) (fun r6 h7 => ?_)
  refine S_if_eq (tgt := 102) g dX12_reckons_87 (by decide) ?_ ?_
  · refine S_iconst g dX12_reckons_102 ⟨by decide, by decide⟩ ?_
    refine S_istore_n g dX12_reckons_103 rfl (by decide) rfl ?_
    refine S_sub g [1, 2, 3, 0] rfl ?_
    exact sX12_reckons_L104 hw g _ _ _ _
  · refine S_aload_n (kk := 0) g dX12_reckons_90 rfl rfl ?_
    refine S_iload_n (kk := 2) g dX12_reckons_91 rfl rfl ?_
    refine S_iload_n (kk := 3) g dX12_reckons_92 rfl rfl ?_
    refine S_callVv (As := [vI l2, vI l3]) g dX12_reckons_93 (sX12_joins hw _ _ _) rfl (at_143 hw) rfl im_X12_joins se_X12_joins cw_X12_joins ml_Mod_368 ini_Mod nd_X12_joins ⟨by decide, by decide⟩ (Nat.le_of_ble_eq_true rfl) (fun r9 h10 => ?_)
    refine S_iinc (kk := 3) g dX12_reckons_96 rfl (by decide) rfl ?_
    refine S_goto (tgt := 82) g dX12_reckons_99 (by decide) ?_
    refine S_sub g [1, 2, 3, 0] rfl ?_
    exact hs82 _ _ _ _

theorem sX12_reckons_L58 {Γ : Cx} {w : Wd} (hw : okM w) (g : Gd Γ cX12_reckons 4 "GatePatchModel" (Option.none : Option Jvm.ClassFile.FieldType) (rmd 4))   : ∀ (l1 l2 l3 : Int) (h : Hp), Sim Γ w 3 (XX12_reckons_L58  l1 l2 l3 h) h 58 [(0, vP 143), (1, vI l1), (2, vI l2), (3, vI l3)] [] := by
  refine S_lup3 (fun l1 l2 l3 => [(0, vP 143), (1, vI l1), (2, vI l2), (3, vI l3)]) (fun self58 hs58 l1 l2 l3 h => ?_) FU
  unfold XX12_reckons_b58
  refine S_iload_n (kk := 3) g dX12_reckons_58 rfl rfl ?_
  refine S_iload_n (kk := 1) g dX12_reckons_59 rfl rfl ?_
  refine S_icmp_ge (tgt := 80) g dX12_reckons_60 (by decide) ?_ ?_
  · refine S_iconst g dX12_reckons_80 ⟨by decide, by decide⟩ ?_
    refine S_istore_n g dX12_reckons_81 rfl (by decide) rfl ?_
    refine S_sub g [1, 2, 3, 0] rfl ?_
    exact sX12_reckons_L82 hw g _ _ _ _
  · refine S_aload_n (kk := 0) g dX12_reckons_63 rfl rfl ?_
    refine S_getr g dX12_reckons_64 fl_Mod_166 (at_143 hw) rfl (rc_143_66 hw) ?_
    refine S_iload_n (kk := 1) g dX12_reckons_67 rfl rfl ?_
    refine S_iload_n (kk := 3) g dX12_reckons_68 rfl rfl ?_
    refine S_callSi (As := [vI l1, vI l3]) g dX12_reckons_69 (sX12_projection hw _ _ _) rfl st_X12_projection cw_X12_projection ml_Mod_362 ini_Mod nd_X12_projection ⟨by decide, by decide⟩ (Nat.le_of_ble_eq_true rfl) (fun r11 h12 => ?_)
    refine S_iconst g dX12_reckons_72 ⟨by decide, by decide⟩ ?_
    refine S_iastore g dX12_reckons_73 (at_191 hw) (fun h13 => ?_)
    refine S_iinc (kk := 3) g dX12_reckons_74 rfl (by decide) rfl ?_
    refine S_goto (tgt := 58) g dX12_reckons_77 (by decide) ?_
    refine S_sub g [1, 2, 3, 0] rfl ?_
    exact hs58 _ _ _ _

theorem sX12_reckons_p49 {Γ : Cx} {w : Wd} (hw : okM w) (g : Gd Γ cX12_reckons 4 "GatePatchModel" (Option.none : Option Jvm.ClassFile.FieldType) (rmd 4))  (self25 : Int → Int → Int → Hp → OR) (hs25 : ∀ (x0 x1 x2 : Int) (h : Hp), Sim Γ w 3 (self25 x0 x1 x2 h) h 25 [(0, vP 143), (1, vI x0), (2, vI x1), (3, vI x2)] []) (l1 l2 l3 : Int) (s1 s2 : Int) (h : Hp) : Sim Γ w 3 (XX12_reckons_p49 self25 l1 l2 l3 s1 s2 h) h 49 [(0, vP 143), (1, vI l1), (2, vI l2), (3, vI l3)] [vI s2, vI s1, vP 191] := by
  unfold XX12_reckons_p49
  refine S_iastore g dX12_reckons_49 (at_191 hw) (fun h14 => ?_)
  refine S_iinc (kk := 3) g dX12_reckons_50 rfl (by decide) rfl ?_
  refine S_goto (tgt := 25) g dX12_reckons_53 (by decide) ?_
  refine S_sub g [1, 2, 3, 0] rfl ?_
  exact hs25 _ _ _ _

theorem sX12_reckons_p44 {Γ : Cx} {w : Wd} (hw : okM w) (g : Gd Γ cX12_reckons 4 "GatePatchModel" (Option.none : Option Jvm.ClassFile.FieldType) (rmd 4))  (self25 : Int → Int → Int → Hp → OR) (hs25 : ∀ (x0 x1 x2 : Int) (h : Hp), Sim Γ w 3 (self25 x0 x1 x2 h) h 25 [(0, vP 143), (1, vI x0), (2, vI x1), (3, vI x2)] []) (l1 l2 l3 : Int) (s1 : Int) (h : Hp) : Sim Γ w 3 (XX12_reckons_p44 self25 l1 l2 l3 s1 h) h 44 [(0, vP 143), (1, vI l1), (2, vI l2), (3, vI l3)] [vI s1, vP 191] := by
  unfold XX12_reckons_p44
  refine S_iconst g dX12_reckons_44 ⟨by decide, by decide⟩ ?_
  refine S_goto (tgt := 49) g dX12_reckons_45 (by decide) ?_
  exact sX12_reckons_p49 hw g self25 hs25 _ _ _ _ _ _

theorem sX12_reckons_L25 {Γ : Cx} {w : Wd} (hw : okM w) (g : Gd Γ cX12_reckons 4 "GatePatchModel" (Option.none : Option Jvm.ClassFile.FieldType) (rmd 4))   : ∀ (l1 l2 l3 : Int) (h : Hp), Sim Γ w 3 (XX12_reckons_L25  l1 l2 l3 h) h 25 [(0, vP 143), (1, vI l1), (2, vI l2), (3, vI l3)] [] := by
  refine S_lup3 (fun l1 l2 l3 => [(0, vP 143), (1, vI l1), (2, vI l2), (3, vI l3)]) (fun self25 hs25 l1 l2 l3 h => ?_) FU
  unfold XX12_reckons_b25
  refine S_iload_n (kk := 3) g dX12_reckons_25 rfl rfl ?_
  refine S_iload_n (kk := 2) g dX12_reckons_26 rfl rfl ?_
  refine S_icmp_gt (tgt := 56) g dX12_reckons_27 (by decide) ?_ ?_
  · refine S_iconst g dX12_reckons_56 ⟨by decide, by decide⟩ ?_
    refine S_istore_n g dX12_reckons_57 rfl (by decide) rfl ?_
    refine S_sub g [1, 2, 3, 0] rfl ?_
    exact sX12_reckons_L58 hw g _ _ _ _
  · refine S_aload_n (kk := 0) g dX12_reckons_30 rfl rfl ?_
    refine S_getr g dX12_reckons_31 fl_Mod_166 (at_143 hw) rfl (rc_143_66 hw) ?_
    refine S_iload_n (kk := 3) g dX12_reckons_34 rfl rfl ?_
    refine S_iload_n (kk := 3) g dX12_reckons_35 rfl rfl ?_
    refine S_if_eq (tgt := 44) g dX12_reckons_36 (by decide) ?_ ?_
    · exact sX12_reckons_p44 hw g self25 hs25 _ _ _ _ _
    · refine S_iload_n (kk := 3) g dX12_reckons_39 rfl rfl ?_
      refine S_iload_n (kk := 2) g dX12_reckons_40 rfl rfl ?_
      refine S_icmp_ne (tgt := 48) g dX12_reckons_41 (by decide) ?_ ?_
      · refine S_iconst g dX12_reckons_48 ⟨by decide, by decide⟩ ?_
        exact sX12_reckons_p49 hw g self25 hs25 _ _ _ _ _ _
      · exact sX12_reckons_p44 hw g self25 hs25 _ _ _ _ _

theorem sX12_reckons {G : GG} {w : Wd} (hw : okM w) (x0 : Int) (h : Hp) : SC G w yX12_reckons (Cond.code yX12_reckons cX12_reckons 4 (Option.none : Option Jvm.ClassFile.FieldType)) 4 3 [vP 143, vI x0] (XX12_reckons x0 h) h := by
  refine SC_of (own := "GatePatchModel") plain_Mod rfl (Nat.le_of_ble_eq_true rfl) (fun Γ hG g => ?_)
  subst hG
  show Sim Γ w 3 _ h 0 [(0, vP 143), (1, vI x0)] []
  unfold XX12_reckons
  refine S_iload_n (kk := 1) g dX12_reckons_0 rfl rfl ?_
  refine S_callSi (As := [vI x0]) g dX12_reckons_1 (sX12_functions hw _ _) rfl st_X12_functions cw_X12_functions ml_Mod_359 ini_Mod nd_X12_functions ⟨by decide, by decide⟩ (Nat.le_of_ble_eq_true rfl) (fun r1 h2 => ?_)
  refine S_iconst g dX12_reckons_4 ⟨by decide, by decide⟩ ?_
  refine S_isub g dX12_reckons_5 ?_
  refine S_nmI (fun v3 => ?_)
  refine S_istore_n g dX12_reckons_6 rfl (by decide) rfl ?_
  refine S_aload_n (kk := 1) g dX12_reckons_7 rfl rfl ?_
  refine S_getr g dX12_reckons_8 fl_Mod_169 (at_143 hw) rfl (rc_143_67 hw) ?_
  refine S_iload_n (kk := 2) g dX12_reckons_11 rfl rfl ?_
  refine S_zaload g dX12_reckons_12 (at_192 hw) ?_
  refine S_if_ne (tgt := 133) g dX12_reckons_13 (by decide) ?_ ?_
  · refine S_sub g [1, 2, 0] rfl ?_
    exact sX12_reckons_p133 hw g _ _ _
  · refine S_aload_n (kk := 1) g dX12_reckons_16 rfl rfl ?_
    refine S_getr g dX12_reckons_17 fl_Mod_169 (at_143 hw) rfl (rc_143_67 hw) ?_
    refine S_iload_n (kk := 2) g dX12_reckons_20 rfl rfl ?_
    refine S_iconst g dX12_reckons_21 ⟨by decide, by decide⟩ ?_
    refine S_zastore g dX12_reckons_22 (at_192 hw) (fun h5 => ?_)
    refine S_iconst g dX12_reckons_23 ⟨by decide, by decide⟩ ?_
    refine S_istore_n g dX12_reckons_24 rfl (by decide) rfl ?_
    refine S_sub g [2, 3, 1, 0] rfl ?_
    exact sX12_reckons_L25 hw g _ _ _ _

def XX12_grows (x0 : Int) (x1 : Int) (x2 : Int) (x3 : Int) (h : Hp) : OR :=
  inb (h 143 27) 24 (hm (wr h 162 (h 143 27).toNat x0) (fun h1 => inb (h1 143 27) 24 (hm (wr h1 163 (h1 143 27).toNat x1) (fun h2 => inb (h2 143 27) 24 (hm (wr h2 164 (h2 143 27).toNat x2) (fun h3 => inb (h3 143 27) 24 (hm (wr h3 165 (h3 143 27).toNat x3) (fun h4 => inb (h4 143 27) 24 (hm (wr h4 166 (h4 143 27).toNat (-2)) (fun h5 => chk ((h5 143 27) + 1) (hm (wr h5 143 27 ((h5 143 27) + 1)) (fun h6 => chk ((h6 143 27) - 1) (some (((h6 143 27) - 1), h6))))))))))))))
theorem sX12_grows {G : GG} {w : Wd} (hw : okM w) (x0 : Int) (x1 : Int) (x2 : Int) (x3 : Int) (h : Hp) : SC G w yX12_grows (Cond.code yX12_grows cX12_grows 5 (Option.some Jvm.ClassFile.FieldType.int)) 1 0 [vP 143, vI x0, vI x1, vI x2, vI x3] (XX12_grows x0 x1 x2 x3 h) h := by
  refine SC_of (own := "GatePatchModel") plain_Mod rfl (Nat.le_of_ble_eq_true rfl) (fun Γ hG g => ?_)
  subst hG
  show Sim Γ w 0 _ h 0 [(0, vP 143), (1, vI x0), (2, vI x1), (3, vI x2), (4, vI x3)] []
  unfold XX12_grows
  refine S_aload_n (kk := 0) g dX12_grows_0 rfl rfl ?_
  refine S_getr g dX12_grows_1 fl_Mod_78 (at_143 hw) rfl (rc_143_31 hw) ?_
  refine S_aload_n (kk := 0) g dX12_grows_4 rfl rfl ?_
  refine S_geti g dX12_grows_5 fl_Mod_381 (at_143 hw) (Or.inl rfl) ?_
  refine S_iload_n (kk := 1) g dX12_grows_8 rfl rfl ?_
  refine S_iastore g dX12_grows_9 (at_162 hw) (fun h1 => ?_)
  refine S_aload_n (kk := 0) g dX12_grows_10 rfl rfl ?_
  refine S_getr g dX12_grows_11 fl_Mod_81 (at_143 hw) rfl (rc_143_32 hw) ?_
  refine S_aload_n (kk := 0) g dX12_grows_14 rfl rfl ?_
  refine S_geti g dX12_grows_15 fl_Mod_381 (at_143 hw) (Or.inl rfl) ?_
  refine S_iload_n (kk := 2) g dX12_grows_18 rfl rfl ?_
  refine S_iastore g dX12_grows_19 (at_163 hw) (fun h2 => ?_)
  refine S_aload_n (kk := 0) g dX12_grows_20 rfl rfl ?_
  refine S_getr g dX12_grows_21 fl_Mod_84 (at_143 hw) rfl (rc_143_33 hw) ?_
  refine S_aload_n (kk := 0) g dX12_grows_24 rfl rfl ?_
  refine S_geti g dX12_grows_25 fl_Mod_381 (at_143 hw) (Or.inl rfl) ?_
  refine S_iload_n (kk := 3) g dX12_grows_28 rfl rfl ?_
  refine S_iastore g dX12_grows_29 (at_164 hw) (fun h3 => ?_)
  refine S_aload_n (kk := 0) g dX12_grows_30 rfl rfl ?_
  refine S_getr g dX12_grows_31 fl_Mod_87 (at_143 hw) rfl (rc_143_34 hw) ?_
  refine S_aload_n (kk := 0) g dX12_grows_34 rfl rfl ?_
  refine S_geti g dX12_grows_35 fl_Mod_381 (at_143 hw) (Or.inl rfl) ?_
  refine S_iload (kk := 4) g dX12_grows_38 rfl ?_
  refine S_iastore g dX12_grows_40 (at_165 hw) (fun h4 => ?_)
  refine S_aload_n (kk := 0) g dX12_grows_41 rfl rfl ?_
  refine S_getr g dX12_grows_42 fl_Mod_90 (at_143 hw) rfl (rc_143_35 hw) ?_
  refine S_aload_n (kk := 0) g dX12_grows_45 rfl rfl ?_
  refine S_geti g dX12_grows_46 fl_Mod_381 (at_143 hw) (Or.inl rfl) ?_
  refine S_bipush g dX12_grows_49 ⟨by decide, by decide⟩ rfl ?_
  refine S_iastore g dX12_grows_51 (at_166 hw) (fun h5 => ?_)
  refine S_aload_n (kk := 0) g dX12_grows_52 rfl rfl ?_
  refine S_dup g dX12_grows_53 rfl ?_
  refine S_geti g dX12_grows_54 fl_Mod_381 (at_143 hw) (Or.inl rfl) ?_
  refine S_iconst g dX12_grows_57 ⟨by decide, by decide⟩ ?_
  refine S_iadd g dX12_grows_58 ?_
  refine S_puti g dX12_grows_59 fp_Mod_381 (at_143 hw) rfl (fun h6 => ?_)
  refine S_aload_n (kk := 0) g dX12_grows_62 rfl rfl ?_
  refine S_geti g dX12_grows_63 fl_Mod_381 (at_143 hw) (Or.inl rfl) ?_
  refine S_iconst g dX12_grows_66 ⟨by decide, by decide⟩ ?_
  refine S_isub g dX12_grows_67 ?_
  exact S_ireturn g dX12_grows_68 rfl

def XX12_trees_p18 (rec : Int → Int → Int → Hp → OR)   (l2 : Int) (h : Hp) : OR :=
  if l2 = 0 then some (200, h) else some (201, h)
def XX12_trees_p204 (rec : Int → Int → Int → Hp → OR)  (self105 : Int → Int → Int → Int → Int → Hp → OR) (self114 : Int → Int → Int → Int → Int → Int → Hp → OR) (self124 : Int → Int → Int → Int → Int → Int → Int → Hp → OR) (l1 l2 l3 l4 l5 l6 l7 : Int) (h : Hp) : OR :=
  chk (l7 + 1) (self124 l1 l2 l3 l4 l5 l6 (l7 + 1) h)
def XX12_trees_b124 (rec : Int → Int → Int → Hp → OR)  (self105 : Int → Int → Int → Int → Int → Hp → OR) (self114 : Int → Int → Int → Int → Int → Int → Hp → OR) (self124 : Int → Int → Int → Int → Int → Int → Int → Hp → OR) (l1 l2 l3 l4 l5 l6 l7 : Int) (h : Hp) : OR :=
  if l4 < l7 then chk (l6 + 1) (self114 l1 l2 l3 l4 l5 (l6 + 1) h) else inb l6 256 (inb l7 256 (chk ((h 191 l6.toNat) + (h 191 l7.toNat)) (inb l2 256 (chk ((h 191 l2.toNat) - 1) (if ((h 191 l6.toNat) + (h 191 l7.toNat)) = ((h 191 l2.toNat) - 1) then cal (XX12_joined l5 l4 l6 l7 h) (fun r4 h5 => if r4 = l2 then cal (rec l1 l6 l3 h5) (fun r6 h7 => cal (rec l1 l7 l3 h7) (fun r8 h9 => cal (XX12_grows l5 r6 r8 l3 h9) (fun r10 h11 => some (r10, h11)))) else XX12_trees_p204 rec self105 self114 self124 l1 l2 l3 l4 l5 l6 l7 h5) else XX12_trees_p204 rec self105 self114 self124 l1 l2 l3 l4 l5 l6 l7 h)))))
def XX12_trees_L124 (rec : Int → Int → Int → Hp → OR)  (self105 : Int → Int → Int → Int → Int → Hp → OR) (self114 : Int → Int → Int → Int → Int → Int → Hp → OR) (l1 l2 l3 l4 l5 l6 l7 : Int) (h : Hp) : OR := lup7 (XX12_trees_b124 rec self105 self114) FU l1 l2 l3 l4 l5 l6 l7 h
def XX12_trees_b114 (rec : Int → Int → Int → Hp → OR)  (self105 : Int → Int → Int → Int → Int → Hp → OR) (self114 : Int → Int → Int → Int → Int → Int → Hp → OR) (l1 l2 l3 l4 l5 l6 : Int) (h : Hp) : OR :=
  if l4 < l6 then chk (l5 + 1) (self105 l1 l2 l3 l4 (l5 + 1) h) else XX12_trees_L124 rec self105 self114 l1 l2 l3 l4 l5 l6 0 h
def XX12_trees_L114 (rec : Int → Int → Int → Hp → OR)  (self105 : Int → Int → Int → Int → Int → Hp → OR) (l1 l2 l3 l4 l5 l6 : Int) (h : Hp) : OR := lup6 (XX12_trees_b114 rec self105) FU l1 l2 l3 l4 l5 l6 h
def XX12_trees_b105 (rec : Int → Int → Int → Hp → OR)   (self105 : Int → Int → Int → Int → Int → Hp → OR) (l1 l2 l3 l4 l5 : Int) (h : Hp) : OR :=
  if 5 < l5 then some ((-1), h) else XX12_trees_L114 rec self105 l1 l2 l3 l4 l5 0 h
def XX12_trees_L105 (rec : Int → Int → Int → Hp → OR)   (l1 l2 l3 l4 l5 : Int) (h : Hp) : OR := lup5 (XX12_trees_b105 rec ) FU l1 l2 l3 l4 l5 h
def XX12_trees_b35 (rec : Int → Int → Int → Hp → OR)   (self35 : Int → Int → Int → Int → Int → Hp → OR) (l1 l2 l3 l4 l5 : Int) (h : Hp) : OR :=
  if l1 ≤ l5 then inb (axor l2 l4) 256 (inb l2 256 (chk ((h 191 l2.toNat) - 1) (if (h 191 (axor l2 l4).toNat) = ((h 191 l2.toNat) - 1) then cal (rec l1 (axor l2 l4) l3 h) (fun r12 h13 => cal (XX12_grows 0 r12 (-2) l3 h13) (fun r14 h15 => some (r14, h15))) else XX12_trees_L105 rec l1 l2 l3 l4 1 h))) else cal (XX12_projection l1 l5 h) (fun r16 h17 => if r16 = l2 then chk (100 + l5) (some ((100 + l5), h17)) else chk (l5 + 1) (self35 l1 l2 l3 l4 (l5 + 1) h17))
def XX12_trees_L35 (rec : Int → Int → Int → Hp → OR)   (l1 l2 l3 l4 l5 : Int) (h : Hp) : OR := lup5 (XX12_trees_b35 rec ) FU l1 l2 l3 l4 l5 h
def XX12_trees_r (rec : Int → Int → Int → Hp → OR) (x0 : Int) (x1 : Int) (x2 : Int) (h : Hp) : OR :=
  cal (XX12_functions x0 h) (fun r1 h2 => chk (r1 - 1) (nm (r1 - 1) (fun v3 => if x1 = 0 then XX12_trees_p18 rec x1 h2 else if x1 = v3 then XX12_trees_p18 rec x1 h2 else XX12_trees_L35 rec x0 x1 x2 v3 0 h2)))
def XX12_trees : Nat → Int → Int → Int → Hp → OR
  | 0 => fun _ _ _ _ => none
  | n + 1 => XX12_trees_r (XX12_trees n)
theorem sX12_trees_p18 {Γ : Cx} {w : Wd} (hw : okM w) {dq : Nat} (rec : Int → Int → Int → Hp → OR) (hrec : ∀ (z0 z1 z2 : Int) (h : Hp), SC Γ.1 w yX12_trees (Cond.code yX12_trees cX12_trees 10 (Option.some Jvm.ClassFile.FieldType.int)) dq 0 [vP 143, vI z0, vI z1, vI z2] (rec z0 z1 z2 h) h) {dr : Nat} (hdr : dq < dr) (hlow : 3 < dr) (g : Gd Γ cX12_trees 10 "GatePatchModel" (Option.some Jvm.ClassFile.FieldType.int) (rmd dr))   (l2 : Int) (h : Hp) : Sim Γ w 0 (XX12_trees_p18 rec  l2  h) h 18 [(2, vI l2)] [] := by
  unfold XX12_trees_p18
  refine S_iload_n (kk := 0) g dX12_trees_18 rfl rfl ?_
  refine S_if_ne (tgt := 28) g dX12_trees_19 (by decide) ?_ ?_
  · refine S_sipush g dX12_trees_28 ⟨by decide, by decide⟩ rfl ?_
    exact S_ireturn g dX12_trees_31 rfl
  · refine S_sipush g dX12_trees_22 ⟨by decide, by decide⟩ rfl ?_
    refine S_goto (tgt := 31) g dX12_trees_25 (by decide) ?_
    exact S_ireturn g dX12_trees_31 rfl

theorem sX12_trees_p204 {Γ : Cx} {w : Wd} (hw : okM w) {dq : Nat} (rec : Int → Int → Int → Hp → OR) (hrec : ∀ (z0 z1 z2 : Int) (h : Hp), SC Γ.1 w yX12_trees (Cond.code yX12_trees cX12_trees 10 (Option.some Jvm.ClassFile.FieldType.int)) dq 0 [vP 143, vI z0, vI z1, vI z2] (rec z0 z1 z2 h) h) {dr : Nat} (hdr : dq < dr) (hlow : 3 < dr) (g : Gd Γ cX12_trees 10 "GatePatchModel" (Option.some Jvm.ClassFile.FieldType.int) (rmd dr))  (self105 : Int → Int → Int → Int → Int → Hp → OR) (hs105 : ∀ (x0 x1 x2 x3 x4 : Int) (h : Hp), Sim Γ w 0 (self105 x0 x1 x2 x3 x4 h) h 105 [(0, vP 143), (1, vI x0), (2, vI x1), (3, vI x2), (4, vI x3), (5, vI x4)] []) (self114 : Int → Int → Int → Int → Int → Int → Hp → OR) (hs114 : ∀ (x0 x1 x2 x3 x4 x5 : Int) (h : Hp), Sim Γ w 0 (self114 x0 x1 x2 x3 x4 x5 h) h 114 [(0, vP 143), (1, vI x0), (2, vI x1), (3, vI x2), (4, vI x3), (5, vI x4), (6, vI x5)] []) (self124 : Int → Int → Int → Int → Int → Int → Int → Hp → OR) (hs124 : ∀ (x0 x1 x2 x3 x4 x5 x6 : Int) (h : Hp), Sim Γ w 0 (self124 x0 x1 x2 x3 x4 x5 x6 h) h 124 [(0, vP 143), (1, vI x0), (2, vI x1), (3, vI x2), (4, vI x3), (5, vI x4), (6, vI x5), (7, vI x6)] []) (l1 l2 l3 l4 l5 l6 l7 : Int) (h : Hp) : Sim Γ w 0 (XX12_trees_p204 rec self105 self114 self124 l1 l2 l3 l4 l5 l6 l7  h) h 204 [(0, vP 143), (1, vI l1), (2, vI l2), (3, vI l3), (4, vI l4), (5, vI l5), (6, vI l6), (7, vI l7)] [] := by
  unfold XX12_trees_p204
  refine S_iinc (kk := 7) g dX12_trees_204 rfl (by decide) rfl ?_
  refine S_goto (tgt := 124) g dX12_trees_207 (by decide) ?_
  refine S_sub g [1, 2, 3, 4, 5, 6, 7, 0] rfl ?_
  exact hs124 _ _ _ _ _ _ _ _

theorem sX12_trees_L124 {Γ : Cx} {w : Wd} (hw : okM w) {dq : Nat} (rec : Int → Int → Int → Hp → OR) (hrec : ∀ (z0 z1 z2 : Int) (h : Hp), SC Γ.1 w yX12_trees (Cond.code yX12_trees cX12_trees 10 (Option.some Jvm.ClassFile.FieldType.int)) dq 0 [vP 143, vI z0, vI z1, vI z2] (rec z0 z1 z2 h) h) {dr : Nat} (hdr : dq < dr) (hlow : 3 < dr) (g : Gd Γ cX12_trees 10 "GatePatchModel" (Option.some Jvm.ClassFile.FieldType.int) (rmd dr))  (self105 : Int → Int → Int → Int → Int → Hp → OR) (hs105 : ∀ (x0 x1 x2 x3 x4 : Int) (h : Hp), Sim Γ w 0 (self105 x0 x1 x2 x3 x4 h) h 105 [(0, vP 143), (1, vI x0), (2, vI x1), (3, vI x2), (4, vI x3), (5, vI x4)] []) (self114 : Int → Int → Int → Int → Int → Int → Hp → OR) (hs114 : ∀ (x0 x1 x2 x3 x4 x5 : Int) (h : Hp), Sim Γ w 0 (self114 x0 x1 x2 x3 x4 x5 h) h 114 [(0, vP 143), (1, vI x0), (2, vI x1), (3, vI x2), (4, vI x3), (5, vI x4), (6, vI x5)] []) : ∀ (l1 l2 l3 l4 l5 l6 l7 : Int) (h : Hp), Sim Γ w 0 (XX12_trees_L124 rec self105 self114 l1 l2 l3 l4 l5 l6 l7 h) h 124 [(0, vP 143), (1, vI l1), (2, vI l2), (3, vI l3), (4, vI l4), (5, vI l5), (6, vI l6), (7, vI l7)] [] := by
  refine S_lup7 (fun l1 l2 l3 l4 l5 l6 l7 => [(0, vP 143), (1, vI l1), (2, vI l2), (3, vI l3), (4, vI l4), (5, vI l5), (6, vI l6), (7, vI l7)]) (fun self124 hs124 l1 l2 l3 l4 l5 l6 l7 h => ?_) FU
  unfold XX12_trees_b124
  refine S_iload (kk := 7) g dX12_trees_124 rfl ?_
  refine S_iload (kk := 4) g dX12_trees_126 rfl ?_
  refine S_icmp_gt (tgt := 210) g dX12_trees_128 (by decide) ?_ ?_
  · refine S_iinc (kk := 6) g dX12_trees_210 rfl (by decide) rfl ?_
    refine S_goto (tgt := 114) g dX12_trees_213 (by decide) ?_
    refine S_sub g [1, 2, 3, 4, 5, 6, 0] rfl ?_
    exact hs114 _ _ _ _ _ _ _
  · refine S_aload_n (kk := 0) g dX12_trees_131 rfl rfl ?_
    refine S_getr g dX12_trees_132 fl_Mod_166 (at_143 hw) rfl (rc_143_66 hw) ?_
    refine S_iload (kk := 6) g dX12_trees_135 rfl ?_
    refine S_iaload g dX12_trees_137 (at_191 hw) ?_
    refine S_aload_n (kk := 0) g dX12_trees_138 rfl rfl ?_
    refine S_getr g dX12_trees_139 fl_Mod_166 (at_143 hw) rfl (rc_143_66 hw) ?_
    refine S_iload (kk := 7) g dX12_trees_142 rfl ?_
    refine S_iaload g dX12_trees_144 (at_191 hw) ?_
    refine S_iadd g dX12_trees_145 ?_
    refine S_aload_n (kk := 0) g dX12_trees_146 rfl rfl ?_
    refine S_getr g dX12_trees_147 fl_Mod_166 (at_143 hw) rfl (rc_143_66 hw) ?_
    refine S_iload_n (kk := 2) g dX12_trees_150 rfl rfl ?_
    refine S_iaload g dX12_trees_151 (at_191 hw) ?_
    refine S_iconst g dX12_trees_152 ⟨by decide, by decide⟩ ?_
    refine S_isub g dX12_trees_153 ?_
    refine S_icmp_ne (tgt := 204) g dX12_trees_154 (by decide) ?_ ?_
    · exact sX12_trees_p204 hw rec hrec hdr hlow g self105 hs105 self114 hs114 self124 hs124 _ _ _ _ _ _ _ _
    · refine S_iload (kk := 5) g dX12_trees_157 rfl ?_
      refine S_iload (kk := 4) g dX12_trees_159 rfl ?_
      refine S_iload (kk := 6) g dX12_trees_161 rfl ?_
      refine S_iload (kk := 7) g dX12_trees_163 rfl ?_
      refine S_callSi (As := [vI l5, vI l4, vI l6, vI l7]) g dX12_trees_165 (sX12_joined hw _ _ _ _ _) rfl st_X12_joined cw_X12_joined ml_Mod_371 ini_Mod nd_X12_joined ⟨Nat.lt_trans (m := 3) (by decide) hlow, by decide⟩ (Nat.le_of_ble_eq_true rfl) (fun r4 h5 => ?_)
      refine S_iload_n (kk := 2) g dX12_trees_168 rfl rfl ?_
      refine S_icmp_ne (tgt := 204) g dX12_trees_169 (by decide) ?_ ?_
      · exact sX12_trees_p204 hw rec hrec hdr hlow g self105 hs105 self114 hs114 self124 hs124 _ _ _ _ _ _ _ _
      · refine S_aload_n (kk := 0) g dX12_trees_172 rfl rfl ?_
        refine S_iload_n (kk := 1) g dX12_trees_173 rfl rfl ?_
        refine S_iload (kk := 6) g dX12_trees_174 rfl ?_
        refine S_iload_n (kk := 3) g dX12_trees_176 rfl rfl ?_
        refine S_callVi (As := [vI l1, vI l6, vI l3]) g dX12_trees_177 (hrec _ _ _ _) rfl (at_143 hw) rfl im_X12_trees se_X12_trees cw_X12_trees ml_Mod_375 ini_Mod nd_X12_trees ⟨hdr, by decide⟩ (Nat.le_of_ble_eq_true rfl) (fun r6 h7 => ?_)
        refine S_istore g dX12_trees_180 (by decide) rfl ?_
        refine S_aload_n (kk := 1) g dX12_trees_182 rfl rfl ?_
        refine S_iload_n (kk := 2) g dX12_trees_183 rfl rfl ?_
        refine S_iload (kk := 8) g dX12_trees_184 rfl ?_
        refine S_iload_n (kk := 4) g dX12_trees_186 rfl rfl ?_
        refine S_callVi (As := [vI l1, vI l7, vI l3]) g dX12_trees_187 (hrec _ _ _ _) rfl (at_143 hw) rfl im_X12_trees se_X12_trees cw_X12_trees ml_Mod_375 ini_Mod nd_X12_trees ⟨hdr, by decide⟩ (Nat.le_of_ble_eq_true rfl) (fun r8 h9 => ?_)
        refine S_istore g dX12_trees_190 (by decide) rfl ?_
        refine S_aload_n (kk := 2) g dX12_trees_192 rfl rfl ?_
        refine S_iload (kk := 7) g dX12_trees_193 rfl ?_
        refine S_iload (kk := 1) g dX12_trees_195 rfl ?_
        refine S_iload (kk := 0) g dX12_trees_197 rfl ?_
        refine S_iload_n (kk := 5) g dX12_trees_199 rfl rfl ?_
        refine S_callVi (As := [vI l5, vI r6, vI r8, vI l3]) g dX12_trees_200 (sX12_grows hw _ _ _ _ _) rfl (at_143 hw) rfl im_X12_grows se_X12_grows cw_X12_grows ml_Mod_378 ini_Mod nd_X12_grows ⟨Nat.lt_trans (m := 3) (by decide) hlow, by decide⟩ (Nat.le_of_ble_eq_true rfl) (fun r10 h11 => ?_)
        exact S_ireturn g dX12_trees_203 rfl

theorem sX12_trees_L114 {Γ : Cx} {w : Wd} (hw : okM w) {dq : Nat} (rec : Int → Int → Int → Hp → OR) (hrec : ∀ (z0 z1 z2 : Int) (h : Hp), SC Γ.1 w yX12_trees (Cond.code yX12_trees cX12_trees 10 (Option.some Jvm.ClassFile.FieldType.int)) dq 0 [vP 143, vI z0, vI z1, vI z2] (rec z0 z1 z2 h) h) {dr : Nat} (hdr : dq < dr) (hlow : 3 < dr) (g : Gd Γ cX12_trees 10 "GatePatchModel" (Option.some Jvm.ClassFile.FieldType.int) (rmd dr))  (self105 : Int → Int → Int → Int → Int → Hp → OR) (hs105 : ∀ (x0 x1 x2 x3 x4 : Int) (h : Hp), Sim Γ w 0 (self105 x0 x1 x2 x3 x4 h) h 105 [(0, vP 143), (1, vI x0), (2, vI x1), (3, vI x2), (4, vI x3), (5, vI x4)] []) : ∀ (l1 l2 l3 l4 l5 l6 : Int) (h : Hp), Sim Γ w 0 (XX12_trees_L114 rec self105 l1 l2 l3 l4 l5 l6 h) h 114 [(0, vP 143), (1, vI l1), (2, vI l2), (3, vI l3), (4, vI l4), (5, vI l5), (6, vI l6)] [] := by
  refine S_lup6 (fun l1 l2 l3 l4 l5 l6 => [(0, vP 143), (1, vI l1), (2, vI l2), (3, vI l3), (4, vI l4), (5, vI l5), (6, vI l6)]) (fun self114 hs114 l1 l2 l3 l4 l5 l6 h => ?_) FU
  unfold XX12_trees_b114
  refine S_iload (kk := 6) g dX12_trees_114 rfl ?_
  refine S_iload (kk := 4) g dX12_trees_116 rfl ?_
  refine S_icmp_gt (tgt := 216) g dX12_trees_118 (by decide) ?_ ?_
  · refine S_iinc (kk := 5) g dX12_trees_216 rfl (by decide) rfl ?_
    refine S_goto (tgt := 105) g dX12_trees_219 (by decide) ?_
    refine S_sub g [1, 2, 3, 4, 5, 0] rfl ?_
    exact hs105 _ _ _ _ _ _
  · refine S_iconst g dX12_trees_121 ⟨by decide, by decide⟩ ?_
    refine S_istore g dX12_trees_122 (by decide) rfl ?_
    refine S_sub g [1, 2, 3, 4, 5, 6, 7, 0] rfl ?_
    exact sX12_trees_L124 hw rec hrec hdr hlow g self105 hs105 self114 hs114 _ _ _ _ _ _ _ _

theorem sX12_trees_L105 {Γ : Cx} {w : Wd} (hw : okM w) {dq : Nat} (rec : Int → Int → Int → Hp → OR) (hrec : ∀ (z0 z1 z2 : Int) (h : Hp), SC Γ.1 w yX12_trees (Cond.code yX12_trees cX12_trees 10 (Option.some Jvm.ClassFile.FieldType.int)) dq 0 [vP 143, vI z0, vI z1, vI z2] (rec z0 z1 z2 h) h) {dr : Nat} (hdr : dq < dr) (hlow : 3 < dr) (g : Gd Γ cX12_trees 10 "GatePatchModel" (Option.some Jvm.ClassFile.FieldType.int) (rmd dr))   : ∀ (l1 l2 l3 l4 l5 : Int) (h : Hp), Sim Γ w 0 (XX12_trees_L105 rec  l1 l2 l3 l4 l5 h) h 105 [(0, vP 143), (1, vI l1), (2, vI l2), (3, vI l3), (4, vI l4), (5, vI l5)] [] := by
  refine S_lup5 (fun l1 l2 l3 l4 l5 => [(0, vP 143), (1, vI l1), (2, vI l2), (3, vI l3), (4, vI l4), (5, vI l5)]) (fun self105 hs105 l1 l2 l3 l4 l5 h => ?_) FU
  unfold XX12_trees_b105
  refine S_iload (kk := 5) g dX12_trees_105 rfl ?_
  refine S_iconst g dX12_trees_107 ⟨by decide, by decide⟩ ?_
  refine S_icmp_gt (tgt := 222) g dX12_trees_108 (by decide) ?_ ?_
  · refine S_iconst g dX12_trees_222 ⟨by decide, by decide⟩ ?_
    exact S_ireturn g dX12_trees_223 rfl
  · refine S_iconst g dX12_trees_111 ⟨by decide, by decide⟩ ?_
    refine S_istore g dX12_trees_112 (by decide) rfl ?_
    refine S_sub g [1, 2, 3, 4, 5, 6, 0] rfl ?_
    exact sX12_trees_L114 hw rec hrec hdr hlow g self105 hs105 _ _ _ _ _ _ _

theorem sX12_trees_L35 {Γ : Cx} {w : Wd} (hw : okM w) {dq : Nat} (rec : Int → Int → Int → Hp → OR) (hrec : ∀ (z0 z1 z2 : Int) (h : Hp), SC Γ.1 w yX12_trees (Cond.code yX12_trees cX12_trees 10 (Option.some Jvm.ClassFile.FieldType.int)) dq 0 [vP 143, vI z0, vI z1, vI z2] (rec z0 z1 z2 h) h) {dr : Nat} (hdr : dq < dr) (hlow : 3 < dr) (g : Gd Γ cX12_trees 10 "GatePatchModel" (Option.some Jvm.ClassFile.FieldType.int) (rmd dr))   : ∀ (l1 l2 l3 l4 l5 : Int) (h : Hp), Sim Γ w 0 (XX12_trees_L35 rec  l1 l2 l3 l4 l5 h) h 35 [(0, vP 143), (1, vI l1), (2, vI l2), (3, vI l3), (4, vI l4), (5, vI l5)] [] := by
  refine S_lup5 (fun l1 l2 l3 l4 l5 => [(0, vP 143), (1, vI l1), (2, vI l2), (3, vI l3), (4, vI l4), (5, vI l5)]) (fun self35 hs35 l1 l2 l3 l4 l5 h => ?_) FU
  unfold XX12_trees_b35
  refine S_iload (kk := 5) g dX12_trees_35 rfl ?_
  refine S_iload_n (kk := 1) g dX12_trees_37 rfl rfl ?_
  refine S_icmp_ge (tgt := 63) g dX12_trees_38 (by decide) ?_ ?_
  · refine S_aload_n (kk := 0) g dX12_trees_63 rfl rfl ?_
    refine S_getr g dX12_trees_64 fl_Mod_166 (at_143 hw) rfl (rc_143_66 hw) ?_
    refine S_iload_n (kk := 2) g dX12_trees_67 rfl rfl ?_
    refine S_iload (kk := 4) g dX12_trees_68 rfl ?_
    refine S_ixor g dX12_trees_70 ?_
    refine S_iaload g dX12_trees_71 (at_191 hw) ?_
    refine S_aload_n (kk := 0) g dX12_trees_72 rfl rfl ?_
    refine S_getr g dX12_trees_73 fl_Mod_166 (at_143 hw) rfl (rc_143_66 hw) ?_
    refine S_iload_n (kk := 2) g dX12_trees_76 rfl rfl ?_
    refine S_iaload g dX12_trees_77 (at_191 hw) ?_
    refine S_iconst g dX12_trees_78 ⟨by decide, by decide⟩ ?_
    refine S_isub g dX12_trees_79 ?_
    refine S_icmp_ne (tgt := 102) g dX12_trees_80 (by decide) ?_ ?_
    · refine S_iconst g dX12_trees_102 ⟨by decide, by decide⟩ ?_
      refine S_istore g dX12_trees_103 (by decide) rfl ?_
      refine S_sub g [1, 2, 3, 4, 5, 0] rfl ?_
      exact sX12_trees_L105 hw rec hrec hdr hlow g _ _ _ _ _ _
    · refine S_aload_n (kk := 0) g dX12_trees_83 rfl rfl ?_
      refine S_iconst g dX12_trees_84 ⟨by decide, by decide⟩ ?_
      refine S_aload_n (kk := 0) g dX12_trees_85 rfl rfl ?_
      refine S_iload_n (kk := 1) g dX12_trees_86 rfl rfl ?_
      refine S_iload_n (kk := 2) g dX12_trees_87 rfl rfl ?_
      refine S_iload (kk := 4) g dX12_trees_88 rfl ?_
      refine S_ixor g dX12_trees_90 ?_
      refine S_iload_n (kk := 3) g dX12_trees_91 rfl rfl ?_
      refine S_callVi (As := [vI l1, vI (axor l2 l4), vI l3]) g dX12_trees_92 (hrec _ _ _ _) rfl (at_143 hw) rfl im_X12_trees se_X12_trees cw_X12_trees ml_Mod_375 ini_Mod nd_X12_trees ⟨hdr, by decide⟩ (Nat.le_of_ble_eq_true rfl) (fun r12 h13 => ?_)
      refine S_bipush g dX12_trees_95 ⟨by decide, by decide⟩ rfl ?_
      refine S_iload_n (kk := 3) g dX12_trees_97 rfl rfl ?_
      refine S_callVi (As := [vI 0, vI r12, vI (-2), vI l3]) g dX12_trees_98 (sX12_grows hw _ _ _ _ _) rfl (at_143 hw) rfl im_X12_grows se_X12_grows cw_X12_grows ml_Mod_378 ini_Mod nd_X12_grows ⟨Nat.lt_trans (m := 3) (by decide) hlow, by decide⟩ (Nat.le_of_ble_eq_true rfl) (fun r14 h15 => ?_)
      exact S_ireturn g dX12_trees_101 rfl
  · refine S_iload_n (kk := 1) g dX12_trees_41 rfl rfl ?_
    refine S_iload (kk := 5) g dX12_trees_42 rfl ?_
    refine S_callSi (As := [vI l1, vI l5]) g dX12_trees_44 (sX12_projection hw _ _ _) rfl st_X12_projection cw_X12_projection ml_Mod_362 ini_Mod nd_X12_projection ⟨Nat.lt_trans (m := 3) (by decide) hlow, by decide⟩ (Nat.le_of_ble_eq_true rfl) (fun r16 h17 => ?_)
    refine S_iload_n (kk := 2) g dX12_trees_47 rfl rfl ?_
    refine S_icmp_ne (tgt := 57) g dX12_trees_48 (by decide) ?_ ?_
    · refine S_iinc (kk := 5) g dX12_trees_57 rfl (by decide) rfl ?_
      refine S_goto (tgt := 35) g dX12_trees_60 (by decide) ?_
      refine S_sub g [1, 2, 3, 4, 5, 0] rfl ?_
      exact hs35 _ _ _ _ _ _
    · refine S_bipush g dX12_trees_51 ⟨by decide, by decide⟩ rfl ?_
      refine S_iload (kk := 5) g dX12_trees_53 rfl ?_
      refine S_iadd g dX12_trees_55 ?_
      exact S_ireturn g dX12_trees_56 rfl

theorem sX12_trees_r {Γ : Cx} {w : Wd} (hw : okM w) {dq : Nat} (rec : Int → Int → Int → Hp → OR) (hrec : ∀ (z0 z1 z2 : Int) (h : Hp), SC Γ.1 w yX12_trees (Cond.code yX12_trees cX12_trees 10 (Option.some Jvm.ClassFile.FieldType.int)) dq 0 [vP 143, vI z0, vI z1, vI z2] (rec z0 z1 z2 h) h) {dr : Nat} (hdr : dq < dr) (hlow : 3 < dr) (g : Gd Γ cX12_trees 10 "GatePatchModel" (Option.some Jvm.ClassFile.FieldType.int) (rmd dr)) (x0 x1 x2 : Int) (h : Hp) : Sim Γ w 0 (XX12_trees_r rec x0 x1 x2 h) h 0 [(0, vP 143), (1, vI x0), (2, vI x1), (3, vI x2)] [] := by
  unfold XX12_trees_r
  refine S_iload_n (kk := 1) g dX12_trees_0 rfl rfl ?_
  refine S_callSi (As := [vI x0]) g dX12_trees_1 (sX12_functions hw _ _) rfl st_X12_functions cw_X12_functions ml_Mod_359 ini_Mod nd_X12_functions ⟨Nat.lt_trans (m := 3) (by decide) hlow, by decide⟩ (Nat.le_of_ble_eq_true rfl) (fun r1 h2 => ?_)
  refine S_iconst g dX12_trees_4 ⟨by decide, by decide⟩ ?_
  refine S_isub g dX12_trees_5 ?_
  refine S_nmI (fun v3 => ?_)
  refine S_istore g dX12_trees_6 (by decide) rfl ?_
  refine S_iload_n (kk := 3) g dX12_trees_8 rfl rfl ?_
  refine S_if_eq (tgt := 18) g dX12_trees_9 (by decide) ?_ ?_
  · refine S_sub g [3] rfl ?_
    exact sX12_trees_p18 hw rec hrec hdr hlow g _ _
  · refine S_iload_n (kk := 3) g dX12_trees_12 rfl rfl ?_
    refine S_iload (kk := 0) g dX12_trees_13 rfl ?_
    refine S_icmp_ne (tgt := 32) g dX12_trees_15 (by decide) ?_ ?_
    · refine S_iconst g dX12_trees_32 ⟨by decide, by decide⟩ ?_
      refine S_istore g dX12_trees_33 (by decide) rfl ?_
      refine S_sub g [2, 3, 4, 5, 1, 0] rfl ?_
      exact sX12_trees_L35 hw rec hrec hdr hlow g _ _ _ _ _ _
    · refine S_sub g [3] rfl ?_
      exact sX12_trees_p18 hw rec hrec hdr hlow g _ _

theorem sX12_trees {G : GG} {w : Wd} (hw : okM w) : ∀ (n : Nat) (x0 x1 x2 : Int) (h : Hp), SC G w yX12_trees (Cond.code yX12_trees cX12_trees 10 (Option.some Jvm.ClassFile.FieldType.int)) (3 + n) 0 [vP 143, vI x0, vI x1, vI x2] (XX12_trees n x0 x1 x2 h) h
  | 0, _, _, _, _ => fun _ _ e => by cases e
  | n + 1, x0, x1, x2, h => by
    refine SC_of (own := "GatePatchModel") plain_Mod rfl (Nat.le_of_ble_eq_true rfl) (fun Γ hG g => ?_)
    subst hG
    exact sX12_trees_r hw (XX12_trees n) (sX12_trees hw n) (dr := 3 + (n + 1)) (by omega) (by omega) g x0 x1 x2 h
def XX12_cost (x0 : Int) (x1 : Int) (h : Hp) : OR :=
  cal (XX12_in x0 0 3 h) (fun r1 h2 => if r1 = 0 then some ((-1), h2) else cal (XX12_functions x0 h2) (fun r3 h4 => chk (r3 - 1) (cal (XX12_in x1 0 (r3 - 1) h4) (fun r5 h6 => if r5 = 0 then some ((-1), h6) else cal (XX12_reckons x0 h6) (fun r7 h8 => inb x1 256 (some ((h8 191 x1.toNat), h8)))))))
theorem sX12_cost {G : GG} {w : Wd} (hw : okM w) (x0 : Int) (x1 : Int) (h : Hp) : SC G w yX12_cost (Cond.code yX12_cost cX12_cost 3 (Option.some Jvm.ClassFile.FieldType.int)) 5 0 [vP 143, vI x0, vI x1] (XX12_cost x0 x1 h) h := by
  refine SC_of (own := "GatePatchModel") plain_Mod rfl (Nat.le_of_ble_eq_true rfl) (fun Γ hG g => ?_)
  subst hG
  show Sim Γ w 0 _ h 0 [(0, vP 143), (1, vI x0), (2, vI x1)] []
  unfold XX12_cost
  refine S_iload_n (kk := 1) g dX12_cost_0 rfl rfl ?_
  refine S_iconst g dX12_cost_1 ⟨by decide, by decide⟩ ?_
  refine S_iconst g dX12_cost_2 ⟨by decide, by decide⟩ ?_
  refine S_callSi (As := [vI x0, vI 0, vI 3]) g dX12_cost_3 (sX12_in hw _ _ _ _) rfl st_X12_in cw_X12_in ml_Mod_212 ini_Mod nd_X12_in ⟨by decide, by decide⟩ (Nat.le_of_ble_eq_true rfl) (fun r1 h2 => ?_)
  refine S_if_eq (tgt := 23) g dX12_cost_6 (by decide) ?_ ?_
  · refine S_iconst g dX12_cost_23 ⟨by decide, by decide⟩ ?_
    exact S_ireturn g dX12_cost_24 rfl
  · refine S_iload_n (kk := 2) g dX12_cost_9 rfl rfl ?_
    refine S_iconst g dX12_cost_10 ⟨by decide, by decide⟩ ?_
    refine S_iload_n (kk := 1) g dX12_cost_11 rfl rfl ?_
    refine S_callSi (As := [vI x0]) g dX12_cost_12 (sX12_functions hw _ _) rfl st_X12_functions cw_X12_functions ml_Mod_359 ini_Mod nd_X12_functions ⟨by decide, by decide⟩ (Nat.le_of_ble_eq_true rfl) (fun r3 h4 => ?_)
    refine S_iconst g dX12_cost_15 ⟨by decide, by decide⟩ ?_
    refine S_isub g dX12_cost_16 ?_
    refine S_callSi (As := [vI x1, vI 0, vI (r3 - 1)]) g dX12_cost_17 (sX12_in hw _ _ _ _) rfl st_X12_in cw_X12_in ml_Mod_212 ini_Mod nd_X12_in ⟨by decide, by decide⟩ (Nat.le_of_ble_eq_true rfl) (fun r5 h6 => ?_)
    refine S_if_ne (tgt := 25) g dX12_cost_20 (by decide) ?_ ?_
    · refine S_aload_n (kk := 0) g dX12_cost_25 rfl rfl ?_
      refine S_iload_n (kk := 1) g dX12_cost_26 rfl rfl ?_
      refine S_callVv (As := [vI x0]) g dX12_cost_27 (sX12_reckons hw _ _) rfl (at_143 hw) rfl im_X12_reckons se_X12_reckons cw_X12_reckons ml_Mod_384 ini_Mod nd_X12_reckons ⟨by decide, by decide⟩ (Nat.le_of_ble_eq_true rfl) (fun r7 h8 => ?_)
      refine S_aload_n (kk := 0) g dX12_cost_30 rfl rfl ?_
      refine S_getr g dX12_cost_31 fl_Mod_166 (at_143 hw) rfl (rc_143_66 hw) ?_
      refine S_iload_n (kk := 2) g dX12_cost_34 rfl rfl ?_
      refine S_iaload g dX12_cost_35 (at_191 hw) ?_
      exact S_ireturn g dX12_cost_36 rfl
    · refine S_iconst g dX12_cost_23 ⟨by decide, by decide⟩ ?_
      exact S_ireturn g dX12_cost_24 rfl

def XX12_pattern_p36  (self5 : Int → Int → Int → Int → Hp → OR) (l1 l2 l4 : Int) (s0 s1 : Int) (h : Hp) : OR :=
  nm (aor s0 s1) (fun v3 => chk (l4 + 1) (self5 l1 l2 v3 (l4 + 1) h))
def XX12_pattern_b5   (self5 : Int → Int → Int → Int → Hp → OR) (l1 l2 l3 l4 : Int) (h : Hp) : OR :=
  if l2 ≤ l4 then some (l3, h) else inb l4 3 (cal (XX12_isAt 0 (h 195 l4.toNat) l1 h) (fun r1 h2 => if r1 = 0 then XX12_pattern_p36 self5 l1 l2 l4 l3 0 h2 else XX12_pattern_p36 self5 l1 l2 l4 l3 (ashl 1 l4) h2))
def XX12_pattern_L5   (l1 l2 l3 l4 : Int) (h : Hp) : OR := lup4 (XX12_pattern_b5 ) FU l1 l2 l3 l4 h
def XX12_pattern (x0 : Int) (x1 : Int) (h : Hp) : OR :=
  XX12_pattern_L5 x0 x1 0 0 h
theorem sX12_pattern_p36 {Γ : Cx} {w : Wd} (hw : okM w) (g : Gd Γ cX12_pattern 5 "GatePatchModel" (Option.some Jvm.ClassFile.FieldType.int) (rmd 2))  (self5 : Int → Int → Int → Int → Hp → OR) (hs5 : ∀ (x0 x1 x2 x3 : Int) (h : Hp), Sim Γ w 0 (self5 x0 x1 x2 x3 h) h 5 [(0, vP 143), (1, vI x0), (2, vI x1), (3, vI x2), (4, vI x3)] []) (l1 l2 l4 : Int) (s0 s1 : Int) (h : Hp) : Sim Γ w 0 (XX12_pattern_p36 self5 l1 l2 l4 s0 s1 h) h 36 [(0, vP 143), (1, vI l1), (2, vI l2), (4, vI l4)] [vI s1, vI s0] := by
  unfold XX12_pattern_p36
  refine S_ior g dX12_pattern_36 ?_
  refine S_nmI (fun v3 => ?_)
  refine S_istore_n g dX12_pattern_37 rfl (by decide) rfl ?_
  refine S_iinc (kk := 4) g dX12_pattern_38 rfl (by decide) rfl ?_
  refine S_goto (tgt := 5) g dX12_pattern_41 (by decide) ?_
  refine S_sub g [2, 3, 4, 1, 0] rfl ?_
  exact hs5 _ _ _ _ _

theorem sX12_pattern_L5 {Γ : Cx} {w : Wd} (hw : okM w) (g : Gd Γ cX12_pattern 5 "GatePatchModel" (Option.some Jvm.ClassFile.FieldType.int) (rmd 2))   : ∀ (l1 l2 l3 l4 : Int) (h : Hp), Sim Γ w 0 (XX12_pattern_L5  l1 l2 l3 l4 h) h 5 [(0, vP 143), (1, vI l1), (2, vI l2), (3, vI l3), (4, vI l4)] [] := by
  refine S_lup4 (fun l1 l2 l3 l4 => [(0, vP 143), (1, vI l1), (2, vI l2), (3, vI l3), (4, vI l4)]) (fun self5 hs5 l1 l2 l3 l4 h => ?_) FU
  unfold XX12_pattern_b5
  refine S_iload (kk := 4) g dX12_pattern_5 rfl ?_
  refine S_iload_n (kk := 2) g dX12_pattern_7 rfl rfl ?_
  refine S_icmp_ge (tgt := 44) g dX12_pattern_8 (by decide) ?_ ?_
  · refine S_iload_n (kk := 3) g dX12_pattern_44 rfl rfl ?_
    exact S_ireturn g dX12_pattern_45 rfl
  · refine S_iload_n (kk := 3) g dX12_pattern_11 rfl rfl ?_
    refine S_aload_n (kk := 0) g dX12_pattern_12 rfl rfl ?_
    refine S_iconst g dX12_pattern_13 ⟨by decide, by decide⟩ ?_
    refine S_aload_n (kk := 0) g dX12_pattern_14 rfl rfl ?_
    refine S_getr g dX12_pattern_15 fl_Mod_178 (at_143 hw) rfl (rc_143_70 hw) ?_
    refine S_iload (kk := 4) g dX12_pattern_18 rfl ?_
    refine S_iaload g dX12_pattern_20 (at_195 hw) ?_
    refine S_iload_n (kk := 1) g dX12_pattern_21 rfl rfl ?_
    refine S_callVi (As := [vI 0, vI (h 195 l4.toNat), vI l1]) g dX12_pattern_22 (sX12_isAt hw _ _ _ _) rfl (at_143 hw) rfl im_X12_isAt se_X12_isAt cw_X12_isAt ml_Mod_313 ini_Mod nd_X12_isAt ⟨by decide, by decide⟩ (Nat.le_of_ble_eq_true rfl) (fun r1 h2 => ?_)
    refine S_if_eq (tgt := 35) g dX12_pattern_25 (by decide) ?_ ?_
    · refine S_iconst g dX12_pattern_35 ⟨by decide, by decide⟩ ?_
      refine S_sub g [0, 1, 2, 4] rfl ?_
      exact sX12_pattern_p36 hw g self5 hs5 _ _ _ _ _ _
    · refine S_iconst g dX12_pattern_28 ⟨by decide, by decide⟩ ?_
      refine S_iload (kk := 4) g dX12_pattern_29 rfl ?_
      refine S_ishl g dX12_pattern_31 ?_
      refine S_goto (tgt := 36) g dX12_pattern_32 (by decide) ?_
      refine S_sub g [0, 1, 2, 4] rfl ?_
      exact sX12_pattern_p36 hw g self5 hs5 _ _ _ _ _ _

theorem sX12_pattern {G : GG} {w : Wd} (hw : okM w) (x0 : Int) (x1 : Int) (h : Hp) : SC G w yX12_pattern (Cond.code yX12_pattern cX12_pattern 5 (Option.some Jvm.ClassFile.FieldType.int)) 2 0 [vP 143, vI x0, vI x1] (XX12_pattern x0 x1 h) h := by
  refine SC_of (own := "GatePatchModel") plain_Mod rfl (Nat.le_of_ble_eq_true rfl) (fun Γ hG g => ?_)
  subst hG
  show Sim Γ w 0 _ h 0 [(0, vP 143), (1, vI x0), (2, vI x1)] []
  unfold XX12_pattern
  refine S_iconst g dX12_pattern_0 ⟨by decide, by decide⟩ ?_
  refine S_istore_n g dX12_pattern_1 rfl (by decide) rfl ?_
  refine S_iconst g dX12_pattern_2 ⟨by decide, by decide⟩ ?_
  refine S_istore g dX12_pattern_3 (by decide) rfl ?_
  refine S_sub g [2, 3, 4, 1, 0] rfl ?_
  exact sX12_pattern_L5 hw g _ _ _ _ _

def XX12_clashes_p26  (self2 : Int → Int → Int → Hp → OR) (l1 l2 l3 : Int) (h : Hp) : OR :=
  chk (l3 + 1) (self2 l1 l2 (l3 + 1) h)
def XX12_clashes_b2   (self2 : Int → Int → Int → Hp → OR) (l1 l2 l3 : Int) (h : Hp) : OR :=
  inb l3 256 (if (h 149 l3.toNat) = 0 then cal (XX12_pattern l3 l2 h) (fun r1 h2 => cal (XX12_pattern l1 l2 h2) (fun r3 h4 => if r1 = r3 then hm (wr h4 143 21 l3) (fun h5 => hm (wr h5 143 22 l1) (fun h6 => some (0, h6))) else XX12_clashes_p26 self2 l1 l2 l3 h4)) else XX12_clashes_p26 self2 l1 l2 l3 h)
def XX12_clashes_L2   (l1 l2 l3 : Int) (h : Hp) : OR := lup3 (XX12_clashes_b2 ) FU l1 l2 l3 h
def XX12_clashes (x0 : Int) (x1 : Int) (h : Hp) : OR :=
  XX12_clashes_L2 x0 x1 0 h
theorem sX12_clashes_p26 {Γ : Cx} {w : Wd} (hw : okM w) (g : Gd Γ cX12_clashes 4 "GatePatchModel" (Option.none : Option Jvm.ClassFile.FieldType) (rmd 3))  (self2 : Int → Int → Int → Hp → OR) (hs2 : ∀ (x0 x1 x2 : Int) (h : Hp), Sim Γ w 3 (self2 x0 x1 x2 h) h 2 [(0, vP 143), (1, vI x0), (2, vI x1), (3, vI x2)] []) (l1 l2 l3 : Int) (h : Hp) : Sim Γ w 3 (XX12_clashes_p26 self2 l1 l2 l3  h) h 26 [(0, vP 143), (1, vI l1), (2, vI l2), (3, vI l3)] [] := by
  unfold XX12_clashes_p26
  refine S_iinc (kk := 3) g dX12_clashes_26 rfl (by decide) rfl ?_
  refine S_goto (tgt := 2) g dX12_clashes_29 (by decide) ?_
  refine S_sub g [1, 2, 3, 0] rfl ?_
  exact hs2 _ _ _ _

theorem sX12_clashes_L2 {Γ : Cx} {w : Wd} (hw : okM w) (g : Gd Γ cX12_clashes 4 "GatePatchModel" (Option.none : Option Jvm.ClassFile.FieldType) (rmd 3))   : ∀ (l1 l2 l3 : Int) (h : Hp), Sim Γ w 3 (XX12_clashes_L2  l1 l2 l3 h) h 2 [(0, vP 143), (1, vI l1), (2, vI l2), (3, vI l3)] [] := by
  refine S_lup3 (fun l1 l2 l3 => [(0, vP 143), (1, vI l1), (2, vI l2), (3, vI l3)]) (fun self2 hs2 l1 l2 l3 h => ?_) FU
  unfold XX12_clashes_b2
  refine S_aload_n (kk := 0) g dX12_clashes_2 rfl rfl ?_
  refine S_getr g dX12_clashes_3 fl_Mod_32 (at_143 hw) rfl (rc_143_9 hw) ?_
  refine S_iload_n (kk := 3) g dX12_clashes_6 rfl rfl ?_
  refine S_zaload g dX12_clashes_7 (at_149 hw) ?_
  refine S_if_ne (tgt := 26) g dX12_clashes_8 (by decide) ?_ ?_
  · exact sX12_clashes_p26 hw g self2 hs2 _ _ _ _
  · refine S_aload_n (kk := 0) g dX12_clashes_11 rfl rfl ?_
    refine S_iload_n (kk := 3) g dX12_clashes_12 rfl rfl ?_
    refine S_iload_n (kk := 2) g dX12_clashes_13 rfl rfl ?_
    refine S_callVi (As := [vI l3, vI l2]) g dX12_clashes_14 (sX12_pattern hw _ _ _) rfl (at_143 hw) rfl im_X12_pattern se_X12_pattern cw_X12_pattern ml_Mod_387 ini_Mod nd_X12_pattern ⟨by decide, by decide⟩ (Nat.le_of_ble_eq_true rfl) (fun r1 h2 => ?_)
    refine S_aload_n (kk := 0) g dX12_clashes_17 rfl rfl ?_
    refine S_iload_n (kk := 1) g dX12_clashes_18 rfl rfl ?_
    refine S_iload_n (kk := 2) g dX12_clashes_19 rfl rfl ?_
    refine S_callVi (As := [vI l1, vI l2]) g dX12_clashes_20 (sX12_pattern hw _ _ _) rfl (at_143 hw) rfl im_X12_pattern se_X12_pattern cw_X12_pattern ml_Mod_387 ini_Mod nd_X12_pattern ⟨by decide, by decide⟩ (Nat.le_of_ble_eq_true rfl) (fun r3 h4 => ?_)
    refine S_icmp_eq (tgt := 32) g dX12_clashes_23 (by decide) ?_ ?_
    · refine S_aload_n (kk := 0) g dX12_clashes_32 rfl rfl ?_
      refine S_iload_n (kk := 3) g dX12_clashes_33 rfl rfl ?_
      refine S_puti g dX12_clashes_34 fp_Mod_63 (at_143 hw) rfl (fun h5 => ?_)
      refine S_aload_n (kk := 0) g dX12_clashes_37 rfl rfl ?_
      refine S_iload_n (kk := 1) g dX12_clashes_38 rfl rfl ?_
      refine S_puti g dX12_clashes_39 fp_Mod_66 (at_143 hw) rfl (fun h6 => ?_)
      exact S_return g dX12_clashes_42 rfl
    · exact sX12_clashes_p26 hw g self2 hs2 _ _ _ _

theorem sX12_clashes {G : GG} {w : Wd} (hw : okM w) (x0 : Int) (x1 : Int) (h : Hp) : SC G w yX12_clashes (Cond.code yX12_clashes cX12_clashes 4 (Option.none : Option Jvm.ClassFile.FieldType)) 3 3 [vP 143, vI x0, vI x1] (XX12_clashes x0 x1 h) h := by
  refine SC_of (own := "GatePatchModel") plain_Mod rfl (Nat.le_of_ble_eq_true rfl) (fun Γ hG g => ?_)
  subst hG
  show Sim Γ w 3 _ h 0 [(0, vP 143), (1, vI x0), (2, vI x1)] []
  unfold XX12_clashes
  refine S_iconst g dX12_clashes_0 ⟨by decide, by decide⟩ ?_
  refine S_istore_n g dX12_clashes_1 rfl (by decide) rfl ?_
  refine S_sub g [1, 2, 3, 0] rfl ?_
  exact sX12_clashes_L2 hw g _ _ _ _

def XX12_single_p96  (self4 : Int → Int → Int → Hp → OR) (l1 l2 l3 : Int) (h : Hp) : OR :=
  chk (l3 + 1) (self4 l1 l2 (l3 + 1) h)
def XX12_single_p84  (self4 : Int → Int → Int → Hp → OR) (l1 l3 : Int) (h : Hp) : OR :=
  inb l3 256 (nm (h 191 l3.toNat) (fun v3 => hm (wr h 143 71 l3) (fun h4 => XX12_single_p96 self4 l1 v3 l3 h4)))
def XX12_single_p56  (self4 : Int → Int → Int → Hp → OR) (self18 : Int → Int → Int → Int → Int → Hp → OR) (l1 l2 l3 l5 : Int) (s0 : Int) (h : Hp) : OR :=
  chk (l5 + 1) (self18 l1 l2 l3 s0 (l5 + 1) h)
def XX12_single_p55  (self4 : Int → Int → Int → Hp → OR) (self18 : Int → Int → Int → Int → Int → Hp → OR) (l1 l2 l3 l5 : Int) (h : Hp) : OR :=
  XX12_single_p56 self4 self18 l1 l2 l3 l5 0 h
def XX12_single_b18  (self4 : Int → Int → Int → Hp → OR) (self18 : Int → Int → Int → Int → Int → Hp → OR) (l1 l2 l3 l4 l5 : Int) (h : Hp) : OR :=
  if (ashl 1 l1) ≤ l5 then if l4 = 0 then XX12_single_p96 self4 l1 l2 l3 h else if l2 = (-1) then XX12_single_p84 self4 l1 l3 h else inb l3 256 (if l2 ≤ (h 191 l3.toNat) then XX12_single_p96 self4 l1 l2 l3 h else XX12_single_p84 self4 l1 l3 h) else if l4 = 0 then XX12_single_p55 self4 self18 l1 l2 l3 l5 h else inb l5 8 (if (aand (ashr (h 194 l5.toNat) (aand (ashr l3 l5) 1)) 1) = 1 then XX12_single_p56 self4 self18 l1 l2 l3 l5 1 h else XX12_single_p55 self4 self18 l1 l2 l3 l5 h)
def XX12_single_L18  (self4 : Int → Int → Int → Hp → OR) (l1 l2 l3 l4 l5 : Int) (h : Hp) : OR := lup5 (XX12_single_b18 self4) FU l1 l2 l3 l4 l5 h
def XX12_single_b4   (self4 : Int → Int → Int → Hp → OR) (l1 l2 l3 : Int) (h : Hp) : OR :=
  cal (XX12_functions l1 h) (fun r1 h2 => if r1 ≤ l3 then some (l2, h2) else XX12_single_L18 self4 l1 l2 l3 1 0 h2)
def XX12_single_L4   (l1 l2 l3 : Int) (h : Hp) : OR := lup3 (XX12_single_b4 ) FU l1 l2 l3 h
def XX12_single (x0 : Int) (h : Hp) : OR :=
  XX12_single_L4 x0 (-1) 0 h
theorem sX12_single_p96 {Γ : Cx} {w : Wd} (hw : okM w) (g : Gd Γ cX12_single 6 "GatePatchModel" (Option.some Jvm.ClassFile.FieldType.int) (rmd 2))  (self4 : Int → Int → Int → Hp → OR) (hs4 : ∀ (x0 x1 x2 : Int) (h : Hp), Sim Γ w 0 (self4 x0 x1 x2 h) h 4 [(0, vP 143), (1, vI x0), (2, vI x1), (3, vI x2)] []) (l1 l2 l3 : Int) (h : Hp) : Sim Γ w 0 (XX12_single_p96 self4 l1 l2 l3  h) h 96 [(0, vP 143), (1, vI l1), (2, vI l2), (3, vI l3)] [] := by
  unfold XX12_single_p96
  refine S_iinc (kk := 3) g dX12_single_96 rfl (by decide) rfl ?_
  refine S_goto (tgt := 4) g dX12_single_99 (by decide) ?_
  refine S_sub g [1, 2, 3, 0] rfl ?_
  exact hs4 _ _ _ _

theorem sX12_single_p84 {Γ : Cx} {w : Wd} (hw : okM w) (g : Gd Γ cX12_single 6 "GatePatchModel" (Option.some Jvm.ClassFile.FieldType.int) (rmd 2))  (self4 : Int → Int → Int → Hp → OR) (hs4 : ∀ (x0 x1 x2 : Int) (h : Hp), Sim Γ w 0 (self4 x0 x1 x2 h) h 4 [(0, vP 143), (1, vI x0), (2, vI x1), (3, vI x2)] []) (l1 l3 : Int) (h : Hp) : Sim Γ w 0 (XX12_single_p84 self4 l1 l3  h) h 84 [(0, vP 143), (1, vI l1), (3, vI l3)] [] := by
  unfold XX12_single_p84
  refine S_aload_n (kk := 0) g dX12_single_84 rfl rfl ?_
  refine S_getr g dX12_single_85 fl_Mod_166 (at_143 hw) rfl (rc_143_66 hw) ?_
  refine S_iload_n (kk := 2) g dX12_single_88 rfl rfl ?_
  refine S_iaload g dX12_single_89 (at_191 hw) ?_
  refine S_nmI (fun v3 => ?_)
  refine S_istore_n g dX12_single_90 rfl (by decide) rfl ?_
  refine S_aload_n (kk := 1) g dX12_single_91 rfl rfl ?_
  refine S_iload_n (kk := 3) g dX12_single_92 rfl rfl ?_
  refine S_puti g dX12_single_93 fp_Mod_399 (at_143 hw) rfl (fun h4 => ?_)
  refine S_sub g [1, 2, 0, 3] rfl ?_
  exact sX12_single_p96 hw g self4 hs4 _ _ _ _

theorem sX12_single_p56 {Γ : Cx} {w : Wd} (hw : okM w) (g : Gd Γ cX12_single 6 "GatePatchModel" (Option.some Jvm.ClassFile.FieldType.int) (rmd 2))  (self4 : Int → Int → Int → Hp → OR) (hs4 : ∀ (x0 x1 x2 : Int) (h : Hp), Sim Γ w 0 (self4 x0 x1 x2 h) h 4 [(0, vP 143), (1, vI x0), (2, vI x1), (3, vI x2)] []) (self18 : Int → Int → Int → Int → Int → Hp → OR) (hs18 : ∀ (x0 x1 x2 x3 x4 : Int) (h : Hp), Sim Γ w 0 (self18 x0 x1 x2 x3 x4 h) h 18 [(0, vP 143), (1, vI x0), (2, vI x1), (3, vI x2), (4, vI x3), (5, vI x4)] []) (l1 l2 l3 l5 : Int) (s0 : Int) (h : Hp) : Sim Γ w 0 (XX12_single_p56 self4 self18 l1 l2 l3 l5 s0 h) h 56 [(0, vP 143), (1, vI l1), (2, vI l2), (3, vI l3), (5, vI l5)] [vI s0] := by
  unfold XX12_single_p56
  refine S_istore g dX12_single_56 (by decide) rfl ?_
  refine S_iinc (kk := 5) g dX12_single_58 rfl (by decide) rfl ?_
  refine S_goto (tgt := 18) g dX12_single_61 (by decide) ?_
  refine S_sub g [2, 3, 4, 5, 1, 0] rfl ?_
  exact hs18 _ _ _ _ _ _

theorem sX12_single_p55 {Γ : Cx} {w : Wd} (hw : okM w) (g : Gd Γ cX12_single 6 "GatePatchModel" (Option.some Jvm.ClassFile.FieldType.int) (rmd 2))  (self4 : Int → Int → Int → Hp → OR) (hs4 : ∀ (x0 x1 x2 : Int) (h : Hp), Sim Γ w 0 (self4 x0 x1 x2 h) h 4 [(0, vP 143), (1, vI x0), (2, vI x1), (3, vI x2)] []) (self18 : Int → Int → Int → Int → Int → Hp → OR) (hs18 : ∀ (x0 x1 x2 x3 x4 : Int) (h : Hp), Sim Γ w 0 (self18 x0 x1 x2 x3 x4 h) h 18 [(0, vP 143), (1, vI x0), (2, vI x1), (3, vI x2), (4, vI x3), (5, vI x4)] []) (l1 l2 l3 l5 : Int) (h : Hp) : Sim Γ w 0 (XX12_single_p55 self4 self18 l1 l2 l3 l5  h) h 55 [(0, vP 143), (1, vI l1), (2, vI l2), (3, vI l3), (5, vI l5)] [] := by
  unfold XX12_single_p55
  refine S_iconst g dX12_single_55 ⟨by decide, by decide⟩ ?_
  exact sX12_single_p56 hw g self4 hs4 self18 hs18 _ _ _ _ _ _

theorem sX12_single_L18 {Γ : Cx} {w : Wd} (hw : okM w) (g : Gd Γ cX12_single 6 "GatePatchModel" (Option.some Jvm.ClassFile.FieldType.int) (rmd 2))  (self4 : Int → Int → Int → Hp → OR) (hs4 : ∀ (x0 x1 x2 : Int) (h : Hp), Sim Γ w 0 (self4 x0 x1 x2 h) h 4 [(0, vP 143), (1, vI x0), (2, vI x1), (3, vI x2)] []) : ∀ (l1 l2 l3 l4 l5 : Int) (h : Hp), Sim Γ w 0 (XX12_single_L18 self4 l1 l2 l3 l4 l5 h) h 18 [(0, vP 143), (1, vI l1), (2, vI l2), (3, vI l3), (4, vI l4), (5, vI l5)] [] := by
  refine S_lup5 (fun l1 l2 l3 l4 l5 => [(0, vP 143), (1, vI l1), (2, vI l2), (3, vI l3), (4, vI l4), (5, vI l5)]) (fun self18 hs18 l1 l2 l3 l4 l5 h => ?_) FU
  unfold XX12_single_b18
  refine S_iload (kk := 5) g dX12_single_18 rfl ?_
  refine S_iconst g dX12_single_20 ⟨by decide, by decide⟩ ?_
  refine S_iload_n (kk := 1) g dX12_single_21 rfl rfl ?_
  refine S_ishl g dX12_single_22 ?_
  refine S_icmp_ge (tgt := 64) g dX12_single_23 (by decide) ?_ ?_
  · refine S_iload (kk := 4) g dX12_single_64 rfl ?_
    refine S_if_eq (tgt := 96) g dX12_single_66 (by decide) ?_ ?_
    · refine S_sub g [0, 1, 2, 3] rfl ?_
      exact sX12_single_p96 hw g self4 hs4 _ _ _ _
    · refine S_iload_n (kk := 2) g dX12_single_69 rfl rfl ?_
      refine S_iconst g dX12_single_70 ⟨by decide, by decide⟩ ?_
      refine S_icmp_eq (tgt := 84) g dX12_single_71 (by decide) ?_ ?_
      · refine S_sub g [0, 1, 3] rfl ?_
        exact sX12_single_p84 hw g self4 hs4 _ _ _
      · refine S_aload_n (kk := 0) g dX12_single_74 rfl rfl ?_
        refine S_getr g dX12_single_75 fl_Mod_166 (at_143 hw) rfl (rc_143_66 hw) ?_
        refine S_iload_n (kk := 3) g dX12_single_78 rfl rfl ?_
        refine S_iaload g dX12_single_79 (at_191 hw) ?_
        refine S_iload_n (kk := 2) g dX12_single_80 rfl rfl ?_
        refine S_icmp_ge (tgt := 96) g dX12_single_81 (by decide) ?_ ?_
        · refine S_sub g [0, 1, 2, 3] rfl ?_
          exact sX12_single_p96 hw g self4 hs4 _ _ _ _
        · refine S_sub g [0, 1, 3] rfl ?_
          exact sX12_single_p84 hw g self4 hs4 _ _ _
  · refine S_iload (kk := 4) g dX12_single_26 rfl ?_
    refine S_if_eq (tgt := 55) g dX12_single_28 (by decide) ?_ ?_
    · refine S_sub g [0, 1, 2, 3, 5] rfl ?_
      exact sX12_single_p55 hw g self4 hs4 self18 hs18 _ _ _ _ _
    · refine S_aload_n (kk := 0) g dX12_single_31 rfl rfl ?_
      refine S_getr g dX12_single_32 fl_Mod_175 (at_143 hw) rfl (rc_143_69 hw) ?_
      refine S_iload (kk := 5) g dX12_single_35 rfl ?_
      refine S_iaload g dX12_single_37 (at_194 hw) ?_
      refine S_iload_n (kk := 3) g dX12_single_38 rfl rfl ?_
      refine S_iload (kk := 5) g dX12_single_39 rfl ?_
      refine S_ishr g dX12_single_41 ?_
      refine S_iconst g dX12_single_42 ⟨by decide, by decide⟩ ?_
      refine S_iand g dX12_single_43 ?_
      refine S_ishr g dX12_single_44 ?_
      refine S_iconst g dX12_single_45 ⟨by decide, by decide⟩ ?_
      refine S_iand g dX12_single_46 ?_
      refine S_iconst g dX12_single_47 ⟨by decide, by decide⟩ ?_
      refine S_icmp_ne (tgt := 55) g dX12_single_48 (by decide) ?_ ?_
      · refine S_sub g [0, 1, 2, 3, 5] rfl ?_
        exact sX12_single_p55 hw g self4 hs4 self18 hs18 _ _ _ _ _
      · refine S_iconst g dX12_single_51 ⟨by decide, by decide⟩ ?_
        refine S_goto (tgt := 56) g dX12_single_52 (by decide) ?_
        refine S_sub g [0, 1, 2, 3, 5] rfl ?_
        exact sX12_single_p56 hw g self4 hs4 self18 hs18 _ _ _ _ _ _

theorem sX12_single_L4 {Γ : Cx} {w : Wd} (hw : okM w) (g : Gd Γ cX12_single 6 "GatePatchModel" (Option.some Jvm.ClassFile.FieldType.int) (rmd 2))   : ∀ (l1 l2 l3 : Int) (h : Hp), Sim Γ w 0 (XX12_single_L4  l1 l2 l3 h) h 4 [(0, vP 143), (1, vI l1), (2, vI l2), (3, vI l3)] [] := by
  refine S_lup3 (fun l1 l2 l3 => [(0, vP 143), (1, vI l1), (2, vI l2), (3, vI l3)]) (fun self4 hs4 l1 l2 l3 h => ?_) FU
  unfold XX12_single_b4
  refine S_iload_n (kk := 3) g dX12_single_4 rfl rfl ?_
  refine S_iload_n (kk := 1) g dX12_single_5 rfl rfl ?_
  refine S_callSi (As := [vI l1]) g dX12_single_6 (sX12_functions hw _ _) rfl st_X12_functions cw_X12_functions ml_Mod_359 ini_Mod nd_X12_functions ⟨by decide, by decide⟩ (Nat.le_of_ble_eq_true rfl) (fun r1 h2 => ?_)
  refine S_icmp_ge (tgt := 102) g dX12_single_9 (by decide) ?_ ?_
  · refine S_iload_n (kk := 2) g dX12_single_102 rfl rfl ?_
    exact S_ireturn g dX12_single_103 rfl
  · refine S_iconst g dX12_single_12 ⟨by decide, by decide⟩ ?_
    refine S_istore g dX12_single_13 (by decide) rfl ?_
    refine S_iconst g dX12_single_15 ⟨by decide, by decide⟩ ?_
    refine S_istore g dX12_single_16 (by decide) rfl ?_
    refine S_sub g [2, 3, 4, 5, 1, 0] rfl ?_
    exact sX12_single_L18 hw g self4 hs4 _ _ _ _ _ _

theorem sX12_single {G : GG} {w : Wd} (hw : okM w) (x0 : Int) (h : Hp) : SC G w yX12_single (Cond.code yX12_single cX12_single 6 (Option.some Jvm.ClassFile.FieldType.int)) 2 0 [vP 143, vI x0] (XX12_single x0 h) h := by
  refine SC_of (own := "GatePatchModel") plain_Mod rfl (Nat.le_of_ble_eq_true rfl) (fun Γ hG g => ?_)
  subst hG
  show Sim Γ w 0 _ h 0 [(0, vP 143), (1, vI x0)] []
  unfold XX12_single
  refine S_iconst g dX12_single_0 ⟨by decide, by decide⟩ ?_
  refine S_istore_n g dX12_single_1 rfl (by decide) rfl ?_
  refine S_iconst g dX12_single_2 ⟨by decide, by decide⟩ ?_
  refine S_istore_n g dX12_single_3 rfl (by decide) rfl ?_
  refine S_sub g [2, 3, 1, 0] rfl ?_
  exact sX12_single_L4 hw g _ _ _ _

def XX12_both_p144  (self4 : Int → Int → Int → Hp → OR) (self15 : Int → Int → Int → Int → Hp → OR) (l1 l2 l3 l4 : Int) (h : Hp) : OR :=
  chk (l4 + 1) (self15 l1 l2 l3 (l4 + 1) h)
def XX12_both_p113  (self4 : Int → Int → Int → Hp → OR) (self15 : Int → Int → Int → Int → Hp → OR) (l1 l2 l3 l4 l5 : Int) (h : Hp) : OR :=
  if l5 = 0 then XX12_both_p144 self4 self15 l1 l2 l3 l4 h else inb l3 256 (inb l4 256 (chk ((h 191 l3.toNat) + (h 191 l4.toNat)) (nm ((h 191 l3.toNat) + (h 191 l4.toNat)) (fun v5 => hm (wr h 143 71 l3) (fun h6 => hm (wr h6 143 72 l4) (fun h7 => XX12_both_p144 self4 self15 l1 v5 l3 l4 h7))))))
def XX12_both_p105  (self4 : Int → Int → Int → Hp → OR) (self15 : Int → Int → Int → Int → Hp → OR) (self57 : Int → Int → Int → Int → Int → Int → Hp → OR) (l1 l2 l3 l4 l6 : Int) (s0 : Int) (h : Hp) : OR :=
  chk (l6 + 1) (self57 l1 l2 l3 l4 s0 (l6 + 1) h)
def XX12_both_b57  (self4 : Int → Int → Int → Hp → OR) (self15 : Int → Int → Int → Int → Hp → OR) (self57 : Int → Int → Int → Int → Int → Int → Hp → OR) (l1 l2 l3 l4 l5 l6 : Int) (h : Hp) : OR :=
  if (ashl 1 l1) ≤ l6 then XX12_both_p113 self4 self15 l1 l2 l3 l4 l5 h else if l5 = 0 then XX12_both_p113 self4 self15 l1 l2 l3 l4 l5 h else inb l6 8 (chk (2 * (aand (ashr l4 l6) 1)) (chk ((aand (ashr l3 l6) 1) + (2 * (aand (ashr l4 l6) 1))) (if (aand (ashr (h 194 l6.toNat) ((aand (ashr l3 l6) 1) + (2 * (aand (ashr l4 l6) 1)))) 1) = 1 then XX12_both_p105 self4 self15 self57 l1 l2 l3 l4 l6 1 h else XX12_both_p105 self4 self15 self57 l1 l2 l3 l4 l6 0 h)))
def XX12_both_L57  (self4 : Int → Int → Int → Hp → OR) (self15 : Int → Int → Int → Int → Hp → OR) (l1 l2 l3 l4 l5 l6 : Int) (h : Hp) : OR := lup6 (XX12_both_b57 self4 self15) FU l1 l2 l3 l4 l5 l6 h
def XX12_both_p52  (self4 : Int → Int → Int → Hp → OR) (self15 : Int → Int → Int → Int → Hp → OR) (l1 l2 l3 l4 : Int) (s0 : Int) (h : Hp) : OR :=
  XX12_both_L57 self4 self15 l1 l2 l3 l4 s0 0 h
def XX12_both_p47  (self4 : Int → Int → Int → Hp → OR) (self15 : Int → Int → Int → Int → Hp → OR) (l1 l2 l3 l4 : Int) (h : Hp) : OR :=
  XX12_both_p52 self4 self15 l1 l2 l3 l4 1 h
def XX12_both_b15  (self4 : Int → Int → Int → Hp → OR) (self15 : Int → Int → Int → Int → Hp → OR) (l1 l2 l3 l4 : Int) (h : Hp) : OR :=
  cal (XX12_functions l1 h) (fun r3 h4 => if r3 ≤ l4 then chk (l3 + 1) (self4 l1 l2 (l3 + 1) h4) else if l2 = (-1) then XX12_both_p47 self4 self15 l1 l2 l3 l4 h4 else inb l3 256 (inb l4 256 (chk ((h4 191 l3.toNat) + (h4 191 l4.toNat)) (if l2 ≤ ((h4 191 l3.toNat) + (h4 191 l4.toNat)) then XX12_both_p52 self4 self15 l1 l2 l3 l4 0 h4 else XX12_both_p47 self4 self15 l1 l2 l3 l4 h4))))
def XX12_both_L15  (self4 : Int → Int → Int → Hp → OR) (l1 l2 l3 l4 : Int) (h : Hp) : OR := lup4 (XX12_both_b15 self4) FU l1 l2 l3 l4 h
def XX12_both_b4   (self4 : Int → Int → Int → Hp → OR) (l1 l2 l3 : Int) (h : Hp) : OR :=
  cal (XX12_functions l1 h) (fun r1 h2 => if r1 ≤ l3 then some (l2, h2) else XX12_both_L15 self4 l1 l2 l3 0 h2)
def XX12_both_L4   (l1 l2 l3 : Int) (h : Hp) : OR := lup3 (XX12_both_b4 ) FU l1 l2 l3 h
def XX12_both (x0 : Int) (h : Hp) : OR :=
  XX12_both_L4 x0 (-1) 0 h
theorem sX12_both_p144 {Γ : Cx} {w : Wd} (hw : okM w) (g : Gd Γ cX12_both 7 "GatePatchModel" (Option.some Jvm.ClassFile.FieldType.int) (rmd 2))  (self4 : Int → Int → Int → Hp → OR) (hs4 : ∀ (x0 x1 x2 : Int) (h : Hp), Sim Γ w 0 (self4 x0 x1 x2 h) h 4 [(0, vP 143), (1, vI x0), (2, vI x1), (3, vI x2)] []) (self15 : Int → Int → Int → Int → Hp → OR) (hs15 : ∀ (x0 x1 x2 x3 : Int) (h : Hp), Sim Γ w 0 (self15 x0 x1 x2 x3 h) h 15 [(0, vP 143), (1, vI x0), (2, vI x1), (3, vI x2), (4, vI x3)] []) (l1 l2 l3 l4 : Int) (h : Hp) : Sim Γ w 0 (XX12_both_p144 self4 self15 l1 l2 l3 l4  h) h 144 [(0, vP 143), (1, vI l1), (2, vI l2), (3, vI l3), (4, vI l4)] [] := by
  unfold XX12_both_p144
  refine S_iinc (kk := 4) g dX12_both_144 rfl (by decide) rfl ?_
  refine S_goto (tgt := 15) g dX12_both_147 (by decide) ?_
  refine S_sub g [1, 2, 3, 4, 0] rfl ?_
  exact hs15 _ _ _ _ _

theorem sX12_both_p113 {Γ : Cx} {w : Wd} (hw : okM w) (g : Gd Γ cX12_both 7 "GatePatchModel" (Option.some Jvm.ClassFile.FieldType.int) (rmd 2))  (self4 : Int → Int → Int → Hp → OR) (hs4 : ∀ (x0 x1 x2 : Int) (h : Hp), Sim Γ w 0 (self4 x0 x1 x2 h) h 4 [(0, vP 143), (1, vI x0), (2, vI x1), (3, vI x2)] []) (self15 : Int → Int → Int → Int → Hp → OR) (hs15 : ∀ (x0 x1 x2 x3 : Int) (h : Hp), Sim Γ w 0 (self15 x0 x1 x2 x3 h) h 15 [(0, vP 143), (1, vI x0), (2, vI x1), (3, vI x2), (4, vI x3)] []) (l1 l2 l3 l4 l5 : Int) (h : Hp) : Sim Γ w 0 (XX12_both_p113 self4 self15 l1 l2 l3 l4 l5  h) h 113 [(0, vP 143), (1, vI l1), (2, vI l2), (3, vI l3), (4, vI l4), (5, vI l5)] [] := by
  unfold XX12_both_p113
  refine S_iload (kk := 5) g dX12_both_113 rfl ?_
  refine S_if_eq (tgt := 144) g dX12_both_115 (by decide) ?_ ?_
  · refine S_sub g [0, 1, 2, 3, 4] rfl ?_
    exact sX12_both_p144 hw g self4 hs4 self15 hs15 _ _ _ _ _
  · refine S_aload_n (kk := 0) g dX12_both_118 rfl rfl ?_
    refine S_getr g dX12_both_119 fl_Mod_166 (at_143 hw) rfl (rc_143_66 hw) ?_
    refine S_iload_n (kk := 3) g dX12_both_122 rfl rfl ?_
    refine S_iaload g dX12_both_123 (at_191 hw) ?_
    refine S_aload_n (kk := 0) g dX12_both_124 rfl rfl ?_
    refine S_getr g dX12_both_125 fl_Mod_166 (at_143 hw) rfl (rc_143_66 hw) ?_
    refine S_iload (kk := 4) g dX12_both_128 rfl ?_
    refine S_iaload g dX12_both_130 (at_191 hw) ?_
    refine S_iadd g dX12_both_131 ?_
    refine S_nmI (fun v5 => ?_)
    refine S_istore_n g dX12_both_132 rfl (by decide) rfl ?_
    refine S_aload_n (kk := 1) g dX12_both_133 rfl rfl ?_
    refine S_iload_n (kk := 3) g dX12_both_134 rfl rfl ?_
    refine S_puti g dX12_both_135 fp_Mod_399 (at_143 hw) rfl (fun h6 => ?_)
    refine S_aload_n (kk := 1) g dX12_both_138 rfl rfl ?_
    refine S_iload (kk := 4) g dX12_both_139 rfl ?_
    refine S_puti g dX12_both_141 fp_Mod_402 (at_143 hw) rfl (fun h7 => ?_)
    refine S_sub g [1, 2, 0, 3, 4] rfl ?_
    exact sX12_both_p144 hw g self4 hs4 self15 hs15 _ _ _ _ _

theorem sX12_both_p105 {Γ : Cx} {w : Wd} (hw : okM w) (g : Gd Γ cX12_both 7 "GatePatchModel" (Option.some Jvm.ClassFile.FieldType.int) (rmd 2))  (self4 : Int → Int → Int → Hp → OR) (hs4 : ∀ (x0 x1 x2 : Int) (h : Hp), Sim Γ w 0 (self4 x0 x1 x2 h) h 4 [(0, vP 143), (1, vI x0), (2, vI x1), (3, vI x2)] []) (self15 : Int → Int → Int → Int → Hp → OR) (hs15 : ∀ (x0 x1 x2 x3 : Int) (h : Hp), Sim Γ w 0 (self15 x0 x1 x2 x3 h) h 15 [(0, vP 143), (1, vI x0), (2, vI x1), (3, vI x2), (4, vI x3)] []) (self57 : Int → Int → Int → Int → Int → Int → Hp → OR) (hs57 : ∀ (x0 x1 x2 x3 x4 x5 : Int) (h : Hp), Sim Γ w 0 (self57 x0 x1 x2 x3 x4 x5 h) h 57 [(0, vP 143), (1, vI x0), (2, vI x1), (3, vI x2), (4, vI x3), (5, vI x4), (6, vI x5)] []) (l1 l2 l3 l4 l6 : Int) (s0 : Int) (h : Hp) : Sim Γ w 0 (XX12_both_p105 self4 self15 self57 l1 l2 l3 l4 l6 s0 h) h 105 [(0, vP 143), (1, vI l1), (2, vI l2), (3, vI l3), (4, vI l4), (6, vI l6)] [vI s0] := by
  unfold XX12_both_p105
  refine S_istore g dX12_both_105 (by decide) rfl ?_
  refine S_iinc (kk := 6) g dX12_both_107 rfl (by decide) rfl ?_
  refine S_goto (tgt := 57) g dX12_both_110 (by decide) ?_
  refine S_sub g [2, 3, 4, 5, 6, 1, 0] rfl ?_
  exact hs57 _ _ _ _ _ _ _

theorem sX12_both_L57 {Γ : Cx} {w : Wd} (hw : okM w) (g : Gd Γ cX12_both 7 "GatePatchModel" (Option.some Jvm.ClassFile.FieldType.int) (rmd 2))  (self4 : Int → Int → Int → Hp → OR) (hs4 : ∀ (x0 x1 x2 : Int) (h : Hp), Sim Γ w 0 (self4 x0 x1 x2 h) h 4 [(0, vP 143), (1, vI x0), (2, vI x1), (3, vI x2)] []) (self15 : Int → Int → Int → Int → Hp → OR) (hs15 : ∀ (x0 x1 x2 x3 : Int) (h : Hp), Sim Γ w 0 (self15 x0 x1 x2 x3 h) h 15 [(0, vP 143), (1, vI x0), (2, vI x1), (3, vI x2), (4, vI x3)] []) : ∀ (l1 l2 l3 l4 l5 l6 : Int) (h : Hp), Sim Γ w 0 (XX12_both_L57 self4 self15 l1 l2 l3 l4 l5 l6 h) h 57 [(0, vP 143), (1, vI l1), (2, vI l2), (3, vI l3), (4, vI l4), (5, vI l5), (6, vI l6)] [] := by
  refine S_lup6 (fun l1 l2 l3 l4 l5 l6 => [(0, vP 143), (1, vI l1), (2, vI l2), (3, vI l3), (4, vI l4), (5, vI l5), (6, vI l6)]) (fun self57 hs57 l1 l2 l3 l4 l5 l6 h => ?_) FU
  unfold XX12_both_b57
  refine S_iload (kk := 6) g dX12_both_57 rfl ?_
  refine S_iconst g dX12_both_59 ⟨by decide, by decide⟩ ?_
  refine S_iload_n (kk := 1) g dX12_both_60 rfl rfl ?_
  refine S_ishl g dX12_both_61 ?_
  refine S_icmp_ge (tgt := 113) g dX12_both_62 (by decide) ?_ ?_
  · refine S_sub g [0, 1, 2, 3, 4, 5] rfl ?_
    exact sX12_both_p113 hw g self4 hs4 self15 hs15 _ _ _ _ _ _
  · refine S_iload (kk := 5) g dX12_both_65 rfl ?_
    refine S_if_eq (tgt := 113) g dX12_both_67 (by decide) ?_ ?_
    · refine S_sub g [0, 1, 2, 3, 4, 5] rfl ?_
      exact sX12_both_p113 hw g self4 hs4 self15 hs15 _ _ _ _ _ _
    · refine S_aload_n (kk := 0) g dX12_both_70 rfl rfl ?_
      refine S_getr g dX12_both_71 fl_Mod_175 (at_143 hw) rfl (rc_143_69 hw) ?_
      refine S_iload (kk := 6) g dX12_both_74 rfl ?_
      refine S_iaload g dX12_both_76 (at_194 hw) ?_
      refine S_iload_n (kk := 3) g dX12_both_77 rfl rfl ?_
      refine S_iload (kk := 6) g dX12_both_78 rfl ?_
      refine S_ishr g dX12_both_80 ?_
      refine S_iconst g dX12_both_81 ⟨by decide, by decide⟩ ?_
      refine S_iand g dX12_both_82 ?_
      refine S_iconst g dX12_both_83 ⟨by decide, by decide⟩ ?_
      refine S_iload (kk := 4) g dX12_both_84 rfl ?_
      refine S_iload (kk := 6) g dX12_both_86 rfl ?_
      refine S_ishr g dX12_both_88 ?_
      refine S_iconst g dX12_both_89 ⟨by decide, by decide⟩ ?_
      refine S_iand g dX12_both_90 ?_
      refine S_imul g dX12_both_91 ?_
      refine S_iadd g dX12_both_92 ?_
      refine S_ishr g dX12_both_93 ?_
      refine S_iconst g dX12_both_94 ⟨by decide, by decide⟩ ?_
      refine S_iand g dX12_both_95 ?_
      refine S_iconst g dX12_both_96 ⟨by decide, by decide⟩ ?_
      refine S_icmp_ne (tgt := 104) g dX12_both_97 (by decide) ?_ ?_
      · refine S_iconst g dX12_both_104 ⟨by decide, by decide⟩ ?_
        refine S_sub g [0, 1, 2, 3, 4, 6] rfl ?_
        exact sX12_both_p105 hw g self4 hs4 self15 hs15 self57 hs57 _ _ _ _ _ _ _
      · refine S_iconst g dX12_both_100 ⟨by decide, by decide⟩ ?_
        refine S_goto (tgt := 105) g dX12_both_101 (by decide) ?_
        refine S_sub g [0, 1, 2, 3, 4, 6] rfl ?_
        exact sX12_both_p105 hw g self4 hs4 self15 hs15 self57 hs57 _ _ _ _ _ _ _

theorem sX12_both_p52 {Γ : Cx} {w : Wd} (hw : okM w) (g : Gd Γ cX12_both 7 "GatePatchModel" (Option.some Jvm.ClassFile.FieldType.int) (rmd 2))  (self4 : Int → Int → Int → Hp → OR) (hs4 : ∀ (x0 x1 x2 : Int) (h : Hp), Sim Γ w 0 (self4 x0 x1 x2 h) h 4 [(0, vP 143), (1, vI x0), (2, vI x1), (3, vI x2)] []) (self15 : Int → Int → Int → Int → Hp → OR) (hs15 : ∀ (x0 x1 x2 x3 : Int) (h : Hp), Sim Γ w 0 (self15 x0 x1 x2 x3 h) h 15 [(0, vP 143), (1, vI x0), (2, vI x1), (3, vI x2), (4, vI x3)] []) (l1 l2 l3 l4 : Int) (s0 : Int) (h : Hp) : Sim Γ w 0 (XX12_both_p52 self4 self15 l1 l2 l3 l4 s0 h) h 52 [(0, vP 143), (1, vI l1), (2, vI l2), (3, vI l3), (4, vI l4)] [vI s0] := by
  unfold XX12_both_p52
  refine S_istore g dX12_both_52 (by decide) rfl ?_
  refine S_iconst g dX12_both_54 ⟨by decide, by decide⟩ ?_
  refine S_istore g dX12_both_55 (by decide) rfl ?_
  refine S_sub g [2, 3, 4, 5, 6, 1, 0] rfl ?_
  exact sX12_both_L57 hw g self4 hs4 self15 hs15 _ _ _ _ _ _ _

theorem sX12_both_p47 {Γ : Cx} {w : Wd} (hw : okM w) (g : Gd Γ cX12_both 7 "GatePatchModel" (Option.some Jvm.ClassFile.FieldType.int) (rmd 2))  (self4 : Int → Int → Int → Hp → OR) (hs4 : ∀ (x0 x1 x2 : Int) (h : Hp), Sim Γ w 0 (self4 x0 x1 x2 h) h 4 [(0, vP 143), (1, vI x0), (2, vI x1), (3, vI x2)] []) (self15 : Int → Int → Int → Int → Hp → OR) (hs15 : ∀ (x0 x1 x2 x3 : Int) (h : Hp), Sim Γ w 0 (self15 x0 x1 x2 x3 h) h 15 [(0, vP 143), (1, vI x0), (2, vI x1), (3, vI x2), (4, vI x3)] []) (l1 l2 l3 l4 : Int) (h : Hp) : Sim Γ w 0 (XX12_both_p47 self4 self15 l1 l2 l3 l4  h) h 47 [(0, vP 143), (1, vI l1), (2, vI l2), (3, vI l3), (4, vI l4)] [] := by
  unfold XX12_both_p47
  refine S_iconst g dX12_both_47 ⟨by decide, by decide⟩ ?_
  refine S_goto (tgt := 52) g dX12_both_48 (by decide) ?_
  exact sX12_both_p52 hw g self4 hs4 self15 hs15 _ _ _ _ _ _

theorem sX12_both_L15 {Γ : Cx} {w : Wd} (hw : okM w) (g : Gd Γ cX12_both 7 "GatePatchModel" (Option.some Jvm.ClassFile.FieldType.int) (rmd 2))  (self4 : Int → Int → Int → Hp → OR) (hs4 : ∀ (x0 x1 x2 : Int) (h : Hp), Sim Γ w 0 (self4 x0 x1 x2 h) h 4 [(0, vP 143), (1, vI x0), (2, vI x1), (3, vI x2)] []) : ∀ (l1 l2 l3 l4 : Int) (h : Hp), Sim Γ w 0 (XX12_both_L15 self4 l1 l2 l3 l4 h) h 15 [(0, vP 143), (1, vI l1), (2, vI l2), (3, vI l3), (4, vI l4)] [] := by
  refine S_lup4 (fun l1 l2 l3 l4 => [(0, vP 143), (1, vI l1), (2, vI l2), (3, vI l3), (4, vI l4)]) (fun self15 hs15 l1 l2 l3 l4 h => ?_) FU
  unfold XX12_both_b15
  refine S_iload (kk := 4) g dX12_both_15 rfl ?_
  refine S_iload_n (kk := 1) g dX12_both_17 rfl rfl ?_
  refine S_callSi (As := [vI l1]) g dX12_both_18 (sX12_functions hw _ _) rfl st_X12_functions cw_X12_functions ml_Mod_359 ini_Mod nd_X12_functions ⟨by decide, by decide⟩ (Nat.le_of_ble_eq_true rfl) (fun r3 h4 => ?_)
  refine S_icmp_ge (tgt := 150) g dX12_both_21 (by decide) ?_ ?_
  · refine S_iinc (kk := 3) g dX12_both_150 rfl (by decide) rfl ?_
    refine S_goto (tgt := 4) g dX12_both_153 (by decide) ?_
    refine S_sub g [1, 2, 3, 0] rfl ?_
    exact hs4 _ _ _ _
  · refine S_iload_n (kk := 2) g dX12_both_24 rfl rfl ?_
    refine S_iconst g dX12_both_25 ⟨by decide, by decide⟩ ?_
    refine S_icmp_eq (tgt := 47) g dX12_both_26 (by decide) ?_ ?_
    · exact sX12_both_p47 hw g self4 hs4 self15 hs15 _ _ _ _ _
    · refine S_aload_n (kk := 0) g dX12_both_29 rfl rfl ?_
      refine S_getr g dX12_both_30 fl_Mod_166 (at_143 hw) rfl (rc_143_66 hw) ?_
      refine S_iload_n (kk := 3) g dX12_both_33 rfl rfl ?_
      refine S_iaload g dX12_both_34 (at_191 hw) ?_
      refine S_aload_n (kk := 0) g dX12_both_35 rfl rfl ?_
      refine S_getr g dX12_both_36 fl_Mod_166 (at_143 hw) rfl (rc_143_66 hw) ?_
      refine S_iload (kk := 4) g dX12_both_39 rfl ?_
      refine S_iaload g dX12_both_41 (at_191 hw) ?_
      refine S_iadd g dX12_both_42 ?_
      refine S_iload_n (kk := 2) g dX12_both_43 rfl rfl ?_
      refine S_icmp_ge (tgt := 51) g dX12_both_44 (by decide) ?_ ?_
      · refine S_iconst g dX12_both_51 ⟨by decide, by decide⟩ ?_
        exact sX12_both_p52 hw g self4 hs4 self15 hs15 _ _ _ _ _ _
      · exact sX12_both_p47 hw g self4 hs4 self15 hs15 _ _ _ _ _

theorem sX12_both_L4 {Γ : Cx} {w : Wd} (hw : okM w) (g : Gd Γ cX12_both 7 "GatePatchModel" (Option.some Jvm.ClassFile.FieldType.int) (rmd 2))   : ∀ (l1 l2 l3 : Int) (h : Hp), Sim Γ w 0 (XX12_both_L4  l1 l2 l3 h) h 4 [(0, vP 143), (1, vI l1), (2, vI l2), (3, vI l3)] [] := by
  refine S_lup3 (fun l1 l2 l3 => [(0, vP 143), (1, vI l1), (2, vI l2), (3, vI l3)]) (fun self4 hs4 l1 l2 l3 h => ?_) FU
  unfold XX12_both_b4
  refine S_iload_n (kk := 3) g dX12_both_4 rfl rfl ?_
  refine S_iload_n (kk := 1) g dX12_both_5 rfl rfl ?_
  refine S_callSi (As := [vI l1]) g dX12_both_6 (sX12_functions hw _ _) rfl st_X12_functions cw_X12_functions ml_Mod_359 ini_Mod nd_X12_functions ⟨by decide, by decide⟩ (Nat.le_of_ble_eq_true rfl) (fun r1 h2 => ?_)
  refine S_icmp_ge (tgt := 156) g dX12_both_9 (by decide) ?_ ?_
  · refine S_iload_n (kk := 2) g dX12_both_156 rfl rfl ?_
    exact S_ireturn g dX12_both_157 rfl
  · refine S_iconst g dX12_both_12 ⟨by decide, by decide⟩ ?_
    refine S_istore g dX12_both_13 (by decide) rfl ?_
    refine S_sub g [1, 2, 3, 4, 0] rfl ?_
    exact sX12_both_L15 hw g self4 hs4 _ _ _ _ _

theorem sX12_both {G : GG} {w : Wd} (hw : okM w) (x0 : Int) (h : Hp) : SC G w yX12_both (Cond.code yX12_both cX12_both 7 (Option.some Jvm.ClassFile.FieldType.int)) 2 0 [vP 143, vI x0] (XX12_both x0 h) h := by
  refine SC_of (own := "GatePatchModel") plain_Mod rfl (Nat.le_of_ble_eq_true rfl) (fun Γ hG g => ?_)
  subst hG
  show Sim Γ w 0 _ h 0 [(0, vP 143), (1, vI x0)] []
  unfold XX12_both
  refine S_iconst g dX12_both_0 ⟨by decide, by decide⟩ ?_
  refine S_istore_n g dX12_both_1 rfl (by decide) rfl ?_
  refine S_iconst g dX12_both_2 ⟨by decide, by decide⟩ ?_
  refine S_istore_n g dX12_both_3 rfl (by decide) rfl ?_
  refine S_sub g [2, 3, 1, 0] rfl ?_
  exact sX12_both_L4 hw g _ _ _ _

def XX12_finds_p153  (self50 : Int → Int → Int → Int → Hp → OR) (l3 l4 l5 l6 : Int) (h : Hp) : OR :=
  chk (l6 + 1) (self50 l3 l4 l5 (l6 + 1) h)
def XX12_finds_p119  (self50 : Int → Int → Int → Int → Hp → OR) (self82 : Int → Int → Int → Int → Int → Int → Hp → OR) (l3 l4 l5 l6 l7 l8 : Int) (s1 s2 s3 : Int) (h : Hp) : OR :=
  inb s1 8 (hm (wr h 194 s1.toNat (aand s2 s3)) (fun h21 => chk (l8 + 1) (self82 l3 l4 l5 l6 l7 (l8 + 1) h21)))
def XX12_finds_b82  (self50 : Int → Int → Int → Int → Hp → OR) (self82 : Int → Int → Int → Int → Int → Int → Hp → OR) (l3 l4 l5 l6 l7 l8 : Int) (h : Hp) : OR :=
  if (ashl 1 l3) ≤ l8 then inb l7 8 (if (h 194 l7.toNat) = 0 then if l5 = 0 then some ((-4), h) else cal (XX12_clashes l6 l4 h) (fun r17 h18 => some ((-4), h18)) else XX12_finds_p153 self50 l3 l4 l5 l6 h) else inb l7 8 (cal (XX12_doesMend l8 l6 h) (fun r19 h20 => if r19 = 0 then XX12_finds_p119 self50 self82 l3 l4 l5 l6 l7 l8 l7 (h 194 l7.toNat) (axor (ashl 1 l8) (-1)) h20 else XX12_finds_p119 self50 self82 l3 l4 l5 l6 l7 l8 l7 (h 194 l7.toNat) (-1) h20))
def XX12_finds_L82  (self50 : Int → Int → Int → Int → Hp → OR) (l3 l4 l5 l6 l7 l8 : Int) (h : Hp) : OR := lup6 (XX12_finds_b82 self50) FU l3 l4 l5 l6 l7 l8 h
def XX12_finds_b50   (self50 : Int → Int → Int → Int → Hp → OR) (l3 l4 l5 l6 : Int) (h : Hp) : OR :=
  cal (XX12_cases h) (fun r7 h8 => if r7 ≤ l6 then cal (XX12_reckons l4 h8) (fun r9 h10 => if l3 = 1 then cal (XX12_single l4 h10) (fun r13 h14 => some (r13, h14)) else cal (XX12_both l4 h10) (fun r11 h12 => some (r11, h12))) else inb l6 256 (if (h8 149 l6.toNat) = 0 then cal (XX12_pattern l6 l4 h8) (fun r15 h16 => XX12_finds_L82 self50 l3 l4 l5 l6 r15 0 h16) else XX12_finds_p153 self50 l3 l4 l5 l6 h8))
def XX12_finds_L50   (l3 l4 l5 l6 : Int) (h : Hp) : OR := lup4 (XX12_finds_b50 ) FU l3 l4 l5 l6 h
def XX12_finds_b20   (self20 : Int → Int → Int → Int → Hp → OR) (l3 l4 l5 l6 : Int) (h : Hp) : OR :=
  if 8 ≤ l6 then XX12_finds_L50 l3 l4 l5 0 h else chk ((ashl 1 (ashl 1 l3)) - 1) (inb l6 8 (hm (wr h 194 l6.toNat ((ashl 1 (ashl 1 l3)) - 1)) (fun h22 => chk (l6 + 1) (self20 l3 l4 l5 (l6 + 1) h22))))
def XX12_finds_L20   (l3 l4 l5 l6 : Int) (h : Hp) : OR := lup4 (XX12_finds_b20 ) FU l3 l4 l5 l6 h
def XX12_finds (x0 : Int) (x1 : Int) (x2 : Int) (x3 : Int) (x4 : Int) (h : Hp) : OR :=
  cal (XX12_prepares h) (fun r1 h2 => cal (XX12_mendings x0 x1 (-1) x2 h2) (fun r3 h4 => cal (XX12_knows 0 h4) (fun r5 h6 => XX12_finds_L20 x2 x3 x4 0 h6)))
theorem sX12_finds_p153 {Γ : Cx} {w : Wd} (hw : okM w) (g : Gd Γ cX12_finds 9 "GatePatchModel" (Option.some Jvm.ClassFile.FieldType.int) (rmd 7))  (self50 : Int → Int → Int → Int → Hp → OR) (hs50 : ∀ (x0 x1 x2 x3 : Int) (h : Hp), Sim Γ w 0 (self50 x0 x1 x2 x3 h) h 50 [(0, vP 143), (3, vI x0), (4, vI x1), (5, vI x2), (6, vI x3)] []) (l3 l4 l5 l6 : Int) (h : Hp) : Sim Γ w 0 (XX12_finds_p153 self50 l3 l4 l5 l6  h) h 153 [(0, vP 143), (3, vI l3), (4, vI l4), (5, vI l5), (6, vI l6)] [] := by
  unfold XX12_finds_p153
  refine S_iinc (kk := 4) g dX12_finds_153 rfl (by decide) rfl ?_
  refine S_goto (tgt := 50) g dX12_finds_156 (by decide) ?_
  refine S_sub g [1, 2, 3, 4, 0] rfl ?_
  exact hs50 _ _ _ _ _

theorem sX12_finds_p119 {Γ : Cx} {w : Wd} (hw : okM w) (g : Gd Γ cX12_finds 9 "GatePatchModel" (Option.some Jvm.ClassFile.FieldType.int) (rmd 7))  (self50 : Int → Int → Int → Int → Hp → OR) (hs50 : ∀ (x0 x1 x2 x3 : Int) (h : Hp), Sim Γ w 0 (self50 x0 x1 x2 x3 h) h 50 [(0, vP 143), (3, vI x0), (4, vI x1), (5, vI x2), (6, vI x3)] []) (self82 : Int → Int → Int → Int → Int → Int → Hp → OR) (hs82 : ∀ (x0 x1 x2 x3 x4 x5 : Int) (h : Hp), Sim Γ w 0 (self82 x0 x1 x2 x3 x4 x5 h) h 82 [(0, vP 143), (3, vI x0), (4, vI x1), (5, vI x2), (6, vI x3), (7, vI x4), (8, vI x5)] []) (l3 l4 l5 l6 l7 l8 : Int) (s1 s2 s3 : Int) (h : Hp) : Sim Γ w 0 (XX12_finds_p119 self50 self82 l3 l4 l5 l6 l7 l8 s1 s2 s3 h) h 119 [(0, vP 143), (3, vI l3), (4, vI l4), (5, vI l5), (6, vI l6), (7, vI l7), (8, vI l8)] [vI s3, vI s2, vI s1, vP 194] := by
  unfold XX12_finds_p119
  refine S_iand g dX12_finds_119 ?_
  refine S_iastore g dX12_finds_120 (at_194 hw) (fun h21 => ?_)
  refine S_iinc (kk := 6) g dX12_finds_121 rfl (by decide) rfl ?_
  refine S_goto (tgt := 82) g dX12_finds_124 (by decide) ?_
  refine S_sub g [1, 2, 3, 4, 5, 6, 0] rfl ?_
  exact hs82 _ _ _ _ _ _ _

theorem sX12_finds_L82 {Γ : Cx} {w : Wd} (hw : okM w) (g : Gd Γ cX12_finds 9 "GatePatchModel" (Option.some Jvm.ClassFile.FieldType.int) (rmd 7))  (self50 : Int → Int → Int → Int → Hp → OR) (hs50 : ∀ (x0 x1 x2 x3 : Int) (h : Hp), Sim Γ w 0 (self50 x0 x1 x2 x3 h) h 50 [(0, vP 143), (3, vI x0), (4, vI x1), (5, vI x2), (6, vI x3)] []) : ∀ (l3 l4 l5 l6 l7 l8 : Int) (h : Hp), Sim Γ w 0 (XX12_finds_L82 self50 l3 l4 l5 l6 l7 l8 h) h 82 [(0, vP 143), (3, vI l3), (4, vI l4), (5, vI l5), (6, vI l6), (7, vI l7), (8, vI l8)] [] := by
  refine S_lup6 (fun l3 l4 l5 l6 l7 l8 => [(0, vP 143), (3, vI l3), (4, vI l4), (5, vI l5), (6, vI l6), (7, vI l7), (8, vI l8)]) (fun self82 hs82 l3 l4 l5 l6 l7 l8 h => ?_) FU
  unfold XX12_finds_b82
  refine S_iload (kk := 6) g dX12_finds_82 rfl ?_
  refine S_iconst g dX12_finds_84 ⟨by decide, by decide⟩ ?_
  refine S_iload_n (kk := 1) g dX12_finds_85 rfl rfl ?_
  refine S_ishl g dX12_finds_86 ?_
  refine S_icmp_ge (tgt := 127) g dX12_finds_87 (by decide) ?_ ?_
  · refine S_aload_n (kk := 0) g dX12_finds_127 rfl rfl ?_
    refine S_getr g dX12_finds_128 fl_Mod_175 (at_143 hw) rfl (rc_143_69 hw) ?_
    refine S_iload (kk := 5) g dX12_finds_131 rfl ?_
    refine S_iaload g dX12_finds_133 (at_194 hw) ?_
    refine S_if_ne (tgt := 153) g dX12_finds_134 (by decide) ?_ ?_
    · refine S_sub g [0, 1, 2, 3, 4] rfl ?_
      exact sX12_finds_p153 hw g self50 hs50 _ _ _ _ _
    · refine S_iload (kk := 3) g dX12_finds_137 rfl ?_
      refine S_if_eq (tgt := 150) g dX12_finds_139 (by decide) ?_ ?_
      · refine S_bipush g dX12_finds_150 ⟨by decide, by decide⟩ rfl ?_
        exact S_ireturn g dX12_finds_152 rfl
      · refine S_aload_n (kk := 0) g dX12_finds_142 rfl rfl ?_
        refine S_iload (kk := 4) g dX12_finds_143 rfl ?_
        refine S_iload (kk := 2) g dX12_finds_145 rfl ?_
        refine S_callVv (As := [vI l6, vI l4]) g dX12_finds_147 (sX12_clashes hw _ _ _) rfl (at_143 hw) rfl im_X12_clashes se_X12_clashes cw_X12_clashes ml_Mod_390 ini_Mod nd_X12_clashes ⟨by decide, by decide⟩ (Nat.le_of_ble_eq_true rfl) (fun r17 h18 => ?_)
        refine S_bipush g dX12_finds_150 ⟨by decide, by decide⟩ rfl ?_
        exact S_ireturn g dX12_finds_152 rfl
  · refine S_aload_n (kk := 0) g dX12_finds_90 rfl rfl ?_
    refine S_getr g dX12_finds_91 fl_Mod_175 (at_143 hw) rfl (rc_143_69 hw) ?_
    refine S_iload (kk := 5) g dX12_finds_94 rfl ?_
    refine S_dup2 g dX12_finds_96 rfl rfl ?_
    refine S_iaload g dX12_finds_97 (at_194 hw) ?_
    refine S_aload_n (kk := 0) g dX12_finds_98 rfl rfl ?_
    refine S_iload (kk := 6) g dX12_finds_99 rfl ?_
    refine S_iload (kk := 4) g dX12_finds_101 rfl ?_
    refine S_callVi (As := [vI l8, vI l6]) g dX12_finds_103 (sX12_doesMend hw _ _ _) rfl (at_143 hw) rfl im_X12_doesMend se_X12_doesMend cw_X12_doesMend ml_Mod_326 ini_Mod nd_X12_doesMend ⟨by decide, by decide⟩ (Nat.le_of_ble_eq_true rfl) (fun r19 h20 => ?_)
    refine S_if_eq (tgt := 113) g dX12_finds_106 (by decide) ?_ ?_
    · refine S_iconst g dX12_finds_113 ⟨by decide, by decide⟩ ?_
      refine S_iload (kk := 6) g dX12_finds_114 rfl ?_
      refine S_ishl g dX12_finds_116 ?_
      refine S_iconst g dX12_finds_117 ⟨by decide, by decide⟩ ?_
      refine S_ixor g dX12_finds_118 ?_
      exact sX12_finds_p119 hw g self50 hs50 self82 hs82 _ _ _ _ _ _ _ _ _ _
    · refine S_iconst g dX12_finds_109 ⟨by decide, by decide⟩ ?_
      refine S_goto (tgt := 119) g dX12_finds_110 (by decide) ?_
      exact sX12_finds_p119 hw g self50 hs50 self82 hs82 _ _ _ _ _ _ _ _ _ _

theorem sX12_finds_L50 {Γ : Cx} {w : Wd} (hw : okM w) (g : Gd Γ cX12_finds 9 "GatePatchModel" (Option.some Jvm.ClassFile.FieldType.int) (rmd 7))   : ∀ (l3 l4 l5 l6 : Int) (h : Hp), Sim Γ w 0 (XX12_finds_L50  l3 l4 l5 l6 h) h 50 [(0, vP 143), (3, vI l3), (4, vI l4), (5, vI l5), (6, vI l6)] [] := by
  refine S_lup4 (fun l3 l4 l5 l6 => [(0, vP 143), (3, vI l3), (4, vI l4), (5, vI l5), (6, vI l6)]) (fun self50 hs50 l3 l4 l5 l6 h => ?_) FU
  unfold XX12_finds_b50
  refine S_iload (kk := 4) g dX12_finds_50 rfl ?_
  refine S_aload_n (kk := 0) g dX12_finds_52 rfl rfl ?_
  refine S_callVi (As := []) g dX12_finds_53 (sX12_cases hw  _) rfl (at_143 hw) rfl im_X12_cases se_X12_cases cw_X12_cases ml_Mod_242 ini_Mod nd_X12_cases ⟨by decide, by decide⟩ (Nat.le_of_ble_eq_true rfl) (fun r7 h8 => ?_)
  refine S_icmp_ge (tgt := 159) g dX12_finds_56 (by decide) ?_ ?_
  · refine S_aload_n (kk := 0) g dX12_finds_159 rfl rfl ?_
    refine S_iload (kk := 2) g dX12_finds_160 rfl ?_
    refine S_callVv (As := [vI l4]) g dX12_finds_162 (sX12_reckons hw _ _) rfl (at_143 hw) rfl im_X12_reckons se_X12_reckons cw_X12_reckons ml_Mod_384 ini_Mod nd_X12_reckons ⟨by decide, by decide⟩ (Nat.le_of_ble_eq_true rfl) (fun r9 h10 => ?_)
    refine S_iload_n (kk := 1) g dX12_finds_165 rfl rfl ?_
    refine S_iconst g dX12_finds_166 ⟨by decide, by decide⟩ ?_
    refine S_icmp_ne (tgt := 179) g dX12_finds_167 (by decide) ?_ ?_
    · refine S_aload_n (kk := 0) g dX12_finds_179 rfl rfl ?_
      refine S_iload (kk := 2) g dX12_finds_180 rfl ?_
      refine S_callVi (As := [vI l4]) g dX12_finds_182 (sX12_both hw _ _) rfl (at_143 hw) rfl im_X12_both se_X12_both cw_X12_both ml_Mod_396 ini_Mod nd_X12_both ⟨by decide, by decide⟩ (Nat.le_of_ble_eq_true rfl) (fun r11 h12 => ?_)
      exact S_ireturn g dX12_finds_185 rfl
    · refine S_aload_n (kk := 0) g dX12_finds_170 rfl rfl ?_
      refine S_iload (kk := 2) g dX12_finds_171 rfl ?_
      refine S_callVi (As := [vI l4]) g dX12_finds_173 (sX12_single hw _ _) rfl (at_143 hw) rfl im_X12_single se_X12_single cw_X12_single ml_Mod_393 ini_Mod nd_X12_single ⟨by decide, by decide⟩ (Nat.le_of_ble_eq_true rfl) (fun r13 h14 => ?_)
      refine S_goto (tgt := 185) g dX12_finds_176 (by decide) ?_
      exact S_ireturn g dX12_finds_185 rfl
  · refine S_aload_n (kk := 0) g dX12_finds_59 rfl rfl ?_
    refine S_getr g dX12_finds_60 fl_Mod_32 (at_143 hw) rfl (rc_143_9 hw) ?_
    refine S_iload (kk := 4) g dX12_finds_63 rfl ?_
    refine S_zaload g dX12_finds_65 (at_149 hw) ?_
    refine S_if_ne (tgt := 153) g dX12_finds_66 (by decide) ?_ ?_
    · exact sX12_finds_p153 hw g self50 hs50 _ _ _ _ _
    · refine S_aload_n (kk := 0) g dX12_finds_69 rfl rfl ?_
      refine S_iload (kk := 4) g dX12_finds_70 rfl ?_
      refine S_iload (kk := 2) g dX12_finds_72 rfl ?_
      refine S_callVi (As := [vI l6, vI l4]) g dX12_finds_74 (sX12_pattern hw _ _ _) rfl (at_143 hw) rfl im_X12_pattern se_X12_pattern cw_X12_pattern ml_Mod_387 ini_Mod nd_X12_pattern ⟨by decide, by decide⟩ (Nat.le_of_ble_eq_true rfl) (fun r15 h16 => ?_)
      refine S_istore g dX12_finds_77 (by decide) rfl ?_
      refine S_iconst g dX12_finds_79 ⟨by decide, by decide⟩ ?_
      refine S_istore g dX12_finds_80 (by decide) rfl ?_
      refine S_sub g [2, 3, 4, 5, 6, 1, 0] rfl ?_
      exact sX12_finds_L82 hw g self50 hs50 _ _ _ _ _ _ _

theorem sX12_finds_L20 {Γ : Cx} {w : Wd} (hw : okM w) (g : Gd Γ cX12_finds 9 "GatePatchModel" (Option.some Jvm.ClassFile.FieldType.int) (rmd 7))   : ∀ (l3 l4 l5 l6 : Int) (h : Hp), Sim Γ w 0 (XX12_finds_L20  l3 l4 l5 l6 h) h 20 [(0, vP 143), (3, vI l3), (4, vI l4), (5, vI l5), (6, vI l6)] [] := by
  refine S_lup4 (fun l3 l4 l5 l6 => [(0, vP 143), (3, vI l3), (4, vI l4), (5, vI l5), (6, vI l6)]) (fun self20 hs20 l3 l4 l5 l6 h => ?_) FU
  unfold XX12_finds_b20
  refine S_iload (kk := 4) g dX12_finds_20 rfl ?_
  refine S_bipush g dX12_finds_22 ⟨by decide, by decide⟩ rfl ?_
  refine S_icmp_ge (tgt := 47) g dX12_finds_24 (by decide) ?_ ?_
  · refine S_iconst g dX12_finds_47 ⟨by decide, by decide⟩ ?_
    refine S_istore g dX12_finds_48 (by decide) rfl ?_
    refine S_sub g [1, 2, 3, 4, 0] rfl ?_
    exact sX12_finds_L50 hw g _ _ _ _ _
  · refine S_aload_n (kk := 0) g dX12_finds_27 rfl rfl ?_
    refine S_getr g dX12_finds_28 fl_Mod_175 (at_143 hw) rfl (rc_143_69 hw) ?_
    refine S_iload (kk := 4) g dX12_finds_31 rfl ?_
    refine S_iconst g dX12_finds_33 ⟨by decide, by decide⟩ ?_
    refine S_iconst g dX12_finds_34 ⟨by decide, by decide⟩ ?_
    refine S_iload_n (kk := 1) g dX12_finds_35 rfl rfl ?_
    refine S_ishl g dX12_finds_36 ?_
    refine S_ishl g dX12_finds_37 ?_
    refine S_iconst g dX12_finds_38 ⟨by decide, by decide⟩ ?_
    refine S_isub g dX12_finds_39 ?_
    refine S_iastore g dX12_finds_40 (at_194 hw) (fun h22 => ?_)
    refine S_iinc (kk := 4) g dX12_finds_41 rfl (by decide) rfl ?_
    refine S_goto (tgt := 20) g dX12_finds_44 (by decide) ?_
    refine S_sub g [1, 2, 3, 4, 0] rfl ?_
    exact hs20 _ _ _ _ _

theorem sX12_finds {G : GG} {w : Wd} (hw : okM w) (x0 : Int) (x1 : Int) (x2 : Int) (x3 : Int) (x4 : Int) (h : Hp) : SC G w yX12_finds (Cond.code yX12_finds cX12_finds 9 (Option.some Jvm.ClassFile.FieldType.int)) 7 0 [vP 143, vI x0, vI x1, vI x2, vI x3, vI x4] (XX12_finds x0 x1 x2 x3 x4 h) h := by
  refine SC_of (own := "GatePatchModel") plain_Mod rfl (Nat.le_of_ble_eq_true rfl) (fun Γ hG g => ?_)
  subst hG
  show Sim Γ w 0 _ h 0 [(0, vP 143), (1, vI x0), (2, vI x1), (3, vI x2), (4, vI x3), (5, vI x4)] []
  unfold XX12_finds
  refine S_aload_n (kk := 0) g dX12_finds_0 rfl rfl ?_
  refine S_callVv (As := []) g dX12_finds_1 (sX12_prepares hw  _) rfl (at_143 hw) rfl im_X12_prepares se_X12_prepares cw_X12_prepares ml_Mod_336 ini_Mod nd_X12_prepares ⟨by decide, by decide⟩ (Nat.le_of_ble_eq_true rfl) (fun r1 h2 => ?_)
  refine S_aload_n (kk := 0) g dX12_finds_4 rfl rfl ?_
  refine S_iload_n (kk := 1) g dX12_finds_5 rfl rfl ?_
  refine S_iload_n (kk := 2) g dX12_finds_6 rfl rfl ?_
  refine S_iconst g dX12_finds_7 ⟨by decide, by decide⟩ ?_
  refine S_iload_n (kk := 3) g dX12_finds_8 rfl rfl ?_
  refine S_callVv (As := [vI x0, vI x1, vI (-1), vI x2]) g dX12_finds_9 (sX12_mendings hw _ _ _ _ _) rfl (at_143 hw) rfl im_X12_mendings se_X12_mendings cw_X12_mendings ml_Mod_339 ini_Mod nd_X12_mendings ⟨by decide, by decide⟩ (Nat.le_of_ble_eq_true rfl) (fun r3 h4 => ?_)
  refine S_aload_n (kk := 0) g dX12_finds_12 rfl rfl ?_
  refine S_iconst g dX12_finds_13 ⟨by decide, by decide⟩ ?_
  refine S_callVv (As := [vI 0]) g dX12_finds_14 (sX12_knows hw _ _) rfl (at_143 hw) rfl im_X12_knows se_X12_knows cw_X12_knows ml_Mod_310 ini_Mod nd_X12_knows ⟨by decide, by decide⟩ (Nat.le_of_ble_eq_true rfl) (fun r5 h6 => ?_)
  refine S_iconst g dX12_finds_17 ⟨by decide, by decide⟩ ?_
  refine S_istore g dX12_finds_18 (by decide) rfl ?_
  refine S_sub g [1, 4, 5, 6, 0] rfl ?_
  exact sX12_finds_L20 hw g _ _ _ _ _

def XX12_keepsPatch_b99   (self99 : Int → Int → Int → Hp → OR) (l3 l4 l5 : Int) (h : Hp) : OR :=
  if l3 ≤ l5 then some (0, h) else inb l5 2 (cal (XX12_trees 10 l4 (h 161 l5.toNat) l5 h) (fun r12 h13 => chk (l5 + 1) (self99 l3 l4 (l5 + 1) h13)))
def XX12_keepsPatch_L99   (l3 l4 l5 : Int) (h : Hp) : OR := lup3 (XX12_keepsPatch_b99 ) FU l3 l4 l5 h
def XX12_keepsPatch_b63   (self63 : Int → Int → Int → Hp → OR) (l3 l4 l5 : Int) (h : Hp) : OR :=
  if l4 ≤ l5 then cal (XX12_reckons l4 h) (fun r10 h11 => XX12_keepsPatch_L99 l3 l4 0 h11) else inb l5 3 (inb l5 3 (hm (wr h 160 l5.toNat (h 195 l5.toNat)) (fun h14 => chk (l5 + 1) (self63 l3 l4 (l5 + 1) h14))))
def XX12_keepsPatch_L63   (l3 l4 l5 : Int) (h : Hp) : OR := lup3 (XX12_keepsPatch_b63 ) FU l3 l4 l5 h
def XX12_keepsPatch (x0 : Int) (x1 : Int) (x2 : Int) (x3 : Int) (h : Hp) : OR :=
  zb 1 (hm (wr h 143 23 1) (fun h1 => zb 0 (hm (wr h1 143 24 0) (fun h2 => hm (wr h2 143 25 x2) (fun h3 => hm (wr h3 143 26 x3) (fun h4 => hm (wr h4 143 27 0) (fun h5 => inb 0 2 (hm (wr h5 159 (0 : Int).toNat x0) (fun h6 => inb 1 2 (hm (wr h6 159 (1 : Int).toNat x1) (fun h7 => inb 0 2 (hm (wr h7 161 (0 : Int).toNat (h7 143 71)) (fun h8 => inb 1 2 (hm (wr h8 161 (1 : Int).toNat (h8 143 72)) (fun h9 => XX12_keepsPatch_L63 x2 x3 0 h9)))))))))))))))
theorem sX12_keepsPatch_L99 {Γ : Cx} {w : Wd} (hw : okM w) (g : Gd Γ cX12_keepsPatch 7 "GatePatchModel" (Option.none : Option Jvm.ClassFile.FieldType) (rmd 16))   : ∀ (l3 l4 l5 : Int) (h : Hp), Sim Γ w 3 (XX12_keepsPatch_L99  l3 l4 l5 h) h 99 [(0, vP 143), (3, vI l3), (4, vI l4), (5, vI l5)] [] := by
  refine S_lup3 (fun l3 l4 l5 => [(0, vP 143), (3, vI l3), (4, vI l4), (5, vI l5)]) (fun self99 hs99 l3 l4 l5 h => ?_) FU
  unfold XX12_keepsPatch_b99
  refine S_iload (kk := 3) g dX12_keepsPatch_99 rfl ?_
  refine S_iload_n (kk := 1) g dX12_keepsPatch_101 rfl rfl ?_
  refine S_icmp_ge (tgt := 128) g dX12_keepsPatch_102 (by decide) ?_ ?_
  · exact S_return g dX12_keepsPatch_128 rfl
  · refine S_aload_n (kk := 0) g dX12_keepsPatch_105 rfl rfl ?_
    refine S_iload (kk := 2) g dX12_keepsPatch_106 rfl ?_
    refine S_aload_n (kk := 0) g dX12_keepsPatch_108 rfl rfl ?_
    refine S_getr g dX12_keepsPatch_109 fl_Mod_75 (at_143 hw) rfl (rc_143_30 hw) ?_
    refine S_iload (kk := 3) g dX12_keepsPatch_112 rfl ?_
    refine S_iaload g dX12_keepsPatch_114 (at_161 hw) ?_
    refine S_iload (kk := 3) g dX12_keepsPatch_115 rfl ?_
    refine S_callVi (As := [vI l4, vI (h 161 l5.toNat), vI l5]) g dX12_keepsPatch_117 (sX12_trees hw 10 _ _ _ _) rfl (at_143 hw) rfl im_X12_trees se_X12_trees cw_X12_trees ml_Mod_375 ini_Mod nd_X12_trees ⟨by decide, by decide⟩ (Nat.le_of_ble_eq_true rfl) (fun r12 h13 => ?_)
    refine S_istore g dX12_keepsPatch_120 (by decide) rfl ?_
    refine S_iinc (kk := 4) g dX12_keepsPatch_122 rfl (by decide) rfl ?_
    refine S_goto (tgt := 99) g dX12_keepsPatch_125 (by decide) ?_
    refine S_sub g [2, 3, 4, 0] rfl ?_
    exact hs99 _ _ _ _

theorem sX12_keepsPatch_L63 {Γ : Cx} {w : Wd} (hw : okM w) (g : Gd Γ cX12_keepsPatch 7 "GatePatchModel" (Option.none : Option Jvm.ClassFile.FieldType) (rmd 16))   : ∀ (l3 l4 l5 : Int) (h : Hp), Sim Γ w 3 (XX12_keepsPatch_L63  l3 l4 l5 h) h 63 [(0, vP 143), (3, vI l3), (4, vI l4), (5, vI l5)] [] := by
  refine S_lup3 (fun l3 l4 l5 => [(0, vP 143), (3, vI l3), (4, vI l4), (5, vI l5)]) (fun self63 hs63 l3 l4 l5 h => ?_) FU
  unfold XX12_keepsPatch_b63
  refine S_iload (kk := 3) g dX12_keepsPatch_63 rfl ?_
  refine S_iload (kk := 2) g dX12_keepsPatch_65 rfl ?_
  refine S_icmp_ge (tgt := 90) g dX12_keepsPatch_67 (by decide) ?_ ?_
  · refine S_aload_n (kk := 0) g dX12_keepsPatch_90 rfl rfl ?_
    refine S_iload (kk := 2) g dX12_keepsPatch_91 rfl ?_
    refine S_callVv (As := [vI l4]) g dX12_keepsPatch_93 (sX12_reckons hw _ _) rfl (at_143 hw) rfl im_X12_reckons se_X12_reckons cw_X12_reckons ml_Mod_384 ini_Mod nd_X12_reckons ⟨by decide, by decide⟩ (Nat.le_of_ble_eq_true rfl) (fun r10 h11 => ?_)
    refine S_iconst g dX12_keepsPatch_96 ⟨by decide, by decide⟩ ?_
    refine S_istore g dX12_keepsPatch_97 (by decide) rfl ?_
    refine S_sub g [1, 2, 3, 0] rfl ?_
    exact sX12_keepsPatch_L99 hw g _ _ _ _
  · refine S_aload_n (kk := 0) g dX12_keepsPatch_70 rfl rfl ?_
    refine S_getr g dX12_keepsPatch_71 fl_Mod_72 (at_143 hw) rfl (rc_143_29 hw) ?_
    refine S_iload (kk := 3) g dX12_keepsPatch_74 rfl ?_
    refine S_aload_n (kk := 0) g dX12_keepsPatch_76 rfl rfl ?_
    refine S_getr g dX12_keepsPatch_77 fl_Mod_178 (at_143 hw) rfl (rc_143_70 hw) ?_
    refine S_iload (kk := 3) g dX12_keepsPatch_80 rfl ?_
    refine S_iaload g dX12_keepsPatch_82 (at_195 hw) ?_
    refine S_iastore g dX12_keepsPatch_83 (at_160 hw) (fun h14 => ?_)
    refine S_iinc (kk := 3) g dX12_keepsPatch_84 rfl (by decide) rfl ?_
    refine S_goto (tgt := 63) g dX12_keepsPatch_87 (by decide) ?_
    refine S_sub g [1, 2, 3, 0] rfl ?_
    exact hs63 _ _ _ _

theorem sX12_keepsPatch {G : GG} {w : Wd} (hw : okM w) (x0 : Int) (x1 : Int) (x2 : Int) (x3 : Int) (h : Hp) : SC G w yX12_keepsPatch (Cond.code yX12_keepsPatch cX12_keepsPatch 7 (Option.none : Option Jvm.ClassFile.FieldType)) 16 3 [vP 143, vI x0, vI x1, vI x2, vI x3] (XX12_keepsPatch x0 x1 x2 x3 h) h := by
  refine SC_of (own := "GatePatchModel") plain_Mod rfl (Nat.le_of_ble_eq_true rfl) (fun Γ hG g => ?_)
  subst hG
  show Sim Γ w 3 _ h 0 [(0, vP 143), (1, vI x0), (2, vI x1), (3, vI x2), (4, vI x3)] []
  unfold XX12_keepsPatch
  refine S_aload_n (kk := 0) g dX12_keepsPatch_0 rfl rfl ?_
  refine S_iconst g dX12_keepsPatch_1 ⟨by decide, by decide⟩ ?_
  refine S_putz g dX12_keepsPatch_2 fp_Mod_229 (at_143 hw) rfl (fun h1 => ?_)
  refine S_aload_n (kk := 0) g dX12_keepsPatch_5 rfl rfl ?_
  refine S_iconst g dX12_keepsPatch_6 ⟨by decide, by decide⟩ ?_
  refine S_putz g dX12_keepsPatch_7 fp_Mod_405 (at_143 hw) rfl (fun h2 => ?_)
  refine S_aload_n (kk := 0) g dX12_keepsPatch_10 rfl rfl ?_
  refine S_iload_n (kk := 3) g dX12_keepsPatch_11 rfl rfl ?_
  refine S_puti g dX12_keepsPatch_12 fp_Mod_408 (at_143 hw) rfl (fun h3 => ?_)
  refine S_aload_n (kk := 0) g dX12_keepsPatch_15 rfl rfl ?_
  refine S_iload (kk := 4) g dX12_keepsPatch_16 rfl ?_
  refine S_puti g dX12_keepsPatch_18 fp_Mod_411 (at_143 hw) rfl (fun h4 => ?_)
  refine S_aload_n (kk := 0) g dX12_keepsPatch_21 rfl rfl ?_
  refine S_iconst g dX12_keepsPatch_22 ⟨by decide, by decide⟩ ?_
  refine S_puti g dX12_keepsPatch_23 fp_Mod_381 (at_143 hw) rfl (fun h5 => ?_)
  refine S_aload_n (kk := 0) g dX12_keepsPatch_26 rfl rfl ?_
  refine S_getr g dX12_keepsPatch_27 fl_Mod_69 (at_143 hw) rfl (rc_143_28 hw) ?_
  refine S_iconst g dX12_keepsPatch_30 ⟨by decide, by decide⟩ ?_
  refine S_iload_n (kk := 1) g dX12_keepsPatch_31 rfl rfl ?_
  refine S_iastore g dX12_keepsPatch_32 (at_159 hw) (fun h6 => ?_)
  refine S_aload_n (kk := 0) g dX12_keepsPatch_33 rfl rfl ?_
  refine S_getr g dX12_keepsPatch_34 fl_Mod_69 (at_143 hw) rfl (rc_143_28 hw) ?_
  refine S_iconst g dX12_keepsPatch_37 ⟨by decide, by decide⟩ ?_
  refine S_iload_n (kk := 2) g dX12_keepsPatch_38 rfl rfl ?_
  refine S_iastore g dX12_keepsPatch_39 (at_159 hw) (fun h7 => ?_)
  refine S_aload_n (kk := 0) g dX12_keepsPatch_40 rfl rfl ?_
  refine S_getr g dX12_keepsPatch_41 fl_Mod_75 (at_143 hw) rfl (rc_143_30 hw) ?_
  refine S_iconst g dX12_keepsPatch_44 ⟨by decide, by decide⟩ ?_
  refine S_aload_n (kk := 0) g dX12_keepsPatch_45 rfl rfl ?_
  refine S_geti g dX12_keepsPatch_46 fl_Mod_399 (at_143 hw) (Or.inl rfl) ?_
  refine S_iastore g dX12_keepsPatch_49 (at_161 hw) (fun h8 => ?_)
  refine S_aload_n (kk := 0) g dX12_keepsPatch_50 rfl rfl ?_
  refine S_getr g dX12_keepsPatch_51 fl_Mod_75 (at_143 hw) rfl (rc_143_30 hw) ?_
  refine S_iconst g dX12_keepsPatch_54 ⟨by decide, by decide⟩ ?_
  refine S_aload_n (kk := 0) g dX12_keepsPatch_55 rfl rfl ?_
  refine S_geti g dX12_keepsPatch_56 fl_Mod_402 (at_143 hw) (Or.inl rfl) ?_
  refine S_iastore g dX12_keepsPatch_59 (at_161 hw) (fun h9 => ?_)
  refine S_iconst g dX12_keepsPatch_60 ⟨by decide, by decide⟩ ?_
  refine S_istore g dX12_keepsPatch_61 (by decide) rfl ?_
  refine S_sub g [1, 4, 5, 0] rfl ?_
  exact sX12_keepsPatch_L63 hw g _ _ _ _

def XX12_patch_p226  (self180 : Int → Int → Int → Int → Int → Hp → OR) (l1 l2 l6 l7 l9 : Int) (h : Hp) : OR :=
  chk (l9 + 1) (self180 l1 l2 l6 l7 (l9 + 1) h)
def XX12_patch_b180   (self180 : Int → Int → Int → Int → Int → Hp → OR) (l1 l2 l6 l7 l9 : Int) (h : Hp) : OR :=
  if l7 ≤ l9 then cal (XX12_finds l1 l2 l6 l7 1 h) (fun r6 h7 => zb 0 (hm (wr h7 143 23 0) (fun h8 => if r6 = (-4) then some ((-4), h8) else cal (XX12_keepsPatch l1 l2 l6 l7 h8) (fun r9 h10 => some (r6, h10))))) else inb l9 3 (cal (XX12_looks 0 (h 195 l9.toNat) h) (fun r11 h12 => inb l1 48 (if (h12 185 l1.toNat) = 0 then if l6 ≤ 1 then XX12_patch_p226 self180 l1 l2 l6 l7 l9 h12 else inb l2 48 (if (h12 185 l2.toNat) = 0 then XX12_patch_p226 self180 l1 l2 l6 l7 l9 h12 else some ((-2), h12)) else some ((-2), h12))))
def XX12_patch_L180   (l1 l2 l6 l7 l9 : Int) (h : Hp) : OR := lup5 (XX12_patch_b180 ) FU l1 l2 l6 l7 l9 h
def XX12_patch_p145   (l1 l2 l3 l4 l5 l6 l7 : Int) (s0 : Int) (h : Hp) : OR :=
  if s0 = 0 then some ((-1), h) else inb 0 3 (hm (wr h 195 (0 : Int).toNat l3) (fun h3 => inb 1 3 (hm (wr h3 195 (1 : Int).toNat l4) (fun h4 => inb 2 3 (hm (wr h4 195 (2 : Int).toNat l5) (fun h5 => XX12_patch_L180 l1 l2 l6 l7 0 h5))))))
def XX12_patch_p144   (l1 l2 l3 l4 l5 l6 l7 : Int) (h : Hp) : OR :=
  XX12_patch_p145 l1 l2 l3 l4 l5 l6 l7 0 h
def XX12_patch_p140   (l1 l2 l3 l4 l5 l6 l7 : Int) (h : Hp) : OR :=
  XX12_patch_p145 l1 l2 l3 l4 l5 l6 l7 1 h
def XX12_patch_p117   (l1 l2 l3 l4 l5 l6 l7 : Int) (h : Hp) : OR :=
  if l5 = (-1) then XX12_patch_p140 l1 l2 l3 l4 l5 l6 l7 h else cal (XX12_isWire 0 l5 h) (fun r13 h14 => if r13 = 0 then XX12_patch_p144 l1 l2 l3 l4 l5 l6 l7 h14 else if l5 ≤ l4 then XX12_patch_p144 l1 l2 l3 l4 l5 l6 l7 h14 else XX12_patch_p140 l1 l2 l3 l4 l5 l6 l7 h14)
def XX12_patch_p95   (l1 l2 l3 l4 l5 l6 l7 : Int) (h : Hp) : OR :=
  if l4 = (-1) then XX12_patch_p117 l1 l2 l3 l4 l5 l6 l7 h else cal (XX12_isWire 0 l4 h) (fun r15 h16 => if r15 = 0 then XX12_patch_p144 l1 l2 l3 l4 l5 l6 l7 h16 else if l4 ≤ l3 then XX12_patch_p144 l1 l2 l3 l4 l5 l6 l7 h16 else XX12_patch_p117 l1 l2 l3 l4 l5 l6 l7 h16)
def XX12_patch_p74   (l1 l2 l3 l4 l5 l6 l7 : Int) (s0 : Int) (h : Hp) : OR :=
  if s0 = 0 then XX12_patch_p144 l1 l2 l3 l4 l5 l6 l7 h else if l3 = (-1) then XX12_patch_p95 l1 l2 l3 l4 l5 l6 l7 h else cal (XX12_isWire 0 l3 h) (fun r17 h18 => if r17 = 0 then XX12_patch_p144 l1 l2 l3 l4 l5 l6 l7 h18 else XX12_patch_p95 l1 l2 l3 l4 l5 l6 l7 h18)
def XX12_patch_p73   (l1 l2 l3 l4 l5 l6 l7 : Int) (h : Hp) : OR :=
  XX12_patch_p74 l1 l2 l3 l4 l5 l6 l7 0 h
def XX12_patch_p69   (l1 l2 l3 l4 l5 l6 l7 : Int) (h : Hp) : OR :=
  XX12_patch_p74 l1 l2 l3 l4 l5 l6 l7 1 h
def XX12_patch_p57   (l1 l2 l3 l4 l5 l6 l7 : Int) (h : Hp) : OR :=
  if l4 = (-1) then if l5 = (-1) then XX12_patch_p69 l1 l2 l3 l4 l5 l6 l7 h else XX12_patch_p73 l1 l2 l3 l4 l5 l6 l7 h else XX12_patch_p69 l1 l2 l3 l4 l5 l6 l7 h
def XX12_patch_p39   (l1 l2 l3 l4 l5 l6 : Int) (s0 : Int) (h : Hp) : OR :=
  if l6 ≤ 0 then XX12_patch_p73 l1 l2 l3 l4 l5 l6 s0 h else if l3 = (-1) then if l4 = (-1) then XX12_patch_p57 l1 l2 l3 l4 l5 l6 s0 h else XX12_patch_p73 l1 l2 l3 l4 l5 l6 s0 h else XX12_patch_p57 l1 l2 l3 l4 l5 l6 s0 h
def XX12_patch (x0 : Int) (x1 : Int) (x2 : Int) (x3 : Int) (x4 : Int) (h : Hp) : OR :=
  cal (XX12_arePoints x0 x1 (-1) h) (fun r1 h2 => if x2 = (-1) then XX12_patch_p39 x0 x1 x2 x3 x4 r1 0 h2 else if x3 = (-1) then XX12_patch_p39 x0 x1 x2 x3 x4 r1 1 h2 else if x4 = (-1) then XX12_patch_p39 x0 x1 x2 x3 x4 r1 2 h2 else XX12_patch_p39 x0 x1 x2 x3 x4 r1 3 h2)
theorem sX12_patch_p226 {Γ : Cx} {w : Wd} (hw : okM w) (g : Gd Γ cX12_patch 10 "GatePatchModel" (Option.some Jvm.ClassFile.FieldType.int) (rmd 17))  (self180 : Int → Int → Int → Int → Int → Hp → OR) (hs180 : ∀ (x0 x1 x2 x3 x4 : Int) (h : Hp), Sim Γ w 0 (self180 x0 x1 x2 x3 x4 h) h 180 [(0, vP 143), (1, vI x0), (2, vI x1), (6, vI x2), (7, vI x3), (9, vI x4)] []) (l1 l2 l6 l7 l9 : Int) (h : Hp) : Sim Γ w 0 (XX12_patch_p226 self180 l1 l2 l6 l7 l9  h) h 226 [(0, vP 143), (1, vI l1), (2, vI l2), (6, vI l6), (7, vI l7), (9, vI l9)] [] := by
  unfold XX12_patch_p226
  refine S_iinc (kk := 5) g dX12_patch_226 rfl (by decide) rfl ?_
  refine S_goto (tgt := 180) g dX12_patch_229 (by decide) ?_
  refine S_sub g [1, 2, 3, 4, 5, 0] rfl ?_
  exact hs180 _ _ _ _ _ _

theorem sX12_patch_L180 {Γ : Cx} {w : Wd} (hw : okM w) (g : Gd Γ cX12_patch 10 "GatePatchModel" (Option.some Jvm.ClassFile.FieldType.int) (rmd 17))   : ∀ (l1 l2 l6 l7 l9 : Int) (h : Hp), Sim Γ w 0 (XX12_patch_L180  l1 l2 l6 l7 l9 h) h 180 [(0, vP 143), (1, vI l1), (2, vI l2), (6, vI l6), (7, vI l7), (9, vI l9)] [] := by
  refine S_lup5 (fun l1 l2 l6 l7 l9 => [(0, vP 143), (1, vI l1), (2, vI l2), (6, vI l6), (7, vI l7), (9, vI l9)]) (fun self180 hs180 l1 l2 l6 l7 l9 h => ?_) FU
  unfold XX12_patch_b180
  refine S_iload (kk := 5) g dX12_patch_180 rfl ?_
  refine S_iload (kk := 4) g dX12_patch_182 rfl ?_
  refine S_icmp_ge (tgt := 232) g dX12_patch_184 (by decide) ?_ ?_
  · refine S_aload_n (kk := 0) g dX12_patch_232 rfl rfl ?_
    refine S_iload_n (kk := 1) g dX12_patch_233 rfl rfl ?_
    refine S_iload_n (kk := 2) g dX12_patch_234 rfl rfl ?_
    refine S_iload (kk := 3) g dX12_patch_235 rfl ?_
    refine S_iload (kk := 4) g dX12_patch_237 rfl ?_
    refine S_iconst g dX12_patch_239 ⟨by decide, by decide⟩ ?_
    refine S_callVi (As := [vI l1, vI l2, vI l6, vI l7, vI 1]) g dX12_patch_240 (sX12_finds hw _ _ _ _ _ _) rfl (at_143 hw) rfl im_X12_finds se_X12_finds cw_X12_finds ml_Mod_414 ini_Mod nd_X12_finds ⟨by decide, by decide⟩ (Nat.le_of_ble_eq_true rfl) (fun r6 h7 => ?_)
    refine S_istore g dX12_patch_243 (by decide) rfl ?_
    refine S_aload_n (kk := 1) g dX12_patch_245 rfl rfl ?_
    refine S_iconst g dX12_patch_246 ⟨by decide, by decide⟩ ?_
    refine S_putz g dX12_patch_247 fp_Mod_229 (at_143 hw) rfl (fun h8 => ?_)
    refine S_iload (kk := 0) g dX12_patch_250 rfl ?_
    refine S_bipush g dX12_patch_252 ⟨by decide, by decide⟩ rfl ?_
    refine S_icmp_ne (tgt := 260) g dX12_patch_254 (by decide) ?_ ?_
    · refine S_aload_n (kk := 1) g dX12_patch_260 rfl rfl ?_
      refine S_iload_n (kk := 2) g dX12_patch_261 rfl rfl ?_
      refine S_iload_n (kk := 3) g dX12_patch_262 rfl rfl ?_
      refine S_iload (kk := 4) g dX12_patch_263 rfl ?_
      refine S_iload (kk := 5) g dX12_patch_265 rfl ?_
      refine S_callVv (As := [vI l1, vI l2, vI l6, vI l7]) g dX12_patch_267 (sX12_keepsPatch hw _ _ _ _ _) rfl (at_143 hw) rfl im_X12_keepsPatch se_X12_keepsPatch cw_X12_keepsPatch ml_Mod_418 ini_Mod nd_X12_keepsPatch ⟨by decide, by decide⟩ (Nat.le_of_ble_eq_true rfl) (fun r9 h10 => ?_)
      refine S_iload (kk := 0) g dX12_patch_270 rfl ?_
      exact S_ireturn g dX12_patch_272 rfl
    · refine S_bipush g dX12_patch_257 ⟨by decide, by decide⟩ rfl ?_
      exact S_ireturn g dX12_patch_259 rfl
  · refine S_aload_n (kk := 0) g dX12_patch_187 rfl rfl ?_
    refine S_iconst g dX12_patch_188 ⟨by decide, by decide⟩ ?_
    refine S_aload_n (kk := 0) g dX12_patch_189 rfl rfl ?_
    refine S_getr g dX12_patch_190 fl_Mod_178 (at_143 hw) rfl (rc_143_70 hw) ?_
    refine S_iload (kk := 5) g dX12_patch_193 rfl ?_
    refine S_iaload g dX12_patch_195 (at_195 hw) ?_
    refine S_callVv (As := [vI 0, vI (h 195 l9.toNat)]) g dX12_patch_196 (sX12_looks hw _ _ _) rfl (at_143 hw) rfl im_X12_looks se_X12_looks cw_X12_looks ml_Mod_277 ini_Mod nd_X12_looks ⟨by decide, by decide⟩ (Nat.le_of_ble_eq_true rfl) (fun r11 h12 => ?_)
    refine S_aload_n (kk := 0) g dX12_patch_199 rfl rfl ?_
    refine S_getr g dX12_patch_200 fl_Mod_148 (at_143 hw) rfl (rc_143_58 hw) ?_
    refine S_iload_n (kk := 1) g dX12_patch_203 rfl rfl ?_
    refine S_zaload g dX12_patch_204 (at_185 hw) ?_
    refine S_if_ne (tgt := 223) g dX12_patch_205 (by decide) ?_ ?_
    · refine S_bipush g dX12_patch_223 ⟨by decide, by decide⟩ rfl ?_
      exact S_ireturn g dX12_patch_225 rfl
    · refine S_iload (kk := 3) g dX12_patch_208 rfl ?_
      refine S_iconst g dX12_patch_210 ⟨by decide, by decide⟩ ?_
      refine S_icmp_le (tgt := 226) g dX12_patch_211 (by decide) ?_ ?_
      · exact sX12_patch_p226 hw g self180 hs180 _ _ _ _ _ _
      · refine S_aload_n (kk := 0) g dX12_patch_214 rfl rfl ?_
        refine S_getr g dX12_patch_215 fl_Mod_148 (at_143 hw) rfl (rc_143_58 hw) ?_
        refine S_iload_n (kk := 2) g dX12_patch_218 rfl rfl ?_
        refine S_zaload g dX12_patch_219 (at_185 hw) ?_
        refine S_if_eq (tgt := 226) g dX12_patch_220 (by decide) ?_ ?_
        · exact sX12_patch_p226 hw g self180 hs180 _ _ _ _ _ _
        · refine S_bipush g dX12_patch_223 ⟨by decide, by decide⟩ rfl ?_
          exact S_ireturn g dX12_patch_225 rfl

theorem sX12_patch_p145 {Γ : Cx} {w : Wd} (hw : okM w) (g : Gd Γ cX12_patch 10 "GatePatchModel" (Option.some Jvm.ClassFile.FieldType.int) (rmd 17))   (l1 l2 l3 l4 l5 l6 l7 : Int) (s0 : Int) (h : Hp) : Sim Γ w 0 (XX12_patch_p145  l1 l2 l3 l4 l5 l6 l7 s0 h) h 145 [(0, vP 143), (1, vI l1), (2, vI l2), (3, vI l3), (4, vI l4), (5, vI l5), (6, vI l6), (7, vI l7)] [vI s0] := by
  unfold XX12_patch_p145
  refine S_istore g dX12_patch_145 (by decide) rfl ?_
  refine S_iload (kk := 0) g dX12_patch_147 rfl ?_
  refine S_if_ne (tgt := 154) g dX12_patch_149 (by decide) ?_ ?_
  · refine S_aload_n (kk := 1) g dX12_patch_154 rfl rfl ?_
    refine S_getr g dX12_patch_155 fl_Mod_178 (at_143 hw) rfl (rc_143_70 hw) ?_
    refine S_iconst g dX12_patch_158 ⟨by decide, by decide⟩ ?_
    refine S_iload_n (kk := 4) g dX12_patch_159 rfl rfl ?_
    refine S_iastore g dX12_patch_160 (at_195 hw) (fun h3 => ?_)
    refine S_aload_n (kk := 1) g dX12_patch_161 rfl rfl ?_
    refine S_getr g dX12_patch_162 fl_Mod_178 (at_143 hw) rfl (rc_143_70 hw) ?_
    refine S_iconst g dX12_patch_165 ⟨by decide, by decide⟩ ?_
    refine S_iload (kk := 5) g dX12_patch_166 rfl ?_
    refine S_iastore g dX12_patch_168 (at_195 hw) (fun h4 => ?_)
    refine S_aload_n (kk := 1) g dX12_patch_169 rfl rfl ?_
    refine S_getr g dX12_patch_170 fl_Mod_178 (at_143 hw) rfl (rc_143_70 hw) ?_
    refine S_iconst g dX12_patch_173 ⟨by decide, by decide⟩ ?_
    refine S_iload (kk := 6) g dX12_patch_174 rfl ?_
    refine S_iastore g dX12_patch_176 (at_195 hw) (fun h5 => ?_)
    refine S_iconst g dX12_patch_177 ⟨by decide, by decide⟩ ?_
    refine S_istore g dX12_patch_178 (by decide) rfl ?_
    refine S_sub g [2, 3, 4, 8, 9, 0] rfl ?_
    exact sX12_patch_L180 hw g _ _ _ _ _ _
  · refine S_iconst g dX12_patch_152 ⟨by decide, by decide⟩ ?_
    exact S_ireturn g dX12_patch_153 rfl

theorem sX12_patch_p144 {Γ : Cx} {w : Wd} (hw : okM w) (g : Gd Γ cX12_patch 10 "GatePatchModel" (Option.some Jvm.ClassFile.FieldType.int) (rmd 17))   (l1 l2 l3 l4 l5 l6 l7 : Int) (h : Hp) : Sim Γ w 0 (XX12_patch_p144  l1 l2 l3 l4 l5 l6 l7  h) h 144 [(0, vP 143), (1, vI l1), (2, vI l2), (3, vI l3), (4, vI l4), (5, vI l5), (6, vI l6), (7, vI l7)] [] := by
  unfold XX12_patch_p144
  refine S_iconst g dX12_patch_144 ⟨by decide, by decide⟩ ?_
  exact sX12_patch_p145 hw g _ _ _ _ _ _ _ _ _

theorem sX12_patch_p140 {Γ : Cx} {w : Wd} (hw : okM w) (g : Gd Γ cX12_patch 10 "GatePatchModel" (Option.some Jvm.ClassFile.FieldType.int) (rmd 17))   (l1 l2 l3 l4 l5 l6 l7 : Int) (h : Hp) : Sim Γ w 0 (XX12_patch_p140  l1 l2 l3 l4 l5 l6 l7  h) h 140 [(0, vP 143), (1, vI l1), (2, vI l2), (3, vI l3), (4, vI l4), (5, vI l5), (6, vI l6), (7, vI l7)] [] := by
  unfold XX12_patch_p140
  refine S_iconst g dX12_patch_140 ⟨by decide, by decide⟩ ?_
  refine S_goto (tgt := 145) g dX12_patch_141 (by decide) ?_
  exact sX12_patch_p145 hw g _ _ _ _ _ _ _ _ _

theorem sX12_patch_p117 {Γ : Cx} {w : Wd} (hw : okM w) (g : Gd Γ cX12_patch 10 "GatePatchModel" (Option.some Jvm.ClassFile.FieldType.int) (rmd 17))   (l1 l2 l3 l4 l5 l6 l7 : Int) (h : Hp) : Sim Γ w 0 (XX12_patch_p117  l1 l2 l3 l4 l5 l6 l7  h) h 117 [(0, vP 143), (1, vI l1), (2, vI l2), (3, vI l3), (4, vI l4), (5, vI l5), (6, vI l6), (7, vI l7)] [] := by
  unfold XX12_patch_p117
  refine S_iload (kk := 5) g dX12_patch_117 rfl ?_
  refine S_iconst g dX12_patch_119 ⟨by decide, by decide⟩ ?_
  refine S_icmp_eq (tgt := 140) g dX12_patch_120 (by decide) ?_ ?_
  · exact sX12_patch_p140 hw g _ _ _ _ _ _ _ _
  · refine S_aload_n (kk := 0) g dX12_patch_123 rfl rfl ?_
    refine S_iconst g dX12_patch_124 ⟨by decide, by decide⟩ ?_
    refine S_iload (kk := 5) g dX12_patch_125 rfl ?_
    refine S_callVi (As := [vI 0, vI l5]) g dX12_patch_127 (sX12_isWire hw _ _ _) rfl (at_143 hw) rfl im_X12_isWire se_X12_isWire cw_X12_isWire ml_Mod_245 ini_Mod nd_X12_isWire ⟨by decide, by decide⟩ (Nat.le_of_ble_eq_true rfl) (fun r13 h14 => ?_)
    refine S_if_eq (tgt := 144) g dX12_patch_130 (by decide) ?_ ?_
    · exact sX12_patch_p144 hw g _ _ _ _ _ _ _ _
    · refine S_iload (kk := 5) g dX12_patch_133 rfl ?_
      refine S_iload (kk := 4) g dX12_patch_135 rfl ?_
      refine S_icmp_le (tgt := 144) g dX12_patch_137 (by decide) ?_ ?_
      · exact sX12_patch_p144 hw g _ _ _ _ _ _ _ _
      · exact sX12_patch_p140 hw g _ _ _ _ _ _ _ _

theorem sX12_patch_p95 {Γ : Cx} {w : Wd} (hw : okM w) (g : Gd Γ cX12_patch 10 "GatePatchModel" (Option.some Jvm.ClassFile.FieldType.int) (rmd 17))   (l1 l2 l3 l4 l5 l6 l7 : Int) (h : Hp) : Sim Γ w 0 (XX12_patch_p95  l1 l2 l3 l4 l5 l6 l7  h) h 95 [(0, vP 143), (1, vI l1), (2, vI l2), (3, vI l3), (4, vI l4), (5, vI l5), (6, vI l6), (7, vI l7)] [] := by
  unfold XX12_patch_p95
  refine S_iload (kk := 4) g dX12_patch_95 rfl ?_
  refine S_iconst g dX12_patch_97 ⟨by decide, by decide⟩ ?_
  refine S_icmp_eq (tgt := 117) g dX12_patch_98 (by decide) ?_ ?_
  · exact sX12_patch_p117 hw g _ _ _ _ _ _ _ _
  · refine S_aload_n (kk := 0) g dX12_patch_101 rfl rfl ?_
    refine S_iconst g dX12_patch_102 ⟨by decide, by decide⟩ ?_
    refine S_iload (kk := 4) g dX12_patch_103 rfl ?_
    refine S_callVi (As := [vI 0, vI l4]) g dX12_patch_105 (sX12_isWire hw _ _ _) rfl (at_143 hw) rfl im_X12_isWire se_X12_isWire cw_X12_isWire ml_Mod_245 ini_Mod nd_X12_isWire ⟨by decide, by decide⟩ (Nat.le_of_ble_eq_true rfl) (fun r15 h16 => ?_)
    refine S_if_eq (tgt := 144) g dX12_patch_108 (by decide) ?_ ?_
    · exact sX12_patch_p144 hw g _ _ _ _ _ _ _ _
    · refine S_iload (kk := 4) g dX12_patch_111 rfl ?_
      refine S_iload_n (kk := 3) g dX12_patch_113 rfl rfl ?_
      refine S_icmp_le (tgt := 144) g dX12_patch_114 (by decide) ?_ ?_
      · exact sX12_patch_p144 hw g _ _ _ _ _ _ _ _
      · exact sX12_patch_p117 hw g _ _ _ _ _ _ _ _

theorem sX12_patch_p74 {Γ : Cx} {w : Wd} (hw : okM w) (g : Gd Γ cX12_patch 10 "GatePatchModel" (Option.some Jvm.ClassFile.FieldType.int) (rmd 17))   (l1 l2 l3 l4 l5 l6 l7 : Int) (s0 : Int) (h : Hp) : Sim Γ w 0 (XX12_patch_p74  l1 l2 l3 l4 l5 l6 l7 s0 h) h 74 [(0, vP 143), (1, vI l1), (2, vI l2), (3, vI l3), (4, vI l4), (5, vI l5), (6, vI l6), (7, vI l7)] [vI s0] := by
  unfold XX12_patch_p74
  refine S_istore g dX12_patch_74 (by decide) rfl ?_
  refine S_iload (kk := 0) g dX12_patch_76 rfl ?_
  refine S_if_eq (tgt := 144) g dX12_patch_78 (by decide) ?_ ?_
  · refine S_sub g [1, 2, 3, 4, 5, 6, 7, 8] rfl ?_
    exact sX12_patch_p144 hw g _ _ _ _ _ _ _ _
  · refine S_iload_n (kk := 4) g dX12_patch_81 rfl rfl ?_
    refine S_iconst g dX12_patch_82 ⟨by decide, by decide⟩ ?_
    refine S_icmp_eq (tgt := 95) g dX12_patch_83 (by decide) ?_ ?_
    · refine S_sub g [1, 2, 3, 4, 5, 6, 7, 8] rfl ?_
      exact sX12_patch_p95 hw g _ _ _ _ _ _ _ _
    · refine S_aload_n (kk := 1) g dX12_patch_86 rfl rfl ?_
      refine S_iconst g dX12_patch_87 ⟨by decide, by decide⟩ ?_
      refine S_iload_n (kk := 4) g dX12_patch_88 rfl rfl ?_
      refine S_callVi (As := [vI 0, vI l3]) g dX12_patch_89 (sX12_isWire hw _ _ _) rfl (at_143 hw) rfl im_X12_isWire se_X12_isWire cw_X12_isWire ml_Mod_245 ini_Mod nd_X12_isWire ⟨by decide, by decide⟩ (Nat.le_of_ble_eq_true rfl) (fun r17 h18 => ?_)
      refine S_if_eq (tgt := 144) g dX12_patch_92 (by decide) ?_ ?_
      · refine S_sub g [1, 2, 3, 4, 5, 6, 7, 8] rfl ?_
        exact sX12_patch_p144 hw g _ _ _ _ _ _ _ _
      · refine S_sub g [1, 2, 3, 4, 5, 6, 7, 8] rfl ?_
        exact sX12_patch_p95 hw g _ _ _ _ _ _ _ _

theorem sX12_patch_p73 {Γ : Cx} {w : Wd} (hw : okM w) (g : Gd Γ cX12_patch 10 "GatePatchModel" (Option.some Jvm.ClassFile.FieldType.int) (rmd 17))   (l1 l2 l3 l4 l5 l6 l7 : Int) (h : Hp) : Sim Γ w 0 (XX12_patch_p73  l1 l2 l3 l4 l5 l6 l7  h) h 73 [(0, vP 143), (1, vI l1), (2, vI l2), (3, vI l3), (4, vI l4), (5, vI l5), (6, vI l6), (7, vI l7)] [] := by
  unfold XX12_patch_p73
  refine S_iconst g dX12_patch_73 ⟨by decide, by decide⟩ ?_
  exact sX12_patch_p74 hw g _ _ _ _ _ _ _ _ _

theorem sX12_patch_p69 {Γ : Cx} {w : Wd} (hw : okM w) (g : Gd Γ cX12_patch 10 "GatePatchModel" (Option.some Jvm.ClassFile.FieldType.int) (rmd 17))   (l1 l2 l3 l4 l5 l6 l7 : Int) (h : Hp) : Sim Γ w 0 (XX12_patch_p69  l1 l2 l3 l4 l5 l6 l7  h) h 69 [(0, vP 143), (1, vI l1), (2, vI l2), (3, vI l3), (4, vI l4), (5, vI l5), (6, vI l6), (7, vI l7)] [] := by
  unfold XX12_patch_p69
  refine S_iconst g dX12_patch_69 ⟨by decide, by decide⟩ ?_
  refine S_goto (tgt := 74) g dX12_patch_70 (by decide) ?_
  exact sX12_patch_p74 hw g _ _ _ _ _ _ _ _ _

theorem sX12_patch_p57 {Γ : Cx} {w : Wd} (hw : okM w) (g : Gd Γ cX12_patch 10 "GatePatchModel" (Option.some Jvm.ClassFile.FieldType.int) (rmd 17))   (l1 l2 l3 l4 l5 l6 l7 : Int) (h : Hp) : Sim Γ w 0 (XX12_patch_p57  l1 l2 l3 l4 l5 l6 l7  h) h 57 [(0, vP 143), (1, vI l1), (2, vI l2), (3, vI l3), (4, vI l4), (5, vI l5), (6, vI l6), (7, vI l7)] [] := by
  unfold XX12_patch_p57
  refine S_iload (kk := 4) g dX12_patch_57 rfl ?_
  refine S_iconst g dX12_patch_59 ⟨by decide, by decide⟩ ?_
  refine S_icmp_ne (tgt := 69) g dX12_patch_60 (by decide) ?_ ?_
  · exact sX12_patch_p69 hw g _ _ _ _ _ _ _ _
  · refine S_iload (kk := 5) g dX12_patch_63 rfl ?_
    refine S_iconst g dX12_patch_65 ⟨by decide, by decide⟩ ?_
    refine S_icmp_ne (tgt := 73) g dX12_patch_66 (by decide) ?_ ?_
    · exact sX12_patch_p73 hw g _ _ _ _ _ _ _ _
    · exact sX12_patch_p69 hw g _ _ _ _ _ _ _ _

theorem sX12_patch_p39 {Γ : Cx} {w : Wd} (hw : okM w) (g : Gd Γ cX12_patch 10 "GatePatchModel" (Option.some Jvm.ClassFile.FieldType.int) (rmd 17))   (l1 l2 l3 l4 l5 l6 : Int) (s0 : Int) (h : Hp) : Sim Γ w 0 (XX12_patch_p39  l1 l2 l3 l4 l5 l6 s0 h) h 39 [(0, vP 143), (1, vI l1), (2, vI l2), (3, vI l3), (4, vI l4), (5, vI l5), (6, vI l6)] [vI s0] := by
  unfold XX12_patch_p39
  refine S_istore g dX12_patch_39 (by decide) rfl ?_
  refine S_iload (kk := 7) g dX12_patch_41 rfl ?_
  refine S_if_le (tgt := 73) g dX12_patch_43 (by decide) ?_ ?_
  · refine S_sub g [1, 2, 3, 4, 5, 6, 7, 0] rfl ?_
    exact sX12_patch_p73 hw g _ _ _ _ _ _ _ _
  · refine S_iload_n (kk := 4) g dX12_patch_46 rfl rfl ?_
    refine S_iconst g dX12_patch_47 ⟨by decide, by decide⟩ ?_
    refine S_icmp_ne (tgt := 57) g dX12_patch_48 (by decide) ?_ ?_
    · refine S_sub g [1, 2, 3, 4, 5, 6, 7, 0] rfl ?_
      exact sX12_patch_p57 hw g _ _ _ _ _ _ _ _
    · refine S_iload (kk := 5) g dX12_patch_51 rfl ?_
      refine S_iconst g dX12_patch_53 ⟨by decide, by decide⟩ ?_
      refine S_icmp_ne (tgt := 73) g dX12_patch_54 (by decide) ?_ ?_
      · refine S_sub g [1, 2, 3, 4, 5, 6, 7, 0] rfl ?_
        exact sX12_patch_p73 hw g _ _ _ _ _ _ _ _
      · refine S_sub g [1, 2, 3, 4, 5, 6, 7, 0] rfl ?_
        exact sX12_patch_p57 hw g _ _ _ _ _ _ _ _

theorem sX12_patch {G : GG} {w : Wd} (hw : okM w) (x0 : Int) (x1 : Int) (x2 : Int) (x3 : Int) (x4 : Int) (h : Hp) : SC G w yX12_patch (Cond.code yX12_patch cX12_patch 10 (Option.some Jvm.ClassFile.FieldType.int)) 17 0 [vP 143, vI x0, vI x1, vI x2, vI x3, vI x4] (XX12_patch x0 x1 x2 x3 x4 h) h := by
  refine SC_of (own := "GatePatchModel") plain_Mod rfl (Nat.le_of_ble_eq_true rfl) (fun Γ hG g => ?_)
  subst hG
  show Sim Γ w 0 _ h 0 [(0, vP 143), (1, vI x0), (2, vI x1), (3, vI x2), (4, vI x3), (5, vI x4)] []
  unfold XX12_patch
  refine S_aload_n (kk := 0) g dX12_patch_0 rfl rfl ?_
  refine S_iload_n (kk := 1) g dX12_patch_1 rfl rfl ?_
  refine S_iload_n (kk := 2) g dX12_patch_2 rfl rfl ?_
  refine S_iconst g dX12_patch_3 ⟨by decide, by decide⟩ ?_
  refine S_callVi (As := [vI x0, vI x1, vI (-1)]) g dX12_patch_4 (sX12_arePoints hw _ _ _ _) rfl (at_143 hw) rfl im_X12_arePoints se_X12_arePoints cw_X12_arePoints ml_Mod_332 ini_Mod nd_X12_arePoints ⟨by decide, by decide⟩ (Nat.le_of_ble_eq_true rfl) (fun r1 h2 => ?_)
  refine S_istore g dX12_patch_7 (by decide) rfl ?_
  refine S_iload_n (kk := 4) g dX12_patch_9 rfl rfl ?_
  refine S_iconst g dX12_patch_10 ⟨by decide, by decide⟩ ?_
  refine S_icmp_ne (tgt := 18) g dX12_patch_11 (by decide) ?_ ?_
  · refine S_iload (kk := 5) g dX12_patch_18 rfl ?_
    refine S_iconst g dX12_patch_20 ⟨by decide, by decide⟩ ?_
    refine S_icmp_ne (tgt := 28) g dX12_patch_21 (by decide) ?_ ?_
    · refine S_iload (kk := 6) g dX12_patch_28 rfl ?_
      refine S_iconst g dX12_patch_30 ⟨by decide, by decide⟩ ?_
      refine S_icmp_ne (tgt := 38) g dX12_patch_31 (by decide) ?_ ?_
      · refine S_iconst g dX12_patch_38 ⟨by decide, by decide⟩ ?_
        refine S_sub g [1, 2, 3, 4, 5, 6, 0] rfl ?_
        exact sX12_patch_p39 hw g _ _ _ _ _ _ _ _
      · refine S_iconst g dX12_patch_34 ⟨by decide, by decide⟩ ?_
        refine S_goto (tgt := 39) g dX12_patch_35 (by decide) ?_
        refine S_sub g [1, 2, 3, 4, 5, 6, 0] rfl ?_
        exact sX12_patch_p39 hw g _ _ _ _ _ _ _ _
    · refine S_iconst g dX12_patch_24 ⟨by decide, by decide⟩ ?_
      refine S_goto (tgt := 39) g dX12_patch_25 (by decide) ?_
      refine S_sub g [1, 2, 3, 4, 5, 6, 0] rfl ?_
      exact sX12_patch_p39 hw g _ _ _ _ _ _ _ _
  · refine S_iconst g dX12_patch_14 ⟨by decide, by decide⟩ ?_
    refine S_goto (tgt := 39) g dX12_patch_15 (by decide) ?_
    refine S_sub g [1, 2, 3, 4, 5, 6, 0] rfl ?_
    exact sX12_patch_p39 hw g _ _ _ _ _ _ _ _

def XX12_clash (x0 : Int) (h : Hp) : OR :=
  if x0 = 0 then some ((h 143 21), h) else if x0 = 1 then some ((h 143 22), h) else some ((-1), h)
theorem sX12_clash {G : GG} {w : Wd} (hw : okM w) (x0 : Int) (h : Hp) : SC G w yX12_clash (Cond.code yX12_clash cX12_clash 2 (Option.some Jvm.ClassFile.FieldType.int)) 1 0 [vP 143, vI x0] (XX12_clash x0 h) h := by
  refine SC_of (own := "GatePatchModel") plain_Mod rfl (Nat.le_of_ble_eq_true rfl) (fun Γ hG g => ?_)
  subst hG
  show Sim Γ w 0 _ h 0 [(0, vP 143), (1, vI x0)] []
  unfold XX12_clash
  refine S_iload_n (kk := 1) g dX12_clash_0 rfl rfl ?_
  refine S_if_ne (tgt := 11) g dX12_clash_1 (by decide) ?_ ?_
  · refine S_iload_n (kk := 1) g dX12_clash_11 rfl rfl ?_
    refine S_iconst g dX12_clash_12 ⟨by decide, by decide⟩ ?_
    refine S_icmp_ne (tgt := 23) g dX12_clash_13 (by decide) ?_ ?_
    · refine S_iconst g dX12_clash_23 ⟨by decide, by decide⟩ ?_
      exact S_ireturn g dX12_clash_24 rfl
    · refine S_aload_n (kk := 0) g dX12_clash_16 rfl rfl ?_
      refine S_geti g dX12_clash_17 fl_Mod_66 (at_143 hw) (Or.inl rfl) ?_
      refine S_goto (tgt := 24) g dX12_clash_20 (by decide) ?_
      exact S_ireturn g dX12_clash_24 rfl
  · refine S_aload_n (kk := 0) g dX12_clash_4 rfl rfl ?_
    refine S_geti g dX12_clash_5 fl_Mod_63 (at_143 hw) (Or.inl rfl) ?_
    refine S_goto (tgt := 24) g dX12_clash_8 (by decide) ?_
    exact S_ireturn g dX12_clash_24 rfl

def XX12_marked_p26  (self4 : Int → Int → Hp → OR) (l2 : Int) (s0 s1 : Int) (h : Hp) : OR :=
  chk (s0 + s1) (nm (s0 + s1) (fun v1 => chk (l2 + 1) (self4 v1 (l2 + 1) h)))
def XX12_marked_b4   (self4 : Int → Int → Hp → OR) (l1 l2 : Int) (h : Hp) : OR :=
  if 48 ≤ l2 then some (l1, h) else inb l2 48 (if (h 157 l2.toNat) = (-1) then XX12_marked_p26 self4 l2 l1 0 h else XX12_marked_p26 self4 l2 l1 1 h)
def XX12_marked_L4   (l1 l2 : Int) (h : Hp) : OR := lup2 (XX12_marked_b4 ) FU l1 l2 h
def XX12_marked  (h : Hp) : OR :=
  XX12_marked_L4 0 0 h
theorem sX12_marked_p26 {Γ : Cx} {w : Wd} (hw : okM w) (g : Gd Γ cX12_marked 3 "GatePatchModel" (Option.some Jvm.ClassFile.FieldType.int) (rmd 1))  (self4 : Int → Int → Hp → OR) (hs4 : ∀ (x0 x1 : Int) (h : Hp), Sim Γ w 0 (self4 x0 x1 h) h 4 [(0, vP 143), (1, vI x0), (2, vI x1)] []) (l2 : Int) (s0 s1 : Int) (h : Hp) : Sim Γ w 0 (XX12_marked_p26 self4 l2 s0 s1 h) h 26 [(0, vP 143), (2, vI l2)] [vI s1, vI s0] := by
  unfold XX12_marked_p26
  refine S_iadd g dX12_marked_26 ?_
  refine S_nmI (fun v1 => ?_)
  refine S_istore_n g dX12_marked_27 rfl (by decide) rfl ?_
  refine S_iinc (kk := 2) g dX12_marked_28 rfl (by decide) rfl ?_
  refine S_goto (tgt := 4) g dX12_marked_31 (by decide) ?_
  refine S_sub g [2, 1, 0] rfl ?_
  exact hs4 _ _ _

theorem sX12_marked_L4 {Γ : Cx} {w : Wd} (hw : okM w) (g : Gd Γ cX12_marked 3 "GatePatchModel" (Option.some Jvm.ClassFile.FieldType.int) (rmd 1))   : ∀ (l1 l2 : Int) (h : Hp), Sim Γ w 0 (XX12_marked_L4  l1 l2 h) h 4 [(0, vP 143), (1, vI l1), (2, vI l2)] [] := by
  refine S_lup2 (fun l1 l2 => [(0, vP 143), (1, vI l1), (2, vI l2)]) (fun self4 hs4 l1 l2 h => ?_) FU
  unfold XX12_marked_b4
  refine S_iload_n (kk := 2) g dX12_marked_4 rfl rfl ?_
  refine S_bipush g dX12_marked_5 ⟨by decide, by decide⟩ rfl ?_
  refine S_icmp_ge (tgt := 34) g dX12_marked_7 (by decide) ?_ ?_
  · refine S_iload_n (kk := 1) g dX12_marked_34 rfl rfl ?_
    exact S_ireturn g dX12_marked_35 rfl
  · refine S_iload_n (kk := 1) g dX12_marked_10 rfl rfl ?_
    refine S_aload_n (kk := 0) g dX12_marked_11 rfl rfl ?_
    refine S_getr g dX12_marked_12 fl_Mod_57 (at_143 hw) rfl (rc_143_18 hw) ?_
    refine S_iload_n (kk := 2) g dX12_marked_15 rfl rfl ?_
    refine S_iaload g dX12_marked_16 (at_157 hw) ?_
    refine S_iconst g dX12_marked_17 ⟨by decide, by decide⟩ ?_
    refine S_icmp_eq (tgt := 25) g dX12_marked_18 (by decide) ?_ ?_
    · refine S_iconst g dX12_marked_25 ⟨by decide, by decide⟩ ?_
      refine S_sub g [0, 2] rfl ?_
      exact sX12_marked_p26 hw g self4 hs4 _ _ _ _
    · refine S_iconst g dX12_marked_21 ⟨by decide, by decide⟩ ?_
      refine S_goto (tgt := 26) g dX12_marked_22 (by decide) ?_
      refine S_sub g [0, 2] rfl ?_
      exact sX12_marked_p26 hw g self4 hs4 _ _ _ _

theorem sX12_marked {G : GG} {w : Wd} (hw : okM w)  (h : Hp) : SC G w yX12_marked (Cond.code yX12_marked cX12_marked 3 (Option.some Jvm.ClassFile.FieldType.int)) 1 0 [vP 143] (XX12_marked  h) h := by
  refine SC_of (own := "GatePatchModel") plain_Mod rfl (Nat.le_of_ble_eq_true rfl) (fun Γ hG g => ?_)
  subst hG
  show Sim Γ w 0 _ h 0 [(0, vP 143)] []
  unfold XX12_marked
  refine S_iconst g dX12_marked_0 ⟨by decide, by decide⟩ ?_
  refine S_istore_n g dX12_marked_1 rfl (by decide) rfl ?_
  refine S_iconst g dX12_marked_2 ⟨by decide, by decide⟩ ?_
  refine S_istore_n g dX12_marked_3 rfl (by decide) rfl ?_
  refine S_sub g [2, 1, 0] rfl ?_
  exact sX12_marked_L4 hw g _ _ _

def XX12_mark_p48   (l1 l2 : Int) (h : Hp) : OR :=
  inb l1 48 (hm (wr h 157 l1.toNat l2) (fun h5 => cal (XX12_marked h5) (fun r6 h7 => some (r6, h7))))
def XX12_mark (x0 : Int) (x1 : Int) (h : Hp) : OR :=
  cal (XX12_isWire 0 x0 h) (fun r1 h2 => if r1 = 0 then some ((-1), h2) else cal (XX12_in x1 (-1) 9 h2) (fun r3 h4 => if r3 = 0 then some ((-1), h4) else if x1 = (-1) then XX12_mark_p48 x0 x1 h4 else inb x0 48 (if (h4 157 x0.toNat) = (-1) then cal (XX12_marked h4) (fun r8 h9 => if r8 = 10 then some ((-3), h9) else XX12_mark_p48 x0 x1 h9) else XX12_mark_p48 x0 x1 h4)))
theorem sX12_mark_p48 {Γ : Cx} {w : Wd} (hw : okM w) (g : Gd Γ cX12_mark 3 "GatePatchModel" (Option.some Jvm.ClassFile.FieldType.int) (rmd 4))   (l1 l2 : Int) (h : Hp) : Sim Γ w 0 (XX12_mark_p48  l1 l2  h) h 48 [(0, vP 143), (1, vI l1), (2, vI l2)] [] := by
  unfold XX12_mark_p48
  refine S_aload_n (kk := 0) g dX12_mark_48 rfl rfl ?_
  refine S_getr g dX12_mark_49 fl_Mod_57 (at_143 hw) rfl (rc_143_18 hw) ?_
  refine S_iload_n (kk := 1) g dX12_mark_52 rfl rfl ?_
  refine S_iload_n (kk := 2) g dX12_mark_53 rfl rfl ?_
  refine S_iastore g dX12_mark_54 (at_157 hw) (fun h5 => ?_)
  refine S_aload_n (kk := 0) g dX12_mark_55 rfl rfl ?_
  refine S_callVi (As := []) g dX12_mark_56 (sX12_marked hw  _) rfl (at_143 hw) rfl im_X12_marked se_X12_marked cw_X12_marked ml_Mod_421 ini_Mod nd_X12_marked ⟨by decide, by decide⟩ (Nat.le_of_ble_eq_true rfl) (fun r6 h7 => ?_)
  exact S_ireturn g dX12_mark_59 rfl

theorem sX12_mark {G : GG} {w : Wd} (hw : okM w) (x0 : Int) (x1 : Int) (h : Hp) : SC G w yX12_mark (Cond.code yX12_mark cX12_mark 3 (Option.some Jvm.ClassFile.FieldType.int)) 4 0 [vP 143, vI x0, vI x1] (XX12_mark x0 x1 h) h := by
  refine SC_of (own := "GatePatchModel") plain_Mod rfl (Nat.le_of_ble_eq_true rfl) (fun Γ hG g => ?_)
  subst hG
  show Sim Γ w 0 _ h 0 [(0, vP 143), (1, vI x0), (2, vI x1)] []
  unfold XX12_mark
  refine S_aload_n (kk := 0) g dX12_mark_0 rfl rfl ?_
  refine S_iconst g dX12_mark_1 ⟨by decide, by decide⟩ ?_
  refine S_iload_n (kk := 1) g dX12_mark_2 rfl rfl ?_
  refine S_callVi (As := [vI 0, vI x0]) g dX12_mark_3 (sX12_isWire hw _ _ _) rfl (at_143 hw) rfl im_X12_isWire se_X12_isWire cw_X12_isWire ml_Mod_245 ini_Mod nd_X12_isWire ⟨by decide, by decide⟩ (Nat.le_of_ble_eq_true rfl) (fun r1 h2 => ?_)
  refine S_if_eq (tgt := 19) g dX12_mark_6 (by decide) ?_ ?_
  · refine S_iconst g dX12_mark_19 ⟨by decide, by decide⟩ ?_
    exact S_ireturn g dX12_mark_20 rfl
  · refine S_iload_n (kk := 2) g dX12_mark_9 rfl rfl ?_
    refine S_iconst g dX12_mark_10 ⟨by decide, by decide⟩ ?_
    refine S_bipush g dX12_mark_11 ⟨by decide, by decide⟩ rfl ?_
    refine S_callSi (As := [vI x1, vI (-1), vI 9]) g dX12_mark_13 (sX12_in hw _ _ _ _) rfl st_X12_in cw_X12_in ml_Mod_212 ini_Mod nd_X12_in ⟨by decide, by decide⟩ (Nat.le_of_ble_eq_true rfl) (fun r3 h4 => ?_)
    refine S_if_ne (tgt := 21) g dX12_mark_16 (by decide) ?_ ?_
    · refine S_iload_n (kk := 2) g dX12_mark_21 rfl rfl ?_
      refine S_iconst g dX12_mark_22 ⟨by decide, by decide⟩ ?_
      refine S_icmp_eq (tgt := 48) g dX12_mark_23 (by decide) ?_ ?_
      · exact sX12_mark_p48 hw g _ _ _
      · refine S_aload_n (kk := 0) g dX12_mark_26 rfl rfl ?_
        refine S_getr g dX12_mark_27 fl_Mod_57 (at_143 hw) rfl (rc_143_18 hw) ?_
        refine S_iload_n (kk := 1) g dX12_mark_30 rfl rfl ?_
        refine S_iaload g dX12_mark_31 (at_157 hw) ?_
        refine S_iconst g dX12_mark_32 ⟨by decide, by decide⟩ ?_
        refine S_icmp_ne (tgt := 48) g dX12_mark_33 (by decide) ?_ ?_
        · exact sX12_mark_p48 hw g _ _ _
        · refine S_aload_n (kk := 0) g dX12_mark_36 rfl rfl ?_
          refine S_callVi (As := []) g dX12_mark_37 (sX12_marked hw  _) rfl (at_143 hw) rfl im_X12_marked se_X12_marked cw_X12_marked ml_Mod_421 ini_Mod nd_X12_marked ⟨by decide, by decide⟩ (Nat.le_of_ble_eq_true rfl) (fun r8 h9 => ?_)
          refine S_bipush g dX12_mark_40 ⟨by decide, by decide⟩ rfl ?_
          refine S_icmp_ne (tgt := 48) g dX12_mark_42 (by decide) ?_ ?_
          · exact sX12_mark_p48 hw g _ _ _
          · refine S_bipush g dX12_mark_45 ⟨by decide, by decide⟩ rfl ?_
            exact S_ireturn g dX12_mark_47 rfl
    · refine S_iconst g dX12_mark_19 ⟨by decide, by decide⟩ ?_
      exact S_ireturn g dX12_mark_20 rfl

def XX12_tries_b91   (self91 : Int → Int → Hp → OR) (l2 l5 : Int) (h : Hp) : OR :=
  if l2 ≤ l5 then some (0, h) else inb l5 3 (inb l5 3 (hm (wr h 196 l5.toNat (h 195 l5.toNat)) (fun h5 => chk (l5 + 1) (self91 l2 (l5 + 1) h5))))
def XX12_tries_L91   (l2 l5 : Int) (h : Hp) : OR := lup2 (XX12_tries_b91 ) FU l2 l5 h
def XX12_tries_p72   (l2 l3 l4 : Int) (h : Hp) : OR :=
  chk (10 * l4) (chk ((10 * l4) + l3) (hm (wr h 143 73 ((10 * l4) + l3)) (fun h3 => hm (wr h3 143 74 l2) (fun h4 => XX12_tries_L91 l2 0 h4))))
def XX12_tries_b5   (self5 : Int → Int → Int → Int → Hp → OR) (l1 l2 l3 l4 : Int) (h : Hp) : OR :=
  if l2 ≤ l4 then cal (XX12_finds l1 (-1) 1 l2 0 h) (fun r1 h2 => if r1 = (-4) then some (0, h2) else if (h2 143 73) = (-1) then XX12_tries_p72 l2 l3 r1 h2 else chk (10 * r1) (chk ((10 * r1) + l3) (if (h2 143 73) ≤ ((10 * r1) + l3) then some (0, h2) else XX12_tries_p72 l2 l3 r1 h2))) else inb l4 3 (inb (h 195 l4.toNat) 48 (chk (l3 + (h 157 (h 195 l4.toNat).toNat)) (nm (l3 + (h 157 (h 195 l4.toNat).toNat)) (fun v6 => chk (l4 + 1) (self5 l1 l2 v6 (l4 + 1) h)))))
def XX12_tries_L5   (l1 l2 l3 l4 : Int) (h : Hp) : OR := lup4 (XX12_tries_b5 ) FU l1 l2 l3 l4 h
def XX12_tries (x0 : Int) (x1 : Int) (h : Hp) : OR :=
  XX12_tries_L5 x0 x1 0 0 h
theorem sX12_tries_L91 {Γ : Cx} {w : Wd} (hw : okM w) (g : Gd Γ cX12_tries 6 "GatePatchModel" (Option.none : Option Jvm.ClassFile.FieldType) (rmd 8))   : ∀ (l2 l5 : Int) (h : Hp), Sim Γ w 3 (XX12_tries_L91  l2 l5 h) h 91 [(0, vP 143), (2, vI l2), (5, vI l5)] [] := by
  refine S_lup2 (fun l2 l5 => [(0, vP 143), (2, vI l2), (5, vI l5)]) (fun self91 hs91 l2 l5 h => ?_) FU
  unfold XX12_tries_b91
  refine S_iload (kk := 2) g dX12_tries_91 rfl ?_
  refine S_iload_n (kk := 1) g dX12_tries_93 rfl rfl ?_
  refine S_icmp_ge (tgt := 117) g dX12_tries_94 (by decide) ?_ ?_
  · exact S_return g dX12_tries_117 rfl
  · refine S_aload_n (kk := 0) g dX12_tries_97 rfl rfl ?_
    refine S_getr g dX12_tries_98 fl_Mod_181 (at_143 hw) rfl (rc_143_75 hw) ?_
    refine S_iload (kk := 2) g dX12_tries_101 rfl ?_
    refine S_aload_n (kk := 0) g dX12_tries_103 rfl rfl ?_
    refine S_getr g dX12_tries_104 fl_Mod_178 (at_143 hw) rfl (rc_143_70 hw) ?_
    refine S_iload (kk := 2) g dX12_tries_107 rfl ?_
    refine S_iaload g dX12_tries_109 (at_195 hw) ?_
    refine S_iastore g dX12_tries_110 (at_196 hw) (fun h5 => ?_)
    refine S_iinc (kk := 2) g dX12_tries_111 rfl (by decide) rfl ?_
    refine S_goto (tgt := 91) g dX12_tries_114 (by decide) ?_
    refine S_sub g [1, 2, 0] rfl ?_
    exact hs91 _ _ _

theorem sX12_tries_p72 {Γ : Cx} {w : Wd} (hw : okM w) (g : Gd Γ cX12_tries 6 "GatePatchModel" (Option.none : Option Jvm.ClassFile.FieldType) (rmd 8))   (l2 l3 l4 : Int) (h : Hp) : Sim Γ w 3 (XX12_tries_p72  l2 l3 l4  h) h 72 [(0, vP 143), (2, vI l2), (3, vI l3), (4, vI l4)] [] := by
  unfold XX12_tries_p72
  refine S_aload_n (kk := 0) g dX12_tries_72 rfl rfl ?_
  refine S_bipush g dX12_tries_73 ⟨by decide, by decide⟩ rfl ?_
  refine S_iload (kk := 3) g dX12_tries_75 rfl ?_
  refine S_imul g dX12_tries_77 ?_
  refine S_iload_n (kk := 2) g dX12_tries_78 rfl rfl ?_
  refine S_iadd g dX12_tries_79 ?_
  refine S_puti g dX12_tries_80 fp_Mod_424 (at_143 hw) rfl (fun h3 => ?_)
  refine S_aload_n (kk := 0) g dX12_tries_83 rfl rfl ?_
  refine S_iload_n (kk := 1) g dX12_tries_84 rfl rfl ?_
  refine S_puti g dX12_tries_85 fp_Mod_427 (at_143 hw) rfl (fun h4 => ?_)
  refine S_iconst g dX12_tries_88 ⟨by decide, by decide⟩ ?_
  refine S_istore g dX12_tries_89 (by decide) rfl ?_
  refine S_sub g [1, 2, 0] rfl ?_
  exact sX12_tries_L91 hw g _ _ _

theorem sX12_tries_L5 {Γ : Cx} {w : Wd} (hw : okM w) (g : Gd Γ cX12_tries 6 "GatePatchModel" (Option.none : Option Jvm.ClassFile.FieldType) (rmd 8))   : ∀ (l1 l2 l3 l4 : Int) (h : Hp), Sim Γ w 3 (XX12_tries_L5  l1 l2 l3 l4 h) h 5 [(0, vP 143), (1, vI l1), (2, vI l2), (3, vI l3), (4, vI l4)] [] := by
  refine S_lup4 (fun l1 l2 l3 l4 => [(0, vP 143), (1, vI l1), (2, vI l2), (3, vI l3), (4, vI l4)]) (fun self5 hs5 l1 l2 l3 l4 h => ?_) FU
  unfold XX12_tries_b5
  refine S_iload (kk := 4) g dX12_tries_5 rfl ?_
  refine S_iload_n (kk := 2) g dX12_tries_7 rfl rfl ?_
  refine S_icmp_ge (tgt := 32) g dX12_tries_8 (by decide) ?_ ?_
  · refine S_aload_n (kk := 0) g dX12_tries_32 rfl rfl ?_
    refine S_iload_n (kk := 1) g dX12_tries_33 rfl rfl ?_
    refine S_iconst g dX12_tries_34 ⟨by decide, by decide⟩ ?_
    refine S_iconst g dX12_tries_35 ⟨by decide, by decide⟩ ?_
    refine S_iload_n (kk := 2) g dX12_tries_36 rfl rfl ?_
    refine S_iconst g dX12_tries_37 ⟨by decide, by decide⟩ ?_
    refine S_callVi (As := [vI l1, vI (-1), vI 1, vI l2, vI 0]) g dX12_tries_38 (sX12_finds hw _ _ _ _ _ _) rfl (at_143 hw) rfl im_X12_finds se_X12_finds cw_X12_finds ml_Mod_414 ini_Mod nd_X12_finds ⟨by decide, by decide⟩ (Nat.le_of_ble_eq_true rfl) (fun r1 h2 => ?_)
    refine S_istore g dX12_tries_41 (by decide) rfl ?_
    refine S_iload (kk := 0) g dX12_tries_43 rfl ?_
    refine S_bipush g dX12_tries_45 ⟨by decide, by decide⟩ rfl ?_
    refine S_icmp_eq (tgt := 117) g dX12_tries_47 (by decide) ?_ ?_
    · exact S_return g dX12_tries_117 rfl
    · refine S_aload_n (kk := 1) g dX12_tries_50 rfl rfl ?_
      refine S_geti g dX12_tries_51 fl_Mod_424 (at_143 hw) (Or.inl rfl) ?_
      refine S_iconst g dX12_tries_54 ⟨by decide, by decide⟩ ?_
      refine S_icmp_eq (tgt := 72) g dX12_tries_55 (by decide) ?_ ?_
      · refine S_sub g [1, 3, 4, 0] rfl ?_
        exact sX12_tries_p72 hw g _ _ _ _
      · refine S_bipush g dX12_tries_58 ⟨by decide, by decide⟩ rfl ?_
        refine S_iload (kk := 0) g dX12_tries_60 rfl ?_
        refine S_imul g dX12_tries_62 ?_
        refine S_iload_n (kk := 4) g dX12_tries_63 rfl rfl ?_
        refine S_iadd g dX12_tries_64 ?_
        refine S_aload_n (kk := 1) g dX12_tries_65 rfl rfl ?_
        refine S_geti g dX12_tries_66 fl_Mod_424 (at_143 hw) (Or.inl rfl) ?_
        refine S_icmp_ge (tgt := 117) g dX12_tries_69 (by decide) ?_ ?_
        · exact S_return g dX12_tries_117 rfl
        · refine S_sub g [1, 3, 4, 0] rfl ?_
          exact sX12_tries_p72 hw g _ _ _ _
  · refine S_iload_n (kk := 3) g dX12_tries_11 rfl rfl ?_
    refine S_aload_n (kk := 0) g dX12_tries_12 rfl rfl ?_
    refine S_getr g dX12_tries_13 fl_Mod_57 (at_143 hw) rfl (rc_143_18 hw) ?_
    refine S_aload_n (kk := 0) g dX12_tries_16 rfl rfl ?_
    refine S_getr g dX12_tries_17 fl_Mod_178 (at_143 hw) rfl (rc_143_70 hw) ?_
    refine S_iload (kk := 4) g dX12_tries_20 rfl ?_
    refine S_iaload g dX12_tries_22 (at_195 hw) ?_
    refine S_iaload g dX12_tries_23 (at_157 hw) ?_
    refine S_iadd g dX12_tries_24 ?_
    refine S_nmI (fun v6 => ?_)
    refine S_istore_n g dX12_tries_25 rfl (by decide) rfl ?_
    refine S_iinc (kk := 4) g dX12_tries_26 rfl (by decide) rfl ?_
    refine S_goto (tgt := 5) g dX12_tries_29 (by decide) ?_
    refine S_sub g [2, 3, 4, 1, 0] rfl ?_
    exact hs5 _ _ _ _ _

theorem sX12_tries {G : GG} {w : Wd} (hw : okM w) (x0 : Int) (x1 : Int) (h : Hp) : SC G w yX12_tries (Cond.code yX12_tries cX12_tries 6 (Option.none : Option Jvm.ClassFile.FieldType)) 8 3 [vP 143, vI x0, vI x1] (XX12_tries x0 x1 h) h := by
  refine SC_of (own := "GatePatchModel") plain_Mod rfl (Nat.le_of_ble_eq_true rfl) (fun Γ hG g => ?_)
  subst hG
  show Sim Γ w 3 _ h 0 [(0, vP 143), (1, vI x0), (2, vI x1)] []
  unfold XX12_tries
  refine S_iconst g dX12_tries_0 ⟨by decide, by decide⟩ ?_
  refine S_istore_n g dX12_tries_1 rfl (by decide) rfl ?_
  refine S_iconst g dX12_tries_2 ⟨by decide, by decide⟩ ?_
  refine S_istore g dX12_tries_3 (by decide) rfl ?_
  refine S_sub g [2, 3, 4, 1, 0] rfl ?_
  exact sX12_tries_L5 hw g _ _ _ _ _

def XX12_best_b273   (self273 : Int → Int → Hp → OR) (l1 l3 : Int) (h : Hp) : OR :=
  if (h 143 74) ≤ l3 then cal (XX12_finds l1 (-1) 1 (h 143 74) 0 h) (fun r9 h10 => cal (XX12_keepsPatch l1 (-1) 1 (h10 143 74) h10) (fun r11 h12 => some ((h12 143 73), h12))) else inb l3 3 (inb l3 3 (hm (wr h 195 l3.toNat (h 196 l3.toNat)) (fun h13 => chk (l3 + 1) (self273 l1 (l3 + 1) h13))))
def XX12_best_L273   (l1 l3 : Int) (h : Hp) : OR := lup2 (XX12_best_b273 ) FU l1 l3 h
def XX12_best_b192  (self170 : Int → Int → Int → Hp → OR) (self180 : Int → Int → Int → Int → Hp → OR) (self192 : Int → Int → Int → Int → Int → Hp → OR) (l1 l2 l3 l4 l5 : Int) (h : Hp) : OR :=
  if l2 ≤ l5 then chk (l4 + 1) (self180 l1 l2 l3 (l4 + 1) h) else inb l3 10 (inb 0 3 (hm (wr h 195 (0 : Int).toNat (h 197 l3.toNat)) (fun h16 => inb l4 10 (inb 1 3 (hm (wr h16 195 (1 : Int).toNat (h16 197 l4.toNat)) (fun h17 => inb l5 10 (inb 2 3 (hm (wr h17 195 (2 : Int).toNat (h17 197 l5.toNat)) (fun h18 => cal (XX12_tries l1 3 h18) (fun r19 h20 => chk (l5 + 1) (self192 l1 l2 l3 l4 (l5 + 1) h20)))))))))))
def XX12_best_L192  (self170 : Int → Int → Int → Hp → OR) (self180 : Int → Int → Int → Int → Hp → OR) (l1 l2 l3 l4 l5 : Int) (h : Hp) : OR := lup5 (XX12_best_b192 self170 self180) FU l1 l2 l3 l4 l5 h
def XX12_best_b180  (self170 : Int → Int → Int → Hp → OR) (self180 : Int → Int → Int → Int → Hp → OR) (l1 l2 l3 l4 : Int) (h : Hp) : OR :=
  if l2 ≤ l4 then chk (l3 + 1) (self170 l1 l2 (l3 + 1) h) else chk (l4 + 1) (nm (l4 + 1) (fun v15 => XX12_best_L192 self170 self180 l1 l2 l3 l4 v15 h))
def XX12_best_L180  (self170 : Int → Int → Int → Hp → OR) (l1 l2 l3 l4 : Int) (h : Hp) : OR := lup4 (XX12_best_b180 self170) FU l1 l2 l3 l4 h
def XX12_best_b170   (self170 : Int → Int → Int → Hp → OR) (l1 l2 l3 : Int) (h : Hp) : OR :=
  if l2 ≤ l3 then if (h 143 73) = (-1) then some ((-4), h) else XX12_best_L273 l1 0 h else chk (l3 + 1) (nm (l3 + 1) (fun v14 => XX12_best_L180 self170 l1 l2 l3 v14 h))
def XX12_best_L170   (l1 l2 l3 : Int) (h : Hp) : OR := lup3 (XX12_best_b170 ) FU l1 l2 l3 h
def XX12_best_b119  (self109 : Int → Int → Int → Hp → OR) (self119 : Int → Int → Int → Int → Hp → OR) (l1 l2 l3 l4 : Int) (h : Hp) : OR :=
  if l2 ≤ l4 then chk (l3 + 1) (self109 l1 l2 (l3 + 1) h) else inb l3 10 (inb 0 3 (hm (wr h 195 (0 : Int).toNat (h 197 l3.toNat)) (fun h22 => inb l4 10 (inb 1 3 (hm (wr h22 195 (1 : Int).toNat (h22 197 l4.toNat)) (fun h23 => cal (XX12_tries l1 2 h23) (fun r24 h25 => chk (l4 + 1) (self119 l1 l2 l3 (l4 + 1) h25))))))))
def XX12_best_L119  (self109 : Int → Int → Int → Hp → OR) (l1 l2 l3 l4 : Int) (h : Hp) : OR := lup4 (XX12_best_b119 self109) FU l1 l2 l3 l4 h
def XX12_best_b109   (self109 : Int → Int → Int → Hp → OR) (l1 l2 l3 : Int) (h : Hp) : OR :=
  if l2 ≤ l3 then XX12_best_L170 l1 l2 0 h else chk (l3 + 1) (nm (l3 + 1) (fun v21 => XX12_best_L119 self109 l1 l2 l3 v21 h))
def XX12_best_L109   (l1 l2 l3 : Int) (h : Hp) : OR := lup3 (XX12_best_b109 ) FU l1 l2 l3 h
def XX12_best_b78   (self78 : Int → Int → Int → Hp → OR) (l1 l2 l3 : Int) (h : Hp) : OR :=
  if l2 ≤ l3 then XX12_best_L109 l1 l2 0 h else inb l3 10 (inb 0 3 (hm (wr h 195 (0 : Int).toNat (h 197 l3.toNat)) (fun h26 => cal (XX12_tries l1 1 h26) (fun r27 h28 => chk (l3 + 1) (self78 l1 l2 (l3 + 1) h28)))))
def XX12_best_L78   (l1 l2 l3 : Int) (h : Hp) : OR := lup3 (XX12_best_b78 ) FU l1 l2 l3 h
def XX12_best_p54  (self15 : Int → Int → Int → Hp → OR) (l1 l2 l3 : Int) (h : Hp) : OR :=
  chk (l3 + 1) (self15 l1 l2 (l3 + 1) h)
def XX12_best_b15   (self15 : Int → Int → Int → Hp → OR) (l1 l2 l3 : Int) (h : Hp) : OR :=
  cal (XX12_wires 0 h) (fun r3 h4 => if r3 ≤ l3 then zb 0 (hm (wr h4 143 23 0) (fun h5 => hm (wr h5 143 73 (-1)) (fun h6 => cal (XX12_tries l1 0 h6) (fun r7 h8 => XX12_best_L78 l1 l2 0 h8)))) else inb l3 48 (if (h4 157 l3.toNat) = (-1) then XX12_best_p54 self15 l1 l2 l3 h4 else cal (XX12_doesHang 0 l3 l1 h4) (fun r29 h30 => if r29 = 0 then inb l2 10 (hm (wr h30 197 l2.toNat l3) (fun h31 => chk (l2 + 1) (XX12_best_p54 self15 l1 (l2 + 1) l3 h31))) else XX12_best_p54 self15 l1 l2 l3 h30)))
def XX12_best_L15   (l1 l2 l3 : Int) (h : Hp) : OR := lup3 (XX12_best_b15 ) FU l1 l2 l3 h
def XX12_best (x0 : Int) (h : Hp) : OR :=
  cal (XX12_isGate 0 x0 h) (fun r1 h2 => if r1 = 0 then some ((-1), h2) else XX12_best_L15 x0 0 0 h2)
theorem sX12_best_L273 {Γ : Cx} {w : Wd} (hw : okM w) (g : Gd Γ cX12_best 6 "GatePatchModel" (Option.some Jvm.ClassFile.FieldType.int) (rmd 17))   : ∀ (l1 l3 : Int) (h : Hp), Sim Γ w 0 (XX12_best_L273  l1 l3 h) h 273 [(0, vP 143), (1, vI l1), (3, vI l3)] [] := by
  refine S_lup2 (fun l1 l3 => [(0, vP 143), (1, vI l1), (3, vI l3)]) (fun self273 hs273 l1 l3 h => ?_) FU
  unfold XX12_best_b273
  refine S_iload_n (kk := 2) g dX12_best_273 rfl rfl ?_
  refine S_aload_n (kk := 0) g dX12_best_274 rfl rfl ?_
  refine S_geti g dX12_best_275 fl_Mod_427 (at_143 hw) (Or.inl rfl) ?_
  refine S_icmp_ge (tgt := 299) g dX12_best_278 (by decide) ?_ ?_
  · refine S_aload_n (kk := 0) g dX12_best_299 rfl rfl ?_
    refine S_iload_n (kk := 1) g dX12_best_300 rfl rfl ?_
    refine S_iconst g dX12_best_301 ⟨by decide, by decide⟩ ?_
    refine S_iconst g dX12_best_302 ⟨by decide, by decide⟩ ?_
    refine S_aload_n (kk := 0) g dX12_best_303 rfl rfl ?_
    refine S_geti g dX12_best_304 fl_Mod_427 (at_143 hw) (Or.inl rfl) ?_
    refine S_iconst g dX12_best_307 ⟨by decide, by decide⟩ ?_
    refine S_callVi (As := [vI l1, vI (-1), vI 1, vI (h 143 74), vI 0]) g dX12_best_308 (sX12_finds hw _ _ _ _ _ _) rfl (at_143 hw) rfl im_X12_finds se_X12_finds cw_X12_finds ml_Mod_414 ini_Mod nd_X12_finds ⟨by decide, by decide⟩ (Nat.le_of_ble_eq_true rfl) (fun r9 h10 => ?_)
    refine S_istore_n g dX12_best_311 rfl (by decide) rfl ?_
    refine S_aload_n (kk := 1) g dX12_best_312 rfl rfl ?_
    refine S_iload_n (kk := 2) g dX12_best_313 rfl rfl ?_
    refine S_iconst g dX12_best_314 ⟨by decide, by decide⟩ ?_
    refine S_iconst g dX12_best_315 ⟨by decide, by decide⟩ ?_
    refine S_aload_n (kk := 1) g dX12_best_316 rfl rfl ?_
    refine S_geti g dX12_best_317 fl_Mod_427 (at_143 hw) (Or.inl rfl) ?_
    refine S_callVv (As := [vI l1, vI (-1), vI 1, vI (h10 143 74)]) g dX12_best_320 (sX12_keepsPatch hw _ _ _ _ _) rfl (at_143 hw) rfl im_X12_keepsPatch se_X12_keepsPatch cw_X12_keepsPatch ml_Mod_418 ini_Mod nd_X12_keepsPatch ⟨by decide, by decide⟩ (Nat.le_of_ble_eq_true rfl) (fun r11 h12 => ?_)
    refine S_aload_n (kk := 1) g dX12_best_323 rfl rfl ?_
    refine S_geti g dX12_best_324 fl_Mod_424 (at_143 hw) (Or.inl rfl) ?_
    exact S_ireturn g dX12_best_327 rfl
  · refine S_aload_n (kk := 0) g dX12_best_281 rfl rfl ?_
    refine S_getr g dX12_best_282 fl_Mod_178 (at_143 hw) rfl (rc_143_70 hw) ?_
    refine S_iload_n (kk := 2) g dX12_best_285 rfl rfl ?_
    refine S_aload_n (kk := 0) g dX12_best_286 rfl rfl ?_
    refine S_getr g dX12_best_287 fl_Mod_181 (at_143 hw) rfl (rc_143_75 hw) ?_
    refine S_iload_n (kk := 2) g dX12_best_290 rfl rfl ?_
    refine S_iaload g dX12_best_291 (at_196 hw) ?_
    refine S_iastore g dX12_best_292 (at_195 hw) (fun h13 => ?_)
    refine S_iinc (kk := 2) g dX12_best_293 rfl (by decide) rfl ?_
    refine S_goto (tgt := 273) g dX12_best_296 (by decide) ?_
    refine S_sub g [1, 2, 0] rfl ?_
    exact hs273 _ _ _

theorem sX12_best_L192 {Γ : Cx} {w : Wd} (hw : okM w) (g : Gd Γ cX12_best 6 "GatePatchModel" (Option.some Jvm.ClassFile.FieldType.int) (rmd 17))  (self170 : Int → Int → Int → Hp → OR) (hs170 : ∀ (x0 x1 x2 : Int) (h : Hp), Sim Γ w 0 (self170 x0 x1 x2 h) h 170 [(0, vP 143), (1, vI x0), (2, vI x1), (3, vI x2)] []) (self180 : Int → Int → Int → Int → Hp → OR) (hs180 : ∀ (x0 x1 x2 x3 : Int) (h : Hp), Sim Γ w 0 (self180 x0 x1 x2 x3 h) h 180 [(0, vP 143), (1, vI x0), (2, vI x1), (3, vI x2), (4, vI x3)] []) : ∀ (l1 l2 l3 l4 l5 : Int) (h : Hp), Sim Γ w 0 (XX12_best_L192 self170 self180 l1 l2 l3 l4 l5 h) h 192 [(0, vP 143), (1, vI l1), (2, vI l2), (3, vI l3), (4, vI l4), (5, vI l5)] [] := by
  refine S_lup5 (fun l1 l2 l3 l4 l5 => [(0, vP 143), (1, vI l1), (2, vI l2), (3, vI l3), (4, vI l4), (5, vI l5)]) (fun self192 hs192 l1 l2 l3 l4 l5 h => ?_) FU
  unfold XX12_best_b192
  refine S_iload (kk := 5) g dX12_best_192 rfl ?_
  refine S_iload_n (kk := 2) g dX12_best_194 rfl rfl ?_
  refine S_icmp_ge (tgt := 248) g dX12_best_195 (by decide) ?_ ?_
  · refine S_iinc (kk := 4) g dX12_best_248 rfl (by decide) rfl ?_
    refine S_goto (tgt := 180) g dX12_best_251 (by decide) ?_
    refine S_sub g [1, 2, 3, 4, 0] rfl ?_
    exact hs180 _ _ _ _ _
  · refine S_aload_n (kk := 0) g dX12_best_198 rfl rfl ?_
    refine S_getr g dX12_best_199 fl_Mod_178 (at_143 hw) rfl (rc_143_70 hw) ?_
    refine S_iconst g dX12_best_202 ⟨by decide, by decide⟩ ?_
    refine S_aload_n (kk := 0) g dX12_best_203 rfl rfl ?_
    refine S_getr g dX12_best_204 fl_Mod_184 (at_143 hw) rfl (rc_143_76 hw) ?_
    refine S_iload_n (kk := 3) g dX12_best_207 rfl rfl ?_
    refine S_iaload g dX12_best_208 (at_197 hw) ?_
    refine S_iastore g dX12_best_209 (at_195 hw) (fun h16 => ?_)
    refine S_aload_n (kk := 0) g dX12_best_210 rfl rfl ?_
    refine S_getr g dX12_best_211 fl_Mod_178 (at_143 hw) rfl (rc_143_70 hw) ?_
    refine S_iconst g dX12_best_214 ⟨by decide, by decide⟩ ?_
    refine S_aload_n (kk := 0) g dX12_best_215 rfl rfl ?_
    refine S_getr g dX12_best_216 fl_Mod_184 (at_143 hw) rfl (rc_143_76 hw) ?_
    refine S_iload (kk := 4) g dX12_best_219 rfl ?_
    refine S_iaload g dX12_best_221 (at_197 hw) ?_
    refine S_iastore g dX12_best_222 (at_195 hw) (fun h17 => ?_)
    refine S_aload_n (kk := 0) g dX12_best_223 rfl rfl ?_
    refine S_getr g dX12_best_224 fl_Mod_178 (at_143 hw) rfl (rc_143_70 hw) ?_
    refine S_iconst g dX12_best_227 ⟨by decide, by decide⟩ ?_
    refine S_aload_n (kk := 0) g dX12_best_228 rfl rfl ?_
    refine S_getr g dX12_best_229 fl_Mod_184 (at_143 hw) rfl (rc_143_76 hw) ?_
    refine S_iload (kk := 5) g dX12_best_232 rfl ?_
    refine S_iaload g dX12_best_234 (at_197 hw) ?_
    refine S_iastore g dX12_best_235 (at_195 hw) (fun h18 => ?_)
    refine S_aload_n (kk := 0) g dX12_best_236 rfl rfl ?_
    refine S_iload_n (kk := 1) g dX12_best_237 rfl rfl ?_
    refine S_iconst g dX12_best_238 ⟨by decide, by decide⟩ ?_
    refine S_callVv (As := [vI l1, vI 3]) g dX12_best_239 (sX12_tries hw _ _ _) rfl (at_143 hw) rfl im_X12_tries se_X12_tries cw_X12_tries ml_Mod_430 ini_Mod nd_X12_tries ⟨by decide, by decide⟩ (Nat.le_of_ble_eq_true rfl) (fun r19 h20 => ?_)
    refine S_iinc (kk := 5) g dX12_best_242 rfl (by decide) rfl ?_
    refine S_goto (tgt := 192) g dX12_best_245 (by decide) ?_
    refine S_sub g [1, 2, 3, 4, 5, 0] rfl ?_
    exact hs192 _ _ _ _ _ _

theorem sX12_best_L180 {Γ : Cx} {w : Wd} (hw : okM w) (g : Gd Γ cX12_best 6 "GatePatchModel" (Option.some Jvm.ClassFile.FieldType.int) (rmd 17))  (self170 : Int → Int → Int → Hp → OR) (hs170 : ∀ (x0 x1 x2 : Int) (h : Hp), Sim Γ w 0 (self170 x0 x1 x2 h) h 170 [(0, vP 143), (1, vI x0), (2, vI x1), (3, vI x2)] []) : ∀ (l1 l2 l3 l4 : Int) (h : Hp), Sim Γ w 0 (XX12_best_L180 self170 l1 l2 l3 l4 h) h 180 [(0, vP 143), (1, vI l1), (2, vI l2), (3, vI l3), (4, vI l4)] [] := by
  refine S_lup4 (fun l1 l2 l3 l4 => [(0, vP 143), (1, vI l1), (2, vI l2), (3, vI l3), (4, vI l4)]) (fun self180 hs180 l1 l2 l3 l4 h => ?_) FU
  unfold XX12_best_b180
  refine S_iload (kk := 4) g dX12_best_180 rfl ?_
  refine S_iload_n (kk := 2) g dX12_best_182 rfl rfl ?_
  refine S_icmp_ge (tgt := 254) g dX12_best_183 (by decide) ?_ ?_
  · refine S_iinc (kk := 3) g dX12_best_254 rfl (by decide) rfl ?_
    refine S_goto (tgt := 170) g dX12_best_257 (by decide) ?_
    refine S_sub g [1, 2, 3, 0] rfl ?_
    exact hs170 _ _ _ _
  · refine S_iload (kk := 4) g dX12_best_186 rfl ?_
    refine S_iconst g dX12_best_188 ⟨by decide, by decide⟩ ?_
    refine S_iadd g dX12_best_189 ?_
    refine S_nmI (fun v15 => ?_)
    refine S_istore g dX12_best_190 (by decide) rfl ?_
    refine S_sub g [1, 2, 3, 4, 5, 0] rfl ?_
    exact sX12_best_L192 hw g self170 hs170 self180 hs180 _ _ _ _ _ _

theorem sX12_best_L170 {Γ : Cx} {w : Wd} (hw : okM w) (g : Gd Γ cX12_best 6 "GatePatchModel" (Option.some Jvm.ClassFile.FieldType.int) (rmd 17))   : ∀ (l1 l2 l3 : Int) (h : Hp), Sim Γ w 0 (XX12_best_L170  l1 l2 l3 h) h 170 [(0, vP 143), (1, vI l1), (2, vI l2), (3, vI l3)] [] := by
  refine S_lup3 (fun l1 l2 l3 => [(0, vP 143), (1, vI l1), (2, vI l2), (3, vI l3)]) (fun self170 hs170 l1 l2 l3 h => ?_) FU
  unfold XX12_best_b170
  refine S_iload_n (kk := 3) g dX12_best_170 rfl rfl ?_
  refine S_iload_n (kk := 2) g dX12_best_171 rfl rfl ?_
  refine S_icmp_ge (tgt := 260) g dX12_best_172 (by decide) ?_ ?_
  · refine S_aload_n (kk := 0) g dX12_best_260 rfl rfl ?_
    refine S_geti g dX12_best_261 fl_Mod_424 (at_143 hw) (Or.inl rfl) ?_
    refine S_iconst g dX12_best_264 ⟨by decide, by decide⟩ ?_
    refine S_icmp_ne (tgt := 271) g dX12_best_265 (by decide) ?_ ?_
    · refine S_iconst g dX12_best_271 ⟨by decide, by decide⟩ ?_
      refine S_istore_n g dX12_best_272 rfl (by decide) rfl ?_
      refine S_sub g [1, 2, 0] rfl ?_
      exact sX12_best_L273 hw g _ _ _
    · refine S_bipush g dX12_best_268 ⟨by decide, by decide⟩ rfl ?_
      exact S_ireturn g dX12_best_270 rfl
  · refine S_iload_n (kk := 3) g dX12_best_175 rfl rfl ?_
    refine S_iconst g dX12_best_176 ⟨by decide, by decide⟩ ?_
    refine S_iadd g dX12_best_177 ?_
    refine S_nmI (fun v14 => ?_)
    refine S_istore g dX12_best_178 (by decide) rfl ?_
    refine S_sub g [1, 2, 3, 4, 0] rfl ?_
    exact sX12_best_L180 hw g self170 hs170 _ _ _ _ _

theorem sX12_best_L119 {Γ : Cx} {w : Wd} (hw : okM w) (g : Gd Γ cX12_best 6 "GatePatchModel" (Option.some Jvm.ClassFile.FieldType.int) (rmd 17))  (self109 : Int → Int → Int → Hp → OR) (hs109 : ∀ (x0 x1 x2 : Int) (h : Hp), Sim Γ w 0 (self109 x0 x1 x2 h) h 109 [(0, vP 143), (1, vI x0), (2, vI x1), (3, vI x2)] []) : ∀ (l1 l2 l3 l4 : Int) (h : Hp), Sim Γ w 0 (XX12_best_L119 self109 l1 l2 l3 l4 h) h 119 [(0, vP 143), (1, vI l1), (2, vI l2), (3, vI l3), (4, vI l4)] [] := by
  refine S_lup4 (fun l1 l2 l3 l4 => [(0, vP 143), (1, vI l1), (2, vI l2), (3, vI l3), (4, vI l4)]) (fun self119 hs119 l1 l2 l3 l4 h => ?_) FU
  unfold XX12_best_b119
  refine S_iload (kk := 4) g dX12_best_119 rfl ?_
  refine S_iload_n (kk := 2) g dX12_best_121 rfl rfl ?_
  refine S_icmp_ge (tgt := 162) g dX12_best_122 (by decide) ?_ ?_
  · refine S_iinc (kk := 3) g dX12_best_162 rfl (by decide) rfl ?_
    refine S_goto (tgt := 109) g dX12_best_165 (by decide) ?_
    refine S_sub g [1, 2, 3, 0] rfl ?_
    exact hs109 _ _ _ _
  · refine S_aload_n (kk := 0) g dX12_best_125 rfl rfl ?_
    refine S_getr g dX12_best_126 fl_Mod_178 (at_143 hw) rfl (rc_143_70 hw) ?_
    refine S_iconst g dX12_best_129 ⟨by decide, by decide⟩ ?_
    refine S_aload_n (kk := 0) g dX12_best_130 rfl rfl ?_
    refine S_getr g dX12_best_131 fl_Mod_184 (at_143 hw) rfl (rc_143_76 hw) ?_
    refine S_iload_n (kk := 3) g dX12_best_134 rfl rfl ?_
    refine S_iaload g dX12_best_135 (at_197 hw) ?_
    refine S_iastore g dX12_best_136 (at_195 hw) (fun h22 => ?_)
    refine S_aload_n (kk := 0) g dX12_best_137 rfl rfl ?_
    refine S_getr g dX12_best_138 fl_Mod_178 (at_143 hw) rfl (rc_143_70 hw) ?_
    refine S_iconst g dX12_best_141 ⟨by decide, by decide⟩ ?_
    refine S_aload_n (kk := 0) g dX12_best_142 rfl rfl ?_
    refine S_getr g dX12_best_143 fl_Mod_184 (at_143 hw) rfl (rc_143_76 hw) ?_
    refine S_iload (kk := 4) g dX12_best_146 rfl ?_
    refine S_iaload g dX12_best_148 (at_197 hw) ?_
    refine S_iastore g dX12_best_149 (at_195 hw) (fun h23 => ?_)
    refine S_aload_n (kk := 0) g dX12_best_150 rfl rfl ?_
    refine S_iload_n (kk := 1) g dX12_best_151 rfl rfl ?_
    refine S_iconst g dX12_best_152 ⟨by decide, by decide⟩ ?_
    refine S_callVv (As := [vI l1, vI 2]) g dX12_best_153 (sX12_tries hw _ _ _) rfl (at_143 hw) rfl im_X12_tries se_X12_tries cw_X12_tries ml_Mod_430 ini_Mod nd_X12_tries ⟨by decide, by decide⟩ (Nat.le_of_ble_eq_true rfl) (fun r24 h25 => ?_)
    refine S_iinc (kk := 4) g dX12_best_156 rfl (by decide) rfl ?_
    refine S_goto (tgt := 119) g dX12_best_159 (by decide) ?_
    refine S_sub g [1, 2, 3, 4, 0] rfl ?_
    exact hs119 _ _ _ _ _

theorem sX12_best_L109 {Γ : Cx} {w : Wd} (hw : okM w) (g : Gd Γ cX12_best 6 "GatePatchModel" (Option.some Jvm.ClassFile.FieldType.int) (rmd 17))   : ∀ (l1 l2 l3 : Int) (h : Hp), Sim Γ w 0 (XX12_best_L109  l1 l2 l3 h) h 109 [(0, vP 143), (1, vI l1), (2, vI l2), (3, vI l3)] [] := by
  refine S_lup3 (fun l1 l2 l3 => [(0, vP 143), (1, vI l1), (2, vI l2), (3, vI l3)]) (fun self109 hs109 l1 l2 l3 h => ?_) FU
  unfold XX12_best_b109
  refine S_iload_n (kk := 3) g dX12_best_109 rfl rfl ?_
  refine S_iload_n (kk := 2) g dX12_best_110 rfl rfl ?_
  refine S_icmp_ge (tgt := 168) g dX12_best_111 (by decide) ?_ ?_
  · refine S_iconst g dX12_best_168 ⟨by decide, by decide⟩ ?_
    refine S_istore_n g dX12_best_169 rfl (by decide) rfl ?_
    refine S_sub g [1, 2, 3, 0] rfl ?_
    exact sX12_best_L170 hw g _ _ _ _
  · refine S_iload_n (kk := 3) g dX12_best_114 rfl rfl ?_
    refine S_iconst g dX12_best_115 ⟨by decide, by decide⟩ ?_
    refine S_iadd g dX12_best_116 ?_
    refine S_nmI (fun v21 => ?_)
    refine S_istore g dX12_best_117 (by decide) rfl ?_
    refine S_sub g [1, 2, 3, 4, 0] rfl ?_
    exact sX12_best_L119 hw g self109 hs109 _ _ _ _ _

theorem sX12_best_L78 {Γ : Cx} {w : Wd} (hw : okM w) (g : Gd Γ cX12_best 6 "GatePatchModel" (Option.some Jvm.ClassFile.FieldType.int) (rmd 17))   : ∀ (l1 l2 l3 : Int) (h : Hp), Sim Γ w 0 (XX12_best_L78  l1 l2 l3 h) h 78 [(0, vP 143), (1, vI l1), (2, vI l2), (3, vI l3)] [] := by
  refine S_lup3 (fun l1 l2 l3 => [(0, vP 143), (1, vI l1), (2, vI l2), (3, vI l3)]) (fun self78 hs78 l1 l2 l3 h => ?_) FU
  unfold XX12_best_b78
  refine S_iload_n (kk := 3) g dX12_best_78 rfl rfl ?_
  refine S_iload_n (kk := 2) g dX12_best_79 rfl rfl ?_
  refine S_icmp_ge (tgt := 107) g dX12_best_80 (by decide) ?_ ?_
  · refine S_iconst g dX12_best_107 ⟨by decide, by decide⟩ ?_
    refine S_istore_n g dX12_best_108 rfl (by decide) rfl ?_
    refine S_sub g [1, 2, 3, 0] rfl ?_
    exact sX12_best_L109 hw g _ _ _ _
  · refine S_aload_n (kk := 0) g dX12_best_83 rfl rfl ?_
    refine S_getr g dX12_best_84 fl_Mod_178 (at_143 hw) rfl (rc_143_70 hw) ?_
    refine S_iconst g dX12_best_87 ⟨by decide, by decide⟩ ?_
    refine S_aload_n (kk := 0) g dX12_best_88 rfl rfl ?_
    refine S_getr g dX12_best_89 fl_Mod_184 (at_143 hw) rfl (rc_143_76 hw) ?_
    refine S_iload_n (kk := 3) g dX12_best_92 rfl rfl ?_
    refine S_iaload g dX12_best_93 (at_197 hw) ?_
    refine S_iastore g dX12_best_94 (at_195 hw) (fun h26 => ?_)
    refine S_aload_n (kk := 0) g dX12_best_95 rfl rfl ?_
    refine S_iload_n (kk := 1) g dX12_best_96 rfl rfl ?_
    refine S_iconst g dX12_best_97 ⟨by decide, by decide⟩ ?_
    refine S_callVv (As := [vI l1, vI 1]) g dX12_best_98 (sX12_tries hw _ _ _) rfl (at_143 hw) rfl im_X12_tries se_X12_tries cw_X12_tries ml_Mod_430 ini_Mod nd_X12_tries ⟨by decide, by decide⟩ (Nat.le_of_ble_eq_true rfl) (fun r27 h28 => ?_)
    refine S_iinc (kk := 3) g dX12_best_101 rfl (by decide) rfl ?_
    refine S_goto (tgt := 78) g dX12_best_104 (by decide) ?_
    refine S_sub g [1, 2, 3, 0] rfl ?_
    exact hs78 _ _ _ _

theorem sX12_best_p54 {Γ : Cx} {w : Wd} (hw : okM w) (g : Gd Γ cX12_best 6 "GatePatchModel" (Option.some Jvm.ClassFile.FieldType.int) (rmd 17))  (self15 : Int → Int → Int → Hp → OR) (hs15 : ∀ (x0 x1 x2 : Int) (h : Hp), Sim Γ w 0 (self15 x0 x1 x2 h) h 15 [(0, vP 143), (1, vI x0), (2, vI x1), (3, vI x2)] []) (l1 l2 l3 : Int) (h : Hp) : Sim Γ w 0 (XX12_best_p54 self15 l1 l2 l3  h) h 54 [(0, vP 143), (1, vI l1), (2, vI l2), (3, vI l3)] [] := by
  unfold XX12_best_p54
  refine S_iinc (kk := 3) g dX12_best_54 rfl (by decide) rfl ?_
  refine S_goto (tgt := 15) g dX12_best_57 (by decide) ?_
  refine S_sub g [1, 2, 3, 0] rfl ?_
  exact hs15 _ _ _ _

theorem sX12_best_L15 {Γ : Cx} {w : Wd} (hw : okM w) (g : Gd Γ cX12_best 6 "GatePatchModel" (Option.some Jvm.ClassFile.FieldType.int) (rmd 17))   : ∀ (l1 l2 l3 : Int) (h : Hp), Sim Γ w 0 (XX12_best_L15  l1 l2 l3 h) h 15 [(0, vP 143), (1, vI l1), (2, vI l2), (3, vI l3)] [] := by
  refine S_lup3 (fun l1 l2 l3 => [(0, vP 143), (1, vI l1), (2, vI l2), (3, vI l3)]) (fun self15 hs15 l1 l2 l3 h => ?_) FU
  unfold XX12_best_b15
  refine S_iload_n (kk := 3) g dX12_best_15 rfl rfl ?_
  refine S_aload_n (kk := 0) g dX12_best_16 rfl rfl ?_
  refine S_iconst g dX12_best_17 ⟨by decide, by decide⟩ ?_
  refine S_callVi (As := [vI 0]) g dX12_best_18 (sX12_wires hw _ _) rfl (at_143 hw) rfl im_X12_wires se_X12_wires cw_X12_wires ml_Mod_216 ini_Mod nd_X12_wires ⟨by decide, by decide⟩ (Nat.le_of_ble_eq_true rfl) (fun r3 h4 => ?_)
  refine S_icmp_ge (tgt := 60) g dX12_best_21 (by decide) ?_ ?_
  · refine S_aload_n (kk := 0) g dX12_best_60 rfl rfl ?_
    refine S_iconst g dX12_best_61 ⟨by decide, by decide⟩ ?_
    refine S_putz g dX12_best_62 fp_Mod_229 (at_143 hw) rfl (fun h5 => ?_)
    refine S_aload_n (kk := 0) g dX12_best_65 rfl rfl ?_
    refine S_iconst g dX12_best_66 ⟨by decide, by decide⟩ ?_
    refine S_puti g dX12_best_67 fp_Mod_424 (at_143 hw) rfl (fun h6 => ?_)
    refine S_aload_n (kk := 0) g dX12_best_70 rfl rfl ?_
    refine S_iload_n (kk := 1) g dX12_best_71 rfl rfl ?_
    refine S_iconst g dX12_best_72 ⟨by decide, by decide⟩ ?_
    refine S_callVv (As := [vI l1, vI 0]) g dX12_best_73 (sX12_tries hw _ _ _) rfl (at_143 hw) rfl im_X12_tries se_X12_tries cw_X12_tries ml_Mod_430 ini_Mod nd_X12_tries ⟨by decide, by decide⟩ (Nat.le_of_ble_eq_true rfl) (fun r7 h8 => ?_)
    refine S_iconst g dX12_best_76 ⟨by decide, by decide⟩ ?_
    refine S_istore_n g dX12_best_77 rfl (by decide) rfl ?_
    refine S_sub g [1, 2, 3, 0] rfl ?_
    exact sX12_best_L78 hw g _ _ _ _
  · refine S_aload_n (kk := 0) g dX12_best_24 rfl rfl ?_
    refine S_getr g dX12_best_25 fl_Mod_57 (at_143 hw) rfl (rc_143_18 hw) ?_
    refine S_iload_n (kk := 3) g dX12_best_28 rfl rfl ?_
    refine S_iaload g dX12_best_29 (at_157 hw) ?_
    refine S_iconst g dX12_best_30 ⟨by decide, by decide⟩ ?_
    refine S_icmp_eq (tgt := 54) g dX12_best_31 (by decide) ?_ ?_
    · exact sX12_best_p54 hw g self15 hs15 _ _ _ _
    · refine S_aload_n (kk := 0) g dX12_best_34 rfl rfl ?_
      refine S_iconst g dX12_best_35 ⟨by decide, by decide⟩ ?_
      refine S_iload_n (kk := 3) g dX12_best_36 rfl rfl ?_
      refine S_iload_n (kk := 1) g dX12_best_37 rfl rfl ?_
      refine S_callVi (As := [vI 0, vI l3, vI l1]) g dX12_best_38 (sX12_doesHang hw _ _ _ _) rfl (at_143 hw) rfl im_X12_doesHang se_X12_doesHang cw_X12_doesHang ml_Mod_271 ini_Mod nd_X12_doesHang ⟨by decide, by decide⟩ (Nat.le_of_ble_eq_true rfl) (fun r29 h30 => ?_)
      refine S_if_ne (tgt := 54) g dX12_best_41 (by decide) ?_ ?_
      · exact sX12_best_p54 hw g self15 hs15 _ _ _ _
      · refine S_aload_n (kk := 0) g dX12_best_44 rfl rfl ?_
        refine S_getr g dX12_best_45 fl_Mod_184 (at_143 hw) rfl (rc_143_76 hw) ?_
        refine S_iload_n (kk := 2) g dX12_best_48 rfl rfl ?_
        refine S_iload_n (kk := 3) g dX12_best_49 rfl rfl ?_
        refine S_iastore g dX12_best_50 (at_197 hw) (fun h31 => ?_)
        refine S_iinc (kk := 2) g dX12_best_51 rfl (by decide) rfl ?_
        refine S_sub g [1, 2, 0, 3] rfl ?_
        exact sX12_best_p54 hw g self15 hs15 _ _ _ _

theorem sX12_best {G : GG} {w : Wd} (hw : okM w) (x0 : Int) (h : Hp) : SC G w yX12_best (Cond.code yX12_best cX12_best 6 (Option.some Jvm.ClassFile.FieldType.int)) 17 0 [vP 143, vI x0] (XX12_best x0 h) h := by
  refine SC_of (own := "GatePatchModel") plain_Mod rfl (Nat.le_of_ble_eq_true rfl) (fun Γ hG g => ?_)
  subst hG
  show Sim Γ w 0 _ h 0 [(0, vP 143), (1, vI x0)] []
  unfold XX12_best
  refine S_aload_n (kk := 0) g dX12_best_0 rfl rfl ?_
  refine S_iconst g dX12_best_1 ⟨by decide, by decide⟩ ?_
  refine S_iload_n (kk := 1) g dX12_best_2 rfl rfl ?_
  refine S_callVi (As := [vI 0, vI x0]) g dX12_best_3 (sX12_isGate hw _ _ _) rfl (at_143 hw) rfl im_X12_isGate se_X12_isGate cw_X12_isGate ml_Mod_268 ini_Mod nd_X12_isGate ⟨by decide, by decide⟩ (Nat.le_of_ble_eq_true rfl) (fun r1 h2 => ?_)
  refine S_if_ne (tgt := 11) g dX12_best_6 (by decide) ?_ ?_
  · refine S_iconst g dX12_best_11 ⟨by decide, by decide⟩ ?_
    refine S_istore_n g dX12_best_12 rfl (by decide) rfl ?_
    refine S_iconst g dX12_best_13 ⟨by decide, by decide⟩ ?_
    refine S_istore_n g dX12_best_14 rfl (by decide) rfl ?_
    refine S_sub g [2, 3, 1, 0] rfl ?_
    exact sX12_best_L15 hw g _ _ _ _
  · refine S_iconst g dX12_best_9 ⟨by decide, by decide⟩ ?_
    exact S_ireturn g dX12_best_10 rfl

def XX12_patched (x0 : Int) (h : Hp) : OR :=
  if (h 143 23) = 0 then some ((-1), h) else if x0 = 0 then some ((h 143 27), h) else if x0 = 1 then some ((h 143 25), h) else if x0 = 2 then some ((h 143 26), h) else if x0 = 3 then if (h 143 24) = 0 then some (0, h) else some (1, h) else some ((-1), h)
theorem sX12_patched {G : GG} {w : Wd} (hw : okM w) (x0 : Int) (h : Hp) : SC G w yX12_patched (Cond.code yX12_patched cX12_patched 2 (Option.some Jvm.ClassFile.FieldType.int)) 1 0 [vP 143, vI x0] (XX12_patched x0 h) h := by
  refine SC_of (own := "GatePatchModel") plain_Mod rfl (Nat.le_of_ble_eq_true rfl) (fun Γ hG g => ?_)
  subst hG
  show Sim Γ w 0 _ h 0 [(0, vP 143), (1, vI x0)] []
  unfold XX12_patched
  refine S_aload_n (kk := 0) g dX12_patched_0 rfl rfl ?_
  refine S_geti g dX12_patched_1 fl_Mod_229 (at_143 hw) (Or.inr rfl) ?_
  refine S_if_ne (tgt := 9) g dX12_patched_4 (by decide) ?_ ?_
  · refine S_iload_n (kk := 1) g dX12_patched_9 rfl rfl ?_
    refine S_ite (fun c1 => ?_) (fun c1 => ?_)
    · refine S_tabIn (tgt := 40) g dX12_patched_10 0 c1 (by decide) (by decide) rfl (by decide) ?_
      refine S_aload_n (kk := 0) g dX12_patched_40 rfl rfl ?_
      refine S_geti g dX12_patched_41 fl_Mod_381 (at_143 hw) (Or.inl rfl) ?_
      exact S_ireturn g dX12_patched_44 rfl
    · skip
      refine S_ite (fun c2 => ?_) (fun c2 => ?_)
      · refine S_tabIn (tgt := 45) g dX12_patched_10 1 c2 (by decide) (by decide) rfl (by decide) ?_
        refine S_aload_n (kk := 0) g dX12_patched_45 rfl rfl ?_
        refine S_geti g dX12_patched_46 fl_Mod_408 (at_143 hw) (Or.inl rfl) ?_
        exact S_ireturn g dX12_patched_49 rfl
      · skip
        refine S_ite (fun c3 => ?_) (fun c3 => ?_)
        · refine S_tabIn (tgt := 50) g dX12_patched_10 2 c3 (by decide) (by decide) rfl (by decide) ?_
          refine S_aload_n (kk := 0) g dX12_patched_50 rfl rfl ?_
          refine S_geti g dX12_patched_51 fl_Mod_411 (at_143 hw) (Or.inl rfl) ?_
          exact S_ireturn g dX12_patched_54 rfl
        · skip
          refine S_ite (fun c4 => ?_) (fun c4 => ?_)
          · refine S_tabIn (tgt := 55) g dX12_patched_10 3 c4 (by decide) (by decide) rfl (by decide) ?_
            refine S_aload_n (kk := 0) g dX12_patched_55 rfl rfl ?_
            refine S_geti g dX12_patched_56 fl_Mod_405 (at_143 hw) (Or.inr rfl) ?_
            refine S_if_eq (tgt := 66) g dX12_patched_59 (by decide) ?_ ?_
            · refine S_iconst g dX12_patched_66 ⟨by decide, by decide⟩ ?_
              exact S_ireturn g dX12_patched_67 rfl
            · refine S_iconst g dX12_patched_62 ⟨by decide, by decide⟩ ?_
              refine S_goto (tgt := 67) g dX12_patched_63 (by decide) ?_
              exact S_ireturn g dX12_patched_67 rfl
          · skip
            refine S_tabOut (tgt := 68) g dX12_patched_10 (by omega) (by decide) ?_
            refine S_iconst g dX12_patched_68 ⟨by decide, by decide⟩ ?_
            exact S_ireturn g dX12_patched_69 rfl
  · refine S_iconst g dX12_patched_7 ⟨by decide, by decide⟩ ?_
    exact S_ireturn g dX12_patched_8 rfl

def XX12_function (x0 : Int) (h : Hp) : OR :=
  if (h 143 23) = 0 then some ((-1), h) else chk ((h 143 25) - 1) (cal (XX12_in x0 0 ((h 143 25) - 1) h) (fun r1 h2 => if r1 = 0 then some ((-1), h2) else inb x0 2 (some ((h2 161 x0.toNat), h2))))
theorem sX12_function {G : GG} {w : Wd} (hw : okM w) (x0 : Int) (h : Hp) : SC G w yX12_function (Cond.code yX12_function cX12_function 2 (Option.some Jvm.ClassFile.FieldType.int)) 2 0 [vP 143, vI x0] (XX12_function x0 h) h := by
  refine SC_of (own := "GatePatchModel") plain_Mod rfl (Nat.le_of_ble_eq_true rfl) (fun Γ hG g => ?_)
  subst hG
  show Sim Γ w 0 _ h 0 [(0, vP 143), (1, vI x0)] []
  unfold XX12_function
  refine S_aload_n (kk := 0) g dX12_function_0 rfl rfl ?_
  refine S_geti g dX12_function_1 fl_Mod_229 (at_143 hw) (Or.inr rfl) ?_
  refine S_if_eq (tgt := 30) g dX12_function_4 (by decide) ?_ ?_
  · refine S_iconst g dX12_function_30 ⟨by decide, by decide⟩ ?_
    exact S_ireturn g dX12_function_31 rfl
  · refine S_iload_n (kk := 1) g dX12_function_7 rfl rfl ?_
    refine S_iconst g dX12_function_8 ⟨by decide, by decide⟩ ?_
    refine S_aload_n (kk := 0) g dX12_function_9 rfl rfl ?_
    refine S_geti g dX12_function_10 fl_Mod_408 (at_143 hw) (Or.inl rfl) ?_
    refine S_iconst g dX12_function_13 ⟨by decide, by decide⟩ ?_
    refine S_isub g dX12_function_14 ?_
    refine S_callSi (As := [vI x0, vI 0, vI ((h 143 25) - 1)]) g dX12_function_15 (sX12_in hw _ _ _ _) rfl st_X12_in cw_X12_in ml_Mod_212 ini_Mod nd_X12_in ⟨by decide, by decide⟩ (Nat.le_of_ble_eq_true rfl) (fun r1 h2 => ?_)
    refine S_if_eq (tgt := 30) g dX12_function_18 (by decide) ?_ ?_
    · refine S_iconst g dX12_function_30 ⟨by decide, by decide⟩ ?_
      exact S_ireturn g dX12_function_31 rfl
    · refine S_aload_n (kk := 0) g dX12_function_21 rfl rfl ?_
      refine S_getr g dX12_function_22 fl_Mod_75 (at_143 hw) rfl (rc_143_30 hw) ?_
      refine S_iload_n (kk := 1) g dX12_function_25 rfl rfl ?_
      refine S_iaload g dX12_function_26 (at_161 hw) ?_
      refine S_goto (tgt := 31) g dX12_function_27 (by decide) ?_
      exact S_ireturn g dX12_function_31 rfl

def XX12_told (x0 : Int) (h : Hp) : OR :=
  if (h 143 23) = 0 then some ((-1), h) else chk ((h 143 26) - 1) (cal (XX12_in x0 0 ((h 143 26) - 1) h) (fun r1 h2 => if r1 = 0 then some ((-1), h2) else inb x0 3 (some ((h2 160 x0.toNat), h2))))
theorem sX12_told {G : GG} {w : Wd} (hw : okM w) (x0 : Int) (h : Hp) : SC G w yX12_told (Cond.code yX12_told cX12_told 2 (Option.some Jvm.ClassFile.FieldType.int)) 2 0 [vP 143, vI x0] (XX12_told x0 h) h := by
  refine SC_of (own := "GatePatchModel") plain_Mod rfl (Nat.le_of_ble_eq_true rfl) (fun Γ hG g => ?_)
  subst hG
  show Sim Γ w 0 _ h 0 [(0, vP 143), (1, vI x0)] []
  unfold XX12_told
  refine S_aload_n (kk := 0) g dX12_told_0 rfl rfl ?_
  refine S_geti g dX12_told_1 fl_Mod_229 (at_143 hw) (Or.inr rfl) ?_
  refine S_if_eq (tgt := 30) g dX12_told_4 (by decide) ?_ ?_
  · refine S_iconst g dX12_told_30 ⟨by decide, by decide⟩ ?_
    exact S_ireturn g dX12_told_31 rfl
  · refine S_iload_n (kk := 1) g dX12_told_7 rfl rfl ?_
    refine S_iconst g dX12_told_8 ⟨by decide, by decide⟩ ?_
    refine S_aload_n (kk := 0) g dX12_told_9 rfl rfl ?_
    refine S_geti g dX12_told_10 fl_Mod_411 (at_143 hw) (Or.inl rfl) ?_
    refine S_iconst g dX12_told_13 ⟨by decide, by decide⟩ ?_
    refine S_isub g dX12_told_14 ?_
    refine S_callSi (As := [vI x0, vI 0, vI ((h 143 26) - 1)]) g dX12_told_15 (sX12_in hw _ _ _ _) rfl st_X12_in cw_X12_in ml_Mod_212 ini_Mod nd_X12_in ⟨by decide, by decide⟩ (Nat.le_of_ble_eq_true rfl) (fun r1 h2 => ?_)
    refine S_if_eq (tgt := 30) g dX12_told_18 (by decide) ?_ ?_
    · refine S_iconst g dX12_told_30 ⟨by decide, by decide⟩ ?_
      exact S_ireturn g dX12_told_31 rfl
    · refine S_aload_n (kk := 0) g dX12_told_21 rfl rfl ?_
      refine S_getr g dX12_told_22 fl_Mod_72 (at_143 hw) rfl (rc_143_29 hw) ?_
      refine S_iload_n (kk := 1) g dX12_told_25 rfl rfl ?_
      refine S_iaload g dX12_told_26 (at_160 hw) ?_
      refine S_goto (tgt := 31) g dX12_told_27 (by decide) ?_
      exact S_ireturn g dX12_told_31 rfl

