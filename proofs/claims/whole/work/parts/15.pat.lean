abbrev cX4_start : ByteArray := prog_6_method_2_code
def yX4_start : MethodName := ⟨"GatePatch$Marks", "start", "()V"⟩
abbrev cX4_give : ByteArray := prog_6_method_3_code
def yX4_give : MethodName := ⟨"GatePatch$Marks", "give", "(II)V"⟩
abbrev cX4_forgetFrom : ByteArray := prog_6_method_4_code
def yX4_forgetFrom : MethodName := ⟨"GatePatch$Marks", "forgetFrom", "(I)V"⟩
abbrev cX4_listUsable : ByteArray := prog_6_method_6_code
def yX4_listUsable : MethodName := ⟨"GatePatch$Marks", "listUsable", "(LGatePatch$Net;I)V"⟩
abbrev cX4_tryOne : ByteArray := prog_6_method_9_code
def yX4_tryOne : MethodName := ⟨"GatePatch$Marks", "tryOne", "(LGatePatch$Finder;III)V"⟩
abbrev cX4_tryTwos : ByteArray := prog_6_method_7_code
def yX4_tryTwos : MethodName := ⟨"GatePatch$Marks", "tryTwos", "(LGatePatch$Finder;)V"⟩
abbrev cX4_tryThrees : ByteArray := prog_6_method_8_code
def yX4_tryThrees : MethodName := ⟨"GatePatch$Marks", "tryThrees", "(LGatePatch$Finder;)V"⟩
abbrev cX4_search : ByteArray := prog_6_method_5_code
def yX4_search : MethodName := ⟨"GatePatch$Marks", "search", "(LGatePatch$Finder;LGatePatch$Net;I)Z"⟩
abbrev cX7_drop : ByteArray := prog_9_method_2_code
def yX7_drop : MethodName := ⟨"GatePatch$Patch", "drop", "()V"⟩
abbrev cX7_grow : ByteArray := prog_9_method_4_code
def yX7_grow : MethodName := ⟨"GatePatch$Patch", "grow", "(III)I"⟩
abbrev cX7_keep : ByteArray := prog_9_method_3_code
def yX7_keep : MethodName := ⟨"GatePatch$Patch", "keep", "(LGatePatch$Finder;)V"⟩
abbrev cX7_gatesToAdd : ByteArray := prog_9_method_5_code
def yX7_gatesToAdd : MethodName := ⟨"GatePatch$Patch", "gatesToAdd", "()I"⟩
abbrev cX9_use : ByteArray := prog_11_method_4_code
def yX9_use : MethodName := ⟨"GatePatch$Spares", "use", "(I)I"⟩
abbrev cX7_wireOf : ByteArray := prog_9_method_7_code
def yX7_wireOf : MethodName := ⟨"GatePatch$Patch", "wireOf", "(I)I"⟩
abbrev cX7_addTree : ByteArray := prog_9_method_6_code
def yX7_addTree : MethodName := ⟨"GatePatch$Patch", "addTree", "(ILGatePatch$Plan;LGatePatch$Spares;)I"⟩
theorem fl_Marks_9 : FL "GatePatch$Marks" 9 3 0 := ⟨R_Marks, T_Marks, 9, ty_Marks, ci_Marks, by decide, mem_t 275 (by decide +kernel) rfl⟩
theorem ml_Marks_18 : Cond.methodLink "GatePatch$Marks" 18 yJ7_fill_53178 ∈ tblG := mem_t 500 (by decide +kernel) rfl
theorem fp_Marks_24 : FP "GatePatch$Marks" 24 3 1 .int := ⟨R_Marks, T_Marks, 9, ty_Marks, ci_Marks, by decide, mem_t 277 (by decide +kernel) rfl, rfl, rfl⟩
theorem plain_Marks : plainName "GatePatch$Marks" = true := by decide +kernel
theorem fl_Marks_24 : FL "GatePatch$Marks" 24 3 1 := ⟨R_Marks, T_Marks, 9, ty_Marks, ci_Marks, by decide, mem_t 277 (by decide +kernel) rfl⟩
theorem ml_Marks_28 : Cond.methodLink "GatePatch$Marks" 28 yX4_give ∈ tblG := mem_t 1153 (by decide +kernel) rfl
theorem im_X4_give : Cond.instanceMethod yX4_give ∈ tblG := mem_t 947 (by decide +kernel) rfl
theorem se_X4_give : Cond.selects "GatePatch$Marks" yX4_give yX4_give ∈ tblG := mem_t 948 (by decide +kernel) rfl
theorem cw_X4_give : Cond.code yX4_give cX4_give 3 (Option.none : Option Jvm.ClassFile.FieldType) ∈ tblG := mem_t 949 (by decide +kernel) rfl
theorem ini_Marks : Cond.initialized "GatePatch$Marks" ∈ tblG := mem_t 7 (by decide +kernel) rfl
theorem nd_X4_give : yX4_give.cls ≠ "java/lang/invoke/MethodHandle" ∧ yX4_give.cls ≠ "java/lang/invoke/VarHandle" ∧ (parseMethodDescriptor yX4_give.desc).map (fun d => d.parameters.length) = some 2 := by decide +kernel
theorem fp_Marks_44 : FP "GatePatch$Marks" 44 3 3 .int := ⟨R_Marks, T_Marks, 9, ty_Marks, ci_Marks, by decide, mem_t 280 (by decide +kernel) rfl, rfl, rfl⟩
theorem fl_Marks_76 : FL "GatePatch$Marks" 76 5 0 := ⟨R_Net, T_Net, 7, ty_Net, ci_Net, by decide, mem_t 94 (by decide +kernel) rfl⟩
theorem ml_Marks_82 : Cond.methodLink "GatePatch$Marks" 82 yX8_wires ∈ tblG := mem_t 962 (by decide +kernel) rfl
theorem fl_Marks_44 : FL "GatePatch$Marks" 44 3 3 := ⟨R_Marks, T_Marks, 9, ty_Marks, ci_Marks, by decide, mem_t 280 (by decide +kernel) rfl⟩
theorem ml_Marks_88 : Cond.methodLink "GatePatch$Marks" 88 yX6_hangsOn ∈ tblG := mem_t 963 (by decide +kernel) rfl
theorem im_X6_hangsOn : Cond.instanceMethod yX6_hangsOn ∈ tblG := mem_t 654 (by decide +kernel) rfl
theorem se_X6_hangsOn : Cond.selects "GatePatch$Net" yX6_hangsOn yX6_hangsOn ∈ tblG := mem_t 655 (by decide +kernel) rfl
theorem cw_X6_hangsOn : Cond.code yX6_hangsOn cX6_hangsOn 3 (Option.some Jvm.ClassFile.FieldType.boolean) ∈ tblG := mem_t 656 (by decide +kernel) rfl
theorem nd_X6_hangsOn : yX6_hangsOn.cls ≠ "java/lang/invoke/MethodHandle" ∧ yX6_hangsOn.cls ≠ "java/lang/invoke/VarHandle" ∧ (parseMethodDescriptor yX6_hangsOn.desc).map (fun d => d.parameters.length) = some 2 := by decide +kernel
theorem fl_Marks_15 : FL "GatePatch$Marks" 15 3 2 := ⟨R_Marks, T_Marks, 9, ty_Marks, ci_Marks, by decide, mem_t 279 (by decide +kernel) rfl⟩
theorem fl_Marks_36 : FL "GatePatch$Marks" 36 3 7 := ⟨R_Marks, T_Marks, 9, ty_Marks, ci_Marks, by decide, mem_t 284 (by decide +kernel) rfl⟩
theorem ml_Marks_63 : Cond.methodLink "GatePatch$Marks" 63 yX1_tell ∈ tblG := mem_t 968 (by decide +kernel) rfl
theorem im_X1_tell : Cond.instanceMethod yX1_tell ∈ tblG := mem_t 857 (by decide +kernel) rfl
theorem se_X1_tell : Cond.selects "GatePatch$Finder" yX1_tell yX1_tell ∈ tblG := mem_t 858 (by decide +kernel) rfl
theorem cw_X1_tell : Cond.code yX1_tell cX1_tell 5 (Option.some Jvm.ClassFile.FieldType.boolean) ∈ tblG := mem_t 859 (by decide +kernel) rfl
theorem nd_X1_tell : yX1_tell.cls ≠ "java/lang/invoke/MethodHandle" ∧ yX1_tell.cls ≠ "java/lang/invoke/VarHandle" ∧ (parseMethodDescriptor yX1_tell.desc).map (fun d => d.parameters.length) = some 3 := by decide +kernel
theorem ml_Marks_69 : Cond.methodLink "GatePatch$Marks" 69 yX1_allow ∈ tblG := mem_t 969 (by decide +kernel) rfl
theorem im_X1_allow : Cond.instanceMethod yX1_allow ∈ tblG := mem_t 875 (by decide +kernel) rfl
theorem se_X1_allow : Cond.selects "GatePatch$Finder" yX1_allow yX1_allow ∈ tblG := mem_t 876 (by decide +kernel) rfl
theorem cw_X1_allow : Cond.code yX1_allow cX1_allow 4 (Option.some Jvm.ClassFile.FieldType.boolean) ∈ tblG := mem_t 877 (by decide +kernel) rfl
theorem nd_X1_allow : yX1_allow.cls ≠ "java/lang/invoke/MethodHandle" ∧ yX1_allow.cls ≠ "java/lang/invoke/VarHandle" ∧ (parseMethodDescriptor yX1_allow.desc).map (fun d => d.parameters.length) = some 0 := by decide +kernel
theorem ml_Marks_73 : Cond.methodLink "GatePatch$Marks" 73 yX1_choose ∈ tblG := mem_t 970 (by decide +kernel) rfl
theorem im_X1_choose : Cond.instanceMethod yX1_choose ∈ tblG := mem_t 898 (by decide +kernel) rfl
theorem se_X1_choose : Cond.selects "GatePatch$Finder" yX1_choose yX1_choose ∈ tblG := mem_t 899 (by decide +kernel) rfl
theorem cw_X1_choose : Cond.code yX1_choose cX1_choose 8 (Option.none : Option Jvm.ClassFile.FieldType) ∈ tblG := mem_t 900 (by decide +kernel) rfl
theorem nd_X1_choose : yX1_choose.cls ≠ "java/lang/invoke/MethodHandle" ∧ yX1_choose.cls ≠ "java/lang/invoke/VarHandle" ∧ (parseMethodDescriptor yX1_choose.desc).map (fun d => d.parameters.length) = some 0 := by decide +kernel
theorem fl_Marks_95 : FL "GatePatch$Marks" 95 1 11 := ⟨R_Finder, T_Finder, 14, ty_Finder, ci_Finder, by decide, mem_t 233 (by decide +kernel) rfl⟩
theorem fp_Marks_36 : FP "GatePatch$Marks" 36 3 7 .boolean := ⟨R_Marks, T_Marks, 9, ty_Marks, ci_Marks, by decide, mem_t 284 (by decide +kernel) rfl, rfl, rfl⟩
theorem fp_Marks_92 : FP "GatePatch$Marks" 92 3 8 .int := ⟨R_Marks, T_Marks, 9, ty_Marks, ci_Marks, by decide, mem_t 285 (by decide +kernel) rfl, rfl, rfl⟩
theorem fp_Marks_54 : FP "GatePatch$Marks" 54 3 4 .int := ⟨R_Marks, T_Marks, 9, ty_Marks, ci_Marks, by decide, mem_t 281 (by decide +kernel) rfl, rfl, rfl⟩
theorem fp_Marks_57 : FP "GatePatch$Marks" 57 3 5 .int := ⟨R_Marks, T_Marks, 9, ty_Marks, ci_Marks, by decide, mem_t 282 (by decide +kernel) rfl, rfl, rfl⟩
theorem fp_Marks_60 : FP "GatePatch$Marks" 60 3 6 .int := ⟨R_Marks, T_Marks, 9, ty_Marks, ci_Marks, by decide, mem_t 283 (by decide +kernel) rfl, rfl, rfl⟩
theorem fl_Marks_92 : FL "GatePatch$Marks" 92 3 8 := ⟨R_Marks, T_Marks, 9, ty_Marks, ci_Marks, by decide, mem_t 285 (by decide +kernel) rfl⟩
theorem ml_Marks_40 : Cond.methodLink "GatePatch$Marks" 40 yX4_tryOne ∈ tblG := mem_t 964 (by decide +kernel) rfl
theorem im_X4_tryOne : Cond.instanceMethod yX4_tryOne ∈ tblG := mem_t 966 (by decide +kernel) rfl
theorem se_X4_tryOne : Cond.selects "GatePatch$Marks" yX4_tryOne yX4_tryOne ∈ tblG := mem_s 27 (by decide +kernel) rfl
theorem cw_X4_tryOne : Cond.code yX4_tryOne cX4_tryOne 6 (Option.none : Option Jvm.ClassFile.FieldType) ∈ tblG := mem_t 967 (by decide +kernel) rfl
theorem nd_X4_tryOne : yX4_tryOne.cls ≠ "java/lang/invoke/MethodHandle" ∧ yX4_tryOne.cls ≠ "java/lang/invoke/VarHandle" ∧ (parseMethodDescriptor yX4_tryOne.desc).map (fun d => d.parameters.length) = some 4 := by decide +kernel
theorem ml_Marks_32 : Cond.methodLink "GatePatch$Marks" 32 yX4_listUsable ∈ tblG := mem_t 958 (by decide +kernel) rfl
theorem im_X4_listUsable : Cond.instanceMethod yX4_listUsable ∈ tblG := mem_t 960 (by decide +kernel) rfl
theorem se_X4_listUsable : Cond.selects "GatePatch$Marks" yX4_listUsable yX4_listUsable ∈ tblG := mem_s 26 (by decide +kernel) rfl
theorem cw_X4_listUsable : Cond.code yX4_listUsable cX4_listUsable 4 (Option.none : Option Jvm.ClassFile.FieldType) ∈ tblG := mem_t 961 (by decide +kernel) rfl
theorem nd_X4_listUsable : yX4_listUsable.cls ≠ "java/lang/invoke/MethodHandle" ∧ yX4_listUsable.cls ≠ "java/lang/invoke/VarHandle" ∧ (parseMethodDescriptor yX4_listUsable.desc).map (fun d => d.parameters.length) = some 2 := by decide +kernel
theorem ml_Marks_47 : Cond.methodLink "GatePatch$Marks" 47 yX4_tryTwos ∈ tblG := mem_t 971 (by decide +kernel) rfl
theorem im_X4_tryTwos : Cond.instanceMethod yX4_tryTwos ∈ tblG := mem_t 973 (by decide +kernel) rfl
theorem se_X4_tryTwos : Cond.selects "GatePatch$Marks" yX4_tryTwos yX4_tryTwos ∈ tblG := mem_s 28 (by decide +kernel) rfl
theorem cw_X4_tryTwos : Cond.code yX4_tryTwos cX4_tryTwos 4 (Option.none : Option Jvm.ClassFile.FieldType) ∈ tblG := mem_t 974 (by decide +kernel) rfl
theorem nd_X4_tryTwos : yX4_tryTwos.cls ≠ "java/lang/invoke/MethodHandle" ∧ yX4_tryTwos.cls ≠ "java/lang/invoke/VarHandle" ∧ (parseMethodDescriptor yX4_tryTwos.desc).map (fun d => d.parameters.length) = some 1 := by decide +kernel
theorem ml_Marks_51 : Cond.methodLink "GatePatch$Marks" 51 yX4_tryThrees ∈ tblG := mem_t 975 (by decide +kernel) rfl
theorem im_X4_tryThrees : Cond.instanceMethod yX4_tryThrees ∈ tblG := mem_t 977 (by decide +kernel) rfl
theorem se_X4_tryThrees : Cond.selects "GatePatch$Marks" yX4_tryThrees yX4_tryThrees ∈ tblG := mem_s 29 (by decide +kernel) rfl
theorem cw_X4_tryThrees : Cond.code yX4_tryThrees cX4_tryThrees 5 (Option.none : Option Jvm.ClassFile.FieldType) ∈ tblG := mem_t 978 (by decide +kernel) rfl
theorem nd_X4_tryThrees : yX4_tryThrees.cls ≠ "java/lang/invoke/MethodHandle" ∧ yX4_tryThrees.cls ≠ "java/lang/invoke/VarHandle" ∧ (parseMethodDescriptor yX4_tryThrees.desc).map (fun d => d.parameters.length) = some 1 := by decide +kernel
theorem fl_Marks_54 : FL "GatePatch$Marks" 54 3 4 := ⟨R_Marks, T_Marks, 9, ty_Marks, ci_Marks, by decide, mem_t 281 (by decide +kernel) rfl⟩
theorem fl_Marks_57 : FL "GatePatch$Marks" 57 3 5 := ⟨R_Marks, T_Marks, 9, ty_Marks, ci_Marks, by decide, mem_t 282 (by decide +kernel) rfl⟩
theorem fl_Marks_60 : FL "GatePatch$Marks" 60 3 6 := ⟨R_Marks, T_Marks, 9, ty_Marks, ci_Marks, by decide, mem_t 283 (by decide +kernel) rfl⟩
theorem fp_Patch_42 : FP "GatePatch$Patch" 42 6 0 .boolean := ⟨R_Patch, T_Patch, 15, ty_Patch, ci_Patch, by decide, mem_t 312 (by decide +kernel) rfl, rfl, rfl⟩
theorem plain_Patch : plainName "GatePatch$Patch" = true := by decide +kernel
theorem fl_Patch_61 : FL "GatePatch$Patch" 61 6 5 := ⟨R_Patch, T_Patch, 15, ty_Patch, ci_Patch, by decide, mem_t 325 (by decide +kernel) rfl⟩
theorem ml_Patch_81 : Cond.methodLink "GatePatch$Patch" 81 yX2_leafOf ∈ tblG := mem_t 922 (by decide +kernel) rfl
theorem st_X2_leafOf : Cond.static yX2_leafOf ∈ tblG := mem_t 923 (by decide +kernel) rfl
theorem cw_X2_leafOf : Cond.code yX2_leafOf cX2_leafOf 3 (Option.some Jvm.ClassFile.FieldType.int) ∈ tblG := mem_t 924 (by decide +kernel) rfl
theorem nd_X2_leafOf : yX2_leafOf.cls ≠ "java/lang/invoke/MethodHandle" ∧ yX2_leafOf.cls ≠ "java/lang/invoke/VarHandle" ∧ (parseMethodDescriptor yX2_leafOf.desc).map (fun d => d.parameters.length) = some 2 := by decide +kernel
theorem ml_Patch_87 : Cond.methodLink "GatePatch$Patch" 87 yX2_split ∈ tblG := mem_t 927 (by decide +kernel) rfl
theorem st_X2_split : Cond.static yX2_split ∈ tblG := mem_t 928 (by decide +kernel) rfl
theorem cw_X2_split : Cond.code yX2_split cX2_split 7 (Option.some Jvm.ClassFile.FieldType.int) ∈ tblG := mem_t 929 (by decide +kernel) rfl
theorem nd_X2_split : yX2_split.cls ≠ "java/lang/invoke/MethodHandle" ∧ yX2_split.cls ≠ "java/lang/invoke/VarHandle" ∧ (parseMethodDescriptor yX2_split.desc).map (fun d => d.parameters.length) = some 2 := by decide +kernel
theorem ml_Patch_77 : Cond.methodLink "GatePatch$Patch" 77 yX7_grow ∈ tblG := mem_t 918 (by decide +kernel) rfl
theorem im_X7_grow : Cond.instanceMethod yX7_grow ∈ tblG := mem_t 920 (by decide +kernel) rfl
theorem se_X7_grow : Cond.selects "GatePatch$Patch" yX7_grow yX7_grow ∈ tblG := mem_s 25 (by decide +kernel) rfl
theorem cw_X7_grow : Cond.code yX7_grow cX7_grow 9 (Option.some Jvm.ClassFile.FieldType.int) ∈ tblG := mem_t 921 (by decide +kernel) rfl
theorem ini_Patch : Cond.initialized "GatePatch$Patch" ∈ tblG := mem_t 8 (by decide +kernel) rfl
theorem nd_X7_grow : yX7_grow.cls ≠ "java/lang/invoke/MethodHandle" ∧ yX7_grow.cls ≠ "java/lang/invoke/VarHandle" ∧ (parseMethodDescriptor yX7_grow.desc).map (fun d => d.parameters.length) = some 3 := by decide +kernel
theorem fl_Patch_73 : FL "GatePatch$Patch" 73 6 8 := ⟨R_Patch, T_Patch, 15, ty_Patch, ci_Patch, by decide, mem_t 331 (by decide +kernel) rfl⟩
theorem fl_Patch_24 : FL "GatePatch$Patch" 24 6 9 := ⟨R_Patch, T_Patch, 15, ty_Patch, ci_Patch, by decide, mem_t 334 (by decide +kernel) rfl⟩
theorem fl_Patch_27 : FL "GatePatch$Patch" 27 6 10 := ⟨R_Patch, T_Patch, 15, ty_Patch, ci_Patch, by decide, mem_t 337 (by decide +kernel) rfl⟩
theorem fl_Patch_30 : FL "GatePatch$Patch" 30 6 11 := ⟨R_Patch, T_Patch, 15, ty_Patch, ci_Patch, by decide, mem_t 340 (by decide +kernel) rfl⟩
theorem fl_Patch_33 : FL "GatePatch$Patch" 33 6 12 := ⟨R_Patch, T_Patch, 15, ty_Patch, ci_Patch, by decide, mem_t 343 (by decide +kernel) rfl⟩
theorem fl_Patch_36 : FL "GatePatch$Patch" 36 6 13 := ⟨R_Patch, T_Patch, 15, ty_Patch, ci_Patch, by decide, mem_t 346 (by decide +kernel) rfl⟩
theorem fp_Patch_73 : FP "GatePatch$Patch" 73 6 8 .int := ⟨R_Patch, T_Patch, 15, ty_Patch, ci_Patch, by decide, mem_t 331 (by decide +kernel) rfl, rfl, rfl⟩
theorem fp_Patch_46 : FP "GatePatch$Patch" 46 6 1 .boolean := ⟨R_Patch, T_Patch, 15, ty_Patch, ci_Patch, by decide, mem_t 314 (by decide +kernel) rfl, rfl, rfl⟩
theorem fl_Patch_49 : FL "GatePatch$Patch" 49 1 3 := ⟨R_Finder, T_Finder, 14, ty_Finder, ci_Finder, by decide, mem_t 221 (by decide +kernel) rfl⟩
theorem fp_Patch_55 : FP "GatePatch$Patch" 55 6 3 .int := ⟨R_Patch, T_Patch, 15, ty_Patch, ci_Patch, by decide, mem_t 320 (by decide +kernel) rfl, rfl, rfl⟩
theorem fl_Patch_58 : FL "GatePatch$Patch" 58 1 5 := ⟨R_Finder, T_Finder, 14, ty_Finder, ci_Finder, by decide, mem_t 226 (by decide +kernel) rfl⟩
theorem fp_Patch_61 : FP "GatePatch$Patch" 61 6 5 .int := ⟨R_Patch, T_Patch, 15, ty_Patch, ci_Patch, by decide, mem_t 325 (by decide +kernel) rfl, rfl, rfl⟩
theorem fl_Patch_62 : FL "GatePatch$Patch" 62 1 2 := ⟨R_Finder, T_Finder, 14, ty_Finder, ci_Finder, by decide, mem_t 220 (by decide +kernel) rfl⟩
theorem fl_Patch_9 : FL "GatePatch$Patch" 9 6 2 := ⟨R_Patch, T_Patch, 15, ty_Patch, ci_Patch, by decide, mem_t 317 (by decide +kernel) rfl⟩
theorem fl_Patch_55 : FL "GatePatch$Patch" 55 6 3 := ⟨R_Patch, T_Patch, 15, ty_Patch, ci_Patch, by decide, mem_t 320 (by decide +kernel) rfl⟩
theorem ml_Patch_64 : Cond.methodLink "GatePatch$Patch" 64 arraycopyName ∈ tblG := mem_t 917 (by decide +kernel) rfl
theorem fl_Patch_70 : FL "GatePatch$Patch" 70 1 4 := ⟨R_Finder, T_Finder, 14, ty_Finder, ci_Finder, by decide, mem_t 224 (by decide +kernel) rfl⟩
theorem fl_Patch_15 : FL "GatePatch$Patch" 15 6 4 := ⟨R_Patch, T_Patch, 15, ty_Patch, ci_Patch, by decide, mem_t 322 (by decide +kernel) rfl⟩
theorem fl_Patch_18 : FL "GatePatch$Patch" 18 6 6 := ⟨R_Patch, T_Patch, 15, ty_Patch, ci_Patch, by decide, mem_t 328 (by decide +kernel) rfl⟩
theorem fl_Patch_76 : FL "GatePatch$Patch" 76 1 10 := ⟨R_Finder, T_Finder, 14, ty_Finder, ci_Finder, by decide, mem_t 232 (by decide +kernel) rfl⟩
theorem fl_Patch_21 : FL "GatePatch$Patch" 21 6 7 := ⟨R_Patch, T_Patch, 15, ty_Patch, ci_Patch, by decide, mem_t 330 (by decide +kernel) rfl⟩
theorem fl_Spares_24 : FL "GatePatch$Spares" 24 8 0 := ⟨R_Spares, T_Spares, 6, ty_Spares, ci_Spares, by decide, mem_t 387 (by decide +kernel) rfl⟩
theorem fl_Spares_28 : FL "GatePatch$Spares" 28 8 1 := ⟨R_Spares, T_Spares, 6, ty_Spares, ci_Spares, by decide, mem_t 389 (by decide +kernel) rfl⟩
theorem fp_Spares_28 : FP "GatePatch$Spares" 28 8 1 .int := ⟨R_Spares, T_Spares, 6, ty_Spares, ci_Spares, by decide, mem_t 389 (by decide +kernel) rfl, rfl, rfl⟩
theorem fl_Spares_15 : FL "GatePatch$Spares" 15 8 3 := ⟨R_Spares, T_Spares, 6, ty_Spares, ci_Spares, by decide, mem_t 392 (by decide +kernel) rfl⟩
theorem plain_Spares : plainName "GatePatch$Spares" = true := by decide +kernel
theorem fl_Patch_39 : FL "GatePatch$Patch" 39 6 14 := ⟨R_Patch, T_Patch, 15, ty_Patch, ci_Patch, by decide, mem_t 349 (by decide +kernel) rfl⟩
theorem fl_Patch_90 : FL "GatePatch$Patch" 90 7 7 := ⟨R_Plan, T_Plan, 8, ty_Plan, ci_Plan, by decide, mem_t 69 (by decide +kernel) rfl⟩
theorem ml_Patch_95 : Cond.methodLink "GatePatch$Patch" 95 yX8_addGate ∈ tblG := mem_t 1107 (by decide +kernel) rfl
theorem im_X8_addGate : Cond.instanceMethod yX8_addGate ∈ tblG := mem_t 589 (by decide +kernel) rfl
theorem se_X8_addGate : Cond.selects "GatePatch$Plan" yX8_addGate yX8_addGate ∈ tblG := mem_t 590 (by decide +kernel) rfl
theorem cw_X8_addGate : Cond.code yX8_addGate cX8_addGate 7 (Option.some Jvm.ClassFile.FieldType.int) ∈ tblG := mem_t 591 (by decide +kernel) rfl
theorem nd_X8_addGate : yX8_addGate.cls ≠ "java/lang/invoke/MethodHandle" ∧ yX8_addGate.cls ≠ "java/lang/invoke/VarHandle" ∧ (parseMethodDescriptor yX8_addGate.desc).map (fun d => d.parameters.length) = some 5 := by decide +kernel
theorem ml_Patch_105 : Cond.methodLink "GatePatch$Patch" 105 yX7_wireOf ∈ tblG := mem_t 1112 (by decide +kernel) rfl
theorem im_X7_wireOf : Cond.instanceMethod yX7_wireOf ∈ tblG := mem_t 1114 (by decide +kernel) rfl
theorem se_X7_wireOf : Cond.selects "GatePatch$Patch" yX7_wireOf yX7_wireOf ∈ tblG := mem_s 34 (by decide +kernel) rfl
theorem cw_X7_wireOf : Cond.code yX7_wireOf cX7_wireOf 2 (Option.some Jvm.ClassFile.FieldType.int) ∈ tblG := mem_t 1115 (by decide +kernel) rfl
theorem nd_X7_wireOf : yX7_wireOf.cls ≠ "java/lang/invoke/MethodHandle" ∧ yX7_wireOf.cls ≠ "java/lang/invoke/VarHandle" ∧ (parseMethodDescriptor yX7_wireOf.desc).map (fun d => d.parameters.length) = some 1 := by decide +kernel
theorem fl_Patch_46 : FL "GatePatch$Patch" 46 6 1 := ⟨R_Patch, T_Patch, 15, ty_Patch, ci_Patch, by decide, mem_t 314 (by decide +kernel) rfl⟩
theorem ml_Patch_99 : Cond.methodLink "GatePatch$Patch" 99 yX9_use ∈ tblG := mem_t 1108 (by decide +kernel) rfl
theorem im_X9_use : Cond.instanceMethod yX9_use ∈ tblG := mem_t 1109 (by decide +kernel) rfl
theorem se_X9_use : Cond.selects "GatePatch$Spares" yX9_use yX9_use ∈ tblG := mem_t 1110 (by decide +kernel) rfl
theorem cw_X9_use : Cond.code yX9_use cX9_use 2 (Option.some Jvm.ClassFile.FieldType.int) ∈ tblG := mem_t 1111 (by decide +kernel) rfl
theorem ini_Spares : Cond.initialized "GatePatch$Spares" ∈ tblG := mem_t 9 (by decide +kernel) rfl
theorem nd_X9_use : yX9_use.cls ≠ "java/lang/invoke/MethodHandle" ∧ yX9_use.cls ≠ "java/lang/invoke/VarHandle" ∧ (parseMethodDescriptor yX9_use.desc).map (fun d => d.parameters.length) = some 1 := by decide +kernel
theorem dX4_start_0 : decode cX4_start 0 = .ok (.aload_n 0, 1) := by decide +kernel
theorem dX4_start_1 : decode cX4_start 1 = .ok (.getfield 9, 3) := by decide +kernel
theorem dX4_start_4 : decode cX4_start 4 = .ok (.iconst (-1), 1) := by decide +kernel
theorem dX4_start_5 : decode cX4_start 5 = .ok (.invokestatic 18, 3) := by decide +kernel
theorem dX4_start_8 : decode cX4_start 8 = .ok (.aload_n 0, 1) := by decide +kernel
theorem dX4_start_9 : decode cX4_start 9 = .ok (.iconst 0, 1) := by decide +kernel
theorem dX4_start_10 : decode cX4_start 10 = .ok (.putfield 24, 3) := by decide +kernel
theorem dX4_start_13 : decode cX4_start 13 = .ok (.return_, 1) := by decide +kernel
theorem dX4_give_0 : decode cX4_give 0 = .ok (.aload_n 0, 1) := by decide +kernel
theorem dX4_give_1 : decode cX4_give 1 = .ok (.dup, 1) := by decide +kernel
theorem dX4_give_2 : decode cX4_give 2 = .ok (.getfield 24, 3) := by decide +kernel
theorem dX4_give_5 : decode cX4_give 5 = .ok (.iload_n 2, 1) := by decide +kernel
theorem dX4_give_6 : decode cX4_give 6 = .ok (.ifCond .lt 7, 3) := by decide +kernel
theorem dX4_give_9 : decode cX4_give 9 = .ok (.iconst 1, 1) := by decide +kernel
theorem dX4_give_10 : decode cX4_give 10 = .ok (.goto 4, 3) := by decide +kernel
theorem dX4_give_13 : decode cX4_give 13 = .ok (.iconst 0, 1) := by decide +kernel
theorem dX4_give_14 : decode cX4_give 14 = .ok (.aload_n 0, 1) := by decide +kernel
theorem dX4_give_15 : decode cX4_give 15 = .ok (.getfield 9, 3) := by decide +kernel
theorem dX4_give_18 : decode cX4_give 18 = .ok (.iload_n 1, 1) := by decide +kernel
theorem dX4_give_19 : decode cX4_give 19 = .ok (.iaload, 1) := by decide +kernel
theorem dX4_give_20 : decode cX4_give 20 = .ok (.ifCond .lt 7, 3) := by decide +kernel
theorem dX4_give_23 : decode cX4_give 23 = .ok (.iconst 1, 1) := by decide +kernel
theorem dX4_give_24 : decode cX4_give 24 = .ok (.goto 4, 3) := by decide +kernel
theorem dX4_give_27 : decode cX4_give 27 = .ok (.iconst 0, 1) := by decide +kernel
theorem dX4_give_28 : decode cX4_give 28 = .ok (.isub, 1) := by decide +kernel
theorem dX4_give_29 : decode cX4_give 29 = .ok (.iadd, 1) := by decide +kernel
theorem dX4_give_30 : decode cX4_give 30 = .ok (.putfield 24, 3) := by decide +kernel
theorem dX4_give_33 : decode cX4_give 33 = .ok (.aload_n 0, 1) := by decide +kernel
theorem dX4_give_34 : decode cX4_give 34 = .ok (.getfield 9, 3) := by decide +kernel
theorem dX4_give_37 : decode cX4_give 37 = .ok (.iload_n 1, 1) := by decide +kernel
theorem dX4_give_38 : decode cX4_give 38 = .ok (.iload_n 2, 1) := by decide +kernel
theorem dX4_give_39 : decode cX4_give 39 = .ok (.iastore, 1) := by decide +kernel
theorem dX4_give_40 : decode cX4_give 40 = .ok (.return_, 1) := by decide +kernel
theorem dX4_forgetFrom_0 : decode cX4_forgetFrom 0 = .ok (.iload_n 1, 1) := by decide +kernel
theorem dX4_forgetFrom_1 : decode cX4_forgetFrom 1 = .ok (.istore_n 2, 1) := by decide +kernel
theorem dX4_forgetFrom_2 : decode cX4_forgetFrom 2 = .ok (.iload_n 2, 1) := by decide +kernel
theorem dX4_forgetFrom_3 : decode cX4_forgetFrom 3 = .ok (.bipush 48, 2) := by decide +kernel
theorem dX4_forgetFrom_5 : decode cX4_forgetFrom 5 = .ok (.if_icmp .ge 15, 3) := by decide +kernel
theorem dX4_forgetFrom_8 : decode cX4_forgetFrom 8 = .ok (.aload_n 0, 1) := by decide +kernel
theorem dX4_forgetFrom_9 : decode cX4_forgetFrom 9 = .ok (.iload_n 2, 1) := by decide +kernel
theorem dX4_forgetFrom_10 : decode cX4_forgetFrom 10 = .ok (.iconst (-1), 1) := by decide +kernel
theorem dX4_forgetFrom_11 : decode cX4_forgetFrom 11 = .ok (.invokevirtual 28, 3) := by decide +kernel
theorem dX4_forgetFrom_14 : decode cX4_forgetFrom 14 = .ok (.iinc 2 1, 3) := by decide +kernel
theorem dX4_forgetFrom_17 : decode cX4_forgetFrom 17 = .ok (.goto (-15), 3) := by decide +kernel
theorem dX4_forgetFrom_20 : decode cX4_forgetFrom 20 = .ok (.return_, 1) := by decide +kernel
theorem dX4_listUsable_0 : decode cX4_listUsable 0 = .ok (.aload_n 0, 1) := by decide +kernel
theorem dX4_listUsable_1 : decode cX4_listUsable 1 = .ok (.iconst 0, 1) := by decide +kernel
theorem dX4_listUsable_2 : decode cX4_listUsable 2 = .ok (.putfield 44, 3) := by decide +kernel
theorem dX4_listUsable_5 : decode cX4_listUsable 5 = .ok (.iconst 0, 1) := by decide +kernel
theorem dX4_listUsable_6 : decode cX4_listUsable 6 = .ok (.istore_n 3, 1) := by decide +kernel
theorem dX4_listUsable_7 : decode cX4_listUsable 7 = .ok (.iload_n 3, 1) := by decide +kernel
theorem dX4_listUsable_8 : decode cX4_listUsable 8 = .ok (.aload_n 1, 1) := by decide +kernel
theorem dX4_listUsable_9 : decode cX4_listUsable 9 = .ok (.getfield 76, 3) := by decide +kernel
theorem dX4_listUsable_12 : decode cX4_listUsable 12 = .ok (.invokevirtual 82, 3) := by decide +kernel
theorem dX4_listUsable_15 : decode cX4_listUsable 15 = .ok (.if_icmp .ge 56, 3) := by decide +kernel
theorem dX4_listUsable_18 : decode cX4_listUsable 18 = .ok (.aload_n 0, 1) := by decide +kernel
theorem dX4_listUsable_19 : decode cX4_listUsable 19 = .ok (.getfield 44, 3) := by decide +kernel
theorem dX4_listUsable_22 : decode cX4_listUsable 22 = .ok (.bipush 10, 2) := by decide +kernel
theorem dX4_listUsable_24 : decode cX4_listUsable 24 = .ok (.if_icmp .ge 47, 3) := by decide +kernel
theorem dX4_listUsable_27 : decode cX4_listUsable 27 = .ok (.aload_n 0, 1) := by decide +kernel
theorem dX4_listUsable_28 : decode cX4_listUsable 28 = .ok (.getfield 9, 3) := by decide +kernel
theorem dX4_listUsable_31 : decode cX4_listUsable 31 = .ok (.iload_n 3, 1) := by decide +kernel
theorem dX4_listUsable_32 : decode cX4_listUsable 32 = .ok (.iaload, 1) := by decide +kernel
theorem dX4_listUsable_33 : decode cX4_listUsable 33 = .ok (.ifCond .lt 32, 3) := by decide +kernel
theorem dX4_listUsable_36 : decode cX4_listUsable 36 = .ok (.aload_n 1, 1) := by decide +kernel
theorem dX4_listUsable_37 : decode cX4_listUsable 37 = .ok (.iload_n 3, 1) := by decide +kernel
theorem dX4_listUsable_38 : decode cX4_listUsable 38 = .ok (.iload_n 2, 1) := by decide +kernel
theorem dX4_listUsable_39 : decode cX4_listUsable 39 = .ok (.invokevirtual 88, 3) := by decide +kernel
theorem dX4_listUsable_42 : decode cX4_listUsable 42 = .ok (.ifCond .ne 23, 3) := by decide +kernel
theorem dX4_listUsable_45 : decode cX4_listUsable 45 = .ok (.aload_n 0, 1) := by decide +kernel
theorem dX4_listUsable_46 : decode cX4_listUsable 46 = .ok (.getfield 15, 3) := by decide +kernel
theorem dX4_listUsable_49 : decode cX4_listUsable 49 = .ok (.aload_n 0, 1) := by decide +kernel
theorem dX4_listUsable_50 : decode cX4_listUsable 50 = .ok (.getfield 44, 3) := by decide +kernel
theorem dX4_listUsable_53 : decode cX4_listUsable 53 = .ok (.iload_n 3, 1) := by decide +kernel
theorem dX4_listUsable_54 : decode cX4_listUsable 54 = .ok (.iastore, 1) := by decide +kernel
theorem dX4_listUsable_55 : decode cX4_listUsable 55 = .ok (.aload_n 0, 1) := by decide +kernel
theorem dX4_listUsable_56 : decode cX4_listUsable 56 = .ok (.dup, 1) := by decide +kernel
theorem dX4_listUsable_57 : decode cX4_listUsable 57 = .ok (.getfield 44, 3) := by decide +kernel
theorem dX4_listUsable_60 : decode cX4_listUsable 60 = .ok (.iconst 1, 1) := by decide +kernel
theorem dX4_listUsable_61 : decode cX4_listUsable 61 = .ok (.iadd, 1) := by decide +kernel
theorem dX4_listUsable_62 : decode cX4_listUsable 62 = .ok (.putfield 44, 3) := by decide +kernel
theorem dX4_listUsable_65 : decode cX4_listUsable 65 = .ok (.iinc 3 1, 3) := by decide +kernel
theorem dX4_listUsable_68 : decode cX4_listUsable 68 = .ok (.goto (-61), 3) := by decide +kernel
theorem dX4_listUsable_71 : decode cX4_listUsable 71 = .ok (.return_, 1) := by decide +kernel
theorem dX4_tryOne_0 : decode cX4_tryOne 0 = .ok (.iload_n 2, 1) := by decide +kernel
theorem dX4_tryOne_1 : decode cX4_tryOne 1 = .ok (.ifCond .ge 7, 3) := by decide +kernel
theorem dX4_tryOne_4 : decode cX4_tryOne 4 = .ok (.iconst 0, 1) := by decide +kernel
theorem dX4_tryOne_5 : decode cX4_tryOne 5 = .ok (.goto 9, 3) := by decide +kernel
theorem dX4_tryOne_8 : decode cX4_tryOne 8 = .ok (.aload_n 0, 1) := by decide +kernel
theorem dX4_tryOne_9 : decode cX4_tryOne 9 = .ok (.getfield 9, 3) := by decide +kernel
theorem dX4_tryOne_12 : decode cX4_tryOne 12 = .ok (.iload_n 2, 1) := by decide +kernel
theorem dX4_tryOne_13 : decode cX4_tryOne 13 = .ok (.iaload, 1) := by decide +kernel
theorem dX4_tryOne_14 : decode cX4_tryOne 14 = .ok (.iload_n 3, 1) := by decide +kernel
theorem dX4_tryOne_15 : decode cX4_tryOne 15 = .ok (.ifCond .ge 7, 3) := by decide +kernel
theorem dX4_tryOne_18 : decode cX4_tryOne 18 = .ok (.iconst 0, 1) := by decide +kernel
theorem dX4_tryOne_19 : decode cX4_tryOne 19 = .ok (.goto 9, 3) := by decide +kernel
theorem dX4_tryOne_22 : decode cX4_tryOne 22 = .ok (.aload_n 0, 1) := by decide +kernel
theorem dX4_tryOne_23 : decode cX4_tryOne 23 = .ok (.getfield 9, 3) := by decide +kernel
theorem dX4_tryOne_26 : decode cX4_tryOne 26 = .ok (.iload_n 3, 1) := by decide +kernel
theorem dX4_tryOne_27 : decode cX4_tryOne 27 = .ok (.iaload, 1) := by decide +kernel
theorem dX4_tryOne_28 : decode cX4_tryOne 28 = .ok (.iadd, 1) := by decide +kernel
theorem dX4_tryOne_29 : decode cX4_tryOne 29 = .ok (.iload 4, 2) := by decide +kernel
theorem dX4_tryOne_31 : decode cX4_tryOne 31 = .ok (.ifCond .ge 7, 3) := by decide +kernel
theorem dX4_tryOne_34 : decode cX4_tryOne 34 = .ok (.iconst 0, 1) := by decide +kernel
theorem dX4_tryOne_35 : decode cX4_tryOne 35 = .ok (.goto 10, 3) := by decide +kernel
theorem dX4_tryOne_38 : decode cX4_tryOne 38 = .ok (.aload_n 0, 1) := by decide +kernel
theorem dX4_tryOne_39 : decode cX4_tryOne 39 = .ok (.getfield 9, 3) := by decide +kernel
theorem dX4_tryOne_42 : decode cX4_tryOne 42 = .ok (.iload 4, 2) := by decide +kernel
theorem dX4_tryOne_44 : decode cX4_tryOne 44 = .ok (.iaload, 1) := by decide +kernel
theorem dX4_tryOne_45 : decode cX4_tryOne 45 = .ok (.iadd, 1) := by decide +kernel
theorem dX4_tryOne_46 : decode cX4_tryOne 46 = .ok (.istore 5, 2) := by decide +kernel
theorem dX4_tryOne_48 : decode cX4_tryOne 48 = .ok (.aload_n 0, 1) := by decide +kernel
theorem dX4_tryOne_49 : decode cX4_tryOne 49 = .ok (.getfield 36, 3) := by decide +kernel
theorem dX4_tryOne_52 : decode cX4_tryOne 52 = .ok (.ifCond .eq 12, 3) := by decide +kernel
theorem dX4_tryOne_55 : decode cX4_tryOne 55 = .ok (.iload 5, 2) := by decide +kernel
theorem dX4_tryOne_57 : decode cX4_tryOne 57 = .ok (.aload_n 0, 1) := by decide +kernel
theorem dX4_tryOne_58 : decode cX4_tryOne 58 = .ok (.getfield 92, 3) := by decide +kernel
theorem dX4_tryOne_61 : decode cX4_tryOne 61 = .ok (.if_icmp .ge 21, 3) := by decide +kernel
theorem dX4_tryOne_64 : decode cX4_tryOne 64 = .ok (.aload_n 1, 1) := by decide +kernel
theorem dX4_tryOne_65 : decode cX4_tryOne 65 = .ok (.iload_n 2, 1) := by decide +kernel
theorem dX4_tryOne_66 : decode cX4_tryOne 66 = .ok (.iload_n 3, 1) := by decide +kernel
theorem dX4_tryOne_67 : decode cX4_tryOne 67 = .ok (.iload 4, 2) := by decide +kernel
theorem dX4_tryOne_69 : decode cX4_tryOne 69 = .ok (.invokevirtual 63, 3) := by decide +kernel
theorem dX4_tryOne_72 : decode cX4_tryOne 72 = .ok (.ifCond .eq 10, 3) := by decide +kernel
theorem dX4_tryOne_75 : decode cX4_tryOne 75 = .ok (.aload_n 1, 1) := by decide +kernel
theorem dX4_tryOne_76 : decode cX4_tryOne 76 = .ok (.invokevirtual 69, 3) := by decide +kernel
theorem dX4_tryOne_79 : decode cX4_tryOne 79 = .ok (.ifCond .ne 4, 3) := by decide +kernel
theorem dX4_tryOne_82 : decode cX4_tryOne 82 = .ok (.return_, 1) := by decide +kernel
theorem dX4_tryOne_83 : decode cX4_tryOne 83 = .ok (.aload_n 1, 1) := by decide +kernel
theorem dX4_tryOne_84 : decode cX4_tryOne 84 = .ok (.invokevirtual 73, 3) := by decide +kernel
theorem dX4_tryOne_87 : decode cX4_tryOne 87 = .ok (.iload 5, 2) := by decide +kernel
theorem dX4_tryOne_89 : decode cX4_tryOne 89 = .ok (.bipush 10, 2) := by decide +kernel
theorem dX4_tryOne_91 : decode cX4_tryOne 91 = .ok (.aload_n 1, 1) := by decide +kernel
theorem dX4_tryOne_92 : decode cX4_tryOne 92 = .ok (.getfield 95, 3) := by decide +kernel
theorem dX4_tryOne_95 : decode cX4_tryOne 95 = .ok (.imul, 1) := by decide +kernel
theorem dX4_tryOne_96 : decode cX4_tryOne 96 = .ok (.iadd, 1) := by decide +kernel
theorem dX4_tryOne_97 : decode cX4_tryOne 97 = .ok (.istore 5, 2) := by decide +kernel
theorem dX4_tryOne_99 : decode cX4_tryOne 99 = .ok (.aload_n 0, 1) := by decide +kernel
theorem dX4_tryOne_100 : decode cX4_tryOne 100 = .ok (.getfield 36, 3) := by decide +kernel
theorem dX4_tryOne_103 : decode cX4_tryOne 103 = .ok (.ifCond .eq 12, 3) := by decide +kernel
theorem dX4_tryOne_106 : decode cX4_tryOne 106 = .ok (.iload 5, 2) := by decide +kernel
theorem dX4_tryOne_108 : decode cX4_tryOne 108 = .ok (.aload_n 0, 1) := by decide +kernel
theorem dX4_tryOne_109 : decode cX4_tryOne 109 = .ok (.getfield 92, 3) := by decide +kernel
theorem dX4_tryOne_112 : decode cX4_tryOne 112 = .ok (.if_icmp .ge 30, 3) := by decide +kernel
theorem dX4_tryOne_115 : decode cX4_tryOne 115 = .ok (.aload_n 0, 1) := by decide +kernel
theorem dX4_tryOne_116 : decode cX4_tryOne 116 = .ok (.iconst 1, 1) := by decide +kernel
theorem dX4_tryOne_117 : decode cX4_tryOne 117 = .ok (.putfield 36, 3) := by decide +kernel
theorem dX4_tryOne_120 : decode cX4_tryOne 120 = .ok (.aload_n 0, 1) := by decide +kernel
theorem dX4_tryOne_121 : decode cX4_tryOne 121 = .ok (.iload 5, 2) := by decide +kernel
theorem dX4_tryOne_123 : decode cX4_tryOne 123 = .ok (.putfield 92, 3) := by decide +kernel
theorem dX4_tryOne_126 : decode cX4_tryOne 126 = .ok (.aload_n 0, 1) := by decide +kernel
theorem dX4_tryOne_127 : decode cX4_tryOne 127 = .ok (.iload_n 2, 1) := by decide +kernel
theorem dX4_tryOne_128 : decode cX4_tryOne 128 = .ok (.putfield 54, 3) := by decide +kernel
theorem dX4_tryOne_131 : decode cX4_tryOne 131 = .ok (.aload_n 0, 1) := by decide +kernel
theorem dX4_tryOne_132 : decode cX4_tryOne 132 = .ok (.iload_n 3, 1) := by decide +kernel
theorem dX4_tryOne_133 : decode cX4_tryOne 133 = .ok (.putfield 57, 3) := by decide +kernel
theorem dX4_tryOne_136 : decode cX4_tryOne 136 = .ok (.aload_n 0, 1) := by decide +kernel
theorem dX4_tryOne_137 : decode cX4_tryOne 137 = .ok (.iload 4, 2) := by decide +kernel
theorem dX4_tryOne_139 : decode cX4_tryOne 139 = .ok (.putfield 60, 3) := by decide +kernel
theorem dX4_tryOne_142 : decode cX4_tryOne 142 = .ok (.return_, 1) := by decide +kernel
theorem dX4_tryTwos_0 : decode cX4_tryTwos 0 = .ok (.iconst 0, 1) := by decide +kernel
theorem dX4_tryTwos_1 : decode cX4_tryTwos 1 = .ok (.istore_n 2, 1) := by decide +kernel
theorem dX4_tryTwos_2 : decode cX4_tryTwos 2 = .ok (.iload_n 2, 1) := by decide +kernel
theorem dX4_tryTwos_3 : decode cX4_tryTwos 3 = .ok (.aload_n 0, 1) := by decide +kernel
theorem dX4_tryTwos_4 : decode cX4_tryTwos 4 = .ok (.getfield 44, 3) := by decide +kernel
theorem dX4_tryTwos_7 : decode cX4_tryTwos 7 = .ok (.if_icmp .ge 45, 3) := by decide +kernel
theorem dX4_tryTwos_10 : decode cX4_tryTwos 10 = .ok (.iload_n 2, 1) := by decide +kernel
theorem dX4_tryTwos_11 : decode cX4_tryTwos 11 = .ok (.iconst 1, 1) := by decide +kernel
theorem dX4_tryTwos_12 : decode cX4_tryTwos 12 = .ok (.iadd, 1) := by decide +kernel
theorem dX4_tryTwos_13 : decode cX4_tryTwos 13 = .ok (.istore_n 3, 1) := by decide +kernel
theorem dX4_tryTwos_14 : decode cX4_tryTwos 14 = .ok (.iload_n 3, 1) := by decide +kernel
theorem dX4_tryTwos_15 : decode cX4_tryTwos 15 = .ok (.aload_n 0, 1) := by decide +kernel
theorem dX4_tryTwos_16 : decode cX4_tryTwos 16 = .ok (.getfield 44, 3) := by decide +kernel
theorem dX4_tryTwos_19 : decode cX4_tryTwos 19 = .ok (.if_icmp .ge 27, 3) := by decide +kernel
theorem dX4_tryTwos_22 : decode cX4_tryTwos 22 = .ok (.aload_n 0, 1) := by decide +kernel
theorem dX4_tryTwos_23 : decode cX4_tryTwos 23 = .ok (.aload_n 1, 1) := by decide +kernel
theorem dX4_tryTwos_24 : decode cX4_tryTwos 24 = .ok (.aload_n 0, 1) := by decide +kernel
theorem dX4_tryTwos_25 : decode cX4_tryTwos 25 = .ok (.getfield 15, 3) := by decide +kernel
theorem dX4_tryTwos_28 : decode cX4_tryTwos 28 = .ok (.iload_n 2, 1) := by decide +kernel
theorem dX4_tryTwos_29 : decode cX4_tryTwos 29 = .ok (.iaload, 1) := by decide +kernel
theorem dX4_tryTwos_30 : decode cX4_tryTwos 30 = .ok (.aload_n 0, 1) := by decide +kernel
theorem dX4_tryTwos_31 : decode cX4_tryTwos 31 = .ok (.getfield 15, 3) := by decide +kernel
theorem dX4_tryTwos_34 : decode cX4_tryTwos 34 = .ok (.iload_n 3, 1) := by decide +kernel
theorem dX4_tryTwos_35 : decode cX4_tryTwos 35 = .ok (.iaload, 1) := by decide +kernel
theorem dX4_tryTwos_36 : decode cX4_tryTwos 36 = .ok (.iconst (-1), 1) := by decide +kernel
theorem dX4_tryTwos_37 : decode cX4_tryTwos 37 = .ok (.invokevirtual 40, 3) := by decide +kernel
theorem dX4_tryTwos_40 : decode cX4_tryTwos 40 = .ok (.iinc 3 1, 3) := by decide +kernel
theorem dX4_tryTwos_43 : decode cX4_tryTwos 43 = .ok (.goto (-29), 3) := by decide +kernel
theorem dX4_tryTwos_46 : decode cX4_tryTwos 46 = .ok (.iinc 2 1, 3) := by decide +kernel
theorem dX4_tryTwos_49 : decode cX4_tryTwos 49 = .ok (.goto (-47), 3) := by decide +kernel
theorem dX4_tryTwos_52 : decode cX4_tryTwos 52 = .ok (.return_, 1) := by decide +kernel
theorem dX4_tryThrees_0 : decode cX4_tryThrees 0 = .ok (.iconst 0, 1) := by decide +kernel
theorem dX4_tryThrees_1 : decode cX4_tryThrees 1 = .ok (.istore_n 2, 1) := by decide +kernel
theorem dX4_tryThrees_2 : decode cX4_tryThrees 2 = .ok (.iload_n 2, 1) := by decide +kernel
theorem dX4_tryThrees_3 : decode cX4_tryThrees 3 = .ok (.aload_n 0, 1) := by decide +kernel
theorem dX4_tryThrees_4 : decode cX4_tryThrees 4 = .ok (.getfield 44, 3) := by decide +kernel
theorem dX4_tryThrees_7 : decode cX4_tryThrees 7 = .ok (.if_icmp .ge 71, 3) := by decide +kernel
theorem dX4_tryThrees_10 : decode cX4_tryThrees 10 = .ok (.iload_n 2, 1) := by decide +kernel
theorem dX4_tryThrees_11 : decode cX4_tryThrees 11 = .ok (.iconst 1, 1) := by decide +kernel
theorem dX4_tryThrees_12 : decode cX4_tryThrees 12 = .ok (.iadd, 1) := by decide +kernel
theorem dX4_tryThrees_13 : decode cX4_tryThrees 13 = .ok (.istore_n 3, 1) := by decide +kernel
theorem dX4_tryThrees_14 : decode cX4_tryThrees 14 = .ok (.iload_n 3, 1) := by decide +kernel
theorem dX4_tryThrees_15 : decode cX4_tryThrees 15 = .ok (.aload_n 0, 1) := by decide +kernel
theorem dX4_tryThrees_16 : decode cX4_tryThrees 16 = .ok (.getfield 44, 3) := by decide +kernel
theorem dX4_tryThrees_19 : decode cX4_tryThrees 19 = .ok (.if_icmp .ge 53, 3) := by decide +kernel
theorem dX4_tryThrees_22 : decode cX4_tryThrees 22 = .ok (.iload_n 3, 1) := by decide +kernel
theorem dX4_tryThrees_23 : decode cX4_tryThrees 23 = .ok (.iconst 1, 1) := by decide +kernel
theorem dX4_tryThrees_24 : decode cX4_tryThrees 24 = .ok (.iadd, 1) := by decide +kernel
theorem dX4_tryThrees_25 : decode cX4_tryThrees 25 = .ok (.istore 4, 2) := by decide +kernel
theorem dX4_tryThrees_27 : decode cX4_tryThrees 27 = .ok (.iload 4, 2) := by decide +kernel
theorem dX4_tryThrees_29 : decode cX4_tryThrees 29 = .ok (.aload_n 0, 1) := by decide +kernel
theorem dX4_tryThrees_30 : decode cX4_tryThrees 30 = .ok (.getfield 44, 3) := by decide +kernel
theorem dX4_tryThrees_33 : decode cX4_tryThrees 33 = .ok (.if_icmp .ge 33, 3) := by decide +kernel
theorem dX4_tryThrees_36 : decode cX4_tryThrees 36 = .ok (.aload_n 0, 1) := by decide +kernel
theorem dX4_tryThrees_37 : decode cX4_tryThrees 37 = .ok (.aload_n 1, 1) := by decide +kernel
theorem dX4_tryThrees_38 : decode cX4_tryThrees 38 = .ok (.aload_n 0, 1) := by decide +kernel
theorem dX4_tryThrees_39 : decode cX4_tryThrees 39 = .ok (.getfield 15, 3) := by decide +kernel
theorem dX4_tryThrees_42 : decode cX4_tryThrees 42 = .ok (.iload_n 2, 1) := by decide +kernel
theorem dX4_tryThrees_43 : decode cX4_tryThrees 43 = .ok (.iaload, 1) := by decide +kernel
theorem dX4_tryThrees_44 : decode cX4_tryThrees 44 = .ok (.aload_n 0, 1) := by decide +kernel
theorem dX4_tryThrees_45 : decode cX4_tryThrees 45 = .ok (.getfield 15, 3) := by decide +kernel
theorem dX4_tryThrees_48 : decode cX4_tryThrees 48 = .ok (.iload_n 3, 1) := by decide +kernel
theorem dX4_tryThrees_49 : decode cX4_tryThrees 49 = .ok (.iaload, 1) := by decide +kernel
theorem dX4_tryThrees_50 : decode cX4_tryThrees 50 = .ok (.aload_n 0, 1) := by decide +kernel
theorem dX4_tryThrees_51 : decode cX4_tryThrees 51 = .ok (.getfield 15, 3) := by decide +kernel
theorem dX4_tryThrees_54 : decode cX4_tryThrees 54 = .ok (.iload 4, 2) := by decide +kernel
theorem dX4_tryThrees_56 : decode cX4_tryThrees 56 = .ok (.iaload, 1) := by decide +kernel
theorem dX4_tryThrees_57 : decode cX4_tryThrees 57 = .ok (.invokevirtual 40, 3) := by decide +kernel
theorem dX4_tryThrees_60 : decode cX4_tryThrees 60 = .ok (.iinc 4 1, 3) := by decide +kernel
theorem dX4_tryThrees_63 : decode cX4_tryThrees 63 = .ok (.goto (-36), 3) := by decide +kernel
theorem dX4_tryThrees_66 : decode cX4_tryThrees 66 = .ok (.iinc 3 1, 3) := by decide +kernel
theorem dX4_tryThrees_69 : decode cX4_tryThrees 69 = .ok (.goto (-55), 3) := by decide +kernel
theorem dX4_tryThrees_72 : decode cX4_tryThrees 72 = .ok (.iinc 2 1, 3) := by decide +kernel
theorem dX4_tryThrees_75 : decode cX4_tryThrees 75 = .ok (.goto (-73), 3) := by decide +kernel
theorem dX4_tryThrees_78 : decode cX4_tryThrees 78 = .ok (.return_, 1) := by decide +kernel
theorem dX4_search_0 : decode cX4_search 0 = .ok (.aload_n 0, 1) := by decide +kernel
theorem dX4_search_1 : decode cX4_search 1 = .ok (.aload_n 2, 1) := by decide +kernel
theorem dX4_search_2 : decode cX4_search 2 = .ok (.iload_n 3, 1) := by decide +kernel
theorem dX4_search_3 : decode cX4_search 3 = .ok (.invokevirtual 32, 3) := by decide +kernel
theorem dX4_search_6 : decode cX4_search 6 = .ok (.aload_n 0, 1) := by decide +kernel
theorem dX4_search_7 : decode cX4_search 7 = .ok (.iconst 0, 1) := by decide +kernel
theorem dX4_search_8 : decode cX4_search 8 = .ok (.putfield 36, 3) := by decide +kernel
theorem dX4_search_11 : decode cX4_search 11 = .ok (.aload_n 0, 1) := by decide +kernel
theorem dX4_search_12 : decode cX4_search 12 = .ok (.aload_n 1, 1) := by decide +kernel
theorem dX4_search_13 : decode cX4_search 13 = .ok (.iconst (-1), 1) := by decide +kernel
theorem dX4_search_14 : decode cX4_search 14 = .ok (.iconst (-1), 1) := by decide +kernel
theorem dX4_search_15 : decode cX4_search 15 = .ok (.iconst (-1), 1) := by decide +kernel
theorem dX4_search_16 : decode cX4_search 16 = .ok (.invokevirtual 40, 3) := by decide +kernel
theorem dX4_search_19 : decode cX4_search 19 = .ok (.iconst 0, 1) := by decide +kernel
theorem dX4_search_20 : decode cX4_search 20 = .ok (.istore 4, 2) := by decide +kernel
theorem dX4_search_22 : decode cX4_search 22 = .ok (.iload 4, 2) := by decide +kernel
theorem dX4_search_24 : decode cX4_search 24 = .ok (.aload_n 0, 1) := by decide +kernel
theorem dX4_search_25 : decode cX4_search 25 = .ok (.getfield 44, 3) := by decide +kernel
theorem dX4_search_28 : decode cX4_search 28 = .ok (.if_icmp .ge 23, 3) := by decide +kernel
theorem dX4_search_31 : decode cX4_search 31 = .ok (.aload_n 0, 1) := by decide +kernel
theorem dX4_search_32 : decode cX4_search 32 = .ok (.aload_n 1, 1) := by decide +kernel
theorem dX4_search_33 : decode cX4_search 33 = .ok (.aload_n 0, 1) := by decide +kernel
theorem dX4_search_34 : decode cX4_search 34 = .ok (.getfield 15, 3) := by decide +kernel
theorem dX4_search_37 : decode cX4_search 37 = .ok (.iload 4, 2) := by decide +kernel
theorem dX4_search_39 : decode cX4_search 39 = .ok (.iaload, 1) := by decide +kernel
theorem dX4_search_40 : decode cX4_search 40 = .ok (.iconst (-1), 1) := by decide +kernel
theorem dX4_search_41 : decode cX4_search 41 = .ok (.iconst (-1), 1) := by decide +kernel
theorem dX4_search_42 : decode cX4_search 42 = .ok (.invokevirtual 40, 3) := by decide +kernel
theorem dX4_search_45 : decode cX4_search 45 = .ok (.iinc 4 1, 3) := by decide +kernel
theorem dX4_search_48 : decode cX4_search 48 = .ok (.goto (-26), 3) := by decide +kernel
theorem dX4_search_51 : decode cX4_search 51 = .ok (.aload_n 0, 1) := by decide +kernel
theorem dX4_search_52 : decode cX4_search 52 = .ok (.aload_n 1, 1) := by decide +kernel
theorem dX4_search_53 : decode cX4_search 53 = .ok (.invokevirtual 47, 3) := by decide +kernel
theorem dX4_search_56 : decode cX4_search 56 = .ok (.aload_n 0, 1) := by decide +kernel
theorem dX4_search_57 : decode cX4_search 57 = .ok (.aload_n 1, 1) := by decide +kernel
theorem dX4_search_58 : decode cX4_search 58 = .ok (.invokevirtual 51, 3) := by decide +kernel
theorem dX4_search_61 : decode cX4_search 61 = .ok (.aload_n 0, 1) := by decide +kernel
theorem dX4_search_62 : decode cX4_search 62 = .ok (.getfield 36, 3) := by decide +kernel
theorem dX4_search_65 : decode cX4_search 65 = .ok (.ifCond .eq 29, 3) := by decide +kernel
theorem dX4_search_68 : decode cX4_search 68 = .ok (.aload_n 1, 1) := by decide +kernel
theorem dX4_search_69 : decode cX4_search 69 = .ok (.aload_n 0, 1) := by decide +kernel
theorem dX4_search_70 : decode cX4_search 70 = .ok (.getfield 54, 3) := by decide +kernel
theorem dX4_search_73 : decode cX4_search 73 = .ok (.aload_n 0, 1) := by decide +kernel
theorem dX4_search_74 : decode cX4_search 74 = .ok (.getfield 57, 3) := by decide +kernel
theorem dX4_search_77 : decode cX4_search 77 = .ok (.aload_n 0, 1) := by decide +kernel
theorem dX4_search_78 : decode cX4_search 78 = .ok (.getfield 60, 3) := by decide +kernel
theorem dX4_search_81 : decode cX4_search 81 = .ok (.invokevirtual 63, 3) := by decide +kernel
theorem dX4_search_84 : decode cX4_search 84 = .ok (.pop, 1) := by decide +kernel
theorem dX4_search_85 : decode cX4_search 85 = .ok (.aload_n 1, 1) := by decide +kernel
theorem dX4_search_86 : decode cX4_search 86 = .ok (.invokevirtual 69, 3) := by decide +kernel
theorem dX4_search_89 : decode cX4_search 89 = .ok (.pop, 1) := by decide +kernel
theorem dX4_search_90 : decode cX4_search 90 = .ok (.aload_n 1, 1) := by decide +kernel
theorem dX4_search_91 : decode cX4_search 91 = .ok (.invokevirtual 73, 3) := by decide +kernel
theorem dX4_search_94 : decode cX4_search 94 = .ok (.aload_n 0, 1) := by decide +kernel
theorem dX4_search_95 : decode cX4_search 95 = .ok (.getfield 36, 3) := by decide +kernel
theorem dX4_search_98 : decode cX4_search 98 = .ok (.ireturn, 1) := by decide +kernel
theorem dX7_drop_0 : decode cX7_drop 0 = .ok (.aload_n 0, 1) := by decide +kernel
theorem dX7_drop_1 : decode cX7_drop 1 = .ok (.iconst 0, 1) := by decide +kernel
theorem dX7_drop_2 : decode cX7_drop 2 = .ok (.putfield 42, 3) := by decide +kernel
theorem dX7_drop_5 : decode cX7_drop 5 = .ok (.return_, 1) := by decide +kernel
theorem dX7_grow_0 : decode cX7_grow 0 = .ok (.aload_n 0, 1) := by decide +kernel
theorem dX7_grow_1 : decode cX7_grow 1 = .ok (.getfield 61, 3) := by decide +kernel
theorem dX7_grow_4 : decode cX7_grow 4 = .ok (.iload_n 1, 1) := by decide +kernel
theorem dX7_grow_5 : decode cX7_grow 5 = .ok (.invokestatic 81, 3) := by decide +kernel
theorem dX7_grow_8 : decode cX7_grow 8 = .ok (.istore 4, 2) := by decide +kernel
theorem dX7_grow_10 : decode cX7_grow 10 = .ok (.iload 4, 2) := by decide +kernel
theorem dX7_grow_12 : decode cX7_grow 12 = .ok (.ifCond .lt 6, 3) := by decide +kernel
theorem dX7_grow_15 : decode cX7_grow 15 = .ok (.iload 4, 2) := by decide +kernel
theorem dX7_grow_17 : decode cX7_grow 17 = .ok (.ireturn, 1) := by decide +kernel
theorem dX7_grow_18 : decode cX7_grow 18 = .ok (.aload_n 0, 1) := by decide +kernel
theorem dX7_grow_19 : decode cX7_grow 19 = .ok (.getfield 61, 3) := by decide +kernel
theorem dX7_grow_22 : decode cX7_grow 22 = .ok (.iload_n 1, 1) := by decide +kernel
theorem dX7_grow_23 : decode cX7_grow 23 = .ok (.invokestatic 87, 3) := by decide +kernel
theorem dX7_grow_26 : decode cX7_grow 26 = .ok (.istore 5, 2) := by decide +kernel
theorem dX7_grow_28 : decode cX7_grow 28 = .ok (.iload 5, 2) := by decide +kernel
theorem dX7_grow_30 : decode cX7_grow 30 = .ok (.ifCond .lt 8, 3) := by decide +kernel
theorem dX7_grow_33 : decode cX7_grow 33 = .ok (.iload_n 3, 1) := by decide +kernel
theorem dX7_grow_34 : decode cX7_grow 34 = .ok (.iconst 4, 1) := by decide +kernel
theorem dX7_grow_35 : decode cX7_grow 35 = .ok (.if_icmp .le 6, 3) := by decide +kernel
theorem dX7_grow_38 : decode cX7_grow 38 = .ok (.bipush (-2), 2) := by decide +kernel
theorem dX7_grow_40 : decode cX7_grow 40 = .ok (.ireturn, 1) := by decide +kernel
theorem dX7_grow_41 : decode cX7_grow 41 = .ok (.iload 5, 2) := by decide +kernel
theorem dX7_grow_43 : decode cX7_grow 43 = .ok (.bipush 16, 2) := by decide +kernel
theorem dX7_grow_45 : decode cX7_grow 45 = .ok (.ishr, 1) := by decide +kernel
theorem dX7_grow_46 : decode cX7_grow 46 = .ok (.istore 6, 2) := by decide +kernel
theorem dX7_grow_48 : decode cX7_grow 48 = .ok (.aload_n 0, 1) := by decide +kernel
theorem dX7_grow_49 : decode cX7_grow 49 = .ok (.iload 5, 2) := by decide +kernel
theorem dX7_grow_51 : decode cX7_grow 51 = .ok (.bipush 8, 2) := by decide +kernel
theorem dX7_grow_53 : decode cX7_grow 53 = .ok (.ishr, 1) := by decide +kernel
theorem dX7_grow_54 : decode cX7_grow 54 = .ok (.sipush 255, 3) := by decide +kernel
theorem dX7_grow_57 : decode cX7_grow 57 = .ok (.iand, 1) := by decide +kernel
theorem dX7_grow_58 : decode cX7_grow 58 = .ok (.iload_n 2, 1) := by decide +kernel
theorem dX7_grow_59 : decode cX7_grow 59 = .ok (.iload_n 3, 1) := by decide +kernel
theorem dX7_grow_60 : decode cX7_grow 60 = .ok (.iconst 1, 1) := by decide +kernel
theorem dX7_grow_61 : decode cX7_grow 61 = .ok (.iadd, 1) := by decide +kernel
theorem dX7_grow_62 : decode cX7_grow 62 = .ok (.invokevirtual 77, 3) := by decide +kernel
theorem dX7_grow_65 : decode cX7_grow 65 = .ok (.istore 7, 2) := by decide +kernel
theorem dX7_grow_67 : decode cX7_grow 67 = .ok (.iload 6, 2) := by decide +kernel
theorem dX7_grow_69 : decode cX7_grow 69 = .ok (.ifCond .ne 8, 3) := by decide +kernel
theorem dX7_grow_72 : decode cX7_grow 72 = .ok (.bipush (-2), 2) := by decide +kernel
theorem dX7_grow_74 : decode cX7_grow 74 = .ok (.goto 17, 3) := by decide +kernel
theorem dX7_grow_77 : decode cX7_grow 77 = .ok (.aload_n 0, 1) := by decide +kernel
theorem dX7_grow_78 : decode cX7_grow 78 = .ok (.iload 5, 2) := by decide +kernel
theorem dX7_grow_80 : decode cX7_grow 80 = .ok (.sipush 255, 3) := by decide +kernel
theorem dX7_grow_83 : decode cX7_grow 83 = .ok (.iand, 1) := by decide +kernel
theorem dX7_grow_84 : decode cX7_grow 84 = .ok (.iload_n 2, 1) := by decide +kernel
theorem dX7_grow_85 : decode cX7_grow 85 = .ok (.iload_n 3, 1) := by decide +kernel
theorem dX7_grow_86 : decode cX7_grow 86 = .ok (.iconst 1, 1) := by decide +kernel
theorem dX7_grow_87 : decode cX7_grow 87 = .ok (.iadd, 1) := by decide +kernel
theorem dX7_grow_88 : decode cX7_grow 88 = .ok (.invokevirtual 77, 3) := by decide +kernel
theorem dX7_grow_91 : decode cX7_grow 91 = .ok (.istore 8, 2) := by decide +kernel
theorem dX7_grow_93 : decode cX7_grow 93 = .ok (.aload_n 0, 1) := by decide +kernel
theorem dX7_grow_94 : decode cX7_grow 94 = .ok (.getfield 73, 3) := by decide +kernel
theorem dX7_grow_97 : decode cX7_grow 97 = .ok (.bipush 8, 2) := by decide +kernel
theorem dX7_grow_99 : decode cX7_grow 99 = .ok (.if_icmp .lt 6, 3) := by decide +kernel
theorem dX7_grow_102 : decode cX7_grow 102 = .ok (.bipush (-2), 2) := by decide +kernel
theorem dX7_grow_104 : decode cX7_grow 104 = .ok (.ireturn, 1) := by decide +kernel
theorem dX7_grow_105 : decode cX7_grow 105 = .ok (.aload_n 0, 1) := by decide +kernel
theorem dX7_grow_106 : decode cX7_grow 106 = .ok (.getfield 24, 3) := by decide +kernel
theorem dX7_grow_109 : decode cX7_grow 109 = .ok (.aload_n 0, 1) := by decide +kernel
theorem dX7_grow_110 : decode cX7_grow 110 = .ok (.getfield 73, 3) := by decide +kernel
theorem dX7_grow_113 : decode cX7_grow 113 = .ok (.iload 6, 2) := by decide +kernel
theorem dX7_grow_115 : decode cX7_grow 115 = .ok (.iastore, 1) := by decide +kernel
theorem dX7_grow_116 : decode cX7_grow 116 = .ok (.aload_n 0, 1) := by decide +kernel
theorem dX7_grow_117 : decode cX7_grow 117 = .ok (.getfield 27, 3) := by decide +kernel
theorem dX7_grow_120 : decode cX7_grow 120 = .ok (.aload_n 0, 1) := by decide +kernel
theorem dX7_grow_121 : decode cX7_grow 121 = .ok (.getfield 73, 3) := by decide +kernel
theorem dX7_grow_124 : decode cX7_grow 124 = .ok (.iload 7, 2) := by decide +kernel
theorem dX7_grow_126 : decode cX7_grow 126 = .ok (.iastore, 1) := by decide +kernel
theorem dX7_grow_127 : decode cX7_grow 127 = .ok (.aload_n 0, 1) := by decide +kernel
theorem dX7_grow_128 : decode cX7_grow 128 = .ok (.getfield 30, 3) := by decide +kernel
theorem dX7_grow_131 : decode cX7_grow 131 = .ok (.aload_n 0, 1) := by decide +kernel
theorem dX7_grow_132 : decode cX7_grow 132 = .ok (.getfield 73, 3) := by decide +kernel
theorem dX7_grow_135 : decode cX7_grow 135 = .ok (.iload 8, 2) := by decide +kernel
theorem dX7_grow_137 : decode cX7_grow 137 = .ok (.iastore, 1) := by decide +kernel
theorem dX7_grow_138 : decode cX7_grow 138 = .ok (.aload_n 0, 1) := by decide +kernel
theorem dX7_grow_139 : decode cX7_grow 139 = .ok (.getfield 33, 3) := by decide +kernel
theorem dX7_grow_142 : decode cX7_grow 142 = .ok (.aload_n 0, 1) := by decide +kernel
theorem dX7_grow_143 : decode cX7_grow 143 = .ok (.getfield 73, 3) := by decide +kernel
theorem dX7_grow_146 : decode cX7_grow 146 = .ok (.iload_n 2, 1) := by decide +kernel
theorem dX7_grow_147 : decode cX7_grow 147 = .ok (.iastore, 1) := by decide +kernel
theorem dX7_grow_148 : decode cX7_grow 148 = .ok (.aload_n 0, 1) := by decide +kernel
theorem dX7_grow_149 : decode cX7_grow 149 = .ok (.getfield 36, 3) := by decide +kernel
theorem dX7_grow_152 : decode cX7_grow 152 = .ok (.aload_n 0, 1) := by decide +kernel
theorem dX7_grow_153 : decode cX7_grow 153 = .ok (.getfield 73, 3) := by decide +kernel
theorem dX7_grow_156 : decode cX7_grow 156 = .ok (.bipush (-2), 2) := by decide +kernel
theorem dX7_grow_158 : decode cX7_grow 158 = .ok (.iastore, 1) := by decide +kernel
theorem dX7_grow_159 : decode cX7_grow 159 = .ok (.aload_n 0, 1) := by decide +kernel
theorem dX7_grow_160 : decode cX7_grow 160 = .ok (.dup, 1) := by decide +kernel
theorem dX7_grow_161 : decode cX7_grow 161 = .ok (.getfield 73, 3) := by decide +kernel
theorem dX7_grow_164 : decode cX7_grow 164 = .ok (.iconst 1, 1) := by decide +kernel
theorem dX7_grow_165 : decode cX7_grow 165 = .ok (.iadd, 1) := by decide +kernel
theorem dX7_grow_166 : decode cX7_grow 166 = .ok (.putfield 73, 3) := by decide +kernel
theorem dX7_grow_169 : decode cX7_grow 169 = .ok (.aload_n 0, 1) := by decide +kernel
theorem dX7_grow_170 : decode cX7_grow 170 = .ok (.getfield 73, 3) := by decide +kernel
theorem dX7_grow_173 : decode cX7_grow 173 = .ok (.iconst 1, 1) := by decide +kernel
theorem dX7_grow_174 : decode cX7_grow 174 = .ok (.isub, 1) := by decide +kernel
theorem dX7_grow_175 : decode cX7_grow 175 = .ok (.ireturn, 1) := by decide +kernel
theorem dX7_keep_0 : decode cX7_keep 0 = .ok (.aload_n 0, 1) := by decide +kernel
theorem dX7_keep_1 : decode cX7_keep 1 = .ok (.iconst 1, 1) := by decide +kernel
theorem dX7_keep_2 : decode cX7_keep 2 = .ok (.putfield 42, 3) := by decide +kernel
theorem dX7_keep_5 : decode cX7_keep 5 = .ok (.aload_n 0, 1) := by decide +kernel
theorem dX7_keep_6 : decode cX7_keep 6 = .ok (.iconst 0, 1) := by decide +kernel
theorem dX7_keep_7 : decode cX7_keep 7 = .ok (.putfield 46, 3) := by decide +kernel
theorem dX7_keep_10 : decode cX7_keep 10 = .ok (.aload_n 0, 1) := by decide +kernel
theorem dX7_keep_11 : decode cX7_keep 11 = .ok (.aload_n 1, 1) := by decide +kernel
theorem dX7_keep_12 : decode cX7_keep 12 = .ok (.getfield 49, 3) := by decide +kernel
theorem dX7_keep_15 : decode cX7_keep 15 = .ok (.putfield 55, 3) := by decide +kernel
theorem dX7_keep_18 : decode cX7_keep 18 = .ok (.aload_n 0, 1) := by decide +kernel
theorem dX7_keep_19 : decode cX7_keep 19 = .ok (.aload_n 1, 1) := by decide +kernel
theorem dX7_keep_20 : decode cX7_keep 20 = .ok (.getfield 58, 3) := by decide +kernel
theorem dX7_keep_23 : decode cX7_keep 23 = .ok (.putfield 61, 3) := by decide +kernel
theorem dX7_keep_26 : decode cX7_keep 26 = .ok (.aload_n 1, 1) := by decide +kernel
theorem dX7_keep_27 : decode cX7_keep 27 = .ok (.getfield 62, 3) := by decide +kernel
theorem dX7_keep_30 : decode cX7_keep 30 = .ok (.iconst 0, 1) := by decide +kernel
theorem dX7_keep_31 : decode cX7_keep 31 = .ok (.aload_n 0, 1) := by decide +kernel
theorem dX7_keep_32 : decode cX7_keep 32 = .ok (.getfield 9, 3) := by decide +kernel
theorem dX7_keep_35 : decode cX7_keep 35 = .ok (.iconst 0, 1) := by decide +kernel
theorem dX7_keep_36 : decode cX7_keep 36 = .ok (.aload_n 0, 1) := by decide +kernel
theorem dX7_keep_37 : decode cX7_keep 37 = .ok (.getfield 55, 3) := by decide +kernel
theorem dX7_keep_40 : decode cX7_keep 40 = .ok (.invokestatic 64, 3) := by decide +kernel
theorem dX7_keep_43 : decode cX7_keep 43 = .ok (.aload_n 1, 1) := by decide +kernel
theorem dX7_keep_44 : decode cX7_keep 44 = .ok (.getfield 70, 3) := by decide +kernel
theorem dX7_keep_47 : decode cX7_keep 47 = .ok (.iconst 0, 1) := by decide +kernel
theorem dX7_keep_48 : decode cX7_keep 48 = .ok (.aload_n 0, 1) := by decide +kernel
theorem dX7_keep_49 : decode cX7_keep 49 = .ok (.getfield 15, 3) := by decide +kernel
theorem dX7_keep_52 : decode cX7_keep 52 = .ok (.iconst 0, 1) := by decide +kernel
theorem dX7_keep_53 : decode cX7_keep 53 = .ok (.aload_n 0, 1) := by decide +kernel
theorem dX7_keep_54 : decode cX7_keep 54 = .ok (.getfield 61, 3) := by decide +kernel
theorem dX7_keep_57 : decode cX7_keep 57 = .ok (.invokestatic 64, 3) := by decide +kernel
theorem dX7_keep_60 : decode cX7_keep 60 = .ok (.aload_n 0, 1) := by decide +kernel
theorem dX7_keep_61 : decode cX7_keep 61 = .ok (.iconst 0, 1) := by decide +kernel
theorem dX7_keep_62 : decode cX7_keep 62 = .ok (.putfield 73, 3) := by decide +kernel
theorem dX7_keep_65 : decode cX7_keep 65 = .ok (.iconst 0, 1) := by decide +kernel
theorem dX7_keep_66 : decode cX7_keep 66 = .ok (.istore_n 2, 1) := by decide +kernel
theorem dX7_keep_67 : decode cX7_keep 67 = .ok (.iload_n 2, 1) := by decide +kernel
theorem dX7_keep_68 : decode cX7_keep 68 = .ok (.aload_n 0, 1) := by decide +kernel
theorem dX7_keep_69 : decode cX7_keep 69 = .ok (.getfield 55, 3) := by decide +kernel
theorem dX7_keep_72 : decode cX7_keep 72 = .ok (.if_icmp .ge 39, 3) := by decide +kernel
theorem dX7_keep_75 : decode cX7_keep 75 = .ok (.aload_n 0, 1) := by decide +kernel
theorem dX7_keep_76 : decode cX7_keep 76 = .ok (.getfield 18, 3) := by decide +kernel
theorem dX7_keep_79 : decode cX7_keep 79 = .ok (.iload_n 2, 1) := by decide +kernel
theorem dX7_keep_80 : decode cX7_keep 80 = .ok (.aload_n 1, 1) := by decide +kernel
theorem dX7_keep_81 : decode cX7_keep 81 = .ok (.getfield 76, 3) := by decide +kernel
theorem dX7_keep_84 : decode cX7_keep 84 = .ok (.iload_n 2, 1) := by decide +kernel
theorem dX7_keep_85 : decode cX7_keep 85 = .ok (.iaload, 1) := by decide +kernel
theorem dX7_keep_86 : decode cX7_keep 86 = .ok (.iastore, 1) := by decide +kernel
theorem dX7_keep_87 : decode cX7_keep 87 = .ok (.aload_n 0, 1) := by decide +kernel
theorem dX7_keep_88 : decode cX7_keep 88 = .ok (.getfield 21, 3) := by decide +kernel
theorem dX7_keep_91 : decode cX7_keep 91 = .ok (.iload_n 2, 1) := by decide +kernel
theorem dX7_keep_92 : decode cX7_keep 92 = .ok (.aload_n 0, 1) := by decide +kernel
theorem dX7_keep_93 : decode cX7_keep 93 = .ok (.aload_n 0, 1) := by decide +kernel
theorem dX7_keep_94 : decode cX7_keep 94 = .ok (.getfield 18, 3) := by decide +kernel
theorem dX7_keep_97 : decode cX7_keep 97 = .ok (.iload_n 2, 1) := by decide +kernel
theorem dX7_keep_98 : decode cX7_keep 98 = .ok (.iaload, 1) := by decide +kernel
theorem dX7_keep_99 : decode cX7_keep 99 = .ok (.iload_n 2, 1) := by decide +kernel
theorem dX7_keep_100 : decode cX7_keep 100 = .ok (.iconst 0, 1) := by decide +kernel
theorem dX7_keep_101 : decode cX7_keep 101 = .ok (.invokevirtual 77, 3) := by decide +kernel
theorem dX7_keep_104 : decode cX7_keep 104 = .ok (.iastore, 1) := by decide +kernel
theorem dX7_keep_105 : decode cX7_keep 105 = .ok (.iinc 2 1, 3) := by decide +kernel
theorem dX7_keep_108 : decode cX7_keep 108 = .ok (.goto (-41), 3) := by decide +kernel
theorem dX7_keep_111 : decode cX7_keep 111 = .ok (.return_, 1) := by decide +kernel
theorem dX7_gatesToAdd_0 : decode cX7_gatesToAdd 0 = .ok (.aload_n 0, 1) := by decide +kernel
theorem dX7_gatesToAdd_1 : decode cX7_gatesToAdd 1 = .ok (.getfield 73, 3) := by decide +kernel
theorem dX7_gatesToAdd_4 : decode cX7_gatesToAdd 4 = .ok (.istore_n 1, 1) := by decide +kernel
theorem dX7_gatesToAdd_5 : decode cX7_gatesToAdd 5 = .ok (.iconst 0, 1) := by decide +kernel
theorem dX7_gatesToAdd_6 : decode cX7_gatesToAdd 6 = .ok (.istore_n 2, 1) := by decide +kernel
theorem dX7_gatesToAdd_7 : decode cX7_gatesToAdd 7 = .ok (.iload_n 2, 1) := by decide +kernel
theorem dX7_gatesToAdd_8 : decode cX7_gatesToAdd 8 = .ok (.aload_n 0, 1) := by decide +kernel
theorem dX7_gatesToAdd_9 : decode cX7_gatesToAdd 9 = .ok (.getfield 55, 3) := by decide +kernel
theorem dX7_gatesToAdd_12 : decode cX7_gatesToAdd 12 = .ok (.if_icmp .ge 36, 3) := by decide +kernel
theorem dX7_gatesToAdd_15 : decode cX7_gatesToAdd 15 = .ok (.aload_n 0, 1) := by decide +kernel
theorem dX7_gatesToAdd_16 : decode cX7_gatesToAdd 16 = .ok (.getfield 21, 3) := by decide +kernel
theorem dX7_gatesToAdd_19 : decode cX7_gatesToAdd 19 = .ok (.iload_n 2, 1) := by decide +kernel
theorem dX7_gatesToAdd_20 : decode cX7_gatesToAdd 20 = .ok (.iaload, 1) := by decide +kernel
theorem dX7_gatesToAdd_21 : decode cX7_gatesToAdd 21 = .ok (.sipush 200, 3) := by decide +kernel
theorem dX7_gatesToAdd_24 : decode cX7_gatesToAdd 24 = .ok (.if_icmp .eq 15, 3) := by decide +kernel
theorem dX7_gatesToAdd_27 : decode cX7_gatesToAdd 27 = .ok (.aload_n 0, 1) := by decide +kernel
theorem dX7_gatesToAdd_28 : decode cX7_gatesToAdd 28 = .ok (.getfield 21, 3) := by decide +kernel
theorem dX7_gatesToAdd_31 : decode cX7_gatesToAdd 31 = .ok (.iload_n 2, 1) := by decide +kernel
theorem dX7_gatesToAdd_32 : decode cX7_gatesToAdd 32 = .ok (.iaload, 1) := by decide +kernel
theorem dX7_gatesToAdd_33 : decode cX7_gatesToAdd 33 = .ok (.sipush 201, 3) := by decide +kernel
theorem dX7_gatesToAdd_36 : decode cX7_gatesToAdd 36 = .ok (.if_icmp .ne 6, 3) := by decide +kernel
theorem dX7_gatesToAdd_39 : decode cX7_gatesToAdd 39 = .ok (.iinc 1 1, 3) := by decide +kernel
theorem dX7_gatesToAdd_42 : decode cX7_gatesToAdd 42 = .ok (.iinc 2 1, 3) := by decide +kernel
theorem dX7_gatesToAdd_45 : decode cX7_gatesToAdd 45 = .ok (.goto (-38), 3) := by decide +kernel
theorem dX7_gatesToAdd_48 : decode cX7_gatesToAdd 48 = .ok (.iload_n 1, 1) := by decide +kernel
theorem dX7_gatesToAdd_49 : decode cX7_gatesToAdd 49 = .ok (.ireturn, 1) := by decide +kernel
theorem dX9_use_0 : decode cX9_use 0 = .ok (.iload_n 1, 1) := by decide +kernel
theorem dX9_use_1 : decode cX9_use 1 = .ok (.ifCond .lt 11, 3) := by decide +kernel
theorem dX9_use_4 : decode cX9_use 4 = .ok (.iload_n 1, 1) := by decide +kernel
theorem dX9_use_5 : decode cX9_use 5 = .ok (.aload_n 0, 1) := by decide +kernel
theorem dX9_use_6 : decode cX9_use 6 = .ok (.getfield 24, 3) := by decide +kernel
theorem dX9_use_9 : decode cX9_use 9 = .ok (.if_icmp .lt 5, 3) := by decide +kernel
theorem dX9_use_12 : decode cX9_use 12 = .ok (.iconst 0, 1) := by decide +kernel
theorem dX9_use_13 : decode cX9_use 13 = .ok (.ireturn, 1) := by decide +kernel
theorem dX9_use_14 : decode cX9_use 14 = .ok (.aload_n 0, 1) := by decide +kernel
theorem dX9_use_15 : decode cX9_use 15 = .ok (.dup, 1) := by decide +kernel
theorem dX9_use_16 : decode cX9_use 16 = .ok (.getfield 28, 3) := by decide +kernel
theorem dX9_use_19 : decode cX9_use 19 = .ok (.iconst 1, 1) := by decide +kernel
theorem dX9_use_20 : decode cX9_use 20 = .ok (.iload_n 1, 1) := by decide +kernel
theorem dX9_use_21 : decode cX9_use 21 = .ok (.ishl, 1) := by decide +kernel
theorem dX9_use_22 : decode cX9_use 22 = .ok (.ior, 1) := by decide +kernel
theorem dX9_use_23 : decode cX9_use 23 = .ok (.putfield 28, 3) := by decide +kernel
theorem dX9_use_26 : decode cX9_use 26 = .ok (.aload_n 0, 1) := by decide +kernel
theorem dX9_use_27 : decode cX9_use 27 = .ok (.getfield 15, 3) := by decide +kernel
theorem dX9_use_30 : decode cX9_use 30 = .ok (.iload_n 1, 1) := by decide +kernel
theorem dX9_use_31 : decode cX9_use 31 = .ok (.iaload, 1) := by decide +kernel
theorem dX9_use_32 : decode cX9_use 32 = .ok (.ireturn, 1) := by decide +kernel
theorem dX7_wireOf_0 : decode cX7_wireOf 0 = .ok (.iload_n 1, 1) := by decide +kernel
theorem dX7_wireOf_1 : decode cX7_wireOf 1 = .ok (.ifCond .lt 18, 3) := by decide +kernel
theorem dX7_wireOf_4 : decode cX7_wireOf 4 = .ok (.iload_n 1, 1) := by decide +kernel
theorem dX7_wireOf_5 : decode cX7_wireOf 5 = .ok (.aload_n 0, 1) := by decide +kernel
theorem dX7_wireOf_6 : decode cX7_wireOf 6 = .ok (.getfield 73, 3) := by decide +kernel
theorem dX7_wireOf_9 : decode cX7_wireOf 9 = .ok (.if_icmp .ge 10, 3) := by decide +kernel
theorem dX7_wireOf_12 : decode cX7_wireOf 12 = .ok (.aload_n 0, 1) := by decide +kernel
theorem dX7_wireOf_13 : decode cX7_wireOf 13 = .ok (.getfield 39, 3) := by decide +kernel
theorem dX7_wireOf_16 : decode cX7_wireOf 16 = .ok (.iload_n 1, 1) := by decide +kernel
theorem dX7_wireOf_17 : decode cX7_wireOf 17 = .ok (.iaload, 1) := by decide +kernel
theorem dX7_wireOf_18 : decode cX7_wireOf 18 = .ok (.ireturn, 1) := by decide +kernel
theorem dX7_wireOf_19 : decode cX7_wireOf 19 = .ok (.iload_n 1, 1) := by decide +kernel
theorem dX7_wireOf_20 : decode cX7_wireOf 20 = .ok (.bipush 100, 2) := by decide +kernel
theorem dX7_wireOf_22 : decode cX7_wireOf 22 = .ok (.if_icmp .lt 26, 3) := by decide +kernel
theorem dX7_wireOf_25 : decode cX7_wireOf 25 = .ok (.iload_n 1, 1) := by decide +kernel
theorem dX7_wireOf_26 : decode cX7_wireOf 26 = .ok (.bipush 100, 2) := by decide +kernel
theorem dX7_wireOf_28 : decode cX7_wireOf 28 = .ok (.aload_n 0, 1) := by decide +kernel
theorem dX7_wireOf_29 : decode cX7_wireOf 29 = .ok (.getfield 61, 3) := by decide +kernel
theorem dX7_wireOf_32 : decode cX7_wireOf 32 = .ok (.iadd, 1) := by decide +kernel
theorem dX7_wireOf_33 : decode cX7_wireOf 33 = .ok (.if_icmp .ge 15, 3) := by decide +kernel
theorem dX7_wireOf_36 : decode cX7_wireOf 36 = .ok (.aload_n 0, 1) := by decide +kernel
theorem dX7_wireOf_37 : decode cX7_wireOf 37 = .ok (.getfield 15, 3) := by decide +kernel
theorem dX7_wireOf_40 : decode cX7_wireOf 40 = .ok (.iload_n 1, 1) := by decide +kernel
theorem dX7_wireOf_41 : decode cX7_wireOf 41 = .ok (.bipush 100, 2) := by decide +kernel
theorem dX7_wireOf_43 : decode cX7_wireOf 43 = .ok (.isub, 1) := by decide +kernel
theorem dX7_wireOf_44 : decode cX7_wireOf 44 = .ok (.iaload, 1) := by decide +kernel
theorem dX7_wireOf_45 : decode cX7_wireOf 45 = .ok (.goto 4, 3) := by decide +kernel
theorem dX7_wireOf_48 : decode cX7_wireOf 48 = .ok (.iconst (-1), 1) := by decide +kernel
theorem dX7_wireOf_49 : decode cX7_wireOf 49 = .ok (.ireturn, 1) := by decide +kernel
theorem dX7_addTree_0 : decode cX7_addTree 0 = .ok (.aload_n 2, 1) := by decide +kernel
theorem dX7_addTree_1 : decode cX7_addTree 1 = .ok (.getfield 90, 3) := by decide +kernel
theorem dX7_addTree_4 : decode cX7_addTree 4 = .ok (.aload_n 0, 1) := by decide +kernel
theorem dX7_addTree_5 : decode cX7_addTree 5 = .ok (.getfield 9, 3) := by decide +kernel
theorem dX7_addTree_8 : decode cX7_addTree 8 = .ok (.iload_n 1, 1) := by decide +kernel
theorem dX7_addTree_9 : decode cX7_addTree 9 = .ok (.iaload, 1) := by decide +kernel
theorem dX7_addTree_10 : decode cX7_addTree 10 = .ok (.iaload, 1) := by decide +kernel
theorem dX7_addTree_11 : decode cX7_addTree 11 = .ok (.istore 4, 2) := by decide +kernel
theorem dX7_addTree_13 : decode cX7_addTree 13 = .ok (.aload_n 0, 1) := by decide +kernel
theorem dX7_addTree_14 : decode cX7_addTree 14 = .ok (.getfield 21, 3) := by decide +kernel
theorem dX7_addTree_17 : decode cX7_addTree 17 = .ok (.iload_n 1, 1) := by decide +kernel
theorem dX7_addTree_18 : decode cX7_addTree 18 = .ok (.iaload, 1) := by decide +kernel
theorem dX7_addTree_19 : decode cX7_addTree 19 = .ok (.sipush 200, 3) := by decide +kernel
theorem dX7_addTree_22 : decode cX7_addTree 22 = .ok (.if_icmp .eq 15, 3) := by decide +kernel
theorem dX7_addTree_25 : decode cX7_addTree 25 = .ok (.aload_n 0, 1) := by decide +kernel
theorem dX7_addTree_26 : decode cX7_addTree 26 = .ok (.getfield 21, 3) := by decide +kernel
theorem dX7_addTree_29 : decode cX7_addTree 29 = .ok (.iload_n 1, 1) := by decide +kernel
theorem dX7_addTree_30 : decode cX7_addTree 30 = .ok (.iaload, 1) := by decide +kernel
theorem dX7_addTree_31 : decode cX7_addTree 31 = .ok (.sipush 201, 3) := by decide +kernel
theorem dX7_addTree_34 : decode cX7_addTree 34 = .ok (.if_icmp .ne 32, 3) := by decide +kernel
theorem dX7_addTree_37 : decode cX7_addTree 37 = .ok (.aload_n 2, 1) := by decide +kernel
theorem dX7_addTree_38 : decode cX7_addTree 38 = .ok (.aload_n 0, 1) := by decide +kernel
theorem dX7_addTree_39 : decode cX7_addTree 39 = .ok (.getfield 21, 3) := by decide +kernel
theorem dX7_addTree_42 : decode cX7_addTree 42 = .ok (.iload_n 1, 1) := by decide +kernel
theorem dX7_addTree_43 : decode cX7_addTree 43 = .ok (.iaload, 1) := by decide +kernel
theorem dX7_addTree_44 : decode cX7_addTree 44 = .ok (.sipush 200, 3) := by decide +kernel
theorem dX7_addTree_47 : decode cX7_addTree 47 = .ok (.if_icmp .ne 8, 3) := by decide +kernel
theorem dX7_addTree_50 : decode cX7_addTree 50 = .ok (.bipush 7, 2) := by decide +kernel
theorem dX7_addTree_52 : decode cX7_addTree 52 = .ok (.goto 5, 3) := by decide +kernel
theorem dX7_addTree_55 : decode cX7_addTree 55 = .ok (.bipush 8, 2) := by decide +kernel
theorem dX7_addTree_57 : decode cX7_addTree 57 = .ok (.iconst (-1), 1) := by decide +kernel
theorem dX7_addTree_58 : decode cX7_addTree 58 = .ok (.iconst (-1), 1) := by decide +kernel
theorem dX7_addTree_59 : decode cX7_addTree 59 = .ok (.iconst (-1), 1) := by decide +kernel
theorem dX7_addTree_60 : decode cX7_addTree 60 = .ok (.iload 4, 2) := by decide +kernel
theorem dX7_addTree_62 : decode cX7_addTree 62 = .ok (.invokevirtual 95, 3) := by decide +kernel
theorem dX7_addTree_65 : decode cX7_addTree 65 = .ok (.ireturn, 1) := by decide +kernel
theorem dX7_addTree_66 : decode cX7_addTree 66 = .ok (.iconst 0, 1) := by decide +kernel
theorem dX7_addTree_67 : decode cX7_addTree 67 = .ok (.istore 5, 2) := by decide +kernel
theorem dX7_addTree_69 : decode cX7_addTree 69 = .ok (.iload 5, 2) := by decide +kernel
theorem dX7_addTree_71 : decode cX7_addTree 71 = .ok (.aload_n 0, 1) := by decide +kernel
theorem dX7_addTree_72 : decode cX7_addTree 72 = .ok (.getfield 73, 3) := by decide +kernel
theorem dX7_addTree_75 : decode cX7_addTree 75 = .ok (.if_icmp .ge 88, 3) := by decide +kernel
theorem dX7_addTree_78 : decode cX7_addTree 78 = .ok (.aload_n 0, 1) := by decide +kernel
theorem dX7_addTree_79 : decode cX7_addTree 79 = .ok (.getfield 33, 3) := by decide +kernel
theorem dX7_addTree_82 : decode cX7_addTree 82 = .ok (.iload 5, 2) := by decide +kernel
theorem dX7_addTree_84 : decode cX7_addTree 84 = .ok (.iaload, 1) := by decide +kernel
theorem dX7_addTree_85 : decode cX7_addTree 85 = .ok (.iload_n 1, 1) := by decide +kernel
theorem dX7_addTree_86 : decode cX7_addTree 86 = .ok (.if_icmp .ne 71, 3) := by decide +kernel
theorem dX7_addTree_89 : decode cX7_addTree 89 = .ok (.aload_n 0, 1) := by decide +kernel
theorem dX7_addTree_90 : decode cX7_addTree 90 = .ok (.getfield 46, 3) := by decide +kernel
theorem dX7_addTree_93 : decode cX7_addTree 93 = .ok (.ifCond .eq 17, 3) := by decide +kernel
theorem dX7_addTree_96 : decode cX7_addTree 96 = .ok (.aload_n 3, 1) := by decide +kernel
theorem dX7_addTree_97 : decode cX7_addTree 97 = .ok (.aload_n 0, 1) := by decide +kernel
theorem dX7_addTree_98 : decode cX7_addTree 98 = .ok (.getfield 36, 3) := by decide +kernel
theorem dX7_addTree_101 : decode cX7_addTree 101 = .ok (.iload 5, 2) := by decide +kernel
theorem dX7_addTree_103 : decode cX7_addTree 103 = .ok (.iaload, 1) := by decide +kernel
theorem dX7_addTree_104 : decode cX7_addTree 104 = .ok (.invokevirtual 99, 3) := by decide +kernel
theorem dX7_addTree_107 : decode cX7_addTree 107 = .ok (.goto 5, 3) := by decide +kernel
theorem dX7_addTree_110 : decode cX7_addTree 110 = .ok (.iload 4, 2) := by decide +kernel
theorem dX7_addTree_112 : decode cX7_addTree 112 = .ok (.istore 6, 2) := by decide +kernel
theorem dX7_addTree_114 : decode cX7_addTree 114 = .ok (.aload_n 0, 1) := by decide +kernel
theorem dX7_addTree_115 : decode cX7_addTree 115 = .ok (.getfield 39, 3) := by decide +kernel
theorem dX7_addTree_118 : decode cX7_addTree 118 = .ok (.iload 5, 2) := by decide +kernel
theorem dX7_addTree_120 : decode cX7_addTree 120 = .ok (.aload_n 2, 1) := by decide +kernel
theorem dX7_addTree_121 : decode cX7_addTree 121 = .ok (.aload_n 0, 1) := by decide +kernel
theorem dX7_addTree_122 : decode cX7_addTree 122 = .ok (.getfield 24, 3) := by decide +kernel
theorem dX7_addTree_125 : decode cX7_addTree 125 = .ok (.iload 5, 2) := by decide +kernel
theorem dX7_addTree_127 : decode cX7_addTree 127 = .ok (.iaload, 1) := by decide +kernel
theorem dX7_addTree_128 : decode cX7_addTree 128 = .ok (.aload_n 0, 1) := by decide +kernel
theorem dX7_addTree_129 : decode cX7_addTree 129 = .ok (.aload_n 0, 1) := by decide +kernel
theorem dX7_addTree_130 : decode cX7_addTree 130 = .ok (.getfield 27, 3) := by decide +kernel
theorem dX7_addTree_133 : decode cX7_addTree 133 = .ok (.iload 5, 2) := by decide +kernel
theorem dX7_addTree_135 : decode cX7_addTree 135 = .ok (.iaload, 1) := by decide +kernel
theorem dX7_addTree_136 : decode cX7_addTree 136 = .ok (.invokevirtual 105, 3) := by decide +kernel
theorem dX7_addTree_139 : decode cX7_addTree 139 = .ok (.aload_n 0, 1) := by decide +kernel
theorem dX7_addTree_140 : decode cX7_addTree 140 = .ok (.aload_n 0, 1) := by decide +kernel
theorem dX7_addTree_141 : decode cX7_addTree 141 = .ok (.getfield 30, 3) := by decide +kernel
theorem dX7_addTree_144 : decode cX7_addTree 144 = .ok (.iload 5, 2) := by decide +kernel
theorem dX7_addTree_146 : decode cX7_addTree 146 = .ok (.iaload, 1) := by decide +kernel
theorem dX7_addTree_147 : decode cX7_addTree 147 = .ok (.invokevirtual 105, 3) := by decide +kernel
theorem dX7_addTree_150 : decode cX7_addTree 150 = .ok (.iconst (-1), 1) := by decide +kernel
theorem dX7_addTree_151 : decode cX7_addTree 151 = .ok (.iload 6, 2) := by decide +kernel
theorem dX7_addTree_153 : decode cX7_addTree 153 = .ok (.invokevirtual 95, 3) := by decide +kernel
theorem dX7_addTree_156 : decode cX7_addTree 156 = .ok (.iastore, 1) := by decide +kernel
theorem dX7_addTree_157 : decode cX7_addTree 157 = .ok (.iinc 5 1, 3) := by decide +kernel
theorem dX7_addTree_160 : decode cX7_addTree 160 = .ok (.goto (-91), 3) := by decide +kernel
theorem dX7_addTree_163 : decode cX7_addTree 163 = .ok (.aload_n 0, 1) := by decide +kernel
theorem dX7_addTree_164 : decode cX7_addTree 164 = .ok (.aload_n 0, 1) := by decide +kernel
theorem dX7_addTree_165 : decode cX7_addTree 165 = .ok (.getfield 21, 3) := by decide +kernel
theorem dX7_addTree_168 : decode cX7_addTree 168 = .ok (.iload_n 1, 1) := by decide +kernel
theorem dX7_addTree_169 : decode cX7_addTree 169 = .ok (.iaload, 1) := by decide +kernel
theorem dX7_addTree_170 : decode cX7_addTree 170 = .ok (.invokevirtual 105, 3) := by decide +kernel
theorem dX7_addTree_173 : decode cX7_addTree 173 = .ok (.ireturn, 1) := by decide +kernel
def XX4_start  (h : Hp) : OR :=
  cal (XJ7_fill_53178 54 48 (-1) h) (fun r1 h2 => hm (wr h2 53 1 0) (fun h3 => some (0, h3)))
theorem sX4_start {G : GG} {w : Wd} (hw : okX0 w)  (h : Hp) : SC G w yX4_start (Cond.code yX4_start cX4_start 1 (Option.none : Option Jvm.ClassFile.FieldType)) 2 3 [vP 53] (XX4_start  h) h := by
  refine SC_of (own := "GatePatch$Marks") plain_Marks rfl (Nat.le_of_ble_eq_true rfl) (fun Γ hG g => ?_)
  subst hG
  show Sim Γ w 3 _ h 0 [(0, vP 53)] []
  unfold XX4_start
  refine S_aload_n (kk := 0) g dX4_start_0 rfl rfl ?_
  refine S_getr g dX4_start_1 fl_Marks_9 (at0_53 hw) rfl (rc0_53_0 hw) ?_
  refine S_iconst g dX4_start_4 ⟨by decide, by decide⟩ ?_
  refine S_callSv (As := [vP 54, vI (-1)]) g dX4_start_5 (sJ7_fill_53178 54 48 (at0_54 hw) ⟨by decide, by decide⟩ _ _) rfl st_J7_fill_53178 cw_J7_fill_53178 ml_Marks_18 ini_Arr nd_J7_fill_53178 ⟨by decide, by decide⟩ (Nat.le_of_ble_eq_true rfl) (fun r1 h2 => ?_)
  refine S_aload_n (kk := 0) g dX4_start_8 rfl rfl ?_
  refine S_iconst g dX4_start_9 ⟨by decide, by decide⟩ ?_
  refine S_puti g dX4_start_10 fp_Marks_24 (at0_53 hw) rfl (fun h3 => ?_)
  exact S_return g dX4_start_13 rfl

def XX4_give_p28   (l1 l2 : Int) (s1 s2 s3 : Int) (h : Hp) : OR :=
  chk (s2 - s3) (chk (s1 + (s2 - s3)) (hm (wr h 53 1 (s1 + (s2 - s3))) (fun h1 => inb l1 48 (hm (wr h1 54 l1.toNat l2) (fun h2 => some (0, h2))))))
def XX4_give_p14   (l1 l2 : Int) (s1 s2 : Int) (h : Hp) : OR :=
  inb l1 48 (if (h 54 l1.toNat) < 0 then XX4_give_p28 l1 l2 s1 s2 0 h else XX4_give_p28 l1 l2 s1 s2 1 h)
def XX4_give (x0 : Int) (x1 : Int) (h : Hp) : OR :=
  if x1 < 0 then XX4_give_p14 x0 x1 (h 53 1) 0 h else XX4_give_p14 x0 x1 (h 53 1) 1 h
theorem sX4_give_p28 {Γ : Cx} {w : Wd} (hw : okX w) (g : Gd Γ cX4_give 3 "GatePatch$Marks" (Option.none : Option Jvm.ClassFile.FieldType) (rmd 1))   (l1 l2 : Int) (s1 s2 s3 : Int) (h : Hp) : Sim Γ w 3 (XX4_give_p28  l1 l2 s1 s2 s3 h) h 28 [(0, vP 53), (1, vI l1), (2, vI l2)] [vI s3, vI s2, vI s1, vP 53] := by
  unfold XX4_give_p28
  refine S_isub g dX4_give_28 ?_
  refine S_iadd g dX4_give_29 ?_
  refine S_puti g dX4_give_30 fp_Marks_24 (at_53 hw) rfl (fun h1 => ?_)
  refine S_aload_n (kk := 0) g dX4_give_33 rfl rfl ?_
  refine S_getr g dX4_give_34 fl_Marks_9 (at_53 hw) rfl (rc_53_0 hw) ?_
  refine S_iload_n (kk := 1) g dX4_give_37 rfl rfl ?_
  refine S_iload_n (kk := 2) g dX4_give_38 rfl rfl ?_
  refine S_iastore g dX4_give_39 (at_54 hw) (fun h2 => ?_)
  exact S_return g dX4_give_40 rfl

theorem sX4_give_p14 {Γ : Cx} {w : Wd} (hw : okX w) (g : Gd Γ cX4_give 3 "GatePatch$Marks" (Option.none : Option Jvm.ClassFile.FieldType) (rmd 1))   (l1 l2 : Int) (s1 s2 : Int) (h : Hp) : Sim Γ w 3 (XX4_give_p14  l1 l2 s1 s2 h) h 14 [(0, vP 53), (1, vI l1), (2, vI l2)] [vI s2, vI s1, vP 53] := by
  unfold XX4_give_p14
  refine S_aload_n (kk := 0) g dX4_give_14 rfl rfl ?_
  refine S_getr g dX4_give_15 fl_Marks_9 (at_53 hw) rfl (rc_53_0 hw) ?_
  refine S_iload_n (kk := 1) g dX4_give_18 rfl rfl ?_
  refine S_iaload g dX4_give_19 (at_54 hw) ?_
  refine S_if_lt (tgt := 27) g dX4_give_20 (by decide) ?_ ?_
  · refine S_iconst g dX4_give_27 ⟨by decide, by decide⟩ ?_
    exact sX4_give_p28 hw g _ _ _ _ _ _
  · refine S_iconst g dX4_give_23 ⟨by decide, by decide⟩ ?_
    refine S_goto (tgt := 28) g dX4_give_24 (by decide) ?_
    exact sX4_give_p28 hw g _ _ _ _ _ _

theorem sX4_give {G : GG} {w : Wd} (hw : okX w) (x0 : Int) (x1 : Int) (h : Hp) : SC G w yX4_give (Cond.code yX4_give cX4_give 3 (Option.none : Option Jvm.ClassFile.FieldType)) 1 3 [vP 53, vI x0, vI x1] (XX4_give x0 x1 h) h := by
  refine SC_of (own := "GatePatch$Marks") plain_Marks rfl (Nat.le_of_ble_eq_true rfl) (fun Γ hG g => ?_)
  subst hG
  show Sim Γ w 3 _ h 0 [(0, vP 53), (1, vI x0), (2, vI x1)] []
  unfold XX4_give
  refine S_aload_n (kk := 0) g dX4_give_0 rfl rfl ?_
  refine S_dup g dX4_give_1 rfl ?_
  refine S_geti g dX4_give_2 fl_Marks_24 (at_53 hw) (Or.inl rfl) ?_
  refine S_iload_n (kk := 2) g dX4_give_5 rfl rfl ?_
  refine S_if_lt (tgt := 13) g dX4_give_6 (by decide) ?_ ?_
  · refine S_iconst g dX4_give_13 ⟨by decide, by decide⟩ ?_
    exact sX4_give_p14 hw g _ _ _ _ _
  · refine S_iconst g dX4_give_9 ⟨by decide, by decide⟩ ?_
    refine S_goto (tgt := 14) g dX4_give_10 (by decide) ?_
    exact sX4_give_p14 hw g _ _ _ _ _

def XX4_forgetFrom_b2   (self2 : Int → Hp → OR) (l2 : Int) (h : Hp) : OR :=
  if 48 ≤ l2 then some (0, h) else cal (XX4_give l2 (-1) h) (fun r1 h2 => chk (l2 + 1) (self2 (l2 + 1) h2))
def XX4_forgetFrom_L2   (l2 : Int) (h : Hp) : OR := lup1 (XX4_forgetFrom_b2 ) FU l2 h
def XX4_forgetFrom (x0 : Int) (h : Hp) : OR :=
  XX4_forgetFrom_L2 x0 h
theorem sX4_forgetFrom_L2 {Γ : Cx} {w : Wd} (hw : okX w) (g : Gd Γ cX4_forgetFrom 3 "GatePatch$Marks" (Option.none : Option Jvm.ClassFile.FieldType) (rmd 2))   : ∀ (l2 : Int) (h : Hp), Sim Γ w 3 (XX4_forgetFrom_L2  l2 h) h 2 [(0, vP 53), (2, vI l2)] [] := by
  refine S_lup1 (fun l2 => [(0, vP 53), (2, vI l2)]) (fun self2 hs2 l2 h => ?_) FU
  unfold XX4_forgetFrom_b2
  refine S_iload_n (kk := 1) g dX4_forgetFrom_2 rfl rfl ?_
  refine S_bipush g dX4_forgetFrom_3 ⟨by decide, by decide⟩ rfl ?_
  refine S_icmp_ge (tgt := 20) g dX4_forgetFrom_5 (by decide) ?_ ?_
  · exact S_return g dX4_forgetFrom_20 rfl
  · refine S_aload_n (kk := 0) g dX4_forgetFrom_8 rfl rfl ?_
    refine S_iload_n (kk := 1) g dX4_forgetFrom_9 rfl rfl ?_
    refine S_iconst g dX4_forgetFrom_10 ⟨by decide, by decide⟩ ?_
    refine S_callVv (As := [vI l2, vI (-1)]) g dX4_forgetFrom_11 (sX4_give hw _ _ _) rfl (at_53 hw) rfl im_X4_give se_X4_give cw_X4_give ml_Marks_28 ini_Marks nd_X4_give ⟨by decide, by decide⟩ (Nat.le_of_ble_eq_true rfl) (fun r1 h2 => ?_)
    refine S_iinc (kk := 1) g dX4_forgetFrom_14 rfl (by decide) rfl ?_
    refine S_goto (tgt := 2) g dX4_forgetFrom_17 (by decide) ?_
    refine S_sub g [1, 0] rfl ?_
    exact hs2 _ _

theorem sX4_forgetFrom {G : GG} {w : Wd} (hw : okX w) (x0 : Int) (h : Hp) : SC G w yX4_forgetFrom (Cond.code yX4_forgetFrom cX4_forgetFrom 3 (Option.none : Option Jvm.ClassFile.FieldType)) 2 3 [vP 53, vI x0] (XX4_forgetFrom x0 h) h := by
  refine SC_of (own := "GatePatch$Marks") plain_Marks rfl (Nat.le_of_ble_eq_true rfl) (fun Γ hG g => ?_)
  subst hG
  show Sim Γ w 3 _ h 0 [(0, vP 53), (1, vI x0)] []
  unfold XX4_forgetFrom
  refine S_iload_n (kk := 1) g dX4_forgetFrom_0 rfl rfl ?_
  refine S_istore_n g dX4_forgetFrom_1 rfl (by decide) rfl ?_
  refine S_sub g [1, 0] rfl ?_
  exact sX4_forgetFrom_L2 hw g _ _

def XX4_listUsable_p65 (a1 : Nat) (self7 : Int → Int → Hp → OR) (l2 l3 : Int) (h : Hp) : OR :=
  chk (l3 + 1) (self7 l2 (l3 + 1) h)
def XX4_listUsable_b7 (a1 : Nat)  (self7 : Int → Int → Hp → OR) (l2 l3 : Int) (h : Hp) : OR :=
  cal (XX8_wires (a1 + 1) h) (fun r2 h3 => if r2 ≤ l3 then some (0, h3) else if 10 ≤ (h3 53 3) then some (0, h3) else inb l3 48 (if (h3 54 l3.toNat) < 0 then XX4_listUsable_p65 a1 self7 l2 l3 h3 else cal (XX6_hangsOn a1 l3 l2 h3) (fun r4 h5 => if r4 = 0 then inb (h5 53 3) 10 (hm (wr h5 55 (h5 53 3).toNat l3) (fun h6 => chk ((h6 53 3) + 1) (hm (wr h6 53 3 ((h6 53 3) + 1)) (fun h7 => XX4_listUsable_p65 a1 self7 l2 l3 h7)))) else XX4_listUsable_p65 a1 self7 l2 l3 h5)))
def XX4_listUsable_L7 (a1 : Nat)  (l2 l3 : Int) (h : Hp) : OR := lup2 (XX4_listUsable_b7 a1) FU l2 l3 h
def XX4_listUsable (x0 : Nat) (x1 : Int) (h : Hp) : OR :=
  hm (wr h 53 3 0) (fun h1 => XX4_listUsable_L7 x0 x1 0 h1)
theorem sX4_listUsable_p65 {Γ : Cx} {w : Wd} (hw : okX w) (g : Gd Γ cX4_listUsable 4 "GatePatch$Marks" (Option.none : Option Jvm.ClassFile.FieldType) (rmd 2)) (a1 : Nat) (ha1 : isNt w a1) (self7 : Int → Int → Hp → OR) (hs7 : ∀ (x0 x1 : Int) (h : Hp), Sim Γ w 3 (self7 x0 x1 h) h 7 [(0, vP 53), (1, vP a1), (2, vI x0), (3, vI x1)] []) (l2 l3 : Int) (h : Hp) : Sim Γ w 3 (XX4_listUsable_p65 a1 self7 l2 l3  h) h 65 [(0, vP 53), (1, vP a1), (2, vI l2), (3, vI l3)] [] := by
  unfold XX4_listUsable_p65
  refine S_iinc (kk := 3) g dX4_listUsable_65 rfl (by decide) rfl ?_
  refine S_goto (tgt := 7) g dX4_listUsable_68 (by decide) ?_
  refine S_sub g [1, 2, 3, 0] rfl ?_
  exact hs7 _ _ _

theorem sX4_listUsable_L7 {Γ : Cx} {w : Wd} (hw : okX w) (g : Gd Γ cX4_listUsable 4 "GatePatch$Marks" (Option.none : Option Jvm.ClassFile.FieldType) (rmd 2)) (a1 : Nat) (ha1 : isNt w a1)  : ∀ (l2 l3 : Int) (h : Hp), Sim Γ w 3 (XX4_listUsable_L7 a1 l2 l3 h) h 7 [(0, vP 53), (1, vP a1), (2, vI l2), (3, vI l3)] [] := by
  refine S_lup2 (fun l2 l3 => [(0, vP 53), (1, vP a1), (2, vI l2), (3, vI l3)]) (fun self7 hs7 l2 l3 h => ?_) FU
  unfold XX4_listUsable_b7
  refine S_iload_n (kk := 3) g dX4_listUsable_7 rfl rfl ?_
  refine S_aload_n (kk := 1) g dX4_listUsable_8 rfl rfl ?_
  refine S_getr g dX4_listUsable_9 fl_Marks_76 ha1.1 rfl ha1.2.1 ?_
  refine S_callVi (As := []) g dX4_listUsable_12 (sX8_wires hw (a1 + 1) ha1.2.2.2.2.2.2.1 _) rfl ha1.2.2.2.2.2.2.1.1 rfl im_X8_wires se_X8_wires cw_X8_wires ml_Marks_82 ini_Plan nd_X8_wires ⟨by decide, by decide⟩ (Nat.le_of_ble_eq_true rfl) (fun r2 h3 => ?_)
  refine S_icmp_ge (tgt := 71) g dX4_listUsable_15 (by decide) ?_ ?_
  · exact S_return g dX4_listUsable_71 rfl
  · refine S_aload_n (kk := 0) g dX4_listUsable_18 rfl rfl ?_
    refine S_geti g dX4_listUsable_19 fl_Marks_44 (at_53 hw) (Or.inl rfl) ?_
    refine S_bipush g dX4_listUsable_22 ⟨by decide, by decide⟩ rfl ?_
    refine S_icmp_ge (tgt := 71) g dX4_listUsable_24 (by decide) ?_ ?_
    · exact S_return g dX4_listUsable_71 rfl
    · refine S_aload_n (kk := 0) g dX4_listUsable_27 rfl rfl ?_
      refine S_getr g dX4_listUsable_28 fl_Marks_9 (at_53 hw) rfl (rc_53_0 hw) ?_
      refine S_iload_n (kk := 3) g dX4_listUsable_31 rfl rfl ?_
      refine S_iaload g dX4_listUsable_32 (at_54 hw) ?_
      refine S_if_lt (tgt := 65) g dX4_listUsable_33 (by decide) ?_ ?_
      · exact sX4_listUsable_p65 hw g a1 ha1 self7 hs7 _ _ _
      · refine S_aload_n (kk := 1) g dX4_listUsable_36 rfl rfl ?_
        refine S_iload_n (kk := 3) g dX4_listUsable_37 rfl rfl ?_
        refine S_iload_n (kk := 2) g dX4_listUsable_38 rfl rfl ?_
        refine S_callVi (As := [vI l3, vI l2]) g dX4_listUsable_39 (sX6_hangsOn hw a1 ha1 _ _ _) rfl ha1.1 rfl im_X6_hangsOn se_X6_hangsOn cw_X6_hangsOn ml_Marks_88 ini_Net nd_X6_hangsOn ⟨by decide, by decide⟩ (Nat.le_of_ble_eq_true rfl) (fun r4 h5 => ?_)
        refine S_if_ne (tgt := 65) g dX4_listUsable_42 (by decide) ?_ ?_
        · exact sX4_listUsable_p65 hw g a1 ha1 self7 hs7 _ _ _
        · refine S_aload_n (kk := 0) g dX4_listUsable_45 rfl rfl ?_
          refine S_getr g dX4_listUsable_46 fl_Marks_15 (at_53 hw) rfl (rc_53_2 hw) ?_
          refine S_aload_n (kk := 0) g dX4_listUsable_49 rfl rfl ?_
          refine S_geti g dX4_listUsable_50 fl_Marks_44 (at_53 hw) (Or.inl rfl) ?_
          refine S_iload_n (kk := 3) g dX4_listUsable_53 rfl rfl ?_
          refine S_iastore g dX4_listUsable_54 (at_55 hw) (fun h6 => ?_)
          refine S_aload_n (kk := 0) g dX4_listUsable_55 rfl rfl ?_
          refine S_dup g dX4_listUsable_56 rfl ?_
          refine S_geti g dX4_listUsable_57 fl_Marks_44 (at_53 hw) (Or.inl rfl) ?_
          refine S_iconst g dX4_listUsable_60 ⟨by decide, by decide⟩ ?_
          refine S_iadd g dX4_listUsable_61 ?_
          refine S_puti g dX4_listUsable_62 fp_Marks_44 (at_53 hw) rfl (fun h7 => ?_)
          exact sX4_listUsable_p65 hw g a1 ha1 self7 hs7 _ _ _

theorem sX4_listUsable {G : GG} {w : Wd} (hw : okX w) (x0 : Nat) (hx0 : isNt w x0) (x1 : Int) (h : Hp) : SC G w yX4_listUsable (Cond.code yX4_listUsable cX4_listUsable 4 (Option.none : Option Jvm.ClassFile.FieldType)) 2 3 [vP 53, vP x0, vI x1] (XX4_listUsable x0 x1 h) h := by
  refine SC_of (own := "GatePatch$Marks") plain_Marks rfl (Nat.le_of_ble_eq_true rfl) (fun Γ hG g => ?_)
  subst hG
  show Sim Γ w 3 _ h 0 [(0, vP 53), (1, vP x0), (2, vI x1)] []
  unfold XX4_listUsable
  refine S_aload_n (kk := 0) g dX4_listUsable_0 rfl rfl ?_
  refine S_iconst g dX4_listUsable_1 ⟨by decide, by decide⟩ ?_
  refine S_puti g dX4_listUsable_2 fp_Marks_44 (at_53 hw) rfl (fun h1 => ?_)
  refine S_iconst g dX4_listUsable_5 ⟨by decide, by decide⟩ ?_
  refine S_istore_n g dX4_listUsable_6 rfl (by decide) rfl ?_
  refine S_sub g [1, 2, 3, 0] rfl ?_
  exact sX4_listUsable_L7 hw g x0 hx0 _ _ _

def XX4_tryOne_p115   (l2 l3 l4 l5 : Int) (h : Hp) : OR :=
  zb 1 (hm (wr h 53 7 1) (fun h9 => hm (wr h9 53 8 l5) (fun h10 => hm (wr h10 53 4 l2) (fun h11 => hm (wr h11 53 5 l3) (fun h12 => hm (wr h12 53 6 l4) (fun h13 => some (0, h13)))))))
def XX4_tryOne_p64   (l2 l3 l4 l5 : Int) (h : Hp) : OR :=
  cal (XX1_tell l2 l3 l4 h) (fun r2 h3 => if r2 = 0 then some (0, h3) else cal (XX1_allow h3) (fun r4 h5 => if r4 = 0 then some (0, h5) else cal (XX1_choose h5) (fun r6 h7 => chk (10 * (h7 45 11)) (chk (l5 + (10 * (h7 45 11))) (nm (l5 + (10 * (h7 45 11))) (fun v8 => if (h7 53 7) = 0 then XX4_tryOne_p115 l2 l3 l4 v8 h7 else if (h7 53 8) ≤ v8 then some (0, h7) else XX4_tryOne_p115 l2 l3 l4 v8 h7))))))
def XX4_tryOne_p45   (l2 l3 l4 : Int) (s0 s1 : Int) (h : Hp) : OR :=
  chk (s0 + s1) (nm (s0 + s1) (fun v1 => if (h 53 7) = 0 then XX4_tryOne_p64 l2 l3 l4 v1 h else if (h 53 8) ≤ v1 then some (0, h) else XX4_tryOne_p64 l2 l3 l4 v1 h))
def XX4_tryOne_p28   (l2 l3 l4 : Int) (s0 s1 : Int) (h : Hp) : OR :=
  chk (s0 + s1) (if 0 ≤ l4 then inb l4 48 (XX4_tryOne_p45 l2 l3 l4 (s0 + s1) (h 54 l4.toNat) h) else XX4_tryOne_p45 l2 l3 l4 (s0 + s1) 0 h)
def XX4_tryOne_p14   (l2 l3 l4 : Int) (s0 : Int) (h : Hp) : OR :=
  if 0 ≤ l3 then inb l3 48 (XX4_tryOne_p28 l2 l3 l4 s0 (h 54 l3.toNat) h) else XX4_tryOne_p28 l2 l3 l4 s0 0 h
def XX4_tryOne (x1 : Int) (x2 : Int) (x3 : Int) (h : Hp) : OR :=
  if 0 ≤ x1 then inb x1 48 (XX4_tryOne_p14 x1 x2 x3 (h 54 x1.toNat) h) else XX4_tryOne_p14 x1 x2 x3 0 h
theorem sX4_tryOne_p115 {Γ : Cx} {w : Wd} (hw : okX w) (g : Gd Γ cX4_tryOne 6 "GatePatch$Marks" (Option.none : Option Jvm.ClassFile.FieldType) (rmd 4))   (l2 l3 l4 l5 : Int) (h : Hp) : Sim Γ w 3 (XX4_tryOne_p115  l2 l3 l4 l5  h) h 115 [(0, vP 53), (2, vI l2), (3, vI l3), (4, vI l4), (5, vI l5)] [] := by
  unfold XX4_tryOne_p115
  refine S_aload_n (kk := 0) g dX4_tryOne_115 rfl rfl ?_
  refine S_iconst g dX4_tryOne_116 ⟨by decide, by decide⟩ ?_
  refine S_putz g dX4_tryOne_117 fp_Marks_36 (at_53 hw) rfl (fun h9 => ?_)
  refine S_aload_n (kk := 0) g dX4_tryOne_120 rfl rfl ?_
  refine S_iload (kk := 4) g dX4_tryOne_121 rfl ?_
  refine S_puti g dX4_tryOne_123 fp_Marks_92 (at_53 hw) rfl (fun h10 => ?_)
  refine S_aload_n (kk := 0) g dX4_tryOne_126 rfl rfl ?_
  refine S_iload_n (kk := 1) g dX4_tryOne_127 rfl rfl ?_
  refine S_puti g dX4_tryOne_128 fp_Marks_54 (at_53 hw) rfl (fun h11 => ?_)
  refine S_aload_n (kk := 0) g dX4_tryOne_131 rfl rfl ?_
  refine S_iload_n (kk := 2) g dX4_tryOne_132 rfl rfl ?_
  refine S_puti g dX4_tryOne_133 fp_Marks_57 (at_53 hw) rfl (fun h12 => ?_)
  refine S_aload_n (kk := 0) g dX4_tryOne_136 rfl rfl ?_
  refine S_iload (kk := 3) g dX4_tryOne_137 rfl ?_
  refine S_puti g dX4_tryOne_139 fp_Marks_60 (at_53 hw) rfl (fun h13 => ?_)
  exact S_return g dX4_tryOne_142 rfl

theorem sX4_tryOne_p64 {Γ : Cx} {w : Wd} (hw : okX w) (g : Gd Γ cX4_tryOne 6 "GatePatch$Marks" (Option.none : Option Jvm.ClassFile.FieldType) (rmd 4))   (l2 l3 l4 l5 : Int) (h : Hp) : Sim Γ w 3 (XX4_tryOne_p64  l2 l3 l4 l5  h) h 64 [(0, vP 53), (1, vP 45), (2, vI l2), (3, vI l3), (4, vI l4), (5, vI l5)] [] := by
  unfold XX4_tryOne_p64
  refine S_aload_n (kk := 1) g dX4_tryOne_64 rfl rfl ?_
  refine S_iload_n (kk := 2) g dX4_tryOne_65 rfl rfl ?_
  refine S_iload_n (kk := 3) g dX4_tryOne_66 rfl rfl ?_
  refine S_iload (kk := 4) g dX4_tryOne_67 rfl ?_
  refine S_callVi (As := [vI l2, vI l3, vI l4]) g dX4_tryOne_69 (sX1_tell hw _ _ _ _) rfl (at_45 hw) rfl im_X1_tell se_X1_tell cw_X1_tell ml_Marks_63 ini_Finder nd_X1_tell ⟨by decide, by decide⟩ (Nat.le_of_ble_eq_true rfl) (fun r2 h3 => ?_)
  refine S_if_eq (tgt := 82) g dX4_tryOne_72 (by decide) ?_ ?_
  · exact S_return g dX4_tryOne_82 rfl
  · refine S_aload_n (kk := 1) g dX4_tryOne_75 rfl rfl ?_
    refine S_callVi (As := []) g dX4_tryOne_76 (sX1_allow hw  _) rfl (at_45 hw) rfl im_X1_allow se_X1_allow cw_X1_allow ml_Marks_69 ini_Finder nd_X1_allow ⟨by decide, by decide⟩ (Nat.le_of_ble_eq_true rfl) (fun r4 h5 => ?_)
    refine S_if_ne (tgt := 83) g dX4_tryOne_79 (by decide) ?_ ?_
    · refine S_aload_n (kk := 1) g dX4_tryOne_83 rfl rfl ?_
      refine S_callVv (As := []) g dX4_tryOne_84 (sX1_choose hw  _) rfl (at_45 hw) rfl im_X1_choose se_X1_choose cw_X1_choose ml_Marks_73 ini_Finder nd_X1_choose ⟨by decide, by decide⟩ (Nat.le_of_ble_eq_true rfl) (fun r6 h7 => ?_)
      refine S_iload (kk := 5) g dX4_tryOne_87 rfl ?_
      refine S_bipush g dX4_tryOne_89 ⟨by decide, by decide⟩ rfl ?_
      refine S_aload_n (kk := 1) g dX4_tryOne_91 rfl rfl ?_
      refine S_geti g dX4_tryOne_92 fl_Marks_95 (at_45 hw) (Or.inl rfl) ?_
      refine S_imul g dX4_tryOne_95 ?_
      refine S_iadd g dX4_tryOne_96 ?_
      refine S_nmI (fun v8 => ?_)
      refine S_istore g dX4_tryOne_97 (by decide) rfl ?_
      refine S_aload_n (kk := 1) g dX4_tryOne_99 rfl rfl ?_
      refine S_geti g dX4_tryOne_100 fl_Marks_36 (at_53 hw) (Or.inr rfl) ?_
      refine S_if_eq (tgt := 115) g dX4_tryOne_103 (by decide) ?_ ?_
      · refine S_sub g [1, 3, 4, 5, 0] rfl ?_
        exact sX4_tryOne_p115 hw g _ _ _ _ _
      · refine S_iload (kk := 0) g dX4_tryOne_106 rfl ?_
        refine S_aload_n (kk := 1) g dX4_tryOne_108 rfl rfl ?_
        refine S_geti g dX4_tryOne_109 fl_Marks_92 (at_53 hw) (Or.inl rfl) ?_
        refine S_icmp_ge (tgt := 142) g dX4_tryOne_112 (by decide) ?_ ?_
        · exact S_return g dX4_tryOne_142 rfl
        · refine S_sub g [1, 3, 4, 5, 0] rfl ?_
          exact sX4_tryOne_p115 hw g _ _ _ _ _
    · exact S_return g dX4_tryOne_82 rfl

theorem sX4_tryOne_p45 {Γ : Cx} {w : Wd} (hw : okX w) (g : Gd Γ cX4_tryOne 6 "GatePatch$Marks" (Option.none : Option Jvm.ClassFile.FieldType) (rmd 4))   (l2 l3 l4 : Int) (s0 s1 : Int) (h : Hp) : Sim Γ w 3 (XX4_tryOne_p45  l2 l3 l4 s0 s1 h) h 45 [(0, vP 53), (1, vP 45), (2, vI l2), (3, vI l3), (4, vI l4)] [vI s1, vI s0] := by
  unfold XX4_tryOne_p45
  refine S_iadd g dX4_tryOne_45 ?_
  refine S_nmI (fun v1 => ?_)
  refine S_istore g dX4_tryOne_46 (by decide) rfl ?_
  refine S_aload_n (kk := 1) g dX4_tryOne_48 rfl rfl ?_
  refine S_geti g dX4_tryOne_49 fl_Marks_36 (at_53 hw) (Or.inr rfl) ?_
  refine S_if_eq (tgt := 64) g dX4_tryOne_52 (by decide) ?_ ?_
  · refine S_sub g [1, 2, 3, 4, 5, 0] rfl ?_
    exact sX4_tryOne_p64 hw g _ _ _ _ _
  · refine S_iload (kk := 0) g dX4_tryOne_55 rfl ?_
    refine S_aload_n (kk := 1) g dX4_tryOne_57 rfl rfl ?_
    refine S_geti g dX4_tryOne_58 fl_Marks_92 (at_53 hw) (Or.inl rfl) ?_
    refine S_icmp_ge (tgt := 82) g dX4_tryOne_61 (by decide) ?_ ?_
    · exact S_return g dX4_tryOne_82 rfl
    · refine S_sub g [1, 2, 3, 4, 5, 0] rfl ?_
      exact sX4_tryOne_p64 hw g _ _ _ _ _

theorem sX4_tryOne_p28 {Γ : Cx} {w : Wd} (hw : okX w) (g : Gd Γ cX4_tryOne 6 "GatePatch$Marks" (Option.none : Option Jvm.ClassFile.FieldType) (rmd 4))   (l2 l3 l4 : Int) (s0 s1 : Int) (h : Hp) : Sim Γ w 3 (XX4_tryOne_p28  l2 l3 l4 s0 s1 h) h 28 [(0, vP 53), (1, vP 45), (2, vI l2), (3, vI l3), (4, vI l4)] [vI s1, vI s0] := by
  unfold XX4_tryOne_p28
  refine S_iadd g dX4_tryOne_28 ?_
  refine S_iload (kk := 4) g dX4_tryOne_29 rfl ?_
  refine S_if_ge (tgt := 38) g dX4_tryOne_31 (by decide) ?_ ?_
  · refine S_aload_n (kk := 0) g dX4_tryOne_38 rfl rfl ?_
    refine S_getr g dX4_tryOne_39 fl_Marks_9 (at_53 hw) rfl (rc_53_0 hw) ?_
    refine S_iload (kk := 4) g dX4_tryOne_42 rfl ?_
    refine S_iaload g dX4_tryOne_44 (at_54 hw) ?_
    exact sX4_tryOne_p45 hw g _ _ _ _ _ _
  · refine S_iconst g dX4_tryOne_34 ⟨by decide, by decide⟩ ?_
    refine S_goto (tgt := 45) g dX4_tryOne_35 (by decide) ?_
    exact sX4_tryOne_p45 hw g _ _ _ _ _ _

theorem sX4_tryOne_p14 {Γ : Cx} {w : Wd} (hw : okX w) (g : Gd Γ cX4_tryOne 6 "GatePatch$Marks" (Option.none : Option Jvm.ClassFile.FieldType) (rmd 4))   (l2 l3 l4 : Int) (s0 : Int) (h : Hp) : Sim Γ w 3 (XX4_tryOne_p14  l2 l3 l4 s0 h) h 14 [(0, vP 53), (1, vP 45), (2, vI l2), (3, vI l3), (4, vI l4)] [vI s0] := by
  unfold XX4_tryOne_p14
  refine S_iload_n (kk := 3) g dX4_tryOne_14 rfl rfl ?_
  refine S_if_ge (tgt := 22) g dX4_tryOne_15 (by decide) ?_ ?_
  · refine S_aload_n (kk := 0) g dX4_tryOne_22 rfl rfl ?_
    refine S_getr g dX4_tryOne_23 fl_Marks_9 (at_53 hw) rfl (rc_53_0 hw) ?_
    refine S_iload_n (kk := 3) g dX4_tryOne_26 rfl rfl ?_
    refine S_iaload g dX4_tryOne_27 (at_54 hw) ?_
    exact sX4_tryOne_p28 hw g _ _ _ _ _ _
  · refine S_iconst g dX4_tryOne_18 ⟨by decide, by decide⟩ ?_
    refine S_goto (tgt := 28) g dX4_tryOne_19 (by decide) ?_
    exact sX4_tryOne_p28 hw g _ _ _ _ _ _

theorem sX4_tryOne {G : GG} {w : Wd} (hw : okX w) (x1 : Int) (x2 : Int) (x3 : Int) (h : Hp) : SC G w yX4_tryOne (Cond.code yX4_tryOne cX4_tryOne 6 (Option.none : Option Jvm.ClassFile.FieldType)) 4 3 [vP 53, vP 45, vI x1, vI x2, vI x3] (XX4_tryOne x1 x2 x3 h) h := by
  refine SC_of (own := "GatePatch$Marks") plain_Marks rfl (Nat.le_of_ble_eq_true rfl) (fun Γ hG g => ?_)
  subst hG
  show Sim Γ w 3 _ h 0 [(0, vP 53), (1, vP 45), (2, vI x1), (3, vI x2), (4, vI x3)] []
  unfold XX4_tryOne
  refine S_iload_n (kk := 2) g dX4_tryOne_0 rfl rfl ?_
  refine S_if_ge (tgt := 8) g dX4_tryOne_1 (by decide) ?_ ?_
  · refine S_aload_n (kk := 0) g dX4_tryOne_8 rfl rfl ?_
    refine S_getr g dX4_tryOne_9 fl_Marks_9 (at_53 hw) rfl (rc_53_0 hw) ?_
    refine S_iload_n (kk := 2) g dX4_tryOne_12 rfl rfl ?_
    refine S_iaload g dX4_tryOne_13 (at_54 hw) ?_
    exact sX4_tryOne_p14 hw g _ _ _ _ _
  · refine S_iconst g dX4_tryOne_4 ⟨by decide, by decide⟩ ?_
    refine S_goto (tgt := 14) g dX4_tryOne_5 (by decide) ?_
    exact sX4_tryOne_p14 hw g _ _ _ _ _

def XX4_tryTwos_b14  (self2 : Int → Hp → OR) (self14 : Int → Int → Hp → OR) (l2 l3 : Int) (h : Hp) : OR :=
  if (h 53 3) ≤ l3 then chk (l2 + 1) (self2 (l2 + 1) h) else inb l2 10 (inb l3 10 (cal (XX4_tryOne (h 55 l2.toNat) (h 55 l3.toNat) (-1) h) (fun r2 h3 => chk (l3 + 1) (self14 l2 (l3 + 1) h3))))
def XX4_tryTwos_L14  (self2 : Int → Hp → OR) (l2 l3 : Int) (h : Hp) : OR := lup2 (XX4_tryTwos_b14 self2) FU l2 l3 h
def XX4_tryTwos_b2   (self2 : Int → Hp → OR) (l2 : Int) (h : Hp) : OR :=
  if (h 53 3) ≤ l2 then some (0, h) else chk (l2 + 1) (nm (l2 + 1) (fun v1 => XX4_tryTwos_L14 self2 l2 v1 h))
def XX4_tryTwos_L2   (l2 : Int) (h : Hp) : OR := lup1 (XX4_tryTwos_b2 ) FU l2 h
def XX4_tryTwos  (h : Hp) : OR :=
  XX4_tryTwos_L2 0 h
theorem sX4_tryTwos_L14 {Γ : Cx} {w : Wd} (hw : okX w) (g : Gd Γ cX4_tryTwos 4 "GatePatch$Marks" (Option.none : Option Jvm.ClassFile.FieldType) (rmd 5))  (self2 : Int → Hp → OR) (hs2 : ∀ (x0 : Int) (h : Hp), Sim Γ w 3 (self2 x0 h) h 2 [(0, vP 53), (1, vP 45), (2, vI x0)] []) : ∀ (l2 l3 : Int) (h : Hp), Sim Γ w 3 (XX4_tryTwos_L14 self2 l2 l3 h) h 14 [(0, vP 53), (1, vP 45), (2, vI l2), (3, vI l3)] [] := by
  refine S_lup2 (fun l2 l3 => [(0, vP 53), (1, vP 45), (2, vI l2), (3, vI l3)]) (fun self14 hs14 l2 l3 h => ?_) FU
  unfold XX4_tryTwos_b14
  refine S_iload_n (kk := 3) g dX4_tryTwos_14 rfl rfl ?_
  refine S_aload_n (kk := 0) g dX4_tryTwos_15 rfl rfl ?_
  refine S_geti g dX4_tryTwos_16 fl_Marks_44 (at_53 hw) (Or.inl rfl) ?_
  refine S_icmp_ge (tgt := 46) g dX4_tryTwos_19 (by decide) ?_ ?_
  · refine S_iinc (kk := 2) g dX4_tryTwos_46 rfl (by decide) rfl ?_
    refine S_goto (tgt := 2) g dX4_tryTwos_49 (by decide) ?_
    refine S_sub g [1, 2, 0] rfl ?_
    exact hs2 _ _
  · refine S_aload_n (kk := 0) g dX4_tryTwos_22 rfl rfl ?_
    refine S_aload_n (kk := 1) g dX4_tryTwos_23 rfl rfl ?_
    refine S_aload_n (kk := 0) g dX4_tryTwos_24 rfl rfl ?_
    refine S_getr g dX4_tryTwos_25 fl_Marks_15 (at_53 hw) rfl (rc_53_2 hw) ?_
    refine S_iload_n (kk := 2) g dX4_tryTwos_28 rfl rfl ?_
    refine S_iaload g dX4_tryTwos_29 (at_55 hw) ?_
    refine S_aload_n (kk := 0) g dX4_tryTwos_30 rfl rfl ?_
    refine S_getr g dX4_tryTwos_31 fl_Marks_15 (at_53 hw) rfl (rc_53_2 hw) ?_
    refine S_iload_n (kk := 3) g dX4_tryTwos_34 rfl rfl ?_
    refine S_iaload g dX4_tryTwos_35 (at_55 hw) ?_
    refine S_iconst g dX4_tryTwos_36 ⟨by decide, by decide⟩ ?_
    refine S_callVv (As := [vP 45, vI (h 55 l2.toNat), vI (h 55 l3.toNat), vI (-1)]) g dX4_tryTwos_37 (sX4_tryOne hw _ _ _ _) rfl (at_53 hw) rfl im_X4_tryOne se_X4_tryOne cw_X4_tryOne ml_Marks_40 ini_Marks nd_X4_tryOne ⟨by decide, by decide⟩ (Nat.le_of_ble_eq_true rfl) (fun r2 h3 => ?_)
    refine S_iinc (kk := 3) g dX4_tryTwos_40 rfl (by decide) rfl ?_
    refine S_goto (tgt := 14) g dX4_tryTwos_43 (by decide) ?_
    refine S_sub g [1, 2, 3, 0] rfl ?_
    exact hs14 _ _ _

theorem sX4_tryTwos_L2 {Γ : Cx} {w : Wd} (hw : okX w) (g : Gd Γ cX4_tryTwos 4 "GatePatch$Marks" (Option.none : Option Jvm.ClassFile.FieldType) (rmd 5))   : ∀ (l2 : Int) (h : Hp), Sim Γ w 3 (XX4_tryTwos_L2  l2 h) h 2 [(0, vP 53), (1, vP 45), (2, vI l2)] [] := by
  refine S_lup1 (fun l2 => [(0, vP 53), (1, vP 45), (2, vI l2)]) (fun self2 hs2 l2 h => ?_) FU
  unfold XX4_tryTwos_b2
  refine S_iload_n (kk := 2) g dX4_tryTwos_2 rfl rfl ?_
  refine S_aload_n (kk := 0) g dX4_tryTwos_3 rfl rfl ?_
  refine S_geti g dX4_tryTwos_4 fl_Marks_44 (at_53 hw) (Or.inl rfl) ?_
  refine S_icmp_ge (tgt := 52) g dX4_tryTwos_7 (by decide) ?_ ?_
  · exact S_return g dX4_tryTwos_52 rfl
  · refine S_iload_n (kk := 2) g dX4_tryTwos_10 rfl rfl ?_
    refine S_iconst g dX4_tryTwos_11 ⟨by decide, by decide⟩ ?_
    refine S_iadd g dX4_tryTwos_12 ?_
    refine S_nmI (fun v1 => ?_)
    refine S_istore_n g dX4_tryTwos_13 rfl (by decide) rfl ?_
    refine S_sub g [1, 2, 3, 0] rfl ?_
    exact sX4_tryTwos_L14 hw g self2 hs2 _ _ _

theorem sX4_tryTwos {G : GG} {w : Wd} (hw : okX w)  (h : Hp) : SC G w yX4_tryTwos (Cond.code yX4_tryTwos cX4_tryTwos 4 (Option.none : Option Jvm.ClassFile.FieldType)) 5 3 [vP 53, vP 45] (XX4_tryTwos  h) h := by
  refine SC_of (own := "GatePatch$Marks") plain_Marks rfl (Nat.le_of_ble_eq_true rfl) (fun Γ hG g => ?_)
  subst hG
  show Sim Γ w 3 _ h 0 [(0, vP 53), (1, vP 45)] []
  unfold XX4_tryTwos
  refine S_iconst g dX4_tryTwos_0 ⟨by decide, by decide⟩ ?_
  refine S_istore_n g dX4_tryTwos_1 rfl (by decide) rfl ?_
  refine S_sub g [1, 2, 0] rfl ?_
  exact sX4_tryTwos_L2 hw g _ _

def XX4_tryThrees_b27  (self2 : Int → Hp → OR) (self14 : Int → Int → Hp → OR) (self27 : Int → Int → Int → Hp → OR) (l2 l3 l4 : Int) (h : Hp) : OR :=
  if (h 53 3) ≤ l4 then chk (l3 + 1) (self14 l2 (l3 + 1) h) else inb l2 10 (inb l3 10 (inb l4 10 (cal (XX4_tryOne (h 55 l2.toNat) (h 55 l3.toNat) (h 55 l4.toNat) h) (fun r3 h4 => chk (l4 + 1) (self27 l2 l3 (l4 + 1) h4)))))
def XX4_tryThrees_L27  (self2 : Int → Hp → OR) (self14 : Int → Int → Hp → OR) (l2 l3 l4 : Int) (h : Hp) : OR := lup3 (XX4_tryThrees_b27 self2 self14) FU l2 l3 l4 h
def XX4_tryThrees_b14  (self2 : Int → Hp → OR) (self14 : Int → Int → Hp → OR) (l2 l3 : Int) (h : Hp) : OR :=
  if (h 53 3) ≤ l3 then chk (l2 + 1) (self2 (l2 + 1) h) else chk (l3 + 1) (nm (l3 + 1) (fun v2 => XX4_tryThrees_L27 self2 self14 l2 l3 v2 h))
def XX4_tryThrees_L14  (self2 : Int → Hp → OR) (l2 l3 : Int) (h : Hp) : OR := lup2 (XX4_tryThrees_b14 self2) FU l2 l3 h
def XX4_tryThrees_b2   (self2 : Int → Hp → OR) (l2 : Int) (h : Hp) : OR :=
  if (h 53 3) ≤ l2 then some (0, h) else chk (l2 + 1) (nm (l2 + 1) (fun v1 => XX4_tryThrees_L14 self2 l2 v1 h))
def XX4_tryThrees_L2   (l2 : Int) (h : Hp) : OR := lup1 (XX4_tryThrees_b2 ) FU l2 h
def XX4_tryThrees  (h : Hp) : OR :=
  XX4_tryThrees_L2 0 h
theorem sX4_tryThrees_L27 {Γ : Cx} {w : Wd} (hw : okX w) (g : Gd Γ cX4_tryThrees 5 "GatePatch$Marks" (Option.none : Option Jvm.ClassFile.FieldType) (rmd 5))  (self2 : Int → Hp → OR) (hs2 : ∀ (x0 : Int) (h : Hp), Sim Γ w 3 (self2 x0 h) h 2 [(0, vP 53), (1, vP 45), (2, vI x0)] []) (self14 : Int → Int → Hp → OR) (hs14 : ∀ (x0 x1 : Int) (h : Hp), Sim Γ w 3 (self14 x0 x1 h) h 14 [(0, vP 53), (1, vP 45), (2, vI x0), (3, vI x1)] []) : ∀ (l2 l3 l4 : Int) (h : Hp), Sim Γ w 3 (XX4_tryThrees_L27 self2 self14 l2 l3 l4 h) h 27 [(0, vP 53), (1, vP 45), (2, vI l2), (3, vI l3), (4, vI l4)] [] := by
  refine S_lup3 (fun l2 l3 l4 => [(0, vP 53), (1, vP 45), (2, vI l2), (3, vI l3), (4, vI l4)]) (fun self27 hs27 l2 l3 l4 h => ?_) FU
  unfold XX4_tryThrees_b27
  refine S_iload (kk := 4) g dX4_tryThrees_27 rfl ?_
  refine S_aload_n (kk := 0) g dX4_tryThrees_29 rfl rfl ?_
  refine S_geti g dX4_tryThrees_30 fl_Marks_44 (at_53 hw) (Or.inl rfl) ?_
  refine S_icmp_ge (tgt := 66) g dX4_tryThrees_33 (by decide) ?_ ?_
  · refine S_iinc (kk := 3) g dX4_tryThrees_66 rfl (by decide) rfl ?_
    refine S_goto (tgt := 14) g dX4_tryThrees_69 (by decide) ?_
    refine S_sub g [1, 2, 3, 0] rfl ?_
    exact hs14 _ _ _
  · refine S_aload_n (kk := 0) g dX4_tryThrees_36 rfl rfl ?_
    refine S_aload_n (kk := 1) g dX4_tryThrees_37 rfl rfl ?_
    refine S_aload_n (kk := 0) g dX4_tryThrees_38 rfl rfl ?_
    refine S_getr g dX4_tryThrees_39 fl_Marks_15 (at_53 hw) rfl (rc_53_2 hw) ?_
    refine S_iload_n (kk := 2) g dX4_tryThrees_42 rfl rfl ?_
    refine S_iaload g dX4_tryThrees_43 (at_55 hw) ?_
    refine S_aload_n (kk := 0) g dX4_tryThrees_44 rfl rfl ?_
    refine S_getr g dX4_tryThrees_45 fl_Marks_15 (at_53 hw) rfl (rc_53_2 hw) ?_
    refine S_iload_n (kk := 3) g dX4_tryThrees_48 rfl rfl ?_
    refine S_iaload g dX4_tryThrees_49 (at_55 hw) ?_
    refine S_aload_n (kk := 0) g dX4_tryThrees_50 rfl rfl ?_
    refine S_getr g dX4_tryThrees_51 fl_Marks_15 (at_53 hw) rfl (rc_53_2 hw) ?_
    refine S_iload (kk := 4) g dX4_tryThrees_54 rfl ?_
    refine S_iaload g dX4_tryThrees_56 (at_55 hw) ?_
    refine S_callVv (As := [vP 45, vI (h 55 l2.toNat), vI (h 55 l3.toNat), vI (h 55 l4.toNat)]) g dX4_tryThrees_57 (sX4_tryOne hw _ _ _ _) rfl (at_53 hw) rfl im_X4_tryOne se_X4_tryOne cw_X4_tryOne ml_Marks_40 ini_Marks nd_X4_tryOne ⟨by decide, by decide⟩ (Nat.le_of_ble_eq_true rfl) (fun r3 h4 => ?_)
    refine S_iinc (kk := 4) g dX4_tryThrees_60 rfl (by decide) rfl ?_
    refine S_goto (tgt := 27) g dX4_tryThrees_63 (by decide) ?_
    refine S_sub g [1, 2, 3, 4, 0] rfl ?_
    exact hs27 _ _ _ _

theorem sX4_tryThrees_L14 {Γ : Cx} {w : Wd} (hw : okX w) (g : Gd Γ cX4_tryThrees 5 "GatePatch$Marks" (Option.none : Option Jvm.ClassFile.FieldType) (rmd 5))  (self2 : Int → Hp → OR) (hs2 : ∀ (x0 : Int) (h : Hp), Sim Γ w 3 (self2 x0 h) h 2 [(0, vP 53), (1, vP 45), (2, vI x0)] []) : ∀ (l2 l3 : Int) (h : Hp), Sim Γ w 3 (XX4_tryThrees_L14 self2 l2 l3 h) h 14 [(0, vP 53), (1, vP 45), (2, vI l2), (3, vI l3)] [] := by
  refine S_lup2 (fun l2 l3 => [(0, vP 53), (1, vP 45), (2, vI l2), (3, vI l3)]) (fun self14 hs14 l2 l3 h => ?_) FU
  unfold XX4_tryThrees_b14
  refine S_iload_n (kk := 3) g dX4_tryThrees_14 rfl rfl ?_
  refine S_aload_n (kk := 0) g dX4_tryThrees_15 rfl rfl ?_
  refine S_geti g dX4_tryThrees_16 fl_Marks_44 (at_53 hw) (Or.inl rfl) ?_
  refine S_icmp_ge (tgt := 72) g dX4_tryThrees_19 (by decide) ?_ ?_
  · refine S_iinc (kk := 2) g dX4_tryThrees_72 rfl (by decide) rfl ?_
    refine S_goto (tgt := 2) g dX4_tryThrees_75 (by decide) ?_
    refine S_sub g [1, 2, 0] rfl ?_
    exact hs2 _ _
  · refine S_iload_n (kk := 3) g dX4_tryThrees_22 rfl rfl ?_
    refine S_iconst g dX4_tryThrees_23 ⟨by decide, by decide⟩ ?_
    refine S_iadd g dX4_tryThrees_24 ?_
    refine S_nmI (fun v2 => ?_)
    refine S_istore g dX4_tryThrees_25 (by decide) rfl ?_
    refine S_sub g [1, 2, 3, 4, 0] rfl ?_
    exact sX4_tryThrees_L27 hw g self2 hs2 self14 hs14 _ _ _ _

theorem sX4_tryThrees_L2 {Γ : Cx} {w : Wd} (hw : okX w) (g : Gd Γ cX4_tryThrees 5 "GatePatch$Marks" (Option.none : Option Jvm.ClassFile.FieldType) (rmd 5))   : ∀ (l2 : Int) (h : Hp), Sim Γ w 3 (XX4_tryThrees_L2  l2 h) h 2 [(0, vP 53), (1, vP 45), (2, vI l2)] [] := by
  refine S_lup1 (fun l2 => [(0, vP 53), (1, vP 45), (2, vI l2)]) (fun self2 hs2 l2 h => ?_) FU
  unfold XX4_tryThrees_b2
  refine S_iload_n (kk := 2) g dX4_tryThrees_2 rfl rfl ?_
  refine S_aload_n (kk := 0) g dX4_tryThrees_3 rfl rfl ?_
  refine S_geti g dX4_tryThrees_4 fl_Marks_44 (at_53 hw) (Or.inl rfl) ?_
  refine S_icmp_ge (tgt := 78) g dX4_tryThrees_7 (by decide) ?_ ?_
  · exact S_return g dX4_tryThrees_78 rfl
  · refine S_iload_n (kk := 2) g dX4_tryThrees_10 rfl rfl ?_
    refine S_iconst g dX4_tryThrees_11 ⟨by decide, by decide⟩ ?_
    refine S_iadd g dX4_tryThrees_12 ?_
    refine S_nmI (fun v1 => ?_)
    refine S_istore_n g dX4_tryThrees_13 rfl (by decide) rfl ?_
    refine S_sub g [1, 2, 3, 0] rfl ?_
    exact sX4_tryThrees_L14 hw g self2 hs2 _ _ _

theorem sX4_tryThrees {G : GG} {w : Wd} (hw : okX w)  (h : Hp) : SC G w yX4_tryThrees (Cond.code yX4_tryThrees cX4_tryThrees 5 (Option.none : Option Jvm.ClassFile.FieldType)) 5 3 [vP 53, vP 45] (XX4_tryThrees  h) h := by
  refine SC_of (own := "GatePatch$Marks") plain_Marks rfl (Nat.le_of_ble_eq_true rfl) (fun Γ hG g => ?_)
  subst hG
  show Sim Γ w 3 _ h 0 [(0, vP 53), (1, vP 45)] []
  unfold XX4_tryThrees
  refine S_iconst g dX4_tryThrees_0 ⟨by decide, by decide⟩ ?_
  refine S_istore_n g dX4_tryThrees_1 rfl (by decide) rfl ?_
  refine S_sub g [1, 2, 0] rfl ?_
  exact sX4_tryThrees_L2 hw g _ _

def XX4_search_p94   (h : Hp) : OR :=
  zb (h 53 7) (some ((h 53 7), h))
def XX4_search_b22   (self22 : Int → Hp → OR) (l4 : Int) (h : Hp) : OR :=
  if (h 53 3) ≤ l4 then cal (XX4_tryTwos h) (fun r6 h7 => cal (XX4_tryThrees h7) (fun r8 h9 => if (h9 53 7) = 0 then XX4_search_p94 h9 else cal (XX1_tell (h9 53 4) (h9 53 5) (h9 53 6) h9) (fun r10 h11 => cal (XX1_allow h11) (fun r12 h13 => cal (XX1_choose h13) (fun r14 h15 => XX4_search_p94 h15))))) else inb l4 10 (cal (XX4_tryOne (h 55 l4.toNat) (-1) (-1) h) (fun r16 h17 => chk (l4 + 1) (self22 (l4 + 1) h17)))
def XX4_search_L22   (l4 : Int) (h : Hp) : OR := lup1 (XX4_search_b22 ) FU l4 h
def XX4_search (x1 : Nat) (x2 : Int) (h : Hp) : OR :=
  cal (XX4_listUsable x1 x2 h) (fun r1 h2 => zb 0 (hm (wr h2 53 7 0) (fun h3 => cal (XX4_tryOne (-1) (-1) (-1) h3) (fun r4 h5 => XX4_search_L22 0 h5))))
theorem sX4_search_p94 {Γ : Cx} {w : Wd} (hw : okX w) (g : Gd Γ cX4_search 5 "GatePatch$Marks" (Option.some Jvm.ClassFile.FieldType.boolean) (rmd 6))   (h : Hp) : Sim Γ w 0 (XX4_search_p94    h) h 94 [(0, vP 53)] [] := by
  unfold XX4_search_p94
  refine S_aload_n (kk := 0) g dX4_search_94 rfl rfl ?_
  refine S_geti g dX4_search_95 fl_Marks_36 (at_53 hw) (Or.inr rfl) ?_
  exact S_zreturn g dX4_search_98 rfl

theorem sX4_search_L22 {Γ : Cx} {w : Wd} (hw : okX w) (g : Gd Γ cX4_search 5 "GatePatch$Marks" (Option.some Jvm.ClassFile.FieldType.boolean) (rmd 6))   : ∀ (l4 : Int) (h : Hp), Sim Γ w 0 (XX4_search_L22  l4 h) h 22 [(0, vP 53), (1, vP 45), (4, vI l4)] [] := by
  refine S_lup1 (fun l4 => [(0, vP 53), (1, vP 45), (4, vI l4)]) (fun self22 hs22 l4 h => ?_) FU
  unfold XX4_search_b22
  refine S_iload (kk := 2) g dX4_search_22 rfl ?_
  refine S_aload_n (kk := 0) g dX4_search_24 rfl rfl ?_
  refine S_geti g dX4_search_25 fl_Marks_44 (at_53 hw) (Or.inl rfl) ?_
  refine S_icmp_ge (tgt := 51) g dX4_search_28 (by decide) ?_ ?_
  · refine S_aload_n (kk := 0) g dX4_search_51 rfl rfl ?_
    refine S_aload_n (kk := 1) g dX4_search_52 rfl rfl ?_
    refine S_callVv (As := [vP 45]) g dX4_search_53 (sX4_tryTwos hw  _) rfl (at_53 hw) rfl im_X4_tryTwos se_X4_tryTwos cw_X4_tryTwos ml_Marks_47 ini_Marks nd_X4_tryTwos ⟨by decide, by decide⟩ (Nat.le_of_ble_eq_true rfl) (fun r6 h7 => ?_)
    refine S_aload_n (kk := 0) g dX4_search_56 rfl rfl ?_
    refine S_aload_n (kk := 1) g dX4_search_57 rfl rfl ?_
    refine S_callVv (As := [vP 45]) g dX4_search_58 (sX4_tryThrees hw  _) rfl (at_53 hw) rfl im_X4_tryThrees se_X4_tryThrees cw_X4_tryThrees ml_Marks_51 ini_Marks nd_X4_tryThrees ⟨by decide, by decide⟩ (Nat.le_of_ble_eq_true rfl) (fun r8 h9 => ?_)
    refine S_aload_n (kk := 0) g dX4_search_61 rfl rfl ?_
    refine S_geti g dX4_search_62 fl_Marks_36 (at_53 hw) (Or.inr rfl) ?_
    refine S_if_eq (tgt := 94) g dX4_search_65 (by decide) ?_ ?_
    · refine S_sub g [0] rfl ?_
      exact sX4_search_p94 hw g _
    · refine S_aload_n (kk := 1) g dX4_search_68 rfl rfl ?_
      refine S_aload_n (kk := 0) g dX4_search_69 rfl rfl ?_
      refine S_geti g dX4_search_70 fl_Marks_54 (at_53 hw) (Or.inl rfl) ?_
      refine S_aload_n (kk := 0) g dX4_search_73 rfl rfl ?_
      refine S_geti g dX4_search_74 fl_Marks_57 (at_53 hw) (Or.inl rfl) ?_
      refine S_aload_n (kk := 0) g dX4_search_77 rfl rfl ?_
      refine S_geti g dX4_search_78 fl_Marks_60 (at_53 hw) (Or.inl rfl) ?_
      refine S_callVi (As := [vI (h9 53 4), vI (h9 53 5), vI (h9 53 6)]) g dX4_search_81 (sX1_tell hw _ _ _ _) rfl (at_45 hw) rfl im_X1_tell se_X1_tell cw_X1_tell ml_Marks_63 ini_Finder nd_X1_tell ⟨by decide, by decide⟩ (Nat.le_of_ble_eq_true rfl) (fun r10 h11 => ?_)
      refine S_pop g dX4_search_84 rfl ?_
      refine S_aload_n (kk := 1) g dX4_search_85 rfl rfl ?_
      refine S_callVi (As := []) g dX4_search_86 (sX1_allow hw  _) rfl (at_45 hw) rfl im_X1_allow se_X1_allow cw_X1_allow ml_Marks_69 ini_Finder nd_X1_allow ⟨by decide, by decide⟩ (Nat.le_of_ble_eq_true rfl) (fun r12 h13 => ?_)
      refine S_pop g dX4_search_89 rfl ?_
      refine S_aload_n (kk := 1) g dX4_search_90 rfl rfl ?_
      refine S_callVv (As := []) g dX4_search_91 (sX1_choose hw  _) rfl (at_45 hw) rfl im_X1_choose se_X1_choose cw_X1_choose ml_Marks_73 ini_Finder nd_X1_choose ⟨by decide, by decide⟩ (Nat.le_of_ble_eq_true rfl) (fun r14 h15 => ?_)
      refine S_sub g [0] rfl ?_
      exact sX4_search_p94 hw g _
  · refine S_aload_n (kk := 0) g dX4_search_31 rfl rfl ?_
    refine S_aload_n (kk := 1) g dX4_search_32 rfl rfl ?_
    refine S_aload_n (kk := 0) g dX4_search_33 rfl rfl ?_
    refine S_getr g dX4_search_34 fl_Marks_15 (at_53 hw) rfl (rc_53_2 hw) ?_
    refine S_iload (kk := 2) g dX4_search_37 rfl ?_
    refine S_iaload g dX4_search_39 (at_55 hw) ?_
    refine S_iconst g dX4_search_40 ⟨by decide, by decide⟩ ?_
    refine S_iconst g dX4_search_41 ⟨by decide, by decide⟩ ?_
    refine S_callVv (As := [vP 45, vI (h 55 l4.toNat), vI (-1), vI (-1)]) g dX4_search_42 (sX4_tryOne hw _ _ _ _) rfl (at_53 hw) rfl im_X4_tryOne se_X4_tryOne cw_X4_tryOne ml_Marks_40 ini_Marks nd_X4_tryOne ⟨by decide, by decide⟩ (Nat.le_of_ble_eq_true rfl) (fun r16 h17 => ?_)
    refine S_iinc (kk := 2) g dX4_search_45 rfl (by decide) rfl ?_
    refine S_goto (tgt := 22) g dX4_search_48 (by decide) ?_
    refine S_sub g [1, 2, 0] rfl ?_
    exact hs22 _ _

theorem sX4_search {G : GG} {w : Wd} (hw : okX w) (x1 : Nat) (hx1 : isNt w x1) (x2 : Int) (h : Hp) : SC G w yX4_search (Cond.code yX4_search cX4_search 5 (Option.some Jvm.ClassFile.FieldType.boolean)) 6 0 [vP 53, vP 45, vP x1, vI x2] (XX4_search x1 x2 h) h := by
  refine SC_of (own := "GatePatch$Marks") plain_Marks rfl (Nat.le_of_ble_eq_true rfl) (fun Γ hG g => ?_)
  subst hG
  show Sim Γ w 0 _ h 0 [(0, vP 53), (1, vP 45), (2, vP x1), (3, vI x2)] []
  unfold XX4_search
  refine S_aload_n (kk := 0) g dX4_search_0 rfl rfl ?_
  refine S_aload_n (kk := 2) g dX4_search_1 rfl rfl ?_
  refine S_iload_n (kk := 3) g dX4_search_2 rfl rfl ?_
  refine S_callVv (As := [vP x1, vI x2]) g dX4_search_3 (sX4_listUsable hw x1 hx1 _ _) rfl (at_53 hw) rfl im_X4_listUsable se_X4_listUsable cw_X4_listUsable ml_Marks_32 ini_Marks nd_X4_listUsable ⟨by decide, by decide⟩ (Nat.le_of_ble_eq_true rfl) (fun r1 h2 => ?_)
  refine S_aload_n (kk := 0) g dX4_search_6 rfl rfl ?_
  refine S_iconst g dX4_search_7 ⟨by decide, by decide⟩ ?_
  refine S_putz g dX4_search_8 fp_Marks_36 (at_53 hw) rfl (fun h3 => ?_)
  refine S_aload_n (kk := 0) g dX4_search_11 rfl rfl ?_
  refine S_aload_n (kk := 1) g dX4_search_12 rfl rfl ?_
  refine S_iconst g dX4_search_13 ⟨by decide, by decide⟩ ?_
  refine S_iconst g dX4_search_14 ⟨by decide, by decide⟩ ?_
  refine S_iconst g dX4_search_15 ⟨by decide, by decide⟩ ?_
  refine S_callVv (As := [vP 45, vI (-1), vI (-1), vI (-1)]) g dX4_search_16 (sX4_tryOne hw _ _ _ _) rfl (at_53 hw) rfl im_X4_tryOne se_X4_tryOne cw_X4_tryOne ml_Marks_40 ini_Marks nd_X4_tryOne ⟨by decide, by decide⟩ (Nat.le_of_ble_eq_true rfl) (fun r4 h5 => ?_)
  refine S_iconst g dX4_search_19 ⟨by decide, by decide⟩ ?_
  refine S_istore g dX4_search_20 (by decide) rfl ?_
  refine S_sub g [1, 2, 0] rfl ?_
  exact sX4_search_L22 hw g _ _

def XX7_drop  (h : Hp) : OR :=
  zb 0 (hm (wr h 56 0 0) (fun h1 => some (0, h1)))
theorem sX7_drop {G : GG} {w : Wd} (hw : okX0 w)  (h : Hp) : SC G w yX7_drop (Cond.code yX7_drop cX7_drop 1 (Option.none : Option Jvm.ClassFile.FieldType)) 1 3 [vP 56] (XX7_drop  h) h := by
  refine SC_of (own := "GatePatch$Patch") plain_Patch rfl (Nat.le_of_ble_eq_true rfl) (fun Γ hG g => ?_)
  subst hG
  show Sim Γ w 3 _ h 0 [(0, vP 56)] []
  unfold XX7_drop
  refine S_aload_n (kk := 0) g dX7_drop_0 rfl rfl ?_
  refine S_iconst g dX7_drop_1 ⟨by decide, by decide⟩ ?_
  refine S_putz g dX7_drop_2 fp_Patch_42 (at0_56 hw) rfl (fun h1 => ?_)
  exact S_return g dX7_drop_5 rfl

def XX7_grow_p91 (rec : Int → Int → Int → Hp → OR)   (l2 l6 l7 : Int) (s0 : Int) (h : Hp) : OR :=
  if (h 56 8) < 8 then inb (h 56 8) 8 (hm (wr h 61 (h 56 8).toNat l6) (fun h10 => inb (h10 56 8) 8 (hm (wr h10 62 (h10 56 8).toNat l7) (fun h11 => inb (h11 56 8) 8 (hm (wr h11 63 (h11 56 8).toNat s0) (fun h12 => inb (h12 56 8) 8 (hm (wr h12 64 (h12 56 8).toNat l2) (fun h13 => inb (h13 56 8) 8 (hm (wr h13 65 (h13 56 8).toNat (-2)) (fun h14 => chk ((h14 56 8) + 1) (hm (wr h14 56 8 ((h14 56 8) + 1)) (fun h15 => chk ((h15 56 8) - 1) (some (((h15 56 8) - 1), h15)))))))))))))) else some ((-2), h)
def XX7_grow_r (rec : Int → Int → Int → Hp → OR) (x0 : Int) (x1 : Int) (x2 : Int) (h : Hp) : OR :=
  cal (XX2_leafOf (h 56 5) x0 h) (fun r1 h2 => if r1 < 0 then cal (XX2_split (h2 56 5) x0 h2) (fun r3 h4 => if r3 < 0 then some ((-2), h4) else if x2 ≤ 4 then nm (ashr r3 16) (fun v5 => chk (x2 + 1) (cal (rec (aand (ashr r3 8) 255) x1 (x2 + 1) h4) (fun r6 h7 => if v5 = 0 then XX7_grow_p91 rec x1 v5 r6 (-2) h7 else chk (x2 + 1) (cal (rec (aand r3 255) x1 (x2 + 1) h7) (fun r8 h9 => XX7_grow_p91 rec x1 v5 r6 r8 h9))))) else some ((-2), h4)) else some (r1, h2))
def XX7_grow : Nat → Int → Int → Int → Hp → OR
  | 0 => fun _ _ _ _ => none
  | n + 1 => XX7_grow_r (XX7_grow n)
theorem sX7_grow_p91 {Γ : Cx} {w : Wd} (hw : okX w) {dq : Nat} (rec : Int → Int → Int → Hp → OR) (hrec : ∀ (z0 z1 z2 : Int) (h : Hp), SC Γ.1 w yX7_grow (Cond.code yX7_grow cX7_grow 9 (Option.some Jvm.ClassFile.FieldType.int)) dq 0 [vP 56, vI z0, vI z1, vI z2] (rec z0 z1 z2 h) h) {dr : Nat} (hdr : dq < dr) (hlow : 5 < dr) (g : Gd Γ cX7_grow 9 "GatePatch$Patch" (Option.some Jvm.ClassFile.FieldType.int) (rmd dr))   (l2 l6 l7 : Int) (s0 : Int) (h : Hp) : Sim Γ w 0 (XX7_grow_p91 rec  l2 l6 l7 s0 h) h 91 [(0, vP 56), (2, vI l2), (6, vI l6), (7, vI l7)] [vI s0] := by
  unfold XX7_grow_p91
  refine S_istore g dX7_grow_91 (by decide) rfl ?_
  refine S_aload_n (kk := 1) g dX7_grow_93 rfl rfl ?_
  refine S_geti g dX7_grow_94 fl_Patch_73 (at_56 hw) (Or.inl rfl) ?_
  refine S_bipush g dX7_grow_97 ⟨by decide, by decide⟩ rfl ?_
  refine S_icmp_lt (tgt := 105) g dX7_grow_99 (by decide) ?_ ?_
  · refine S_aload_n (kk := 1) g dX7_grow_105 rfl rfl ?_
    refine S_getr g dX7_grow_106 fl_Patch_24 (at_56 hw) rfl (rc_56_9 hw) ?_
    refine S_aload_n (kk := 1) g dX7_grow_109 rfl rfl ?_
    refine S_geti g dX7_grow_110 fl_Patch_73 (at_56 hw) (Or.inl rfl) ?_
    refine S_iload (kk := 3) g dX7_grow_113 rfl ?_
    refine S_iastore g dX7_grow_115 (at_61 hw) (fun h10 => ?_)
    refine S_aload_n (kk := 1) g dX7_grow_116 rfl rfl ?_
    refine S_getr g dX7_grow_117 fl_Patch_27 (at_56 hw) rfl (rc_56_10 hw) ?_
    refine S_aload_n (kk := 1) g dX7_grow_120 rfl rfl ?_
    refine S_geti g dX7_grow_121 fl_Patch_73 (at_56 hw) (Or.inl rfl) ?_
    refine S_iload (kk := 4) g dX7_grow_124 rfl ?_
    refine S_iastore g dX7_grow_126 (at_62 hw) (fun h11 => ?_)
    refine S_aload_n (kk := 1) g dX7_grow_127 rfl rfl ?_
    refine S_getr g dX7_grow_128 fl_Patch_30 (at_56 hw) rfl (rc_56_11 hw) ?_
    refine S_aload_n (kk := 1) g dX7_grow_131 rfl rfl ?_
    refine S_geti g dX7_grow_132 fl_Patch_73 (at_56 hw) (Or.inl rfl) ?_
    refine S_iload (kk := 0) g dX7_grow_135 rfl ?_
    refine S_iastore g dX7_grow_137 (at_63 hw) (fun h12 => ?_)
    refine S_aload_n (kk := 1) g dX7_grow_138 rfl rfl ?_
    refine S_getr g dX7_grow_139 fl_Patch_33 (at_56 hw) rfl (rc_56_12 hw) ?_
    refine S_aload_n (kk := 1) g dX7_grow_142 rfl rfl ?_
    refine S_geti g dX7_grow_143 fl_Patch_73 (at_56 hw) (Or.inl rfl) ?_
    refine S_iload_n (kk := 2) g dX7_grow_146 rfl rfl ?_
    refine S_iastore g dX7_grow_147 (at_64 hw) (fun h13 => ?_)
    refine S_aload_n (kk := 1) g dX7_grow_148 rfl rfl ?_
    refine S_getr g dX7_grow_149 fl_Patch_36 (at_56 hw) rfl (rc_56_13 hw) ?_
    refine S_aload_n (kk := 1) g dX7_grow_152 rfl rfl ?_
    refine S_geti g dX7_grow_153 fl_Patch_73 (at_56 hw) (Or.inl rfl) ?_
    refine S_bipush g dX7_grow_156 ⟨by decide, by decide⟩ rfl ?_
    refine S_iastore g dX7_grow_158 (at_65 hw) (fun h14 => ?_)
    refine S_aload_n (kk := 1) g dX7_grow_159 rfl rfl ?_
    refine S_dup g dX7_grow_160 rfl ?_
    refine S_geti g dX7_grow_161 fl_Patch_73 (at_56 hw) (Or.inl rfl) ?_
    refine S_iconst g dX7_grow_164 ⟨by decide, by decide⟩ ?_
    refine S_iadd g dX7_grow_165 ?_
    refine S_puti g dX7_grow_166 fp_Patch_73 (at_56 hw) rfl (fun h15 => ?_)
    refine S_aload_n (kk := 1) g dX7_grow_169 rfl rfl ?_
    refine S_geti g dX7_grow_170 fl_Patch_73 (at_56 hw) (Or.inl rfl) ?_
    refine S_iconst g dX7_grow_173 ⟨by decide, by decide⟩ ?_
    refine S_isub g dX7_grow_174 ?_
    exact S_ireturn g dX7_grow_175 rfl
  · refine S_bipush g dX7_grow_102 ⟨by decide, by decide⟩ rfl ?_
    exact S_ireturn g dX7_grow_104 rfl

theorem sX7_grow_r {Γ : Cx} {w : Wd} (hw : okX w) {dq : Nat} (rec : Int → Int → Int → Hp → OR) (hrec : ∀ (z0 z1 z2 : Int) (h : Hp), SC Γ.1 w yX7_grow (Cond.code yX7_grow cX7_grow 9 (Option.some Jvm.ClassFile.FieldType.int)) dq 0 [vP 56, vI z0, vI z1, vI z2] (rec z0 z1 z2 h) h) {dr : Nat} (hdr : dq < dr) (hlow : 5 < dr) (g : Gd Γ cX7_grow 9 "GatePatch$Patch" (Option.some Jvm.ClassFile.FieldType.int) (rmd dr)) (x0 x1 x2 : Int) (h : Hp) : Sim Γ w 0 (XX7_grow_r rec x0 x1 x2 h) h 0 [(0, vP 56), (1, vI x0), (2, vI x1), (3, vI x2)] [] := by
  unfold XX7_grow_r
  refine S_aload_n (kk := 0) g dX7_grow_0 rfl rfl ?_
  refine S_geti g dX7_grow_1 fl_Patch_61 (at_56 hw) (Or.inl rfl) ?_
  refine S_iload_n (kk := 1) g dX7_grow_4 rfl rfl ?_
  refine S_callSi (As := [vI (h 56 5), vI x0]) g dX7_grow_5 (sX2_leafOf hw _ _ _) rfl st_X2_leafOf cw_X2_leafOf ml_Patch_81 ini_Fns nd_X2_leafOf ⟨Nat.lt_trans (m := 5) (by decide) hlow, by decide⟩ (Nat.le_of_ble_eq_true rfl) (fun r1 h2 => ?_)
  refine S_istore g dX7_grow_8 (by decide) rfl ?_
  refine S_iload (kk := 0) g dX7_grow_10 rfl ?_
  refine S_if_lt (tgt := 18) g dX7_grow_12 (by decide) ?_ ?_
  · refine S_aload_n (kk := 1) g dX7_grow_18 rfl rfl ?_
    refine S_geti g dX7_grow_19 fl_Patch_61 (at_56 hw) (Or.inl rfl) ?_
    refine S_iload_n (kk := 2) g dX7_grow_22 rfl rfl ?_
    refine S_callSi (As := [vI (h2 56 5), vI x0]) g dX7_grow_23 (sX2_split hw _ _ _) rfl st_X2_split cw_X2_split ml_Patch_87 ini_Fns nd_X2_split ⟨Nat.lt_trans (m := 5) (by decide) hlow, by decide⟩ (Nat.le_of_ble_eq_true rfl) (fun r3 h4 => ?_)
    refine S_istore g dX7_grow_26 (by decide) rfl ?_
    refine S_iload (kk := 0) g dX7_grow_28 rfl ?_
    refine S_if_lt (tgt := 38) g dX7_grow_30 (by decide) ?_ ?_
    · refine S_bipush g dX7_grow_38 ⟨by decide, by decide⟩ rfl ?_
      exact S_ireturn g dX7_grow_40 rfl
    · refine S_iload_n (kk := 5) g dX7_grow_33 rfl rfl ?_
      refine S_iconst g dX7_grow_34 ⟨by decide, by decide⟩ ?_
      refine S_icmp_le (tgt := 41) g dX7_grow_35 (by decide) ?_ ?_
      · refine S_iload (kk := 0) g dX7_grow_41 rfl ?_
        refine S_bipush g dX7_grow_43 ⟨by decide, by decide⟩ rfl ?_
        refine S_ishr g dX7_grow_45 ?_
        refine S_nmI (fun v5 => ?_)
        refine S_istore g dX7_grow_46 (by decide) rfl ?_
        refine S_aload_n (kk := 3) g dX7_grow_48 rfl rfl ?_
        refine S_iload (kk := 1) g dX7_grow_49 rfl ?_
        refine S_bipush g dX7_grow_51 ⟨by decide, by decide⟩ rfl ?_
        refine S_ishr g dX7_grow_53 ?_
        refine S_sipush g dX7_grow_54 ⟨by decide, by decide⟩ rfl ?_
        refine S_iand g dX7_grow_57 ?_
        refine S_iload_n (kk := 5) g dX7_grow_58 rfl rfl ?_
        refine S_iload_n (kk := 6) g dX7_grow_59 rfl rfl ?_
        refine S_iconst g dX7_grow_60 ⟨by decide, by decide⟩ ?_
        refine S_iadd g dX7_grow_61 ?_
        refine S_callVi (As := [vI (aand (ashr r3 8) 255), vI x1, vI (x2 + 1)]) g dX7_grow_62 (hrec _ _ _ _) rfl (at_56 hw) rfl im_X7_grow se_X7_grow cw_X7_grow ml_Patch_77 ini_Patch nd_X7_grow ⟨hdr, by decide⟩ (Nat.le_of_ble_eq_true rfl) (fun r6 h7 => ?_)
        refine S_istore g dX7_grow_65 (by decide) rfl ?_
        refine S_iload (kk := 1) g dX7_grow_67 rfl ?_
        refine S_if_ne (tgt := 77) g dX7_grow_69 (by decide) ?_ ?_
        · refine S_aload_n (kk := 4) g dX7_grow_77 rfl rfl ?_
          refine S_iload (kk := 2) g dX7_grow_78 rfl ?_
          refine S_sipush g dX7_grow_80 ⟨by decide, by decide⟩ rfl ?_
          refine S_iand g dX7_grow_83 ?_
          refine S_iload_n (kk := 6) g dX7_grow_84 rfl rfl ?_
          refine S_iload_n (kk := 7) g dX7_grow_85 rfl rfl ?_
          refine S_iconst g dX7_grow_86 ⟨by decide, by decide⟩ ?_
          refine S_iadd g dX7_grow_87 ?_
          refine S_callVi (As := [vI (aand r3 255), vI x1, vI (x2 + 1)]) g dX7_grow_88 (hrec _ _ _ _) rfl (at_56 hw) rfl im_X7_grow se_X7_grow cw_X7_grow ml_Patch_77 ini_Patch nd_X7_grow ⟨hdr, by decide⟩ (Nat.le_of_ble_eq_true rfl) (fun r8 h9 => ?_)
          refine S_sub g [4, 6, 1, 0] rfl ?_
          exact sX7_grow_p91 hw rec hrec hdr hlow g _ _ _ _ _
        · refine S_bipush g dX7_grow_72 ⟨by decide, by decide⟩ rfl ?_
          refine S_goto (tgt := 91) g dX7_grow_74 (by decide) ?_
          refine S_sub g [4, 6, 1, 0] rfl ?_
          exact sX7_grow_p91 hw rec hrec hdr hlow g _ _ _ _ _
      · refine S_bipush g dX7_grow_38 ⟨by decide, by decide⟩ rfl ?_
        exact S_ireturn g dX7_grow_40 rfl
  · refine S_iload (kk := 0) g dX7_grow_15 rfl ?_
    exact S_ireturn g dX7_grow_17 rfl

theorem sX7_grow {G : GG} {w : Wd} (hw : okX w) : ∀ (n : Nat) (x0 x1 x2 : Int) (h : Hp), SC G w yX7_grow (Cond.code yX7_grow cX7_grow 9 (Option.some Jvm.ClassFile.FieldType.int)) (5 + n) 0 [vP 56, vI x0, vI x1, vI x2] (XX7_grow n x0 x1 x2 h) h
  | 0, _, _, _, _ => fun _ _ e => by cases e
  | n + 1, x0, x1, x2, h => by
    refine SC_of (own := "GatePatch$Patch") plain_Patch rfl (Nat.le_of_ble_eq_true rfl) (fun Γ hG g => ?_)
    subst hG
    exact sX7_grow_r hw (XX7_grow n) (sX7_grow hw n) (dr := 5 + (n + 1)) (by omega) (by omega) g x0 x1 x2 h
def XX7_keep_b67   (self67 : Int → Hp → OR) (l2 : Int) (h : Hp) : OR :=
  if (h 56 3) ≤ l2 then some (0, h) else inb l2 2 (inb l2 2 (hm (wr h 59 l2.toNat (h 52 l2.toNat)) (fun h8 => inb l2 2 (cal (XX7_grow 10 (h8 59 l2.toNat) l2 0 h8) (fun r9 h10 => inb l2 2 (hm (wr h10 60 l2.toNat r9) (fun h11 => chk (l2 + 1) (self67 (l2 + 1) h11))))))))
def XX7_keep_L67   (l2 : Int) (h : Hp) : OR := lup1 (XX7_keep_b67 ) FU l2 h
def XX7_keep  (h : Hp) : OR :=
  zb 1 (hm (wr h 56 0 1) (fun h1 => zb 0 (hm (wr h1 56 1 0) (fun h2 => hm (wr h2 56 3 (h2 45 3)) (fun h3 => hm (wr h3 56 5 (h3 45 5)) (fun h4 => acp 0 0 (h4 56 3) 2 2 (hm (cpy h4 46 (0 : Int).toNat 57 (0 : Int).toNat (h4 56 3).toNat) (fun h5 => acp 0 0 (h5 56 5) 3 3 (hm (cpy h5 47 (0 : Int).toNat 58 (0 : Int).toNat (h5 56 5).toNat) (fun h6 => hm (wr h6 56 8 0) (fun h7 => XX7_keep_L67 0 h7)))))))))))
theorem sX7_keep_L67 {Γ : Cx} {w : Wd} (hw : okX w) (g : Gd Γ cX7_keep 3 "GatePatch$Patch" (Option.none : Option Jvm.ClassFile.FieldType) (rmd 18))   : ∀ (l2 : Int) (h : Hp), Sim Γ w 3 (XX7_keep_L67  l2 h) h 67 [(0, vP 56), (1, vP 45), (2, vI l2)] [] := by
  refine S_lup1 (fun l2 => [(0, vP 56), (1, vP 45), (2, vI l2)]) (fun self67 hs67 l2 h => ?_) FU
  unfold XX7_keep_b67
  refine S_iload_n (kk := 2) g dX7_keep_67 rfl rfl ?_
  refine S_aload_n (kk := 0) g dX7_keep_68 rfl rfl ?_
  refine S_geti g dX7_keep_69 fl_Patch_55 (at_56 hw) (Or.inl rfl) ?_
  refine S_icmp_ge (tgt := 111) g dX7_keep_72 (by decide) ?_ ?_
  · exact S_return g dX7_keep_111 rfl
  · refine S_aload_n (kk := 0) g dX7_keep_75 rfl rfl ?_
    refine S_getr g dX7_keep_76 fl_Patch_18 (at_56 hw) rfl (rc_56_6 hw) ?_
    refine S_iload_n (kk := 2) g dX7_keep_79 rfl rfl ?_
    refine S_aload_n (kk := 1) g dX7_keep_80 rfl rfl ?_
    refine S_getr g dX7_keep_81 fl_Patch_76 (at_45 hw) rfl (rc_45_10 hw) ?_
    refine S_iload_n (kk := 2) g dX7_keep_84 rfl rfl ?_
    refine S_iaload g dX7_keep_85 (at_52 hw) ?_
    refine S_iastore g dX7_keep_86 (at_59 hw) (fun h8 => ?_)
    refine S_aload_n (kk := 0) g dX7_keep_87 rfl rfl ?_
    refine S_getr g dX7_keep_88 fl_Patch_21 (at_56 hw) rfl (rc_56_7 hw) ?_
    refine S_iload_n (kk := 2) g dX7_keep_91 rfl rfl ?_
    refine S_aload_n (kk := 0) g dX7_keep_92 rfl rfl ?_
    refine S_aload_n (kk := 0) g dX7_keep_93 rfl rfl ?_
    refine S_getr g dX7_keep_94 fl_Patch_18 (at_56 hw) rfl (rc_56_6 hw) ?_
    refine S_iload_n (kk := 2) g dX7_keep_97 rfl rfl ?_
    refine S_iaload g dX7_keep_98 (at_59 hw) ?_
    refine S_iload_n (kk := 2) g dX7_keep_99 rfl rfl ?_
    refine S_iconst g dX7_keep_100 ⟨by decide, by decide⟩ ?_
    refine S_callVi (As := [vI (h8 59 l2.toNat), vI l2, vI 0]) g dX7_keep_101 (sX7_grow hw 10 _ _ _ _) rfl (at_56 hw) rfl im_X7_grow se_X7_grow cw_X7_grow ml_Patch_77 ini_Patch nd_X7_grow ⟨by decide, by decide⟩ (Nat.le_of_ble_eq_true rfl) (fun r9 h10 => ?_)
    refine S_iastore g dX7_keep_104 (at_60 hw) (fun h11 => ?_)
    refine S_iinc (kk := 2) g dX7_keep_105 rfl (by decide) rfl ?_
    refine S_goto (tgt := 67) g dX7_keep_108 (by decide) ?_
    refine S_sub g [1, 2, 0] rfl ?_
    exact hs67 _ _

theorem sX7_keep {G : GG} {w : Wd} (hw : okX w)  (h : Hp) : SC G w yX7_keep (Cond.code yX7_keep cX7_keep 3 (Option.none : Option Jvm.ClassFile.FieldType)) 18 3 [vP 56, vP 45] (XX7_keep  h) h := by
  refine SC_of (own := "GatePatch$Patch") plain_Patch rfl (Nat.le_of_ble_eq_true rfl) (fun Γ hG g => ?_)
  subst hG
  show Sim Γ w 3 _ h 0 [(0, vP 56), (1, vP 45)] []
  unfold XX7_keep
  refine S_aload_n (kk := 0) g dX7_keep_0 rfl rfl ?_
  refine S_iconst g dX7_keep_1 ⟨by decide, by decide⟩ ?_
  refine S_putz g dX7_keep_2 fp_Patch_42 (at_56 hw) rfl (fun h1 => ?_)
  refine S_aload_n (kk := 0) g dX7_keep_5 rfl rfl ?_
  refine S_iconst g dX7_keep_6 ⟨by decide, by decide⟩ ?_
  refine S_putz g dX7_keep_7 fp_Patch_46 (at_56 hw) rfl (fun h2 => ?_)
  refine S_aload_n (kk := 0) g dX7_keep_10 rfl rfl ?_
  refine S_aload_n (kk := 1) g dX7_keep_11 rfl rfl ?_
  refine S_geti g dX7_keep_12 fl_Patch_49 (at_45 hw) (Or.inl rfl) ?_
  refine S_puti g dX7_keep_15 fp_Patch_55 (at_56 hw) rfl (fun h3 => ?_)
  refine S_aload_n (kk := 0) g dX7_keep_18 rfl rfl ?_
  refine S_aload_n (kk := 1) g dX7_keep_19 rfl rfl ?_
  refine S_geti g dX7_keep_20 fl_Patch_58 (at_45 hw) (Or.inl rfl) ?_
  refine S_puti g dX7_keep_23 fp_Patch_61 (at_56 hw) rfl (fun h4 => ?_)
  refine S_aload_n (kk := 1) g dX7_keep_26 rfl rfl ?_
  refine S_getr g dX7_keep_27 fl_Patch_62 (at_45 hw) rfl (rc_45_2 hw) ?_
  refine S_iconst g dX7_keep_30 ⟨by decide, by decide⟩ ?_
  refine S_aload_n (kk := 0) g dX7_keep_31 rfl rfl ?_
  refine S_getr g dX7_keep_32 fl_Patch_9 (at_56 hw) rfl (rc_56_2 hw) ?_
  refine S_iconst g dX7_keep_35 ⟨by decide, by decide⟩ ?_
  refine S_aload_n (kk := 0) g dX7_keep_36 rfl rfl ?_
  refine S_geti g dX7_keep_37 fl_Patch_55 (at_56 hw) (Or.inl rfl) ?_
  refine S_copyi g dX7_keep_40 ml_Patch_64 acp_nat acp_st ini_Sys (at_46 hw) (at_57 hw) (by decide) (by decide) (fun h5 => ?_)
  refine S_aload_n (kk := 1) g dX7_keep_43 rfl rfl ?_
  refine S_getr g dX7_keep_44 fl_Patch_70 (at_45 hw) rfl (rc_45_4 hw) ?_
  refine S_iconst g dX7_keep_47 ⟨by decide, by decide⟩ ?_
  refine S_aload_n (kk := 0) g dX7_keep_48 rfl rfl ?_
  refine S_getr g dX7_keep_49 fl_Patch_15 (at_56 hw) rfl (rc_56_4 hw) ?_
  refine S_iconst g dX7_keep_52 ⟨by decide, by decide⟩ ?_
  refine S_aload_n (kk := 0) g dX7_keep_53 rfl rfl ?_
  refine S_geti g dX7_keep_54 fl_Patch_61 (at_56 hw) (Or.inl rfl) ?_
  refine S_copyi g dX7_keep_57 ml_Patch_64 acp_nat acp_st ini_Sys (at_47 hw) (at_58 hw) (by decide) (by decide) (fun h6 => ?_)
  refine S_aload_n (kk := 0) g dX7_keep_60 rfl rfl ?_
  refine S_iconst g dX7_keep_61 ⟨by decide, by decide⟩ ?_
  refine S_puti g dX7_keep_62 fp_Patch_73 (at_56 hw) rfl (fun h7 => ?_)
  refine S_iconst g dX7_keep_65 ⟨by decide, by decide⟩ ?_
  refine S_istore_n g dX7_keep_66 rfl (by decide) rfl ?_
  refine S_sub g [1, 2, 0] rfl ?_
  exact sX7_keep_L67 hw g _ _

def XX7_gatesToAdd_p42  (self7 : Int → Int → Hp → OR) (l1 l2 : Int) (h : Hp) : OR :=
  chk (l2 + 1) (self7 l1 (l2 + 1) h)
def XX7_gatesToAdd_p39  (self7 : Int → Int → Hp → OR) (l1 l2 : Int) (h : Hp) : OR :=
  chk (l1 + 1) (XX7_gatesToAdd_p42 self7 (l1 + 1) l2 h)
def XX7_gatesToAdd_b7   (self7 : Int → Int → Hp → OR) (l1 l2 : Int) (h : Hp) : OR :=
  if (h 56 3) ≤ l2 then some (l1, h) else inb l2 2 (if (h 60 l2.toNat) = 200 then XX7_gatesToAdd_p39 self7 l1 l2 h else inb l2 2 (if (h 60 l2.toNat) = 201 then XX7_gatesToAdd_p39 self7 l1 l2 h else XX7_gatesToAdd_p42 self7 l1 l2 h))
def XX7_gatesToAdd_L7   (l1 l2 : Int) (h : Hp) : OR := lup2 (XX7_gatesToAdd_b7 ) FU l1 l2 h
def XX7_gatesToAdd  (h : Hp) : OR :=
  nm (h 56 8) (fun v1 => XX7_gatesToAdd_L7 v1 0 h)
theorem sX7_gatesToAdd_p42 {Γ : Cx} {w : Wd} (hw : okX w) (g : Gd Γ cX7_gatesToAdd 3 "GatePatch$Patch" (Option.some Jvm.ClassFile.FieldType.int) (rmd 1))  (self7 : Int → Int → Hp → OR) (hs7 : ∀ (x0 x1 : Int) (h : Hp), Sim Γ w 0 (self7 x0 x1 h) h 7 [(0, vP 56), (1, vI x0), (2, vI x1)] []) (l1 l2 : Int) (h : Hp) : Sim Γ w 0 (XX7_gatesToAdd_p42 self7 l1 l2  h) h 42 [(0, vP 56), (1, vI l1), (2, vI l2)] [] := by
  unfold XX7_gatesToAdd_p42
  refine S_iinc (kk := 2) g dX7_gatesToAdd_42 rfl (by decide) rfl ?_
  refine S_goto (tgt := 7) g dX7_gatesToAdd_45 (by decide) ?_
  refine S_sub g [1, 2, 0] rfl ?_
  exact hs7 _ _ _

theorem sX7_gatesToAdd_p39 {Γ : Cx} {w : Wd} (hw : okX w) (g : Gd Γ cX7_gatesToAdd 3 "GatePatch$Patch" (Option.some Jvm.ClassFile.FieldType.int) (rmd 1))  (self7 : Int → Int → Hp → OR) (hs7 : ∀ (x0 x1 : Int) (h : Hp), Sim Γ w 0 (self7 x0 x1 h) h 7 [(0, vP 56), (1, vI x0), (2, vI x1)] []) (l1 l2 : Int) (h : Hp) : Sim Γ w 0 (XX7_gatesToAdd_p39 self7 l1 l2  h) h 39 [(0, vP 56), (1, vI l1), (2, vI l2)] [] := by
  unfold XX7_gatesToAdd_p39
  refine S_iinc (kk := 1) g dX7_gatesToAdd_39 rfl (by decide) rfl ?_
  refine S_sub g [1, 0, 2] rfl ?_
  exact sX7_gatesToAdd_p42 hw g self7 hs7 _ _ _

theorem sX7_gatesToAdd_L7 {Γ : Cx} {w : Wd} (hw : okX w) (g : Gd Γ cX7_gatesToAdd 3 "GatePatch$Patch" (Option.some Jvm.ClassFile.FieldType.int) (rmd 1))   : ∀ (l1 l2 : Int) (h : Hp), Sim Γ w 0 (XX7_gatesToAdd_L7  l1 l2 h) h 7 [(0, vP 56), (1, vI l1), (2, vI l2)] [] := by
  refine S_lup2 (fun l1 l2 => [(0, vP 56), (1, vI l1), (2, vI l2)]) (fun self7 hs7 l1 l2 h => ?_) FU
  unfold XX7_gatesToAdd_b7
  refine S_iload_n (kk := 2) g dX7_gatesToAdd_7 rfl rfl ?_
  refine S_aload_n (kk := 0) g dX7_gatesToAdd_8 rfl rfl ?_
  refine S_geti g dX7_gatesToAdd_9 fl_Patch_55 (at_56 hw) (Or.inl rfl) ?_
  refine S_icmp_ge (tgt := 48) g dX7_gatesToAdd_12 (by decide) ?_ ?_
  · refine S_iload_n (kk := 1) g dX7_gatesToAdd_48 rfl rfl ?_
    exact S_ireturn g dX7_gatesToAdd_49 rfl
  · refine S_aload_n (kk := 0) g dX7_gatesToAdd_15 rfl rfl ?_
    refine S_getr g dX7_gatesToAdd_16 fl_Patch_21 (at_56 hw) rfl (rc_56_7 hw) ?_
    refine S_iload_n (kk := 2) g dX7_gatesToAdd_19 rfl rfl ?_
    refine S_iaload g dX7_gatesToAdd_20 (at_60 hw) ?_
    refine S_sipush g dX7_gatesToAdd_21 ⟨by decide, by decide⟩ rfl ?_
    refine S_icmp_eq (tgt := 39) g dX7_gatesToAdd_24 (by decide) ?_ ?_
    · exact sX7_gatesToAdd_p39 hw g self7 hs7 _ _ _
    · refine S_aload_n (kk := 0) g dX7_gatesToAdd_27 rfl rfl ?_
      refine S_getr g dX7_gatesToAdd_28 fl_Patch_21 (at_56 hw) rfl (rc_56_7 hw) ?_
      refine S_iload_n (kk := 2) g dX7_gatesToAdd_31 rfl rfl ?_
      refine S_iaload g dX7_gatesToAdd_32 (at_60 hw) ?_
      refine S_sipush g dX7_gatesToAdd_33 ⟨by decide, by decide⟩ rfl ?_
      refine S_icmp_ne (tgt := 42) g dX7_gatesToAdd_36 (by decide) ?_ ?_
      · exact sX7_gatesToAdd_p42 hw g self7 hs7 _ _ _
      · exact sX7_gatesToAdd_p39 hw g self7 hs7 _ _ _

theorem sX7_gatesToAdd {G : GG} {w : Wd} (hw : okX w)  (h : Hp) : SC G w yX7_gatesToAdd (Cond.code yX7_gatesToAdd cX7_gatesToAdd 3 (Option.some Jvm.ClassFile.FieldType.int)) 1 0 [vP 56] (XX7_gatesToAdd  h) h := by
  refine SC_of (own := "GatePatch$Patch") plain_Patch rfl (Nat.le_of_ble_eq_true rfl) (fun Γ hG g => ?_)
  subst hG
  show Sim Γ w 0 _ h 0 [(0, vP 56)] []
  unfold XX7_gatesToAdd
  refine S_aload_n (kk := 0) g dX7_gatesToAdd_0 rfl rfl ?_
  refine S_geti g dX7_gatesToAdd_1 fl_Patch_73 (at_56 hw) (Or.inl rfl) ?_
  refine S_nmI (fun v1 => ?_)
  refine S_istore_n g dX7_gatesToAdd_4 rfl (by decide) rfl ?_
  refine S_iconst g dX7_gatesToAdd_5 ⟨by decide, by decide⟩ ?_
  refine S_istore_n g dX7_gatesToAdd_6 rfl (by decide) rfl ?_
  refine S_sub g [2, 1, 0] rfl ?_
  exact sX7_gatesToAdd_L7 hw g _ _ _

def XX9_use (x0 : Int) (h : Hp) : OR :=
  if x0 < 0 then some (0, h) else if x0 < (h 67 0) then hm (wr h 67 1 (aor (h 67 1) (ashl 1 x0))) (fun h1 => inb x0 12 (some ((h1 69 x0.toNat), h1))) else some (0, h)
theorem sX9_use {G : GG} {w : Wd} (hw : okX w) (x0 : Int) (h : Hp) : SC G w yX9_use (Cond.code yX9_use cX9_use 2 (Option.some Jvm.ClassFile.FieldType.int)) 1 0 [vP 67, vI x0] (XX9_use x0 h) h := by
  refine SC_of (own := "GatePatch$Spares") plain_Spares rfl (Nat.le_of_ble_eq_true rfl) (fun Γ hG g => ?_)
  subst hG
  show Sim Γ w 0 _ h 0 [(0, vP 67), (1, vI x0)] []
  unfold XX9_use
  refine S_iload_n (kk := 1) g dX9_use_0 rfl rfl ?_
  refine S_if_lt (tgt := 12) g dX9_use_1 (by decide) ?_ ?_
  · refine S_iconst g dX9_use_12 ⟨by decide, by decide⟩ ?_
    exact S_ireturn g dX9_use_13 rfl
  · refine S_iload_n (kk := 1) g dX9_use_4 rfl rfl ?_
    refine S_aload_n (kk := 0) g dX9_use_5 rfl rfl ?_
    refine S_geti g dX9_use_6 fl_Spares_24 (at_67 hw) (Or.inl rfl) ?_
    refine S_icmp_lt (tgt := 14) g dX9_use_9 (by decide) ?_ ?_
    · refine S_aload_n (kk := 0) g dX9_use_14 rfl rfl ?_
      refine S_dup g dX9_use_15 rfl ?_
      refine S_geti g dX9_use_16 fl_Spares_28 (at_67 hw) (Or.inl rfl) ?_
      refine S_iconst g dX9_use_19 ⟨by decide, by decide⟩ ?_
      refine S_iload_n (kk := 1) g dX9_use_20 rfl rfl ?_
      refine S_ishl g dX9_use_21 ?_
      refine S_ior g dX9_use_22 ?_
      refine S_puti g dX9_use_23 fp_Spares_28 (at_67 hw) rfl (fun h1 => ?_)
      refine S_aload_n (kk := 0) g dX9_use_26 rfl rfl ?_
      refine S_getr g dX9_use_27 fl_Spares_15 (at_67 hw) rfl (rc_67_3 hw) ?_
      refine S_iload_n (kk := 1) g dX9_use_30 rfl rfl ?_
      refine S_iaload g dX9_use_31 (at_69 hw) ?_
      exact S_ireturn g dX9_use_32 rfl
    · refine S_iconst g dX9_use_12 ⟨by decide, by decide⟩ ?_
      exact S_ireturn g dX9_use_13 rfl

def XX7_wireOf_p19   (l1 : Int) (h : Hp) : OR :=
  if l1 < 100 then some ((-1), h) else chk (100 + (h 56 5)) (if (100 + (h 56 5)) ≤ l1 then some ((-1), h) else chk (l1 - 100) (inb (l1 - 100) 3 (some ((h 58 (l1 - 100).toNat), h))))
def XX7_wireOf (x0 : Int) (h : Hp) : OR :=
  if x0 < 0 then XX7_wireOf_p19 x0 h else if (h 56 8) ≤ x0 then XX7_wireOf_p19 x0 h else inb x0 8 (some ((h 66 x0.toNat), h))
theorem sX7_wireOf_p19 {Γ : Cx} {w : Wd} (hw : okX w) (g : Gd Γ cX7_wireOf 2 "GatePatch$Patch" (Option.some Jvm.ClassFile.FieldType.int) (rmd 1))   (l1 : Int) (h : Hp) : Sim Γ w 0 (XX7_wireOf_p19  l1  h) h 19 [(0, vP 56), (1, vI l1)] [] := by
  unfold XX7_wireOf_p19
  refine S_iload_n (kk := 1) g dX7_wireOf_19 rfl rfl ?_
  refine S_bipush g dX7_wireOf_20 ⟨by decide, by decide⟩ rfl ?_
  refine S_icmp_lt (tgt := 48) g dX7_wireOf_22 (by decide) ?_ ?_
  · refine S_iconst g dX7_wireOf_48 ⟨by decide, by decide⟩ ?_
    exact S_ireturn g dX7_wireOf_49 rfl
  · refine S_iload_n (kk := 1) g dX7_wireOf_25 rfl rfl ?_
    refine S_bipush g dX7_wireOf_26 ⟨by decide, by decide⟩ rfl ?_
    refine S_aload_n (kk := 0) g dX7_wireOf_28 rfl rfl ?_
    refine S_geti g dX7_wireOf_29 fl_Patch_61 (at_56 hw) (Or.inl rfl) ?_
    refine S_iadd g dX7_wireOf_32 ?_
    refine S_icmp_ge (tgt := 48) g dX7_wireOf_33 (by decide) ?_ ?_
    · refine S_iconst g dX7_wireOf_48 ⟨by decide, by decide⟩ ?_
      exact S_ireturn g dX7_wireOf_49 rfl
    · refine S_aload_n (kk := 0) g dX7_wireOf_36 rfl rfl ?_
      refine S_getr g dX7_wireOf_37 fl_Patch_15 (at_56 hw) rfl (rc_56_4 hw) ?_
      refine S_iload_n (kk := 1) g dX7_wireOf_40 rfl rfl ?_
      refine S_bipush g dX7_wireOf_41 ⟨by decide, by decide⟩ rfl ?_
      refine S_isub g dX7_wireOf_43 ?_
      refine S_iaload g dX7_wireOf_44 (at_58 hw) ?_
      refine S_goto (tgt := 49) g dX7_wireOf_45 (by decide) ?_
      exact S_ireturn g dX7_wireOf_49 rfl

theorem sX7_wireOf {G : GG} {w : Wd} (hw : okX w) (x0 : Int) (h : Hp) : SC G w yX7_wireOf (Cond.code yX7_wireOf cX7_wireOf 2 (Option.some Jvm.ClassFile.FieldType.int)) 1 0 [vP 56, vI x0] (XX7_wireOf x0 h) h := by
  refine SC_of (own := "GatePatch$Patch") plain_Patch rfl (Nat.le_of_ble_eq_true rfl) (fun Γ hG g => ?_)
  subst hG
  show Sim Γ w 0 _ h 0 [(0, vP 56), (1, vI x0)] []
  unfold XX7_wireOf
  refine S_iload_n (kk := 1) g dX7_wireOf_0 rfl rfl ?_
  refine S_if_lt (tgt := 19) g dX7_wireOf_1 (by decide) ?_ ?_
  · exact sX7_wireOf_p19 hw g _ _
  · refine S_iload_n (kk := 1) g dX7_wireOf_4 rfl rfl ?_
    refine S_aload_n (kk := 0) g dX7_wireOf_5 rfl rfl ?_
    refine S_geti g dX7_wireOf_6 fl_Patch_73 (at_56 hw) (Or.inl rfl) ?_
    refine S_icmp_ge (tgt := 19) g dX7_wireOf_9 (by decide) ?_ ?_
    · exact sX7_wireOf_p19 hw g _ _
    · refine S_aload_n (kk := 0) g dX7_wireOf_12 rfl rfl ?_
      refine S_getr g dX7_wireOf_13 fl_Patch_39 (at_56 hw) rfl (rc_56_14 hw) ?_
      refine S_iload_n (kk := 1) g dX7_wireOf_16 rfl rfl ?_
      refine S_iaload g dX7_wireOf_17 (at_66 hw) ?_
      exact S_ireturn g dX7_wireOf_18 rfl

def XX7_addTree_p57 (b0 : Nat)  (l4 : Int) (s1 : Int) (h : Hp) : OR :=
  cal (XX8_addGate b0 s1 (-1) (-1) (-1) l4 h) (fun r2 h3 => some (r2, h3))
def XX7_addTree_p37 (a2 : Nat)  (l1 l4 : Int) (h : Hp) : OR :=
  inb l1 2 (if (h 60 l1.toNat) = 200 then XX7_addTree_p57 a2 l4 7 h else XX7_addTree_p57 a2 l4 8 h)
def XX7_addTree_p157 (a2 : Nat) (self69 : Int → Int → Int → Hp → OR) (l1 l4 l5 : Int) (h : Hp) : OR :=
  chk (l5 + 1) (self69 l1 l4 (l5 + 1) h)
def XX7_addTree_p112 (a2 : Nat) (self69 : Int → Int → Int → Hp → OR) (l1 l4 l5 : Int) (s0 : Int) (h : Hp) : OR :=
  inb l5 8 (inb l5 8 (cal (XX7_wireOf (h 62 l5.toNat) h) (fun r6 h7 => inb l5 8 (cal (XX7_wireOf (h7 63 l5.toNat) h7) (fun r8 h9 => cal (XX8_addGate a2 (h 61 l5.toNat) r6 r8 (-1) s0 h9) (fun r10 h11 => inb l5 8 (hm (wr h11 66 l5.toNat r10) (fun h12 => XX7_addTree_p157 a2 self69 l1 l4 l5 h12))))))))
def XX7_addTree_b69 (a2 : Nat)  (self69 : Int → Int → Int → Hp → OR) (l1 l4 l5 : Int) (h : Hp) : OR :=
  if (h 56 8) ≤ l5 then inb l1 2 (cal (XX7_wireOf (h 60 l1.toNat) h) (fun r4 h5 => some (r4, h5))) else inb l5 8 (if (h 64 l5.toNat) = l1 then if (h 56 1) = 0 then XX7_addTree_p112 a2 self69 l1 l4 l5 l4 h else inb l5 8 (cal (XX9_use (h 65 l5.toNat) h) (fun r13 h14 => XX7_addTree_p112 a2 self69 l1 l4 l5 r13 h14)) else XX7_addTree_p157 a2 self69 l1 l4 l5 h)
def XX7_addTree_L69 (a2 : Nat)  (l1 l4 l5 : Int) (h : Hp) : OR := lup3 (XX7_addTree_b69 a2) FU l1 l4 l5 h
def XX7_addTree (x0 : Int) (x1 : Nat) (h : Hp) : OR :=
  inb x0 2 (inb (h 57 x0.toNat) 48 (nm (h (x1 + 4) (h 57 x0.toNat).toNat) (fun v1 => inb x0 2 (if (h 60 x0.toNat) = 200 then XX7_addTree_p37 x1 x0 v1 h else inb x0 2 (if (h 60 x0.toNat) = 201 then XX7_addTree_p37 x1 x0 v1 h else XX7_addTree_L69 x1 x0 v1 0 h)))))
theorem sX7_addTree_p57 {Γ : Cx} {w : Wd} (hw : okX w) (g : Gd Γ cX7_addTree 7 "GatePatch$Patch" (Option.some Jvm.ClassFile.FieldType.int) (rmd 3)) (b0 : Nat) (hb0 : isPl w b0)  (l4 : Int) (s1 : Int) (h : Hp) : Sim Γ w 0 (XX7_addTree_p57 b0 l4 s1 h) h 57 [(4, vI l4)] [vI s1, vP b0] := by
  unfold XX7_addTree_p57
  refine S_iconst g dX7_addTree_57 ⟨by decide, by decide⟩ ?_
  refine S_iconst g dX7_addTree_58 ⟨by decide, by decide⟩ ?_
  refine S_iconst g dX7_addTree_59 ⟨by decide, by decide⟩ ?_
  refine S_iload (kk := 0) g dX7_addTree_60 rfl ?_
  refine S_callVi (As := [vI s1, vI (-1), vI (-1), vI (-1), vI l4]) g dX7_addTree_62 (sX8_addGate hw b0 hb0 _ _ _ _ _ _) rfl hb0.1 rfl im_X8_addGate se_X8_addGate cw_X8_addGate ml_Patch_95 ini_Plan nd_X8_addGate ⟨by decide, by decide⟩ (Nat.le_of_ble_eq_true rfl) (fun r2 h3 => ?_)
  exact S_ireturn g dX7_addTree_65 rfl

theorem sX7_addTree_p37 {Γ : Cx} {w : Wd} (hw : okX w) (g : Gd Γ cX7_addTree 7 "GatePatch$Patch" (Option.some Jvm.ClassFile.FieldType.int) (rmd 3)) (a2 : Nat) (ha2 : isPl w a2)  (l1 l4 : Int) (h : Hp) : Sim Γ w 0 (XX7_addTree_p37 a2 l1 l4  h) h 37 [(0, vP 56), (1, vI l1), (2, vP a2), (4, vI l4)] [] := by
  unfold XX7_addTree_p37
  refine S_aload_n (kk := 2) g dX7_addTree_37 rfl rfl ?_
  refine S_aload_n (kk := 0) g dX7_addTree_38 rfl rfl ?_
  refine S_getr g dX7_addTree_39 fl_Patch_21 (at_56 hw) rfl (rc_56_7 hw) ?_
  refine S_iload_n (kk := 1) g dX7_addTree_42 rfl rfl ?_
  refine S_iaload g dX7_addTree_43 (at_60 hw) ?_
  refine S_sipush g dX7_addTree_44 ⟨by decide, by decide⟩ rfl ?_
  refine S_icmp_ne (tgt := 55) g dX7_addTree_47 (by decide) ?_ ?_
  · refine S_bipush g dX7_addTree_55 ⟨by decide, by decide⟩ rfl ?_
    refine S_sub g [3] rfl ?_
    exact sX7_addTree_p57 hw g a2 ha2 _ _ _
  · refine S_bipush g dX7_addTree_50 ⟨by decide, by decide⟩ rfl ?_
    refine S_goto (tgt := 57) g dX7_addTree_52 (by decide) ?_
    refine S_sub g [3] rfl ?_
    exact sX7_addTree_p57 hw g a2 ha2 _ _ _

theorem sX7_addTree_p157 {Γ : Cx} {w : Wd} (hw : okX w) (g : Gd Γ cX7_addTree 7 "GatePatch$Patch" (Option.some Jvm.ClassFile.FieldType.int) (rmd 3)) (a2 : Nat) (ha2 : isPl w a2) (self69 : Int → Int → Int → Hp → OR) (hs69 : ∀ (x0 x1 x2 : Int) (h : Hp), Sim Γ w 0 (self69 x0 x1 x2 h) h 69 [(0, vP 56), (1, vI x0), (2, vP a2), (3, vP 67), (4, vI x1), (5, vI x2)] []) (l1 l4 l5 : Int) (h : Hp) : Sim Γ w 0 (XX7_addTree_p157 a2 self69 l1 l4 l5  h) h 157 [(0, vP 56), (1, vI l1), (2, vP a2), (3, vP 67), (4, vI l4), (5, vI l5)] [] := by
  unfold XX7_addTree_p157
  refine S_iinc (kk := 5) g dX7_addTree_157 rfl (by decide) rfl ?_
  refine S_goto (tgt := 69) g dX7_addTree_160 (by decide) ?_
  refine S_sub g [1, 2, 3, 4, 5, 0] rfl ?_
  exact hs69 _ _ _ _

theorem sX7_addTree_p112 {Γ : Cx} {w : Wd} (hw : okX w) (g : Gd Γ cX7_addTree 7 "GatePatch$Patch" (Option.some Jvm.ClassFile.FieldType.int) (rmd 3)) (a2 : Nat) (ha2 : isPl w a2) (self69 : Int → Int → Int → Hp → OR) (hs69 : ∀ (x0 x1 x2 : Int) (h : Hp), Sim Γ w 0 (self69 x0 x1 x2 h) h 69 [(0, vP 56), (1, vI x0), (2, vP a2), (3, vP 67), (4, vI x1), (5, vI x2)] []) (l1 l4 l5 : Int) (s0 : Int) (h : Hp) : Sim Γ w 0 (XX7_addTree_p112 a2 self69 l1 l4 l5 s0 h) h 112 [(0, vP 56), (1, vI l1), (2, vP a2), (3, vP 67), (4, vI l4), (5, vI l5)] [vI s0] := by
  unfold XX7_addTree_p112
  refine S_istore g dX7_addTree_112 (by decide) rfl ?_
  refine S_aload_n (kk := 1) g dX7_addTree_114 rfl rfl ?_
  refine S_getr g dX7_addTree_115 fl_Patch_39 (at_56 hw) rfl (rc_56_14 hw) ?_
  refine S_iload (kk := 6) g dX7_addTree_118 rfl ?_
  refine S_aload_n (kk := 3) g dX7_addTree_120 rfl rfl ?_
  refine S_aload_n (kk := 1) g dX7_addTree_121 rfl rfl ?_
  refine S_getr g dX7_addTree_122 fl_Patch_24 (at_56 hw) rfl (rc_56_9 hw) ?_
  refine S_iload (kk := 6) g dX7_addTree_125 rfl ?_
  refine S_iaload g dX7_addTree_127 (at_61 hw) ?_
  refine S_aload_n (kk := 1) g dX7_addTree_128 rfl rfl ?_
  refine S_aload_n (kk := 1) g dX7_addTree_129 rfl rfl ?_
  refine S_getr g dX7_addTree_130 fl_Patch_27 (at_56 hw) rfl (rc_56_10 hw) ?_
  refine S_iload (kk := 6) g dX7_addTree_133 rfl ?_
  refine S_iaload g dX7_addTree_135 (at_62 hw) ?_
  refine S_callVi (As := [vI (h 62 l5.toNat)]) g dX7_addTree_136 (sX7_wireOf hw _ _) rfl (at_56 hw) rfl im_X7_wireOf se_X7_wireOf cw_X7_wireOf ml_Patch_105 ini_Patch nd_X7_wireOf ⟨by decide, by decide⟩ (Nat.le_of_ble_eq_true rfl) (fun r6 h7 => ?_)
  refine S_aload_n (kk := 1) g dX7_addTree_139 rfl rfl ?_
  refine S_aload_n (kk := 1) g dX7_addTree_140 rfl rfl ?_
  refine S_getr g dX7_addTree_141 fl_Patch_30 (at_56 hw) rfl (rc_56_11 hw) ?_
  refine S_iload (kk := 6) g dX7_addTree_144 rfl ?_
  refine S_iaload g dX7_addTree_146 (at_63 hw) ?_
  refine S_callVi (As := [vI (h7 63 l5.toNat)]) g dX7_addTree_147 (sX7_wireOf hw _ _) rfl (at_56 hw) rfl im_X7_wireOf se_X7_wireOf cw_X7_wireOf ml_Patch_105 ini_Patch nd_X7_wireOf ⟨by decide, by decide⟩ (Nat.le_of_ble_eq_true rfl) (fun r8 h9 => ?_)
  refine S_iconst g dX7_addTree_150 ⟨by decide, by decide⟩ ?_
  refine S_iload (kk := 0) g dX7_addTree_151 rfl ?_
  refine S_callVi (As := [vI (h 61 l5.toNat), vI r6, vI r8, vI (-1), vI s0]) g dX7_addTree_153 (sX8_addGate hw a2 ha2 _ _ _ _ _ _) rfl ha2.1 rfl im_X8_addGate se_X8_addGate cw_X8_addGate ml_Patch_95 ini_Plan nd_X8_addGate ⟨by decide, by decide⟩ (Nat.le_of_ble_eq_true rfl) (fun r10 h11 => ?_)
  refine S_iastore g dX7_addTree_156 (at_66 hw) (fun h12 => ?_)
  refine S_sub g [1, 2, 3, 4, 5, 6] rfl ?_
  exact sX7_addTree_p157 hw g a2 ha2 self69 hs69 _ _ _ _

theorem sX7_addTree_L69 {Γ : Cx} {w : Wd} (hw : okX w) (g : Gd Γ cX7_addTree 7 "GatePatch$Patch" (Option.some Jvm.ClassFile.FieldType.int) (rmd 3)) (a2 : Nat) (ha2 : isPl w a2)  : ∀ (l1 l4 l5 : Int) (h : Hp), Sim Γ w 0 (XX7_addTree_L69 a2 l1 l4 l5 h) h 69 [(0, vP 56), (1, vI l1), (2, vP a2), (3, vP 67), (4, vI l4), (5, vI l5)] [] := by
  refine S_lup3 (fun l1 l4 l5 => [(0, vP 56), (1, vI l1), (2, vP a2), (3, vP 67), (4, vI l4), (5, vI l5)]) (fun self69 hs69 l1 l4 l5 h => ?_) FU
  unfold XX7_addTree_b69
  refine S_iload (kk := 5) g dX7_addTree_69 rfl ?_
  refine S_aload_n (kk := 0) g dX7_addTree_71 rfl rfl ?_
  refine S_geti g dX7_addTree_72 fl_Patch_73 (at_56 hw) (Or.inl rfl) ?_
  refine S_icmp_ge (tgt := 163) g dX7_addTree_75 (by decide) ?_ ?_
  · refine S_aload_n (kk := 0) g dX7_addTree_163 rfl rfl ?_
    refine S_aload_n (kk := 0) g dX7_addTree_164 rfl rfl ?_
    refine S_getr g dX7_addTree_165 fl_Patch_21 (at_56 hw) rfl (rc_56_7 hw) ?_
    refine S_iload_n (kk := 1) g dX7_addTree_168 rfl rfl ?_
    refine S_iaload g dX7_addTree_169 (at_60 hw) ?_
    refine S_callVi (As := [vI (h 60 l1.toNat)]) g dX7_addTree_170 (sX7_wireOf hw _ _) rfl (at_56 hw) rfl im_X7_wireOf se_X7_wireOf cw_X7_wireOf ml_Patch_105 ini_Patch nd_X7_wireOf ⟨by decide, by decide⟩ (Nat.le_of_ble_eq_true rfl) (fun r4 h5 => ?_)
    exact S_ireturn g dX7_addTree_173 rfl
  · refine S_aload_n (kk := 0) g dX7_addTree_78 rfl rfl ?_
    refine S_getr g dX7_addTree_79 fl_Patch_33 (at_56 hw) rfl (rc_56_12 hw) ?_
    refine S_iload (kk := 5) g dX7_addTree_82 rfl ?_
    refine S_iaload g dX7_addTree_84 (at_64 hw) ?_
    refine S_iload_n (kk := 1) g dX7_addTree_85 rfl rfl ?_
    refine S_icmp_ne (tgt := 157) g dX7_addTree_86 (by decide) ?_ ?_
    · exact sX7_addTree_p157 hw g a2 ha2 self69 hs69 _ _ _ _
    · refine S_aload_n (kk := 0) g dX7_addTree_89 rfl rfl ?_
      refine S_geti g dX7_addTree_90 fl_Patch_46 (at_56 hw) (Or.inr rfl) ?_
      refine S_if_eq (tgt := 110) g dX7_addTree_93 (by decide) ?_ ?_
      · refine S_iload (kk := 4) g dX7_addTree_110 rfl ?_
        exact sX7_addTree_p112 hw g a2 ha2 self69 hs69 _ _ _ _ _
      · refine S_aload_n (kk := 3) g dX7_addTree_96 rfl rfl ?_
        refine S_aload_n (kk := 0) g dX7_addTree_97 rfl rfl ?_
        refine S_getr g dX7_addTree_98 fl_Patch_36 (at_56 hw) rfl (rc_56_13 hw) ?_
        refine S_iload (kk := 5) g dX7_addTree_101 rfl ?_
        refine S_iaload g dX7_addTree_103 (at_65 hw) ?_
        refine S_callVi (As := [vI (h 65 l5.toNat)]) g dX7_addTree_104 (sX9_use hw _ _) rfl (at_67 hw) rfl im_X9_use se_X9_use cw_X9_use ml_Patch_99 ini_Spares nd_X9_use ⟨by decide, by decide⟩ (Nat.le_of_ble_eq_true rfl) (fun r13 h14 => ?_)
        refine S_goto (tgt := 112) g dX7_addTree_107 (by decide) ?_
        exact sX7_addTree_p112 hw g a2 ha2 self69 hs69 _ _ _ _ _

theorem sX7_addTree {G : GG} {w : Wd} (hw : okX w) (x0 : Int) (x1 : Nat) (hx1 : isPl w x1) (h : Hp) : SC G w yX7_addTree (Cond.code yX7_addTree cX7_addTree 7 (Option.some Jvm.ClassFile.FieldType.int)) 3 0 [vP 56, vI x0, vP x1, vP 67] (XX7_addTree x0 x1 h) h := by
  refine SC_of (own := "GatePatch$Patch") plain_Patch rfl (Nat.le_of_ble_eq_true rfl) (fun Γ hG g => ?_)
  subst hG
  show Sim Γ w 0 _ h 0 [(0, vP 56), (1, vI x0), (2, vP x1), (3, vP 67)] []
  unfold XX7_addTree
  refine S_aload_n (kk := 2) g dX7_addTree_0 rfl rfl ?_
  refine S_getr g dX7_addTree_1 fl_Patch_90 hx1.1 rfl hx1.2.2.2.2.1 ?_
  refine S_aload_n (kk := 0) g dX7_addTree_4 rfl rfl ?_
  refine S_getr g dX7_addTree_5 fl_Patch_9 (at_56 hw) rfl (rc_56_2 hw) ?_
  refine S_iload_n (kk := 1) g dX7_addTree_8 rfl rfl ?_
  refine S_iaload g dX7_addTree_9 (at_57 hw) ?_
  refine S_iaload g dX7_addTree_10 hx1.2.2.2.2.2.2.2.2 ?_
  refine S_nmI (fun v1 => ?_)
  refine S_istore g dX7_addTree_11 (by decide) rfl ?_
  refine S_aload_n (kk := 1) g dX7_addTree_13 rfl rfl ?_
  refine S_getr g dX7_addTree_14 fl_Patch_21 (at_56 hw) rfl (rc_56_7 hw) ?_
  refine S_iload_n (kk := 2) g dX7_addTree_17 rfl rfl ?_
  refine S_iaload g dX7_addTree_18 (at_60 hw) ?_
  refine S_sipush g dX7_addTree_19 ⟨by decide, by decide⟩ rfl ?_
  refine S_icmp_eq (tgt := 37) g dX7_addTree_22 (by decide) ?_ ?_
  · refine S_sub g [1, 2, 3, 0] rfl ?_
    exact sX7_addTree_p37 hw g x1 hx1 _ _ _
  · refine S_aload_n (kk := 1) g dX7_addTree_25 rfl rfl ?_
    refine S_getr g dX7_addTree_26 fl_Patch_21 (at_56 hw) rfl (rc_56_7 hw) ?_
    refine S_iload_n (kk := 2) g dX7_addTree_29 rfl rfl ?_
    refine S_iaload g dX7_addTree_30 (at_60 hw) ?_
    refine S_sipush g dX7_addTree_31 ⟨by decide, by decide⟩ rfl ?_
    refine S_icmp_ne (tgt := 66) g dX7_addTree_34 (by decide) ?_ ?_
    · refine S_iconst g dX7_addTree_66 ⟨by decide, by decide⟩ ?_
      refine S_istore g dX7_addTree_67 (by decide) rfl ?_
      refine S_sub g [2, 3, 4, 5, 1, 0] rfl ?_
      exact sX7_addTree_L69 hw g x1 hx1 _ _ _ _
    · refine S_sub g [1, 2, 3, 0] rfl ?_
      exact sX7_addTree_p37 hw g x1 hx1 _ _ _

