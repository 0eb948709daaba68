abbrev cX9_start : ByteArray := prog_11_method_2_code
def yX9_start : MethodName := ⟨"GatePatch$Spares", "start", "()V"⟩
abbrev cX9_addSpare : ByteArray := prog_11_method_3_code
def yX9_addSpare : MethodName := ⟨"GatePatch$Spares", "addSpare", "(II)I"⟩
abbrev cX9_distance : ByteArray := prog_11_method_9_code
def yX9_distance : MethodName := ⟨"GatePatch$Spares", "distance", "(II)I"⟩
abbrev cX9_leafLength : ByteArray := prog_11_method_8_code
def yX9_leafLength : MethodName := ⟨"GatePatch$Spares", "leafLength", "(LGatePatch$Patch;II[I)I"⟩
abbrev cX9_lengthOf : ByteArray := prog_11_method_7_code
def yX9_lengthOf : MethodName := ⟨"GatePatch$Spares", "lengthOf", "(LGatePatch$Patch;II[I)I"⟩
abbrev cX9_measure : ByteArray := prog_11_method_6_code
def yX9_measure : MethodName := ⟨"GatePatch$Spares", "measure", "(LGatePatch$Patch;[I)V"⟩
abbrev cX9_leastRest : ByteArray := prog_11_method_10_code
def yX9_leastRest : MethodName := ⟨"GatePatch$Spares", "leastRest", "(II)I"⟩
abbrev cX9_choose : ByteArray := prog_11_method_11_code
def yX9_choose : MethodName := ⟨"GatePatch$Spares", "choose", "(LGatePatch$Patch;)V"⟩
abbrev cX9_settle : ByteArray := prog_11_method_5_code
def yX9_settle : MethodName := ⟨"GatePatch$Spares", "settle", "(LGatePatch$Patch;[I)I"⟩
theorem fp_Spares_24 : FP "GatePatch$Spares" 24 8 0 .int := ⟨R_Spares, T_Spares, 6, ty_Spares, ci_Spares, by decide, mem_t 387 (by decide +kernel) rfl, rfl, rfl⟩
theorem fl_Spares_9 : FL "GatePatch$Spares" 9 8 2 := ⟨R_Spares, T_Spares, 6, ty_Spares, ci_Spares, by decide, mem_t 391 (by decide +kernel) rfl⟩
theorem ml_Spares_78 : Cond.methodLink "GatePatch$Spares" 78 Lib.Math.abs.name ∈ tblG := mem_t 1034 (by decide +kernel) rfl
theorem ma_st_abs : Cond.static Lib.Math.abs.name ∈ tblG := mem_t 1035 (by decide +kernel) rfl
theorem ma_cw_abs : Cond.code Lib.Math.abs.name Lib.Math.abs.code 1 (some .int) ∈ tblG := mem_t 1036 (by decide +kernel) rfl
theorem fl_Spares_72 : FL "GatePatch$Spares" 72 6 5 := ⟨R_Patch, T_Patch, 15, ty_Patch, ci_Patch, by decide, mem_t 326 (by decide +kernel) rfl⟩
theorem fl_Spares_75 : FL "GatePatch$Spares" 75 6 4 := ⟨R_Patch, T_Patch, 15, ty_Patch, ci_Patch, by decide, mem_t 323 (by decide +kernel) rfl⟩
theorem ml_Spares_60 : Cond.methodLink "GatePatch$Spares" 60 yX9_distance ∈ tblG := mem_t 1031 (by decide +kernel) rfl
theorem st_X9_distance : Cond.static yX9_distance ∈ tblG := mem_t 1032 (by decide +kernel) rfl
theorem cw_X9_distance : Cond.code yX9_distance cX9_distance 2 (Option.some Jvm.ClassFile.FieldType.int) ∈ tblG := mem_t 1033 (by decide +kernel) rfl
theorem nd_X9_distance : yX9_distance.cls ≠ "java/lang/invoke/MethodHandle" ∧ yX9_distance.cls ≠ "java/lang/invoke/VarHandle" ∧ (parseMethodDescriptor yX9_distance.desc).map (fun d => d.parameters.length) = some 2 := by decide +kernel
theorem fl_Spares_54 : FL "GatePatch$Spares" 54 6 2 := ⟨R_Patch, T_Patch, 15, ty_Patch, ci_Patch, by decide, mem_t 318 (by decide +kernel) rfl⟩
theorem fl_Spares_57 : FL "GatePatch$Spares" 57 6 12 := ⟨R_Patch, T_Patch, 15, ty_Patch, ci_Patch, by decide, mem_t 344 (by decide +kernel) rfl⟩
theorem fl_Spares_63 : FL "GatePatch$Spares" 63 6 10 := ⟨R_Patch, T_Patch, 15, ty_Patch, ci_Patch, by decide, mem_t 338 (by decide +kernel) rfl⟩
theorem ml_Spares_66 : Cond.methodLink "GatePatch$Spares" 66 yX9_leafLength ∈ tblG := mem_t 1037 (by decide +kernel) rfl
theorem st_X9_leafLength : Cond.static yX9_leafLength ∈ tblG := mem_t 1038 (by decide +kernel) rfl
theorem cw_X9_leafLength : Cond.code yX9_leafLength cX9_leafLength 4 (Option.some Jvm.ClassFile.FieldType.int) ∈ tblG := mem_t 1039 (by decide +kernel) rfl
theorem nd_X9_leafLength : yX9_leafLength.cls ≠ "java/lang/invoke/MethodHandle" ∧ yX9_leafLength.cls ≠ "java/lang/invoke/VarHandle" ∧ (parseMethodDescriptor yX9_leafLength.desc).map (fun d => d.parameters.length) = some 4 := by decide +kernel
theorem fl_Spares_69 : FL "GatePatch$Spares" 69 6 11 := ⟨R_Patch, T_Patch, 15, ty_Patch, ci_Patch, by decide, mem_t 341 (by decide +kernel) rfl⟩
theorem fl_Spares_31 : FL "GatePatch$Spares" 31 6 8 := ⟨R_Patch, T_Patch, 15, ty_Patch, ci_Patch, by decide, mem_t 332 (by decide +kernel) rfl⟩
theorem fl_Spares_49 : FL "GatePatch$Spares" 49 6 9 := ⟨R_Patch, T_Patch, 15, ty_Patch, ci_Patch, by decide, mem_t 335 (by decide +kernel) rfl⟩
theorem fl_Spares_18 : FL "GatePatch$Spares" 18 8 4 := ⟨R_Spares, T_Spares, 6, ty_Spares, ci_Spares, by decide, mem_t 393 (by decide +kernel) rfl⟩
theorem k_Spares_44 : Cond.constant "GatePatch$Spares" 44 (Int32.ofInt 1000000) ∈ tblG := mem_t 1040 (by decide +kernel) rfl
theorem ml_Spares_50 : Cond.methodLink "GatePatch$Spares" 50 yX9_lengthOf ∈ tblG := mem_t 1028 (by decide +kernel) rfl
theorem st_X9_lengthOf : Cond.static yX9_lengthOf ∈ tblG := mem_t 1029 (by decide +kernel) rfl
theorem cw_X9_lengthOf : Cond.code yX9_lengthOf cX9_lengthOf 4 (Option.some Jvm.ClassFile.FieldType.int) ∈ tblG := mem_t 1030 (by decide +kernel) rfl
theorem nd_X9_lengthOf : yX9_lengthOf.cls ≠ "java/lang/invoke/MethodHandle" ∧ yX9_lengthOf.cls ≠ "java/lang/invoke/VarHandle" ∧ (parseMethodDescriptor yX9_lengthOf.desc).map (fun d => d.parameters.length) = some 4 := by decide +kernel
theorem ml_Spares_84 : Cond.methodLink "GatePatch$Spares" 84 yJ6_bitCount_0f7a4 ∈ tblG := mem_t 1045 (by decide +kernel) rfl
theorem st_J6_bitCount_0f7a4 : Cond.static yJ6_bitCount_0f7a4 ∈ tblG := mem_t 1046 (by decide +kernel) rfl
theorem cw_J6_bitCount_0f7a4 : Cond.code yJ6_bitCount_0f7a4 cJ6_bitCount_0f7a4 1 (Option.some Jvm.ClassFile.FieldType.int) ∈ tblG := mem_t 1047 (by decide +kernel) rfl
theorem ini_Int : Cond.initialized "java/lang/Integer" ∈ tblG := mem_t 22 (by decide +kernel) rfl
theorem nd_J6_bitCount_0f7a4 : yJ6_bitCount_0f7a4.cls ≠ "java/lang/invoke/MethodHandle" ∧ yJ6_bitCount_0f7a4.cls ≠ "java/lang/invoke/VarHandle" ∧ (parseMethodDescriptor yJ6_bitCount_0f7a4.desc).map (fun d => d.parameters.length) = some 1 := by decide +kernel
theorem fl_Spares_21 : FL "GatePatch$Spares" 21 8 5 := ⟨R_Spares, T_Spares, 6, ty_Spares, ci_Spares, by decide, mem_t 394 (by decide +kernel) rfl⟩
theorem ml_Spares_89 : Cond.methodLink "GatePatch$Spares" 89 Lib.Math.min.name ∈ tblG := mem_t 1051 (by decide +kernel) rfl
theorem fp_Spares_95 : FP "GatePatch$Spares" 95 6 1 .boolean := ⟨R_Patch, T_Patch, 15, ty_Patch, ci_Patch, by decide, mem_t 315 (by decide +kernel) rfl, rfl, rfl⟩
theorem fl_Spares_92 : FL "GatePatch$Spares" 92 6 13 := ⟨R_Patch, T_Patch, 15, ty_Patch, ci_Patch, by decide, mem_t 347 (by decide +kernel) rfl⟩
theorem ml_Spares_36 : Cond.methodLink "GatePatch$Spares" 36 yX9_measure ∈ tblG := mem_t 1024 (by decide +kernel) rfl
theorem im_X9_measure : Cond.instanceMethod yX9_measure ∈ tblG := mem_t 1026 (by decide +kernel) rfl
theorem se_X9_measure : Cond.selects "GatePatch$Spares" yX9_measure yX9_measure ∈ tblG := mem_s 30 (by decide +kernel) rfl
theorem cw_X9_measure : Cond.code yX9_measure cX9_measure 6 (Option.none : Option Jvm.ClassFile.FieldType) ∈ tblG := mem_t 1027 (by decide +kernel) rfl
theorem nd_X9_measure : yX9_measure.cls ≠ "java/lang/invoke/MethodHandle" ∧ yX9_measure.cls ≠ "java/lang/invoke/VarHandle" ∧ (parseMethodDescriptor yX9_measure.desc).map (fun d => d.parameters.length) = some 2 := by decide +kernel
theorem ml_Spares_45 : Cond.methodLink "GatePatch$Spares" 45 yX9_choose ∈ tblG := mem_t 1052 (by decide +kernel) rfl
theorem im_X9_choose : Cond.instanceMethod yX9_choose ∈ tblG := mem_t 1054 (by decide +kernel) rfl
theorem se_X9_choose : Cond.selects "GatePatch$Spares" yX9_choose yX9_choose ∈ tblG := mem_s 32 (by decide +kernel) rfl
theorem cw_X9_choose : Cond.code yX9_choose cX9_choose 5 (Option.none : Option Jvm.ClassFile.FieldType) ∈ tblG := mem_t 1055 (by decide +kernel) rfl
theorem nd_X9_choose : yX9_choose.cls ≠ "java/lang/invoke/MethodHandle" ∧ yX9_choose.cls ≠ "java/lang/invoke/VarHandle" ∧ (parseMethodDescriptor yX9_choose.desc).map (fun d => d.parameters.length) = some 1 := by decide +kernel
theorem ml_Spares_40 : Cond.methodLink "GatePatch$Spares" 40 yX9_leastRest ∈ tblG := mem_t 1041 (by decide +kernel) rfl
theorem im_X9_leastRest : Cond.instanceMethod yX9_leastRest ∈ tblG := mem_t 1043 (by decide +kernel) rfl
theorem se_X9_leastRest : Cond.selects "GatePatch$Spares" yX9_leastRest yX9_leastRest ∈ tblG := mem_s 31 (by decide +kernel) rfl
theorem cw_X9_leastRest : Cond.code yX9_leastRest cX9_leastRest 6 (Option.some Jvm.ClassFile.FieldType.int) ∈ tblG := mem_t 1044 (by decide +kernel) rfl
theorem nd_X9_leastRest : yX9_leastRest.cls ≠ "java/lang/invoke/MethodHandle" ∧ yX9_leastRest.cls ≠ "java/lang/invoke/VarHandle" ∧ (parseMethodDescriptor yX9_leastRest.desc).map (fun d => d.parameters.length) = some 2 := by decide +kernel
theorem dX9_start_0 : decode cX9_start 0 = .ok (.aload_n 0, 1) := by decide +kernel
theorem dX9_start_1 : decode cX9_start 1 = .ok (.iconst 0, 1) := by decide +kernel
theorem dX9_start_2 : decode cX9_start 2 = .ok (.putfield 24, 3) := by decide +kernel
theorem dX9_start_5 : decode cX9_start 5 = .ok (.aload_n 0, 1) := by decide +kernel
theorem dX9_start_6 : decode cX9_start 6 = .ok (.iconst 0, 1) := by decide +kernel
theorem dX9_start_7 : decode cX9_start 7 = .ok (.putfield 28, 3) := by decide +kernel
theorem dX9_start_10 : decode cX9_start 10 = .ok (.return_, 1) := by decide +kernel
theorem dX9_addSpare_0 : decode cX9_addSpare 0 = .ok (.aload_n 0, 1) := by decide +kernel
theorem dX9_addSpare_1 : decode cX9_addSpare 1 = .ok (.getfield 9, 3) := by decide +kernel
theorem dX9_addSpare_4 : decode cX9_addSpare 4 = .ok (.aload_n 0, 1) := by decide +kernel
theorem dX9_addSpare_5 : decode cX9_addSpare 5 = .ok (.getfield 24, 3) := by decide +kernel
theorem dX9_addSpare_8 : decode cX9_addSpare 8 = .ok (.iload_n 1, 1) := by decide +kernel
theorem dX9_addSpare_9 : decode cX9_addSpare 9 = .ok (.iastore, 1) := by decide +kernel
theorem dX9_addSpare_10 : decode cX9_addSpare 10 = .ok (.aload_n 0, 1) := by decide +kernel
theorem dX9_addSpare_11 : decode cX9_addSpare 11 = .ok (.getfield 15, 3) := by decide +kernel
theorem dX9_addSpare_14 : decode cX9_addSpare 14 = .ok (.aload_n 0, 1) := by decide +kernel
theorem dX9_addSpare_15 : decode cX9_addSpare 15 = .ok (.getfield 24, 3) := by decide +kernel
theorem dX9_addSpare_18 : decode cX9_addSpare 18 = .ok (.iload_n 2, 1) := by decide +kernel
theorem dX9_addSpare_19 : decode cX9_addSpare 19 = .ok (.iastore, 1) := by decide +kernel
theorem dX9_addSpare_20 : decode cX9_addSpare 20 = .ok (.aload_n 0, 1) := by decide +kernel
theorem dX9_addSpare_21 : decode cX9_addSpare 21 = .ok (.dup, 1) := by decide +kernel
theorem dX9_addSpare_22 : decode cX9_addSpare 22 = .ok (.getfield 24, 3) := by decide +kernel
theorem dX9_addSpare_25 : decode cX9_addSpare 25 = .ok (.iconst 1, 1) := by decide +kernel
theorem dX9_addSpare_26 : decode cX9_addSpare 26 = .ok (.iadd, 1) := by decide +kernel
theorem dX9_addSpare_27 : decode cX9_addSpare 27 = .ok (.putfield 24, 3) := by decide +kernel
theorem dX9_addSpare_30 : decode cX9_addSpare 30 = .ok (.aload_n 0, 1) := by decide +kernel
theorem dX9_addSpare_31 : decode cX9_addSpare 31 = .ok (.getfield 24, 3) := by decide +kernel
theorem dX9_addSpare_34 : decode cX9_addSpare 34 = .ok (.iconst 1, 1) := by decide +kernel
theorem dX9_addSpare_35 : decode cX9_addSpare 35 = .ok (.isub, 1) := by decide +kernel
theorem dX9_addSpare_36 : decode cX9_addSpare 36 = .ok (.ireturn, 1) := by decide +kernel
theorem dX9_distance_0 : decode cX9_distance 0 = .ok (.iload_n 0, 1) := by decide +kernel
theorem dX9_distance_1 : decode cX9_distance 1 = .ok (.bipush 32, 2) := by decide +kernel
theorem dX9_distance_3 : decode cX9_distance 3 = .ok (.irem, 1) := by decide +kernel
theorem dX9_distance_4 : decode cX9_distance 4 = .ok (.iload_n 1, 1) := by decide +kernel
theorem dX9_distance_5 : decode cX9_distance 5 = .ok (.bipush 32, 2) := by decide +kernel
theorem dX9_distance_7 : decode cX9_distance 7 = .ok (.irem, 1) := by decide +kernel
theorem dX9_distance_8 : decode cX9_distance 8 = .ok (.isub, 1) := by decide +kernel
theorem dX9_distance_9 : decode cX9_distance 9 = .ok (.invokestatic 78, 3) := by decide +kernel
theorem dX9_distance_12 : decode cX9_distance 12 = .ok (.iload_n 0, 1) := by decide +kernel
theorem dX9_distance_13 : decode cX9_distance 13 = .ok (.bipush 32, 2) := by decide +kernel
theorem dX9_distance_15 : decode cX9_distance 15 = .ok (.idiv, 1) := by decide +kernel
theorem dX9_distance_16 : decode cX9_distance 16 = .ok (.iload_n 1, 1) := by decide +kernel
theorem dX9_distance_17 : decode cX9_distance 17 = .ok (.bipush 32, 2) := by decide +kernel
theorem dX9_distance_19 : decode cX9_distance 19 = .ok (.idiv, 1) := by decide +kernel
theorem dX9_distance_20 : decode cX9_distance 20 = .ok (.isub, 1) := by decide +kernel
theorem dX9_distance_21 : decode cX9_distance 21 = .ok (.invokestatic 78, 3) := by decide +kernel
theorem dX9_distance_24 : decode cX9_distance 24 = .ok (.iadd, 1) := by decide +kernel
theorem dX9_distance_25 : decode cX9_distance 25 = .ok (.ireturn, 1) := by decide +kernel
theorem dX9_leafLength_0 : decode cX9_leafLength 0 = .ok (.iload_n 1, 1) := by decide +kernel
theorem dX9_leafLength_1 : decode cX9_leafLength 1 = .ok (.bipush 100, 2) := by decide +kernel
theorem dX9_leafLength_3 : decode cX9_leafLength 3 = .ok (.if_icmp .lt 14, 3) := by decide +kernel
theorem dX9_leafLength_6 : decode cX9_leafLength 6 = .ok (.iload_n 1, 1) := by decide +kernel
theorem dX9_leafLength_7 : decode cX9_leafLength 7 = .ok (.bipush 100, 2) := by decide +kernel
theorem dX9_leafLength_9 : decode cX9_leafLength 9 = .ok (.aload_n 0, 1) := by decide +kernel
theorem dX9_leafLength_10 : decode cX9_leafLength 10 = .ok (.getfield 72, 3) := by decide +kernel
theorem dX9_leafLength_13 : decode cX9_leafLength 13 = .ok (.iadd, 1) := by decide +kernel
theorem dX9_leafLength_14 : decode cX9_leafLength 14 = .ok (.if_icmp .lt 5, 3) := by decide +kernel
theorem dX9_leafLength_17 : decode cX9_leafLength 17 = .ok (.iconst 0, 1) := by decide +kernel
theorem dX9_leafLength_18 : decode cX9_leafLength 18 = .ok (.ireturn, 1) := by decide +kernel
theorem dX9_leafLength_19 : decode cX9_leafLength 19 = .ok (.iload_n 2, 1) := by decide +kernel
theorem dX9_leafLength_20 : decode cX9_leafLength 20 = .ok (.aload_n 3, 1) := by decide +kernel
theorem dX9_leafLength_21 : decode cX9_leafLength 21 = .ok (.aload_n 0, 1) := by decide +kernel
theorem dX9_leafLength_22 : decode cX9_leafLength 22 = .ok (.getfield 75, 3) := by decide +kernel
theorem dX9_leafLength_25 : decode cX9_leafLength 25 = .ok (.iload_n 1, 1) := by decide +kernel
theorem dX9_leafLength_26 : decode cX9_leafLength 26 = .ok (.bipush 100, 2) := by decide +kernel
theorem dX9_leafLength_28 : decode cX9_leafLength 28 = .ok (.isub, 1) := by decide +kernel
theorem dX9_leafLength_29 : decode cX9_leafLength 29 = .ok (.iaload, 1) := by decide +kernel
theorem dX9_leafLength_30 : decode cX9_leafLength 30 = .ok (.iaload, 1) := by decide +kernel
theorem dX9_leafLength_31 : decode cX9_leafLength 31 = .ok (.invokestatic 60, 3) := by decide +kernel
theorem dX9_leafLength_34 : decode cX9_leafLength 34 = .ok (.ireturn, 1) := by decide +kernel
theorem dX9_lengthOf_0 : decode cX9_lengthOf 0 = .ok (.iload_n 2, 1) := by decide +kernel
theorem dX9_lengthOf_1 : decode cX9_lengthOf 1 = .ok (.aload_n 3, 1) := by decide +kernel
theorem dX9_lengthOf_2 : decode cX9_lengthOf 2 = .ok (.aload_n 0, 1) := by decide +kernel
theorem dX9_lengthOf_3 : decode cX9_lengthOf 3 = .ok (.getfield 54, 3) := by decide +kernel
theorem dX9_lengthOf_6 : decode cX9_lengthOf 6 = .ok (.aload_n 0, 1) := by decide +kernel
theorem dX9_lengthOf_7 : decode cX9_lengthOf 7 = .ok (.getfield 57, 3) := by decide +kernel
theorem dX9_lengthOf_10 : decode cX9_lengthOf 10 = .ok (.iload_n 1, 1) := by decide +kernel
theorem dX9_lengthOf_11 : decode cX9_lengthOf 11 = .ok (.iaload, 1) := by decide +kernel
theorem dX9_lengthOf_12 : decode cX9_lengthOf 12 = .ok (.iaload, 1) := by decide +kernel
theorem dX9_lengthOf_13 : decode cX9_lengthOf 13 = .ok (.iaload, 1) := by decide +kernel
theorem dX9_lengthOf_14 : decode cX9_lengthOf 14 = .ok (.invokestatic 60, 3) := by decide +kernel
theorem dX9_lengthOf_17 : decode cX9_lengthOf 17 = .ok (.aload_n 0, 1) := by decide +kernel
theorem dX9_lengthOf_18 : decode cX9_lengthOf 18 = .ok (.aload_n 0, 1) := by decide +kernel
theorem dX9_lengthOf_19 : decode cX9_lengthOf 19 = .ok (.getfield 63, 3) := by decide +kernel
theorem dX9_lengthOf_22 : decode cX9_lengthOf 22 = .ok (.iload_n 1, 1) := by decide +kernel
theorem dX9_lengthOf_23 : decode cX9_lengthOf 23 = .ok (.iaload, 1) := by decide +kernel
theorem dX9_lengthOf_24 : decode cX9_lengthOf 24 = .ok (.iload_n 2, 1) := by decide +kernel
theorem dX9_lengthOf_25 : decode cX9_lengthOf 25 = .ok (.aload_n 3, 1) := by decide +kernel
theorem dX9_lengthOf_26 : decode cX9_lengthOf 26 = .ok (.invokestatic 66, 3) := by decide +kernel
theorem dX9_lengthOf_29 : decode cX9_lengthOf 29 = .ok (.iadd, 1) := by decide +kernel
theorem dX9_lengthOf_30 : decode cX9_lengthOf 30 = .ok (.aload_n 0, 1) := by decide +kernel
theorem dX9_lengthOf_31 : decode cX9_lengthOf 31 = .ok (.aload_n 0, 1) := by decide +kernel
theorem dX9_lengthOf_32 : decode cX9_lengthOf 32 = .ok (.getfield 69, 3) := by decide +kernel
theorem dX9_lengthOf_35 : decode cX9_lengthOf 35 = .ok (.iload_n 1, 1) := by decide +kernel
theorem dX9_lengthOf_36 : decode cX9_lengthOf 36 = .ok (.iaload, 1) := by decide +kernel
theorem dX9_lengthOf_37 : decode cX9_lengthOf 37 = .ok (.iload_n 2, 1) := by decide +kernel
theorem dX9_lengthOf_38 : decode cX9_lengthOf 38 = .ok (.aload_n 3, 1) := by decide +kernel
theorem dX9_lengthOf_39 : decode cX9_lengthOf 39 = .ok (.invokestatic 66, 3) := by decide +kernel
theorem dX9_lengthOf_42 : decode cX9_lengthOf 42 = .ok (.iadd, 1) := by decide +kernel
theorem dX9_lengthOf_43 : decode cX9_lengthOf 43 = .ok (.ireturn, 1) := by decide +kernel
theorem dX9_measure_0 : decode cX9_measure 0 = .ok (.iconst 0, 1) := by decide +kernel
theorem dX9_measure_1 : decode cX9_measure 1 = .ok (.istore_n 3, 1) := by decide +kernel
theorem dX9_measure_2 : decode cX9_measure 2 = .ok (.iload_n 3, 1) := by decide +kernel
theorem dX9_measure_3 : decode cX9_measure 3 = .ok (.aload_n 1, 1) := by decide +kernel
theorem dX9_measure_4 : decode cX9_measure 4 = .ok (.getfield 31, 3) := by decide +kernel
theorem dX9_measure_7 : decode cX9_measure 7 = .ok (.if_icmp .ge 97, 3) := by decide +kernel
theorem dX9_measure_10 : decode cX9_measure 10 = .ok (.iconst 0, 1) := by decide +kernel
theorem dX9_measure_11 : decode cX9_measure 11 = .ok (.istore 4, 2) := by decide +kernel
theorem dX9_measure_13 : decode cX9_measure 13 = .ok (.iload 4, 2) := by decide +kernel
theorem dX9_measure_15 : decode cX9_measure 15 = .ok (.aload_n 0, 1) := by decide +kernel
theorem dX9_measure_16 : decode cX9_measure 16 = .ok (.getfield 24, 3) := by decide +kernel
theorem dX9_measure_19 : decode cX9_measure 19 = .ok (.if_icmp .ge 79, 3) := by decide +kernel
theorem dX9_measure_22 : decode cX9_measure 22 = .ok (.aload_n 0, 1) := by decide +kernel
theorem dX9_measure_23 : decode cX9_measure 23 = .ok (.getfield 9, 3) := by decide +kernel
theorem dX9_measure_26 : decode cX9_measure 26 = .ok (.iload 4, 2) := by decide +kernel
theorem dX9_measure_28 : decode cX9_measure 28 = .ok (.iaload, 1) := by decide +kernel
theorem dX9_measure_29 : decode cX9_measure 29 = .ok (.aload_n 1, 1) := by decide +kernel
theorem dX9_measure_30 : decode cX9_measure 30 = .ok (.getfield 49, 3) := by decide +kernel
theorem dX9_measure_33 : decode cX9_measure 33 = .ok (.iload_n 3, 1) := by decide +kernel
theorem dX9_measure_34 : decode cX9_measure 34 = .ok (.iaload, 1) := by decide +kernel
theorem dX9_measure_35 : decode cX9_measure 35 = .ok (.if_icmp .ne 19, 3) := by decide +kernel
theorem dX9_measure_38 : decode cX9_measure 38 = .ok (.aload_n 0, 1) := by decide +kernel
theorem dX9_measure_39 : decode cX9_measure 39 = .ok (.getfield 28, 3) := by decide +kernel
theorem dX9_measure_42 : decode cX9_measure 42 = .ok (.iload 4, 2) := by decide +kernel
theorem dX9_measure_44 : decode cX9_measure 44 = .ok (.ishr, 1) := by decide +kernel
theorem dX9_measure_45 : decode cX9_measure 45 = .ok (.iconst 1, 1) := by decide +kernel
theorem dX9_measure_46 : decode cX9_measure 46 = .ok (.iand, 1) := by decide +kernel
theorem dX9_measure_47 : decode cX9_measure 47 = .ok (.ifCond .ne 7, 3) := by decide +kernel
theorem dX9_measure_50 : decode cX9_measure 50 = .ok (.iconst 1, 1) := by decide +kernel
theorem dX9_measure_51 : decode cX9_measure 51 = .ok (.goto 4, 3) := by decide +kernel
theorem dX9_measure_54 : decode cX9_measure 54 = .ok (.iconst 0, 1) := by decide +kernel
theorem dX9_measure_55 : decode cX9_measure 55 = .ok (.istore 5, 2) := by decide +kernel
theorem dX9_measure_57 : decode cX9_measure 57 = .ok (.aload_n 0, 1) := by decide +kernel
theorem dX9_measure_58 : decode cX9_measure 58 = .ok (.getfield 18, 3) := by decide +kernel
theorem dX9_measure_61 : decode cX9_measure 61 = .ok (.bipush 12, 2) := by decide +kernel
theorem dX9_measure_63 : decode cX9_measure 63 = .ok (.iload_n 3, 1) := by decide +kernel
theorem dX9_measure_64 : decode cX9_measure 64 = .ok (.imul, 1) := by decide +kernel
theorem dX9_measure_65 : decode cX9_measure 65 = .ok (.iload 4, 2) := by decide +kernel
theorem dX9_measure_67 : decode cX9_measure 67 = .ok (.iadd, 1) := by decide +kernel
theorem dX9_measure_68 : decode cX9_measure 68 = .ok (.iload 5, 2) := by decide +kernel
theorem dX9_measure_70 : decode cX9_measure 70 = .ok (.ifCond .eq 19, 3) := by decide +kernel
theorem dX9_measure_73 : decode cX9_measure 73 = .ok (.aload_n 1, 1) := by decide +kernel
theorem dX9_measure_74 : decode cX9_measure 74 = .ok (.iload_n 3, 1) := by decide +kernel
theorem dX9_measure_75 : decode cX9_measure 75 = .ok (.aload_n 0, 1) := by decide +kernel
theorem dX9_measure_76 : decode cX9_measure 76 = .ok (.getfield 15, 3) := by decide +kernel
theorem dX9_measure_79 : decode cX9_measure 79 = .ok (.iload 4, 2) := by decide +kernel
theorem dX9_measure_81 : decode cX9_measure 81 = .ok (.iaload, 1) := by decide +kernel
theorem dX9_measure_82 : decode cX9_measure 82 = .ok (.aload_n 2, 1) := by decide +kernel
theorem dX9_measure_83 : decode cX9_measure 83 = .ok (.invokestatic 50, 3) := by decide +kernel
theorem dX9_measure_86 : decode cX9_measure 86 = .ok (.goto 5, 3) := by decide +kernel
theorem dX9_measure_89 : decode cX9_measure 89 = .ok (.ldc 44, 2) := by decide +kernel
theorem dX9_measure_91 : decode cX9_measure 91 = .ok (.iastore, 1) := by decide +kernel
theorem dX9_measure_92 : decode cX9_measure 92 = .ok (.iinc 4 1, 3) := by decide +kernel
theorem dX9_measure_95 : decode cX9_measure 95 = .ok (.goto (-82), 3) := by decide +kernel
theorem dX9_measure_98 : decode cX9_measure 98 = .ok (.iinc 3 1, 3) := by decide +kernel
theorem dX9_measure_101 : decode cX9_measure 101 = .ok (.goto (-99), 3) := by decide +kernel
theorem dX9_measure_104 : decode cX9_measure 104 = .ok (.return_, 1) := by decide +kernel
theorem dX9_leastRest_0 : decode cX9_leastRest 0 = .ok (.iload_n 1, 1) := by decide +kernel
theorem dX9_leastRest_1 : decode cX9_leastRest 1 = .ok (.invokestatic 84, 3) := by decide +kernel
theorem dX9_leastRest_4 : decode cX9_leastRest 4 = .ok (.istore_n 3, 1) := by decide +kernel
theorem dX9_leastRest_5 : decode cX9_leastRest 5 = .ok (.iload_n 3, 1) := by decide +kernel
theorem dX9_leastRest_6 : decode cX9_leastRest 6 = .ok (.iload_n 2, 1) := by decide +kernel
theorem dX9_leastRest_7 : decode cX9_leastRest 7 = .ok (.if_icmp .lt 5, 3) := by decide +kernel
theorem dX9_leastRest_10 : decode cX9_leastRest 10 = .ok (.iconst 0, 1) := by decide +kernel
theorem dX9_leastRest_11 : decode cX9_leastRest 11 = .ok (.ireturn, 1) := by decide +kernel
theorem dX9_leastRest_12 : decode cX9_leastRest 12 = .ok (.ldc 44, 2) := by decide +kernel
theorem dX9_leastRest_14 : decode cX9_leastRest 14 = .ok (.istore 4, 2) := by decide +kernel
theorem dX9_leastRest_16 : decode cX9_leastRest 16 = .ok (.iconst 0, 1) := by decide +kernel
theorem dX9_leastRest_17 : decode cX9_leastRest 17 = .ok (.istore 5, 2) := by decide +kernel
theorem dX9_leastRest_19 : decode cX9_leastRest 19 = .ok (.iload 5, 2) := by decide +kernel
theorem dX9_leastRest_21 : decode cX9_leastRest 21 = .ok (.aload_n 0, 1) := by decide +kernel
theorem dX9_leastRest_22 : decode cX9_leastRest 22 = .ok (.getfield 24, 3) := by decide +kernel
theorem dX9_leastRest_25 : decode cX9_leastRest 25 = .ok (.if_icmp .ge 49, 3) := by decide +kernel
theorem dX9_leastRest_28 : decode cX9_leastRest 28 = .ok (.iload_n 1, 1) := by decide +kernel
theorem dX9_leastRest_29 : decode cX9_leastRest 29 = .ok (.iload 5, 2) := by decide +kernel
theorem dX9_leastRest_31 : decode cX9_leastRest 31 = .ok (.ishr, 1) := by decide +kernel
theorem dX9_leastRest_32 : decode cX9_leastRest 32 = .ok (.iconst 1, 1) := by decide +kernel
theorem dX9_leastRest_33 : decode cX9_leastRest 33 = .ok (.iand, 1) := by decide +kernel
theorem dX9_leastRest_34 : decode cX9_leastRest 34 = .ok (.ifCond .ne 34, 3) := by decide +kernel
theorem dX9_leastRest_37 : decode cX9_leastRest 37 = .ok (.iload 4, 2) := by decide +kernel
theorem dX9_leastRest_39 : decode cX9_leastRest 39 = .ok (.aload_n 0, 1) := by decide +kernel
theorem dX9_leastRest_40 : decode cX9_leastRest 40 = .ok (.getfield 18, 3) := by decide +kernel
theorem dX9_leastRest_43 : decode cX9_leastRest 43 = .ok (.bipush 12, 2) := by decide +kernel
theorem dX9_leastRest_45 : decode cX9_leastRest 45 = .ok (.iload_n 3, 1) := by decide +kernel
theorem dX9_leastRest_46 : decode cX9_leastRest 46 = .ok (.imul, 1) := by decide +kernel
theorem dX9_leastRest_47 : decode cX9_leastRest 47 = .ok (.iload 5, 2) := by decide +kernel
theorem dX9_leastRest_49 : decode cX9_leastRest 49 = .ok (.iadd, 1) := by decide +kernel
theorem dX9_leastRest_50 : decode cX9_leastRest 50 = .ok (.iaload, 1) := by decide +kernel
theorem dX9_leastRest_51 : decode cX9_leastRest 51 = .ok (.aload_n 0, 1) := by decide +kernel
theorem dX9_leastRest_52 : decode cX9_leastRest 52 = .ok (.getfield 21, 3) := by decide +kernel
theorem dX9_leastRest_55 : decode cX9_leastRest 55 = .ok (.iload_n 1, 1) := by decide +kernel
theorem dX9_leastRest_56 : decode cX9_leastRest 56 = .ok (.iconst 1, 1) := by decide +kernel
theorem dX9_leastRest_57 : decode cX9_leastRest 57 = .ok (.iload 5, 2) := by decide +kernel
theorem dX9_leastRest_59 : decode cX9_leastRest 59 = .ok (.ishl, 1) := by decide +kernel
theorem dX9_leastRest_60 : decode cX9_leastRest 60 = .ok (.ior, 1) := by decide +kernel
theorem dX9_leastRest_61 : decode cX9_leastRest 61 = .ok (.iaload, 1) := by decide +kernel
theorem dX9_leastRest_62 : decode cX9_leastRest 62 = .ok (.iadd, 1) := by decide +kernel
theorem dX9_leastRest_63 : decode cX9_leastRest 63 = .ok (.invokestatic 89, 3) := by decide +kernel
theorem dX9_leastRest_66 : decode cX9_leastRest 66 = .ok (.istore 4, 2) := by decide +kernel
theorem dX9_leastRest_68 : decode cX9_leastRest 68 = .ok (.iinc 5 1, 3) := by decide +kernel
theorem dX9_leastRest_71 : decode cX9_leastRest 71 = .ok (.goto (-52), 3) := by decide +kernel
theorem dX9_leastRest_74 : decode cX9_leastRest 74 = .ok (.iload 4, 2) := by decide +kernel
theorem dX9_leastRest_76 : decode cX9_leastRest 76 = .ok (.ireturn, 1) := by decide +kernel
theorem dX9_choose_0 : decode cX9_choose 0 = .ok (.iconst 0, 1) := by decide +kernel
theorem dX9_choose_1 : decode cX9_choose 1 = .ok (.istore_n 2, 1) := by decide +kernel
theorem dX9_choose_2 : decode cX9_choose 2 = .ok (.iconst 0, 1) := by decide +kernel
theorem dX9_choose_3 : decode cX9_choose 3 = .ok (.istore_n 3, 1) := by decide +kernel
theorem dX9_choose_4 : decode cX9_choose 4 = .ok (.iload_n 3, 1) := by decide +kernel
theorem dX9_choose_5 : decode cX9_choose 5 = .ok (.aload_n 1, 1) := by decide +kernel
theorem dX9_choose_6 : decode cX9_choose 6 = .ok (.getfield 31, 3) := by decide +kernel
theorem dX9_choose_9 : decode cX9_choose 9 = .ok (.if_icmp .ge 87, 3) := by decide +kernel
theorem dX9_choose_12 : decode cX9_choose 12 = .ok (.iconst 0, 1) := by decide +kernel
theorem dX9_choose_13 : decode cX9_choose 13 = .ok (.istore 4, 2) := by decide +kernel
theorem dX9_choose_15 : decode cX9_choose 15 = .ok (.iload 4, 2) := by decide +kernel
theorem dX9_choose_17 : decode cX9_choose 17 = .ok (.aload_n 0, 1) := by decide +kernel
theorem dX9_choose_18 : decode cX9_choose 18 = .ok (.getfield 24, 3) := by decide +kernel
theorem dX9_choose_21 : decode cX9_choose 21 = .ok (.if_icmp .ge 69, 3) := by decide +kernel
theorem dX9_choose_24 : decode cX9_choose 24 = .ok (.iload_n 2, 1) := by decide +kernel
theorem dX9_choose_25 : decode cX9_choose 25 = .ok (.iload 4, 2) := by decide +kernel
theorem dX9_choose_27 : decode cX9_choose 27 = .ok (.ishr, 1) := by decide +kernel
theorem dX9_choose_28 : decode cX9_choose 28 = .ok (.iconst 1, 1) := by decide +kernel
theorem dX9_choose_29 : decode cX9_choose 29 = .ok (.iand, 1) := by decide +kernel
theorem dX9_choose_30 : decode cX9_choose 30 = .ok (.ifCond .ne 54, 3) := by decide +kernel
theorem dX9_choose_33 : decode cX9_choose 33 = .ok (.aload_n 0, 1) := by decide +kernel
theorem dX9_choose_34 : decode cX9_choose 34 = .ok (.getfield 18, 3) := by decide +kernel
theorem dX9_choose_37 : decode cX9_choose 37 = .ok (.bipush 12, 2) := by decide +kernel
theorem dX9_choose_39 : decode cX9_choose 39 = .ok (.iload_n 3, 1) := by decide +kernel
theorem dX9_choose_40 : decode cX9_choose 40 = .ok (.imul, 1) := by decide +kernel
theorem dX9_choose_41 : decode cX9_choose 41 = .ok (.iload 4, 2) := by decide +kernel
theorem dX9_choose_43 : decode cX9_choose 43 = .ok (.iadd, 1) := by decide +kernel
theorem dX9_choose_44 : decode cX9_choose 44 = .ok (.iaload, 1) := by decide +kernel
theorem dX9_choose_45 : decode cX9_choose 45 = .ok (.aload_n 0, 1) := by decide +kernel
theorem dX9_choose_46 : decode cX9_choose 46 = .ok (.getfield 21, 3) := by decide +kernel
theorem dX9_choose_49 : decode cX9_choose 49 = .ok (.iload_n 2, 1) := by decide +kernel
theorem dX9_choose_50 : decode cX9_choose 50 = .ok (.iconst 1, 1) := by decide +kernel
theorem dX9_choose_51 : decode cX9_choose 51 = .ok (.iload 4, 2) := by decide +kernel
theorem dX9_choose_53 : decode cX9_choose 53 = .ok (.ishl, 1) := by decide +kernel
theorem dX9_choose_54 : decode cX9_choose 54 = .ok (.ior, 1) := by decide +kernel
theorem dX9_choose_55 : decode cX9_choose 55 = .ok (.iaload, 1) := by decide +kernel
theorem dX9_choose_56 : decode cX9_choose 56 = .ok (.iadd, 1) := by decide +kernel
theorem dX9_choose_57 : decode cX9_choose 57 = .ok (.aload_n 0, 1) := by decide +kernel
theorem dX9_choose_58 : decode cX9_choose 58 = .ok (.getfield 21, 3) := by decide +kernel
theorem dX9_choose_61 : decode cX9_choose 61 = .ok (.iload_n 2, 1) := by decide +kernel
theorem dX9_choose_62 : decode cX9_choose 62 = .ok (.iaload, 1) := by decide +kernel
theorem dX9_choose_63 : decode cX9_choose 63 = .ok (.if_icmp .ne 21, 3) := by decide +kernel
theorem dX9_choose_66 : decode cX9_choose 66 = .ok (.aload_n 1, 1) := by decide +kernel
theorem dX9_choose_67 : decode cX9_choose 67 = .ok (.getfield 92, 3) := by decide +kernel
theorem dX9_choose_70 : decode cX9_choose 70 = .ok (.iload_n 3, 1) := by decide +kernel
theorem dX9_choose_71 : decode cX9_choose 71 = .ok (.iload 4, 2) := by decide +kernel
theorem dX9_choose_73 : decode cX9_choose 73 = .ok (.iastore, 1) := by decide +kernel
theorem dX9_choose_74 : decode cX9_choose 74 = .ok (.iload_n 2, 1) := by decide +kernel
theorem dX9_choose_75 : decode cX9_choose 75 = .ok (.iconst 1, 1) := by decide +kernel
theorem dX9_choose_76 : decode cX9_choose 76 = .ok (.iload 4, 2) := by decide +kernel
theorem dX9_choose_78 : decode cX9_choose 78 = .ok (.ishl, 1) := by decide +kernel
theorem dX9_choose_79 : decode cX9_choose 79 = .ok (.ior, 1) := by decide +kernel
theorem dX9_choose_80 : decode cX9_choose 80 = .ok (.istore_n 2, 1) := by decide +kernel
theorem dX9_choose_81 : decode cX9_choose 81 = .ok (.goto 9, 3) := by decide +kernel
theorem dX9_choose_84 : decode cX9_choose 84 = .ok (.iinc 4 1, 3) := by decide +kernel
theorem dX9_choose_87 : decode cX9_choose 87 = .ok (.goto (-72), 3) := by decide +kernel
theorem dX9_choose_90 : decode cX9_choose 90 = .ok (.iinc 3 1, 3) := by decide +kernel
theorem dX9_choose_93 : decode cX9_choose 93 = .ok (.goto (-89), 3) := by decide +kernel
theorem dX9_choose_96 : decode cX9_choose 96 = .ok (.aload_n 1, 1) := by decide +kernel
theorem dX9_choose_97 : decode cX9_choose 97 = .ok (.iconst 1, 1) := by decide +kernel
theorem dX9_choose_98 : decode cX9_choose 98 = .ok (.putfield 95, 3) := by decide +kernel
theorem dX9_choose_101 : decode cX9_choose 101 = .ok (.return_, 1) := by decide +kernel
theorem dX9_settle_0 : decode cX9_settle 0 = .ok (.aload_n 1, 1) := by decide +kernel
theorem dX9_settle_1 : decode cX9_settle 1 = .ok (.getfield 31, 3) := by decide +kernel
theorem dX9_settle_4 : decode cX9_settle 4 = .ok (.aload_n 0, 1) := by decide +kernel
theorem dX9_settle_5 : decode cX9_settle 5 = .ok (.getfield 24, 3) := by decide +kernel
theorem dX9_settle_8 : decode cX9_settle 8 = .ok (.if_icmp .le 6, 3) := by decide +kernel
theorem dX9_settle_11 : decode cX9_settle 11 = .ok (.bipush (-5), 2) := by decide +kernel
theorem dX9_settle_13 : decode cX9_settle 13 = .ok (.ireturn, 1) := by decide +kernel
theorem dX9_settle_14 : decode cX9_settle 14 = .ok (.aload_n 0, 1) := by decide +kernel
theorem dX9_settle_15 : decode cX9_settle 15 = .ok (.aload_n 1, 1) := by decide +kernel
theorem dX9_settle_16 : decode cX9_settle 16 = .ok (.aload_n 2, 1) := by decide +kernel
theorem dX9_settle_17 : decode cX9_settle 17 = .ok (.invokevirtual 36, 3) := by decide +kernel
theorem dX9_settle_20 : decode cX9_settle 20 = .ok (.iconst 1, 1) := by decide +kernel
theorem dX9_settle_21 : decode cX9_settle 21 = .ok (.aload_n 0, 1) := by decide +kernel
theorem dX9_settle_22 : decode cX9_settle 22 = .ok (.getfield 24, 3) := by decide +kernel
theorem dX9_settle_25 : decode cX9_settle 25 = .ok (.ishl, 1) := by decide +kernel
theorem dX9_settle_26 : decode cX9_settle 26 = .ok (.iconst 1, 1) := by decide +kernel
theorem dX9_settle_27 : decode cX9_settle 27 = .ok (.isub, 1) := by decide +kernel
theorem dX9_settle_28 : decode cX9_settle 28 = .ok (.istore_n 3, 1) := by decide +kernel
theorem dX9_settle_29 : decode cX9_settle 29 = .ok (.iload_n 3, 1) := by decide +kernel
theorem dX9_settle_30 : decode cX9_settle 30 = .ok (.ifCond .lt 24, 3) := by decide +kernel
theorem dX9_settle_33 : decode cX9_settle 33 = .ok (.aload_n 0, 1) := by decide +kernel
theorem dX9_settle_34 : decode cX9_settle 34 = .ok (.getfield 21, 3) := by decide +kernel
theorem dX9_settle_37 : decode cX9_settle 37 = .ok (.iload_n 3, 1) := by decide +kernel
theorem dX9_settle_38 : decode cX9_settle 38 = .ok (.aload_n 0, 1) := by decide +kernel
theorem dX9_settle_39 : decode cX9_settle 39 = .ok (.iload_n 3, 1) := by decide +kernel
theorem dX9_settle_40 : decode cX9_settle 40 = .ok (.aload_n 1, 1) := by decide +kernel
theorem dX9_settle_41 : decode cX9_settle 41 = .ok (.getfield 31, 3) := by decide +kernel
theorem dX9_settle_44 : decode cX9_settle 44 = .ok (.invokevirtual 40, 3) := by decide +kernel
theorem dX9_settle_47 : decode cX9_settle 47 = .ok (.iastore, 1) := by decide +kernel
theorem dX9_settle_48 : decode cX9_settle 48 = .ok (.iinc 3 (-1), 3) := by decide +kernel
theorem dX9_settle_51 : decode cX9_settle 51 = .ok (.goto (-22), 3) := by decide +kernel
theorem dX9_settle_54 : decode cX9_settle 54 = .ok (.aload_n 0, 1) := by decide +kernel
theorem dX9_settle_55 : decode cX9_settle 55 = .ok (.getfield 21, 3) := by decide +kernel
theorem dX9_settle_58 : decode cX9_settle 58 = .ok (.iconst 0, 1) := by decide +kernel
theorem dX9_settle_59 : decode cX9_settle 59 = .ok (.iaload, 1) := by decide +kernel
theorem dX9_settle_60 : decode cX9_settle 60 = .ok (.ldc 44, 2) := by decide +kernel
theorem dX9_settle_62 : decode cX9_settle 62 = .ok (.if_icmp .lt 6, 3) := by decide +kernel
theorem dX9_settle_65 : decode cX9_settle 65 = .ok (.bipush (-5), 2) := by decide +kernel
theorem dX9_settle_67 : decode cX9_settle 67 = .ok (.ireturn, 1) := by decide +kernel
theorem dX9_settle_68 : decode cX9_settle 68 = .ok (.aload_n 0, 1) := by decide +kernel
theorem dX9_settle_69 : decode cX9_settle 69 = .ok (.aload_n 1, 1) := by decide +kernel
theorem dX9_settle_70 : decode cX9_settle 70 = .ok (.invokevirtual 45, 3) := by decide +kernel
theorem dX9_settle_73 : decode cX9_settle 73 = .ok (.aload_n 0, 1) := by decide +kernel
theorem dX9_settle_74 : decode cX9_settle 74 = .ok (.getfield 21, 3) := by decide +kernel
theorem dX9_settle_77 : decode cX9_settle 77 = .ok (.iconst 0, 1) := by decide +kernel
theorem dX9_settle_78 : decode cX9_settle 78 = .ok (.iaload, 1) := by decide +kernel
theorem dX9_settle_79 : decode cX9_settle 79 = .ok (.ireturn, 1) := by decide +kernel
def XX9_start  (h : Hp) : OR :=
  hm (wr h 67 0 0) (fun h1 => hm (wr h1 67 1 0) (fun h2 => some (0, h2)))
theorem sX9_start {G : GG} {w : Wd} (hw : okX0 w)  (h : Hp) : SC G w yX9_start (Cond.code yX9_start cX9_start 1 (Option.none : Option Jvm.ClassFile.FieldType)) 1 3 [vP 67] (XX9_start  h) h := by
  refine SC_of (own := "GatePatch$Spares") plain_Spares rfl (Nat.le_of_ble_eq_true rfl) (fun Γ hG g => ?_)
  subst hG
  show Sim Γ w 3 _ h 0 [(0, vP 67)] []
  unfold XX9_start
  refine S_aload_n (kk := 0) g dX9_start_0 rfl rfl ?_
  refine S_iconst g dX9_start_1 ⟨by decide, by decide⟩ ?_
  refine S_puti g dX9_start_2 fp_Spares_24 (at0_67 hw) rfl (fun h1 => ?_)
  refine S_aload_n (kk := 0) g dX9_start_5 rfl rfl ?_
  refine S_iconst g dX9_start_6 ⟨by decide, by decide⟩ ?_
  refine S_puti g dX9_start_7 fp_Spares_28 (at0_67 hw) rfl (fun h2 => ?_)
  exact S_return g dX9_start_10 rfl

def XX9_addSpare (x0 : Int) (x1 : Int) (h : Hp) : OR :=
  inb (h 67 0) 12 (hm (wr h 68 (h 67 0).toNat x0) (fun h1 => inb (h1 67 0) 12 (hm (wr h1 69 (h1 67 0).toNat x1) (fun h2 => chk ((h2 67 0) + 1) (hm (wr h2 67 0 ((h2 67 0) + 1)) (fun h3 => chk ((h3 67 0) - 1) (some (((h3 67 0) - 1), h3))))))))
theorem sX9_addSpare {G : GG} {w : Wd} (hw : okX w) (x0 : Int) (x1 : Int) (h : Hp) : SC G w yX9_addSpare (Cond.code yX9_addSpare cX9_addSpare 3 (Option.some Jvm.ClassFile.FieldType.int)) 1 0 [vP 67, vI x0, vI x1] (XX9_addSpare x0 x1 h) h := by
  refine SC_of (own := "GatePatch$Spares") plain_Spares rfl (Nat.le_of_ble_eq_true rfl) (fun Γ hG g => ?_)
  subst hG
  show Sim Γ w 0 _ h 0 [(0, vP 67), (1, vI x0), (2, vI x1)] []
  unfold XX9_addSpare
  refine S_aload_n (kk := 0) g dX9_addSpare_0 rfl rfl ?_
  refine S_getr g dX9_addSpare_1 fl_Spares_9 (at_67 hw) rfl (rc_67_2 hw) ?_
  refine S_aload_n (kk := 0) g dX9_addSpare_4 rfl rfl ?_
  refine S_geti g dX9_addSpare_5 fl_Spares_24 (at_67 hw) (Or.inl rfl) ?_
  refine S_iload_n (kk := 1) g dX9_addSpare_8 rfl rfl ?_
  refine S_iastore g dX9_addSpare_9 (at_68 hw) (fun h1 => ?_)
  refine S_aload_n (kk := 0) g dX9_addSpare_10 rfl rfl ?_
  refine S_getr g dX9_addSpare_11 fl_Spares_15 (at_67 hw) rfl (rc_67_3 hw) ?_
  refine S_aload_n (kk := 0) g dX9_addSpare_14 rfl rfl ?_
  refine S_geti g dX9_addSpare_15 fl_Spares_24 (at_67 hw) (Or.inl rfl) ?_
  refine S_iload_n (kk := 2) g dX9_addSpare_18 rfl rfl ?_
  refine S_iastore g dX9_addSpare_19 (at_69 hw) (fun h2 => ?_)
  refine S_aload_n (kk := 0) g dX9_addSpare_20 rfl rfl ?_
  refine S_dup g dX9_addSpare_21 rfl ?_
  refine S_geti g dX9_addSpare_22 fl_Spares_24 (at_67 hw) (Or.inl rfl) ?_
  refine S_iconst g dX9_addSpare_25 ⟨by decide, by decide⟩ ?_
  refine S_iadd g dX9_addSpare_26 ?_
  refine S_puti g dX9_addSpare_27 fp_Spares_24 (at_67 hw) rfl (fun h3 => ?_)
  refine S_aload_n (kk := 0) g dX9_addSpare_30 rfl rfl ?_
  refine S_geti g dX9_addSpare_31 fl_Spares_24 (at_67 hw) (Or.inl rfl) ?_
  refine S_iconst g dX9_addSpare_34 ⟨by decide, by decide⟩ ?_
  refine S_isub g dX9_addSpare_35 ?_
  exact S_ireturn g dX9_addSpare_36 rfl

def XX9_distance (x0 : Int) (x1 : Int) (h : Hp) : OR :=
  chk (x0 - x0.tdiv 32 * 32) (chk (x1 - x1.tdiv 32 * 32) (chk ((x0 - x0.tdiv 32 * 32) - (x1 - x1.tdiv 32 * 32)) (chk (iabs ((x0 - x0.tdiv 32 * 32) - (x1 - x1.tdiv 32 * 32))) (chk (x0.tdiv 32) (chk (x1.tdiv 32) (chk ((x0.tdiv 32) - (x1.tdiv 32)) (chk (iabs ((x0.tdiv 32) - (x1.tdiv 32))) (chk ((iabs ((x0 - x0.tdiv 32 * 32) - (x1 - x1.tdiv 32 * 32))) + (iabs ((x0.tdiv 32) - (x1.tdiv 32)))) (some (((iabs ((x0 - x0.tdiv 32 * 32) - (x1 - x1.tdiv 32 * 32))) + (iabs ((x0.tdiv 32) - (x1.tdiv 32)))), h))))))))))
theorem sX9_distance {G : GG} {w : Wd} (hw : okX w) (x0 : Int) (x1 : Int) (h : Hp) : SC G w yX9_distance (Cond.code yX9_distance cX9_distance 2 (Option.some Jvm.ClassFile.FieldType.int)) 1 0 [vI x0, vI x1] (XX9_distance x0 x1 h) h := by
  refine SC_of (own := "GatePatch$Spares") plain_Spares rfl (Nat.le_of_ble_eq_true rfl) (fun Γ hG g => ?_)
  subst hG
  show Sim Γ w 0 _ h 0 [(0, vI x0), (1, vI x1)] []
  unfold XX9_distance
  refine S_iload_n (kk := 0) g dX9_distance_0 rfl rfl ?_
  refine S_bipush g dX9_distance_1 ⟨by decide, by decide⟩ rfl ?_
  refine S_irem g dX9_distance_3 (by decide) ?_
  refine S_iload_n (kk := 1) g dX9_distance_4 rfl rfl ?_
  refine S_bipush g dX9_distance_5 ⟨by decide, by decide⟩ rfl ?_
  refine S_irem g dX9_distance_7 (by decide) ?_
  refine S_isub g dX9_distance_8 ?_
  refine S_mabs g dX9_distance_9 ml_Spares_78 ma_st_abs ini_Math ma_cw_abs (by decide) (Nat.le_of_ble_eq_true rfl) ?_
  refine S_iload_n (kk := 0) g dX9_distance_12 rfl rfl ?_
  refine S_bipush g dX9_distance_13 ⟨by decide, by decide⟩ rfl ?_
  refine S_idiv g dX9_distance_15 (by decide) ?_
  refine S_iload_n (kk := 1) g dX9_distance_16 rfl rfl ?_
  refine S_bipush g dX9_distance_17 ⟨by decide, by decide⟩ rfl ?_
  refine S_idiv g dX9_distance_19 (by decide) ?_
  refine S_isub g dX9_distance_20 ?_
  refine S_mabs g dX9_distance_21 ml_Spares_78 ma_st_abs ini_Math ma_cw_abs (by decide) (Nat.le_of_ble_eq_true rfl) ?_
  refine S_iadd g dX9_distance_24 ?_
  exact S_ireturn g dX9_distance_25 rfl

def XX9_leafLength (x1 : Int) (x2 : Int) (x3 : Nat) (h : Hp) : OR :=
  if x1 < 100 then some (0, h) else chk (100 + (h 56 5)) (if x1 < (100 + (h 56 5)) then chk (x1 - 100) (inb (x1 - 100) 3 (inb (h 58 (x1 - 100).toNat) 48 (cal (XX9_distance x2 (h x3 (h 58 (x1 - 100).toNat).toNat) h) (fun r1 h2 => some (r1, h2))))) else some (0, h))
theorem sX9_leafLength {G : GG} {w : Wd} (hw : okX w) (x1 : Int) (x2 : Int) (x3 : Nat) (hx3 : At w x3 (2, 0, 48)) (h : Hp) : SC G w yX9_leafLength (Cond.code yX9_leafLength cX9_leafLength 4 (Option.some Jvm.ClassFile.FieldType.int)) 2 0 [vP 56, vI x1, vI x2, vP x3] (XX9_leafLength x1 x2 x3 h) h := by
  refine SC_of (own := "GatePatch$Spares") plain_Spares rfl (Nat.le_of_ble_eq_true rfl) (fun Γ hG g => ?_)
  subst hG
  show Sim Γ w 0 _ h 0 [(0, vP 56), (1, vI x1), (2, vI x2), (3, vP x3)] []
  unfold XX9_leafLength
  refine S_iload_n (kk := 1) g dX9_leafLength_0 rfl rfl ?_
  refine S_bipush g dX9_leafLength_1 ⟨by decide, by decide⟩ rfl ?_
  refine S_icmp_lt (tgt := 17) g dX9_leafLength_3 (by decide) ?_ ?_
  · refine S_iconst g dX9_leafLength_17 ⟨by decide, by decide⟩ ?_
    exact S_ireturn g dX9_leafLength_18 rfl
  · refine S_iload_n (kk := 1) g dX9_leafLength_6 rfl rfl ?_
    refine S_bipush g dX9_leafLength_7 ⟨by decide, by decide⟩ rfl ?_
    refine S_aload_n (kk := 0) g dX9_leafLength_9 rfl rfl ?_
    refine S_geti g dX9_leafLength_10 fl_Spares_72 (at_56 hw) (Or.inl rfl) ?_
    refine S_iadd g dX9_leafLength_13 ?_
    refine S_icmp_lt (tgt := 19) g dX9_leafLength_14 (by decide) ?_ ?_
    · refine S_iload_n (kk := 2) g dX9_leafLength_19 rfl rfl ?_
      refine S_aload_n (kk := 3) g dX9_leafLength_20 rfl rfl ?_
      refine S_aload_n (kk := 0) g dX9_leafLength_21 rfl rfl ?_
      refine S_getr g dX9_leafLength_22 fl_Spares_75 (at_56 hw) rfl (rc_56_4 hw) ?_
      refine S_iload_n (kk := 1) g dX9_leafLength_25 rfl rfl ?_
      refine S_bipush g dX9_leafLength_26 ⟨by decide, by decide⟩ rfl ?_
      refine S_isub g dX9_leafLength_28 ?_
      refine S_iaload g dX9_leafLength_29 (at_58 hw) ?_
      refine S_iaload g dX9_leafLength_30 hx3 ?_
      refine S_callSi (As := [vI x2, vI (h x3 (h 58 (x1 - 100).toNat).toNat)]) g dX9_leafLength_31 (sX9_distance hw _ _ _) rfl st_X9_distance cw_X9_distance ml_Spares_60 ini_Spares nd_X9_distance ⟨by decide, by decide⟩ (Nat.le_of_ble_eq_true rfl) (fun r1 h2 => ?_)
      exact S_ireturn g dX9_leafLength_34 rfl
    · refine S_iconst g dX9_leafLength_17 ⟨by decide, by decide⟩ ?_
      exact S_ireturn g dX9_leafLength_18 rfl

def XX9_lengthOf (x1 : Int) (x2 : Int) (x3 : Nat) (h : Hp) : OR :=
  inb x1 8 (inb (h 64 x1.toNat) 2 (inb (h 57 (h 64 x1.toNat).toNat) 48 (cal (XX9_distance x2 (h x3 (h 57 (h 64 x1.toNat).toNat).toNat) h) (fun r1 h2 => inb x1 8 (cal (XX9_leafLength (h2 62 x1.toNat) x2 x3 h2) (fun r3 h4 => chk (r1 + r3) (inb x1 8 (cal (XX9_leafLength (h4 63 x1.toNat) x2 x3 h4) (fun r5 h6 => chk ((r1 + r3) + r5) (some (((r1 + r3) + r5), h6)))))))))))
theorem sX9_lengthOf {G : GG} {w : Wd} (hw : okX w) (x1 : Int) (x2 : Int) (x3 : Nat) (hx3 : At w x3 (2, 0, 48)) (h : Hp) : SC G w yX9_lengthOf (Cond.code yX9_lengthOf cX9_lengthOf 4 (Option.some Jvm.ClassFile.FieldType.int)) 3 0 [vP 56, vI x1, vI x2, vP x3] (XX9_lengthOf x1 x2 x3 h) h := by
  refine SC_of (own := "GatePatch$Spares") plain_Spares rfl (Nat.le_of_ble_eq_true rfl) (fun Γ hG g => ?_)
  subst hG
  show Sim Γ w 0 _ h 0 [(0, vP 56), (1, vI x1), (2, vI x2), (3, vP x3)] []
  unfold XX9_lengthOf
  refine S_iload_n (kk := 2) g dX9_lengthOf_0 rfl rfl ?_
  refine S_aload_n (kk := 3) g dX9_lengthOf_1 rfl rfl ?_
  refine S_aload_n (kk := 0) g dX9_lengthOf_2 rfl rfl ?_
  refine S_getr g dX9_lengthOf_3 fl_Spares_54 (at_56 hw) rfl (rc_56_2 hw) ?_
  refine S_aload_n (kk := 0) g dX9_lengthOf_6 rfl rfl ?_
  refine S_getr g dX9_lengthOf_7 fl_Spares_57 (at_56 hw) rfl (rc_56_12 hw) ?_
  refine S_iload_n (kk := 1) g dX9_lengthOf_10 rfl rfl ?_
  refine S_iaload g dX9_lengthOf_11 (at_64 hw) ?_
  refine S_iaload g dX9_lengthOf_12 (at_57 hw) ?_
  refine S_iaload g dX9_lengthOf_13 hx3 ?_
  refine S_callSi (As := [vI x2, vI (h x3 (h 57 (h 64 x1.toNat).toNat).toNat)]) g dX9_lengthOf_14 (sX9_distance hw _ _ _) rfl st_X9_distance cw_X9_distance ml_Spares_60 ini_Spares nd_X9_distance ⟨by decide, by decide⟩ (Nat.le_of_ble_eq_true rfl) (fun r1 h2 => ?_)
  refine S_aload_n (kk := 0) g dX9_lengthOf_17 rfl rfl ?_
  refine S_aload_n (kk := 0) g dX9_lengthOf_18 rfl rfl ?_
  refine S_getr g dX9_lengthOf_19 fl_Spares_63 (at_56 hw) rfl (rc_56_10 hw) ?_
  refine S_iload_n (kk := 1) g dX9_lengthOf_22 rfl rfl ?_
  refine S_iaload g dX9_lengthOf_23 (at_62 hw) ?_
  refine S_iload_n (kk := 2) g dX9_lengthOf_24 rfl rfl ?_
  refine S_aload_n (kk := 3) g dX9_lengthOf_25 rfl rfl ?_
  refine S_callSi (As := [vP 56, vI (h2 62 x1.toNat), vI x2, vP x3]) g dX9_lengthOf_26 (sX9_leafLength hw _ _ x3 hx3 _) rfl st_X9_leafLength cw_X9_leafLength ml_Spares_66 ini_Spares nd_X9_leafLength ⟨by decide, by decide⟩ (Nat.le_of_ble_eq_true rfl) (fun r3 h4 => ?_)
  refine S_iadd g dX9_lengthOf_29 ?_
  refine S_aload_n (kk := 0) g dX9_lengthOf_30 rfl rfl ?_
  refine S_aload_n (kk := 0) g dX9_lengthOf_31 rfl rfl ?_
  refine S_getr g dX9_lengthOf_32 fl_Spares_69 (at_56 hw) rfl (rc_56_11 hw) ?_
  refine S_iload_n (kk := 1) g dX9_lengthOf_35 rfl rfl ?_
  refine S_iaload g dX9_lengthOf_36 (at_63 hw) ?_
  refine S_iload_n (kk := 2) g dX9_lengthOf_37 rfl rfl ?_
  refine S_aload_n (kk := 3) g dX9_lengthOf_38 rfl rfl ?_
  refine S_callSi (As := [vP 56, vI (h4 63 x1.toNat), vI x2, vP x3]) g dX9_lengthOf_39 (sX9_leafLength hw _ _ x3 hx3 _) rfl st_X9_leafLength cw_X9_leafLength ml_Spares_66 ini_Spares nd_X9_leafLength ⟨by decide, by decide⟩ (Nat.le_of_ble_eq_true rfl) (fun r5 h6 => ?_)
  refine S_iadd g dX9_lengthOf_42 ?_
  exact S_ireturn g dX9_lengthOf_43 rfl

def XX9_measure_p91 (a2 : Nat) (self2 : Int → Hp → OR) (self13 : Int → Int → Hp → OR) (l3 l4 : Int) (s1 s2 : Int) (h : Hp) : OR :=
  inb s1 96 (hm (wr h 70 s1.toNat s2) (fun h1 => chk (l4 + 1) (self13 l3 (l4 + 1) h1)))
def XX9_measure_p55 (a2 : Nat) (self2 : Int → Hp → OR) (self13 : Int → Int → Hp → OR) (l3 l4 : Int) (s0 : Int) (h : Hp) : OR :=
  chk (12 * l3) (chk ((12 * l3) + l4) (if s0 = 0 then XX9_measure_p91 a2 self2 self13 l3 l4 ((12 * l3) + l4) 1000000 h else inb l4 12 (cal (XX9_lengthOf l3 (h 69 l4.toNat) a2 h) (fun r2 h3 => XX9_measure_p91 a2 self2 self13 l3 l4 ((12 * l3) + l4) r2 h3))))
def XX9_measure_p54 (a2 : Nat) (self2 : Int → Hp → OR) (self13 : Int → Int → Hp → OR) (l3 l4 : Int) (h : Hp) : OR :=
  XX9_measure_p55 a2 self2 self13 l3 l4 0 h
def XX9_measure_b13 (a2 : Nat) (self2 : Int → Hp → OR) (self13 : Int → Int → Hp → OR) (l3 l4 : Int) (h : Hp) : OR :=
  if (h 67 0) ≤ l4 then chk (l3 + 1) (self2 (l3 + 1) h) else inb l4 12 (inb l3 8 (if (h 68 l4.toNat) = (h 61 l3.toNat) then if (aand (ashr (h 67 1) l4) 1) = 0 then XX9_measure_p55 a2 self2 self13 l3 l4 1 h else XX9_measure_p54 a2 self2 self13 l3 l4 h else XX9_measure_p54 a2 self2 self13 l3 l4 h))
def XX9_measure_L13 (a2 : Nat) (self2 : Int → Hp → OR) (l3 l4 : Int) (h : Hp) : OR := lup2 (XX9_measure_b13 a2 self2) FU l3 l4 h
def XX9_measure_b2 (a2 : Nat)  (self2 : Int → Hp → OR) (l3 : Int) (h : Hp) : OR :=
  if (h 56 8) ≤ l3 then some (0, h) else XX9_measure_L13 a2 self2 l3 0 h
def XX9_measure_L2 (a2 : Nat)  (l3 : Int) (h : Hp) : OR := lup1 (XX9_measure_b2 a2) FU l3 h
def XX9_measure (x1 : Nat) (h : Hp) : OR :=
  XX9_measure_L2 x1 0 h
theorem sX9_measure_p91 {Γ : Cx} {w : Wd} (hw : okX w) (g : Gd Γ cX9_measure 6 "GatePatch$Spares" (Option.none : Option Jvm.ClassFile.FieldType) (rmd 4)) (a2 : Nat) (ha2 : At w a2 (2, 0, 48)) (self2 : Int → Hp → OR) (hs2 : ∀ (x0 : Int) (h : Hp), Sim Γ w 3 (self2 x0 h) h 2 [(0, vP 67), (1, vP 56), (2, vP a2), (3, vI x0)] []) (self13 : Int → Int → Hp → OR) (hs13 : ∀ (x0 x1 : Int) (h : Hp), Sim Γ w 3 (self13 x0 x1 h) h 13 [(0, vP 67), (1, vP 56), (2, vP a2), (3, vI x0), (4, vI x1)] []) (l3 l4 : Int) (s1 s2 : Int) (h : Hp) : Sim Γ w 3 (XX9_measure_p91 a2 self2 self13 l3 l4 s1 s2 h) h 91 [(0, vP 67), (1, vP 56), (2, vP a2), (3, vI l3), (4, vI l4)] [vI s2, vI s1, vP 70] := by
  unfold XX9_measure_p91
  refine S_iastore g dX9_measure_91 (at_70 hw) (fun h1 => ?_)
  refine S_iinc (kk := 4) g dX9_measure_92 rfl (by decide) rfl ?_
  refine S_goto (tgt := 13) g dX9_measure_95 (by decide) ?_
  refine S_sub g [1, 2, 3, 4, 0] rfl ?_
  exact hs13 _ _ _

theorem sX9_measure_p55 {Γ : Cx} {w : Wd} (hw : okX w) (g : Gd Γ cX9_measure 6 "GatePatch$Spares" (Option.none : Option Jvm.ClassFile.FieldType) (rmd 4)) (a2 : Nat) (ha2 : At w a2 (2, 0, 48)) (self2 : Int → Hp → OR) (hs2 : ∀ (x0 : Int) (h : Hp), Sim Γ w 3 (self2 x0 h) h 2 [(0, vP 67), (1, vP 56), (2, vP a2), (3, vI x0)] []) (self13 : Int → Int → Hp → OR) (hs13 : ∀ (x0 x1 : Int) (h : Hp), Sim Γ w 3 (self13 x0 x1 h) h 13 [(0, vP 67), (1, vP 56), (2, vP a2), (3, vI x0), (4, vI x1)] []) (l3 l4 : Int) (s0 : Int) (h : Hp) : Sim Γ w 3 (XX9_measure_p55 a2 self2 self13 l3 l4 s0 h) h 55 [(0, vP 67), (1, vP 56), (2, vP a2), (3, vI l3), (4, vI l4)] [vI s0] := by
  unfold XX9_measure_p55
  refine S_istore g dX9_measure_55 (by decide) rfl ?_
  refine S_aload_n (kk := 1) g dX9_measure_57 rfl rfl ?_
  refine S_getr g dX9_measure_58 fl_Spares_18 (at_67 hw) rfl (rc_67_4 hw) ?_
  refine S_bipush g dX9_measure_61 ⟨by decide, by decide⟩ rfl ?_
  refine S_iload_n (kk := 4) g dX9_measure_63 rfl rfl ?_
  refine S_imul g dX9_measure_64 ?_
  refine S_iload (kk := 5) g dX9_measure_65 rfl ?_
  refine S_iadd g dX9_measure_67 ?_
  refine S_iload (kk := 0) g dX9_measure_68 rfl ?_
  refine S_if_eq (tgt := 89) g dX9_measure_70 (by decide) ?_ ?_
  · refine S_ldc g dX9_measure_89 ⟨by decide, by decide⟩ k_Spares_44 ?_
    refine S_sub g [1, 2, 3, 4, 5] rfl ?_
    exact sX9_measure_p91 hw g a2 ha2 self2 hs2 self13 hs13 _ _ _ _ _
  · refine S_aload_n (kk := 2) g dX9_measure_73 rfl rfl ?_
    refine S_iload_n (kk := 4) g dX9_measure_74 rfl rfl ?_
    refine S_aload_n (kk := 1) g dX9_measure_75 rfl rfl ?_
    refine S_getr g dX9_measure_76 fl_Spares_15 (at_67 hw) rfl (rc_67_3 hw) ?_
    refine S_iload (kk := 5) g dX9_measure_79 rfl ?_
    refine S_iaload g dX9_measure_81 (at_69 hw) ?_
    refine S_aload_n (kk := 3) g dX9_measure_82 rfl rfl ?_
    refine S_callSi (As := [vP 56, vI l3, vI (h 69 l4.toNat), vP a2]) g dX9_measure_83 (sX9_lengthOf hw _ _ a2 ha2 _) rfl st_X9_lengthOf cw_X9_lengthOf ml_Spares_50 ini_Spares nd_X9_lengthOf ⟨by decide, by decide⟩ (Nat.le_of_ble_eq_true rfl) (fun r2 h3 => ?_)
    refine S_goto (tgt := 91) g dX9_measure_86 (by decide) ?_
    refine S_sub g [1, 2, 3, 4, 5] rfl ?_
    exact sX9_measure_p91 hw g a2 ha2 self2 hs2 self13 hs13 _ _ _ _ _

theorem sX9_measure_p54 {Γ : Cx} {w : Wd} (hw : okX w) (g : Gd Γ cX9_measure 6 "GatePatch$Spares" (Option.none : Option Jvm.ClassFile.FieldType) (rmd 4)) (a2 : Nat) (ha2 : At w a2 (2, 0, 48)) (self2 : Int → Hp → OR) (hs2 : ∀ (x0 : Int) (h : Hp), Sim Γ w 3 (self2 x0 h) h 2 [(0, vP 67), (1, vP 56), (2, vP a2), (3, vI x0)] []) (self13 : Int → Int → Hp → OR) (hs13 : ∀ (x0 x1 : Int) (h : Hp), Sim Γ w 3 (self13 x0 x1 h) h 13 [(0, vP 67), (1, vP 56), (2, vP a2), (3, vI x0), (4, vI x1)] []) (l3 l4 : Int) (h : Hp) : Sim Γ w 3 (XX9_measure_p54 a2 self2 self13 l3 l4  h) h 54 [(0, vP 67), (1, vP 56), (2, vP a2), (3, vI l3), (4, vI l4)] [] := by
  unfold XX9_measure_p54
  refine S_iconst g dX9_measure_54 ⟨by decide, by decide⟩ ?_
  exact sX9_measure_p55 hw g a2 ha2 self2 hs2 self13 hs13 _ _ _ _

theorem sX9_measure_L13 {Γ : Cx} {w : Wd} (hw : okX w) (g : Gd Γ cX9_measure 6 "GatePatch$Spares" (Option.none : Option Jvm.ClassFile.FieldType) (rmd 4)) (a2 : Nat) (ha2 : At w a2 (2, 0, 48)) (self2 : Int → Hp → OR) (hs2 : ∀ (x0 : Int) (h : Hp), Sim Γ w 3 (self2 x0 h) h 2 [(0, vP 67), (1, vP 56), (2, vP a2), (3, vI x0)] []) : ∀ (l3 l4 : Int) (h : Hp), Sim Γ w 3 (XX9_measure_L13 a2 self2 l3 l4 h) h 13 [(0, vP 67), (1, vP 56), (2, vP a2), (3, vI l3), (4, vI l4)] [] := by
  refine S_lup2 (fun l3 l4 => [(0, vP 67), (1, vP 56), (2, vP a2), (3, vI l3), (4, vI l4)]) (fun self13 hs13 l3 l4 h => ?_) FU
  unfold XX9_measure_b13
  refine S_iload (kk := 4) g dX9_measure_13 rfl ?_
  refine S_aload_n (kk := 0) g dX9_measure_15 rfl rfl ?_
  refine S_geti g dX9_measure_16 fl_Spares_24 (at_67 hw) (Or.inl rfl) ?_
  refine S_icmp_ge (tgt := 98) g dX9_measure_19 (by decide) ?_ ?_
  · refine S_iinc (kk := 3) g dX9_measure_98 rfl (by decide) rfl ?_
    refine S_goto (tgt := 2) g dX9_measure_101 (by decide) ?_
    refine S_sub g [1, 2, 3, 0] rfl ?_
    exact hs2 _ _
  · refine S_aload_n (kk := 0) g dX9_measure_22 rfl rfl ?_
    refine S_getr g dX9_measure_23 fl_Spares_9 (at_67 hw) rfl (rc_67_2 hw) ?_
    refine S_iload (kk := 4) g dX9_measure_26 rfl ?_
    refine S_iaload g dX9_measure_28 (at_68 hw) ?_
    refine S_aload_n (kk := 1) g dX9_measure_29 rfl rfl ?_
    refine S_getr g dX9_measure_30 fl_Spares_49 (at_56 hw) rfl (rc_56_9 hw) ?_
    refine S_iload_n (kk := 3) g dX9_measure_33 rfl rfl ?_
    refine S_iaload g dX9_measure_34 (at_61 hw) ?_
    refine S_icmp_ne (tgt := 54) g dX9_measure_35 (by decide) ?_ ?_
    · exact sX9_measure_p54 hw g a2 ha2 self2 hs2 self13 hs13 _ _ _
    · refine S_aload_n (kk := 0) g dX9_measure_38 rfl rfl ?_
      refine S_geti g dX9_measure_39 fl_Spares_28 (at_67 hw) (Or.inl rfl) ?_
      refine S_iload (kk := 4) g dX9_measure_42 rfl ?_
      refine S_ishr g dX9_measure_44 ?_
      refine S_iconst g dX9_measure_45 ⟨by decide, by decide⟩ ?_
      refine S_iand g dX9_measure_46 ?_
      refine S_if_ne (tgt := 54) g dX9_measure_47 (by decide) ?_ ?_
      · exact sX9_measure_p54 hw g a2 ha2 self2 hs2 self13 hs13 _ _ _
      · refine S_iconst g dX9_measure_50 ⟨by decide, by decide⟩ ?_
        refine S_goto (tgt := 55) g dX9_measure_51 (by decide) ?_
        exact sX9_measure_p55 hw g a2 ha2 self2 hs2 self13 hs13 _ _ _ _

theorem sX9_measure_L2 {Γ : Cx} {w : Wd} (hw : okX w) (g : Gd Γ cX9_measure 6 "GatePatch$Spares" (Option.none : Option Jvm.ClassFile.FieldType) (rmd 4)) (a2 : Nat) (ha2 : At w a2 (2, 0, 48))  : ∀ (l3 : Int) (h : Hp), Sim Γ w 3 (XX9_measure_L2 a2 l3 h) h 2 [(0, vP 67), (1, vP 56), (2, vP a2), (3, vI l3)] [] := by
  refine S_lup1 (fun l3 => [(0, vP 67), (1, vP 56), (2, vP a2), (3, vI l3)]) (fun self2 hs2 l3 h => ?_) FU
  unfold XX9_measure_b2
  refine S_iload_n (kk := 3) g dX9_measure_2 rfl rfl ?_
  refine S_aload_n (kk := 1) g dX9_measure_3 rfl rfl ?_
  refine S_geti g dX9_measure_4 fl_Spares_31 (at_56 hw) (Or.inl rfl) ?_
  refine S_icmp_ge (tgt := 104) g dX9_measure_7 (by decide) ?_ ?_
  · exact S_return g dX9_measure_104 rfl
  · refine S_iconst g dX9_measure_10 ⟨by decide, by decide⟩ ?_
    refine S_istore g dX9_measure_11 (by decide) rfl ?_
    refine S_sub g [1, 2, 3, 4, 0] rfl ?_
    exact sX9_measure_L13 hw g a2 ha2 self2 hs2 _ _ _

theorem sX9_measure {G : GG} {w : Wd} (hw : okX w) (x1 : Nat) (hx1 : At w x1 (2, 0, 48)) (h : Hp) : SC G w yX9_measure (Cond.code yX9_measure cX9_measure 6 (Option.none : Option Jvm.ClassFile.FieldType)) 4 3 [vP 67, vP 56, vP x1] (XX9_measure x1 h) h := by
  refine SC_of (own := "GatePatch$Spares") plain_Spares rfl (Nat.le_of_ble_eq_true rfl) (fun Γ hG g => ?_)
  subst hG
  show Sim Γ w 3 _ h 0 [(0, vP 67), (1, vP 56), (2, vP x1)] []
  unfold XX9_measure
  refine S_iconst g dX9_measure_0 ⟨by decide, by decide⟩ ?_
  refine S_istore_n g dX9_measure_1 rfl (by decide) rfl ?_
  refine S_sub g [1, 2, 3, 0] rfl ?_
  exact sX9_measure_L2 hw g x1 hx1 _ _

def XX9_leastRest_p68  (self19 : Int → Int → Int → Int → Hp → OR) (l1 l3 l4 l5 : Int) (h : Hp) : OR :=
  chk (l5 + 1) (self19 l1 l3 l4 (l5 + 1) h)
def XX9_leastRest_b19   (self19 : Int → Int → Int → Int → Hp → OR) (l1 l3 l4 l5 : Int) (h : Hp) : OR :=
  if (h 67 0) ≤ l5 then some (l4, h) else if (aand (ashr l1 l5) 1) = 0 then chk (12 * l3) (chk ((12 * l3) + l5) (inb ((12 * l3) + l5) 96 (inb (aor l1 (ashl 1 l5)) 4096 (chk ((h 70 ((12 * l3) + l5).toNat) + (h 71 (aor l1 (ashl 1 l5)).toNat)) (nm (imin l4 ((h 70 ((12 * l3) + l5).toNat) + (h 71 (aor l1 (ashl 1 l5)).toNat))) (fun v3 => XX9_leastRest_p68 self19 l1 l3 v3 l5 h)))))) else XX9_leastRest_p68 self19 l1 l3 l4 l5 h
def XX9_leastRest_L19   (l1 l3 l4 l5 : Int) (h : Hp) : OR := lup4 (XX9_leastRest_b19 ) FU l1 l3 l4 l5 h
def XX9_leastRest (x0 : Int) (x1 : Int) (h : Hp) : OR :=
  cal (XJ6_bitCount_0f7a4 x0 h) (fun r1 h2 => if r1 < x1 then XX9_leastRest_L19 x0 r1 1000000 0 h2 else some (0, h2))
theorem sX9_leastRest_p68 {Γ : Cx} {w : Wd} (hw : okX w) (g : Gd Γ cX9_leastRest 6 "GatePatch$Spares" (Option.some Jvm.ClassFile.FieldType.int) (rmd 2))  (self19 : Int → Int → Int → Int → Hp → OR) (hs19 : ∀ (x0 x1 x2 x3 : Int) (h : Hp), Sim Γ w 0 (self19 x0 x1 x2 x3 h) h 19 [(0, vP 67), (1, vI x0), (3, vI x1), (4, vI x2), (5, vI x3)] []) (l1 l3 l4 l5 : Int) (h : Hp) : Sim Γ w 0 (XX9_leastRest_p68 self19 l1 l3 l4 l5  h) h 68 [(0, vP 67), (1, vI l1), (3, vI l3), (4, vI l4), (5, vI l5)] [] := by
  unfold XX9_leastRest_p68
  refine S_iinc (kk := 4) g dX9_leastRest_68 rfl (by decide) rfl ?_
  refine S_goto (tgt := 19) g dX9_leastRest_71 (by decide) ?_
  refine S_sub g [1, 2, 3, 4, 0] rfl ?_
  exact hs19 _ _ _ _ _

theorem sX9_leastRest_L19 {Γ : Cx} {w : Wd} (hw : okX w) (g : Gd Γ cX9_leastRest 6 "GatePatch$Spares" (Option.some Jvm.ClassFile.FieldType.int) (rmd 2))   : ∀ (l1 l3 l4 l5 : Int) (h : Hp), Sim Γ w 0 (XX9_leastRest_L19  l1 l3 l4 l5 h) h 19 [(0, vP 67), (1, vI l1), (3, vI l3), (4, vI l4), (5, vI l5)] [] := by
  refine S_lup4 (fun l1 l3 l4 l5 => [(0, vP 67), (1, vI l1), (3, vI l3), (4, vI l4), (5, vI l5)]) (fun self19 hs19 l1 l3 l4 l5 h => ?_) FU
  unfold XX9_leastRest_b19
  refine S_iload (kk := 4) g dX9_leastRest_19 rfl ?_
  refine S_aload_n (kk := 0) g dX9_leastRest_21 rfl rfl ?_
  refine S_geti g dX9_leastRest_22 fl_Spares_24 (at_67 hw) (Or.inl rfl) ?_
  refine S_icmp_ge (tgt := 74) g dX9_leastRest_25 (by decide) ?_ ?_
  · refine S_iload (kk := 3) g dX9_leastRest_74 rfl ?_
    exact S_ireturn g dX9_leastRest_76 rfl
  · refine S_iload_n (kk := 1) g dX9_leastRest_28 rfl rfl ?_
    refine S_iload (kk := 4) g dX9_leastRest_29 rfl ?_
    refine S_ishr g dX9_leastRest_31 ?_
    refine S_iconst g dX9_leastRest_32 ⟨by decide, by decide⟩ ?_
    refine S_iand g dX9_leastRest_33 ?_
    refine S_if_ne (tgt := 68) g dX9_leastRest_34 (by decide) ?_ ?_
    · exact sX9_leastRest_p68 hw g self19 hs19 _ _ _ _ _
    · refine S_iload (kk := 3) g dX9_leastRest_37 rfl ?_
      refine S_aload_n (kk := 0) g dX9_leastRest_39 rfl rfl ?_
      refine S_getr g dX9_leastRest_40 fl_Spares_18 (at_67 hw) rfl (rc_67_4 hw) ?_
      refine S_bipush g dX9_leastRest_43 ⟨by decide, by decide⟩ rfl ?_
      refine S_iload_n (kk := 2) g dX9_leastRest_45 rfl rfl ?_
      refine S_imul g dX9_leastRest_46 ?_
      refine S_iload (kk := 4) g dX9_leastRest_47 rfl ?_
      refine S_iadd g dX9_leastRest_49 ?_
      refine S_iaload g dX9_leastRest_50 (at_70 hw) ?_
      refine S_aload_n (kk := 0) g dX9_leastRest_51 rfl rfl ?_
      refine S_getr g dX9_leastRest_52 fl_Spares_21 (at_67 hw) rfl (rc_67_5 hw) ?_
      refine S_iload_n (kk := 1) g dX9_leastRest_55 rfl rfl ?_
      refine S_iconst g dX9_leastRest_56 ⟨by decide, by decide⟩ ?_
      refine S_iload (kk := 4) g dX9_leastRest_57 rfl ?_
      refine S_ishl g dX9_leastRest_59 ?_
      refine S_ior g dX9_leastRest_60 ?_
      refine S_iaload g dX9_leastRest_61 (at_71 hw) ?_
      refine S_iadd g dX9_leastRest_62 ?_
      refine S_mmin g dX9_leastRest_63 ml_Spares_89 ma_st_min ini_Math ma_cw_min (by decide) (Nat.le_of_ble_eq_true rfl) ?_
      refine S_nmI (fun v3 => ?_)
      refine S_istore g dX9_leastRest_66 (by decide) rfl ?_
      refine S_sub g [1, 2, 3, 0, 4] rfl ?_
      exact sX9_leastRest_p68 hw g self19 hs19 _ _ _ _ _

theorem sX9_leastRest {G : GG} {w : Wd} (hw : okX w) (x0 : Int) (x1 : Int) (h : Hp) : SC G w yX9_leastRest (Cond.code yX9_leastRest cX9_leastRest 6 (Option.some Jvm.ClassFile.FieldType.int)) 2 0 [vP 67, vI x0, vI x1] (XX9_leastRest x0 x1 h) h := by
  refine SC_of (own := "GatePatch$Spares") plain_Spares rfl (Nat.le_of_ble_eq_true rfl) (fun Γ hG g => ?_)
  subst hG
  show Sim Γ w 0 _ h 0 [(0, vP 67), (1, vI x0), (2, vI x1)] []
  unfold XX9_leastRest
  refine S_iload_n (kk := 1) g dX9_leastRest_0 rfl rfl ?_
  refine S_callSi (As := [vI x0]) g dX9_leastRest_1 (sJ6_bitCount_0f7a4 _ _) rfl st_J6_bitCount_0f7a4 cw_J6_bitCount_0f7a4 ml_Spares_84 ini_Int nd_J6_bitCount_0f7a4 ⟨by decide, by decide⟩ (Nat.le_of_ble_eq_true rfl) (fun r1 h2 => ?_)
  refine S_istore_n g dX9_leastRest_4 rfl (by decide) rfl ?_
  refine S_iload_n (kk := 0) g dX9_leastRest_5 rfl rfl ?_
  refine S_iload_n (kk := 3) g dX9_leastRest_6 rfl rfl ?_
  refine S_icmp_lt (tgt := 12) g dX9_leastRest_7 (by decide) ?_ ?_
  · refine S_ldc g dX9_leastRest_12 ⟨by decide, by decide⟩ k_Spares_44 ?_
    refine S_istore g dX9_leastRest_14 (by decide) rfl ?_
    refine S_iconst g dX9_leastRest_16 ⟨by decide, by decide⟩ ?_
    refine S_istore g dX9_leastRest_17 (by decide) rfl ?_
    refine S_sub g [3, 4, 2, 1, 0] rfl ?_
    exact sX9_leastRest_L19 hw g _ _ _ _ _
  · refine S_iconst g dX9_leastRest_10 ⟨by decide, by decide⟩ ?_
    exact S_ireturn g dX9_leastRest_11 rfl

def XX9_choose_p90  (self4 : Int → Int → Hp → OR) (l2 l3 : Int) (h : Hp) : OR :=
  chk (l3 + 1) (self4 l2 (l3 + 1) h)
def XX9_choose_p84  (self4 : Int → Int → Hp → OR) (self15 : Int → Int → Int → Hp → OR) (l2 l3 l4 : Int) (h : Hp) : OR :=
  chk (l4 + 1) (self15 l2 l3 (l4 + 1) h)
def XX9_choose_b15  (self4 : Int → Int → Hp → OR) (self15 : Int → Int → Int → Hp → OR) (l2 l3 l4 : Int) (h : Hp) : OR :=
  if (h 67 0) ≤ l4 then XX9_choose_p90 self4 l2 l3 h else if (aand (ashr l2 l4) 1) = 0 then chk (12 * l3) (chk ((12 * l3) + l4) (inb ((12 * l3) + l4) 96 (inb (aor l2 (ashl 1 l4)) 4096 (chk ((h 70 ((12 * l3) + l4).toNat) + (h 71 (aor l2 (ashl 1 l4)).toNat)) (inb l2 4096 (if ((h 70 ((12 * l3) + l4).toNat) + (h 71 (aor l2 (ashl 1 l4)).toNat)) = (h 71 l2.toNat) then inb l3 8 (hm (wr h 65 l3.toNat l4) (fun h2 => nm (aor l2 (ashl 1 l4)) (fun v3 => XX9_choose_p90 self4 v3 l3 h2))) else XX9_choose_p84 self4 self15 l2 l3 l4 h)))))) else XX9_choose_p84 self4 self15 l2 l3 l4 h
def XX9_choose_L15  (self4 : Int → Int → Hp → OR) (l2 l3 l4 : Int) (h : Hp) : OR := lup3 (XX9_choose_b15 self4) FU l2 l3 l4 h
def XX9_choose_b4   (self4 : Int → Int → Hp → OR) (l2 l3 : Int) (h : Hp) : OR :=
  if (h 56 8) ≤ l3 then zb 1 (hm (wr h 56 1 1) (fun h1 => some (0, h1))) else XX9_choose_L15 self4 l2 l3 0 h
def XX9_choose_L4   (l2 l3 : Int) (h : Hp) : OR := lup2 (XX9_choose_b4 ) FU l2 l3 h
def XX9_choose  (h : Hp) : OR :=
  XX9_choose_L4 0 0 h
theorem sX9_choose_p90 {Γ : Cx} {w : Wd} (hw : okX w) (g : Gd Γ cX9_choose 5 "GatePatch$Spares" (Option.none : Option Jvm.ClassFile.FieldType) (rmd 1))  (self4 : Int → Int → Hp → OR) (hs4 : ∀ (x0 x1 : Int) (h : Hp), Sim Γ w 3 (self4 x0 x1 h) h 4 [(0, vP 67), (1, vP 56), (2, vI x0), (3, vI x1)] []) (l2 l3 : Int) (h : Hp) : Sim Γ w 3 (XX9_choose_p90 self4 l2 l3  h) h 90 [(0, vP 67), (1, vP 56), (2, vI l2), (3, vI l3)] [] := by
  unfold XX9_choose_p90
  refine S_iinc (kk := 3) g dX9_choose_90 rfl (by decide) rfl ?_
  refine S_goto (tgt := 4) g dX9_choose_93 (by decide) ?_
  refine S_sub g [1, 2, 3, 0] rfl ?_
  exact hs4 _ _ _

theorem sX9_choose_p84 {Γ : Cx} {w : Wd} (hw : okX w) (g : Gd Γ cX9_choose 5 "GatePatch$Spares" (Option.none : Option Jvm.ClassFile.FieldType) (rmd 1))  (self4 : Int → Int → Hp → OR) (hs4 : ∀ (x0 x1 : Int) (h : Hp), Sim Γ w 3 (self4 x0 x1 h) h 4 [(0, vP 67), (1, vP 56), (2, vI x0), (3, vI x1)] []) (self15 : Int → Int → Int → Hp → OR) (hs15 : ∀ (x0 x1 x2 : Int) (h : Hp), Sim Γ w 3 (self15 x0 x1 x2 h) h 15 [(0, vP 67), (1, vP 56), (2, vI x0), (3, vI x1), (4, vI x2)] []) (l2 l3 l4 : Int) (h : Hp) : Sim Γ w 3 (XX9_choose_p84 self4 self15 l2 l3 l4  h) h 84 [(0, vP 67), (1, vP 56), (2, vI l2), (3, vI l3), (4, vI l4)] [] := by
  unfold XX9_choose_p84
  refine S_iinc (kk := 4) g dX9_choose_84 rfl (by decide) rfl ?_
  refine S_goto (tgt := 15) g dX9_choose_87 (by decide) ?_
  refine S_sub g [1, 2, 3, 4, 0] rfl ?_
  exact hs15 _ _ _ _

theorem sX9_choose_L15 {Γ : Cx} {w : Wd} (hw : okX w) (g : Gd Γ cX9_choose 5 "GatePatch$Spares" (Option.none : Option Jvm.ClassFile.FieldType) (rmd 1))  (self4 : Int → Int → Hp → OR) (hs4 : ∀ (x0 x1 : Int) (h : Hp), Sim Γ w 3 (self4 x0 x1 h) h 4 [(0, vP 67), (1, vP 56), (2, vI x0), (3, vI x1)] []) : ∀ (l2 l3 l4 : Int) (h : Hp), Sim Γ w 3 (XX9_choose_L15 self4 l2 l3 l4 h) h 15 [(0, vP 67), (1, vP 56), (2, vI l2), (3, vI l3), (4, vI l4)] [] := by
  refine S_lup3 (fun l2 l3 l4 => [(0, vP 67), (1, vP 56), (2, vI l2), (3, vI l3), (4, vI l4)]) (fun self15 hs15 l2 l3 l4 h => ?_) FU
  unfold XX9_choose_b15
  refine S_iload (kk := 4) g dX9_choose_15 rfl ?_
  refine S_aload_n (kk := 0) g dX9_choose_17 rfl rfl ?_
  refine S_geti g dX9_choose_18 fl_Spares_24 (at_67 hw) (Or.inl rfl) ?_
  refine S_icmp_ge (tgt := 90) g dX9_choose_21 (by decide) ?_ ?_
  · refine S_sub g [0, 1, 2, 3] rfl ?_
    exact sX9_choose_p90 hw g self4 hs4 _ _ _
  · refine S_iload_n (kk := 2) g dX9_choose_24 rfl rfl ?_
    refine S_iload (kk := 4) g dX9_choose_25 rfl ?_
    refine S_ishr g dX9_choose_27 ?_
    refine S_iconst g dX9_choose_28 ⟨by decide, by decide⟩ ?_
    refine S_iand g dX9_choose_29 ?_
    refine S_if_ne (tgt := 84) g dX9_choose_30 (by decide) ?_ ?_
    · exact sX9_choose_p84 hw g self4 hs4 self15 hs15 _ _ _ _
    · refine S_aload_n (kk := 0) g dX9_choose_33 rfl rfl ?_
      refine S_getr g dX9_choose_34 fl_Spares_18 (at_67 hw) rfl (rc_67_4 hw) ?_
      refine S_bipush g dX9_choose_37 ⟨by decide, by decide⟩ rfl ?_
      refine S_iload_n (kk := 3) g dX9_choose_39 rfl rfl ?_
      refine S_imul g dX9_choose_40 ?_
      refine S_iload (kk := 4) g dX9_choose_41 rfl ?_
      refine S_iadd g dX9_choose_43 ?_
      refine S_iaload g dX9_choose_44 (at_70 hw) ?_
      refine S_aload_n (kk := 0) g dX9_choose_45 rfl rfl ?_
      refine S_getr g dX9_choose_46 fl_Spares_21 (at_67 hw) rfl (rc_67_5 hw) ?_
      refine S_iload_n (kk := 2) g dX9_choose_49 rfl rfl ?_
      refine S_iconst g dX9_choose_50 ⟨by decide, by decide⟩ ?_
      refine S_iload (kk := 4) g dX9_choose_51 rfl ?_
      refine S_ishl g dX9_choose_53 ?_
      refine S_ior g dX9_choose_54 ?_
      refine S_iaload g dX9_choose_55 (at_71 hw) ?_
      refine S_iadd g dX9_choose_56 ?_
      refine S_aload_n (kk := 0) g dX9_choose_57 rfl rfl ?_
      refine S_getr g dX9_choose_58 fl_Spares_21 (at_67 hw) rfl (rc_67_5 hw) ?_
      refine S_iload_n (kk := 2) g dX9_choose_61 rfl rfl ?_
      refine S_iaload g dX9_choose_62 (at_71 hw) ?_
      refine S_icmp_ne (tgt := 84) g dX9_choose_63 (by decide) ?_ ?_
      · exact sX9_choose_p84 hw g self4 hs4 self15 hs15 _ _ _ _
      · refine S_aload_n (kk := 1) g dX9_choose_66 rfl rfl ?_
        refine S_getr g dX9_choose_67 fl_Spares_92 (at_56 hw) rfl (rc_56_13 hw) ?_
        refine S_iload_n (kk := 3) g dX9_choose_70 rfl rfl ?_
        refine S_iload (kk := 4) g dX9_choose_71 rfl ?_
        refine S_iastore g dX9_choose_73 (at_65 hw) (fun h2 => ?_)
        refine S_iload_n (kk := 2) g dX9_choose_74 rfl rfl ?_
        refine S_iconst g dX9_choose_75 ⟨by decide, by decide⟩ ?_
        refine S_iload (kk := 4) g dX9_choose_76 rfl ?_
        refine S_ishl g dX9_choose_78 ?_
        refine S_ior g dX9_choose_79 ?_
        refine S_nmI (fun v3 => ?_)
        refine S_istore_n g dX9_choose_80 rfl (by decide) rfl ?_
        refine S_goto (tgt := 90) g dX9_choose_81 (by decide) ?_
        refine S_sub g [1, 2, 0, 3] rfl ?_
        exact sX9_choose_p90 hw g self4 hs4 _ _ _

theorem sX9_choose_L4 {Γ : Cx} {w : Wd} (hw : okX w) (g : Gd Γ cX9_choose 5 "GatePatch$Spares" (Option.none : Option Jvm.ClassFile.FieldType) (rmd 1))   : ∀ (l2 l3 : Int) (h : Hp), Sim Γ w 3 (XX9_choose_L4  l2 l3 h) h 4 [(0, vP 67), (1, vP 56), (2, vI l2), (3, vI l3)] [] := by
  refine S_lup2 (fun l2 l3 => [(0, vP 67), (1, vP 56), (2, vI l2), (3, vI l3)]) (fun self4 hs4 l2 l3 h => ?_) FU
  unfold XX9_choose_b4
  refine S_iload_n (kk := 3) g dX9_choose_4 rfl rfl ?_
  refine S_aload_n (kk := 1) g dX9_choose_5 rfl rfl ?_
  refine S_geti g dX9_choose_6 fl_Spares_31 (at_56 hw) (Or.inl rfl) ?_
  refine S_icmp_ge (tgt := 96) g dX9_choose_9 (by decide) ?_ ?_
  · refine S_aload_n (kk := 1) g dX9_choose_96 rfl rfl ?_
    refine S_iconst g dX9_choose_97 ⟨by decide, by decide⟩ ?_
    refine S_putz g dX9_choose_98 fp_Spares_95 (at_56 hw) rfl (fun h1 => ?_)
    exact S_return g dX9_choose_101 rfl
  · refine S_iconst g dX9_choose_12 ⟨by decide, by decide⟩ ?_
    refine S_istore g dX9_choose_13 (by decide) rfl ?_
    refine S_sub g [1, 2, 3, 4, 0] rfl ?_
    exact sX9_choose_L15 hw g self4 hs4 _ _ _ _

theorem sX9_choose {G : GG} {w : Wd} (hw : okX w)  (h : Hp) : SC G w yX9_choose (Cond.code yX9_choose cX9_choose 5 (Option.none : Option Jvm.ClassFile.FieldType)) 1 3 [vP 67, vP 56] (XX9_choose  h) h := by
  refine SC_of (own := "GatePatch$Spares") plain_Spares rfl (Nat.le_of_ble_eq_true rfl) (fun Γ hG g => ?_)
  subst hG
  show Sim Γ w 3 _ h 0 [(0, vP 67), (1, vP 56)] []
  unfold XX9_choose
  refine S_iconst g dX9_choose_0 ⟨by decide, by decide⟩ ?_
  refine S_istore_n g dX9_choose_1 rfl (by decide) rfl ?_
  refine S_iconst g dX9_choose_2 ⟨by decide, by decide⟩ ?_
  refine S_istore_n g dX9_choose_3 rfl (by decide) rfl ?_
  refine S_sub g [2, 3, 1, 0] rfl ?_
  exact sX9_choose_L4 hw g _ _ _

def XX9_settle_b29   (self29 : Int → Hp → OR) (l3 : Int) (h : Hp) : OR :=
  if l3 < 0 then inb 0 4096 (if (h 71 (0 : Int).toNat) < 1000000 then cal (XX9_choose h) (fun r4 h5 => inb 0 4096 (some ((h5 71 (0 : Int).toNat), h5))) else some ((-5), h)) else cal (XX9_leastRest l3 (h 56 8) h) (fun r6 h7 => inb l3 4096 (hm (wr h7 71 l3.toNat r6) (fun h8 => chk (l3 + (-1)) (self29 (l3 + (-1)) h8))))
def XX9_settle_L29   (l3 : Int) (h : Hp) : OR := lup1 (XX9_settle_b29 ) FU l3 h
def XX9_settle (x1 : Nat) (h : Hp) : OR :=
  if (h 56 8) ≤ (h 67 0) then cal (XX9_measure x1 h) (fun r1 h2 => chk ((ashl 1 (h2 67 0)) - 1) (nm ((ashl 1 (h2 67 0)) - 1) (fun v3 => XX9_settle_L29 v3 h2))) else some ((-5), h)
theorem sX9_settle_L29 {Γ : Cx} {w : Wd} (hw : okX w) (g : Gd Γ cX9_settle 4 "GatePatch$Spares" (Option.some Jvm.ClassFile.FieldType.int) (rmd 5))   : ∀ (l3 : Int) (h : Hp), Sim Γ w 0 (XX9_settle_L29  l3 h) h 29 [(0, vP 67), (1, vP 56), (3, vI l3)] [] := by
  refine S_lup1 (fun l3 => [(0, vP 67), (1, vP 56), (3, vI l3)]) (fun self29 hs29 l3 h => ?_) FU
  unfold XX9_settle_b29
  refine S_iload_n (kk := 2) g dX9_settle_29 rfl rfl ?_
  refine S_if_lt (tgt := 54) g dX9_settle_30 (by decide) ?_ ?_
  · refine S_aload_n (kk := 0) g dX9_settle_54 rfl rfl ?_
    refine S_getr g dX9_settle_55 fl_Spares_21 (at_67 hw) rfl (rc_67_5 hw) ?_
    refine S_iconst g dX9_settle_58 ⟨by decide, by decide⟩ ?_
    refine S_iaload g dX9_settle_59 (at_71 hw) ?_
    refine S_ldc g dX9_settle_60 ⟨by decide, by decide⟩ k_Spares_44 ?_
    refine S_icmp_lt (tgt := 68) g dX9_settle_62 (by decide) ?_ ?_
    · refine S_aload_n (kk := 0) g dX9_settle_68 rfl rfl ?_
      refine S_aload_n (kk := 1) g dX9_settle_69 rfl rfl ?_
      refine S_callVv (As := [vP 56]) g dX9_settle_70 (sX9_choose hw  _) rfl (at_67 hw) rfl im_X9_choose se_X9_choose cw_X9_choose ml_Spares_45 ini_Spares nd_X9_choose ⟨by decide, by decide⟩ (Nat.le_of_ble_eq_true rfl) (fun r4 h5 => ?_)
      refine S_aload_n (kk := 0) g dX9_settle_73 rfl rfl ?_
      refine S_getr g dX9_settle_74 fl_Spares_21 (at_67 hw) rfl (rc_67_5 hw) ?_
      refine S_iconst g dX9_settle_77 ⟨by decide, by decide⟩ ?_
      refine S_iaload g dX9_settle_78 (at_71 hw) ?_
      exact S_ireturn g dX9_settle_79 rfl
    · refine S_bipush g dX9_settle_65 ⟨by decide, by decide⟩ rfl ?_
      exact S_ireturn g dX9_settle_67 rfl
  · refine S_aload_n (kk := 0) g dX9_settle_33 rfl rfl ?_
    refine S_getr g dX9_settle_34 fl_Spares_21 (at_67 hw) rfl (rc_67_5 hw) ?_
    refine S_iload_n (kk := 2) g dX9_settle_37 rfl rfl ?_
    refine S_aload_n (kk := 0) g dX9_settle_38 rfl rfl ?_
    refine S_iload_n (kk := 2) g dX9_settle_39 rfl rfl ?_
    refine S_aload_n (kk := 1) g dX9_settle_40 rfl rfl ?_
    refine S_geti g dX9_settle_41 fl_Spares_31 (at_56 hw) (Or.inl rfl) ?_
    refine S_callVi (As := [vI l3, vI (h 56 8)]) g dX9_settle_44 (sX9_leastRest hw _ _ _) rfl (at_67 hw) rfl im_X9_leastRest se_X9_leastRest cw_X9_leastRest ml_Spares_40 ini_Spares nd_X9_leastRest ⟨by decide, by decide⟩ (Nat.le_of_ble_eq_true rfl) (fun r6 h7 => ?_)
    refine S_iastore g dX9_settle_47 (at_71 hw) (fun h8 => ?_)
    refine S_iinc (kk := 2) g dX9_settle_48 rfl (by decide) rfl ?_
    refine S_goto (tgt := 29) g dX9_settle_51 (by decide) ?_
    refine S_sub g [1, 2, 0] rfl ?_
    exact hs29 _ _

theorem sX9_settle {G : GG} {w : Wd} (hw : okX w) (x1 : Nat) (hx1 : At w x1 (2, 0, 48)) (h : Hp) : SC G w yX9_settle (Cond.code yX9_settle cX9_settle 4 (Option.some Jvm.ClassFile.FieldType.int)) 5 0 [vP 67, vP 56, vP x1] (XX9_settle x1 h) h := by
  refine SC_of (own := "GatePatch$Spares") plain_Spares rfl (Nat.le_of_ble_eq_true rfl) (fun Γ hG g => ?_)
  subst hG
  show Sim Γ w 0 _ h 0 [(0, vP 67), (1, vP 56), (2, vP x1)] []
  unfold XX9_settle
  refine S_aload_n (kk := 1) g dX9_settle_0 rfl rfl ?_
  refine S_geti g dX9_settle_1 fl_Spares_31 (at_56 hw) (Or.inl rfl) ?_
  refine S_aload_n (kk := 0) g dX9_settle_4 rfl rfl ?_
  refine S_geti g dX9_settle_5 fl_Spares_24 (at_67 hw) (Or.inl rfl) ?_
  refine S_icmp_le (tgt := 14) g dX9_settle_8 (by decide) ?_ ?_
  · refine S_aload_n (kk := 0) g dX9_settle_14 rfl rfl ?_
    refine S_aload_n (kk := 1) g dX9_settle_15 rfl rfl ?_
    refine S_aload_n (kk := 2) g dX9_settle_16 rfl rfl ?_
    refine S_callVv (As := [vP 56, vP x1]) g dX9_settle_17 (sX9_measure hw x1 hx1 _) rfl (at_67 hw) rfl im_X9_measure se_X9_measure cw_X9_measure ml_Spares_36 ini_Spares nd_X9_measure ⟨by decide, by decide⟩ (Nat.le_of_ble_eq_true rfl) (fun r1 h2 => ?_)
    refine S_iconst g dX9_settle_20 ⟨by decide, by decide⟩ ?_
    refine S_aload_n (kk := 0) g dX9_settle_21 rfl rfl ?_
    refine S_geti g dX9_settle_22 fl_Spares_24 (at_67 hw) (Or.inl rfl) ?_
    refine S_ishl g dX9_settle_25 ?_
    refine S_iconst g dX9_settle_26 ⟨by decide, by decide⟩ ?_
    refine S_isub g dX9_settle_27 ?_
    refine S_nmI (fun v3 => ?_)
    refine S_istore_n g dX9_settle_28 rfl (by decide) rfl ?_
    refine S_sub g [1, 2, 0] rfl ?_
    exact sX9_settle_L29 hw g _ _
  · refine S_bipush g dX9_settle_11 ⟨by decide, by decide⟩ rfl ?_
    exact S_ireturn g dX9_settle_13 rfl

