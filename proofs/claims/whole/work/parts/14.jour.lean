abbrev cX3_start : ByteArray := prog_5_method_2_code
def yX3_start : MethodName := ⟨"GatePatch$Journal", "start", "()V"⟩
abbrev cX3_forgetOldest : ByteArray := prog_5_method_4_code
def yX3_forgetOldest : MethodName := ⟨"GatePatch$Journal", "forgetOldest", "()V"⟩
abbrev cX3_open : ByteArray := prog_5_method_3_code
def yX3_open : MethodName := ⟨"GatePatch$Journal", "open", "(LGatePatch$Net;I)V"⟩
abbrev cX3_takeBack : ByteArray := prog_5_method_5_code
def yX3_takeBack : MethodName := ⟨"GatePatch$Journal", "takeBack", "(LGatePatch$Plan;)I"⟩
abbrev cX3_note : ByteArray := prog_5_method_7_code
def yX3_note : MethodName := ⟨"GatePatch$Journal", "note", "(III)V"⟩
abbrev cX3_replace : ByteArray := prog_5_method_6_code
def yX3_replace : MethodName := ⟨"GatePatch$Journal", "replace", "(LGatePatch$Plan;II)V"⟩
abbrev cX3_differs : ByteArray := prog_5_method_9_code
def yX3_differs : MethodName := ⟨"GatePatch$Journal", "differs", "(LGatePatch$Net;I)Z"⟩
abbrev cX3_findTests : ByteArray := prog_5_method_8_code
def yX3_findTests : MethodName := ⟨"GatePatch$Journal", "findTests", "(LGatePatch$Net;LGatePatch$Cases;)V"⟩
theorem fp_Journal_32 : FP "GatePatch$Journal" 32 2 2 .int := ⟨R_Journal, T_Journal, 8, ty_Journal, ci_Journal, by decide, mem_t 419 (by decide +kernel) rfl, rfl, rfl⟩
theorem fp_Journal_36 : FP "GatePatch$Journal" 36 2 4 .int := ⟨R_Journal, T_Journal, 8, ty_Journal, ci_Journal, by decide, mem_t 423 (by decide +kernel) rfl, rfl, rfl⟩
theorem fp_Journal_39 : FP "GatePatch$Journal" 39 2 6 .int := ⟨R_Journal, T_Journal, 8, ty_Journal, ci_Journal, by decide, mem_t 427 (by decide +kernel) rfl, rfl, rfl⟩
theorem plain_Journal : plainName "GatePatch$Journal" = true := by decide +kernel
theorem fl_Journal_11 : FL "GatePatch$Journal" 11 2 0 := ⟨R_Journal, T_Journal, 8, ty_Journal, ci_Journal, by decide, mem_t 417 (by decide +kernel) rfl⟩
theorem fl_Journal_17 : FL "GatePatch$Journal" 17 2 1 := ⟨R_Journal, T_Journal, 8, ty_Journal, ci_Journal, by decide, mem_t 418 (by decide +kernel) rfl⟩
theorem fl_Journal_32 : FL "GatePatch$Journal" 32 2 2 := ⟨R_Journal, T_Journal, 8, ty_Journal, ci_Journal, by decide, mem_t 419 (by decide +kernel) rfl⟩
theorem fl_Journal_45 : FL "GatePatch$Journal" 45 5 0 := ⟨R_Net, T_Net, 7, ty_Net, ci_Net, by decide, mem_t 92 (by decide +kernel) rfl⟩
theorem ml_Journal_51 : Cond.methodLink "GatePatch$Journal" 51 yX8_take ∈ tblG := mem_t 1096 (by decide +kernel) rfl
theorem im_X8_take : Cond.instanceMethod yX8_take ∈ tblG := mem_t 1097 (by decide +kernel) rfl
theorem se_X8_take : Cond.selects "GatePatch$Plan" yX8_take yX8_take ∈ tblG := mem_t 1098 (by decide +kernel) rfl
theorem cw_X8_take : Cond.code yX8_take cX8_take 2 (Option.none : Option Jvm.ClassFile.FieldType) ∈ tblG := mem_t 1099 (by decide +kernel) rfl
theorem nd_X8_take : yX8_take.cls ≠ "java/lang/invoke/MethodHandle" ∧ yX8_take.cls ≠ "java/lang/invoke/VarHandle" ∧ (parseMethodDescriptor yX8_take.desc).map (fun d => d.parameters.length) = some 1 := by decide +kernel
theorem ml_Journal_55 : Cond.methodLink "GatePatch$Journal" 55 yX8_seenCount ∈ tblG := mem_t 1101 (by decide +kernel) rfl
theorem fl_Journal_59 : FL "GatePatch$Journal" 59 5 4 := ⟨R_Net, T_Net, 7, ty_Net, ci_Net, by decide, mem_t 104 (by decide +kernel) rfl⟩
theorem fl_Journal_62 : FL "GatePatch$Journal" 62 7 6 := ⟨R_Plan, T_Plan, 8, ty_Plan, ci_Plan, by decide, mem_t 65 (by decide +kernel) rfl⟩
theorem fl_Journal_27 : FL "GatePatch$Journal" 27 2 7 := ⟨R_Journal, T_Journal, 8, ty_Journal, ci_Journal, by decide, mem_t 429 (by decide +kernel) rfl⟩
theorem ml_Journal_65 : Cond.methodLink "GatePatch$Journal" 65 arraycopyName ∈ tblG := mem_t 1102 (by decide +kernel) rfl
theorem ml_Journal_42 : Cond.methodLink "GatePatch$Journal" 42 yX3_forgetOldest ∈ tblG := mem_t 1092 (by decide +kernel) rfl
theorem im_X3_forgetOldest : Cond.instanceMethod yX3_forgetOldest ∈ tblG := mem_t 1094 (by decide +kernel) rfl
theorem se_X3_forgetOldest : Cond.selects "GatePatch$Journal" yX3_forgetOldest yX3_forgetOldest ∈ tblG := mem_s 33 (by decide +kernel) rfl
theorem cw_X3_forgetOldest : Cond.code yX3_forgetOldest cX3_forgetOldest 3 (Option.none : Option Jvm.ClassFile.FieldType) ∈ tblG := mem_t 1095 (by decide +kernel) rfl
theorem ini_Journal : Cond.initialized "GatePatch$Journal" ∈ tblG := mem_t 10 (by decide +kernel) rfl
theorem nd_X3_forgetOldest : yX3_forgetOldest.cls ≠ "java/lang/invoke/MethodHandle" ∧ yX3_forgetOldest.cls ≠ "java/lang/invoke/VarHandle" ∧ (parseMethodDescriptor yX3_forgetOldest.desc).map (fun d => d.parameters.length) = some 0 := by decide +kernel
theorem fl_Journal_36 : FL "GatePatch$Journal" 36 2 4 := ⟨R_Journal, T_Journal, 8, ty_Journal, ci_Journal, by decide, mem_t 423 (by decide +kernel) rfl⟩
theorem fl_Journal_21 : FL "GatePatch$Journal" 21 2 3 := ⟨R_Journal, T_Journal, 8, ty_Journal, ci_Journal, by decide, mem_t 421 (by decide +kernel) rfl⟩
theorem ml_Journal_71 : Cond.methodLink "GatePatch$Journal" 71 yX8_sources ∈ tblG := mem_t 1120 (by decide +kernel) rfl
theorem ml_Journal_74 : Cond.methodLink "GatePatch$Journal" 74 yX8_wires ∈ tblG := mem_t 1121 (by decide +kernel) rfl
theorem fl_Journal_91 : FL "GatePatch$Journal" 91 7 2 := ⟨R_Plan, T_Plan, 8, ty_Plan, ci_Plan, by decide, mem_t 49 (by decide +kernel) rfl⟩
theorem ml_Journal_87 : Cond.methodLink "GatePatch$Journal" 87 yX3_note ∈ tblG := mem_t 1123 (by decide +kernel) rfl
theorem im_X3_note : Cond.instanceMethod yX3_note ∈ tblG := mem_t 1125 (by decide +kernel) rfl
theorem se_X3_note : Cond.selects "GatePatch$Journal" yX3_note yX3_note ∈ tblG := mem_s 35 (by decide +kernel) rfl
theorem cw_X3_note : Cond.code yX3_note cX3_note 4 (Option.none : Option Jvm.ClassFile.FieldType) ∈ tblG := mem_t 1126 (by decide +kernel) rfl
theorem nd_X3_note : yX3_note.cls ≠ "java/lang/invoke/MethodHandle" ∧ yX3_note.cls ≠ "java/lang/invoke/VarHandle" ∧ (parseMethodDescriptor yX3_note.desc).map (fun d => d.parameters.length) = some 3 := by decide +kernel
theorem gs_Journal_77 : Cond.fieldLinkNest "GatePatch$Journal" 77 "GatePatch" "PIN_COUNT" "[B" "GatePatch" ∈ NW := by simp [NW]
theorem fl_Journal_81 : FL "GatePatch$Journal" 81 7 4 := ⟨R_Plan, T_Plan, 8, ty_Plan, ci_Plan, by decide, mem_t 56 (by decide +kernel) rfl⟩
theorem fl_Journal_84 : FL "GatePatch$Journal" 84 7 5 := ⟨R_Plan, T_Plan, 8, ty_Plan, ci_Plan, by decide, mem_t 60 (by decide +kernel) rfl⟩
theorem fl_Journal_94 : FL "GatePatch$Journal" 94 0 0 := ⟨R_Cases, T_Cases, 4, ty_Cases, ci_Cases, by decide, mem_t 136 (by decide +kernel) rfl⟩
theorem ml_Journal_99 : Cond.methodLink "GatePatch$Journal" 99 yX0_isLive ∈ tblG := mem_t 1131 (by decide +kernel) rfl
theorem ml_Journal_103 : Cond.methodLink "GatePatch$Journal" 103 yX3_differs ∈ tblG := mem_t 1132 (by decide +kernel) rfl
theorem im_X3_differs : Cond.instanceMethod yX3_differs ∈ tblG := mem_t 1134 (by decide +kernel) rfl
theorem se_X3_differs : Cond.selects "GatePatch$Journal" yX3_differs yX3_differs ∈ tblG := mem_s 36 (by decide +kernel) rfl
theorem cw_X3_differs : Cond.code yX3_differs cX3_differs 6 (Option.some Jvm.ClassFile.FieldType.boolean) ∈ tblG := mem_t 1135 (by decide +kernel) rfl
theorem nd_X3_differs : yX3_differs.cls ≠ "java/lang/invoke/MethodHandle" ∧ yX3_differs.cls ≠ "java/lang/invoke/VarHandle" ∧ (parseMethodDescriptor yX3_differs.desc).map (fun d => d.parameters.length) = some 2 := by decide +kernel
theorem fl_Journal_24 : FL "GatePatch$Journal" 24 2 5 := ⟨R_Journal, T_Journal, 8, ty_Journal, ci_Journal, by decide, mem_t 425 (by decide +kernel) rfl⟩
theorem fl_Journal_39 : FL "GatePatch$Journal" 39 2 6 := ⟨R_Journal, T_Journal, 8, ty_Journal, ci_Journal, by decide, mem_t 427 (by decide +kernel) rfl⟩
theorem dX3_start_0 : decode cX3_start 0 = .ok (.aload_n 0, 1) := by decide +kernel
theorem dX3_start_1 : decode cX3_start 1 = .ok (.iconst 0, 1) := by decide +kernel
theorem dX3_start_2 : decode cX3_start 2 = .ok (.putfield 32, 3) := by decide +kernel
theorem dX3_start_5 : decode cX3_start 5 = .ok (.aload_n 0, 1) := by decide +kernel
theorem dX3_start_6 : decode cX3_start 6 = .ok (.iconst 0, 1) := by decide +kernel
theorem dX3_start_7 : decode cX3_start 7 = .ok (.putfield 36, 3) := by decide +kernel
theorem dX3_start_10 : decode cX3_start 10 = .ok (.aload_n 0, 1) := by decide +kernel
theorem dX3_start_11 : decode cX3_start 11 = .ok (.iconst 0, 1) := by decide +kernel
theorem dX3_start_12 : decode cX3_start 12 = .ok (.putfield 39, 3) := by decide +kernel
theorem dX3_start_15 : decode cX3_start 15 = .ok (.return_, 1) := by decide +kernel
theorem dX3_forgetOldest_0 : decode cX3_forgetOldest 0 = .ok (.aload_n 0, 1) := by decide +kernel
theorem dX3_forgetOldest_1 : decode cX3_forgetOldest 1 = .ok (.getfield 11, 3) := by decide +kernel
theorem dX3_forgetOldest_4 : decode cX3_forgetOldest 4 = .ok (.iconst 0, 1) := by decide +kernel
theorem dX3_forgetOldest_5 : decode cX3_forgetOldest 5 = .ok (.aaload, 1) := by decide +kernel
theorem dX3_forgetOldest_6 : decode cX3_forgetOldest 6 = .ok (.astore_n 1, 1) := by decide +kernel
theorem dX3_forgetOldest_7 : decode cX3_forgetOldest 7 = .ok (.iconst 1, 1) := by decide +kernel
theorem dX3_forgetOldest_8 : decode cX3_forgetOldest 8 = .ok (.istore_n 2, 1) := by decide +kernel
theorem dX3_forgetOldest_9 : decode cX3_forgetOldest 9 = .ok (.iload_n 2, 1) := by decide +kernel
theorem dX3_forgetOldest_10 : decode cX3_forgetOldest 10 = .ok (.iconst 4, 1) := by decide +kernel
theorem dX3_forgetOldest_11 : decode cX3_forgetOldest 11 = .ok (.if_icmp .ge 37, 3) := by decide +kernel
theorem dX3_forgetOldest_14 : decode cX3_forgetOldest 14 = .ok (.aload_n 0, 1) := by decide +kernel
theorem dX3_forgetOldest_15 : decode cX3_forgetOldest 15 = .ok (.getfield 11, 3) := by decide +kernel
theorem dX3_forgetOldest_18 : decode cX3_forgetOldest 18 = .ok (.iload_n 2, 1) := by decide +kernel
theorem dX3_forgetOldest_19 : decode cX3_forgetOldest 19 = .ok (.iconst 1, 1) := by decide +kernel
theorem dX3_forgetOldest_20 : decode cX3_forgetOldest 20 = .ok (.isub, 1) := by decide +kernel
theorem dX3_forgetOldest_21 : decode cX3_forgetOldest 21 = .ok (.aload_n 0, 1) := by decide +kernel
theorem dX3_forgetOldest_22 : decode cX3_forgetOldest 22 = .ok (.getfield 11, 3) := by decide +kernel
theorem dX3_forgetOldest_25 : decode cX3_forgetOldest 25 = .ok (.iload_n 2, 1) := by decide +kernel
theorem dX3_forgetOldest_26 : decode cX3_forgetOldest 26 = .ok (.aaload, 1) := by decide +kernel
theorem dX3_forgetOldest_27 : decode cX3_forgetOldest 27 = .ok (.aastore, 1) := by decide +kernel
theorem dX3_forgetOldest_28 : decode cX3_forgetOldest 28 = .ok (.aload_n 0, 1) := by decide +kernel
theorem dX3_forgetOldest_29 : decode cX3_forgetOldest 29 = .ok (.getfield 17, 3) := by decide +kernel
theorem dX3_forgetOldest_32 : decode cX3_forgetOldest 32 = .ok (.iload_n 2, 1) := by decide +kernel
theorem dX3_forgetOldest_33 : decode cX3_forgetOldest 33 = .ok (.iconst 1, 1) := by decide +kernel
theorem dX3_forgetOldest_34 : decode cX3_forgetOldest 34 = .ok (.isub, 1) := by decide +kernel
theorem dX3_forgetOldest_35 : decode cX3_forgetOldest 35 = .ok (.aload_n 0, 1) := by decide +kernel
theorem dX3_forgetOldest_36 : decode cX3_forgetOldest 36 = .ok (.getfield 17, 3) := by decide +kernel
theorem dX3_forgetOldest_39 : decode cX3_forgetOldest 39 = .ok (.iload_n 2, 1) := by decide +kernel
theorem dX3_forgetOldest_40 : decode cX3_forgetOldest 40 = .ok (.iaload, 1) := by decide +kernel
theorem dX3_forgetOldest_41 : decode cX3_forgetOldest 41 = .ok (.iastore, 1) := by decide +kernel
theorem dX3_forgetOldest_42 : decode cX3_forgetOldest 42 = .ok (.iinc 2 1, 3) := by decide +kernel
theorem dX3_forgetOldest_45 : decode cX3_forgetOldest 45 = .ok (.goto (-36), 3) := by decide +kernel
theorem dX3_forgetOldest_48 : decode cX3_forgetOldest 48 = .ok (.aload_n 0, 1) := by decide +kernel
theorem dX3_forgetOldest_49 : decode cX3_forgetOldest 49 = .ok (.getfield 11, 3) := by decide +kernel
theorem dX3_forgetOldest_52 : decode cX3_forgetOldest 52 = .ok (.iconst 3, 1) := by decide +kernel
theorem dX3_forgetOldest_53 : decode cX3_forgetOldest 53 = .ok (.aload_n 1, 1) := by decide +kernel
theorem dX3_forgetOldest_54 : decode cX3_forgetOldest 54 = .ok (.aastore, 1) := by decide +kernel
theorem dX3_forgetOldest_55 : decode cX3_forgetOldest 55 = .ok (.aload_n 0, 1) := by decide +kernel
theorem dX3_forgetOldest_56 : decode cX3_forgetOldest 56 = .ok (.iconst 3, 1) := by decide +kernel
theorem dX3_forgetOldest_57 : decode cX3_forgetOldest 57 = .ok (.putfield 32, 3) := by decide +kernel
theorem dX3_forgetOldest_60 : decode cX3_forgetOldest 60 = .ok (.return_, 1) := by decide +kernel
theorem dX3_open_0 : decode cX3_open 0 = .ok (.aload_n 0, 1) := by decide +kernel
theorem dX3_open_1 : decode cX3_open 1 = .ok (.getfield 32, 3) := by decide +kernel
theorem dX3_open_4 : decode cX3_open 4 = .ok (.iconst 4, 1) := by decide +kernel
theorem dX3_open_5 : decode cX3_open 5 = .ok (.if_icmp .lt 7, 3) := by decide +kernel
theorem dX3_open_8 : decode cX3_open 8 = .ok (.aload_n 0, 1) := by decide +kernel
theorem dX3_open_9 : decode cX3_open 9 = .ok (.invokevirtual 42, 3) := by decide +kernel
theorem dX3_open_12 : decode cX3_open 12 = .ok (.aload_n 0, 1) := by decide +kernel
theorem dX3_open_13 : decode cX3_open 13 = .ok (.getfield 11, 3) := by decide +kernel
theorem dX3_open_16 : decode cX3_open 16 = .ok (.aload_n 0, 1) := by decide +kernel
theorem dX3_open_17 : decode cX3_open 17 = .ok (.getfield 32, 3) := by decide +kernel
theorem dX3_open_20 : decode cX3_open 20 = .ok (.aaload, 1) := by decide +kernel
theorem dX3_open_21 : decode cX3_open 21 = .ok (.aload_n 1, 1) := by decide +kernel
theorem dX3_open_22 : decode cX3_open 22 = .ok (.getfield 45, 3) := by decide +kernel
theorem dX3_open_25 : decode cX3_open 25 = .ok (.invokevirtual 51, 3) := by decide +kernel
theorem dX3_open_28 : decode cX3_open 28 = .ok (.aload_n 0, 1) := by decide +kernel
theorem dX3_open_29 : decode cX3_open 29 = .ok (.getfield 17, 3) := by decide +kernel
theorem dX3_open_32 : decode cX3_open 32 = .ok (.aload_n 0, 1) := by decide +kernel
theorem dX3_open_33 : decode cX3_open 33 = .ok (.getfield 32, 3) := by decide +kernel
theorem dX3_open_36 : decode cX3_open 36 = .ok (.iload_n 2, 1) := by decide +kernel
theorem dX3_open_37 : decode cX3_open 37 = .ok (.iastore, 1) := by decide +kernel
theorem dX3_open_38 : decode cX3_open 38 = .ok (.aload_n 0, 1) := by decide +kernel
theorem dX3_open_39 : decode cX3_open 39 = .ok (.dup, 1) := by decide +kernel
theorem dX3_open_40 : decode cX3_open 40 = .ok (.getfield 32, 3) := by decide +kernel
theorem dX3_open_43 : decode cX3_open 43 = .ok (.iconst 1, 1) := by decide +kernel
theorem dX3_open_44 : decode cX3_open 44 = .ok (.iadd, 1) := by decide +kernel
theorem dX3_open_45 : decode cX3_open 45 = .ok (.putfield 32, 3) := by decide +kernel
theorem dX3_open_48 : decode cX3_open 48 = .ok (.aload_n 0, 1) := by decide +kernel
theorem dX3_open_49 : decode cX3_open 49 = .ok (.iconst 0, 1) := by decide +kernel
theorem dX3_open_50 : decode cX3_open 50 = .ok (.putfield 36, 3) := by decide +kernel
theorem dX3_open_53 : decode cX3_open 53 = .ok (.iconst 0, 1) := by decide +kernel
theorem dX3_open_54 : decode cX3_open 54 = .ok (.istore_n 3, 1) := by decide +kernel
theorem dX3_open_55 : decode cX3_open 55 = .ok (.iload_n 3, 1) := by decide +kernel
theorem dX3_open_56 : decode cX3_open 56 = .ok (.aload_n 1, 1) := by decide +kernel
theorem dX3_open_57 : decode cX3_open 57 = .ok (.getfield 45, 3) := by decide +kernel
theorem dX3_open_60 : decode cX3_open 60 = .ok (.invokevirtual 55, 3) := by decide +kernel
theorem dX3_open_63 : decode cX3_open 63 = .ok (.if_icmp .ge 35, 3) := by decide +kernel
theorem dX3_open_66 : decode cX3_open 66 = .ok (.aload_n 1, 1) := by decide +kernel
theorem dX3_open_67 : decode cX3_open 67 = .ok (.getfield 59, 3) := by decide +kernel
theorem dX3_open_70 : decode cX3_open 70 = .ok (.iconst 4, 1) := by decide +kernel
theorem dX3_open_71 : decode cX3_open 71 = .ok (.aload_n 1, 1) := by decide +kernel
theorem dX3_open_72 : decode cX3_open 72 = .ok (.getfield 45, 3) := by decide +kernel
theorem dX3_open_75 : decode cX3_open 75 = .ok (.getfield 62, 3) := by decide +kernel
theorem dX3_open_78 : decode cX3_open 78 = .ok (.iload_n 3, 1) := by decide +kernel
theorem dX3_open_79 : decode cX3_open 79 = .ok (.iaload, 1) := by decide +kernel
theorem dX3_open_80 : decode cX3_open 80 = .ok (.imul, 1) := by decide +kernel
theorem dX3_open_81 : decode cX3_open 81 = .ok (.aload_n 0, 1) := by decide +kernel
theorem dX3_open_82 : decode cX3_open 82 = .ok (.getfield 27, 3) := by decide +kernel
theorem dX3_open_85 : decode cX3_open 85 = .ok (.iconst 4, 1) := by decide +kernel
theorem dX3_open_86 : decode cX3_open 86 = .ok (.iload_n 3, 1) := by decide +kernel
theorem dX3_open_87 : decode cX3_open 87 = .ok (.imul, 1) := by decide +kernel
theorem dX3_open_88 : decode cX3_open 88 = .ok (.iconst 4, 1) := by decide +kernel
theorem dX3_open_89 : decode cX3_open 89 = .ok (.invokestatic 65, 3) := by decide +kernel
theorem dX3_open_92 : decode cX3_open 92 = .ok (.iinc 3 1, 3) := by decide +kernel
theorem dX3_open_95 : decode cX3_open 95 = .ok (.goto (-40), 3) := by decide +kernel
theorem dX3_open_98 : decode cX3_open 98 = .ok (.return_, 1) := by decide +kernel
theorem dX3_takeBack_0 : decode cX3_takeBack 0 = .ok (.aload_n 0, 1) := by decide +kernel
theorem dX3_takeBack_1 : decode cX3_takeBack 1 = .ok (.dup, 1) := by decide +kernel
theorem dX3_takeBack_2 : decode cX3_takeBack 2 = .ok (.getfield 32, 3) := by decide +kernel
theorem dX3_takeBack_5 : decode cX3_takeBack 5 = .ok (.iconst 1, 1) := by decide +kernel
theorem dX3_takeBack_6 : decode cX3_takeBack 6 = .ok (.isub, 1) := by decide +kernel
theorem dX3_takeBack_7 : decode cX3_takeBack 7 = .ok (.putfield 32, 3) := by decide +kernel
theorem dX3_takeBack_10 : decode cX3_takeBack 10 = .ok (.aload_n 1, 1) := by decide +kernel
theorem dX3_takeBack_11 : decode cX3_takeBack 11 = .ok (.aload_n 0, 1) := by decide +kernel
theorem dX3_takeBack_12 : decode cX3_takeBack 12 = .ok (.getfield 11, 3) := by decide +kernel
theorem dX3_takeBack_15 : decode cX3_takeBack 15 = .ok (.aload_n 0, 1) := by decide +kernel
theorem dX3_takeBack_16 : decode cX3_takeBack 16 = .ok (.getfield 32, 3) := by decide +kernel
theorem dX3_takeBack_19 : decode cX3_takeBack 19 = .ok (.aaload, 1) := by decide +kernel
theorem dX3_takeBack_20 : decode cX3_takeBack 20 = .ok (.invokevirtual 51, 3) := by decide +kernel
theorem dX3_takeBack_23 : decode cX3_takeBack 23 = .ok (.aload_n 0, 1) := by decide +kernel
theorem dX3_takeBack_24 : decode cX3_takeBack 24 = .ok (.getfield 17, 3) := by decide +kernel
theorem dX3_takeBack_27 : decode cX3_takeBack 27 = .ok (.aload_n 0, 1) := by decide +kernel
theorem dX3_takeBack_28 : decode cX3_takeBack 28 = .ok (.getfield 32, 3) := by decide +kernel
theorem dX3_takeBack_31 : decode cX3_takeBack 31 = .ok (.iaload, 1) := by decide +kernel
theorem dX3_takeBack_32 : decode cX3_takeBack 32 = .ok (.ireturn, 1) := by decide +kernel
theorem dX3_note_0 : decode cX3_note 0 = .ok (.iconst 3, 1) := by decide +kernel
theorem dX3_note_1 : decode cX3_note 1 = .ok (.aload_n 0, 1) := by decide +kernel
theorem dX3_note_2 : decode cX3_note 2 = .ok (.getfield 36, 3) := by decide +kernel
theorem dX3_note_5 : decode cX3_note 5 = .ok (.imul, 1) := by decide +kernel
theorem dX3_note_6 : decode cX3_note 6 = .ok (.iconst 2, 1) := by decide +kernel
theorem dX3_note_7 : decode cX3_note 7 = .ok (.iadd, 1) := by decide +kernel
theorem dX3_note_8 : decode cX3_note 8 = .ok (.aload_n 0, 1) := by decide +kernel
theorem dX3_note_9 : decode cX3_note 9 = .ok (.getfield 21, 3) := by decide +kernel
theorem dX3_note_12 : decode cX3_note 12 = .ok (.arraylength, 1) := by decide +kernel
theorem dX3_note_13 : decode cX3_note 13 = .ok (.if_icmp .ge 53, 3) := by decide +kernel
theorem dX3_note_16 : decode cX3_note 16 = .ok (.aload_n 0, 1) := by decide +kernel
theorem dX3_note_17 : decode cX3_note 17 = .ok (.getfield 21, 3) := by decide +kernel
theorem dX3_note_20 : decode cX3_note 20 = .ok (.iconst 3, 1) := by decide +kernel
theorem dX3_note_21 : decode cX3_note 21 = .ok (.aload_n 0, 1) := by decide +kernel
theorem dX3_note_22 : decode cX3_note 22 = .ok (.getfield 36, 3) := by decide +kernel
theorem dX3_note_25 : decode cX3_note 25 = .ok (.imul, 1) := by decide +kernel
theorem dX3_note_26 : decode cX3_note 26 = .ok (.iload_n 1, 1) := by decide +kernel
theorem dX3_note_27 : decode cX3_note 27 = .ok (.iastore, 1) := by decide +kernel
theorem dX3_note_28 : decode cX3_note 28 = .ok (.aload_n 0, 1) := by decide +kernel
theorem dX3_note_29 : decode cX3_note 29 = .ok (.getfield 21, 3) := by decide +kernel
theorem dX3_note_32 : decode cX3_note 32 = .ok (.iconst 3, 1) := by decide +kernel
theorem dX3_note_33 : decode cX3_note 33 = .ok (.aload_n 0, 1) := by decide +kernel
theorem dX3_note_34 : decode cX3_note 34 = .ok (.getfield 36, 3) := by decide +kernel
theorem dX3_note_37 : decode cX3_note 37 = .ok (.imul, 1) := by decide +kernel
theorem dX3_note_38 : decode cX3_note 38 = .ok (.iconst 1, 1) := by decide +kernel
theorem dX3_note_39 : decode cX3_note 39 = .ok (.iadd, 1) := by decide +kernel
theorem dX3_note_40 : decode cX3_note 40 = .ok (.iload_n 2, 1) := by decide +kernel
theorem dX3_note_41 : decode cX3_note 41 = .ok (.iastore, 1) := by decide +kernel
theorem dX3_note_42 : decode cX3_note 42 = .ok (.aload_n 0, 1) := by decide +kernel
theorem dX3_note_43 : decode cX3_note 43 = .ok (.getfield 21, 3) := by decide +kernel
theorem dX3_note_46 : decode cX3_note 46 = .ok (.iconst 3, 1) := by decide +kernel
theorem dX3_note_47 : decode cX3_note 47 = .ok (.aload_n 0, 1) := by decide +kernel
theorem dX3_note_48 : decode cX3_note 48 = .ok (.getfield 36, 3) := by decide +kernel
theorem dX3_note_51 : decode cX3_note 51 = .ok (.imul, 1) := by decide +kernel
theorem dX3_note_52 : decode cX3_note 52 = .ok (.iconst 2, 1) := by decide +kernel
theorem dX3_note_53 : decode cX3_note 53 = .ok (.iadd, 1) := by decide +kernel
theorem dX3_note_54 : decode cX3_note 54 = .ok (.iload_n 3, 1) := by decide +kernel
theorem dX3_note_55 : decode cX3_note 55 = .ok (.iastore, 1) := by decide +kernel
theorem dX3_note_56 : decode cX3_note 56 = .ok (.aload_n 0, 1) := by decide +kernel
theorem dX3_note_57 : decode cX3_note 57 = .ok (.dup, 1) := by decide +kernel
theorem dX3_note_58 : decode cX3_note 58 = .ok (.getfield 36, 3) := by decide +kernel
theorem dX3_note_61 : decode cX3_note 61 = .ok (.iconst 1, 1) := by decide +kernel
theorem dX3_note_62 : decode cX3_note 62 = .ok (.iadd, 1) := by decide +kernel
theorem dX3_note_63 : decode cX3_note 63 = .ok (.putfield 36, 3) := by decide +kernel
theorem dX3_note_66 : decode cX3_note 66 = .ok (.return_, 1) := by decide +kernel
theorem dX3_replace_0 : decode cX3_replace 0 = .ok (.aload_n 1, 1) := by decide +kernel
theorem dX3_replace_1 : decode cX3_replace 1 = .ok (.invokevirtual 71, 3) := by decide +kernel
theorem dX3_replace_4 : decode cX3_replace 4 = .ok (.istore 4, 2) := by decide +kernel
theorem dX3_replace_6 : decode cX3_replace 6 = .ok (.iload 4, 2) := by decide +kernel
theorem dX3_replace_8 : decode cX3_replace 8 = .ok (.aload_n 1, 1) := by decide +kernel
theorem dX3_replace_9 : decode cX3_replace 9 = .ok (.invokevirtual 74, 3) := by decide +kernel
theorem dX3_replace_12 : decode cX3_replace 12 = .ok (.if_icmp .ge 72, 3) := by decide +kernel
theorem dX3_replace_15 : decode cX3_replace 15 = .ok (.iconst 0, 1) := by decide +kernel
theorem dX3_replace_16 : decode cX3_replace 16 = .ok (.istore 5, 2) := by decide +kernel
theorem dX3_replace_18 : decode cX3_replace 18 = .ok (.iload 5, 2) := by decide +kernel
theorem dX3_replace_20 : decode cX3_replace 20 = .ok (.getstatic 77, 3) := by decide +kernel
theorem dX3_replace_23 : decode cX3_replace 23 = .ok (.aload_n 1, 1) := by decide +kernel
theorem dX3_replace_24 : decode cX3_replace 24 = .ok (.getfield 81, 3) := by decide +kernel
theorem dX3_replace_27 : decode cX3_replace 27 = .ok (.iload 4, 2) := by decide +kernel
theorem dX3_replace_29 : decode cX3_replace 29 = .ok (.iaload, 1) := by decide +kernel
theorem dX3_replace_30 : decode cX3_replace 30 = .ok (.baload, 1) := by decide +kernel
theorem dX3_replace_31 : decode cX3_replace 31 = .ok (.if_icmp .ge 47, 3) := by decide +kernel
theorem dX3_replace_34 : decode cX3_replace 34 = .ok (.aload_n 1, 1) := by decide +kernel
theorem dX3_replace_35 : decode cX3_replace 35 = .ok (.getfield 84, 3) := by decide +kernel
theorem dX3_replace_38 : decode cX3_replace 38 = .ok (.iconst 3, 1) := by decide +kernel
theorem dX3_replace_39 : decode cX3_replace 39 = .ok (.iload 4, 2) := by decide +kernel
theorem dX3_replace_41 : decode cX3_replace 41 = .ok (.imul, 1) := by decide +kernel
theorem dX3_replace_42 : decode cX3_replace 42 = .ok (.iload 5, 2) := by decide +kernel
theorem dX3_replace_44 : decode cX3_replace 44 = .ok (.iadd, 1) := by decide +kernel
theorem dX3_replace_45 : decode cX3_replace 45 = .ok (.iaload, 1) := by decide +kernel
theorem dX3_replace_46 : decode cX3_replace 46 = .ok (.iload_n 2, 1) := by decide +kernel
theorem dX3_replace_47 : decode cX3_replace 47 = .ok (.if_icmp .ne 25, 3) := by decide +kernel
theorem dX3_replace_50 : decode cX3_replace 50 = .ok (.aload_n 1, 1) := by decide +kernel
theorem dX3_replace_51 : decode cX3_replace 51 = .ok (.getfield 84, 3) := by decide +kernel
theorem dX3_replace_54 : decode cX3_replace 54 = .ok (.iconst 3, 1) := by decide +kernel
theorem dX3_replace_55 : decode cX3_replace 55 = .ok (.iload 4, 2) := by decide +kernel
theorem dX3_replace_57 : decode cX3_replace 57 = .ok (.imul, 1) := by decide +kernel
theorem dX3_replace_58 : decode cX3_replace 58 = .ok (.iload 5, 2) := by decide +kernel
theorem dX3_replace_60 : decode cX3_replace 60 = .ok (.iadd, 1) := by decide +kernel
theorem dX3_replace_61 : decode cX3_replace 61 = .ok (.iload_n 3, 1) := by decide +kernel
theorem dX3_replace_62 : decode cX3_replace 62 = .ok (.iastore, 1) := by decide +kernel
theorem dX3_replace_63 : decode cX3_replace 63 = .ok (.aload_n 0, 1) := by decide +kernel
theorem dX3_replace_64 : decode cX3_replace 64 = .ok (.iconst 0, 1) := by decide +kernel
theorem dX3_replace_65 : decode cX3_replace 65 = .ok (.iload 4, 2) := by decide +kernel
theorem dX3_replace_67 : decode cX3_replace 67 = .ok (.iload 5, 2) := by decide +kernel
theorem dX3_replace_69 : decode cX3_replace 69 = .ok (.invokevirtual 87, 3) := by decide +kernel
theorem dX3_replace_72 : decode cX3_replace 72 = .ok (.iinc 5 1, 3) := by decide +kernel
theorem dX3_replace_75 : decode cX3_replace 75 = .ok (.goto (-57), 3) := by decide +kernel
theorem dX3_replace_78 : decode cX3_replace 78 = .ok (.iinc 4 1, 3) := by decide +kernel
theorem dX3_replace_81 : decode cX3_replace 81 = .ok (.goto (-75), 3) := by decide +kernel
theorem dX3_replace_84 : decode cX3_replace 84 = .ok (.iconst 0, 1) := by decide +kernel
theorem dX3_replace_85 : decode cX3_replace 85 = .ok (.istore 4, 2) := by decide +kernel
theorem dX3_replace_87 : decode cX3_replace 87 = .ok (.iload 4, 2) := by decide +kernel
theorem dX3_replace_89 : decode cX3_replace 89 = .ok (.aload_n 1, 1) := by decide +kernel
theorem dX3_replace_90 : decode cX3_replace 90 = .ok (.invokevirtual 55, 3) := by decide +kernel
theorem dX3_replace_93 : decode cX3_replace 93 = .ok (.if_icmp .ge 76, 3) := by decide +kernel
theorem dX3_replace_96 : decode cX3_replace 96 = .ok (.aload_n 1, 1) := by decide +kernel
theorem dX3_replace_97 : decode cX3_replace 97 = .ok (.getfield 62, 3) := by decide +kernel
theorem dX3_replace_100 : decode cX3_replace 100 = .ok (.iload 4, 2) := by decide +kernel
theorem dX3_replace_102 : decode cX3_replace 102 = .ok (.iaload, 1) := by decide +kernel
theorem dX3_replace_103 : decode cX3_replace 103 = .ok (.iload_n 2, 1) := by decide +kernel
theorem dX3_replace_104 : decode cX3_replace 104 = .ok (.if_icmp .ne 59, 3) := by decide +kernel
theorem dX3_replace_107 : decode cX3_replace 107 = .ok (.aload_n 1, 1) := by decide +kernel
theorem dX3_replace_108 : decode cX3_replace 108 = .ok (.getfield 62, 3) := by decide +kernel
theorem dX3_replace_111 : decode cX3_replace 111 = .ok (.iload 4, 2) := by decide +kernel
theorem dX3_replace_113 : decode cX3_replace 113 = .ok (.iload_n 3, 1) := by decide +kernel
theorem dX3_replace_114 : decode cX3_replace 114 = .ok (.iastore, 1) := by decide +kernel
theorem dX3_replace_115 : decode cX3_replace 115 = .ok (.iload 4, 2) := by decide +kernel
theorem dX3_replace_117 : decode cX3_replace 117 = .ok (.aload_n 1, 1) := by decide +kernel
theorem dX3_replace_118 : decode cX3_replace 118 = .ok (.getfield 91, 3) := by decide +kernel
theorem dX3_replace_121 : decode cX3_replace 121 = .ok (.if_icmp .ge 7, 3) := by decide +kernel
theorem dX3_replace_124 : decode cX3_replace 124 = .ok (.iconst 1, 1) := by decide +kernel
theorem dX3_replace_125 : decode cX3_replace 125 = .ok (.goto 4, 3) := by decide +kernel
theorem dX3_replace_128 : decode cX3_replace 128 = .ok (.iconst 0, 1) := by decide +kernel
theorem dX3_replace_129 : decode cX3_replace 129 = .ok (.istore 5, 2) := by decide +kernel
theorem dX3_replace_131 : decode cX3_replace 131 = .ok (.aload_n 0, 1) := by decide +kernel
theorem dX3_replace_132 : decode cX3_replace 132 = .ok (.iload 5, 2) := by decide +kernel
theorem dX3_replace_134 : decode cX3_replace 134 = .ok (.ifCond .eq 7, 3) := by decide +kernel
theorem dX3_replace_137 : decode cX3_replace 137 = .ok (.iconst 1, 1) := by decide +kernel
theorem dX3_replace_138 : decode cX3_replace 138 = .ok (.goto 4, 3) := by decide +kernel
theorem dX3_replace_141 : decode cX3_replace 141 = .ok (.iconst 2, 1) := by decide +kernel
theorem dX3_replace_142 : decode cX3_replace 142 = .ok (.iload 5, 2) := by decide +kernel
theorem dX3_replace_144 : decode cX3_replace 144 = .ok (.ifCond .eq 8, 3) := by decide +kernel
theorem dX3_replace_147 : decode cX3_replace 147 = .ok (.iload 4, 2) := by decide +kernel
theorem dX3_replace_149 : decode cX3_replace 149 = .ok (.goto 10, 3) := by decide +kernel
theorem dX3_replace_152 : decode cX3_replace 152 = .ok (.iload 4, 2) := by decide +kernel
theorem dX3_replace_154 : decode cX3_replace 154 = .ok (.aload_n 1, 1) := by decide +kernel
theorem dX3_replace_155 : decode cX3_replace 155 = .ok (.getfield 91, 3) := by decide +kernel
theorem dX3_replace_158 : decode cX3_replace 158 = .ok (.isub, 1) := by decide +kernel
theorem dX3_replace_159 : decode cX3_replace 159 = .ok (.iconst 0, 1) := by decide +kernel
theorem dX3_replace_160 : decode cX3_replace 160 = .ok (.invokevirtual 87, 3) := by decide +kernel
theorem dX3_replace_163 : decode cX3_replace 163 = .ok (.iinc 4 1, 3) := by decide +kernel
theorem dX3_replace_166 : decode cX3_replace 166 = .ok (.goto (-79), 3) := by decide +kernel
theorem dX3_replace_169 : decode cX3_replace 169 = .ok (.return_, 1) := by decide +kernel
theorem dX3_differs_0 : decode cX3_differs 0 = .ok (.iconst 0, 1) := by decide +kernel
theorem dX3_differs_1 : decode cX3_differs 1 = .ok (.istore_n 3, 1) := by decide +kernel
theorem dX3_differs_2 : decode cX3_differs 2 = .ok (.iload_n 3, 1) := by decide +kernel
theorem dX3_differs_3 : decode cX3_differs 3 = .ok (.aload_n 1, 1) := by decide +kernel
theorem dX3_differs_4 : decode cX3_differs 4 = .ok (.getfield 45, 3) := by decide +kernel
theorem dX3_differs_7 : decode cX3_differs 7 = .ok (.invokevirtual 55, 3) := by decide +kernel
theorem dX3_differs_10 : decode cX3_differs 10 = .ok (.if_icmp .ge 62, 3) := by decide +kernel
theorem dX3_differs_13 : decode cX3_differs 13 = .ok (.aload_n 1, 1) := by decide +kernel
theorem dX3_differs_14 : decode cX3_differs 14 = .ok (.getfield 59, 3) := by decide +kernel
theorem dX3_differs_17 : decode cX3_differs 17 = .ok (.iconst 4, 1) := by decide +kernel
theorem dX3_differs_18 : decode cX3_differs 18 = .ok (.aload_n 1, 1) := by decide +kernel
theorem dX3_differs_19 : decode cX3_differs 19 = .ok (.getfield 45, 3) := by decide +kernel
theorem dX3_differs_22 : decode cX3_differs 22 = .ok (.getfield 62, 3) := by decide +kernel
theorem dX3_differs_25 : decode cX3_differs 25 = .ok (.iload_n 3, 1) := by decide +kernel
theorem dX3_differs_26 : decode cX3_differs 26 = .ok (.iaload, 1) := by decide +kernel
theorem dX3_differs_27 : decode cX3_differs 27 = .ok (.imul, 1) := by decide +kernel
theorem dX3_differs_28 : decode cX3_differs 28 = .ok (.iload_n 2, 1) := by decide +kernel
theorem dX3_differs_29 : decode cX3_differs 29 = .ok (.bipush 64, 2) := by decide +kernel
theorem dX3_differs_31 : decode cX3_differs 31 = .ok (.idiv, 1) := by decide +kernel
theorem dX3_differs_32 : decode cX3_differs 32 = .ok (.iadd, 1) := by decide +kernel
theorem dX3_differs_33 : decode cX3_differs 33 = .ok (.laload, 1) := by decide +kernel
theorem dX3_differs_34 : decode cX3_differs 34 = .ok (.lstore 4, 2) := by decide +kernel
theorem dX3_differs_36 : decode cX3_differs 36 = .ok (.lload 4, 2) := by decide +kernel
theorem dX3_differs_38 : decode cX3_differs 38 = .ok (.aload_n 0, 1) := by decide +kernel
theorem dX3_differs_39 : decode cX3_differs 39 = .ok (.getfield 27, 3) := by decide +kernel
theorem dX3_differs_42 : decode cX3_differs 42 = .ok (.iconst 4, 1) := by decide +kernel
theorem dX3_differs_43 : decode cX3_differs 43 = .ok (.iload_n 3, 1) := by decide +kernel
theorem dX3_differs_44 : decode cX3_differs 44 = .ok (.imul, 1) := by decide +kernel
theorem dX3_differs_45 : decode cX3_differs 45 = .ok (.iload_n 2, 1) := by decide +kernel
theorem dX3_differs_46 : decode cX3_differs 46 = .ok (.bipush 64, 2) := by decide +kernel
theorem dX3_differs_48 : decode cX3_differs 48 = .ok (.idiv, 1) := by decide +kernel
theorem dX3_differs_49 : decode cX3_differs 49 = .ok (.iadd, 1) := by decide +kernel
theorem dX3_differs_50 : decode cX3_differs 50 = .ok (.laload, 1) := by decide +kernel
theorem dX3_differs_51 : decode cX3_differs 51 = .ok (.lxor, 1) := by decide +kernel
theorem dX3_differs_52 : decode cX3_differs 52 = .ok (.iload_n 2, 1) := by decide +kernel
theorem dX3_differs_53 : decode cX3_differs 53 = .ok (.bipush 64, 2) := by decide +kernel
theorem dX3_differs_55 : decode cX3_differs 55 = .ok (.irem, 1) := by decide +kernel
theorem dX3_differs_56 : decode cX3_differs 56 = .ok (.lshr, 1) := by decide +kernel
theorem dX3_differs_57 : decode cX3_differs 57 = .ok (.lconst 1, 1) := by decide +kernel
theorem dX3_differs_58 : decode cX3_differs 58 = .ok (.land, 1) := by decide +kernel
theorem dX3_differs_59 : decode cX3_differs 59 = .ok (.lconst 1, 1) := by decide +kernel
theorem dX3_differs_60 : decode cX3_differs 60 = .ok (.lcmp, 1) := by decide +kernel
theorem dX3_differs_61 : decode cX3_differs 61 = .ok (.ifCond .ne 5, 3) := by decide +kernel
theorem dX3_differs_64 : decode cX3_differs 64 = .ok (.iconst 1, 1) := by decide +kernel
theorem dX3_differs_65 : decode cX3_differs 65 = .ok (.ireturn, 1) := by decide +kernel
theorem dX3_differs_66 : decode cX3_differs 66 = .ok (.iinc 3 1, 3) := by decide +kernel
theorem dX3_differs_69 : decode cX3_differs 69 = .ok (.goto (-67), 3) := by decide +kernel
theorem dX3_differs_72 : decode cX3_differs 72 = .ok (.iconst 0, 1) := by decide +kernel
theorem dX3_differs_73 : decode cX3_differs 73 = .ok (.ireturn, 1) := by decide +kernel
theorem dX3_findTests_0 : decode cX3_findTests 0 = .ok (.aload_n 0, 1) := by decide +kernel
theorem dX3_findTests_1 : decode cX3_findTests 1 = .ok (.iconst 0, 1) := by decide +kernel
theorem dX3_findTests_2 : decode cX3_findTests 2 = .ok (.putfield 39, 3) := by decide +kernel
theorem dX3_findTests_5 : decode cX3_findTests 5 = .ok (.iconst 0, 1) := by decide +kernel
theorem dX3_findTests_6 : decode cX3_findTests 6 = .ok (.istore_n 3, 1) := by decide +kernel
theorem dX3_findTests_7 : decode cX3_findTests 7 = .ok (.iload_n 3, 1) := by decide +kernel
theorem dX3_findTests_8 : decode cX3_findTests 8 = .ok (.aload_n 2, 1) := by decide +kernel
theorem dX3_findTests_9 : decode cX3_findTests 9 = .ok (.getfield 94, 3) := by decide +kernel
theorem dX3_findTests_12 : decode cX3_findTests 12 = .ok (.if_icmp .ge 46, 3) := by decide +kernel
theorem dX3_findTests_15 : decode cX3_findTests 15 = .ok (.aload_n 2, 1) := by decide +kernel
theorem dX3_findTests_16 : decode cX3_findTests 16 = .ok (.iload_n 3, 1) := by decide +kernel
theorem dX3_findTests_17 : decode cX3_findTests 17 = .ok (.invokevirtual 99, 3) := by decide +kernel
theorem dX3_findTests_20 : decode cX3_findTests 20 = .ok (.ifCond .eq 32, 3) := by decide +kernel
theorem dX3_findTests_23 : decode cX3_findTests 23 = .ok (.aload_n 0, 1) := by decide +kernel
theorem dX3_findTests_24 : decode cX3_findTests 24 = .ok (.aload_n 1, 1) := by decide +kernel
theorem dX3_findTests_25 : decode cX3_findTests 25 = .ok (.iload_n 3, 1) := by decide +kernel
theorem dX3_findTests_26 : decode cX3_findTests 26 = .ok (.invokevirtual 103, 3) := by decide +kernel
theorem dX3_findTests_29 : decode cX3_findTests 29 = .ok (.ifCond .eq 23, 3) := by decide +kernel
theorem dX3_findTests_32 : decode cX3_findTests 32 = .ok (.aload_n 0, 1) := by decide +kernel
theorem dX3_findTests_33 : decode cX3_findTests 33 = .ok (.getfield 24, 3) := by decide +kernel
theorem dX3_findTests_36 : decode cX3_findTests 36 = .ok (.aload_n 0, 1) := by decide +kernel
theorem dX3_findTests_37 : decode cX3_findTests 37 = .ok (.getfield 39, 3) := by decide +kernel
theorem dX3_findTests_40 : decode cX3_findTests 40 = .ok (.iload_n 3, 1) := by decide +kernel
theorem dX3_findTests_41 : decode cX3_findTests 41 = .ok (.iastore, 1) := by decide +kernel
theorem dX3_findTests_42 : decode cX3_findTests 42 = .ok (.aload_n 0, 1) := by decide +kernel
theorem dX3_findTests_43 : decode cX3_findTests 43 = .ok (.dup, 1) := by decide +kernel
theorem dX3_findTests_44 : decode cX3_findTests 44 = .ok (.getfield 39, 3) := by decide +kernel
theorem dX3_findTests_47 : decode cX3_findTests 47 = .ok (.iconst 1, 1) := by decide +kernel
theorem dX3_findTests_48 : decode cX3_findTests 48 = .ok (.iadd, 1) := by decide +kernel
theorem dX3_findTests_49 : decode cX3_findTests 49 = .ok (.putfield 39, 3) := by decide +kernel
theorem dX3_findTests_52 : decode cX3_findTests 52 = .ok (.iinc 3 1, 3) := by decide +kernel
theorem dX3_findTests_55 : decode cX3_findTests 55 = .ok (.goto (-48), 3) := by decide +kernel
theorem dX3_findTests_58 : decode cX3_findTests 58 = .ok (.return_, 1) := by decide +kernel
def XX3_start  (h : Hp) : OR :=
  hm (wr h 72 2 0) (fun h1 => hm (wr h1 72 4 0) (fun h2 => hm (wr h2 72 6 0) (fun h3 => some (0, h3))))
theorem sX3_start {G : GG} {w : Wd} (hw : okX0 w)  (h : Hp) : SC G w yX3_start (Cond.code yX3_start cX3_start 1 (Option.none : Option Jvm.ClassFile.FieldType)) 1 3 [vP 72] (XX3_start  h) h := by
  refine SC_of (own := "GatePatch$Journal") plain_Journal rfl (Nat.le_of_ble_eq_true rfl) (fun Γ hG g => ?_)
  subst hG
  show Sim Γ w 3 _ h 0 [(0, vP 72)] []
  unfold XX3_start
  refine S_aload_n (kk := 0) g dX3_start_0 rfl rfl ?_
  refine S_iconst g dX3_start_1 ⟨by decide, by decide⟩ ?_
  refine S_puti g dX3_start_2 fp_Journal_32 (at0_72 hw) rfl (fun h1 => ?_)
  refine S_aload_n (kk := 0) g dX3_start_5 rfl rfl ?_
  refine S_iconst g dX3_start_6 ⟨by decide, by decide⟩ ?_
  refine S_puti g dX3_start_7 fp_Journal_36 (at0_72 hw) rfl (fun h2 => ?_)
  refine S_aload_n (kk := 0) g dX3_start_10 rfl rfl ?_
  refine S_iconst g dX3_start_11 ⟨by decide, by decide⟩ ?_
  refine S_puti g dX3_start_12 fp_Journal_39 (at0_72 hw) rfl (fun h3 => ?_)
  exact S_return g dX3_start_15 rfl

def XX3_forgetOldest_b9 (a1 : Nat)  (self9 : Int → Hp → OR) (l2 : Int) (h : Hp) : OR :=
  if 4 ≤ l2 then inb 3 4 (hm (wr h 73 (3 : Int).toNat a1) (fun h3 => hm (wr h3 72 2 3) (fun h4 => some (0, h4)))) else chk (l2 - 1) (inb l2 4 (nmP (h 73 l2.toNat).toNat (fun u5 => asr (u5 = 78 ∨ u5 = 83 ∨ u5 = 88 ∨ u5 = 93) (inb (l2 - 1) 4 (hm (wr h 73 (l2 - 1).toNat u5) (fun h7 => chk (l2 - 1) (inb l2 4 (inb (l2 - 1) 4 (hm (wr h7 74 (l2 - 1).toNat (h7 74 l2.toNat)) (fun h8 => chk (l2 + 1) (self9 (l2 + 1) h8)))))))))))
def XX3_forgetOldest_L9 (a1 : Nat)  (l2 : Int) (h : Hp) : OR := lup1 (XX3_forgetOldest_b9 a1) FU l2 h
def XX3_forgetOldest  (h : Hp) : OR :=
  inb 0 4 (nmP (h 73 (0 : Int).toNat).toNat (fun u1 => asr (u1 = 78 ∨ u1 = 83 ∨ u1 = 88 ∨ u1 = 93) (XX3_forgetOldest_L9 u1 1 h)))
theorem sX3_forgetOldest_L9 {Γ : Cx} {w : Wd} (hw : okX w) (g : Gd Γ cX3_forgetOldest 3 "GatePatch$Journal" (Option.none : Option Jvm.ClassFile.FieldType) (rmd 1)) (a1 : Nat) (ha1 : isPl w a1)  : ∀ (l2 : Int) (h : Hp), Sim Γ w 3 (XX3_forgetOldest_L9 a1 l2 h) h 9 [(0, vP 72), (1, vP a1), (2, vI l2)] [] := by
  refine S_lup1 (fun l2 => [(0, vP 72), (1, vP a1), (2, vI l2)]) (fun self9 hs9 l2 h => ?_) FU
  unfold XX3_forgetOldest_b9
  refine S_iload_n (kk := 2) g dX3_forgetOldest_9 rfl rfl ?_
  refine S_iconst g dX3_forgetOldest_10 ⟨by decide, by decide⟩ ?_
  refine S_icmp_ge (tgt := 48) g dX3_forgetOldest_11 (by decide) ?_ ?_
  · refine S_aload_n (kk := 0) g dX3_forgetOldest_48 rfl rfl ?_
    refine S_getr g dX3_forgetOldest_49 fl_Journal_11 (at_72 hw) rfl (rc_72_0 hw) ?_
    refine S_iconst g dX3_forgetOldest_52 ⟨by decide, by decide⟩ ?_
    refine S_aload_n (kk := 1) g dX3_forgetOldest_53 rfl rfl ?_
    refine S_aastore g dX3_forgetOldest_54 (at_73 hw) rfl (by decide) ha1.1 rfl (fun h3 => ?_)
    refine S_aload_n (kk := 0) g dX3_forgetOldest_55 rfl rfl ?_
    refine S_iconst g dX3_forgetOldest_56 ⟨by decide, by decide⟩ ?_
    refine S_puti g dX3_forgetOldest_57 fp_Journal_32 (at_72 hw) rfl (fun h4 => ?_)
    exact S_return g dX3_forgetOldest_60 rfl
  · refine S_aload_n (kk := 0) g dX3_forgetOldest_14 rfl rfl ?_
    refine S_getr g dX3_forgetOldest_15 fl_Journal_11 (at_72 hw) rfl (rc_72_0 hw) ?_
    refine S_iload_n (kk := 2) g dX3_forgetOldest_18 rfl rfl ?_
    refine S_iconst g dX3_forgetOldest_19 ⟨by decide, by decide⟩ ?_
    refine S_isub g dX3_forgetOldest_20 ?_
    refine S_aload_n (kk := 0) g dX3_forgetOldest_21 rfl rfl ?_
    refine S_getr g dX3_forgetOldest_22 fl_Journal_11 (at_72 hw) rfl (rc_72_0 hw) ?_
    refine S_iload_n (kk := 2) g dX3_forgetOldest_25 rfl rfl ?_
    refine S_aaload g dX3_forgetOldest_26 (at_73 hw) (Or.inl rfl) ?_
    refine S_nmP (fun u5 => ?_)
    refine S_asr (fun q6 => ?_)
    refine S_aastore g dX3_forgetOldest_27 (at_73 hw) rfl (by decide) (pl_of hw q6).1 rfl (fun h7 => ?_)
    refine S_aload_n (kk := 0) g dX3_forgetOldest_28 rfl rfl ?_
    refine S_getr g dX3_forgetOldest_29 fl_Journal_17 (at_72 hw) rfl (rc_72_1 hw) ?_
    refine S_iload_n (kk := 2) g dX3_forgetOldest_32 rfl rfl ?_
    refine S_iconst g dX3_forgetOldest_33 ⟨by decide, by decide⟩ ?_
    refine S_isub g dX3_forgetOldest_34 ?_
    refine S_aload_n (kk := 0) g dX3_forgetOldest_35 rfl rfl ?_
    refine S_getr g dX3_forgetOldest_36 fl_Journal_17 (at_72 hw) rfl (rc_72_1 hw) ?_
    refine S_iload_n (kk := 2) g dX3_forgetOldest_39 rfl rfl ?_
    refine S_iaload g dX3_forgetOldest_40 (at_74 hw) ?_
    refine S_iastore g dX3_forgetOldest_41 (at_74 hw) (fun h8 => ?_)
    refine S_iinc (kk := 2) g dX3_forgetOldest_42 rfl (by decide) rfl ?_
    refine S_goto (tgt := 9) g dX3_forgetOldest_45 (by decide) ?_
    refine S_sub g [1, 2, 0] rfl ?_
    exact hs9 _ _

theorem sX3_forgetOldest {G : GG} {w : Wd} (hw : okX w)  (h : Hp) : SC G w yX3_forgetOldest (Cond.code yX3_forgetOldest cX3_forgetOldest 3 (Option.none : Option Jvm.ClassFile.FieldType)) 1 3 [vP 72] (XX3_forgetOldest  h) h := by
  refine SC_of (own := "GatePatch$Journal") plain_Journal rfl (Nat.le_of_ble_eq_true rfl) (fun Γ hG g => ?_)
  subst hG
  show Sim Γ w 3 _ h 0 [(0, vP 72)] []
  unfold XX3_forgetOldest
  refine S_aload_n (kk := 0) g dX3_forgetOldest_0 rfl rfl ?_
  refine S_getr g dX3_forgetOldest_1 fl_Journal_11 (at_72 hw) rfl (rc_72_0 hw) ?_
  refine S_iconst g dX3_forgetOldest_4 ⟨by decide, by decide⟩ ?_
  refine S_aaload g dX3_forgetOldest_5 (at_73 hw) (Or.inl rfl) ?_
  refine S_nmP (fun u1 => ?_)
  refine S_asr (fun q2 => ?_)
  refine S_astore_n g dX3_forgetOldest_6 rfl (by decide) rfl ?_
  refine S_iconst g dX3_forgetOldest_7 ⟨by decide, by decide⟩ ?_
  refine S_istore_n g dX3_forgetOldest_8 rfl (by decide) rfl ?_
  refine S_sub g [2, 1, 0] rfl ?_
  exact sX3_forgetOldest_L9 hw g u1 (pl_of hw q2) _ _

def XX3_open_b55 (a1 : Nat)  (self55 : Int → Hp → OR) (l3 : Int) (h : Hp) : OR :=
  cal (XX8_seenCount (a1 + 1) h) (fun r8 h9 => if r8 ≤ l3 then some (0, h9) else inb l3 6 (chk (4 * (h9 ((a1 + 1) + 3) l3.toNat)) (chk (4 * l3) (acp (4 * (h9 ((a1 + 1) + 3) l3.toNat)) (4 * l3) 4 192 24 (hm (cpy h9 (a1 + 8) (4 * (h9 ((a1 + 1) + 3) l3.toNat)).toNat 77 (4 * l3).toNat (4 : Int).toNat) (fun h10 => chk (l3 + 1) (self55 (l3 + 1) h10)))))))
def XX3_open_L55 (a1 : Nat)  (l3 : Int) (h : Hp) : OR := lup1 (XX3_open_b55 a1) FU l3 h
def XX3_open_p12 (a1 : Nat)  (l2 : Int) (h : Hp) : OR :=
  inb (h 72 2) 4 (nmP (h 73 (h 72 2).toNat).toNat (fun u1 => asr (u1 = 78 ∨ u1 = 83 ∨ u1 = 88 ∨ u1 = 93) (cal (XX8_take u1 (a1 + 1) h) (fun r3 h4 => inb (h4 72 2) 4 (hm (wr h4 74 (h4 72 2).toNat l2) (fun h5 => chk ((h5 72 2) + 1) (hm (wr h5 72 2 ((h5 72 2) + 1)) (fun h6 => hm (wr h6 72 4 0) (fun h7 => XX3_open_L55 a1 0 h7)))))))))
def XX3_open (x0 : Nat) (x1 : Int) (h : Hp) : OR :=
  if (h 72 2) < 4 then XX3_open_p12 x0 x1 h else cal (XX3_forgetOldest h) (fun r11 h12 => XX3_open_p12 x0 x1 h12)
theorem sX3_open_L55 {Γ : Cx} {w : Wd} (hw : okX w) (g : Gd Γ cX3_open 4 "GatePatch$Journal" (Option.none : Option Jvm.ClassFile.FieldType) (rmd 2)) (a1 : Nat) (ha1 : isNt w a1)  : ∀ (l3 : Int) (h : Hp), Sim Γ w 3 (XX3_open_L55 a1 l3 h) h 55 [(0, vP 72), (1, vP a1), (3, vI l3)] [] := by
  refine S_lup1 (fun l3 => [(0, vP 72), (1, vP a1), (3, vI l3)]) (fun self55 hs55 l3 h => ?_) FU
  unfold XX3_open_b55
  refine S_iload_n (kk := 2) g dX3_open_55 rfl rfl ?_
  refine S_aload_n (kk := 1) g dX3_open_56 rfl rfl ?_
  refine S_getr g dX3_open_57 fl_Journal_45 ha1.1 rfl ha1.2.1 ?_
  refine S_callVi (As := []) g dX3_open_60 (sX8_seenCount hw (a1 + 1) ha1.2.2.2.2.2.2.1 _) rfl ha1.2.2.2.2.2.2.1.1 rfl im_X8_seenCount se_X8_seenCount cw_X8_seenCount ml_Journal_55 ini_Plan nd_X8_seenCount ⟨by decide, by decide⟩ (Nat.le_of_ble_eq_true rfl) (fun r8 h9 => ?_)
  refine S_icmp_ge (tgt := 98) g dX3_open_63 (by decide) ?_ ?_
  · exact S_return g dX3_open_98 rfl
  · refine S_aload_n (kk := 1) g dX3_open_66 rfl rfl ?_
    refine S_getr g dX3_open_67 fl_Journal_59 ha1.1 rfl ha1.2.2.2.2.1 ?_
    refine S_iconst g dX3_open_70 ⟨by decide, by decide⟩ ?_
    refine S_aload_n (kk := 1) g dX3_open_71 rfl rfl ?_
    refine S_getr g dX3_open_72 fl_Journal_45 ha1.1 rfl ha1.2.1 ?_
    refine S_getr g dX3_open_75 fl_Journal_62 ha1.2.2.2.2.2.2.1.1 rfl ha1.2.2.2.2.2.2.1.2.2.2.1 ?_
    refine S_iload_n (kk := 2) g dX3_open_78 rfl rfl ?_
    refine S_iaload g dX3_open_79 ha1.2.2.2.2.2.2.1.2.2.2.2.2.2.2.1 ?_
    refine S_imul g dX3_open_80 ?_
    refine S_aload_n (kk := 0) g dX3_open_81 rfl rfl ?_
    refine S_getr g dX3_open_82 fl_Journal_27 (at_72 hw) rfl (rc_72_7 hw) ?_
    refine S_iconst g dX3_open_85 ⟨by decide, by decide⟩ ?_
    refine S_iload_n (kk := 2) g dX3_open_86 rfl rfl ?_
    refine S_imul g dX3_open_87 ?_
    refine S_iconst g dX3_open_88 ⟨by decide, by decide⟩ ?_
    refine S_copyl g dX3_open_89 ml_Journal_65 acp_nat acp_st ini_Sys ha1.2.2.2.2.2.2.2.2.2.1 (at_77 hw) (by decide) (by decide) (fun h10 => ?_)
    refine S_iinc (kk := 2) g dX3_open_92 rfl (by decide) rfl ?_
    refine S_goto (tgt := 55) g dX3_open_95 (by decide) ?_
    refine S_sub g [1, 2, 0] rfl ?_
    exact hs55 _ _

theorem sX3_open_p12 {Γ : Cx} {w : Wd} (hw : okX w) (g : Gd Γ cX3_open 4 "GatePatch$Journal" (Option.none : Option Jvm.ClassFile.FieldType) (rmd 2)) (a1 : Nat) (ha1 : isNt w a1)  (l2 : Int) (h : Hp) : Sim Γ w 3 (XX3_open_p12 a1 l2  h) h 12 [(0, vP 72), (1, vP a1), (2, vI l2)] [] := by
  unfold XX3_open_p12
  refine S_aload_n (kk := 0) g dX3_open_12 rfl rfl ?_
  refine S_getr g dX3_open_13 fl_Journal_11 (at_72 hw) rfl (rc_72_0 hw) ?_
  refine S_aload_n (kk := 0) g dX3_open_16 rfl rfl ?_
  refine S_geti g dX3_open_17 fl_Journal_32 (at_72 hw) (Or.inl rfl) ?_
  refine S_aaload g dX3_open_20 (at_73 hw) (Or.inl rfl) ?_
  refine S_nmP (fun u1 => ?_)
  refine S_asr (fun q2 => ?_)
  refine S_aload_n (kk := 1) g dX3_open_21 rfl rfl ?_
  refine S_getr g dX3_open_22 fl_Journal_45 ha1.1 rfl ha1.2.1 ?_
  refine S_callVv (As := [vP (a1 + 1)]) g dX3_open_25 (sX8_take hw u1 (pl_of hw q2) (a1 + 1) ha1.2.2.2.2.2.2.1 _) rfl (pl_of hw q2).1 rfl im_X8_take se_X8_take cw_X8_take ml_Journal_51 ini_Plan nd_X8_take ⟨by decide, by decide⟩ (Nat.le_of_ble_eq_true rfl) (fun r3 h4 => ?_)
  refine S_aload_n (kk := 0) g dX3_open_28 rfl rfl ?_
  refine S_getr g dX3_open_29 fl_Journal_17 (at_72 hw) rfl (rc_72_1 hw) ?_
  refine S_aload_n (kk := 0) g dX3_open_32 rfl rfl ?_
  refine S_geti g dX3_open_33 fl_Journal_32 (at_72 hw) (Or.inl rfl) ?_
  refine S_iload_n (kk := 2) g dX3_open_36 rfl rfl ?_
  refine S_iastore g dX3_open_37 (at_74 hw) (fun h5 => ?_)
  refine S_aload_n (kk := 0) g dX3_open_38 rfl rfl ?_
  refine S_dup g dX3_open_39 rfl ?_
  refine S_geti g dX3_open_40 fl_Journal_32 (at_72 hw) (Or.inl rfl) ?_
  refine S_iconst g dX3_open_43 ⟨by decide, by decide⟩ ?_
  refine S_iadd g dX3_open_44 ?_
  refine S_puti g dX3_open_45 fp_Journal_32 (at_72 hw) rfl (fun h6 => ?_)
  refine S_aload_n (kk := 0) g dX3_open_48 rfl rfl ?_
  refine S_iconst g dX3_open_49 ⟨by decide, by decide⟩ ?_
  refine S_puti g dX3_open_50 fp_Journal_36 (at_72 hw) rfl (fun h7 => ?_)
  refine S_iconst g dX3_open_53 ⟨by decide, by decide⟩ ?_
  refine S_istore_n g dX3_open_54 rfl (by decide) rfl ?_
  refine S_sub g [1, 2, 0] rfl ?_
  exact sX3_open_L55 hw g a1 ha1 _ _

theorem sX3_open {G : GG} {w : Wd} (hw : okX w) (x0 : Nat) (hx0 : isNt w x0) (x1 : Int) (h : Hp) : SC G w yX3_open (Cond.code yX3_open cX3_open 4 (Option.none : Option Jvm.ClassFile.FieldType)) 2 3 [vP 72, vP x0, vI x1] (XX3_open x0 x1 h) h := by
  refine SC_of (own := "GatePatch$Journal") plain_Journal rfl (Nat.le_of_ble_eq_true rfl) (fun Γ hG g => ?_)
  subst hG
  show Sim Γ w 3 _ h 0 [(0, vP 72), (1, vP x0), (2, vI x1)] []
  unfold XX3_open
  refine S_aload_n (kk := 0) g dX3_open_0 rfl rfl ?_
  refine S_geti g dX3_open_1 fl_Journal_32 (at_72 hw) (Or.inl rfl) ?_
  refine S_iconst g dX3_open_4 ⟨by decide, by decide⟩ ?_
  refine S_icmp_lt (tgt := 12) g dX3_open_5 (by decide) ?_ ?_
  · exact sX3_open_p12 hw g x0 hx0 _ _
  · refine S_aload_n (kk := 0) g dX3_open_8 rfl rfl ?_
    refine S_callVv (As := []) g dX3_open_9 (sX3_forgetOldest hw  _) rfl (at_72 hw) rfl im_X3_forgetOldest se_X3_forgetOldest cw_X3_forgetOldest ml_Journal_42 ini_Journal nd_X3_forgetOldest ⟨by decide, by decide⟩ (Nat.le_of_ble_eq_true rfl) (fun r11 h12 => ?_)
    exact sX3_open_p12 hw g x0 hx0 _ _

def XX3_takeBack (x0 : Nat) (h : Hp) : OR :=
  chk ((h 72 2) - 1) (hm (wr h 72 2 ((h 72 2) - 1)) (fun h1 => inb (h1 72 2) 4 (nmP (h1 73 (h1 72 2).toNat).toNat (fun u2 => asr (u2 = 78 ∨ u2 = 83 ∨ u2 = 88 ∨ u2 = 93) (cal (XX8_take x0 u2 h1) (fun r4 h5 => inb (h5 72 2) 4 (some ((h5 74 (h5 72 2).toNat), h5))))))))
theorem sX3_takeBack {G : GG} {w : Wd} (hw : okX w) (x0 : Nat) (hx0 : isPl w x0) (h : Hp) : SC G w yX3_takeBack (Cond.code yX3_takeBack cX3_takeBack 2 (Option.some Jvm.ClassFile.FieldType.int)) 2 0 [vP 72, vP x0] (XX3_takeBack x0 h) h := by
  refine SC_of (own := "GatePatch$Journal") plain_Journal rfl (Nat.le_of_ble_eq_true rfl) (fun Γ hG g => ?_)
  subst hG
  show Sim Γ w 0 _ h 0 [(0, vP 72), (1, vP x0)] []
  unfold XX3_takeBack
  refine S_aload_n (kk := 0) g dX3_takeBack_0 rfl rfl ?_
  refine S_dup g dX3_takeBack_1 rfl ?_
  refine S_geti g dX3_takeBack_2 fl_Journal_32 (at_72 hw) (Or.inl rfl) ?_
  refine S_iconst g dX3_takeBack_5 ⟨by decide, by decide⟩ ?_
  refine S_isub g dX3_takeBack_6 ?_
  refine S_puti g dX3_takeBack_7 fp_Journal_32 (at_72 hw) rfl (fun h1 => ?_)
  refine S_aload_n (kk := 1) g dX3_takeBack_10 rfl rfl ?_
  refine S_aload_n (kk := 0) g dX3_takeBack_11 rfl rfl ?_
  refine S_getr g dX3_takeBack_12 fl_Journal_11 (at_72 hw) rfl (rc_72_0 hw) ?_
  refine S_aload_n (kk := 0) g dX3_takeBack_15 rfl rfl ?_
  refine S_geti g dX3_takeBack_16 fl_Journal_32 (at_72 hw) (Or.inl rfl) ?_
  refine S_aaload g dX3_takeBack_19 (at_73 hw) (Or.inl rfl) ?_
  refine S_nmP (fun u2 => ?_)
  refine S_asr (fun q3 => ?_)
  refine S_callVv (As := [vP u2]) g dX3_takeBack_20 (sX8_take hw x0 hx0 u2 (pl_of hw q3) _) rfl hx0.1 rfl im_X8_take se_X8_take cw_X8_take ml_Journal_51 ini_Plan nd_X8_take ⟨by decide, by decide⟩ (Nat.le_of_ble_eq_true rfl) (fun r4 h5 => ?_)
  refine S_aload_n (kk := 0) g dX3_takeBack_23 rfl rfl ?_
  refine S_getr g dX3_takeBack_24 fl_Journal_17 (at_72 hw) rfl (rc_72_1 hw) ?_
  refine S_aload_n (kk := 0) g dX3_takeBack_27 rfl rfl ?_
  refine S_geti g dX3_takeBack_28 fl_Journal_32 (at_72 hw) (Or.inl rfl) ?_
  refine S_iaload g dX3_takeBack_31 (at_74 hw) ?_
  exact S_ireturn g dX3_takeBack_32 rfl

def XX3_note (x0 : Int) (x1 : Int) (x2 : Int) (h : Hp) : OR :=
  chk (3 * (h 72 4)) (chk ((3 * (h 72 4)) + 2) (if 378 ≤ ((3 * (h 72 4)) + 2) then some (0, h) else chk (3 * (h 72 4)) (inb (3 * (h 72 4)) 378 (hm (wr h 75 (3 * (h 72 4)).toNat x0) (fun h1 => chk (3 * (h1 72 4)) (chk ((3 * (h1 72 4)) + 1) (inb ((3 * (h1 72 4)) + 1) 378 (hm (wr h1 75 ((3 * (h1 72 4)) + 1).toNat x1) (fun h2 => chk (3 * (h2 72 4)) (chk ((3 * (h2 72 4)) + 2) (inb ((3 * (h2 72 4)) + 2) 378 (hm (wr h2 75 ((3 * (h2 72 4)) + 2).toNat x2) (fun h3 => chk ((h3 72 4) + 1) (hm (wr h3 72 4 ((h3 72 4) + 1)) (fun h4 => some (0, h4))))))))))))))))
theorem sX3_note {G : GG} {w : Wd} (hw : okX w) (x0 : Int) (x1 : Int) (x2 : Int) (h : Hp) : SC G w yX3_note (Cond.code yX3_note cX3_note 4 (Option.none : Option Jvm.ClassFile.FieldType)) 1 3 [vP 72, vI x0, vI x1, vI x2] (XX3_note x0 x1 x2 h) h := by
  refine SC_of (own := "GatePatch$Journal") plain_Journal rfl (Nat.le_of_ble_eq_true rfl) (fun Γ hG g => ?_)
  subst hG
  show Sim Γ w 3 _ h 0 [(0, vP 72), (1, vI x0), (2, vI x1), (3, vI x2)] []
  unfold XX3_note
  refine S_iconst g dX3_note_0 ⟨by decide, by decide⟩ ?_
  refine S_aload_n (kk := 0) g dX3_note_1 rfl rfl ?_
  refine S_geti g dX3_note_2 fl_Journal_36 (at_72 hw) (Or.inl rfl) ?_
  refine S_imul g dX3_note_5 ?_
  refine S_iconst g dX3_note_6 ⟨by decide, by decide⟩ ?_
  refine S_iadd g dX3_note_7 ?_
  refine S_aload_n (kk := 0) g dX3_note_8 rfl rfl ?_
  refine S_getr g dX3_note_9 fl_Journal_21 (at_72 hw) rfl (rc_72_3 hw) ?_
  refine S_alen g dX3_note_12 (at_75 hw) (by decide) ⟨by decide, by decide⟩ ?_
  refine S_icmp_ge (tgt := 66) g dX3_note_13 (by decide) ?_ ?_
  · exact S_return g dX3_note_66 rfl
  · refine S_aload_n (kk := 0) g dX3_note_16 rfl rfl ?_
    refine S_getr g dX3_note_17 fl_Journal_21 (at_72 hw) rfl (rc_72_3 hw) ?_
    refine S_iconst g dX3_note_20 ⟨by decide, by decide⟩ ?_
    refine S_aload_n (kk := 0) g dX3_note_21 rfl rfl ?_
    refine S_geti g dX3_note_22 fl_Journal_36 (at_72 hw) (Or.inl rfl) ?_
    refine S_imul g dX3_note_25 ?_
    refine S_iload_n (kk := 1) g dX3_note_26 rfl rfl ?_
    refine S_iastore g dX3_note_27 (at_75 hw) (fun h1 => ?_)
    refine S_aload_n (kk := 0) g dX3_note_28 rfl rfl ?_
    refine S_getr g dX3_note_29 fl_Journal_21 (at_72 hw) rfl (rc_72_3 hw) ?_
    refine S_iconst g dX3_note_32 ⟨by decide, by decide⟩ ?_
    refine S_aload_n (kk := 0) g dX3_note_33 rfl rfl ?_
    refine S_geti g dX3_note_34 fl_Journal_36 (at_72 hw) (Or.inl rfl) ?_
    refine S_imul g dX3_note_37 ?_
    refine S_iconst g dX3_note_38 ⟨by decide, by decide⟩ ?_
    refine S_iadd g dX3_note_39 ?_
    refine S_iload_n (kk := 2) g dX3_note_40 rfl rfl ?_
    refine S_iastore g dX3_note_41 (at_75 hw) (fun h2 => ?_)
    refine S_aload_n (kk := 0) g dX3_note_42 rfl rfl ?_
    refine S_getr g dX3_note_43 fl_Journal_21 (at_72 hw) rfl (rc_72_3 hw) ?_
    refine S_iconst g dX3_note_46 ⟨by decide, by decide⟩ ?_
    refine S_aload_n (kk := 0) g dX3_note_47 rfl rfl ?_
    refine S_geti g dX3_note_48 fl_Journal_36 (at_72 hw) (Or.inl rfl) ?_
    refine S_imul g dX3_note_51 ?_
    refine S_iconst g dX3_note_52 ⟨by decide, by decide⟩ ?_
    refine S_iadd g dX3_note_53 ?_
    refine S_iload_n (kk := 3) g dX3_note_54 rfl rfl ?_
    refine S_iastore g dX3_note_55 (at_75 hw) (fun h3 => ?_)
    refine S_aload_n (kk := 0) g dX3_note_56 rfl rfl ?_
    refine S_dup g dX3_note_57 rfl ?_
    refine S_geti g dX3_note_58 fl_Journal_36 (at_72 hw) (Or.inl rfl) ?_
    refine S_iconst g dX3_note_61 ⟨by decide, by decide⟩ ?_
    refine S_iadd g dX3_note_62 ?_
    refine S_puti g dX3_note_63 fp_Journal_36 (at_72 hw) rfl (fun h4 => ?_)
    exact S_return g dX3_note_66 rfl

def XX3_replace_p163 (a1 : Nat) (self87 : Int → Int → Int → Hp → OR) (l2 l3 l4 : Int) (h : Hp) : OR :=
  chk (l4 + 1) (self87 l2 l3 (l4 + 1) h)
def XX3_replace_p159 (a1 : Nat) (self87 : Int → Int → Int → Hp → OR) (l2 l3 l4 : Int) (s1 s2 : Int) (h : Hp) : OR :=
  cal (XX3_note s1 s2 0 h) (fun r8 h9 => XX3_replace_p163 a1 self87 l2 l3 l4 h9)
def XX3_replace_p142 (a1 : Nat) (self87 : Int → Int → Int → Hp → OR) (l2 l3 l4 l5 : Int) (s1 : Int) (h : Hp) : OR :=
  if l5 = 0 then chk (l4 - (h a1 2)) (XX3_replace_p159 a1 self87 l2 l3 l4 s1 (l4 - (h a1 2)) h) else XX3_replace_p159 a1 self87 l2 l3 l4 s1 l4 h
def XX3_replace_p129 (a1 : Nat) (self87 : Int → Int → Int → Hp → OR) (l2 l3 l4 : Int) (s0 : Int) (h : Hp) : OR :=
  if s0 = 0 then XX3_replace_p142 a1 self87 l2 l3 l4 s0 2 h else XX3_replace_p142 a1 self87 l2 l3 l4 s0 1 h
def XX3_replace_b87 (a1 : Nat)  (self87 : Int → Int → Int → Hp → OR) (l2 l3 l4 : Int) (h : Hp) : OR :=
  cal (XX8_seenCount a1 h) (fun r5 h6 => if r5 ≤ l4 then some (0, h6) else inb l4 6 (if (h6 (a1 + 3) l4.toNat) = l2 then inb l4 6 (hm (wr h6 (a1 + 3) l4.toNat l3) (fun h7 => if (h7 a1 2) ≤ l4 then XX3_replace_p129 a1 self87 l2 l3 l4 0 h7 else XX3_replace_p129 a1 self87 l2 l3 l4 1 h7)) else XX3_replace_p163 a1 self87 l2 l3 l4 h6))
def XX3_replace_L87 (a1 : Nat)  (l2 l3 l4 : Int) (h : Hp) : OR := lup3 (XX3_replace_b87 a1) FU l2 l3 l4 h
def XX3_replace_p72 (a1 : Nat) (self6 : Int → Int → Int → Hp → OR) (self18 : Int → Int → Int → Int → Hp → OR) (l2 l3 l4 l5 : Int) (h : Hp) : OR :=
  chk (l5 + 1) (self18 l2 l3 l4 (l5 + 1) h)
def XX3_replace_b18 (a1 : Nat) (self6 : Int → Int → Int → Hp → OR) (self18 : Int → Int → Int → Int → Hp → OR) (l2 l3 l4 l5 : Int) (h : Hp) : OR :=
  inb l4 48 (inb (h (a1 + 1) l4.toNat) 9 (if (pinC (h (a1 + 1) l4.toNat).toNat) ≤ l5 then chk (l4 + 1) (self6 l2 l3 (l4 + 1) h) else chk (3 * l4) (chk ((3 * l4) + l5) (inb ((3 * l4) + l5) 144 (if (h (a1 + 2) ((3 * l4) + l5).toNat) = l2 then chk (3 * l4) (chk ((3 * l4) + l5) (inb ((3 * l4) + l5) 144 (hm (wr h (a1 + 2) ((3 * l4) + l5).toNat l3) (fun h10 => cal (XX3_note 0 l4 l5 h10) (fun r11 h12 => XX3_replace_p72 a1 self6 self18 l2 l3 l4 l5 h12))))) else XX3_replace_p72 a1 self6 self18 l2 l3 l4 l5 h)))))
def XX3_replace_L18 (a1 : Nat) (self6 : Int → Int → Int → Hp → OR) (l2 l3 l4 l5 : Int) (h : Hp) : OR := lup4 (XX3_replace_b18 a1 self6) FU l2 l3 l4 l5 h
def XX3_replace_b6 (a1 : Nat)  (self6 : Int → Int → Int → Hp → OR) (l2 l3 l4 : Int) (h : Hp) : OR :=
  cal (XX8_wires a1 h) (fun r3 h4 => if r3 ≤ l4 then XX3_replace_L87 a1 l2 l3 0 h4 else XX3_replace_L18 a1 self6 l2 l3 l4 0 h4)
def XX3_replace_L6 (a1 : Nat)  (l2 l3 l4 : Int) (h : Hp) : OR := lup3 (XX3_replace_b6 a1) FU l2 l3 l4 h
def XX3_replace (x0 : Nat) (x1 : Int) (x2 : Int) (h : Hp) : OR :=
  cal (XX8_sources x0 h) (fun r1 h2 => XX3_replace_L6 x0 x1 x2 r1 h2)
theorem sX3_replace_p163 {Γ : Cx} {w : Wd} (hw : okX w) (g : Gd Γ cX3_replace 6 "GatePatch$Journal" (Option.none : Option Jvm.ClassFile.FieldType) (rmd 2)) (a1 : Nat) (ha1 : isPl w a1) (self87 : Int → Int → Int → Hp → OR) (hs87 : ∀ (x0 x1 x2 : Int) (h : Hp), Sim Γ w 3 (self87 x0 x1 x2 h) h 87 [(0, vP 72), (1, vP a1), (2, vI x0), (3, vI x1), (4, vI x2)] []) (l2 l3 l4 : Int) (h : Hp) : Sim Γ w 3 (XX3_replace_p163 a1 self87 l2 l3 l4  h) h 163 [(0, vP 72), (1, vP a1), (2, vI l2), (3, vI l3), (4, vI l4)] [] := by
  unfold XX3_replace_p163
  refine S_iinc (kk := 4) g dX3_replace_163 rfl (by decide) rfl ?_
  refine S_goto (tgt := 87) g dX3_replace_166 (by decide) ?_
  refine S_sub g [1, 2, 3, 4, 0] rfl ?_
  exact hs87 _ _ _ _

theorem sX3_replace_p159 {Γ : Cx} {w : Wd} (hw : okX w) (g : Gd Γ cX3_replace 6 "GatePatch$Journal" (Option.none : Option Jvm.ClassFile.FieldType) (rmd 2)) (a1 : Nat) (ha1 : isPl w a1) (self87 : Int → Int → Int → Hp → OR) (hs87 : ∀ (x0 x1 x2 : Int) (h : Hp), Sim Γ w 3 (self87 x0 x1 x2 h) h 87 [(0, vP 72), (1, vP a1), (2, vI x0), (3, vI x1), (4, vI x2)] []) (l2 l3 l4 : Int) (s1 s2 : Int) (h : Hp) : Sim Γ w 3 (XX3_replace_p159 a1 self87 l2 l3 l4 s1 s2 h) h 159 [(0, vP 72), (1, vP a1), (2, vI l2), (3, vI l3), (4, vI l4)] [vI s2, vI s1, vP 72] := by
  unfold XX3_replace_p159
  refine S_iconst g dX3_replace_159 ⟨by decide, by decide⟩ ?_
  refine S_callVv (As := [vI s1, vI s2, vI 0]) g dX3_replace_160 (sX3_note hw _ _ _ _) rfl (at_72 hw) rfl im_X3_note se_X3_note cw_X3_note ml_Journal_87 ini_Journal nd_X3_note ⟨by decide, by decide⟩ (Nat.le_of_ble_eq_true rfl) (fun r8 h9 => ?_)
  exact sX3_replace_p163 hw g a1 ha1 self87 hs87 _ _ _ _

theorem sX3_replace_p142 {Γ : Cx} {w : Wd} (hw : okX w) (g : Gd Γ cX3_replace 6 "GatePatch$Journal" (Option.none : Option Jvm.ClassFile.FieldType) (rmd 2)) (a1 : Nat) (ha1 : isPl w a1) (self87 : Int → Int → Int → Hp → OR) (hs87 : ∀ (x0 x1 x2 : Int) (h : Hp), Sim Γ w 3 (self87 x0 x1 x2 h) h 87 [(0, vP 72), (1, vP a1), (2, vI x0), (3, vI x1), (4, vI x2)] []) (l2 l3 l4 l5 : Int) (s1 : Int) (h : Hp) : Sim Γ w 3 (XX3_replace_p142 a1 self87 l2 l3 l4 l5 s1 h) h 142 [(0, vP 72), (1, vP a1), (2, vI l2), (3, vI l3), (4, vI l4), (5, vI l5)] [vI s1, vP 72] := by
  unfold XX3_replace_p142
  refine S_iload (kk := 5) g dX3_replace_142 rfl ?_
  refine S_if_eq (tgt := 152) g dX3_replace_144 (by decide) ?_ ?_
  · refine S_iload (kk := 4) g dX3_replace_152 rfl ?_
    refine S_aload_n (kk := 1) g dX3_replace_154 rfl rfl ?_
    refine S_geti g dX3_replace_155 fl_Journal_91 ha1.1 (Or.inl rfl) ?_
    refine S_isub g dX3_replace_158 ?_
    refine S_sub g [0, 1, 2, 3, 4] rfl ?_
    exact sX3_replace_p159 hw g a1 ha1 self87 hs87 _ _ _ _ _ _
  · refine S_iload (kk := 4) g dX3_replace_147 rfl ?_
    refine S_goto (tgt := 159) g dX3_replace_149 (by decide) ?_
    refine S_sub g [0, 1, 2, 3, 4] rfl ?_
    exact sX3_replace_p159 hw g a1 ha1 self87 hs87 _ _ _ _ _ _

theorem sX3_replace_p129 {Γ : Cx} {w : Wd} (hw : okX w) (g : Gd Γ cX3_replace 6 "GatePatch$Journal" (Option.none : Option Jvm.ClassFile.FieldType) (rmd 2)) (a1 : Nat) (ha1 : isPl w a1) (self87 : Int → Int → Int → Hp → OR) (hs87 : ∀ (x0 x1 x2 : Int) (h : Hp), Sim Γ w 3 (self87 x0 x1 x2 h) h 87 [(0, vP 72), (1, vP a1), (2, vI x0), (3, vI x1), (4, vI x2)] []) (l2 l3 l4 : Int) (s0 : Int) (h : Hp) : Sim Γ w 3 (XX3_replace_p129 a1 self87 l2 l3 l4 s0 h) h 129 [(0, vP 72), (1, vP a1), (2, vI l2), (3, vI l3), (4, vI l4)] [vI s0] := by
  unfold XX3_replace_p129
  refine S_istore g dX3_replace_129 (by decide) rfl ?_
  refine S_aload_n (kk := 1) g dX3_replace_131 rfl rfl ?_
  refine S_iload (kk := 0) g dX3_replace_132 rfl ?_
  refine S_if_eq (tgt := 141) g dX3_replace_134 (by decide) ?_ ?_
  · refine S_iconst g dX3_replace_141 ⟨by decide, by decide⟩ ?_
    refine S_sub g [1, 2, 3, 4, 5, 0] rfl ?_
    exact sX3_replace_p142 hw g a1 ha1 self87 hs87 _ _ _ _ _ _
  · refine S_iconst g dX3_replace_137 ⟨by decide, by decide⟩ ?_
    refine S_goto (tgt := 142) g dX3_replace_138 (by decide) ?_
    refine S_sub g [1, 2, 3, 4, 5, 0] rfl ?_
    exact sX3_replace_p142 hw g a1 ha1 self87 hs87 _ _ _ _ _ _

theorem sX3_replace_L87 {Γ : Cx} {w : Wd} (hw : okX w) (g : Gd Γ cX3_replace 6 "GatePatch$Journal" (Option.none : Option Jvm.ClassFile.FieldType) (rmd 2)) (a1 : Nat) (ha1 : isPl w a1)  : ∀ (l2 l3 l4 : Int) (h : Hp), Sim Γ w 3 (XX3_replace_L87 a1 l2 l3 l4 h) h 87 [(0, vP 72), (1, vP a1), (2, vI l2), (3, vI l3), (4, vI l4)] [] := by
  refine S_lup3 (fun l2 l3 l4 => [(0, vP 72), (1, vP a1), (2, vI l2), (3, vI l3), (4, vI l4)]) (fun self87 hs87 l2 l3 l4 h => ?_) FU
  unfold XX3_replace_b87
  refine S_iload (kk := 4) g dX3_replace_87 rfl ?_
  refine S_aload_n (kk := 1) g dX3_replace_89 rfl rfl ?_
  refine S_callVi (As := []) g dX3_replace_90 (sX8_seenCount hw a1 ha1 _) rfl ha1.1 rfl im_X8_seenCount se_X8_seenCount cw_X8_seenCount ml_Journal_55 ini_Plan nd_X8_seenCount ⟨by decide, by decide⟩ (Nat.le_of_ble_eq_true rfl) (fun r5 h6 => ?_)
  refine S_icmp_ge (tgt := 169) g dX3_replace_93 (by decide) ?_ ?_
  · exact S_return g dX3_replace_169 rfl
  · refine S_aload_n (kk := 1) g dX3_replace_96 rfl rfl ?_
    refine S_getr g dX3_replace_97 fl_Journal_62 ha1.1 rfl ha1.2.2.2.1 ?_
    refine S_iload (kk := 4) g dX3_replace_100 rfl ?_
    refine S_iaload g dX3_replace_102 ha1.2.2.2.2.2.2.2.1 ?_
    refine S_iload_n (kk := 2) g dX3_replace_103 rfl rfl ?_
    refine S_icmp_ne (tgt := 163) g dX3_replace_104 (by decide) ?_ ?_
    · exact sX3_replace_p163 hw g a1 ha1 self87 hs87 _ _ _ _
    · refine S_aload_n (kk := 1) g dX3_replace_107 rfl rfl ?_
      refine S_getr g dX3_replace_108 fl_Journal_62 ha1.1 rfl ha1.2.2.2.1 ?_
      refine S_iload (kk := 4) g dX3_replace_111 rfl ?_
      refine S_iload_n (kk := 3) g dX3_replace_113 rfl rfl ?_
      refine S_iastore g dX3_replace_114 ha1.2.2.2.2.2.2.2.1 (fun h7 => ?_)
      refine S_iload (kk := 4) g dX3_replace_115 rfl ?_
      refine S_aload_n (kk := 1) g dX3_replace_117 rfl rfl ?_
      refine S_geti g dX3_replace_118 fl_Journal_91 ha1.1 (Or.inl rfl) ?_
      refine S_icmp_ge (tgt := 128) g dX3_replace_121 (by decide) ?_ ?_
      · refine S_iconst g dX3_replace_128 ⟨by decide, by decide⟩ ?_
        exact sX3_replace_p129 hw g a1 ha1 self87 hs87 _ _ _ _ _
      · refine S_iconst g dX3_replace_124 ⟨by decide, by decide⟩ ?_
        refine S_goto (tgt := 129) g dX3_replace_125 (by decide) ?_
        exact sX3_replace_p129 hw g a1 ha1 self87 hs87 _ _ _ _ _

theorem sX3_replace_p72 {Γ : Cx} {w : Wd} (hw : okX w) (g : Gd Γ cX3_replace 6 "GatePatch$Journal" (Option.none : Option Jvm.ClassFile.FieldType) (rmd 2)) (a1 : Nat) (ha1 : isPl w a1) (self6 : Int → Int → Int → Hp → OR) (hs6 : ∀ (x0 x1 x2 : Int) (h : Hp), Sim Γ w 3 (self6 x0 x1 x2 h) h 6 [(0, vP 72), (1, vP a1), (2, vI x0), (3, vI x1), (4, vI x2)] []) (self18 : Int → Int → Int → Int → Hp → OR) (hs18 : ∀ (x0 x1 x2 x3 : Int) (h : Hp), Sim Γ w 3 (self18 x0 x1 x2 x3 h) h 18 [(0, vP 72), (1, vP a1), (2, vI x0), (3, vI x1), (4, vI x2), (5, vI x3)] []) (l2 l3 l4 l5 : Int) (h : Hp) : Sim Γ w 3 (XX3_replace_p72 a1 self6 self18 l2 l3 l4 l5  h) h 72 [(0, vP 72), (1, vP a1), (2, vI l2), (3, vI l3), (4, vI l4), (5, vI l5)] [] := by
  unfold XX3_replace_p72
  refine S_iinc (kk := 5) g dX3_replace_72 rfl (by decide) rfl ?_
  refine S_goto (tgt := 18) g dX3_replace_75 (by decide) ?_
  refine S_sub g [1, 2, 3, 4, 5, 0] rfl ?_
  exact hs18 _ _ _ _ _

theorem sX3_replace_L18 {Γ : Cx} {w : Wd} (hw : okX w) (g : Gd Γ cX3_replace 6 "GatePatch$Journal" (Option.none : Option Jvm.ClassFile.FieldType) (rmd 2)) (a1 : Nat) (ha1 : isPl w a1) (self6 : Int → Int → Int → Hp → OR) (hs6 : ∀ (x0 x1 x2 : Int) (h : Hp), Sim Γ w 3 (self6 x0 x1 x2 h) h 6 [(0, vP 72), (1, vP a1), (2, vI x0), (3, vI x1), (4, vI x2)] []) : ∀ (l2 l3 l4 l5 : Int) (h : Hp), Sim Γ w 3 (XX3_replace_L18 a1 self6 l2 l3 l4 l5 h) h 18 [(0, vP 72), (1, vP a1), (2, vI l2), (3, vI l3), (4, vI l4), (5, vI l5)] [] := by
  refine S_lup4 (fun l2 l3 l4 l5 => [(0, vP 72), (1, vP a1), (2, vI l2), (3, vI l3), (4, vI l4), (5, vI l5)]) (fun self18 hs18 l2 l3 l4 l5 h => ?_) FU
  unfold XX3_replace_b18
  refine S_iload (kk := 5) g dX3_replace_18 rfl ?_
  refine S_gets1N g dX3_replace_20 gs_Journal_77 ?_
  refine S_aload_n (kk := 1) g dX3_replace_23 rfl rfl ?_
  refine S_getr g dX3_replace_24 fl_Journal_81 ha1.1 rfl ha1.2.1 ?_
  refine S_iload (kk := 4) g dX3_replace_27 rfl ?_
  refine S_iaload g dX3_replace_29 ha1.2.2.2.2.2.1 ?_
  refine S_baloadS1 g dX3_replace_30 ?_
  refine S_icmp_ge (tgt := 78) g dX3_replace_31 (by decide) ?_ ?_
  · refine S_iinc (kk := 4) g dX3_replace_78 rfl (by decide) rfl ?_
    refine S_goto (tgt := 6) g dX3_replace_81 (by decide) ?_
    refine S_sub g [1, 2, 3, 4, 0] rfl ?_
    exact hs6 _ _ _ _
  · refine S_aload_n (kk := 1) g dX3_replace_34 rfl rfl ?_
    refine S_getr g dX3_replace_35 fl_Journal_84 ha1.1 rfl ha1.2.2.1 ?_
    refine S_iconst g dX3_replace_38 ⟨by decide, by decide⟩ ?_
    refine S_iload (kk := 4) g dX3_replace_39 rfl ?_
    refine S_imul g dX3_replace_41 ?_
    refine S_iload (kk := 5) g dX3_replace_42 rfl ?_
    refine S_iadd g dX3_replace_44 ?_
    refine S_iaload g dX3_replace_45 ha1.2.2.2.2.2.2.1 ?_
    refine S_iload_n (kk := 2) g dX3_replace_46 rfl rfl ?_
    refine S_icmp_ne (tgt := 72) g dX3_replace_47 (by decide) ?_ ?_
    · exact sX3_replace_p72 hw g a1 ha1 self6 hs6 self18 hs18 _ _ _ _ _
    · refine S_aload_n (kk := 1) g dX3_replace_50 rfl rfl ?_
      refine S_getr g dX3_replace_51 fl_Journal_84 ha1.1 rfl ha1.2.2.1 ?_
      refine S_iconst g dX3_replace_54 ⟨by decide, by decide⟩ ?_
      refine S_iload (kk := 4) g dX3_replace_55 rfl ?_
      refine S_imul g dX3_replace_57 ?_
      refine S_iload (kk := 5) g dX3_replace_58 rfl ?_
      refine S_iadd g dX3_replace_60 ?_
      refine S_iload_n (kk := 3) g dX3_replace_61 rfl rfl ?_
      refine S_iastore g dX3_replace_62 ha1.2.2.2.2.2.2.1 (fun h10 => ?_)
      refine S_aload_n (kk := 0) g dX3_replace_63 rfl rfl ?_
      refine S_iconst g dX3_replace_64 ⟨by decide, by decide⟩ ?_
      refine S_iload (kk := 4) g dX3_replace_65 rfl ?_
      refine S_iload (kk := 5) g dX3_replace_67 rfl ?_
      refine S_callVv (As := [vI 0, vI l4, vI l5]) g dX3_replace_69 (sX3_note hw _ _ _ _) rfl (at_72 hw) rfl im_X3_note se_X3_note cw_X3_note ml_Journal_87 ini_Journal nd_X3_note ⟨by decide, by decide⟩ (Nat.le_of_ble_eq_true rfl) (fun r11 h12 => ?_)
      exact sX3_replace_p72 hw g a1 ha1 self6 hs6 self18 hs18 _ _ _ _ _

theorem sX3_replace_L6 {Γ : Cx} {w : Wd} (hw : okX w) (g : Gd Γ cX3_replace 6 "GatePatch$Journal" (Option.none : Option Jvm.ClassFile.FieldType) (rmd 2)) (a1 : Nat) (ha1 : isPl w a1)  : ∀ (l2 l3 l4 : Int) (h : Hp), Sim Γ w 3 (XX3_replace_L6 a1 l2 l3 l4 h) h 6 [(0, vP 72), (1, vP a1), (2, vI l2), (3, vI l3), (4, vI l4)] [] := by
  refine S_lup3 (fun l2 l3 l4 => [(0, vP 72), (1, vP a1), (2, vI l2), (3, vI l3), (4, vI l4)]) (fun self6 hs6 l2 l3 l4 h => ?_) FU
  unfold XX3_replace_b6
  refine S_iload (kk := 4) g dX3_replace_6 rfl ?_
  refine S_aload_n (kk := 1) g dX3_replace_8 rfl rfl ?_
  refine S_callVi (As := []) g dX3_replace_9 (sX8_wires hw a1 ha1 _) rfl ha1.1 rfl im_X8_wires se_X8_wires cw_X8_wires ml_Journal_74 ini_Plan nd_X8_wires ⟨by decide, by decide⟩ (Nat.le_of_ble_eq_true rfl) (fun r3 h4 => ?_)
  refine S_icmp_ge (tgt := 84) g dX3_replace_12 (by decide) ?_ ?_
  · refine S_iconst g dX3_replace_84 ⟨by decide, by decide⟩ ?_
    refine S_istore g dX3_replace_85 (by decide) rfl ?_
    refine S_sub g [1, 2, 3, 4, 0] rfl ?_
    exact sX3_replace_L87 hw g a1 ha1 _ _ _ _
  · refine S_iconst g dX3_replace_15 ⟨by decide, by decide⟩ ?_
    refine S_istore g dX3_replace_16 (by decide) rfl ?_
    refine S_sub g [1, 2, 3, 4, 5, 0] rfl ?_
    exact sX3_replace_L18 hw g a1 ha1 self6 hs6 _ _ _ _ _

theorem sX3_replace {G : GG} {w : Wd} (hw : okX w) (x0 : Nat) (hx0 : isPl w x0) (x1 : Int) (x2 : Int) (h : Hp) : SC G w yX3_replace (Cond.code yX3_replace cX3_replace 6 (Option.none : Option Jvm.ClassFile.FieldType)) 2 3 [vP 72, vP x0, vI x1, vI x2] (XX3_replace x0 x1 x2 h) h := by
  refine SC_of (own := "GatePatch$Journal") plain_Journal rfl (Nat.le_of_ble_eq_true rfl) (fun Γ hG g => ?_)
  subst hG
  show Sim Γ w 3 _ h 0 [(0, vP 72), (1, vP x0), (2, vI x1), (3, vI x2)] []
  unfold XX3_replace
  refine S_aload_n (kk := 1) g dX3_replace_0 rfl rfl ?_
  refine S_callVi (As := []) g dX3_replace_1 (sX8_sources hw x0 hx0 _) rfl hx0.1 rfl im_X8_sources se_X8_sources cw_X8_sources ml_Journal_71 ini_Plan nd_X8_sources ⟨by decide, by decide⟩ (Nat.le_of_ble_eq_true rfl) (fun r1 h2 => ?_)
  refine S_istore g dX3_replace_4 (by decide) rfl ?_
  refine S_sub g [1, 2, 3, 4, 0] rfl ?_
  exact sX3_replace_L6 hw g x0 hx0 _ _ _ _

def XX3_differs_b2 (a1 : Nat)  (self2 : Int → Int → Hp → OR) (l2 l3 : Int) (h : Hp) : OR :=
  cal (XX8_seenCount (a1 + 1) h) (fun r1 h2 => if r1 ≤ l3 then zb 0 (some (0, h2)) else inb l3 6 (chk (4 * (h2 ((a1 + 1) + 3) l3.toNat)) (chk (l2.tdiv 64) (chk ((4 * (h2 ((a1 + 1) + 3) l3.toNat)) + (l2.tdiv 64)) (inb ((4 * (h2 ((a1 + 1) + 3) l3.toNat)) + (l2.tdiv 64)) 192 (nm (h2 (a1 + 8) ((4 * (h2 ((a1 + 1) + 3) l3.toNat)) + (l2.tdiv 64)).toNat) (fun v3 => chk (4 * l3) (chk (l2.tdiv 64) (chk ((4 * l3) + (l2.tdiv 64)) (inb ((4 * l3) + (l2.tdiv 64)) 24 (chk (l2 - l2.tdiv 64 * 64) (if (jcmp (jand (jshr (jxor v3 (h2 77 ((4 * l3) + (l2.tdiv 64)).toNat)) (l2 - l2.tdiv 64 * 64)) 1) 1) = 0 then zb 1 (some (1, h2)) else chk (l3 + 1) (self2 l2 (l3 + 1) h2)))))))))))))
def XX3_differs_L2 (a1 : Nat)  (l2 l3 : Int) (h : Hp) : OR := lup2 (XX3_differs_b2 a1) FU l2 l3 h
def XX3_differs (x0 : Nat) (x1 : Int) (h : Hp) : OR :=
  XX3_differs_L2 x0 x1 0 h
theorem sX3_differs_L2 {Γ : Cx} {w : Wd} (hw : okX w) (g : Gd Γ cX3_differs 6 "GatePatch$Journal" (Option.some Jvm.ClassFile.FieldType.boolean) (rmd 2)) (a1 : Nat) (ha1 : isNt w a1)  : ∀ (l2 l3 : Int) (h : Hp), Sim Γ w 0 (XX3_differs_L2 a1 l2 l3 h) h 2 [(0, vP 72), (1, vP a1), (2, vI l2), (3, vI l3)] [] := by
  refine S_lup2 (fun l2 l3 => [(0, vP 72), (1, vP a1), (2, vI l2), (3, vI l3)]) (fun self2 hs2 l2 l3 h => ?_) FU
  unfold XX3_differs_b2
  refine S_iload_n (kk := 3) g dX3_differs_2 rfl rfl ?_
  refine S_aload_n (kk := 1) g dX3_differs_3 rfl rfl ?_
  refine S_getr g dX3_differs_4 fl_Journal_45 ha1.1 rfl ha1.2.1 ?_
  refine S_callVi (As := []) g dX3_differs_7 (sX8_seenCount hw (a1 + 1) ha1.2.2.2.2.2.2.1 _) rfl ha1.2.2.2.2.2.2.1.1 rfl im_X8_seenCount se_X8_seenCount cw_X8_seenCount ml_Journal_55 ini_Plan nd_X8_seenCount ⟨by decide, by decide⟩ (Nat.le_of_ble_eq_true rfl) (fun r1 h2 => ?_)
  refine S_icmp_ge (tgt := 72) g dX3_differs_10 (by decide) ?_ ?_
  · refine S_iconst g dX3_differs_72 ⟨by decide, by decide⟩ ?_
    exact S_zreturn g dX3_differs_73 rfl
  · refine S_aload_n (kk := 1) g dX3_differs_13 rfl rfl ?_
    refine S_getr g dX3_differs_14 fl_Journal_59 ha1.1 rfl ha1.2.2.2.2.1 ?_
    refine S_iconst g dX3_differs_17 ⟨by decide, by decide⟩ ?_
    refine S_aload_n (kk := 1) g dX3_differs_18 rfl rfl ?_
    refine S_getr g dX3_differs_19 fl_Journal_45 ha1.1 rfl ha1.2.1 ?_
    refine S_getr g dX3_differs_22 fl_Journal_62 ha1.2.2.2.2.2.2.1.1 rfl ha1.2.2.2.2.2.2.1.2.2.2.1 ?_
    refine S_iload_n (kk := 3) g dX3_differs_25 rfl rfl ?_
    refine S_iaload g dX3_differs_26 ha1.2.2.2.2.2.2.1.2.2.2.2.2.2.2.1 ?_
    refine S_imul g dX3_differs_27 ?_
    refine S_iload_n (kk := 2) g dX3_differs_28 rfl rfl ?_
    refine S_bipush g dX3_differs_29 ⟨by decide, by decide⟩ rfl ?_
    refine S_idiv g dX3_differs_31 (by decide) ?_
    refine S_iadd g dX3_differs_32 ?_
    refine S_laload g dX3_differs_33 ha1.2.2.2.2.2.2.2.2.2.1 ?_
    refine S_nmJ (fun v3 => ?_)
    refine S_lstore g dX3_differs_34 (by decide) rfl ?_
    refine S_lload (kk := 0) g dX3_differs_36 rfl ?_
    refine S_aload_n (kk := 1) g dX3_differs_38 rfl rfl ?_
    refine S_getr g dX3_differs_39 fl_Journal_27 (at_72 hw) rfl (rc_72_7 hw) ?_
    refine S_iconst g dX3_differs_42 ⟨by decide, by decide⟩ ?_
    refine S_iload_n (kk := 4) g dX3_differs_43 rfl rfl ?_
    refine S_imul g dX3_differs_44 ?_
    refine S_iload_n (kk := 3) g dX3_differs_45 rfl rfl ?_
    refine S_bipush g dX3_differs_46 ⟨by decide, by decide⟩ rfl ?_
    refine S_idiv g dX3_differs_48 (by decide) ?_
    refine S_iadd g dX3_differs_49 ?_
    refine S_laload g dX3_differs_50 (at_77 hw) ?_
    refine S_lxor g dX3_differs_51 ?_
    refine S_iload_n (kk := 3) g dX3_differs_52 rfl rfl ?_
    refine S_bipush g dX3_differs_53 ⟨by decide, by decide⟩ rfl ?_
    refine S_irem g dX3_differs_55 (by decide) ?_
    refine S_lshr g dX3_differs_56 ?_
    refine S_lconst (x := 1) g dX3_differs_57 ⟨by decide, by decide⟩ rfl ?_
    refine S_land g dX3_differs_58 ?_
    refine S_lconst (x := 1) g dX3_differs_59 ⟨by decide, by decide⟩ rfl ?_
    refine S_lcmp g dX3_differs_60 ?_
    refine S_if_ne (tgt := 66) g dX3_differs_61 (by decide) ?_ ?_
    · refine S_iinc (kk := 4) g dX3_differs_66 rfl (by decide) rfl ?_
      refine S_goto (tgt := 2) g dX3_differs_69 (by decide) ?_
      refine S_sub g [2, 3, 4, 0] rfl ?_
      exact hs2 _ _ _
    · refine S_iconst g dX3_differs_64 ⟨by decide, by decide⟩ ?_
      exact S_zreturn g dX3_differs_65 rfl

theorem sX3_differs {G : GG} {w : Wd} (hw : okX w) (x0 : Nat) (hx0 : isNt w x0) (x1 : Int) (h : Hp) : SC G w yX3_differs (Cond.code yX3_differs cX3_differs 6 (Option.some Jvm.ClassFile.FieldType.boolean)) 2 0 [vP 72, vP x0, vI x1] (XX3_differs x0 x1 h) h := by
  refine SC_of (own := "GatePatch$Journal") plain_Journal rfl (Nat.le_of_ble_eq_true rfl) (fun Γ hG g => ?_)
  subst hG
  show Sim Γ w 0 _ h 0 [(0, vP 72), (1, vP x0), (2, vI x1)] []
  unfold XX3_differs
  refine S_iconst g dX3_differs_0 ⟨by decide, by decide⟩ ?_
  refine S_istore_n g dX3_differs_1 rfl (by decide) rfl ?_
  refine S_sub g [1, 2, 3, 0] rfl ?_
  exact sX3_differs_L2 hw g x0 hx0 _ _ _

def XX3_findTests_p52 (a1 : Nat) (self7 : Int → Hp → OR) (l3 : Int) (h : Hp) : OR :=
  chk (l3 + 1) (self7 (l3 + 1) h)
def XX3_findTests_b7 (a1 : Nat)  (self7 : Int → Hp → OR) (l3 : Int) (h : Hp) : OR :=
  if (h 37 0) ≤ l3 then some (0, h) else cal (XX0_isLive l3 h) (fun r2 h3 => if r2 = 0 then XX3_findTests_p52 a1 self7 l3 h3 else cal (XX3_differs a1 l3 h3) (fun r4 h5 => if r4 = 0 then XX3_findTests_p52 a1 self7 l3 h5 else inb (h5 72 6) 256 (hm (wr h5 76 (h5 72 6).toNat l3) (fun h6 => chk ((h6 72 6) + 1) (hm (wr h6 72 6 ((h6 72 6) + 1)) (fun h7 => XX3_findTests_p52 a1 self7 l3 h7))))))
def XX3_findTests_L7 (a1 : Nat)  (l3 : Int) (h : Hp) : OR := lup1 (XX3_findTests_b7 a1) FU l3 h
def XX3_findTests (x0 : Nat) (h : Hp) : OR :=
  hm (wr h 72 6 0) (fun h1 => XX3_findTests_L7 x0 0 h1)
theorem sX3_findTests_p52 {Γ : Cx} {w : Wd} (hw : okX w) (g : Gd Γ cX3_findTests 4 "GatePatch$Journal" (Option.none : Option Jvm.ClassFile.FieldType) (rmd 3)) (a1 : Nat) (ha1 : isNt w a1) (self7 : Int → Hp → OR) (hs7 : ∀ (x0 : Int) (h : Hp), Sim Γ w 3 (self7 x0 h) h 7 [(0, vP 72), (1, vP a1), (2, vP 37), (3, vI x0)] []) (l3 : Int) (h : Hp) : Sim Γ w 3 (XX3_findTests_p52 a1 self7 l3  h) h 52 [(0, vP 72), (1, vP a1), (2, vP 37), (3, vI l3)] [] := by
  unfold XX3_findTests_p52
  refine S_iinc (kk := 3) g dX3_findTests_52 rfl (by decide) rfl ?_
  refine S_goto (tgt := 7) g dX3_findTests_55 (by decide) ?_
  refine S_sub g [1, 2, 3, 0] rfl ?_
  exact hs7 _ _

theorem sX3_findTests_L7 {Γ : Cx} {w : Wd} (hw : okX w) (g : Gd Γ cX3_findTests 4 "GatePatch$Journal" (Option.none : Option Jvm.ClassFile.FieldType) (rmd 3)) (a1 : Nat) (ha1 : isNt w a1)  : ∀ (l3 : Int) (h : Hp), Sim Γ w 3 (XX3_findTests_L7 a1 l3 h) h 7 [(0, vP 72), (1, vP a1), (2, vP 37), (3, vI l3)] [] := by
  refine S_lup1 (fun l3 => [(0, vP 72), (1, vP a1), (2, vP 37), (3, vI l3)]) (fun self7 hs7 l3 h => ?_) FU
  unfold XX3_findTests_b7
  refine S_iload_n (kk := 3) g dX3_findTests_7 rfl rfl ?_
  refine S_aload_n (kk := 2) g dX3_findTests_8 rfl rfl ?_
  refine S_geti g dX3_findTests_9 fl_Journal_94 (at_37 hw) (Or.inl rfl) ?_
  refine S_icmp_ge (tgt := 58) g dX3_findTests_12 (by decide) ?_ ?_
  · exact S_return g dX3_findTests_58 rfl
  · refine S_aload_n (kk := 2) g dX3_findTests_15 rfl rfl ?_
    refine S_iload_n (kk := 3) g dX3_findTests_16 rfl rfl ?_
    refine S_callVi (As := [vI l3]) g dX3_findTests_17 (sX0_isLive hw _ _) rfl (at_37 hw) rfl im_X0_isLive se_X0_isLive cw_X0_isLive ml_Journal_99 ini_Cases nd_X0_isLive ⟨by decide, by decide⟩ (Nat.le_of_ble_eq_true rfl) (fun r2 h3 => ?_)
    refine S_if_eq (tgt := 52) g dX3_findTests_20 (by decide) ?_ ?_
    · exact sX3_findTests_p52 hw g a1 ha1 self7 hs7 _ _
    · refine S_aload_n (kk := 0) g dX3_findTests_23 rfl rfl ?_
      refine S_aload_n (kk := 1) g dX3_findTests_24 rfl rfl ?_
      refine S_iload_n (kk := 3) g dX3_findTests_25 rfl rfl ?_
      refine S_callVi (As := [vP a1, vI l3]) g dX3_findTests_26 (sX3_differs hw a1 ha1 _ _) rfl (at_72 hw) rfl im_X3_differs se_X3_differs cw_X3_differs ml_Journal_103 ini_Journal nd_X3_differs ⟨by decide, by decide⟩ (Nat.le_of_ble_eq_true rfl) (fun r4 h5 => ?_)
      refine S_if_eq (tgt := 52) g dX3_findTests_29 (by decide) ?_ ?_
      · exact sX3_findTests_p52 hw g a1 ha1 self7 hs7 _ _
      · refine S_aload_n (kk := 0) g dX3_findTests_32 rfl rfl ?_
        refine S_getr g dX3_findTests_33 fl_Journal_24 (at_72 hw) rfl (rc_72_5 hw) ?_
        refine S_aload_n (kk := 0) g dX3_findTests_36 rfl rfl ?_
        refine S_geti g dX3_findTests_37 fl_Journal_39 (at_72 hw) (Or.inl rfl) ?_
        refine S_iload_n (kk := 3) g dX3_findTests_40 rfl rfl ?_
        refine S_iastore g dX3_findTests_41 (at_76 hw) (fun h6 => ?_)
        refine S_aload_n (kk := 0) g dX3_findTests_42 rfl rfl ?_
        refine S_dup g dX3_findTests_43 rfl ?_
        refine S_geti g dX3_findTests_44 fl_Journal_39 (at_72 hw) (Or.inl rfl) ?_
        refine S_iconst g dX3_findTests_47 ⟨by decide, by decide⟩ ?_
        refine S_iadd g dX3_findTests_48 ?_
        refine S_puti g dX3_findTests_49 fp_Journal_39 (at_72 hw) rfl (fun h7 => ?_)
        exact sX3_findTests_p52 hw g a1 ha1 self7 hs7 _ _

theorem sX3_findTests {G : GG} {w : Wd} (hw : okX w) (x0 : Nat) (hx0 : isNt w x0) (h : Hp) : SC G w yX3_findTests (Cond.code yX3_findTests cX3_findTests 4 (Option.none : Option Jvm.ClassFile.FieldType)) 3 3 [vP 72, vP x0, vP 37] (XX3_findTests x0 h) h := by
  refine SC_of (own := "GatePatch$Journal") plain_Journal rfl (Nat.le_of_ble_eq_true rfl) (fun Γ hG g => ?_)
  subst hG
  show Sim Γ w 3 _ h 0 [(0, vP 72), (1, vP x0), (2, vP 37)] []
  unfold XX3_findTests
  refine S_aload_n (kk := 0) g dX3_findTests_0 rfl rfl ?_
  refine S_iconst g dX3_findTests_1 ⟨by decide, by decide⟩ ?_
  refine S_puti g dX3_findTests_2 fp_Journal_39 (at_72 hw) rfl (fun h1 => ?_)
  refine S_iconst g dX3_findTests_5 ⟨by decide, by decide⟩ ?_
  refine S_istore_n g dX3_findTests_6 rfl (by decide) rfl ?_
  refine S_sub g [1, 2, 3, 0] rfl ?_
  exact sX3_findTests_L7 hw g x0 hx0 _ _

