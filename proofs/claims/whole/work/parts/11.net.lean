abbrev cX6_start : ByteArray := prog_8_method_2_code
def yX6_start : MethodName := ⟨"GatePatch$Net", "start", "(III)V"⟩
abbrev cX6_stale : ByteArray := prog_8_method_3_code
def yX6_stale : MethodName := ⟨"GatePatch$Net", "stale", "()V"⟩
abbrev cX6_pinsReady : ByteArray := prog_8_method_7_code
def yX6_pinsReady : MethodName := ⟨"GatePatch$Net", "pinsReady", "(IJ)Z"⟩
abbrev cX6_sortGates : ByteArray := prog_8_method_6_code
def yX6_sortGates : MethodName := ⟨"GatePatch$Net", "sortGates", "()V"⟩
abbrev cX6_findBelow : ByteArray := prog_8_method_8_code
def yX6_findBelow : MethodName := ⟨"GatePatch$Net", "findBelow", "()V"⟩
abbrev cX6_sourceWord : ByteArray := prog_8_method_11_code
def yX6_sourceWord : MethodName := ⟨"GatePatch$Net", "sourceWord", "(II)J"⟩
abbrev cX6_pinWord : ByteArray := prog_8_method_10_code
def yX6_pinWord : MethodName := ⟨"GatePatch$Net", "pinWord", "(III)J"⟩
abbrev cX6_fillWords : ByteArray := prog_8_method_9_code
def yX6_fillWords : MethodName := ⟨"GatePatch$Net", "fillWords", "()V"⟩
abbrev cX6_refresh : ByteArray := prog_8_method_4_code
def yX6_refresh : MethodName := ⟨"GatePatch$Net", "refresh", "()V"⟩
abbrev cX6_hangsOn : ByteArray := prog_8_method_5_code
def yX6_hangsOn : MethodName := ⟨"GatePatch$Net", "hangsOn", "(II)Z"⟩
abbrev cX6_timeAll : ByteArray := prog_8_method_13_code
def yX6_timeAll : MethodName := ⟨"GatePatch$Net", "timeAll", "([I)V"⟩
theorem fl_Net_12 : FL "GatePatch$Net" 12 5 0 := ⟨R_Net, T_Net, 7, ty_Net, ci_Net, by decide, mem_t 89 (by decide +kernel) rfl⟩
theorem ml_Net_36 : Cond.methodLink "GatePatch$Net" 36 yX8_start ∈ tblG := mem_t 481 (by decide +kernel) rfl
theorem im_X8_start : Cond.instanceMethod yX8_start ∈ tblG := mem_t 482 (by decide +kernel) rfl
theorem se_X8_start : Cond.selects "GatePatch$Plan" yX8_start yX8_start ∈ tblG := mem_t 483 (by decide +kernel) rfl
theorem cw_X8_start : Cond.code yX8_start cX8_start 4 (Option.none : Option Jvm.ClassFile.FieldType) ∈ tblG := mem_t 484 (by decide +kernel) rfl
theorem nd_X8_start : yX8_start.cls ≠ "java/lang/invoke/MethodHandle" ∧ yX8_start.cls ≠ "java/lang/invoke/VarHandle" ∧ (parseMethodDescriptor yX8_start.desc).map (fun d => d.parameters.length) = some 3 := by decide +kernel
theorem fp_Net_40 : FP "GatePatch$Net" 40 5 6 .boolean := ⟨R_Net, T_Net, 7, ty_Net, ci_Net, by decide, mem_t 110 (by decide +kernel) rfl, rfl, rfl⟩
theorem gs_Net_67 : Cond.fieldLinkNest "GatePatch$Net" 67 "GatePatch" "PIN_COUNT" "[B" "GatePatch" ∈ NW := by simp [NW]
theorem fl_Net_71 : FL "GatePatch$Net" 71 7 4 := ⟨R_Plan, T_Plan, 8, ty_Plan, ci_Plan, by decide, mem_t 57 (by decide +kernel) rfl⟩
theorem fl_Net_74 : FL "GatePatch$Net" 74 7 5 := ⟨R_Plan, T_Plan, 8, ty_Plan, ci_Plan, by decide, mem_t 62 (by decide +kernel) rfl⟩
theorem ml_Net_53 : Cond.methodLink "GatePatch$Net" 53 yX8_sources ∈ tblG := mem_t 625 (by decide +kernel) rfl
theorem fl_Net_57 : FL "GatePatch$Net" 57 7 3 := ⟨R_Plan, T_Plan, 8, ty_Plan, ci_Plan, by decide, mem_t 53 (by decide +kernel) rfl⟩
theorem ml_Net_60 : Cond.methodLink "GatePatch$Net" 60 yX8_wires ∈ tblG := mem_t 626 (by decide +kernel) rfl
theorem ml_Net_63 : Cond.methodLink "GatePatch$Net" 63 yX6_pinsReady ∈ tblG := mem_t 627 (by decide +kernel) rfl
theorem im_X6_pinsReady : Cond.instanceMethod yX6_pinsReady ∈ tblG := mem_t 629 (by decide +kernel) rfl
theorem se_X6_pinsReady : Cond.selects "GatePatch$Net" yX6_pinsReady yX6_pinsReady ∈ tblG := mem_s 4 (by decide +kernel) rfl
theorem cw_X6_pinsReady : Cond.code yX6_pinsReady cX6_pinsReady 5 (Option.some Jvm.ClassFile.FieldType.boolean) ∈ tblG := mem_t 630 (by decide +kernel) rfl
theorem nd_X6_pinsReady : yX6_pinsReady.cls ≠ "java/lang/invoke/MethodHandle" ∧ yX6_pinsReady.cls ≠ "java/lang/invoke/VarHandle" ∧ (parseMethodDescriptor yX6_pinsReady.desc).map (fun d => d.parameters.length) = some 2 := by decide +kernel
theorem fl_Net_18 : FL "GatePatch$Net" 18 5 2 := ⟨R_Net, T_Net, 7, ty_Net, ci_Net, by decide, mem_t 97 (by decide +kernel) rfl⟩
theorem fl_Net_22 : FL "GatePatch$Net" 22 5 3 := ⟨R_Net, T_Net, 7, ty_Net, ci_Net, by decide, mem_t 99 (by decide +kernel) rfl⟩
theorem gs_Net_89 : Cond.fieldLinkNest "GatePatch$Net" 89 "GatePatch" "COUNTING" "[J" "GatePatch" ∈ NW := by simp [NW]
theorem fl_Net_26 : FL "GatePatch$Net" 26 5 4 := ⟨R_Net, T_Net, 7, ty_Net, ci_Net, by decide, mem_t 103 (by decide +kernel) rfl⟩
theorem ml_Net_81 : Cond.methodLink "GatePatch$Net" 81 yX6_pinWord ∈ tblG := mem_t 646 (by decide +kernel) rfl
theorem im_X6_pinWord : Cond.instanceMethod yX6_pinWord ∈ tblG := mem_t 648 (by decide +kernel) rfl
theorem se_X6_pinWord : Cond.selects "GatePatch$Net" yX6_pinWord yX6_pinWord ∈ tblG := mem_s 7 (by decide +kernel) rfl
theorem cw_X6_pinWord : Cond.code yX6_pinWord cX6_pinWord 5 (Option.some Jvm.ClassFile.FieldType.long) ∈ tblG := mem_t 649 (by decide +kernel) rfl
theorem nd_X6_pinWord : yX6_pinWord.cls ≠ "java/lang/invoke/MethodHandle" ∧ yX6_pinWord.cls ≠ "java/lang/invoke/VarHandle" ∧ (parseMethodDescriptor yX6_pinWord.desc).map (fun d => d.parameters.length) = some 3 := by decide +kernel
theorem ml_Net_85 : Cond.methodLink "GatePatch$Net" 85 yX6_made ∈ tblG := mem_t 650 (by decide +kernel) rfl
theorem ml_Net_77 : Cond.methodLink "GatePatch$Net" 77 yX6_sourceWord ∈ tblG := mem_t 640 (by decide +kernel) rfl
theorem st_X6_sourceWord : Cond.static yX6_sourceWord ∈ tblG := mem_t 641 (by decide +kernel) rfl
theorem cw_X6_sourceWord : Cond.code yX6_sourceWord cX6_sourceWord 2 (Option.some Jvm.ClassFile.FieldType.long) ∈ tblG := mem_t 642 (by decide +kernel) rfl
theorem nd_X6_sourceWord : yX6_sourceWord.cls ≠ "java/lang/invoke/MethodHandle" ∧ yX6_sourceWord.cls ≠ "java/lang/invoke/VarHandle" ∧ (parseMethodDescriptor yX6_sourceWord.desc).map (fun d => d.parameters.length) = some 2 := by decide +kernel
theorem fl_Net_40 : FL "GatePatch$Net" 40 5 6 := ⟨R_Net, T_Net, 7, ty_Net, ci_Net, by decide, mem_t 110 (by decide +kernel) rfl⟩
theorem ml_Net_44 : Cond.methodLink "GatePatch$Net" 44 yX6_sortGates ∈ tblG := mem_t 621 (by decide +kernel) rfl
theorem im_X6_sortGates : Cond.instanceMethod yX6_sortGates ∈ tblG := mem_t 623 (by decide +kernel) rfl
theorem se_X6_sortGates : Cond.selects "GatePatch$Net" yX6_sortGates yX6_sortGates ∈ tblG := mem_s 3 (by decide +kernel) rfl
theorem cw_X6_sortGates : Cond.code yX6_sortGates cX6_sortGates 6 (Option.none : Option Jvm.ClassFile.FieldType) ∈ tblG := mem_t 624 (by decide +kernel) rfl
theorem nd_X6_sortGates : yX6_sortGates.cls ≠ "java/lang/invoke/MethodHandle" ∧ yX6_sortGates.cls ≠ "java/lang/invoke/VarHandle" ∧ (parseMethodDescriptor yX6_sortGates.desc).map (fun d => d.parameters.length) = some 0 := by decide +kernel
theorem ml_Net_47 : Cond.methodLink "GatePatch$Net" 47 yX6_findBelow ∈ tblG := mem_t 632 (by decide +kernel) rfl
theorem im_X6_findBelow : Cond.instanceMethod yX6_findBelow ∈ tblG := mem_t 634 (by decide +kernel) rfl
theorem se_X6_findBelow : Cond.selects "GatePatch$Net" yX6_findBelow yX6_findBelow ∈ tblG := mem_s 5 (by decide +kernel) rfl
theorem cw_X6_findBelow : Cond.code yX6_findBelow cX6_findBelow 6 (Option.none : Option Jvm.ClassFile.FieldType) ∈ tblG := mem_t 635 (by decide +kernel) rfl
theorem nd_X6_findBelow : yX6_findBelow.cls ≠ "java/lang/invoke/MethodHandle" ∧ yX6_findBelow.cls ≠ "java/lang/invoke/VarHandle" ∧ (parseMethodDescriptor yX6_findBelow.desc).map (fun d => d.parameters.length) = some 0 := by decide +kernel
theorem ml_Net_50 : Cond.methodLink "GatePatch$Net" 50 yX6_fillWords ∈ tblG := mem_t 636 (by decide +kernel) rfl
theorem im_X6_fillWords : Cond.instanceMethod yX6_fillWords ∈ tblG := mem_t 638 (by decide +kernel) rfl
theorem se_X6_fillWords : Cond.selects "GatePatch$Net" yX6_fillWords yX6_fillWords ∈ tblG := mem_s 6 (by decide +kernel) rfl
theorem cw_X6_fillWords : Cond.code yX6_fillWords cX6_fillWords 4 (Option.none : Option Jvm.ClassFile.FieldType) ∈ tblG := mem_t 639 (by decide +kernel) rfl
theorem nd_X6_fillWords : yX6_fillWords.cls ≠ "java/lang/invoke/MethodHandle" ∧ yX6_fillWords.cls ≠ "java/lang/invoke/VarHandle" ∧ (parseMethodDescriptor yX6_fillWords.desc).map (fun d => d.parameters.length) = some 0 := by decide +kernel
theorem fl_Net_29 : FL "GatePatch$Net" 29 5 5 := ⟨R_Net, T_Net, 7, ty_Net, ci_Net, by decide, mem_t 108 (by decide +kernel) rfl⟩
theorem ml_Net_94 : Cond.methodLink "GatePatch$Net" 94 Lib.Math.max.name ∈ tblG := mem_t 1072 (by decide +kernel) rfl
theorem ma_st_max : Cond.static Lib.Math.max.name ∈ tblG := mem_t 1073 (by decide +kernel) rfl
theorem ini_Math : Cond.initialized "java/lang/Math" ∈ tblG := mem_t 20 (by decide +kernel) rfl
theorem ma_cw_max : Cond.code Lib.Math.max.name Lib.Math.max.code 2 (some .int) ∈ tblG := mem_t 1074 (by decide +kernel) rfl
theorem dX6_start_0 : decode cX6_start 0 = .ok (.aload_n 0, 1) := by decide +kernel
theorem dX6_start_1 : decode cX6_start 1 = .ok (.getfield 12, 3) := by decide +kernel
theorem dX6_start_4 : decode cX6_start 4 = .ok (.iload_n 1, 1) := by decide +kernel
theorem dX6_start_5 : decode cX6_start 5 = .ok (.iload_n 2, 1) := by decide +kernel
theorem dX6_start_6 : decode cX6_start 6 = .ok (.iload_n 3, 1) := by decide +kernel
theorem dX6_start_7 : decode cX6_start 7 = .ok (.invokevirtual 36, 3) := by decide +kernel
theorem dX6_start_10 : decode cX6_start 10 = .ok (.aload_n 0, 1) := by decide +kernel
theorem dX6_start_11 : decode cX6_start 11 = .ok (.iconst 0, 1) := by decide +kernel
theorem dX6_start_12 : decode cX6_start 12 = .ok (.putfield 40, 3) := by decide +kernel
theorem dX6_start_15 : decode cX6_start 15 = .ok (.return_, 1) := by decide +kernel
theorem dX6_stale_0 : decode cX6_stale 0 = .ok (.aload_n 0, 1) := by decide +kernel
theorem dX6_stale_1 : decode cX6_stale 1 = .ok (.iconst 0, 1) := by decide +kernel
theorem dX6_stale_2 : decode cX6_stale 2 = .ok (.putfield 40, 3) := by decide +kernel
theorem dX6_stale_5 : decode cX6_stale 5 = .ok (.return_, 1) := by decide +kernel
theorem dX6_pinsReady_0 : decode cX6_pinsReady 0 = .ok (.iconst 0, 1) := by decide +kernel
theorem dX6_pinsReady_1 : decode cX6_pinsReady 1 = .ok (.istore 4, 2) := by decide +kernel
theorem dX6_pinsReady_3 : decode cX6_pinsReady 3 = .ok (.iload 4, 2) := by decide +kernel
theorem dX6_pinsReady_5 : decode cX6_pinsReady 5 = .ok (.getstatic 67, 3) := by decide +kernel
theorem dX6_pinsReady_8 : decode cX6_pinsReady 8 = .ok (.aload_n 0, 1) := by decide +kernel
theorem dX6_pinsReady_9 : decode cX6_pinsReady 9 = .ok (.getfield 12, 3) := by decide +kernel
theorem dX6_pinsReady_12 : decode cX6_pinsReady 12 = .ok (.getfield 71, 3) := by decide +kernel
theorem dX6_pinsReady_15 : decode cX6_pinsReady 15 = .ok (.iload_n 1, 1) := by decide +kernel
theorem dX6_pinsReady_16 : decode cX6_pinsReady 16 = .ok (.iaload, 1) := by decide +kernel
theorem dX6_pinsReady_17 : decode cX6_pinsReady 17 = .ok (.baload, 1) := by decide +kernel
theorem dX6_pinsReady_18 : decode cX6_pinsReady 18 = .ok (.if_icmp .ge 34, 3) := by decide +kernel
theorem dX6_pinsReady_21 : decode cX6_pinsReady 21 = .ok (.lload_n 2, 1) := by decide +kernel
theorem dX6_pinsReady_22 : decode cX6_pinsReady 22 = .ok (.aload_n 0, 1) := by decide +kernel
theorem dX6_pinsReady_23 : decode cX6_pinsReady 23 = .ok (.getfield 12, 3) := by decide +kernel
theorem dX6_pinsReady_26 : decode cX6_pinsReady 26 = .ok (.getfield 74, 3) := by decide +kernel
theorem dX6_pinsReady_29 : decode cX6_pinsReady 29 = .ok (.iconst 3, 1) := by decide +kernel
theorem dX6_pinsReady_30 : decode cX6_pinsReady 30 = .ok (.iload_n 1, 1) := by decide +kernel
theorem dX6_pinsReady_31 : decode cX6_pinsReady 31 = .ok (.imul, 1) := by decide +kernel
theorem dX6_pinsReady_32 : decode cX6_pinsReady 32 = .ok (.iload 4, 2) := by decide +kernel
theorem dX6_pinsReady_34 : decode cX6_pinsReady 34 = .ok (.iadd, 1) := by decide +kernel
theorem dX6_pinsReady_35 : decode cX6_pinsReady 35 = .ok (.iaload, 1) := by decide +kernel
theorem dX6_pinsReady_36 : decode cX6_pinsReady 36 = .ok (.lshr, 1) := by decide +kernel
theorem dX6_pinsReady_37 : decode cX6_pinsReady 37 = .ok (.lconst 1, 1) := by decide +kernel
theorem dX6_pinsReady_38 : decode cX6_pinsReady 38 = .ok (.land, 1) := by decide +kernel
theorem dX6_pinsReady_39 : decode cX6_pinsReady 39 = .ok (.lconst 0, 1) := by decide +kernel
theorem dX6_pinsReady_40 : decode cX6_pinsReady 40 = .ok (.lcmp, 1) := by decide +kernel
theorem dX6_pinsReady_41 : decode cX6_pinsReady 41 = .ok (.ifCond .ne 5, 3) := by decide +kernel
theorem dX6_pinsReady_44 : decode cX6_pinsReady 44 = .ok (.iconst 0, 1) := by decide +kernel
theorem dX6_pinsReady_45 : decode cX6_pinsReady 45 = .ok (.ireturn, 1) := by decide +kernel
theorem dX6_pinsReady_46 : decode cX6_pinsReady 46 = .ok (.iinc 4 1, 3) := by decide +kernel
theorem dX6_pinsReady_49 : decode cX6_pinsReady 49 = .ok (.goto (-46), 3) := by decide +kernel
theorem dX6_pinsReady_52 : decode cX6_pinsReady 52 = .ok (.iconst 1, 1) := by decide +kernel
theorem dX6_pinsReady_53 : decode cX6_pinsReady 53 = .ok (.ireturn, 1) := by decide +kernel
theorem dX6_sortGates_0 : decode cX6_sortGates 0 = .ok (.lconst 1, 1) := by decide +kernel
theorem dX6_sortGates_1 : decode cX6_sortGates 1 = .ok (.aload_n 0, 1) := by decide +kernel
theorem dX6_sortGates_2 : decode cX6_sortGates 2 = .ok (.getfield 12, 3) := by decide +kernel
theorem dX6_sortGates_5 : decode cX6_sortGates 5 = .ok (.invokevirtual 53, 3) := by decide +kernel
theorem dX6_sortGates_8 : decode cX6_sortGates 8 = .ok (.lshl, 1) := by decide +kernel
theorem dX6_sortGates_9 : decode cX6_sortGates 9 = .ok (.lconst 1, 1) := by decide +kernel
theorem dX6_sortGates_10 : decode cX6_sortGates 10 = .ok (.lsub, 1) := by decide +kernel
theorem dX6_sortGates_11 : decode cX6_sortGates 11 = .ok (.lstore_n 1, 1) := by decide +kernel
theorem dX6_sortGates_12 : decode cX6_sortGates 12 = .ok (.iconst 0, 1) := by decide +kernel
theorem dX6_sortGates_13 : decode cX6_sortGates 13 = .ok (.istore_n 3, 1) := by decide +kernel
theorem dX6_sortGates_14 : decode cX6_sortGates 14 = .ok (.iconst 0, 1) := by decide +kernel
theorem dX6_sortGates_15 : decode cX6_sortGates 15 = .ok (.istore 4, 2) := by decide +kernel
theorem dX6_sortGates_17 : decode cX6_sortGates 17 = .ok (.iload 4, 2) := by decide +kernel
theorem dX6_sortGates_19 : decode cX6_sortGates 19 = .ok (.aload_n 0, 1) := by decide +kernel
theorem dX6_sortGates_20 : decode cX6_sortGates 20 = .ok (.getfield 12, 3) := by decide +kernel
theorem dX6_sortGates_23 : decode cX6_sortGates 23 = .ok (.getfield 57, 3) := by decide +kernel
theorem dX6_sortGates_26 : decode cX6_sortGates 26 = .ok (.if_icmp .ge 86, 3) := by decide +kernel
theorem dX6_sortGates_29 : decode cX6_sortGates 29 = .ok (.iload_n 3, 1) := by decide +kernel
theorem dX6_sortGates_30 : decode cX6_sortGates 30 = .ok (.aload_n 0, 1) := by decide +kernel
theorem dX6_sortGates_31 : decode cX6_sortGates 31 = .ok (.getfield 12, 3) := by decide +kernel
theorem dX6_sortGates_34 : decode cX6_sortGates 34 = .ok (.getfield 57, 3) := by decide +kernel
theorem dX6_sortGates_37 : decode cX6_sortGates 37 = .ok (.if_icmp .ge 75, 3) := by decide +kernel
theorem dX6_sortGates_40 : decode cX6_sortGates 40 = .ok (.aload_n 0, 1) := by decide +kernel
theorem dX6_sortGates_41 : decode cX6_sortGates 41 = .ok (.getfield 12, 3) := by decide +kernel
theorem dX6_sortGates_44 : decode cX6_sortGates 44 = .ok (.invokevirtual 53, 3) := by decide +kernel
theorem dX6_sortGates_47 : decode cX6_sortGates 47 = .ok (.istore 5, 2) := by decide +kernel
theorem dX6_sortGates_49 : decode cX6_sortGates 49 = .ok (.iload 5, 2) := by decide +kernel
theorem dX6_sortGates_51 : decode cX6_sortGates 51 = .ok (.aload_n 0, 1) := by decide +kernel
theorem dX6_sortGates_52 : decode cX6_sortGates 52 = .ok (.getfield 12, 3) := by decide +kernel
theorem dX6_sortGates_55 : decode cX6_sortGates 55 = .ok (.invokevirtual 60, 3) := by decide +kernel
theorem dX6_sortGates_58 : decode cX6_sortGates 58 = .ok (.if_icmp .ge 48, 3) := by decide +kernel
theorem dX6_sortGates_61 : decode cX6_sortGates 61 = .ok (.lload_n 1, 1) := by decide +kernel
theorem dX6_sortGates_62 : decode cX6_sortGates 62 = .ok (.iload 5, 2) := by decide +kernel
theorem dX6_sortGates_64 : decode cX6_sortGates 64 = .ok (.lshr, 1) := by decide +kernel
theorem dX6_sortGates_65 : decode cX6_sortGates 65 = .ok (.lconst 1, 1) := by decide +kernel
theorem dX6_sortGates_66 : decode cX6_sortGates 66 = .ok (.land, 1) := by decide +kernel
theorem dX6_sortGates_67 : decode cX6_sortGates 67 = .ok (.lconst 0, 1) := by decide +kernel
theorem dX6_sortGates_68 : decode cX6_sortGates 68 = .ok (.lcmp, 1) := by decide +kernel
theorem dX6_sortGates_69 : decode cX6_sortGates 69 = .ok (.ifCond .ne 31, 3) := by decide +kernel
theorem dX6_sortGates_72 : decode cX6_sortGates 72 = .ok (.aload_n 0, 1) := by decide +kernel
theorem dX6_sortGates_73 : decode cX6_sortGates 73 = .ok (.iload 5, 2) := by decide +kernel
theorem dX6_sortGates_75 : decode cX6_sortGates 75 = .ok (.lload_n 1, 1) := by decide +kernel
theorem dX6_sortGates_76 : decode cX6_sortGates 76 = .ok (.invokevirtual 63, 3) := by decide +kernel
theorem dX6_sortGates_79 : decode cX6_sortGates 79 = .ok (.ifCond .eq 21, 3) := by decide +kernel
theorem dX6_sortGates_82 : decode cX6_sortGates 82 = .ok (.lload_n 1, 1) := by decide +kernel
theorem dX6_sortGates_83 : decode cX6_sortGates 83 = .ok (.lconst 1, 1) := by decide +kernel
theorem dX6_sortGates_84 : decode cX6_sortGates 84 = .ok (.iload 5, 2) := by decide +kernel
theorem dX6_sortGates_86 : decode cX6_sortGates 86 = .ok (.lshl, 1) := by decide +kernel
theorem dX6_sortGates_87 : decode cX6_sortGates 87 = .ok (.lor, 1) := by decide +kernel
theorem dX6_sortGates_88 : decode cX6_sortGates 88 = .ok (.lstore_n 1, 1) := by decide +kernel
theorem dX6_sortGates_89 : decode cX6_sortGates 89 = .ok (.aload_n 0, 1) := by decide +kernel
theorem dX6_sortGates_90 : decode cX6_sortGates 90 = .ok (.getfield 18, 3) := by decide +kernel
theorem dX6_sortGates_93 : decode cX6_sortGates 93 = .ok (.iload_n 3, 1) := by decide +kernel
theorem dX6_sortGates_94 : decode cX6_sortGates 94 = .ok (.iload 5, 2) := by decide +kernel
theorem dX6_sortGates_96 : decode cX6_sortGates 96 = .ok (.iastore, 1) := by decide +kernel
theorem dX6_sortGates_97 : decode cX6_sortGates 97 = .ok (.iinc 3 1, 3) := by decide +kernel
theorem dX6_sortGates_100 : decode cX6_sortGates 100 = .ok (.iinc 5 1, 3) := by decide +kernel
theorem dX6_sortGates_103 : decode cX6_sortGates 103 = .ok (.goto (-54), 3) := by decide +kernel
theorem dX6_sortGates_106 : decode cX6_sortGates 106 = .ok (.iinc 4 1, 3) := by decide +kernel
theorem dX6_sortGates_109 : decode cX6_sortGates 109 = .ok (.goto (-92), 3) := by decide +kernel
theorem dX6_sortGates_112 : decode cX6_sortGates 112 = .ok (.return_, 1) := by decide +kernel
theorem dX6_findBelow_0 : decode cX6_findBelow 0 = .ok (.iconst 0, 1) := by decide +kernel
theorem dX6_findBelow_1 : decode cX6_findBelow 1 = .ok (.istore_n 1, 1) := by decide +kernel
theorem dX6_findBelow_2 : decode cX6_findBelow 2 = .ok (.iload_n 1, 1) := by decide +kernel
theorem dX6_findBelow_3 : decode cX6_findBelow 3 = .ok (.aload_n 0, 1) := by decide +kernel
theorem dX6_findBelow_4 : decode cX6_findBelow 4 = .ok (.getfield 12, 3) := by decide +kernel
theorem dX6_findBelow_7 : decode cX6_findBelow 7 = .ok (.invokevirtual 53, 3) := by decide +kernel
theorem dX6_findBelow_10 : decode cX6_findBelow 10 = .ok (.if_icmp .ge 18, 3) := by decide +kernel
theorem dX6_findBelow_13 : decode cX6_findBelow 13 = .ok (.aload_n 0, 1) := by decide +kernel
theorem dX6_findBelow_14 : decode cX6_findBelow 14 = .ok (.getfield 22, 3) := by decide +kernel
theorem dX6_findBelow_17 : decode cX6_findBelow 17 = .ok (.iload_n 1, 1) := by decide +kernel
theorem dX6_findBelow_18 : decode cX6_findBelow 18 = .ok (.lconst 1, 1) := by decide +kernel
theorem dX6_findBelow_19 : decode cX6_findBelow 19 = .ok (.iload_n 1, 1) := by decide +kernel
theorem dX6_findBelow_20 : decode cX6_findBelow 20 = .ok (.lshl, 1) := by decide +kernel
theorem dX6_findBelow_21 : decode cX6_findBelow 21 = .ok (.lastore, 1) := by decide +kernel
theorem dX6_findBelow_22 : decode cX6_findBelow 22 = .ok (.iinc 1 1, 3) := by decide +kernel
theorem dX6_findBelow_25 : decode cX6_findBelow 25 = .ok (.goto (-23), 3) := by decide +kernel
theorem dX6_findBelow_28 : decode cX6_findBelow 28 = .ok (.iconst 0, 1) := by decide +kernel
theorem dX6_findBelow_29 : decode cX6_findBelow 29 = .ok (.istore_n 1, 1) := by decide +kernel
theorem dX6_findBelow_30 : decode cX6_findBelow 30 = .ok (.iload_n 1, 1) := by decide +kernel
theorem dX6_findBelow_31 : decode cX6_findBelow 31 = .ok (.aload_n 0, 1) := by decide +kernel
theorem dX6_findBelow_32 : decode cX6_findBelow 32 = .ok (.getfield 12, 3) := by decide +kernel
theorem dX6_findBelow_35 : decode cX6_findBelow 35 = .ok (.getfield 57, 3) := by decide +kernel
theorem dX6_findBelow_38 : decode cX6_findBelow 38 = .ok (.if_icmp .ge 76, 3) := by decide +kernel
theorem dX6_findBelow_41 : decode cX6_findBelow 41 = .ok (.aload_n 0, 1) := by decide +kernel
theorem dX6_findBelow_42 : decode cX6_findBelow 42 = .ok (.getfield 18, 3) := by decide +kernel
theorem dX6_findBelow_45 : decode cX6_findBelow 45 = .ok (.iload_n 1, 1) := by decide +kernel
theorem dX6_findBelow_46 : decode cX6_findBelow 46 = .ok (.iaload, 1) := by decide +kernel
theorem dX6_findBelow_47 : decode cX6_findBelow 47 = .ok (.istore_n 2, 1) := by decide +kernel
theorem dX6_findBelow_48 : decode cX6_findBelow 48 = .ok (.lconst 1, 1) := by decide +kernel
theorem dX6_findBelow_49 : decode cX6_findBelow 49 = .ok (.iload_n 2, 1) := by decide +kernel
theorem dX6_findBelow_50 : decode cX6_findBelow 50 = .ok (.lshl, 1) := by decide +kernel
theorem dX6_findBelow_51 : decode cX6_findBelow 51 = .ok (.lstore_n 3, 1) := by decide +kernel
theorem dX6_findBelow_52 : decode cX6_findBelow 52 = .ok (.iconst 0, 1) := by decide +kernel
theorem dX6_findBelow_53 : decode cX6_findBelow 53 = .ok (.istore 5, 2) := by decide +kernel
theorem dX6_findBelow_55 : decode cX6_findBelow 55 = .ok (.iload 5, 2) := by decide +kernel
theorem dX6_findBelow_57 : decode cX6_findBelow 57 = .ok (.getstatic 67, 3) := by decide +kernel
theorem dX6_findBelow_60 : decode cX6_findBelow 60 = .ok (.aload_n 0, 1) := by decide +kernel
theorem dX6_findBelow_61 : decode cX6_findBelow 61 = .ok (.getfield 12, 3) := by decide +kernel
theorem dX6_findBelow_64 : decode cX6_findBelow 64 = .ok (.getfield 71, 3) := by decide +kernel
theorem dX6_findBelow_67 : decode cX6_findBelow 67 = .ok (.iload_n 2, 1) := by decide +kernel
theorem dX6_findBelow_68 : decode cX6_findBelow 68 = .ok (.iaload, 1) := by decide +kernel
theorem dX6_findBelow_69 : decode cX6_findBelow 69 = .ok (.baload, 1) := by decide +kernel
theorem dX6_findBelow_70 : decode cX6_findBelow 70 = .ok (.if_icmp .ge 31, 3) := by decide +kernel
theorem dX6_findBelow_73 : decode cX6_findBelow 73 = .ok (.lload_n 3, 1) := by decide +kernel
theorem dX6_findBelow_74 : decode cX6_findBelow 74 = .ok (.aload_n 0, 1) := by decide +kernel
theorem dX6_findBelow_75 : decode cX6_findBelow 75 = .ok (.getfield 22, 3) := by decide +kernel
theorem dX6_findBelow_78 : decode cX6_findBelow 78 = .ok (.aload_n 0, 1) := by decide +kernel
theorem dX6_findBelow_79 : decode cX6_findBelow 79 = .ok (.getfield 12, 3) := by decide +kernel
theorem dX6_findBelow_82 : decode cX6_findBelow 82 = .ok (.getfield 74, 3) := by decide +kernel
theorem dX6_findBelow_85 : decode cX6_findBelow 85 = .ok (.iconst 3, 1) := by decide +kernel
theorem dX6_findBelow_86 : decode cX6_findBelow 86 = .ok (.iload_n 2, 1) := by decide +kernel
theorem dX6_findBelow_87 : decode cX6_findBelow 87 = .ok (.imul, 1) := by decide +kernel
theorem dX6_findBelow_88 : decode cX6_findBelow 88 = .ok (.iload 5, 2) := by decide +kernel
theorem dX6_findBelow_90 : decode cX6_findBelow 90 = .ok (.iadd, 1) := by decide +kernel
theorem dX6_findBelow_91 : decode cX6_findBelow 91 = .ok (.iaload, 1) := by decide +kernel
theorem dX6_findBelow_92 : decode cX6_findBelow 92 = .ok (.laload, 1) := by decide +kernel
theorem dX6_findBelow_93 : decode cX6_findBelow 93 = .ok (.lor, 1) := by decide +kernel
theorem dX6_findBelow_94 : decode cX6_findBelow 94 = .ok (.lstore_n 3, 1) := by decide +kernel
theorem dX6_findBelow_95 : decode cX6_findBelow 95 = .ok (.iinc 5 1, 3) := by decide +kernel
theorem dX6_findBelow_98 : decode cX6_findBelow 98 = .ok (.goto (-43), 3) := by decide +kernel
theorem dX6_findBelow_101 : decode cX6_findBelow 101 = .ok (.aload_n 0, 1) := by decide +kernel
theorem dX6_findBelow_102 : decode cX6_findBelow 102 = .ok (.getfield 22, 3) := by decide +kernel
theorem dX6_findBelow_105 : decode cX6_findBelow 105 = .ok (.iload_n 2, 1) := by decide +kernel
theorem dX6_findBelow_106 : decode cX6_findBelow 106 = .ok (.lload_n 3, 1) := by decide +kernel
theorem dX6_findBelow_107 : decode cX6_findBelow 107 = .ok (.lastore, 1) := by decide +kernel
theorem dX6_findBelow_108 : decode cX6_findBelow 108 = .ok (.iinc 1 1, 3) := by decide +kernel
theorem dX6_findBelow_111 : decode cX6_findBelow 111 = .ok (.goto (-81), 3) := by decide +kernel
theorem dX6_findBelow_114 : decode cX6_findBelow 114 = .ok (.return_, 1) := by decide +kernel
theorem dX6_sourceWord_0 : decode cX6_sourceWord 0 = .ok (.iload_n 0, 1) := by decide +kernel
theorem dX6_sourceWord_1 : decode cX6_sourceWord 1 = .ok (.getstatic 89, 3) := by decide +kernel
theorem dX6_sourceWord_4 : decode cX6_sourceWord 4 = .ok (.arraylength, 1) := by decide +kernel
theorem dX6_sourceWord_5 : decode cX6_sourceWord 5 = .ok (.if_icmp .ge 9, 3) := by decide +kernel
theorem dX6_sourceWord_8 : decode cX6_sourceWord 8 = .ok (.getstatic 89, 3) := by decide +kernel
theorem dX6_sourceWord_11 : decode cX6_sourceWord 11 = .ok (.iload_n 0, 1) := by decide +kernel
theorem dX6_sourceWord_12 : decode cX6_sourceWord 12 = .ok (.laload, 1) := by decide +kernel
theorem dX6_sourceWord_13 : decode cX6_sourceWord 13 = .ok (.lreturn, 1) := by decide +kernel
theorem dX6_sourceWord_14 : decode cX6_sourceWord 14 = .ok (.iload_n 1, 1) := by decide +kernel
theorem dX6_sourceWord_15 : decode cX6_sourceWord 15 = .ok (.iload_n 0, 1) := by decide +kernel
theorem dX6_sourceWord_16 : decode cX6_sourceWord 16 = .ok (.getstatic 89, 3) := by decide +kernel
theorem dX6_sourceWord_19 : decode cX6_sourceWord 19 = .ok (.arraylength, 1) := by decide +kernel
theorem dX6_sourceWord_20 : decode cX6_sourceWord 20 = .ok (.isub, 1) := by decide +kernel
theorem dX6_sourceWord_21 : decode cX6_sourceWord 21 = .ok (.ishr, 1) := by decide +kernel
theorem dX6_sourceWord_22 : decode cX6_sourceWord 22 = .ok (.iconst 1, 1) := by decide +kernel
theorem dX6_sourceWord_23 : decode cX6_sourceWord 23 = .ok (.iand, 1) := by decide +kernel
theorem dX6_sourceWord_24 : decode cX6_sourceWord 24 = .ok (.iconst 1, 1) := by decide +kernel
theorem dX6_sourceWord_25 : decode cX6_sourceWord 25 = .ok (.if_icmp .ne 9, 3) := by decide +kernel
theorem dX6_sourceWord_28 : decode cX6_sourceWord 28 = .ok (.ldc2_w 92, 3) := by decide +kernel
theorem dX6_sourceWord_31 : decode cX6_sourceWord 31 = .ok (.goto 4, 3) := by decide +kernel
theorem dX6_sourceWord_34 : decode cX6_sourceWord 34 = .ok (.lconst 0, 1) := by decide +kernel
theorem dX6_sourceWord_35 : decode cX6_sourceWord 35 = .ok (.lreturn, 1) := by decide +kernel
theorem dX6_pinWord_0 : decode cX6_pinWord 0 = .ok (.aload_n 0, 1) := by decide +kernel
theorem dX6_pinWord_1 : decode cX6_pinWord 1 = .ok (.getfield 12, 3) := by decide +kernel
theorem dX6_pinWord_4 : decode cX6_pinWord 4 = .ok (.getfield 74, 3) := by decide +kernel
theorem dX6_pinWord_7 : decode cX6_pinWord 7 = .ok (.iconst 3, 1) := by decide +kernel
theorem dX6_pinWord_8 : decode cX6_pinWord 8 = .ok (.iload_n 1, 1) := by decide +kernel
theorem dX6_pinWord_9 : decode cX6_pinWord 9 = .ok (.imul, 1) := by decide +kernel
theorem dX6_pinWord_10 : decode cX6_pinWord 10 = .ok (.iload_n 2, 1) := by decide +kernel
theorem dX6_pinWord_11 : decode cX6_pinWord 11 = .ok (.iadd, 1) := by decide +kernel
theorem dX6_pinWord_12 : decode cX6_pinWord 12 = .ok (.iaload, 1) := by decide +kernel
theorem dX6_pinWord_13 : decode cX6_pinWord 13 = .ok (.istore 4, 2) := by decide +kernel
theorem dX6_pinWord_15 : decode cX6_pinWord 15 = .ok (.iload 4, 2) := by decide +kernel
theorem dX6_pinWord_17 : decode cX6_pinWord 17 = .ok (.ifCond .ge 7, 3) := by decide +kernel
theorem dX6_pinWord_20 : decode cX6_pinWord 20 = .ok (.lconst 0, 1) := by decide +kernel
theorem dX6_pinWord_21 : decode cX6_pinWord 21 = .ok (.goto 14, 3) := by decide +kernel
theorem dX6_pinWord_24 : decode cX6_pinWord 24 = .ok (.aload_n 0, 1) := by decide +kernel
theorem dX6_pinWord_25 : decode cX6_pinWord 25 = .ok (.getfield 26, 3) := by decide +kernel
theorem dX6_pinWord_28 : decode cX6_pinWord 28 = .ok (.iconst 4, 1) := by decide +kernel
theorem dX6_pinWord_29 : decode cX6_pinWord 29 = .ok (.iload 4, 2) := by decide +kernel
theorem dX6_pinWord_31 : decode cX6_pinWord 31 = .ok (.imul, 1) := by decide +kernel
theorem dX6_pinWord_32 : decode cX6_pinWord 32 = .ok (.iload_n 3, 1) := by decide +kernel
theorem dX6_pinWord_33 : decode cX6_pinWord 33 = .ok (.iadd, 1) := by decide +kernel
theorem dX6_pinWord_34 : decode cX6_pinWord 34 = .ok (.laload, 1) := by decide +kernel
theorem dX6_pinWord_35 : decode cX6_pinWord 35 = .ok (.lreturn, 1) := by decide +kernel
theorem dX6_fillWords_0 : decode cX6_fillWords 0 = .ok (.iconst 0, 1) := by decide +kernel
theorem dX6_fillWords_1 : decode cX6_fillWords 1 = .ok (.istore_n 1, 1) := by decide +kernel
theorem dX6_fillWords_2 : decode cX6_fillWords 2 = .ok (.iload_n 1, 1) := by decide +kernel
theorem dX6_fillWords_3 : decode cX6_fillWords 3 = .ok (.iconst 4, 1) := by decide +kernel
theorem dX6_fillWords_4 : decode cX6_fillWords 4 = .ok (.if_icmp .ge 112, 3) := by decide +kernel
theorem dX6_fillWords_7 : decode cX6_fillWords 7 = .ok (.iconst 0, 1) := by decide +kernel
theorem dX6_fillWords_8 : decode cX6_fillWords 8 = .ok (.istore_n 2, 1) := by decide +kernel
theorem dX6_fillWords_9 : decode cX6_fillWords 9 = .ok (.iload_n 2, 1) := by decide +kernel
theorem dX6_fillWords_10 : decode cX6_fillWords 10 = .ok (.aload_n 0, 1) := by decide +kernel
theorem dX6_fillWords_11 : decode cX6_fillWords 11 = .ok (.getfield 12, 3) := by decide +kernel
theorem dX6_fillWords_14 : decode cX6_fillWords 14 = .ok (.invokevirtual 53, 3) := by decide +kernel
theorem dX6_fillWords_17 : decode cX6_fillWords 17 = .ok (.if_icmp .ge 24, 3) := by decide +kernel
theorem dX6_fillWords_20 : decode cX6_fillWords 20 = .ok (.aload_n 0, 1) := by decide +kernel
theorem dX6_fillWords_21 : decode cX6_fillWords 21 = .ok (.getfield 26, 3) := by decide +kernel
theorem dX6_fillWords_24 : decode cX6_fillWords 24 = .ok (.iconst 4, 1) := by decide +kernel
theorem dX6_fillWords_25 : decode cX6_fillWords 25 = .ok (.iload_n 2, 1) := by decide +kernel
theorem dX6_fillWords_26 : decode cX6_fillWords 26 = .ok (.imul, 1) := by decide +kernel
theorem dX6_fillWords_27 : decode cX6_fillWords 27 = .ok (.iload_n 1, 1) := by decide +kernel
theorem dX6_fillWords_28 : decode cX6_fillWords 28 = .ok (.iadd, 1) := by decide +kernel
theorem dX6_fillWords_29 : decode cX6_fillWords 29 = .ok (.iload_n 2, 1) := by decide +kernel
theorem dX6_fillWords_30 : decode cX6_fillWords 30 = .ok (.iload_n 1, 1) := by decide +kernel
theorem dX6_fillWords_31 : decode cX6_fillWords 31 = .ok (.invokestatic 77, 3) := by decide +kernel
theorem dX6_fillWords_34 : decode cX6_fillWords 34 = .ok (.lastore, 1) := by decide +kernel
theorem dX6_fillWords_35 : decode cX6_fillWords 35 = .ok (.iinc 2 1, 3) := by decide +kernel
theorem dX6_fillWords_38 : decode cX6_fillWords 38 = .ok (.goto (-29), 3) := by decide +kernel
theorem dX6_fillWords_41 : decode cX6_fillWords 41 = .ok (.iconst 0, 1) := by decide +kernel
theorem dX6_fillWords_42 : decode cX6_fillWords 42 = .ok (.istore_n 2, 1) := by decide +kernel
theorem dX6_fillWords_43 : decode cX6_fillWords 43 = .ok (.iload_n 2, 1) := by decide +kernel
theorem dX6_fillWords_44 : decode cX6_fillWords 44 = .ok (.aload_n 0, 1) := by decide +kernel
theorem dX6_fillWords_45 : decode cX6_fillWords 45 = .ok (.getfield 12, 3) := by decide +kernel
theorem dX6_fillWords_48 : decode cX6_fillWords 48 = .ok (.getfield 57, 3) := by decide +kernel
theorem dX6_fillWords_51 : decode cX6_fillWords 51 = .ok (.if_icmp .ge 59, 3) := by decide +kernel
theorem dX6_fillWords_54 : decode cX6_fillWords 54 = .ok (.aload_n 0, 1) := by decide +kernel
theorem dX6_fillWords_55 : decode cX6_fillWords 55 = .ok (.getfield 18, 3) := by decide +kernel
theorem dX6_fillWords_58 : decode cX6_fillWords 58 = .ok (.iload_n 2, 1) := by decide +kernel
theorem dX6_fillWords_59 : decode cX6_fillWords 59 = .ok (.iaload, 1) := by decide +kernel
theorem dX6_fillWords_60 : decode cX6_fillWords 60 = .ok (.istore_n 3, 1) := by decide +kernel
theorem dX6_fillWords_61 : decode cX6_fillWords 61 = .ok (.aload_n 0, 1) := by decide +kernel
theorem dX6_fillWords_62 : decode cX6_fillWords 62 = .ok (.getfield 26, 3) := by decide +kernel
theorem dX6_fillWords_65 : decode cX6_fillWords 65 = .ok (.iconst 4, 1) := by decide +kernel
theorem dX6_fillWords_66 : decode cX6_fillWords 66 = .ok (.iload_n 3, 1) := by decide +kernel
theorem dX6_fillWords_67 : decode cX6_fillWords 67 = .ok (.imul, 1) := by decide +kernel
theorem dX6_fillWords_68 : decode cX6_fillWords 68 = .ok (.iload_n 1, 1) := by decide +kernel
theorem dX6_fillWords_69 : decode cX6_fillWords 69 = .ok (.iadd, 1) := by decide +kernel
theorem dX6_fillWords_70 : decode cX6_fillWords 70 = .ok (.aload_n 0, 1) := by decide +kernel
theorem dX6_fillWords_71 : decode cX6_fillWords 71 = .ok (.getfield 12, 3) := by decide +kernel
theorem dX6_fillWords_74 : decode cX6_fillWords 74 = .ok (.getfield 71, 3) := by decide +kernel
theorem dX6_fillWords_77 : decode cX6_fillWords 77 = .ok (.iload_n 3, 1) := by decide +kernel
theorem dX6_fillWords_78 : decode cX6_fillWords 78 = .ok (.iaload, 1) := by decide +kernel
theorem dX6_fillWords_79 : decode cX6_fillWords 79 = .ok (.aload_n 0, 1) := by decide +kernel
theorem dX6_fillWords_80 : decode cX6_fillWords 80 = .ok (.iload_n 3, 1) := by decide +kernel
theorem dX6_fillWords_81 : decode cX6_fillWords 81 = .ok (.iconst 0, 1) := by decide +kernel
theorem dX6_fillWords_82 : decode cX6_fillWords 82 = .ok (.iload_n 1, 1) := by decide +kernel
theorem dX6_fillWords_83 : decode cX6_fillWords 83 = .ok (.invokevirtual 81, 3) := by decide +kernel
theorem dX6_fillWords_86 : decode cX6_fillWords 86 = .ok (.aload_n 0, 1) := by decide +kernel
theorem dX6_fillWords_87 : decode cX6_fillWords 87 = .ok (.iload_n 3, 1) := by decide +kernel
theorem dX6_fillWords_88 : decode cX6_fillWords 88 = .ok (.iconst 1, 1) := by decide +kernel
theorem dX6_fillWords_89 : decode cX6_fillWords 89 = .ok (.iload_n 1, 1) := by decide +kernel
theorem dX6_fillWords_90 : decode cX6_fillWords 90 = .ok (.invokevirtual 81, 3) := by decide +kernel
theorem dX6_fillWords_93 : decode cX6_fillWords 93 = .ok (.aload_n 0, 1) := by decide +kernel
theorem dX6_fillWords_94 : decode cX6_fillWords 94 = .ok (.iload_n 3, 1) := by decide +kernel
theorem dX6_fillWords_95 : decode cX6_fillWords 95 = .ok (.iconst 2, 1) := by decide +kernel
theorem dX6_fillWords_96 : decode cX6_fillWords 96 = .ok (.iload_n 1, 1) := by decide +kernel
theorem dX6_fillWords_97 : decode cX6_fillWords 97 = .ok (.invokevirtual 81, 3) := by decide +kernel
theorem dX6_fillWords_100 : decode cX6_fillWords 100 = .ok (.invokestatic 85, 3) := by decide +kernel
theorem dX6_fillWords_103 : decode cX6_fillWords 103 = .ok (.lastore, 1) := by decide +kernel
theorem dX6_fillWords_104 : decode cX6_fillWords 104 = .ok (.iinc 2 1, 3) := by decide +kernel
theorem dX6_fillWords_107 : decode cX6_fillWords 107 = .ok (.goto (-64), 3) := by decide +kernel
theorem dX6_fillWords_110 : decode cX6_fillWords 110 = .ok (.iinc 1 1, 3) := by decide +kernel
theorem dX6_fillWords_113 : decode cX6_fillWords 113 = .ok (.goto (-111), 3) := by decide +kernel
theorem dX6_fillWords_116 : decode cX6_fillWords 116 = .ok (.return_, 1) := by decide +kernel
theorem dX6_refresh_0 : decode cX6_refresh 0 = .ok (.aload_n 0, 1) := by decide +kernel
theorem dX6_refresh_1 : decode cX6_refresh 1 = .ok (.getfield 40, 3) := by decide +kernel
theorem dX6_refresh_4 : decode cX6_refresh 4 = .ok (.ifCond .ne 20, 3) := by decide +kernel
theorem dX6_refresh_7 : decode cX6_refresh 7 = .ok (.aload_n 0, 1) := by decide +kernel
theorem dX6_refresh_8 : decode cX6_refresh 8 = .ok (.invokevirtual 44, 3) := by decide +kernel
theorem dX6_refresh_11 : decode cX6_refresh 11 = .ok (.aload_n 0, 1) := by decide +kernel
theorem dX6_refresh_12 : decode cX6_refresh 12 = .ok (.invokevirtual 47, 3) := by decide +kernel
theorem dX6_refresh_15 : decode cX6_refresh 15 = .ok (.aload_n 0, 1) := by decide +kernel
theorem dX6_refresh_16 : decode cX6_refresh 16 = .ok (.invokevirtual 50, 3) := by decide +kernel
theorem dX6_refresh_19 : decode cX6_refresh 19 = .ok (.aload_n 0, 1) := by decide +kernel
theorem dX6_refresh_20 : decode cX6_refresh 20 = .ok (.iconst 1, 1) := by decide +kernel
theorem dX6_refresh_21 : decode cX6_refresh 21 = .ok (.putfield 40, 3) := by decide +kernel
theorem dX6_refresh_24 : decode cX6_refresh 24 = .ok (.return_, 1) := by decide +kernel
theorem dX6_hangsOn_0 : decode cX6_hangsOn 0 = .ok (.aload_n 0, 1) := by decide +kernel
theorem dX6_hangsOn_1 : decode cX6_hangsOn 1 = .ok (.getfield 22, 3) := by decide +kernel
theorem dX6_hangsOn_4 : decode cX6_hangsOn 4 = .ok (.iload_n 1, 1) := by decide +kernel
theorem dX6_hangsOn_5 : decode cX6_hangsOn 5 = .ok (.laload, 1) := by decide +kernel
theorem dX6_hangsOn_6 : decode cX6_hangsOn 6 = .ok (.iload_n 2, 1) := by decide +kernel
theorem dX6_hangsOn_7 : decode cX6_hangsOn 7 = .ok (.lshr, 1) := by decide +kernel
theorem dX6_hangsOn_8 : decode cX6_hangsOn 8 = .ok (.lconst 1, 1) := by decide +kernel
theorem dX6_hangsOn_9 : decode cX6_hangsOn 9 = .ok (.land, 1) := by decide +kernel
theorem dX6_hangsOn_10 : decode cX6_hangsOn 10 = .ok (.lconst 1, 1) := by decide +kernel
theorem dX6_hangsOn_11 : decode cX6_hangsOn 11 = .ok (.lcmp, 1) := by decide +kernel
theorem dX6_hangsOn_12 : decode cX6_hangsOn 12 = .ok (.ifCond .ne 7, 3) := by decide +kernel
theorem dX6_hangsOn_15 : decode cX6_hangsOn 15 = .ok (.iconst 1, 1) := by decide +kernel
theorem dX6_hangsOn_16 : decode cX6_hangsOn 16 = .ok (.goto 4, 3) := by decide +kernel
theorem dX6_hangsOn_19 : decode cX6_hangsOn 19 = .ok (.iconst 0, 1) := by decide +kernel
theorem dX6_hangsOn_20 : decode cX6_hangsOn 20 = .ok (.ireturn, 1) := by decide +kernel
theorem dX6_timeAll_0 : decode cX6_timeAll 0 = .ok (.iconst 0, 1) := by decide +kernel
theorem dX6_timeAll_1 : decode cX6_timeAll 1 = .ok (.istore_n 2, 1) := by decide +kernel
theorem dX6_timeAll_2 : decode cX6_timeAll 2 = .ok (.iload_n 2, 1) := by decide +kernel
theorem dX6_timeAll_3 : decode cX6_timeAll 3 = .ok (.aload_n 0, 1) := by decide +kernel
theorem dX6_timeAll_4 : decode cX6_timeAll 4 = .ok (.getfield 12, 3) := by decide +kernel
theorem dX6_timeAll_7 : decode cX6_timeAll 7 = .ok (.invokevirtual 53, 3) := by decide +kernel
theorem dX6_timeAll_10 : decode cX6_timeAll 10 = .ok (.if_icmp .ge 16, 3) := by decide +kernel
theorem dX6_timeAll_13 : decode cX6_timeAll 13 = .ok (.aload_n 0, 1) := by decide +kernel
theorem dX6_timeAll_14 : decode cX6_timeAll 14 = .ok (.getfield 29, 3) := by decide +kernel
theorem dX6_timeAll_17 : decode cX6_timeAll 17 = .ok (.iload_n 2, 1) := by decide +kernel
theorem dX6_timeAll_18 : decode cX6_timeAll 18 = .ok (.iconst 0, 1) := by decide +kernel
theorem dX6_timeAll_19 : decode cX6_timeAll 19 = .ok (.iastore, 1) := by decide +kernel
theorem dX6_timeAll_20 : decode cX6_timeAll 20 = .ok (.iinc 2 1, 3) := by decide +kernel
theorem dX6_timeAll_23 : decode cX6_timeAll 23 = .ok (.goto (-21), 3) := by decide +kernel
theorem dX6_timeAll_26 : decode cX6_timeAll 26 = .ok (.iconst 0, 1) := by decide +kernel
theorem dX6_timeAll_27 : decode cX6_timeAll 27 = .ok (.istore_n 2, 1) := by decide +kernel
theorem dX6_timeAll_28 : decode cX6_timeAll 28 = .ok (.iload_n 2, 1) := by decide +kernel
theorem dX6_timeAll_29 : decode cX6_timeAll 29 = .ok (.aload_n 0, 1) := by decide +kernel
theorem dX6_timeAll_30 : decode cX6_timeAll 30 = .ok (.getfield 12, 3) := by decide +kernel
theorem dX6_timeAll_33 : decode cX6_timeAll 33 = .ok (.getfield 57, 3) := by decide +kernel
theorem dX6_timeAll_36 : decode cX6_timeAll 36 = .ok (.if_icmp .ge 92, 3) := by decide +kernel
theorem dX6_timeAll_39 : decode cX6_timeAll 39 = .ok (.aload_n 0, 1) := by decide +kernel
theorem dX6_timeAll_40 : decode cX6_timeAll 40 = .ok (.getfield 18, 3) := by decide +kernel
theorem dX6_timeAll_43 : decode cX6_timeAll 43 = .ok (.iload_n 2, 1) := by decide +kernel
theorem dX6_timeAll_44 : decode cX6_timeAll 44 = .ok (.iaload, 1) := by decide +kernel
theorem dX6_timeAll_45 : decode cX6_timeAll 45 = .ok (.istore_n 3, 1) := by decide +kernel
theorem dX6_timeAll_46 : decode cX6_timeAll 46 = .ok (.iconst 0, 1) := by decide +kernel
theorem dX6_timeAll_47 : decode cX6_timeAll 47 = .ok (.istore 4, 2) := by decide +kernel
theorem dX6_timeAll_49 : decode cX6_timeAll 49 = .ok (.iconst 0, 1) := by decide +kernel
theorem dX6_timeAll_50 : decode cX6_timeAll 50 = .ok (.istore 5, 2) := by decide +kernel
theorem dX6_timeAll_52 : decode cX6_timeAll 52 = .ok (.iload 5, 2) := by decide +kernel
theorem dX6_timeAll_54 : decode cX6_timeAll 54 = .ok (.getstatic 67, 3) := by decide +kernel
theorem dX6_timeAll_57 : decode cX6_timeAll 57 = .ok (.aload_n 0, 1) := by decide +kernel
theorem dX6_timeAll_58 : decode cX6_timeAll 58 = .ok (.getfield 12, 3) := by decide +kernel
theorem dX6_timeAll_61 : decode cX6_timeAll 61 = .ok (.getfield 71, 3) := by decide +kernel
theorem dX6_timeAll_64 : decode cX6_timeAll 64 = .ok (.iload_n 3, 1) := by decide +kernel
theorem dX6_timeAll_65 : decode cX6_timeAll 65 = .ok (.iaload, 1) := by decide +kernel
theorem dX6_timeAll_66 : decode cX6_timeAll 66 = .ok (.baload, 1) := by decide +kernel
theorem dX6_timeAll_67 : decode cX6_timeAll 67 = .ok (.if_icmp .ge 35, 3) := by decide +kernel
theorem dX6_timeAll_70 : decode cX6_timeAll 70 = .ok (.iload 4, 2) := by decide +kernel
theorem dX6_timeAll_72 : decode cX6_timeAll 72 = .ok (.aload_n 0, 1) := by decide +kernel
theorem dX6_timeAll_73 : decode cX6_timeAll 73 = .ok (.getfield 29, 3) := by decide +kernel
theorem dX6_timeAll_76 : decode cX6_timeAll 76 = .ok (.aload_n 0, 1) := by decide +kernel
theorem dX6_timeAll_77 : decode cX6_timeAll 77 = .ok (.getfield 12, 3) := by decide +kernel
theorem dX6_timeAll_80 : decode cX6_timeAll 80 = .ok (.getfield 74, 3) := by decide +kernel
theorem dX6_timeAll_83 : decode cX6_timeAll 83 = .ok (.iconst 3, 1) := by decide +kernel
theorem dX6_timeAll_84 : decode cX6_timeAll 84 = .ok (.iload_n 3, 1) := by decide +kernel
theorem dX6_timeAll_85 : decode cX6_timeAll 85 = .ok (.imul, 1) := by decide +kernel
theorem dX6_timeAll_86 : decode cX6_timeAll 86 = .ok (.iload 5, 2) := by decide +kernel
theorem dX6_timeAll_88 : decode cX6_timeAll 88 = .ok (.iadd, 1) := by decide +kernel
theorem dX6_timeAll_89 : decode cX6_timeAll 89 = .ok (.iaload, 1) := by decide +kernel
theorem dX6_timeAll_90 : decode cX6_timeAll 90 = .ok (.iaload, 1) := by decide +kernel
theorem dX6_timeAll_91 : decode cX6_timeAll 91 = .ok (.invokestatic 94, 3) := by decide +kernel
theorem dX6_timeAll_94 : decode cX6_timeAll 94 = .ok (.istore 4, 2) := by decide +kernel
theorem dX6_timeAll_96 : decode cX6_timeAll 96 = .ok (.iinc 5 1, 3) := by decide +kernel
theorem dX6_timeAll_99 : decode cX6_timeAll 99 = .ok (.goto (-47), 3) := by decide +kernel
theorem dX6_timeAll_102 : decode cX6_timeAll 102 = .ok (.aload_n 0, 1) := by decide +kernel
theorem dX6_timeAll_103 : decode cX6_timeAll 103 = .ok (.getfield 29, 3) := by decide +kernel
theorem dX6_timeAll_106 : decode cX6_timeAll 106 = .ok (.iload_n 3, 1) := by decide +kernel
theorem dX6_timeAll_107 : decode cX6_timeAll 107 = .ok (.iload 4, 2) := by decide +kernel
theorem dX6_timeAll_109 : decode cX6_timeAll 109 = .ok (.aload_n 1, 1) := by decide +kernel
theorem dX6_timeAll_110 : decode cX6_timeAll 110 = .ok (.aload_n 0, 1) := by decide +kernel
theorem dX6_timeAll_111 : decode cX6_timeAll 111 = .ok (.getfield 12, 3) := by decide +kernel
theorem dX6_timeAll_114 : decode cX6_timeAll 114 = .ok (.getfield 71, 3) := by decide +kernel
theorem dX6_timeAll_117 : decode cX6_timeAll 117 = .ok (.iload_n 3, 1) := by decide +kernel
theorem dX6_timeAll_118 : decode cX6_timeAll 118 = .ok (.iaload, 1) := by decide +kernel
theorem dX6_timeAll_119 : decode cX6_timeAll 119 = .ok (.iaload, 1) := by decide +kernel
theorem dX6_timeAll_120 : decode cX6_timeAll 120 = .ok (.iadd, 1) := by decide +kernel
theorem dX6_timeAll_121 : decode cX6_timeAll 121 = .ok (.iastore, 1) := by decide +kernel
theorem dX6_timeAll_122 : decode cX6_timeAll 122 = .ok (.iinc 2 1, 3) := by decide +kernel
theorem dX6_timeAll_125 : decode cX6_timeAll 125 = .ok (.goto (-97), 3) := by decide +kernel
theorem dX6_timeAll_128 : decode cX6_timeAll 128 = .ok (.return_, 1) := by decide +kernel
def XX6_start (p : Nat) (x0 : Int) (x1 : Int) (x2 : Int) (h : Hp) : OR :=
  cal (XX8_start (p + 1) x0 x1 x2 h) (fun r1 h2 => zb 0 (hm (wr h2 p 6 0) (fun h3 => some (0, h3))))
theorem sX6_start {G : GG} {w : Wd} (hw : okX0 w) (p : Nat) (hp : isNt w p) (x0 : Int) (x1 : Int) (x2 : Int) (h : Hp) : SC G w yX6_start (Cond.code yX6_start cX6_start 4 (Option.none : Option Jvm.ClassFile.FieldType)) 3 3 [vP p, vI x0, vI x1, vI x2] (XX6_start p x0 x1 x2 h) h := by
  refine SC_of (own := "GatePatch$Net") plain_Net rfl (Nat.le_of_ble_eq_true rfl) (fun Γ hG g => ?_)
  subst hG
  show Sim Γ w 3 _ h 0 [(0, vP p), (1, vI x0), (2, vI x1), (3, vI x2)] []
  unfold XX6_start
  refine S_aload_n (kk := 0) g dX6_start_0 rfl rfl ?_
  refine S_getr g dX6_start_1 fl_Net_12 hp.1 rfl hp.2.1 ?_
  refine S_iload_n (kk := 1) g dX6_start_4 rfl rfl ?_
  refine S_iload_n (kk := 2) g dX6_start_5 rfl rfl ?_
  refine S_iload_n (kk := 3) g dX6_start_6 rfl rfl ?_
  refine S_callVv (As := [vI x0, vI x1, vI x2]) g dX6_start_7 (sX8_start hw (p + 1) hp.2.2.2.2.2.2.1 _ _ _ _) rfl hp.2.2.2.2.2.2.1.1 rfl im_X8_start se_X8_start cw_X8_start ml_Net_36 ini_Plan nd_X8_start ⟨by decide, by decide⟩ (Nat.le_of_ble_eq_true rfl) (fun r1 h2 => ?_)
  refine S_aload_n (kk := 0) g dX6_start_10 rfl rfl ?_
  refine S_iconst g dX6_start_11 ⟨by decide, by decide⟩ ?_
  refine S_putz g dX6_start_12 fp_Net_40 hp.1 rfl (fun h3 => ?_)
  exact S_return g dX6_start_15 rfl

def XX6_stale (p : Nat) (h : Hp) : OR :=
  zb 0 (hm (wr h p 6 0) (fun h1 => some (0, h1)))
theorem sX6_stale {G : GG} {w : Wd} (hw : okX w) (p : Nat) (hp : isNt w p) (h : Hp) : SC G w yX6_stale (Cond.code yX6_stale cX6_stale 1 (Option.none : Option Jvm.ClassFile.FieldType)) 1 3 [vP p] (XX6_stale p h) h := by
  refine SC_of (own := "GatePatch$Net") plain_Net rfl (Nat.le_of_ble_eq_true rfl) (fun Γ hG g => ?_)
  subst hG
  show Sim Γ w 3 _ h 0 [(0, vP p)] []
  unfold XX6_stale
  refine S_aload_n (kk := 0) g dX6_stale_0 rfl rfl ?_
  refine S_iconst g dX6_stale_1 ⟨by decide, by decide⟩ ?_
  refine S_putz g dX6_stale_2 fp_Net_40 hp.1 rfl (fun h1 => ?_)
  exact S_return g dX6_stale_5 rfl

def XX6_pinsReady_b3 (a0 : Nat)  (self3 : Int → Int → Int → Hp → OR) (l1 l2 l4 : Int) (h : Hp) : OR :=
  inb l1 48 (inb (h ((a0 + 1) + 1) l1.toNat) 9 (if (pinC (h ((a0 + 1) + 1) l1.toNat).toNat) ≤ l4 then zb 1 (some (1, h)) else chk (3 * l1) (chk ((3 * l1) + l4) (inb ((3 * l1) + l4) 144 (if (jcmp (jand (jshr l2 (h ((a0 + 1) + 2) ((3 * l1) + l4).toNat)) 1) 0) = 0 then zb 0 (some (0, h)) else chk (l4 + 1) (self3 l1 l2 (l4 + 1) h))))))
def XX6_pinsReady_L3 (a0 : Nat)  (l1 l2 l4 : Int) (h : Hp) : OR := lup3 (XX6_pinsReady_b3 a0) FU l1 l2 l4 h
def XX6_pinsReady (p : Nat) (x0 : Int) (x1 : Int) (h : Hp) : OR :=
  XX6_pinsReady_L3 p x0 x1 0 h
theorem sX6_pinsReady_L3 {Γ : Cx} {w : Wd} (hw : okX w) (g : Gd Γ cX6_pinsReady 5 "GatePatch$Net" (Option.some Jvm.ClassFile.FieldType.boolean) (rmd 1)) (a0 : Nat) (ha0 : isNt w a0)  : ∀ (l1 l2 l4 : Int) (h : Hp), Sim Γ w 0 (XX6_pinsReady_L3 a0 l1 l2 l4 h) h 3 [(0, vP a0), (1, vI l1), (2, vJ l2), (4, vI l4)] [] := by
  refine S_lup3 (fun l1 l2 l4 => [(0, vP a0), (1, vI l1), (2, vJ l2), (4, vI l4)]) (fun self3 hs3 l1 l2 l4 h => ?_) FU
  unfold XX6_pinsReady_b3
  refine S_iload (kk := 3) g dX6_pinsReady_3 rfl ?_
  refine S_gets1N g dX6_pinsReady_5 gs_Net_67 ?_
  refine S_aload_n (kk := 0) g dX6_pinsReady_8 rfl rfl ?_
  refine S_getr g dX6_pinsReady_9 fl_Net_12 ha0.1 rfl ha0.2.1 ?_
  refine S_getr g dX6_pinsReady_12 fl_Net_71 ha0.2.2.2.2.2.2.1.1 rfl ha0.2.2.2.2.2.2.1.2.1 ?_
  refine S_iload_n (kk := 1) g dX6_pinsReady_15 rfl rfl ?_
  refine S_iaload g dX6_pinsReady_16 ha0.2.2.2.2.2.2.1.2.2.2.2.2.1 ?_
  refine S_baloadS1 g dX6_pinsReady_17 ?_
  refine S_icmp_ge (tgt := 52) g dX6_pinsReady_18 (by decide) ?_ ?_
  · refine S_iconst g dX6_pinsReady_52 ⟨by decide, by decide⟩ ?_
    exact S_zreturn g dX6_pinsReady_53 rfl
  · refine S_lload_n (kk := 2) g dX6_pinsReady_21 rfl rfl ?_
    refine S_aload_n (kk := 0) g dX6_pinsReady_22 rfl rfl ?_
    refine S_getr g dX6_pinsReady_23 fl_Net_12 ha0.1 rfl ha0.2.1 ?_
    refine S_getr g dX6_pinsReady_26 fl_Net_74 ha0.2.2.2.2.2.2.1.1 rfl ha0.2.2.2.2.2.2.1.2.2.1 ?_
    refine S_iconst g dX6_pinsReady_29 ⟨by decide, by decide⟩ ?_
    refine S_iload_n (kk := 1) g dX6_pinsReady_30 rfl rfl ?_
    refine S_imul g dX6_pinsReady_31 ?_
    refine S_iload (kk := 3) g dX6_pinsReady_32 rfl ?_
    refine S_iadd g dX6_pinsReady_34 ?_
    refine S_iaload g dX6_pinsReady_35 ha0.2.2.2.2.2.2.1.2.2.2.2.2.2.1 ?_
    refine S_lshr g dX6_pinsReady_36 ?_
    refine S_lconst (x := 1) g dX6_pinsReady_37 ⟨by decide, by decide⟩ rfl ?_
    refine S_land g dX6_pinsReady_38 ?_
    refine S_lconst (x := 0) g dX6_pinsReady_39 ⟨by decide, by decide⟩ rfl ?_
    refine S_lcmp g dX6_pinsReady_40 ?_
    refine S_if_ne (tgt := 46) g dX6_pinsReady_41 (by decide) ?_ ?_
    · refine S_iinc (kk := 3) g dX6_pinsReady_46 rfl (by decide) rfl ?_
      refine S_goto (tgt := 3) g dX6_pinsReady_49 (by decide) ?_
      refine S_sub g [1, 2, 3, 0] rfl ?_
      exact hs3 _ _ _ _
    · refine S_iconst g dX6_pinsReady_44 ⟨by decide, by decide⟩ ?_
      exact S_zreturn g dX6_pinsReady_45 rfl

theorem sX6_pinsReady {G : GG} {w : Wd} (hw : okX w) (p : Nat) (hp : isNt w p) (x0 : Int) (x1 : Int) (h : Hp) : SC G w yX6_pinsReady (Cond.code yX6_pinsReady cX6_pinsReady 5 (Option.some Jvm.ClassFile.FieldType.boolean)) 1 0 [vP p, vI x0, vJ x1] (XX6_pinsReady p x0 x1 h) h := by
  refine SC_of (own := "GatePatch$Net") plain_Net rfl (Nat.le_of_ble_eq_true rfl) (fun Γ hG g => ?_)
  subst hG
  show Sim Γ w 0 _ h 0 [(0, vP p), (1, vI x0), (2, vJ x1)] []
  unfold XX6_pinsReady
  refine S_iconst g dX6_pinsReady_0 ⟨by decide, by decide⟩ ?_
  refine S_istore g dX6_pinsReady_1 (by decide) rfl ?_
  refine S_sub g [1, 2, 3, 0] rfl ?_
  exact sX6_pinsReady_L3 hw g p hp _ _ _ _

def XX6_sortGates_p100 (a0 : Nat) (self17 : Int → Int → Int → Hp → OR) (self49 : Int → Int → Int → Int → Hp → OR) (l1 l3 l4 l5 : Int) (h : Hp) : OR :=
  chk (l5 + 1) (self49 l1 l3 l4 (l5 + 1) h)
def XX6_sortGates_b49 (a0 : Nat) (self17 : Int → Int → Int → Hp → OR) (self49 : Int → Int → Int → Int → Hp → OR) (l1 l3 l4 l5 : Int) (h : Hp) : OR :=
  cal (XX8_wires (a0 + 1) h) (fun r6 h7 => if r6 ≤ l5 then chk (l4 + 1) (self17 l1 l3 (l4 + 1) h7) else if (jcmp (jand (jshr l1 l5) 1) 0) = 0 then cal (XX6_pinsReady a0 l5 l1 h7) (fun r8 h9 => if r8 = 0 then XX6_sortGates_p100 a0 self17 self49 l1 l3 l4 l5 h9 else nm (jor l1 (jshl 1 l5)) (fun v10 => inb l3 40 (hm (wr h9 (a0 + 6) l3.toNat l5) (fun h11 => chk (l3 + 1) (XX6_sortGates_p100 a0 self17 self49 v10 (l3 + 1) l4 l5 h11))))) else XX6_sortGates_p100 a0 self17 self49 l1 l3 l4 l5 h7)
def XX6_sortGates_L49 (a0 : Nat) (self17 : Int → Int → Int → Hp → OR) (l1 l3 l4 l5 : Int) (h : Hp) : OR := lup4 (XX6_sortGates_b49 a0 self17) FU l1 l3 l4 l5 h
def XX6_sortGates_b17 (a0 : Nat)  (self17 : Int → Int → Int → Hp → OR) (l1 l3 l4 : Int) (h : Hp) : OR :=
  if (h (a0 + 1) 3) ≤ l4 then some (0, h) else if (h (a0 + 1) 3) ≤ l3 then some (0, h) else cal (XX8_sources (a0 + 1) h) (fun r4 h5 => XX6_sortGates_L49 a0 self17 l1 l3 l4 r4 h5)
def XX6_sortGates_L17 (a0 : Nat)  (l1 l3 l4 : Int) (h : Hp) : OR := lup3 (XX6_sortGates_b17 a0) FU l1 l3 l4 h
def XX6_sortGates (p : Nat) (h : Hp) : OR :=
  cal (XX8_sources (p + 1) h) (fun r1 h2 => nm (jsub (jshl 1 r1) 1) (fun v3 => XX6_sortGates_L17 p v3 0 0 h2))
theorem sX6_sortGates_p100 {Γ : Cx} {w : Wd} (hw : okX w) (g : Gd Γ cX6_sortGates 6 "GatePatch$Net" (Option.none : Option Jvm.ClassFile.FieldType) (rmd 2)) (a0 : Nat) (ha0 : isNt w a0) (self17 : Int → Int → Int → Hp → OR) (hs17 : ∀ (x0 x1 x2 : Int) (h : Hp), Sim Γ w 3 (self17 x0 x1 x2 h) h 17 [(0, vP a0), (1, vJ x0), (3, vI x1), (4, vI x2)] []) (self49 : Int → Int → Int → Int → Hp → OR) (hs49 : ∀ (x0 x1 x2 x3 : Int) (h : Hp), Sim Γ w 3 (self49 x0 x1 x2 x3 h) h 49 [(0, vP a0), (1, vJ x0), (3, vI x1), (4, vI x2), (5, vI x3)] []) (l1 l3 l4 l5 : Int) (h : Hp) : Sim Γ w 3 (XX6_sortGates_p100 a0 self17 self49 l1 l3 l4 l5  h) h 100 [(0, vP a0), (1, vJ l1), (3, vI l3), (4, vI l4), (5, vI l5)] [] := by
  unfold XX6_sortGates_p100
  refine S_iinc (kk := 4) g dX6_sortGates_100 rfl (by decide) rfl ?_
  refine S_goto (tgt := 49) g dX6_sortGates_103 (by decide) ?_
  refine S_sub g [1, 2, 3, 4, 0] rfl ?_
  exact hs49 _ _ _ _ _

theorem sX6_sortGates_L49 {Γ : Cx} {w : Wd} (hw : okX w) (g : Gd Γ cX6_sortGates 6 "GatePatch$Net" (Option.none : Option Jvm.ClassFile.FieldType) (rmd 2)) (a0 : Nat) (ha0 : isNt w a0) (self17 : Int → Int → Int → Hp → OR) (hs17 : ∀ (x0 x1 x2 : Int) (h : Hp), Sim Γ w 3 (self17 x0 x1 x2 h) h 17 [(0, vP a0), (1, vJ x0), (3, vI x1), (4, vI x2)] []) : ∀ (l1 l3 l4 l5 : Int) (h : Hp), Sim Γ w 3 (XX6_sortGates_L49 a0 self17 l1 l3 l4 l5 h) h 49 [(0, vP a0), (1, vJ l1), (3, vI l3), (4, vI l4), (5, vI l5)] [] := by
  refine S_lup4 (fun l1 l3 l4 l5 => [(0, vP a0), (1, vJ l1), (3, vI l3), (4, vI l4), (5, vI l5)]) (fun self49 hs49 l1 l3 l4 l5 h => ?_) FU
  unfold XX6_sortGates_b49
  refine S_iload (kk := 4) g dX6_sortGates_49 rfl ?_
  refine S_aload_n (kk := 0) g dX6_sortGates_51 rfl rfl ?_
  refine S_getr g dX6_sortGates_52 fl_Net_12 ha0.1 rfl ha0.2.1 ?_
  refine S_callVi (As := []) g dX6_sortGates_55 (sX8_wires hw (a0 + 1) ha0.2.2.2.2.2.2.1 _) rfl ha0.2.2.2.2.2.2.1.1 rfl im_X8_wires se_X8_wires cw_X8_wires ml_Net_60 ini_Plan nd_X8_wires ⟨by decide, by decide⟩ (Nat.le_of_ble_eq_true rfl) (fun r6 h7 => ?_)
  refine S_icmp_ge (tgt := 106) g dX6_sortGates_58 (by decide) ?_ ?_
  · refine S_iinc (kk := 3) g dX6_sortGates_106 rfl (by decide) rfl ?_
    refine S_goto (tgt := 17) g dX6_sortGates_109 (by decide) ?_
    refine S_sub g [1, 2, 3, 0] rfl ?_
    exact hs17 _ _ _ _
  · refine S_lload_n (kk := 1) g dX6_sortGates_61 rfl rfl ?_
    refine S_iload (kk := 4) g dX6_sortGates_62 rfl ?_
    refine S_lshr g dX6_sortGates_64 ?_
    refine S_lconst (x := 1) g dX6_sortGates_65 ⟨by decide, by decide⟩ rfl ?_
    refine S_land g dX6_sortGates_66 ?_
    refine S_lconst (x := 0) g dX6_sortGates_67 ⟨by decide, by decide⟩ rfl ?_
    refine S_lcmp g dX6_sortGates_68 ?_
    refine S_if_ne (tgt := 100) g dX6_sortGates_69 (by decide) ?_ ?_
    · exact sX6_sortGates_p100 hw g a0 ha0 self17 hs17 self49 hs49 _ _ _ _ _
    · refine S_aload_n (kk := 0) g dX6_sortGates_72 rfl rfl ?_
      refine S_iload (kk := 4) g dX6_sortGates_73 rfl ?_
      refine S_lload_n (kk := 1) g dX6_sortGates_75 rfl rfl ?_
      refine S_callVi (As := [vI l5, vJ l1]) g dX6_sortGates_76 (sX6_pinsReady hw a0 ha0 _ _ _) rfl ha0.1 rfl im_X6_pinsReady se_X6_pinsReady cw_X6_pinsReady ml_Net_63 ini_Net nd_X6_pinsReady ⟨by decide, by decide⟩ (Nat.le_of_ble_eq_true rfl) (fun r8 h9 => ?_)
      refine S_if_eq (tgt := 100) g dX6_sortGates_79 (by decide) ?_ ?_
      · exact sX6_sortGates_p100 hw g a0 ha0 self17 hs17 self49 hs49 _ _ _ _ _
      · refine S_lload_n (kk := 1) g dX6_sortGates_82 rfl rfl ?_
        refine S_lconst (x := 1) g dX6_sortGates_83 ⟨by decide, by decide⟩ rfl ?_
        refine S_iload (kk := 4) g dX6_sortGates_84 rfl ?_
        refine S_lshl g dX6_sortGates_86 ?_
        refine S_lor g dX6_sortGates_87 ?_
        refine S_nmJ (fun v10 => ?_)
        refine S_lstore_n g dX6_sortGates_88 rfl (by decide) rfl ?_
        refine S_aload_n (kk := 1) g dX6_sortGates_89 rfl rfl ?_
        refine S_getr g dX6_sortGates_90 fl_Net_18 ha0.1 rfl ha0.2.2.1 ?_
        refine S_iload_n (kk := 2) g dX6_sortGates_93 rfl rfl ?_
        refine S_iload (kk := 4) g dX6_sortGates_94 rfl ?_
        refine S_iastore g dX6_sortGates_96 ha0.2.2.2.2.2.2.2.1 (fun h11 => ?_)
        refine S_iinc (kk := 2) g dX6_sortGates_97 rfl (by decide) rfl ?_
        refine S_sub g [2, 1, 0, 3, 4] rfl ?_
        exact sX6_sortGates_p100 hw g a0 ha0 self17 hs17 self49 hs49 _ _ _ _ _

theorem sX6_sortGates_L17 {Γ : Cx} {w : Wd} (hw : okX w) (g : Gd Γ cX6_sortGates 6 "GatePatch$Net" (Option.none : Option Jvm.ClassFile.FieldType) (rmd 2)) (a0 : Nat) (ha0 : isNt w a0)  : ∀ (l1 l3 l4 : Int) (h : Hp), Sim Γ w 3 (XX6_sortGates_L17 a0 l1 l3 l4 h) h 17 [(0, vP a0), (1, vJ l1), (3, vI l3), (4, vI l4)] [] := by
  refine S_lup3 (fun l1 l3 l4 => [(0, vP a0), (1, vJ l1), (3, vI l3), (4, vI l4)]) (fun self17 hs17 l1 l3 l4 h => ?_) FU
  unfold XX6_sortGates_b17
  refine S_iload (kk := 3) g dX6_sortGates_17 rfl ?_
  refine S_aload_n (kk := 0) g dX6_sortGates_19 rfl rfl ?_
  refine S_getr g dX6_sortGates_20 fl_Net_12 ha0.1 rfl ha0.2.1 ?_
  refine S_geti g dX6_sortGates_23 fl_Net_57 ha0.2.2.2.2.2.2.1.1 (Or.inl rfl) ?_
  refine S_icmp_ge (tgt := 112) g dX6_sortGates_26 (by decide) ?_ ?_
  · exact S_return g dX6_sortGates_112 rfl
  · refine S_iload_n (kk := 2) g dX6_sortGates_29 rfl rfl ?_
    refine S_aload_n (kk := 0) g dX6_sortGates_30 rfl rfl ?_
    refine S_getr g dX6_sortGates_31 fl_Net_12 ha0.1 rfl ha0.2.1 ?_
    refine S_geti g dX6_sortGates_34 fl_Net_57 ha0.2.2.2.2.2.2.1.1 (Or.inl rfl) ?_
    refine S_icmp_ge (tgt := 112) g dX6_sortGates_37 (by decide) ?_ ?_
    · exact S_return g dX6_sortGates_112 rfl
    · refine S_aload_n (kk := 0) g dX6_sortGates_40 rfl rfl ?_
      refine S_getr g dX6_sortGates_41 fl_Net_12 ha0.1 rfl ha0.2.1 ?_
      refine S_callVi (As := []) g dX6_sortGates_44 (sX8_sources hw (a0 + 1) ha0.2.2.2.2.2.2.1 _) rfl ha0.2.2.2.2.2.2.1.1 rfl im_X8_sources se_X8_sources cw_X8_sources ml_Net_53 ini_Plan nd_X8_sources ⟨by decide, by decide⟩ (Nat.le_of_ble_eq_true rfl) (fun r4 h5 => ?_)
      refine S_istore g dX6_sortGates_47 (by decide) rfl ?_
      refine S_sub g [1, 2, 3, 4, 0] rfl ?_
      exact sX6_sortGates_L49 hw g a0 ha0 self17 hs17 _ _ _ _ _

theorem sX6_sortGates {G : GG} {w : Wd} (hw : okX w) (p : Nat) (hp : isNt w p) (h : Hp) : SC G w yX6_sortGates (Cond.code yX6_sortGates cX6_sortGates 6 (Option.none : Option Jvm.ClassFile.FieldType)) 2 3 [vP p] (XX6_sortGates p h) h := by
  refine SC_of (own := "GatePatch$Net") plain_Net rfl (Nat.le_of_ble_eq_true rfl) (fun Γ hG g => ?_)
  subst hG
  show Sim Γ w 3 _ h 0 [(0, vP p)] []
  unfold XX6_sortGates
  refine S_lconst (x := 1) g dX6_sortGates_0 ⟨by decide, by decide⟩ rfl ?_
  refine S_aload_n (kk := 0) g dX6_sortGates_1 rfl rfl ?_
  refine S_getr g dX6_sortGates_2 fl_Net_12 hp.1 rfl hp.2.1 ?_
  refine S_callVi (As := []) g dX6_sortGates_5 (sX8_sources hw (p + 1) hp.2.2.2.2.2.2.1 _) rfl hp.2.2.2.2.2.2.1.1 rfl im_X8_sources se_X8_sources cw_X8_sources ml_Net_53 ini_Plan nd_X8_sources ⟨by decide, by decide⟩ (Nat.le_of_ble_eq_true rfl) (fun r1 h2 => ?_)
  refine S_lshl g dX6_sortGates_8 ?_
  refine S_lconst (x := 1) g dX6_sortGates_9 ⟨by decide, by decide⟩ rfl ?_
  refine S_lsub g dX6_sortGates_10 ?_
  refine S_nmJ (fun v3 => ?_)
  refine S_lstore_n g dX6_sortGates_11 rfl (by decide) rfl ?_
  refine S_iconst g dX6_sortGates_12 ⟨by decide, by decide⟩ ?_
  refine S_istore_n g dX6_sortGates_13 rfl (by decide) rfl ?_
  refine S_iconst g dX6_sortGates_14 ⟨by decide, by decide⟩ ?_
  refine S_istore g dX6_sortGates_15 (by decide) rfl ?_
  refine S_sub g [3, 2, 1, 0] rfl ?_
  exact sX6_sortGates_L17 hw g p hp _ _ _ _

def XX6_findBelow_b55 (a0 : Nat) (self30 : Int → Hp → OR) (self55 : Int → Int → Int → Int → Hp → OR) (l1 l2 l3 l5 : Int) (h : Hp) : OR :=
  inb l2 48 (inb (h ((a0 + 1) + 1) l2.toNat) 9 (if (pinC (h ((a0 + 1) + 1) l2.toNat).toNat) ≤ l5 then inb l2 48 (hm (wr h (a0 + 7) l2.toNat l3) (fun h5 => chk (l1 + 1) (self30 (l1 + 1) h5))) else chk (3 * l2) (chk ((3 * l2) + l5) (inb ((3 * l2) + l5) 144 (inb (h ((a0 + 1) + 2) ((3 * l2) + l5).toNat) 48 (nm (jor l3 (h (a0 + 7) (h ((a0 + 1) + 2) ((3 * l2) + l5).toNat).toNat)) (fun v6 => chk (l5 + 1) (self55 l1 l2 v6 (l5 + 1) h))))))))
def XX6_findBelow_L55 (a0 : Nat) (self30 : Int → Hp → OR) (l1 l2 l3 l5 : Int) (h : Hp) : OR := lup4 (XX6_findBelow_b55 a0 self30) FU l1 l2 l3 l5 h
def XX6_findBelow_b30 (a0 : Nat)  (self30 : Int → Hp → OR) (l1 : Int) (h : Hp) : OR :=
  if (h (a0 + 1) 3) ≤ l1 then some (0, h) else inb l1 40 (nm (h (a0 + 6) l1.toNat) (fun v3 => nm (jshl 1 v3) (fun v4 => XX6_findBelow_L55 a0 self30 l1 v3 v4 0 h)))
def XX6_findBelow_L30 (a0 : Nat)  (l1 : Int) (h : Hp) : OR := lup1 (XX6_findBelow_b30 a0) FU l1 h
def XX6_findBelow_b2 (a0 : Nat)  (self2 : Int → Hp → OR) (l1 : Int) (h : Hp) : OR :=
  cal (XX8_sources (a0 + 1) h) (fun r1 h2 => if r1 ≤ l1 then XX6_findBelow_L30 a0 0 h2 else inb l1 48 (hm (wr h2 (a0 + 7) l1.toNat (jshl 1 l1)) (fun h7 => chk (l1 + 1) (self2 (l1 + 1) h7))))
def XX6_findBelow_L2 (a0 : Nat)  (l1 : Int) (h : Hp) : OR := lup1 (XX6_findBelow_b2 a0) FU l1 h
def XX6_findBelow (p : Nat) (h : Hp) : OR :=
  XX6_findBelow_L2 p 0 h
theorem sX6_findBelow_L55 {Γ : Cx} {w : Wd} (hw : okX w) (g : Gd Γ cX6_findBelow 6 "GatePatch$Net" (Option.none : Option Jvm.ClassFile.FieldType) (rmd 2)) (a0 : Nat) (ha0 : isNt w a0) (self30 : Int → Hp → OR) (hs30 : ∀ (x0 : Int) (h : Hp), Sim Γ w 3 (self30 x0 h) h 30 [(0, vP a0), (1, vI x0)] []) : ∀ (l1 l2 l3 l5 : Int) (h : Hp), Sim Γ w 3 (XX6_findBelow_L55 a0 self30 l1 l2 l3 l5 h) h 55 [(0, vP a0), (1, vI l1), (2, vI l2), (3, vJ l3), (5, vI l5)] [] := by
  refine S_lup4 (fun l1 l2 l3 l5 => [(0, vP a0), (1, vI l1), (2, vI l2), (3, vJ l3), (5, vI l5)]) (fun self55 hs55 l1 l2 l3 l5 h => ?_) FU
  unfold XX6_findBelow_b55
  refine S_iload (kk := 4) g dX6_findBelow_55 rfl ?_
  refine S_gets1N g dX6_findBelow_57 gs_Net_67 ?_
  refine S_aload_n (kk := 0) g dX6_findBelow_60 rfl rfl ?_
  refine S_getr g dX6_findBelow_61 fl_Net_12 ha0.1 rfl ha0.2.1 ?_
  refine S_getr g dX6_findBelow_64 fl_Net_71 ha0.2.2.2.2.2.2.1.1 rfl ha0.2.2.2.2.2.2.1.2.1 ?_
  refine S_iload_n (kk := 2) g dX6_findBelow_67 rfl rfl ?_
  refine S_iaload g dX6_findBelow_68 ha0.2.2.2.2.2.2.1.2.2.2.2.2.1 ?_
  refine S_baloadS1 g dX6_findBelow_69 ?_
  refine S_icmp_ge (tgt := 101) g dX6_findBelow_70 (by decide) ?_ ?_
  · refine S_aload_n (kk := 0) g dX6_findBelow_101 rfl rfl ?_
    refine S_getr g dX6_findBelow_102 fl_Net_22 ha0.1 rfl ha0.2.2.2.1 ?_
    refine S_iload_n (kk := 2) g dX6_findBelow_105 rfl rfl ?_
    refine S_lload_n (kk := 3) g dX6_findBelow_106 rfl rfl ?_
    refine S_lastore g dX6_findBelow_107 ha0.2.2.2.2.2.2.2.2.1 (fun h5 => ?_)
    refine S_iinc (kk := 1) g dX6_findBelow_108 rfl (by decide) rfl ?_
    refine S_goto (tgt := 30) g dX6_findBelow_111 (by decide) ?_
    refine S_sub g [1, 0] rfl ?_
    exact hs30 _ _
  · refine S_lload_n (kk := 3) g dX6_findBelow_73 rfl rfl ?_
    refine S_aload_n (kk := 0) g dX6_findBelow_74 rfl rfl ?_
    refine S_getr g dX6_findBelow_75 fl_Net_22 ha0.1 rfl ha0.2.2.2.1 ?_
    refine S_aload_n (kk := 0) g dX6_findBelow_78 rfl rfl ?_
    refine S_getr g dX6_findBelow_79 fl_Net_12 ha0.1 rfl ha0.2.1 ?_
    refine S_getr g dX6_findBelow_82 fl_Net_74 ha0.2.2.2.2.2.2.1.1 rfl ha0.2.2.2.2.2.2.1.2.2.1 ?_
    refine S_iconst g dX6_findBelow_85 ⟨by decide, by decide⟩ ?_
    refine S_iload_n (kk := 2) g dX6_findBelow_86 rfl rfl ?_
    refine S_imul g dX6_findBelow_87 ?_
    refine S_iload (kk := 4) g dX6_findBelow_88 rfl ?_
    refine S_iadd g dX6_findBelow_90 ?_
    refine S_iaload g dX6_findBelow_91 ha0.2.2.2.2.2.2.1.2.2.2.2.2.2.1 ?_
    refine S_laload g dX6_findBelow_92 ha0.2.2.2.2.2.2.2.2.1 ?_
    refine S_lor g dX6_findBelow_93 ?_
    refine S_nmJ (fun v6 => ?_)
    refine S_lstore_n g dX6_findBelow_94 rfl (by decide) rfl ?_
    refine S_iinc (kk := 4) g dX6_findBelow_95 rfl (by decide) rfl ?_
    refine S_goto (tgt := 55) g dX6_findBelow_98 (by decide) ?_
    refine S_sub g [2, 3, 4, 1, 0] rfl ?_
    exact hs55 _ _ _ _ _

theorem sX6_findBelow_L30 {Γ : Cx} {w : Wd} (hw : okX w) (g : Gd Γ cX6_findBelow 6 "GatePatch$Net" (Option.none : Option Jvm.ClassFile.FieldType) (rmd 2)) (a0 : Nat) (ha0 : isNt w a0)  : ∀ (l1 : Int) (h : Hp), Sim Γ w 3 (XX6_findBelow_L30 a0 l1 h) h 30 [(0, vP a0), (1, vI l1)] [] := by
  refine S_lup1 (fun l1 => [(0, vP a0), (1, vI l1)]) (fun self30 hs30 l1 h => ?_) FU
  unfold XX6_findBelow_b30
  refine S_iload_n (kk := 1) g dX6_findBelow_30 rfl rfl ?_
  refine S_aload_n (kk := 0) g dX6_findBelow_31 rfl rfl ?_
  refine S_getr g dX6_findBelow_32 fl_Net_12 ha0.1 rfl ha0.2.1 ?_
  refine S_geti g dX6_findBelow_35 fl_Net_57 ha0.2.2.2.2.2.2.1.1 (Or.inl rfl) ?_
  refine S_icmp_ge (tgt := 114) g dX6_findBelow_38 (by decide) ?_ ?_
  · exact S_return g dX6_findBelow_114 rfl
  · refine S_aload_n (kk := 0) g dX6_findBelow_41 rfl rfl ?_
    refine S_getr g dX6_findBelow_42 fl_Net_18 ha0.1 rfl ha0.2.2.1 ?_
    refine S_iload_n (kk := 1) g dX6_findBelow_45 rfl rfl ?_
    refine S_iaload g dX6_findBelow_46 ha0.2.2.2.2.2.2.2.1 ?_
    refine S_nmI (fun v3 => ?_)
    refine S_istore_n g dX6_findBelow_47 rfl (by decide) rfl ?_
    refine S_lconst (x := 1) g dX6_findBelow_48 ⟨by decide, by decide⟩ rfl ?_
    refine S_iload_n (kk := 0) g dX6_findBelow_49 rfl rfl ?_
    refine S_lshl g dX6_findBelow_50 ?_
    refine S_nmJ (fun v4 => ?_)
    refine S_lstore_n g dX6_findBelow_51 rfl (by decide) rfl ?_
    refine S_iconst g dX6_findBelow_52 ⟨by decide, by decide⟩ ?_
    refine S_istore g dX6_findBelow_53 (by decide) rfl ?_
    refine S_sub g [3, 4, 2, 1, 0] rfl ?_
    exact sX6_findBelow_L55 hw g a0 ha0 self30 hs30 _ _ _ _ _

theorem sX6_findBelow_L2 {Γ : Cx} {w : Wd} (hw : okX w) (g : Gd Γ cX6_findBelow 6 "GatePatch$Net" (Option.none : Option Jvm.ClassFile.FieldType) (rmd 2)) (a0 : Nat) (ha0 : isNt w a0)  : ∀ (l1 : Int) (h : Hp), Sim Γ w 3 (XX6_findBelow_L2 a0 l1 h) h 2 [(0, vP a0), (1, vI l1)] [] := by
  refine S_lup1 (fun l1 => [(0, vP a0), (1, vI l1)]) (fun self2 hs2 l1 h => ?_) FU
  unfold XX6_findBelow_b2
  refine S_iload_n (kk := 1) g dX6_findBelow_2 rfl rfl ?_
  refine S_aload_n (kk := 0) g dX6_findBelow_3 rfl rfl ?_
  refine S_getr g dX6_findBelow_4 fl_Net_12 ha0.1 rfl ha0.2.1 ?_
  refine S_callVi (As := []) g dX6_findBelow_7 (sX8_sources hw (a0 + 1) ha0.2.2.2.2.2.2.1 _) rfl ha0.2.2.2.2.2.2.1.1 rfl im_X8_sources se_X8_sources cw_X8_sources ml_Net_53 ini_Plan nd_X8_sources ⟨by decide, by decide⟩ (Nat.le_of_ble_eq_true rfl) (fun r1 h2 => ?_)
  refine S_icmp_ge (tgt := 28) g dX6_findBelow_10 (by decide) ?_ ?_
  · refine S_iconst g dX6_findBelow_28 ⟨by decide, by decide⟩ ?_
    refine S_istore_n g dX6_findBelow_29 rfl (by decide) rfl ?_
    refine S_sub g [1, 0] rfl ?_
    exact sX6_findBelow_L30 hw g a0 ha0 _ _
  · refine S_aload_n (kk := 0) g dX6_findBelow_13 rfl rfl ?_
    refine S_getr g dX6_findBelow_14 fl_Net_22 ha0.1 rfl ha0.2.2.2.1 ?_
    refine S_iload_n (kk := 1) g dX6_findBelow_17 rfl rfl ?_
    refine S_lconst (x := 1) g dX6_findBelow_18 ⟨by decide, by decide⟩ rfl ?_
    refine S_iload_n (kk := 1) g dX6_findBelow_19 rfl rfl ?_
    refine S_lshl g dX6_findBelow_20 ?_
    refine S_lastore g dX6_findBelow_21 ha0.2.2.2.2.2.2.2.2.1 (fun h7 => ?_)
    refine S_iinc (kk := 1) g dX6_findBelow_22 rfl (by decide) rfl ?_
    refine S_goto (tgt := 2) g dX6_findBelow_25 (by decide) ?_
    refine S_sub g [1, 0] rfl ?_
    exact hs2 _ _

theorem sX6_findBelow {G : GG} {w : Wd} (hw : okX w) (p : Nat) (hp : isNt w p) (h : Hp) : SC G w yX6_findBelow (Cond.code yX6_findBelow cX6_findBelow 6 (Option.none : Option Jvm.ClassFile.FieldType)) 2 3 [vP p] (XX6_findBelow p h) h := by
  refine SC_of (own := "GatePatch$Net") plain_Net rfl (Nat.le_of_ble_eq_true rfl) (fun Γ hG g => ?_)
  subst hG
  show Sim Γ w 3 _ h 0 [(0, vP p)] []
  unfold XX6_findBelow
  refine S_iconst g dX6_findBelow_0 ⟨by decide, by decide⟩ ?_
  refine S_istore_n g dX6_findBelow_1 rfl (by decide) rfl ?_
  refine S_sub g [1, 0] rfl ?_
  exact sX6_findBelow_L2 hw g p hp _ _

def XX6_sourceWord (x0 : Int) (x1 : Int) (h : Hp) : OR :=
  if 6 ≤ x0 then chk (x0 - 6) (if (aand (ashr x1 (x0 - 6)) 1) = 1 then some ((-1), h) else some (0, h)) else inb x0 6 (some ((cntC x0.toNat), h))
theorem sX6_sourceWord {G : GG} {w : Wd} (hw : okX w) (x0 : Int) (x1 : Int) (h : Hp) : SC G w yX6_sourceWord (Cond.code yX6_sourceWord cX6_sourceWord 2 (Option.some Jvm.ClassFile.FieldType.long)) 1 1 [vI x0, vI x1] (XX6_sourceWord x0 x1 h) h := by
  refine SC_of (own := "GatePatch$Net") plain_Net rfl (Nat.le_of_ble_eq_true rfl) (fun Γ hG g => ?_)
  subst hG
  show Sim Γ w 1 _ h 0 [(0, vI x0), (1, vI x1)] []
  unfold XX6_sourceWord
  refine S_iload_n (kk := 0) g dX6_sourceWord_0 rfl rfl ?_
  refine S_gets2N g dX6_sourceWord_1 gs_Net_89 ?_
  refine S_alenS2 g dX6_sourceWord_4 ?_
  refine S_icmp_ge (tgt := 14) g dX6_sourceWord_5 (by decide) ?_ ?_
  · refine S_iload_n (kk := 1) g dX6_sourceWord_14 rfl rfl ?_
    refine S_iload_n (kk := 0) g dX6_sourceWord_15 rfl rfl ?_
    refine S_gets2N g dX6_sourceWord_16 gs_Net_89 ?_
    refine S_alenS2 g dX6_sourceWord_19 ?_
    refine S_isub g dX6_sourceWord_20 ?_
    refine S_ishr g dX6_sourceWord_21 ?_
    refine S_iconst g dX6_sourceWord_22 ⟨by decide, by decide⟩ ?_
    refine S_iand g dX6_sourceWord_23 ?_
    refine S_iconst g dX6_sourceWord_24 ⟨by decide, by decide⟩ ?_
    refine S_icmp_ne (tgt := 34) g dX6_sourceWord_25 (by decide) ?_ ?_
    · refine S_lconst (x := 0) g dX6_sourceWord_34 ⟨by decide, by decide⟩ rfl ?_
      exact S_lreturn g dX6_sourceWord_35 rfl
    · refine S_ldc2 g dX6_sourceWord_28 ⟨by decide, by decide⟩ k_Net_92 ?_
      refine S_goto (tgt := 35) g dX6_sourceWord_31 (by decide) ?_
      exact S_lreturn g dX6_sourceWord_35 rfl
  · refine S_gets2N g dX6_sourceWord_8 gs_Net_89 ?_
    refine S_iload_n (kk := 0) g dX6_sourceWord_11 rfl rfl ?_
    refine S_laloadS2 g dX6_sourceWord_12 ?_
    exact S_lreturn g dX6_sourceWord_13 rfl

def XX6_pinWord (p : Nat) (x0 : Int) (x1 : Int) (x2 : Int) (h : Hp) : OR :=
  chk (3 * x0) (chk ((3 * x0) + x1) (inb ((3 * x0) + x1) 144 (nm (h ((p + 1) + 2) ((3 * x0) + x1).toNat) (fun v1 => if 0 ≤ v1 then chk (4 * v1) (chk ((4 * v1) + x2) (inb ((4 * v1) + x2) 192 (some ((h (p + 8) ((4 * v1) + x2).toNat), h)))) else some (0, h)))))
theorem sX6_pinWord {G : GG} {w : Wd} (hw : okX w) (p : Nat) (hp : isNt w p) (x0 : Int) (x1 : Int) (x2 : Int) (h : Hp) : SC G w yX6_pinWord (Cond.code yX6_pinWord cX6_pinWord 5 (Option.some Jvm.ClassFile.FieldType.long)) 1 1 [vP p, vI x0, vI x1, vI x2] (XX6_pinWord p x0 x1 x2 h) h := by
  refine SC_of (own := "GatePatch$Net") plain_Net rfl (Nat.le_of_ble_eq_true rfl) (fun Γ hG g => ?_)
  subst hG
  show Sim Γ w 1 _ h 0 [(0, vP p), (1, vI x0), (2, vI x1), (3, vI x2)] []
  unfold XX6_pinWord
  refine S_aload_n (kk := 0) g dX6_pinWord_0 rfl rfl ?_
  refine S_getr g dX6_pinWord_1 fl_Net_12 hp.1 rfl hp.2.1 ?_
  refine S_getr g dX6_pinWord_4 fl_Net_74 hp.2.2.2.2.2.2.1.1 rfl hp.2.2.2.2.2.2.1.2.2.1 ?_
  refine S_iconst g dX6_pinWord_7 ⟨by decide, by decide⟩ ?_
  refine S_iload_n (kk := 1) g dX6_pinWord_8 rfl rfl ?_
  refine S_imul g dX6_pinWord_9 ?_
  refine S_iload_n (kk := 2) g dX6_pinWord_10 rfl rfl ?_
  refine S_iadd g dX6_pinWord_11 ?_
  refine S_iaload g dX6_pinWord_12 hp.2.2.2.2.2.2.1.2.2.2.2.2.2.1 ?_
  refine S_nmI (fun v1 => ?_)
  refine S_istore g dX6_pinWord_13 (by decide) rfl ?_
  refine S_iload (kk := 0) g dX6_pinWord_15 rfl ?_
  refine S_if_ge (tgt := 24) g dX6_pinWord_17 (by decide) ?_ ?_
  · refine S_aload_n (kk := 1) g dX6_pinWord_24 rfl rfl ?_
    refine S_getr g dX6_pinWord_25 fl_Net_26 hp.1 rfl hp.2.2.2.2.1 ?_
    refine S_iconst g dX6_pinWord_28 ⟨by decide, by decide⟩ ?_
    refine S_iload (kk := 0) g dX6_pinWord_29 rfl ?_
    refine S_imul g dX6_pinWord_31 ?_
    refine S_iload_n (kk := 4) g dX6_pinWord_32 rfl rfl ?_
    refine S_iadd g dX6_pinWord_33 ?_
    refine S_laload g dX6_pinWord_34 hp.2.2.2.2.2.2.2.2.2.1 ?_
    exact S_lreturn g dX6_pinWord_35 rfl
  · refine S_lconst (x := 0) g dX6_pinWord_20 ⟨by decide, by decide⟩ rfl ?_
    refine S_goto (tgt := 35) g dX6_pinWord_21 (by decide) ?_
    exact S_lreturn g dX6_pinWord_35 rfl

def XX6_fillWords_b43 (a0 : Nat) (self2 : Int → Hp → OR) (self43 : Int → Int → Hp → OR) (l1 l2 : Int) (h : Hp) : OR :=
  if (h (a0 + 1) 3) ≤ l2 then chk (l1 + 1) (self2 (l1 + 1) h) else inb l2 40 (nm (h (a0 + 6) l2.toNat) (fun v3 => chk (4 * v3) (chk ((4 * v3) + l1) (inb v3 48 (cal (XX6_pinWord a0 v3 0 l1 h) (fun r4 h5 => cal (XX6_pinWord a0 v3 1 l1 h5) (fun r6 h7 => cal (XX6_pinWord a0 v3 2 l1 h7) (fun r8 h9 => cal (XX6_made (h ((a0 + 1) + 1) v3.toNat) r4 r6 r8 h9) (fun r10 h11 => inb ((4 * v3) + l1) 192 (hm (wr h11 (a0 + 8) ((4 * v3) + l1).toNat r10) (fun h12 => chk (l2 + 1) (self43 l1 (l2 + 1) h12))))))))))))
def XX6_fillWords_L43 (a0 : Nat) (self2 : Int → Hp → OR) (l1 l2 : Int) (h : Hp) : OR := lup2 (XX6_fillWords_b43 a0 self2) FU l1 l2 h
def XX6_fillWords_b9 (a0 : Nat) (self2 : Int → Hp → OR) (self9 : Int → Int → Hp → OR) (l1 l2 : Int) (h : Hp) : OR :=
  cal (XX8_sources (a0 + 1) h) (fun r1 h2 => if r1 ≤ l2 then XX6_fillWords_L43 a0 self2 l1 0 h2 else chk (4 * l2) (chk ((4 * l2) + l1) (cal (XX6_sourceWord l2 l1 h2) (fun r13 h14 => inb ((4 * l2) + l1) 192 (hm (wr h14 (a0 + 8) ((4 * l2) + l1).toNat r13) (fun h15 => chk (l2 + 1) (self9 l1 (l2 + 1) h15)))))))
def XX6_fillWords_L9 (a0 : Nat) (self2 : Int → Hp → OR) (l1 l2 : Int) (h : Hp) : OR := lup2 (XX6_fillWords_b9 a0 self2) FU l1 l2 h
def XX6_fillWords_b2 (a0 : Nat)  (self2 : Int → Hp → OR) (l1 : Int) (h : Hp) : OR :=
  if 4 ≤ l1 then some (0, h) else XX6_fillWords_L9 a0 self2 l1 0 h
def XX6_fillWords_L2 (a0 : Nat)  (l1 : Int) (h : Hp) : OR := lup1 (XX6_fillWords_b2 a0) FU l1 h
def XX6_fillWords (p : Nat) (h : Hp) : OR :=
  XX6_fillWords_L2 p 0 h
theorem sX6_fillWords_L43 {Γ : Cx} {w : Wd} (hw : okX w) (g : Gd Γ cX6_fillWords 4 "GatePatch$Net" (Option.none : Option Jvm.ClassFile.FieldType) (rmd 2)) (a0 : Nat) (ha0 : isNt w a0) (self2 : Int → Hp → OR) (hs2 : ∀ (x0 : Int) (h : Hp), Sim Γ w 3 (self2 x0 h) h 2 [(0, vP a0), (1, vI x0)] []) : ∀ (l1 l2 : Int) (h : Hp), Sim Γ w 3 (XX6_fillWords_L43 a0 self2 l1 l2 h) h 43 [(0, vP a0), (1, vI l1), (2, vI l2)] [] := by
  refine S_lup2 (fun l1 l2 => [(0, vP a0), (1, vI l1), (2, vI l2)]) (fun self43 hs43 l1 l2 h => ?_) FU
  unfold XX6_fillWords_b43
  refine S_iload_n (kk := 2) g dX6_fillWords_43 rfl rfl ?_
  refine S_aload_n (kk := 0) g dX6_fillWords_44 rfl rfl ?_
  refine S_getr g dX6_fillWords_45 fl_Net_12 ha0.1 rfl ha0.2.1 ?_
  refine S_geti g dX6_fillWords_48 fl_Net_57 ha0.2.2.2.2.2.2.1.1 (Or.inl rfl) ?_
  refine S_icmp_ge (tgt := 110) g dX6_fillWords_51 (by decide) ?_ ?_
  · refine S_iinc (kk := 1) g dX6_fillWords_110 rfl (by decide) rfl ?_
    refine S_goto (tgt := 2) g dX6_fillWords_113 (by decide) ?_
    refine S_sub g [1, 0] rfl ?_
    exact hs2 _ _
  · refine S_aload_n (kk := 0) g dX6_fillWords_54 rfl rfl ?_
    refine S_getr g dX6_fillWords_55 fl_Net_18 ha0.1 rfl ha0.2.2.1 ?_
    refine S_iload_n (kk := 2) g dX6_fillWords_58 rfl rfl ?_
    refine S_iaload g dX6_fillWords_59 ha0.2.2.2.2.2.2.2.1 ?_
    refine S_nmI (fun v3 => ?_)
    refine S_istore_n g dX6_fillWords_60 rfl (by decide) rfl ?_
    refine S_aload_n (kk := 1) g dX6_fillWords_61 rfl rfl ?_
    refine S_getr g dX6_fillWords_62 fl_Net_26 ha0.1 rfl ha0.2.2.2.2.1 ?_
    refine S_iconst g dX6_fillWords_65 ⟨by decide, by decide⟩ ?_
    refine S_iload_n (kk := 0) g dX6_fillWords_66 rfl rfl ?_
    refine S_imul g dX6_fillWords_67 ?_
    refine S_iload_n (kk := 2) g dX6_fillWords_68 rfl rfl ?_
    refine S_iadd g dX6_fillWords_69 ?_
    refine S_aload_n (kk := 1) g dX6_fillWords_70 rfl rfl ?_
    refine S_getr g dX6_fillWords_71 fl_Net_12 ha0.1 rfl ha0.2.1 ?_
    refine S_getr g dX6_fillWords_74 fl_Net_71 ha0.2.2.2.2.2.2.1.1 rfl ha0.2.2.2.2.2.2.1.2.1 ?_
    refine S_iload_n (kk := 0) g dX6_fillWords_77 rfl rfl ?_
    refine S_iaload g dX6_fillWords_78 ha0.2.2.2.2.2.2.1.2.2.2.2.2.1 ?_
    refine S_aload_n (kk := 1) g dX6_fillWords_79 rfl rfl ?_
    refine S_iload_n (kk := 0) g dX6_fillWords_80 rfl rfl ?_
    refine S_iconst g dX6_fillWords_81 ⟨by decide, by decide⟩ ?_
    refine S_iload_n (kk := 2) g dX6_fillWords_82 rfl rfl ?_
    refine S_callVj (As := [vI v3, vI 0, vI l1]) g dX6_fillWords_83 (sX6_pinWord hw a0 ha0 _ _ _ _) rfl ha0.1 rfl im_X6_pinWord se_X6_pinWord cw_X6_pinWord ml_Net_81 ini_Net nd_X6_pinWord ⟨by decide, by decide⟩ (Nat.le_of_ble_eq_true rfl) (fun r4 h5 => ?_)
    refine S_aload_n (kk := 1) g dX6_fillWords_86 rfl rfl ?_
    refine S_iload_n (kk := 0) g dX6_fillWords_87 rfl rfl ?_
    refine S_iconst g dX6_fillWords_88 ⟨by decide, by decide⟩ ?_
    refine S_iload_n (kk := 2) g dX6_fillWords_89 rfl rfl ?_
    refine S_callVj (As := [vI v3, vI 1, vI l1]) g dX6_fillWords_90 (sX6_pinWord hw a0 ha0 _ _ _ _) rfl ha0.1 rfl im_X6_pinWord se_X6_pinWord cw_X6_pinWord ml_Net_81 ini_Net nd_X6_pinWord ⟨by decide, by decide⟩ (Nat.le_of_ble_eq_true rfl) (fun r6 h7 => ?_)
    refine S_aload_n (kk := 1) g dX6_fillWords_93 rfl rfl ?_
    refine S_iload_n (kk := 0) g dX6_fillWords_94 rfl rfl ?_
    refine S_iconst g dX6_fillWords_95 ⟨by decide, by decide⟩ ?_
    refine S_iload_n (kk := 2) g dX6_fillWords_96 rfl rfl ?_
    refine S_callVj (As := [vI v3, vI 2, vI l1]) g dX6_fillWords_97 (sX6_pinWord hw a0 ha0 _ _ _ _) rfl ha0.1 rfl im_X6_pinWord se_X6_pinWord cw_X6_pinWord ml_Net_81 ini_Net nd_X6_pinWord ⟨by decide, by decide⟩ (Nat.le_of_ble_eq_true rfl) (fun r8 h9 => ?_)
    refine S_callSj (As := [vI (h ((a0 + 1) + 1) v3.toNat), vJ r4, vJ r6, vJ r8]) g dX6_fillWords_100 (sX6_made hw _ _ _ _ _) rfl st_X6_made cw_X6_made ml_Net_85 ini_Net nd_X6_made ⟨by decide, by decide⟩ (Nat.le_of_ble_eq_true rfl) (fun r10 h11 => ?_)
    refine S_lastore g dX6_fillWords_103 ha0.2.2.2.2.2.2.2.2.2.1 (fun h12 => ?_)
    refine S_iinc (kk := 3) g dX6_fillWords_104 rfl (by decide) rfl ?_
    refine S_goto (tgt := 43) g dX6_fillWords_107 (by decide) ?_
    refine S_sub g [2, 3, 0] rfl ?_
    exact hs43 _ _ _

theorem sX6_fillWords_L9 {Γ : Cx} {w : Wd} (hw : okX w) (g : Gd Γ cX6_fillWords 4 "GatePatch$Net" (Option.none : Option Jvm.ClassFile.FieldType) (rmd 2)) (a0 : Nat) (ha0 : isNt w a0) (self2 : Int → Hp → OR) (hs2 : ∀ (x0 : Int) (h : Hp), Sim Γ w 3 (self2 x0 h) h 2 [(0, vP a0), (1, vI x0)] []) : ∀ (l1 l2 : Int) (h : Hp), Sim Γ w 3 (XX6_fillWords_L9 a0 self2 l1 l2 h) h 9 [(0, vP a0), (1, vI l1), (2, vI l2)] [] := by
  refine S_lup2 (fun l1 l2 => [(0, vP a0), (1, vI l1), (2, vI l2)]) (fun self9 hs9 l1 l2 h => ?_) FU
  unfold XX6_fillWords_b9
  refine S_iload_n (kk := 2) g dX6_fillWords_9 rfl rfl ?_
  refine S_aload_n (kk := 0) g dX6_fillWords_10 rfl rfl ?_
  refine S_getr g dX6_fillWords_11 fl_Net_12 ha0.1 rfl ha0.2.1 ?_
  refine S_callVi (As := []) g dX6_fillWords_14 (sX8_sources hw (a0 + 1) ha0.2.2.2.2.2.2.1 _) rfl ha0.2.2.2.2.2.2.1.1 rfl im_X8_sources se_X8_sources cw_X8_sources ml_Net_53 ini_Plan nd_X8_sources ⟨by decide, by decide⟩ (Nat.le_of_ble_eq_true rfl) (fun r1 h2 => ?_)
  refine S_icmp_ge (tgt := 41) g dX6_fillWords_17 (by decide) ?_ ?_
  · refine S_iconst g dX6_fillWords_41 ⟨by decide, by decide⟩ ?_
    refine S_istore_n g dX6_fillWords_42 rfl (by decide) rfl ?_
    refine S_sub g [1, 2, 0] rfl ?_
    exact sX6_fillWords_L43 hw g a0 ha0 self2 hs2 _ _ _
  · refine S_aload_n (kk := 0) g dX6_fillWords_20 rfl rfl ?_
    refine S_getr g dX6_fillWords_21 fl_Net_26 ha0.1 rfl ha0.2.2.2.2.1 ?_
    refine S_iconst g dX6_fillWords_24 ⟨by decide, by decide⟩ ?_
    refine S_iload_n (kk := 2) g dX6_fillWords_25 rfl rfl ?_
    refine S_imul g dX6_fillWords_26 ?_
    refine S_iload_n (kk := 1) g dX6_fillWords_27 rfl rfl ?_
    refine S_iadd g dX6_fillWords_28 ?_
    refine S_iload_n (kk := 2) g dX6_fillWords_29 rfl rfl ?_
    refine S_iload_n (kk := 1) g dX6_fillWords_30 rfl rfl ?_
    refine S_callSj (As := [vI l2, vI l1]) g dX6_fillWords_31 (sX6_sourceWord hw _ _ _) rfl st_X6_sourceWord cw_X6_sourceWord ml_Net_77 ini_Net nd_X6_sourceWord ⟨by decide, by decide⟩ (Nat.le_of_ble_eq_true rfl) (fun r13 h14 => ?_)
    refine S_lastore g dX6_fillWords_34 ha0.2.2.2.2.2.2.2.2.2.1 (fun h15 => ?_)
    refine S_iinc (kk := 2) g dX6_fillWords_35 rfl (by decide) rfl ?_
    refine S_goto (tgt := 9) g dX6_fillWords_38 (by decide) ?_
    refine S_sub g [1, 2, 0] rfl ?_
    exact hs9 _ _ _

theorem sX6_fillWords_L2 {Γ : Cx} {w : Wd} (hw : okX w) (g : Gd Γ cX6_fillWords 4 "GatePatch$Net" (Option.none : Option Jvm.ClassFile.FieldType) (rmd 2)) (a0 : Nat) (ha0 : isNt w a0)  : ∀ (l1 : Int) (h : Hp), Sim Γ w 3 (XX6_fillWords_L2 a0 l1 h) h 2 [(0, vP a0), (1, vI l1)] [] := by
  refine S_lup1 (fun l1 => [(0, vP a0), (1, vI l1)]) (fun self2 hs2 l1 h => ?_) FU
  unfold XX6_fillWords_b2
  refine S_iload_n (kk := 1) g dX6_fillWords_2 rfl rfl ?_
  refine S_iconst g dX6_fillWords_3 ⟨by decide, by decide⟩ ?_
  refine S_icmp_ge (tgt := 116) g dX6_fillWords_4 (by decide) ?_ ?_
  · exact S_return g dX6_fillWords_116 rfl
  · refine S_iconst g dX6_fillWords_7 ⟨by decide, by decide⟩ ?_
    refine S_istore_n g dX6_fillWords_8 rfl (by decide) rfl ?_
    refine S_sub g [1, 2, 0] rfl ?_
    exact sX6_fillWords_L9 hw g a0 ha0 self2 hs2 _ _ _

theorem sX6_fillWords {G : GG} {w : Wd} (hw : okX w) (p : Nat) (hp : isNt w p) (h : Hp) : SC G w yX6_fillWords (Cond.code yX6_fillWords cX6_fillWords 4 (Option.none : Option Jvm.ClassFile.FieldType)) 2 3 [vP p] (XX6_fillWords p h) h := by
  refine SC_of (own := "GatePatch$Net") plain_Net rfl (Nat.le_of_ble_eq_true rfl) (fun Γ hG g => ?_)
  subst hG
  show Sim Γ w 3 _ h 0 [(0, vP p)] []
  unfold XX6_fillWords
  refine S_iconst g dX6_fillWords_0 ⟨by decide, by decide⟩ ?_
  refine S_istore_n g dX6_fillWords_1 rfl (by decide) rfl ?_
  refine S_sub g [1, 0] rfl ?_
  exact sX6_fillWords_L2 hw g p hp _ _

def XX6_refresh (p : Nat) (h : Hp) : OR :=
  if (h p 6) = 0 then cal (XX6_sortGates p h) (fun r1 h2 => cal (XX6_findBelow p h2) (fun r3 h4 => cal (XX6_fillWords p h4) (fun r5 h6 => zb 1 (hm (wr h6 p 6 1) (fun h7 => some (0, h7)))))) else some (0, h)
theorem sX6_refresh {G : GG} {w : Wd} (hw : okX w) (p : Nat) (hp : isNt w p) (h : Hp) : SC G w yX6_refresh (Cond.code yX6_refresh cX6_refresh 1 (Option.none : Option Jvm.ClassFile.FieldType)) 3 3 [vP p] (XX6_refresh p h) h := by
  refine SC_of (own := "GatePatch$Net") plain_Net rfl (Nat.le_of_ble_eq_true rfl) (fun Γ hG g => ?_)
  subst hG
  show Sim Γ w 3 _ h 0 [(0, vP p)] []
  unfold XX6_refresh
  refine S_aload_n (kk := 0) g dX6_refresh_0 rfl rfl ?_
  refine S_geti g dX6_refresh_1 fl_Net_40 hp.1 (Or.inr rfl) ?_
  refine S_if_ne (tgt := 24) g dX6_refresh_4 (by decide) ?_ ?_
  · exact S_return g dX6_refresh_24 rfl
  · refine S_aload_n (kk := 0) g dX6_refresh_7 rfl rfl ?_
    refine S_callVv (As := []) g dX6_refresh_8 (sX6_sortGates hw p hp _) rfl hp.1 rfl im_X6_sortGates se_X6_sortGates cw_X6_sortGates ml_Net_44 ini_Net nd_X6_sortGates ⟨by decide, by decide⟩ (Nat.le_of_ble_eq_true rfl) (fun r1 h2 => ?_)
    refine S_aload_n (kk := 0) g dX6_refresh_11 rfl rfl ?_
    refine S_callVv (As := []) g dX6_refresh_12 (sX6_findBelow hw p hp _) rfl hp.1 rfl im_X6_findBelow se_X6_findBelow cw_X6_findBelow ml_Net_47 ini_Net nd_X6_findBelow ⟨by decide, by decide⟩ (Nat.le_of_ble_eq_true rfl) (fun r3 h4 => ?_)
    refine S_aload_n (kk := 0) g dX6_refresh_15 rfl rfl ?_
    refine S_callVv (As := []) g dX6_refresh_16 (sX6_fillWords hw p hp _) rfl hp.1 rfl im_X6_fillWords se_X6_fillWords cw_X6_fillWords ml_Net_50 ini_Net nd_X6_fillWords ⟨by decide, by decide⟩ (Nat.le_of_ble_eq_true rfl) (fun r5 h6 => ?_)
    refine S_aload_n (kk := 0) g dX6_refresh_19 rfl rfl ?_
    refine S_iconst g dX6_refresh_20 ⟨by decide, by decide⟩ ?_
    refine S_putz g dX6_refresh_21 fp_Net_40 hp.1 rfl (fun h7 => ?_)
    exact S_return g dX6_refresh_24 rfl

def XX6_hangsOn (p : Nat) (x0 : Int) (x1 : Int) (h : Hp) : OR :=
  inb x0 48 (if (jcmp (jand (jshr (h (p + 7) x0.toNat) x1) 1) 1) = 0 then zb 1 (some (1, h)) else zb 0 (some (0, h)))
theorem sX6_hangsOn {G : GG} {w : Wd} (hw : okX w) (p : Nat) (hp : isNt w p) (x0 : Int) (x1 : Int) (h : Hp) : SC G w yX6_hangsOn (Cond.code yX6_hangsOn cX6_hangsOn 3 (Option.some Jvm.ClassFile.FieldType.boolean)) 1 0 [vP p, vI x0, vI x1] (XX6_hangsOn p x0 x1 h) h := by
  refine SC_of (own := "GatePatch$Net") plain_Net rfl (Nat.le_of_ble_eq_true rfl) (fun Γ hG g => ?_)
  subst hG
  show Sim Γ w 0 _ h 0 [(0, vP p), (1, vI x0), (2, vI x1)] []
  unfold XX6_hangsOn
  refine S_aload_n (kk := 0) g dX6_hangsOn_0 rfl rfl ?_
  refine S_getr g dX6_hangsOn_1 fl_Net_22 hp.1 rfl hp.2.2.2.1 ?_
  refine S_iload_n (kk := 1) g dX6_hangsOn_4 rfl rfl ?_
  refine S_laload g dX6_hangsOn_5 hp.2.2.2.2.2.2.2.2.1 ?_
  refine S_iload_n (kk := 2) g dX6_hangsOn_6 rfl rfl ?_
  refine S_lshr g dX6_hangsOn_7 ?_
  refine S_lconst (x := 1) g dX6_hangsOn_8 ⟨by decide, by decide⟩ rfl ?_
  refine S_land g dX6_hangsOn_9 ?_
  refine S_lconst (x := 1) g dX6_hangsOn_10 ⟨by decide, by decide⟩ rfl ?_
  refine S_lcmp g dX6_hangsOn_11 ?_
  refine S_if_ne (tgt := 19) g dX6_hangsOn_12 (by decide) ?_ ?_
  · refine S_iconst g dX6_hangsOn_19 ⟨by decide, by decide⟩ ?_
    exact S_zreturn g dX6_hangsOn_20 rfl
  · refine S_iconst g dX6_hangsOn_15 ⟨by decide, by decide⟩ ?_
    refine S_goto (tgt := 20) g dX6_hangsOn_16 (by decide) ?_
    exact S_zreturn g dX6_hangsOn_20 rfl

def XX6_timeAll_b52 (a0 : Nat) (a1 : Nat) (self28 : Int → Hp → OR) (self52 : Int → Int → Int → Int → Hp → OR) (l2 l3 l4 l5 : Int) (h : Hp) : OR :=
  inb l3 48 (inb (h ((a0 + 1) + 1) l3.toNat) 9 (if (pinC (h ((a0 + 1) + 1) l3.toNat).toNat) ≤ l5 then inb l3 48 (inb (h ((a0 + 1) + 1) l3.toNat) 9 (chk (l4 + (h a1 (h ((a0 + 1) + 1) l3.toNat).toNat)) (inb l3 48 (hm (wr h (a0 + 9) l3.toNat (l4 + (h a1 (h ((a0 + 1) + 1) l3.toNat).toNat))) (fun h4 => chk (l2 + 1) (self28 (l2 + 1) h4)))))) else chk (3 * l3) (chk ((3 * l3) + l5) (inb ((3 * l3) + l5) 144 (inb (h ((a0 + 1) + 2) ((3 * l3) + l5).toNat) 48 (nm (imax l4 (h (a0 + 9) (h ((a0 + 1) + 2) ((3 * l3) + l5).toNat).toNat)) (fun v5 => chk (l5 + 1) (self52 l2 l3 v5 (l5 + 1) h))))))))
def XX6_timeAll_L52 (a0 : Nat) (a1 : Nat) (self28 : Int → Hp → OR) (l2 l3 l4 l5 : Int) (h : Hp) : OR := lup4 (XX6_timeAll_b52 a0 a1 self28) FU l2 l3 l4 l5 h
def XX6_timeAll_b28 (a0 : Nat) (a1 : Nat)  (self28 : Int → Hp → OR) (l2 : Int) (h : Hp) : OR :=
  if (h (a0 + 1) 3) ≤ l2 then some (0, h) else inb l2 40 (nm (h (a0 + 6) l2.toNat) (fun v3 => XX6_timeAll_L52 a0 a1 self28 l2 v3 0 0 h))
def XX6_timeAll_L28 (a0 : Nat) (a1 : Nat)  (l2 : Int) (h : Hp) : OR := lup1 (XX6_timeAll_b28 a0 a1) FU l2 h
def XX6_timeAll_b2 (a0 : Nat) (a1 : Nat)  (self2 : Int → Hp → OR) (l2 : Int) (h : Hp) : OR :=
  cal (XX8_sources (a0 + 1) h) (fun r1 h2 => if r1 ≤ l2 then XX6_timeAll_L28 a0 a1 0 h2 else inb l2 48 (hm (wr h2 (a0 + 9) l2.toNat 0) (fun h6 => chk (l2 + 1) (self2 (l2 + 1) h6))))
def XX6_timeAll_L2 (a0 : Nat) (a1 : Nat)  (l2 : Int) (h : Hp) : OR := lup1 (XX6_timeAll_b2 a0 a1) FU l2 h
def XX6_timeAll (p : Nat) (x0 : Nat) (h : Hp) : OR :=
  XX6_timeAll_L2 p x0 0 h
theorem sX6_timeAll_L52 {Γ : Cx} {w : Wd} (hw : okX w) (g : Gd Γ cX6_timeAll 6 "GatePatch$Net" (Option.none : Option Jvm.ClassFile.FieldType) (rmd 2)) (a0 : Nat) (ha0 : isNt w a0) (a1 : Nat) (ha1 : At w a1 (2, 0, 9)) (self28 : Int → Hp → OR) (hs28 : ∀ (x0 : Int) (h : Hp), Sim Γ w 3 (self28 x0 h) h 28 [(0, vP a0), (1, vP a1), (2, vI x0)] []) : ∀ (l2 l3 l4 l5 : Int) (h : Hp), Sim Γ w 3 (XX6_timeAll_L52 a0 a1 self28 l2 l3 l4 l5 h) h 52 [(0, vP a0), (1, vP a1), (2, vI l2), (3, vI l3), (4, vI l4), (5, vI l5)] [] := by
  refine S_lup4 (fun l2 l3 l4 l5 => [(0, vP a0), (1, vP a1), (2, vI l2), (3, vI l3), (4, vI l4), (5, vI l5)]) (fun self52 hs52 l2 l3 l4 l5 h => ?_) FU
  unfold XX6_timeAll_b52
  refine S_iload (kk := 5) g dX6_timeAll_52 rfl ?_
  refine S_gets1N g dX6_timeAll_54 gs_Net_67 ?_
  refine S_aload_n (kk := 0) g dX6_timeAll_57 rfl rfl ?_
  refine S_getr g dX6_timeAll_58 fl_Net_12 ha0.1 rfl ha0.2.1 ?_
  refine S_getr g dX6_timeAll_61 fl_Net_71 ha0.2.2.2.2.2.2.1.1 rfl ha0.2.2.2.2.2.2.1.2.1 ?_
  refine S_iload_n (kk := 3) g dX6_timeAll_64 rfl rfl ?_
  refine S_iaload g dX6_timeAll_65 ha0.2.2.2.2.2.2.1.2.2.2.2.2.1 ?_
  refine S_baloadS1 g dX6_timeAll_66 ?_
  refine S_icmp_ge (tgt := 102) g dX6_timeAll_67 (by decide) ?_ ?_
  · refine S_aload_n (kk := 0) g dX6_timeAll_102 rfl rfl ?_
    refine S_getr g dX6_timeAll_103 fl_Net_29 ha0.1 rfl ha0.2.2.2.2.2.1 ?_
    refine S_iload_n (kk := 3) g dX6_timeAll_106 rfl rfl ?_
    refine S_iload (kk := 4) g dX6_timeAll_107 rfl ?_
    refine S_aload_n (kk := 1) g dX6_timeAll_109 rfl rfl ?_
    refine S_aload_n (kk := 0) g dX6_timeAll_110 rfl rfl ?_
    refine S_getr g dX6_timeAll_111 fl_Net_12 ha0.1 rfl ha0.2.1 ?_
    refine S_getr g dX6_timeAll_114 fl_Net_71 ha0.2.2.2.2.2.2.1.1 rfl ha0.2.2.2.2.2.2.1.2.1 ?_
    refine S_iload_n (kk := 3) g dX6_timeAll_117 rfl rfl ?_
    refine S_iaload g dX6_timeAll_118 ha0.2.2.2.2.2.2.1.2.2.2.2.2.1 ?_
    refine S_iaload g dX6_timeAll_119 ha1 ?_
    refine S_iadd g dX6_timeAll_120 ?_
    refine S_iastore g dX6_timeAll_121 ha0.2.2.2.2.2.2.2.2.2.2 (fun h4 => ?_)
    refine S_iinc (kk := 2) g dX6_timeAll_122 rfl (by decide) rfl ?_
    refine S_goto (tgt := 28) g dX6_timeAll_125 (by decide) ?_
    refine S_sub g [1, 2, 0] rfl ?_
    exact hs28 _ _
  · refine S_iload (kk := 4) g dX6_timeAll_70 rfl ?_
    refine S_aload_n (kk := 0) g dX6_timeAll_72 rfl rfl ?_
    refine S_getr g dX6_timeAll_73 fl_Net_29 ha0.1 rfl ha0.2.2.2.2.2.1 ?_
    refine S_aload_n (kk := 0) g dX6_timeAll_76 rfl rfl ?_
    refine S_getr g dX6_timeAll_77 fl_Net_12 ha0.1 rfl ha0.2.1 ?_
    refine S_getr g dX6_timeAll_80 fl_Net_74 ha0.2.2.2.2.2.2.1.1 rfl ha0.2.2.2.2.2.2.1.2.2.1 ?_
    refine S_iconst g dX6_timeAll_83 ⟨by decide, by decide⟩ ?_
    refine S_iload_n (kk := 3) g dX6_timeAll_84 rfl rfl ?_
    refine S_imul g dX6_timeAll_85 ?_
    refine S_iload (kk := 5) g dX6_timeAll_86 rfl ?_
    refine S_iadd g dX6_timeAll_88 ?_
    refine S_iaload g dX6_timeAll_89 ha0.2.2.2.2.2.2.1.2.2.2.2.2.2.1 ?_
    refine S_iaload g dX6_timeAll_90 ha0.2.2.2.2.2.2.2.2.2.2 ?_
    refine S_mmax g dX6_timeAll_91 ml_Net_94 ma_st_max ini_Math ma_cw_max (by decide) (Nat.le_of_ble_eq_true rfl) ?_
    refine S_nmI (fun v5 => ?_)
    refine S_istore g dX6_timeAll_94 (by decide) rfl ?_
    refine S_iinc (kk := 5) g dX6_timeAll_96 rfl (by decide) rfl ?_
    refine S_goto (tgt := 52) g dX6_timeAll_99 (by decide) ?_
    refine S_sub g [2, 3, 4, 5, 1, 0] rfl ?_
    exact hs52 _ _ _ _ _

theorem sX6_timeAll_L28 {Γ : Cx} {w : Wd} (hw : okX w) (g : Gd Γ cX6_timeAll 6 "GatePatch$Net" (Option.none : Option Jvm.ClassFile.FieldType) (rmd 2)) (a0 : Nat) (ha0 : isNt w a0) (a1 : Nat) (ha1 : At w a1 (2, 0, 9))  : ∀ (l2 : Int) (h : Hp), Sim Γ w 3 (XX6_timeAll_L28 a0 a1 l2 h) h 28 [(0, vP a0), (1, vP a1), (2, vI l2)] [] := by
  refine S_lup1 (fun l2 => [(0, vP a0), (1, vP a1), (2, vI l2)]) (fun self28 hs28 l2 h => ?_) FU
  unfold XX6_timeAll_b28
  refine S_iload_n (kk := 2) g dX6_timeAll_28 rfl rfl ?_
  refine S_aload_n (kk := 0) g dX6_timeAll_29 rfl rfl ?_
  refine S_getr g dX6_timeAll_30 fl_Net_12 ha0.1 rfl ha0.2.1 ?_
  refine S_geti g dX6_timeAll_33 fl_Net_57 ha0.2.2.2.2.2.2.1.1 (Or.inl rfl) ?_
  refine S_icmp_ge (tgt := 128) g dX6_timeAll_36 (by decide) ?_ ?_
  · exact S_return g dX6_timeAll_128 rfl
  · refine S_aload_n (kk := 0) g dX6_timeAll_39 rfl rfl ?_
    refine S_getr g dX6_timeAll_40 fl_Net_18 ha0.1 rfl ha0.2.2.1 ?_
    refine S_iload_n (kk := 2) g dX6_timeAll_43 rfl rfl ?_
    refine S_iaload g dX6_timeAll_44 ha0.2.2.2.2.2.2.2.1 ?_
    refine S_nmI (fun v3 => ?_)
    refine S_istore_n g dX6_timeAll_45 rfl (by decide) rfl ?_
    refine S_iconst g dX6_timeAll_46 ⟨by decide, by decide⟩ ?_
    refine S_istore g dX6_timeAll_47 (by decide) rfl ?_
    refine S_iconst g dX6_timeAll_49 ⟨by decide, by decide⟩ ?_
    refine S_istore g dX6_timeAll_50 (by decide) rfl ?_
    refine S_sub g [3, 4, 5, 2, 1, 0] rfl ?_
    exact sX6_timeAll_L52 hw g a0 ha0 a1 ha1 self28 hs28 _ _ _ _ _

theorem sX6_timeAll_L2 {Γ : Cx} {w : Wd} (hw : okX w) (g : Gd Γ cX6_timeAll 6 "GatePatch$Net" (Option.none : Option Jvm.ClassFile.FieldType) (rmd 2)) (a0 : Nat) (ha0 : isNt w a0) (a1 : Nat) (ha1 : At w a1 (2, 0, 9))  : ∀ (l2 : Int) (h : Hp), Sim Γ w 3 (XX6_timeAll_L2 a0 a1 l2 h) h 2 [(0, vP a0), (1, vP a1), (2, vI l2)] [] := by
  refine S_lup1 (fun l2 => [(0, vP a0), (1, vP a1), (2, vI l2)]) (fun self2 hs2 l2 h => ?_) FU
  unfold XX6_timeAll_b2
  refine S_iload_n (kk := 2) g dX6_timeAll_2 rfl rfl ?_
  refine S_aload_n (kk := 0) g dX6_timeAll_3 rfl rfl ?_
  refine S_getr g dX6_timeAll_4 fl_Net_12 ha0.1 rfl ha0.2.1 ?_
  refine S_callVi (As := []) g dX6_timeAll_7 (sX8_sources hw (a0 + 1) ha0.2.2.2.2.2.2.1 _) rfl ha0.2.2.2.2.2.2.1.1 rfl im_X8_sources se_X8_sources cw_X8_sources ml_Net_53 ini_Plan nd_X8_sources ⟨by decide, by decide⟩ (Nat.le_of_ble_eq_true rfl) (fun r1 h2 => ?_)
  refine S_icmp_ge (tgt := 26) g dX6_timeAll_10 (by decide) ?_ ?_
  · refine S_iconst g dX6_timeAll_26 ⟨by decide, by decide⟩ ?_
    refine S_istore_n g dX6_timeAll_27 rfl (by decide) rfl ?_
    refine S_sub g [1, 2, 0] rfl ?_
    exact sX6_timeAll_L28 hw g a0 ha0 a1 ha1 _ _
  · refine S_aload_n (kk := 0) g dX6_timeAll_13 rfl rfl ?_
    refine S_getr g dX6_timeAll_14 fl_Net_29 ha0.1 rfl ha0.2.2.2.2.2.1 ?_
    refine S_iload_n (kk := 2) g dX6_timeAll_17 rfl rfl ?_
    refine S_iconst g dX6_timeAll_18 ⟨by decide, by decide⟩ ?_
    refine S_iastore g dX6_timeAll_19 ha0.2.2.2.2.2.2.2.2.2.2 (fun h6 => ?_)
    refine S_iinc (kk := 2) g dX6_timeAll_20 rfl (by decide) rfl ?_
    refine S_goto (tgt := 2) g dX6_timeAll_23 (by decide) ?_
    refine S_sub g [1, 2, 0] rfl ?_
    exact hs2 _ _

theorem sX6_timeAll {G : GG} {w : Wd} (hw : okX w) (p : Nat) (hp : isNt w p) (x0 : Nat) (hx0 : At w x0 (2, 0, 9)) (h : Hp) : SC G w yX6_timeAll (Cond.code yX6_timeAll cX6_timeAll 6 (Option.none : Option Jvm.ClassFile.FieldType)) 2 3 [vP p, vP x0] (XX6_timeAll p x0 h) h := by
  refine SC_of (own := "GatePatch$Net") plain_Net rfl (Nat.le_of_ble_eq_true rfl) (fun Γ hG g => ?_)
  subst hG
  show Sim Γ w 3 _ h 0 [(0, vP p), (1, vP x0)] []
  unfold XX6_timeAll
  refine S_iconst g dX6_timeAll_0 ⟨by decide, by decide⟩ ?_
  refine S_istore_n g dX6_timeAll_1 rfl (by decide) rfl ?_
  refine S_sub g [1, 2, 0] rfl ?_
  exact sX6_timeAll_L2 hw g p hp x0 hx0 _ _

