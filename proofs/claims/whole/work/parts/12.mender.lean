abbrev cX5_aim : ByteArray := prog_7_method_2_code
def yX5_aim : MethodName := ⟨"GatePatch$Mender", "aim", "(III)Z"⟩
abbrev cX5_assignments : ByteArray := prog_7_method_3_code
def yX5_assignments : MethodName := ⟨"GatePatch$Mender", "assignments", "()I"⟩
abbrev cX5_difference : ByteArray := prog_7_method_4_code
def yX5_difference : MethodName := ⟨"GatePatch$Mender", "difference", "(I)J"⟩
abbrev cX5_firstDifference : ByteArray := prog_7_method_5_code
def yX5_firstDifference : MethodName := ⟨"GatePatch$Mender", "firstDifference", "()I"⟩
abbrev cX5_load : ByteArray := prog_7_method_6_code
def yX5_load : MethodName := ⟨"GatePatch$Mender", "load", "(I)V"⟩
abbrev cX5_pinNow : ByteArray := prog_7_method_8_code
def yX5_pinNow : MethodName := ⟨"GatePatch$Mender", "pinNow", "(II)J"⟩
abbrev cX5_mended : ByteArray := prog_7_method_7_code
def yX5_mended : MethodName := ⟨"GatePatch$Mender", "mended", "(I)J"⟩
abbrev cX5_unmended : ByteArray := prog_7_method_9_code
def yX5_unmended : MethodName := ⟨"GatePatch$Mender", "unmended", "(I)J"⟩
abbrev cX5_firstUnmended : ByteArray := prog_7_method_10_code
def yX5_firstUnmended : MethodName := ⟨"GatePatch$Mender", "firstUnmended", "()I"⟩
abbrev cX5_leastMending : ByteArray := prog_7_method_11_code
def yX5_leastMending : MethodName := ⟨"GatePatch$Mender", "leastMending", "(I)I"⟩
abbrev cX5_writeLeast : ByteArray := prog_7_method_12_code
def yX5_writeLeast : MethodName := ⟨"GatePatch$Mender", "writeLeast", "([J)V"⟩
abbrev cX5_holders : ByteArray := prog_7_method_15_code
def yX5_holders : MethodName := ⟨"GatePatch$Mender", "holders", "(I[JII)J"⟩
abbrev cX5_firstMisjudgedIn : ByteArray := prog_7_method_14_code
def yX5_firstMisjudgedIn : MethodName := ⟨"GatePatch$Mender", "firstMisjudgedIn", "(I[JI)I"⟩
abbrev cX5_firstMisjudged : ByteArray := prog_7_method_13_code
def yX5_firstMisjudged : MethodName := ⟨"GatePatch$Mender", "firstMisjudged", "([JI)I"⟩
abbrev cX5_findWrong : ByteArray := prog_7_method_18_code
def yX5_findWrong : MethodName := ⟨"GatePatch$Mender", "findWrong", "()V"⟩
abbrev cX5_isEnough : ByteArray := prog_7_method_19_code
def yX5_isEnough : MethodName := ⟨"GatePatch$Mender", "isEnough", "(III)Z"⟩
abbrev cX5_searchSize : ByteArray := prog_7_method_17_code
def yX5_searchSize : MethodName := ⟨"GatePatch$Mender", "searchSize", "(I)Z"⟩
abbrev cX5_search : ByteArray := prog_7_method_16_code
def yX5_search : MethodName := ⟨"GatePatch$Mender", "search", "(I)I"⟩
theorem fl_Mender_25 : FL "GatePatch$Mender" 25 4 0 := ⟨R_Mender, T_Mender, 13, ty_Mender, ci_Mender, by decide, mem_t 161 (by decide +kernel) rfl⟩
theorem fl_Mender_36 : FL "GatePatch$Mender" 36 5 0 := ⟨R_Net, T_Net, 7, ty_Net, ci_Net, by decide, mem_t 90 (by decide +kernel) rfl⟩
theorem ml_Mender_42 : Cond.methodLink "GatePatch$Mender" 42 yX8_isGate ∈ tblG := mem_t 724 (by decide +kernel) rfl
theorem im_X8_isGate : Cond.instanceMethod yX8_isGate ∈ tblG := mem_t 599 (by decide +kernel) rfl
theorem se_X8_isGate : Cond.selects "GatePatch$Plan" yX8_isGate yX8_isGate ∈ tblG := mem_t 600 (by decide +kernel) rfl
theorem cw_X8_isGate : Cond.code yX8_isGate cX8_isGate 2 (Option.some Jvm.ClassFile.FieldType.boolean) ∈ tblG := mem_t 601 (by decide +kernel) rfl
theorem nd_X8_isGate : yX8_isGate.cls ≠ "java/lang/invoke/MethodHandle" ∧ yX8_isGate.cls ≠ "java/lang/invoke/VarHandle" ∧ (parseMethodDescriptor yX8_isGate.desc).map (fun d => d.parameters.length) = some 1 := by decide +kernel
theorem fl_Mender_9 : FL "GatePatch$Mender" 9 4 3 := ⟨R_Mender, T_Mender, 13, ty_Mender, ci_Mender, by decide, mem_t 164 (by decide +kernel) rfl⟩
theorem fp_Mender_48 : FP "GatePatch$Mender" 48 4 4 .int := ⟨R_Mender, T_Mender, 13, ty_Mender, ci_Mender, by decide, mem_t 167 (by decide +kernel) rfl, rfl, rfl⟩
theorem fp_Mender_52 : FP "GatePatch$Mender" 52 4 5 .long := ⟨R_Mender, T_Mender, 13, ty_Mender, ci_Mender, by decide, mem_t 169 (by decide +kernel) rfl, rfl, rfl⟩
theorem fl_Mender_48 : FL "GatePatch$Mender" 48 4 4 := ⟨R_Mender, T_Mender, 13, ty_Mender, ci_Mender, by decide, mem_t 167 (by decide +kernel) rfl⟩
theorem fl_Mender_52 : FL "GatePatch$Mender" 52 4 5 := ⟨R_Mender, T_Mender, 13, ty_Mender, ci_Mender, by decide, mem_t 169 (by decide +kernel) rfl⟩
theorem plain_Mender : plainName "GatePatch$Mender" = true := by decide +kernel
theorem ml_Mender_56 : Cond.methodLink "GatePatch$Mender" 56 yX8_seenCount ∈ tblG := mem_t 703 (by decide +kernel) rfl
theorem im_X8_seenCount : Cond.instanceMethod yX8_seenCount ∈ tblG := mem_t 704 (by decide +kernel) rfl
theorem se_X8_seenCount : Cond.selects "GatePatch$Plan" yX8_seenCount yX8_seenCount ∈ tblG := mem_t 705 (by decide +kernel) rfl
theorem cw_X8_seenCount : Cond.code yX8_seenCount cX8_seenCount 1 (Option.some Jvm.ClassFile.FieldType.int) ∈ tblG := mem_t 706 (by decide +kernel) rfl
theorem nd_X8_seenCount : yX8_seenCount.cls ≠ "java/lang/invoke/MethodHandle" ∧ yX8_seenCount.cls ≠ "java/lang/invoke/VarHandle" ∧ (parseMethodDescriptor yX8_seenCount.desc).map (fun d => d.parameters.length) = some 0 := by decide +kernel
theorem fl_Mender_32 : FL "GatePatch$Mender" 32 4 2 := ⟨R_Mender, T_Mender, 13, ty_Mender, ci_Mender, by decide, mem_t 163 (by decide +kernel) rfl⟩
theorem fl_Mender_66 : FL "GatePatch$Mender" 66 0 3 := ⟨R_Cases, T_Cases, 4, ty_Cases, ci_Cases, by decide, mem_t 144 (by decide +kernel) rfl⟩
theorem fl_Mender_60 : FL "GatePatch$Mender" 60 5 4 := ⟨R_Net, T_Net, 7, ty_Net, ci_Net, by decide, mem_t 105 (by decide +kernel) rfl⟩
theorem fl_Mender_63 : FL "GatePatch$Mender" 63 7 6 := ⟨R_Plan, T_Plan, 8, ty_Plan, ci_Plan, by decide, mem_t 66 (by decide +kernel) rfl⟩
theorem fl_Mender_29 : FL "GatePatch$Mender" 29 4 1 := ⟨R_Mender, T_Mender, 13, ty_Mender, ci_Mender, by decide, mem_t 162 (by decide +kernel) rfl⟩
theorem fl_Mender_71 : FL "GatePatch$Mender" 71 0 1 := ⟨R_Cases, T_Cases, 4, ty_Cases, ci_Cases, by decide, mem_t 140 (by decide +kernel) rfl⟩
theorem ml_Mender_74 : Cond.methodLink "GatePatch$Mender" 74 yX5_difference ∈ tblG := mem_t 699 (by decide +kernel) rfl
theorem im_X5_difference : Cond.instanceMethod yX5_difference ∈ tblG := mem_t 701 (by decide +kernel) rfl
theorem se_X5_difference : Cond.selects "GatePatch$Mender" yX5_difference yX5_difference ∈ tblG := mem_s 10 (by decide +kernel) rfl
theorem cw_X5_difference : Cond.code yX5_difference cX5_difference 5 (Option.some Jvm.ClassFile.FieldType.long) ∈ tblG := mem_t 702 (by decide +kernel) rfl
theorem ini_Mender : Cond.initialized "GatePatch$Mender" ∈ tblG := mem_t 5 (by decide +kernel) rfl
theorem nd_X5_difference : yX5_difference.cls ≠ "java/lang/invoke/MethodHandle" ∧ yX5_difference.cls ≠ "java/lang/invoke/VarHandle" ∧ (parseMethodDescriptor yX5_difference.desc).map (fun d => d.parameters.length) = some 1 := by decide +kernel
theorem ml_Mender_78 : Cond.methodLink "GatePatch$Mender" 78 yX0_lowest ∈ tblG := mem_t 707 (by decide +kernel) rfl
theorem st_X0_lowest : Cond.static yX0_lowest ∈ tblG := mem_t 708 (by decide +kernel) rfl
theorem cw_X0_lowest : Cond.code yX0_lowest cX0_lowest 3 (Option.some Jvm.ClassFile.FieldType.int) ∈ tblG := mem_t 709 (by decide +kernel) rfl
theorem nd_X0_lowest : yX0_lowest.cls ≠ "java/lang/invoke/MethodHandle" ∧ yX0_lowest.cls ≠ "java/lang/invoke/VarHandle" ∧ (parseMethodDescriptor yX0_lowest.desc).map (fun d => d.parameters.length) = some 2 := by decide +kernel
theorem ml_Mender_82 : Cond.methodLink "GatePatch$Mender" 82 yX8_wires ∈ tblG := mem_t 737 (by decide +kernel) rfl
theorem fp_Mender_85 : FP "GatePatch$Mender" 85 4 8 .int := ⟨R_Mender, T_Mender, 13, ty_Mender, ci_Mender, by decide, mem_t 173 (by decide +kernel) rfl, rfl, rfl⟩
theorem fl_Mender_88 : FL "GatePatch$Mender" 88 7 3 := ⟨R_Plan, T_Plan, 8, ty_Plan, ci_Plan, by decide, mem_t 54 (by decide +kernel) rfl⟩
theorem fp_Mender_97 : FP "GatePatch$Mender" 97 4 9 .int := ⟨R_Mender, T_Mender, 13, ty_Mender, ci_Mender, by decide, mem_t 174 (by decide +kernel) rfl, rfl, rfl⟩
theorem fl_Mender_91 : FL "GatePatch$Mender" 91 5 2 := ⟨R_Net, T_Net, 7, ty_Net, ci_Net, by decide, mem_t 98 (by decide +kernel) rfl⟩
theorem fl_Mender_94 : FL "GatePatch$Mender" 94 5 3 := ⟨R_Net, T_Net, 7, ty_Net, ci_Net, by decide, mem_t 101 (by decide +kernel) rfl⟩
theorem fl_Mender_19 : FL "GatePatch$Mender" 19 4 7 := ⟨R_Mender, T_Mender, 13, ty_Mender, ci_Mender, by decide, mem_t 172 (by decide +kernel) rfl⟩
theorem fl_Mender_85 : FL "GatePatch$Mender" 85 4 8 := ⟨R_Mender, T_Mender, 13, ty_Mender, ci_Mender, by decide, mem_t 173 (by decide +kernel) rfl⟩
theorem fl_Mender_15 : FL "GatePatch$Mender" 15 4 6 := ⟨R_Mender, T_Mender, 13, ty_Mender, ci_Mender, by decide, mem_t 171 (by decide +kernel) rfl⟩
theorem fl_Mender_113 : FL "GatePatch$Mender" 113 7 5 := ⟨R_Plan, T_Plan, 8, ty_Plan, ci_Plan, by decide, mem_t 63 (by decide +kernel) rfl⟩
theorem k_Mender_100 : Cond.constantLong "GatePatch$Mender" 100 (Int64.ofInt (-1)) ∈ tblG := mem_t 746 (by decide +kernel) rfl
theorem fl_Mender_97 : FL "GatePatch$Mender" 97 4 9 := ⟨R_Mender, T_Mender, 13, ty_Mender, ci_Mender, by decide, mem_t 174 (by decide +kernel) rfl⟩
theorem fl_Mender_102 : FL "GatePatch$Mender" 102 7 4 := ⟨R_Plan, T_Plan, 8, ty_Plan, ci_Plan, by decide, mem_t 58 (by decide +kernel) rfl⟩
theorem ml_Mender_105 : Cond.methodLink "GatePatch$Mender" 105 yX5_pinNow ∈ tblG := mem_t 747 (by decide +kernel) rfl
theorem im_X5_pinNow : Cond.instanceMethod yX5_pinNow ∈ tblG := mem_t 749 (by decide +kernel) rfl
theorem se_X5_pinNow : Cond.selects "GatePatch$Mender" yX5_pinNow yX5_pinNow ∈ tblG := mem_s 12 (by decide +kernel) rfl
theorem cw_X5_pinNow : Cond.code yX5_pinNow cX5_pinNow 4 (Option.some Jvm.ClassFile.FieldType.long) ∈ tblG := mem_t 750 (by decide +kernel) rfl
theorem nd_X5_pinNow : yX5_pinNow.cls ≠ "java/lang/invoke/MethodHandle" ∧ yX5_pinNow.cls ≠ "java/lang/invoke/VarHandle" ∧ (parseMethodDescriptor yX5_pinNow.desc).map (fun d => d.parameters.length) = some 2 := by decide +kernel
theorem ml_Mender_109 : Cond.methodLink "GatePatch$Mender" 109 yX6_made ∈ tblG := mem_t 751 (by decide +kernel) rfl
theorem ml_Mender_116 : Cond.methodLink "GatePatch$Mender" 116 yX5_load ∈ tblG := mem_t 733 (by decide +kernel) rfl
theorem im_X5_load : Cond.instanceMethod yX5_load ∈ tblG := mem_t 734 (by decide +kernel) rfl
theorem se_X5_load : Cond.selects "GatePatch$Mender" yX5_load yX5_load ∈ tblG := mem_t 735 (by decide +kernel) rfl
theorem cw_X5_load : Cond.code yX5_load cX5_load 4 (Option.none : Option Jvm.ClassFile.FieldType) ∈ tblG := mem_t 736 (by decide +kernel) rfl
theorem nd_X5_load : yX5_load.cls ≠ "java/lang/invoke/MethodHandle" ∧ yX5_load.cls ≠ "java/lang/invoke/VarHandle" ∧ (parseMethodDescriptor yX5_load.desc).map (fun d => d.parameters.length) = some 1 := by decide +kernel
theorem ml_Mender_120 : Cond.methodLink "GatePatch$Mender" 120 yX5_assignments ∈ tblG := mem_t 738 (by decide +kernel) rfl
theorem im_X5_assignments : Cond.instanceMethod yX5_assignments ∈ tblG := mem_t 739 (by decide +kernel) rfl
theorem se_X5_assignments : Cond.selects "GatePatch$Mender" yX5_assignments yX5_assignments ∈ tblG := mem_t 740 (by decide +kernel) rfl
theorem cw_X5_assignments : Cond.code yX5_assignments cX5_assignments 1 (Option.some Jvm.ClassFile.FieldType.int) ∈ tblG := mem_t 741 (by decide +kernel) rfl
theorem nd_X5_assignments : yX5_assignments.cls ≠ "java/lang/invoke/MethodHandle" ∧ yX5_assignments.cls ≠ "java/lang/invoke/VarHandle" ∧ (parseMethodDescriptor yX5_assignments.desc).map (fun d => d.parameters.length) = some 0 := by decide +kernel
theorem ml_Mender_123 : Cond.methodLink "GatePatch$Mender" 123 yX5_mended ∈ tblG := mem_t 742 (by decide +kernel) rfl
theorem im_X5_mended : Cond.instanceMethod yX5_mended ∈ tblG := mem_t 743 (by decide +kernel) rfl
theorem se_X5_mended : Cond.selects "GatePatch$Mender" yX5_mended yX5_mended ∈ tblG := mem_t 744 (by decide +kernel) rfl
theorem cw_X5_mended : Cond.code yX5_mended cX5_mended 5 (Option.some Jvm.ClassFile.FieldType.long) ∈ tblG := mem_t 745 (by decide +kernel) rfl
theorem nd_X5_mended : yX5_mended.cls ≠ "java/lang/invoke/MethodHandle" ∧ yX5_mended.cls ≠ "java/lang/invoke/VarHandle" ∧ (parseMethodDescriptor yX5_mended.desc).map (fun d => d.parameters.length) = some 1 := by decide +kernel
theorem ml_Mender_126 : Cond.methodLink "GatePatch$Mender" 126 yX5_unmended ∈ tblG := mem_t 729 (by decide +kernel) rfl
theorem im_X5_unmended : Cond.instanceMethod yX5_unmended ∈ tblG := mem_t 731 (by decide +kernel) rfl
theorem se_X5_unmended : Cond.selects "GatePatch$Mender" yX5_unmended yX5_unmended ∈ tblG := mem_s 11 (by decide +kernel) rfl
theorem cw_X5_unmended : Cond.code yX5_unmended cX5_unmended 5 (Option.some Jvm.ClassFile.FieldType.long) ∈ tblG := mem_t 732 (by decide +kernel) rfl
theorem nd_X5_unmended : yX5_unmended.cls ≠ "java/lang/invoke/MethodHandle" ∧ yX5_unmended.cls ≠ "java/lang/invoke/VarHandle" ∧ (parseMethodDescriptor yX5_unmended.desc).map (fun d => d.parameters.length) = some 1 := by decide +kernel
theorem fl_Mender_137 : FL "GatePatch$Mender" 137 0 0 := ⟨R_Cases, T_Cases, 4, ty_Cases, ci_Cases, by decide, mem_t 137 (by decide +kernel) rfl⟩
theorem ml_Mender_138 : Cond.methodLink "GatePatch$Mender" 138 yX0_isLive ∈ tblG := mem_t 824 (by decide +kernel) rfl
theorem ml_Mender_133 : Cond.methodLink "GatePatch$Mender" 133 yX5_holders ∈ tblG := mem_t 821 (by decide +kernel) rfl
theorem st_X5_holders : Cond.static yX5_holders ∈ tblG := mem_t 822 (by decide +kernel) rfl
theorem cw_X5_holders : Cond.code yX5_holders cX5_holders 7 (Option.some Jvm.ClassFile.FieldType.long) ∈ tblG := mem_t 823 (by decide +kernel) rfl
theorem nd_X5_holders : yX5_holders.cls ≠ "java/lang/invoke/MethodHandle" ∧ yX5_holders.cls ≠ "java/lang/invoke/VarHandle" ∧ (parseMethodDescriptor yX5_holders.desc).map (fun d => d.parameters.length) = some 4 := by decide +kernel
theorem ml_Mender_129 : Cond.methodLink "GatePatch$Mender" 129 yX5_firstMisjudgedIn ∈ tblG := mem_t 817 (by decide +kernel) rfl
theorem im_X5_firstMisjudgedIn : Cond.instanceMethod yX5_firstMisjudgedIn ∈ tblG := mem_t 819 (by decide +kernel) rfl
theorem se_X5_firstMisjudgedIn : Cond.selects "GatePatch$Mender" yX5_firstMisjudgedIn yX5_firstMisjudgedIn ∈ tblG := mem_s 17 (by decide +kernel) rfl
theorem cw_X5_firstMisjudgedIn : Cond.code yX5_firstMisjudgedIn cX5_firstMisjudgedIn 7 (Option.some Jvm.ClassFile.FieldType.int) ∈ tblG := mem_t 820 (by decide +kernel) rfl
theorem nd_X5_firstMisjudgedIn : yX5_firstMisjudgedIn.cls ≠ "java/lang/invoke/MethodHandle" ∧ yX5_firstMisjudgedIn.cls ≠ "java/lang/invoke/VarHandle" ∧ (parseMethodDescriptor yX5_firstMisjudgedIn.desc).map (fun d => d.parameters.length) = some 3 := by decide +kernel
theorem fp_Mender_154 : FP "GatePatch$Mender" 154 4 11 .int := ⟨R_Mender, T_Mender, 13, ty_Mender, ci_Mender, by decide, mem_t 176 (by decide +kernel) rfl, rfl, rfl⟩
theorem fp_Mender_157 : FP "GatePatch$Mender" 157 4 12 .int := ⟨R_Mender, T_Mender, 13, ty_Mender, ci_Mender, by decide, mem_t 177 (by decide +kernel) rfl, rfl, rfl⟩
theorem fl_Mender_22 : FL "GatePatch$Mender" 22 4 10 := ⟨R_Mender, T_Mender, 13, ty_Mender, ci_Mender, by decide, mem_t 175 (by decide +kernel) rfl⟩
theorem fl_Mender_154 : FL "GatePatch$Mender" 154 4 11 := ⟨R_Mender, T_Mender, 13, ty_Mender, ci_Mender, by decide, mem_t 176 (by decide +kernel) rfl⟩
theorem ml_Mender_160 : Cond.methodLink "GatePatch$Mender" 160 yX5_aim ∈ tblG := mem_t 773 (by decide +kernel) rfl
theorem im_X5_aim : Cond.instanceMethod yX5_aim ∈ tblG := mem_t 721 (by decide +kernel) rfl
theorem se_X5_aim : Cond.selects "GatePatch$Mender" yX5_aim yX5_aim ∈ tblG := mem_t 722 (by decide +kernel) rfl
theorem cw_X5_aim : Cond.code yX5_aim cX5_aim 5 (Option.some Jvm.ClassFile.FieldType.boolean) ∈ tblG := mem_t 723 (by decide +kernel) rfl
theorem nd_X5_aim : yX5_aim.cls ≠ "java/lang/invoke/MethodHandle" ∧ yX5_aim.cls ≠ "java/lang/invoke/VarHandle" ∧ (parseMethodDescriptor yX5_aim.desc).map (fun d => d.parameters.length) = some 3 := by decide +kernel
theorem fl_Mender_157 : FL "GatePatch$Mender" 157 4 12 := ⟨R_Mender, T_Mender, 13, ty_Mender, ci_Mender, by decide, mem_t 177 (by decide +kernel) rfl⟩
theorem ml_Mender_147 : Cond.methodLink "GatePatch$Mender" 147 yX8_sources ∈ tblG := mem_t 768 (by decide +kernel) rfl
theorem ml_Mender_150 : Cond.methodLink "GatePatch$Mender" 150 yX5_isEnough ∈ tblG := mem_t 769 (by decide +kernel) rfl
theorem im_X5_isEnough : Cond.instanceMethod yX5_isEnough ∈ tblG := mem_t 771 (by decide +kernel) rfl
theorem se_X5_isEnough : Cond.selects "GatePatch$Mender" yX5_isEnough yX5_isEnough ∈ tblG := mem_s 15 (by decide +kernel) rfl
theorem cw_X5_isEnough : Cond.code yX5_isEnough cX5_isEnough 5 (Option.some Jvm.ClassFile.FieldType.boolean) ∈ tblG := mem_t 772 (by decide +kernel) rfl
theorem nd_X5_isEnough : yX5_isEnough.cls ≠ "java/lang/invoke/MethodHandle" ∧ yX5_isEnough.cls ≠ "java/lang/invoke/VarHandle" ∧ (parseMethodDescriptor yX5_isEnough.desc).map (fun d => d.parameters.length) = some 3 := by decide +kernel
theorem ml_Mender_141 : Cond.methodLink "GatePatch$Mender" 141 yX5_findWrong ∈ tblG := mem_t 760 (by decide +kernel) rfl
theorem im_X5_findWrong : Cond.instanceMethod yX5_findWrong ∈ tblG := mem_t 762 (by decide +kernel) rfl
theorem se_X5_findWrong : Cond.selects "GatePatch$Mender" yX5_findWrong yX5_findWrong ∈ tblG := mem_s 13 (by decide +kernel) rfl
theorem cw_X5_findWrong : Cond.code yX5_findWrong cX5_findWrong 7 (Option.none : Option Jvm.ClassFile.FieldType) ∈ tblG := mem_t 763 (by decide +kernel) rfl
theorem nd_X5_findWrong : yX5_findWrong.cls ≠ "java/lang/invoke/MethodHandle" ∧ yX5_findWrong.cls ≠ "java/lang/invoke/VarHandle" ∧ (parseMethodDescriptor yX5_findWrong.desc).map (fun d => d.parameters.length) = some 0 := by decide +kernel
theorem ml_Mender_144 : Cond.methodLink "GatePatch$Mender" 144 yX5_searchSize ∈ tblG := mem_t 764 (by decide +kernel) rfl
theorem im_X5_searchSize : Cond.instanceMethod yX5_searchSize ∈ tblG := mem_t 766 (by decide +kernel) rfl
theorem se_X5_searchSize : Cond.selects "GatePatch$Mender" yX5_searchSize yX5_searchSize ∈ tblG := mem_s 14 (by decide +kernel) rfl
theorem cw_X5_searchSize : Cond.code yX5_searchSize cX5_searchSize 6 (Option.some Jvm.ClassFile.FieldType.boolean) ∈ tblG := mem_t 767 (by decide +kernel) rfl
theorem nd_X5_searchSize : yX5_searchSize.cls ≠ "java/lang/invoke/MethodHandle" ∧ yX5_searchSize.cls ≠ "java/lang/invoke/VarHandle" ∧ (parseMethodDescriptor yX5_searchSize.desc).map (fun d => d.parameters.length) = some 1 := by decide +kernel
theorem dX5_aim_0 : decode cX5_aim 0 = .ok (.aload_n 0, 1) := by decide +kernel
theorem dX5_aim_1 : decode cX5_aim 1 = .ok (.getfield 25, 3) := by decide +kernel
theorem dX5_aim_4 : decode cX5_aim 4 = .ok (.getfield 36, 3) := by decide +kernel
theorem dX5_aim_7 : decode cX5_aim 7 = .ok (.iload_n 1, 1) := by decide +kernel
theorem dX5_aim_8 : decode cX5_aim 8 = .ok (.invokevirtual 42, 3) := by decide +kernel
theorem dX5_aim_11 : decode cX5_aim 11 = .ok (.ifCond .ne 5, 3) := by decide +kernel
theorem dX5_aim_14 : decode cX5_aim 14 = .ok (.iconst 0, 1) := by decide +kernel
theorem dX5_aim_15 : decode cX5_aim 15 = .ok (.ireturn, 1) := by decide +kernel
theorem dX5_aim_16 : decode cX5_aim 16 = .ok (.iload_n 2, 1) := by decide +kernel
theorem dX5_aim_17 : decode cX5_aim 17 = .ok (.iconst (-1), 1) := by decide +kernel
theorem dX5_aim_18 : decode cX5_aim 18 = .ok (.if_icmp .ne 11, 3) := by decide +kernel
theorem dX5_aim_21 : decode cX5_aim 21 = .ok (.iload_n 3, 1) := by decide +kernel
theorem dX5_aim_22 : decode cX5_aim 22 = .ok (.iconst (-1), 1) := by decide +kernel
theorem dX5_aim_23 : decode cX5_aim 23 = .ok (.if_icmp .eq 27, 3) := by decide +kernel
theorem dX5_aim_26 : decode cX5_aim 26 = .ok (.goto 22, 3) := by decide +kernel
theorem dX5_aim_29 : decode cX5_aim 29 = .ok (.iload_n 2, 1) := by decide +kernel
theorem dX5_aim_30 : decode cX5_aim 30 = .ok (.iload_n 1, 1) := by decide +kernel
theorem dX5_aim_31 : decode cX5_aim 31 = .ok (.if_icmp .le 17, 3) := by decide +kernel
theorem dX5_aim_34 : decode cX5_aim 34 = .ok (.aload_n 0, 1) := by decide +kernel
theorem dX5_aim_35 : decode cX5_aim 35 = .ok (.getfield 25, 3) := by decide +kernel
theorem dX5_aim_38 : decode cX5_aim 38 = .ok (.getfield 36, 3) := by decide +kernel
theorem dX5_aim_41 : decode cX5_aim 41 = .ok (.iload_n 2, 1) := by decide +kernel
theorem dX5_aim_42 : decode cX5_aim 42 = .ok (.invokevirtual 42, 3) := by decide +kernel
theorem dX5_aim_45 : decode cX5_aim 45 = .ok (.ifCond .ne 5, 3) := by decide +kernel
theorem dX5_aim_48 : decode cX5_aim 48 = .ok (.iconst 0, 1) := by decide +kernel
theorem dX5_aim_49 : decode cX5_aim 49 = .ok (.ireturn, 1) := by decide +kernel
theorem dX5_aim_50 : decode cX5_aim 50 = .ok (.iload_n 3, 1) := by decide +kernel
theorem dX5_aim_51 : decode cX5_aim 51 = .ok (.iconst (-1), 1) := by decide +kernel
theorem dX5_aim_52 : decode cX5_aim 52 = .ok (.if_icmp .eq 24, 3) := by decide +kernel
theorem dX5_aim_55 : decode cX5_aim 55 = .ok (.iload_n 3, 1) := by decide +kernel
theorem dX5_aim_56 : decode cX5_aim 56 = .ok (.iload_n 2, 1) := by decide +kernel
theorem dX5_aim_57 : decode cX5_aim 57 = .ok (.if_icmp .le 17, 3) := by decide +kernel
theorem dX5_aim_60 : decode cX5_aim 60 = .ok (.aload_n 0, 1) := by decide +kernel
theorem dX5_aim_61 : decode cX5_aim 61 = .ok (.getfield 25, 3) := by decide +kernel
theorem dX5_aim_64 : decode cX5_aim 64 = .ok (.getfield 36, 3) := by decide +kernel
theorem dX5_aim_67 : decode cX5_aim 67 = .ok (.iload_n 3, 1) := by decide +kernel
theorem dX5_aim_68 : decode cX5_aim 68 = .ok (.invokevirtual 42, 3) := by decide +kernel
theorem dX5_aim_71 : decode cX5_aim 71 = .ok (.ifCond .ne 5, 3) := by decide +kernel
theorem dX5_aim_74 : decode cX5_aim 74 = .ok (.iconst 0, 1) := by decide +kernel
theorem dX5_aim_75 : decode cX5_aim 75 = .ok (.ireturn, 1) := by decide +kernel
theorem dX5_aim_76 : decode cX5_aim 76 = .ok (.aload_n 0, 1) := by decide +kernel
theorem dX5_aim_77 : decode cX5_aim 77 = .ok (.getfield 9, 3) := by decide +kernel
theorem dX5_aim_80 : decode cX5_aim 80 = .ok (.iconst 0, 1) := by decide +kernel
theorem dX5_aim_81 : decode cX5_aim 81 = .ok (.iload_n 1, 1) := by decide +kernel
theorem dX5_aim_82 : decode cX5_aim 82 = .ok (.iastore, 1) := by decide +kernel
theorem dX5_aim_83 : decode cX5_aim 83 = .ok (.aload_n 0, 1) := by decide +kernel
theorem dX5_aim_84 : decode cX5_aim 84 = .ok (.getfield 9, 3) := by decide +kernel
theorem dX5_aim_87 : decode cX5_aim 87 = .ok (.iconst 1, 1) := by decide +kernel
theorem dX5_aim_88 : decode cX5_aim 88 = .ok (.iload_n 2, 1) := by decide +kernel
theorem dX5_aim_89 : decode cX5_aim 89 = .ok (.iastore, 1) := by decide +kernel
theorem dX5_aim_90 : decode cX5_aim 90 = .ok (.aload_n 0, 1) := by decide +kernel
theorem dX5_aim_91 : decode cX5_aim 91 = .ok (.getfield 9, 3) := by decide +kernel
theorem dX5_aim_94 : decode cX5_aim 94 = .ok (.iconst 2, 1) := by decide +kernel
theorem dX5_aim_95 : decode cX5_aim 95 = .ok (.iload_n 3, 1) := by decide +kernel
theorem dX5_aim_96 : decode cX5_aim 96 = .ok (.iastore, 1) := by decide +kernel
theorem dX5_aim_97 : decode cX5_aim 97 = .ok (.aload_n 0, 1) := by decide +kernel
theorem dX5_aim_98 : decode cX5_aim 98 = .ok (.iload_n 2, 1) := by decide +kernel
theorem dX5_aim_99 : decode cX5_aim 99 = .ok (.iconst (-1), 1) := by decide +kernel
theorem dX5_aim_100 : decode cX5_aim 100 = .ok (.if_icmp .ne 7, 3) := by decide +kernel
theorem dX5_aim_103 : decode cX5_aim 103 = .ok (.iconst 1, 1) := by decide +kernel
theorem dX5_aim_104 : decode cX5_aim 104 = .ok (.goto 13, 3) := by decide +kernel
theorem dX5_aim_107 : decode cX5_aim 107 = .ok (.iload_n 3, 1) := by decide +kernel
theorem dX5_aim_108 : decode cX5_aim 108 = .ok (.iconst (-1), 1) := by decide +kernel
theorem dX5_aim_109 : decode cX5_aim 109 = .ok (.if_icmp .ne 7, 3) := by decide +kernel
theorem dX5_aim_112 : decode cX5_aim 112 = .ok (.iconst 2, 1) := by decide +kernel
theorem dX5_aim_113 : decode cX5_aim 113 = .ok (.goto 4, 3) := by decide +kernel
theorem dX5_aim_116 : decode cX5_aim 116 = .ok (.iconst 3, 1) := by decide +kernel
theorem dX5_aim_117 : decode cX5_aim 117 = .ok (.putfield 48, 3) := by decide +kernel
theorem dX5_aim_120 : decode cX5_aim 120 = .ok (.aload_n 0, 1) := by decide +kernel
theorem dX5_aim_121 : decode cX5_aim 121 = .ok (.lconst 0, 1) := by decide +kernel
theorem dX5_aim_122 : decode cX5_aim 122 = .ok (.putfield 52, 3) := by decide +kernel
theorem dX5_aim_125 : decode cX5_aim 125 = .ok (.iconst 0, 1) := by decide +kernel
theorem dX5_aim_126 : decode cX5_aim 126 = .ok (.istore 4, 2) := by decide +kernel
theorem dX5_aim_128 : decode cX5_aim 128 = .ok (.iload 4, 2) := by decide +kernel
theorem dX5_aim_130 : decode cX5_aim 130 = .ok (.aload_n 0, 1) := by decide +kernel
theorem dX5_aim_131 : decode cX5_aim 131 = .ok (.getfield 48, 3) := by decide +kernel
theorem dX5_aim_134 : decode cX5_aim 134 = .ok (.if_icmp .ge 27, 3) := by decide +kernel
theorem dX5_aim_137 : decode cX5_aim 137 = .ok (.aload_n 0, 1) := by decide +kernel
theorem dX5_aim_138 : decode cX5_aim 138 = .ok (.dup, 1) := by decide +kernel
theorem dX5_aim_139 : decode cX5_aim 139 = .ok (.getfield 52, 3) := by decide +kernel
theorem dX5_aim_142 : decode cX5_aim 142 = .ok (.lconst 1, 1) := by decide +kernel
theorem dX5_aim_143 : decode cX5_aim 143 = .ok (.aload_n 0, 1) := by decide +kernel
theorem dX5_aim_144 : decode cX5_aim 144 = .ok (.getfield 9, 3) := by decide +kernel
theorem dX5_aim_147 : decode cX5_aim 147 = .ok (.iload 4, 2) := by decide +kernel
theorem dX5_aim_149 : decode cX5_aim 149 = .ok (.iaload, 1) := by decide +kernel
theorem dX5_aim_150 : decode cX5_aim 150 = .ok (.lshl, 1) := by decide +kernel
theorem dX5_aim_151 : decode cX5_aim 151 = .ok (.lor, 1) := by decide +kernel
theorem dX5_aim_152 : decode cX5_aim 152 = .ok (.putfield 52, 3) := by decide +kernel
theorem dX5_aim_155 : decode cX5_aim 155 = .ok (.iinc 4 1, 3) := by decide +kernel
theorem dX5_aim_158 : decode cX5_aim 158 = .ok (.goto (-30), 3) := by decide +kernel
theorem dX5_aim_161 : decode cX5_aim 161 = .ok (.iconst 1, 1) := by decide +kernel
theorem dX5_aim_162 : decode cX5_aim 162 = .ok (.ireturn, 1) := by decide +kernel
theorem dX5_assignments_0 : decode cX5_assignments 0 = .ok (.iconst 1, 1) := by decide +kernel
theorem dX5_assignments_1 : decode cX5_assignments 1 = .ok (.aload_n 0, 1) := by decide +kernel
theorem dX5_assignments_2 : decode cX5_assignments 2 = .ok (.getfield 48, 3) := by decide +kernel
theorem dX5_assignments_5 : decode cX5_assignments 5 = .ok (.ishl, 1) := by decide +kernel
theorem dX5_assignments_6 : decode cX5_assignments 6 = .ok (.ireturn, 1) := by decide +kernel
theorem dX5_difference_0 : decode cX5_difference 0 = .ok (.lconst 0, 1) := by decide +kernel
theorem dX5_difference_1 : decode cX5_difference 1 = .ok (.lstore_n 2, 1) := by decide +kernel
theorem dX5_difference_2 : decode cX5_difference 2 = .ok (.iconst 0, 1) := by decide +kernel
theorem dX5_difference_3 : decode cX5_difference 3 = .ok (.istore 4, 2) := by decide +kernel
theorem dX5_difference_5 : decode cX5_difference 5 = .ok (.iload 4, 2) := by decide +kernel
theorem dX5_difference_7 : decode cX5_difference 7 = .ok (.aload_n 0, 1) := by decide +kernel
theorem dX5_difference_8 : decode cX5_difference 8 = .ok (.getfield 25, 3) := by decide +kernel
theorem dX5_difference_11 : decode cX5_difference 11 = .ok (.getfield 36, 3) := by decide +kernel
theorem dX5_difference_14 : decode cX5_difference 14 = .ok (.invokevirtual 56, 3) := by decide +kernel
theorem dX5_difference_17 : decode cX5_difference 17 = .ok (.if_icmp .ge 63, 3) := by decide +kernel
theorem dX5_difference_20 : decode cX5_difference 20 = .ok (.lload_n 2, 1) := by decide +kernel
theorem dX5_difference_21 : decode cX5_difference 21 = .ok (.aload_n 0, 1) := by decide +kernel
theorem dX5_difference_22 : decode cX5_difference 22 = .ok (.getfield 25, 3) := by decide +kernel
theorem dX5_difference_25 : decode cX5_difference 25 = .ok (.getfield 60, 3) := by decide +kernel
theorem dX5_difference_28 : decode cX5_difference 28 = .ok (.iconst 4, 1) := by decide +kernel
theorem dX5_difference_29 : decode cX5_difference 29 = .ok (.aload_n 0, 1) := by decide +kernel
theorem dX5_difference_30 : decode cX5_difference 30 = .ok (.getfield 25, 3) := by decide +kernel
theorem dX5_difference_33 : decode cX5_difference 33 = .ok (.getfield 36, 3) := by decide +kernel
theorem dX5_difference_36 : decode cX5_difference 36 = .ok (.getfield 63, 3) := by decide +kernel
theorem dX5_difference_39 : decode cX5_difference 39 = .ok (.iload 4, 2) := by decide +kernel
theorem dX5_difference_41 : decode cX5_difference 41 = .ok (.iaload, 1) := by decide +kernel
theorem dX5_difference_42 : decode cX5_difference 42 = .ok (.imul, 1) := by decide +kernel
theorem dX5_difference_43 : decode cX5_difference 43 = .ok (.iload_n 1, 1) := by decide +kernel
theorem dX5_difference_44 : decode cX5_difference 44 = .ok (.iadd, 1) := by decide +kernel
theorem dX5_difference_45 : decode cX5_difference 45 = .ok (.laload, 1) := by decide +kernel
theorem dX5_difference_46 : decode cX5_difference 46 = .ok (.aload_n 0, 1) := by decide +kernel
theorem dX5_difference_47 : decode cX5_difference 47 = .ok (.getfield 29, 3) := by decide +kernel
theorem dX5_difference_50 : decode cX5_difference 50 = .ok (.getfield 60, 3) := by decide +kernel
theorem dX5_difference_53 : decode cX5_difference 53 = .ok (.iconst 4, 1) := by decide +kernel
theorem dX5_difference_54 : decode cX5_difference 54 = .ok (.aload_n 0, 1) := by decide +kernel
theorem dX5_difference_55 : decode cX5_difference 55 = .ok (.getfield 29, 3) := by decide +kernel
theorem dX5_difference_58 : decode cX5_difference 58 = .ok (.getfield 36, 3) := by decide +kernel
theorem dX5_difference_61 : decode cX5_difference 61 = .ok (.getfield 63, 3) := by decide +kernel
theorem dX5_difference_64 : decode cX5_difference 64 = .ok (.iload 4, 2) := by decide +kernel
theorem dX5_difference_66 : decode cX5_difference 66 = .ok (.iaload, 1) := by decide +kernel
theorem dX5_difference_67 : decode cX5_difference 67 = .ok (.imul, 1) := by decide +kernel
theorem dX5_difference_68 : decode cX5_difference 68 = .ok (.iload_n 1, 1) := by decide +kernel
theorem dX5_difference_69 : decode cX5_difference 69 = .ok (.iadd, 1) := by decide +kernel
theorem dX5_difference_70 : decode cX5_difference 70 = .ok (.laload, 1) := by decide +kernel
theorem dX5_difference_71 : decode cX5_difference 71 = .ok (.lxor, 1) := by decide +kernel
theorem dX5_difference_72 : decode cX5_difference 72 = .ok (.lor, 1) := by decide +kernel
theorem dX5_difference_73 : decode cX5_difference 73 = .ok (.lstore_n 2, 1) := by decide +kernel
theorem dX5_difference_74 : decode cX5_difference 74 = .ok (.iinc 4 1, 3) := by decide +kernel
theorem dX5_difference_77 : decode cX5_difference 77 = .ok (.goto (-72), 3) := by decide +kernel
theorem dX5_difference_80 : decode cX5_difference 80 = .ok (.lload_n 2, 1) := by decide +kernel
theorem dX5_difference_81 : decode cX5_difference 81 = .ok (.aload_n 0, 1) := by decide +kernel
theorem dX5_difference_82 : decode cX5_difference 82 = .ok (.getfield 32, 3) := by decide +kernel
theorem dX5_difference_85 : decode cX5_difference 85 = .ok (.getfield 66, 3) := by decide +kernel
theorem dX5_difference_88 : decode cX5_difference 88 = .ok (.iload_n 1, 1) := by decide +kernel
theorem dX5_difference_89 : decode cX5_difference 89 = .ok (.laload, 1) := by decide +kernel
theorem dX5_difference_90 : decode cX5_difference 90 = .ok (.land, 1) := by decide +kernel
theorem dX5_difference_91 : decode cX5_difference 91 = .ok (.lreturn, 1) := by decide +kernel
theorem dX5_firstDifference_0 : decode cX5_firstDifference 0 = .ok (.iconst 0, 1) := by decide +kernel
theorem dX5_firstDifference_1 : decode cX5_firstDifference 1 = .ok (.istore_n 1, 1) := by decide +kernel
theorem dX5_firstDifference_2 : decode cX5_firstDifference 2 = .ok (.iload_n 1, 1) := by decide +kernel
theorem dX5_firstDifference_3 : decode cX5_firstDifference 3 = .ok (.aload_n 0, 1) := by decide +kernel
theorem dX5_firstDifference_4 : decode cX5_firstDifference 4 = .ok (.getfield 32, 3) := by decide +kernel
theorem dX5_firstDifference_7 : decode cX5_firstDifference 7 = .ok (.getfield 71, 3) := by decide +kernel
theorem dX5_firstDifference_10 : decode cX5_firstDifference 10 = .ok (.if_icmp .ge 27, 3) := by decide +kernel
theorem dX5_firstDifference_13 : decode cX5_firstDifference 13 = .ok (.aload_n 0, 1) := by decide +kernel
theorem dX5_firstDifference_14 : decode cX5_firstDifference 14 = .ok (.iload_n 1, 1) := by decide +kernel
theorem dX5_firstDifference_15 : decode cX5_firstDifference 15 = .ok (.invokevirtual 74, 3) := by decide +kernel
theorem dX5_firstDifference_18 : decode cX5_firstDifference 18 = .ok (.lstore_n 2, 1) := by decide +kernel
theorem dX5_firstDifference_19 : decode cX5_firstDifference 19 = .ok (.lload_n 2, 1) := by decide +kernel
theorem dX5_firstDifference_20 : decode cX5_firstDifference 20 = .ok (.lconst 0, 1) := by decide +kernel
theorem dX5_firstDifference_21 : decode cX5_firstDifference 21 = .ok (.lcmp, 1) := by decide +kernel
theorem dX5_firstDifference_22 : decode cX5_firstDifference 22 = .ok (.ifCond .eq 9, 3) := by decide +kernel
theorem dX5_firstDifference_25 : decode cX5_firstDifference 25 = .ok (.iload_n 1, 1) := by decide +kernel
theorem dX5_firstDifference_26 : decode cX5_firstDifference 26 = .ok (.lload_n 2, 1) := by decide +kernel
theorem dX5_firstDifference_27 : decode cX5_firstDifference 27 = .ok (.invokestatic 78, 3) := by decide +kernel
theorem dX5_firstDifference_30 : decode cX5_firstDifference 30 = .ok (.ireturn, 1) := by decide +kernel
theorem dX5_firstDifference_31 : decode cX5_firstDifference 31 = .ok (.iinc 1 1, 3) := by decide +kernel
theorem dX5_firstDifference_34 : decode cX5_firstDifference 34 = .ok (.goto (-32), 3) := by decide +kernel
theorem dX5_firstDifference_37 : decode cX5_firstDifference 37 = .ok (.sipush 1000, 3) := by decide +kernel
theorem dX5_firstDifference_40 : decode cX5_firstDifference 40 = .ok (.ireturn, 1) := by decide +kernel
theorem dX5_load_0 : decode cX5_load 0 = .ok (.iconst 0, 1) := by decide +kernel
theorem dX5_load_1 : decode cX5_load 1 = .ok (.istore_n 2, 1) := by decide +kernel
theorem dX5_load_2 : decode cX5_load 2 = .ok (.iload_n 2, 1) := by decide +kernel
theorem dX5_load_3 : decode cX5_load 3 = .ok (.aload_n 0, 1) := by decide +kernel
theorem dX5_load_4 : decode cX5_load 4 = .ok (.getfield 25, 3) := by decide +kernel
theorem dX5_load_7 : decode cX5_load 7 = .ok (.getfield 36, 3) := by decide +kernel
theorem dX5_load_10 : decode cX5_load 10 = .ok (.invokevirtual 82, 3) := by decide +kernel
theorem dX5_load_13 : decode cX5_load 13 = .ok (.if_icmp .ge 28, 3) := by decide +kernel
theorem dX5_load_16 : decode cX5_load 16 = .ok (.aload_n 0, 1) := by decide +kernel
theorem dX5_load_17 : decode cX5_load 17 = .ok (.getfield 15, 3) := by decide +kernel
theorem dX5_load_20 : decode cX5_load 20 = .ok (.iload_n 2, 1) := by decide +kernel
theorem dX5_load_21 : decode cX5_load 21 = .ok (.aload_n 0, 1) := by decide +kernel
theorem dX5_load_22 : decode cX5_load 22 = .ok (.getfield 25, 3) := by decide +kernel
theorem dX5_load_25 : decode cX5_load 25 = .ok (.getfield 60, 3) := by decide +kernel
theorem dX5_load_28 : decode cX5_load 28 = .ok (.iconst 4, 1) := by decide +kernel
theorem dX5_load_29 : decode cX5_load 29 = .ok (.iload_n 2, 1) := by decide +kernel
theorem dX5_load_30 : decode cX5_load 30 = .ok (.imul, 1) := by decide +kernel
theorem dX5_load_31 : decode cX5_load 31 = .ok (.iload_n 1, 1) := by decide +kernel
theorem dX5_load_32 : decode cX5_load 32 = .ok (.iadd, 1) := by decide +kernel
theorem dX5_load_33 : decode cX5_load 33 = .ok (.laload, 1) := by decide +kernel
theorem dX5_load_34 : decode cX5_load 34 = .ok (.lastore, 1) := by decide +kernel
theorem dX5_load_35 : decode cX5_load 35 = .ok (.iinc 2 1, 3) := by decide +kernel
theorem dX5_load_38 : decode cX5_load 38 = .ok (.goto (-36), 3) := by decide +kernel
theorem dX5_load_41 : decode cX5_load 41 = .ok (.aload_n 0, 1) := by decide +kernel
theorem dX5_load_42 : decode cX5_load 42 = .ok (.iconst 0, 1) := by decide +kernel
theorem dX5_load_43 : decode cX5_load 43 = .ok (.putfield 85, 3) := by decide +kernel
theorem dX5_load_46 : decode cX5_load 46 = .ok (.iconst 0, 1) := by decide +kernel
theorem dX5_load_47 : decode cX5_load 47 = .ok (.istore_n 2, 1) := by decide +kernel
theorem dX5_load_48 : decode cX5_load 48 = .ok (.iload_n 2, 1) := by decide +kernel
theorem dX5_load_49 : decode cX5_load 49 = .ok (.aload_n 0, 1) := by decide +kernel
theorem dX5_load_50 : decode cX5_load 50 = .ok (.getfield 25, 3) := by decide +kernel
theorem dX5_load_53 : decode cX5_load 53 = .ok (.getfield 36, 3) := by decide +kernel
theorem dX5_load_56 : decode cX5_load 56 = .ok (.getfield 88, 3) := by decide +kernel
theorem dX5_load_59 : decode cX5_load 59 = .ok (.if_icmp .ge 71, 3) := by decide +kernel
theorem dX5_load_62 : decode cX5_load 62 = .ok (.aload_n 0, 1) := by decide +kernel
theorem dX5_load_63 : decode cX5_load 63 = .ok (.getfield 25, 3) := by decide +kernel
theorem dX5_load_66 : decode cX5_load 66 = .ok (.getfield 91, 3) := by decide +kernel
theorem dX5_load_69 : decode cX5_load 69 = .ok (.iload_n 2, 1) := by decide +kernel
theorem dX5_load_70 : decode cX5_load 70 = .ok (.iaload, 1) := by decide +kernel
theorem dX5_load_71 : decode cX5_load 71 = .ok (.istore_n 3, 1) := by decide +kernel
theorem dX5_load_72 : decode cX5_load 72 = .ok (.aload_n 0, 1) := by decide +kernel
theorem dX5_load_73 : decode cX5_load 73 = .ok (.getfield 25, 3) := by decide +kernel
theorem dX5_load_76 : decode cX5_load 76 = .ok (.getfield 94, 3) := by decide +kernel
theorem dX5_load_79 : decode cX5_load 79 = .ok (.iload_n 3, 1) := by decide +kernel
theorem dX5_load_80 : decode cX5_load 80 = .ok (.laload, 1) := by decide +kernel
theorem dX5_load_81 : decode cX5_load 81 = .ok (.aload_n 0, 1) := by decide +kernel
theorem dX5_load_82 : decode cX5_load 82 = .ok (.getfield 52, 3) := by decide +kernel
theorem dX5_load_85 : decode cX5_load 85 = .ok (.land, 1) := by decide +kernel
theorem dX5_load_86 : decode cX5_load 86 = .ok (.lconst 0, 1) := by decide +kernel
theorem dX5_load_87 : decode cX5_load 87 = .ok (.lcmp, 1) := by decide +kernel
theorem dX5_load_88 : decode cX5_load 88 = .ok (.ifCond .eq 36, 3) := by decide +kernel
theorem dX5_load_91 : decode cX5_load 91 = .ok (.aload_n 0, 1) := by decide +kernel
theorem dX5_load_92 : decode cX5_load 92 = .ok (.getfield 52, 3) := by decide +kernel
theorem dX5_load_95 : decode cX5_load 95 = .ok (.iload_n 3, 1) := by decide +kernel
theorem dX5_load_96 : decode cX5_load 96 = .ok (.lshr, 1) := by decide +kernel
theorem dX5_load_97 : decode cX5_load 97 = .ok (.lconst 1, 1) := by decide +kernel
theorem dX5_load_98 : decode cX5_load 98 = .ok (.land, 1) := by decide +kernel
theorem dX5_load_99 : decode cX5_load 99 = .ok (.lconst 0, 1) := by decide +kernel
theorem dX5_load_100 : decode cX5_load 100 = .ok (.lcmp, 1) := by decide +kernel
theorem dX5_load_101 : decode cX5_load 101 = .ok (.ifCond .ne 23, 3) := by decide +kernel
theorem dX5_load_104 : decode cX5_load 104 = .ok (.aload_n 0, 1) := by decide +kernel
theorem dX5_load_105 : decode cX5_load 105 = .ok (.getfield 19, 3) := by decide +kernel
theorem dX5_load_108 : decode cX5_load 108 = .ok (.aload_n 0, 1) := by decide +kernel
theorem dX5_load_109 : decode cX5_load 109 = .ok (.getfield 85, 3) := by decide +kernel
theorem dX5_load_112 : decode cX5_load 112 = .ok (.iload_n 3, 1) := by decide +kernel
theorem dX5_load_113 : decode cX5_load 113 = .ok (.iastore, 1) := by decide +kernel
theorem dX5_load_114 : decode cX5_load 114 = .ok (.aload_n 0, 1) := by decide +kernel
theorem dX5_load_115 : decode cX5_load 115 = .ok (.dup, 1) := by decide +kernel
theorem dX5_load_116 : decode cX5_load 116 = .ok (.getfield 85, 3) := by decide +kernel
theorem dX5_load_119 : decode cX5_load 119 = .ok (.iconst 1, 1) := by decide +kernel
theorem dX5_load_120 : decode cX5_load 120 = .ok (.iadd, 1) := by decide +kernel
theorem dX5_load_121 : decode cX5_load 121 = .ok (.putfield 85, 3) := by decide +kernel
theorem dX5_load_124 : decode cX5_load 124 = .ok (.iinc 2 1, 3) := by decide +kernel
theorem dX5_load_127 : decode cX5_load 127 = .ok (.goto (-79), 3) := by decide +kernel
theorem dX5_load_130 : decode cX5_load 130 = .ok (.aload_n 0, 1) := by decide +kernel
theorem dX5_load_131 : decode cX5_load 131 = .ok (.iload_n 1, 1) := by decide +kernel
theorem dX5_load_132 : decode cX5_load 132 = .ok (.putfield 97, 3) := by decide +kernel
theorem dX5_load_135 : decode cX5_load 135 = .ok (.return_, 1) := by decide +kernel
theorem dX5_pinNow_0 : decode cX5_pinNow 0 = .ok (.aload_n 0, 1) := by decide +kernel
theorem dX5_pinNow_1 : decode cX5_pinNow 1 = .ok (.getfield 25, 3) := by decide +kernel
theorem dX5_pinNow_4 : decode cX5_pinNow 4 = .ok (.getfield 36, 3) := by decide +kernel
theorem dX5_pinNow_7 : decode cX5_pinNow 7 = .ok (.getfield 113, 3) := by decide +kernel
theorem dX5_pinNow_10 : decode cX5_pinNow 10 = .ok (.iconst 3, 1) := by decide +kernel
theorem dX5_pinNow_11 : decode cX5_pinNow 11 = .ok (.iload_n 1, 1) := by decide +kernel
theorem dX5_pinNow_12 : decode cX5_pinNow 12 = .ok (.imul, 1) := by decide +kernel
theorem dX5_pinNow_13 : decode cX5_pinNow 13 = .ok (.iload_n 2, 1) := by decide +kernel
theorem dX5_pinNow_14 : decode cX5_pinNow 14 = .ok (.iadd, 1) := by decide +kernel
theorem dX5_pinNow_15 : decode cX5_pinNow 15 = .ok (.iaload, 1) := by decide +kernel
theorem dX5_pinNow_16 : decode cX5_pinNow 16 = .ok (.istore_n 3, 1) := by decide +kernel
theorem dX5_pinNow_17 : decode cX5_pinNow 17 = .ok (.iload_n 3, 1) := by decide +kernel
theorem dX5_pinNow_18 : decode cX5_pinNow 18 = .ok (.ifCond .ge 7, 3) := by decide +kernel
theorem dX5_pinNow_21 : decode cX5_pinNow 21 = .ok (.lconst 0, 1) := by decide +kernel
theorem dX5_pinNow_22 : decode cX5_pinNow 22 = .ok (.goto 9, 3) := by decide +kernel
theorem dX5_pinNow_25 : decode cX5_pinNow 25 = .ok (.aload_n 0, 1) := by decide +kernel
theorem dX5_pinNow_26 : decode cX5_pinNow 26 = .ok (.getfield 15, 3) := by decide +kernel
theorem dX5_pinNow_29 : decode cX5_pinNow 29 = .ok (.iload_n 3, 1) := by decide +kernel
theorem dX5_pinNow_30 : decode cX5_pinNow 30 = .ok (.laload, 1) := by decide +kernel
theorem dX5_pinNow_31 : decode cX5_pinNow 31 = .ok (.lreturn, 1) := by decide +kernel
theorem dX5_mended_0 : decode cX5_mended 0 = .ok (.iconst 0, 1) := by decide +kernel
theorem dX5_mended_1 : decode cX5_mended 1 = .ok (.istore_n 2, 1) := by decide +kernel
theorem dX5_mended_2 : decode cX5_mended 2 = .ok (.iload_n 2, 1) := by decide +kernel
theorem dX5_mended_3 : decode cX5_mended 3 = .ok (.aload_n 0, 1) := by decide +kernel
theorem dX5_mended_4 : decode cX5_mended 4 = .ok (.getfield 48, 3) := by decide +kernel
theorem dX5_mended_7 : decode cX5_mended 7 = .ok (.if_icmp .ge 36, 3) := by decide +kernel
theorem dX5_mended_10 : decode cX5_mended 10 = .ok (.aload_n 0, 1) := by decide +kernel
theorem dX5_mended_11 : decode cX5_mended 11 = .ok (.getfield 15, 3) := by decide +kernel
theorem dX5_mended_14 : decode cX5_mended 14 = .ok (.aload_n 0, 1) := by decide +kernel
theorem dX5_mended_15 : decode cX5_mended 15 = .ok (.getfield 9, 3) := by decide +kernel
theorem dX5_mended_18 : decode cX5_mended 18 = .ok (.iload_n 2, 1) := by decide +kernel
theorem dX5_mended_19 : decode cX5_mended 19 = .ok (.iaload, 1) := by decide +kernel
theorem dX5_mended_20 : decode cX5_mended 20 = .ok (.iload_n 1, 1) := by decide +kernel
theorem dX5_mended_21 : decode cX5_mended 21 = .ok (.iload_n 2, 1) := by decide +kernel
theorem dX5_mended_22 : decode cX5_mended 22 = .ok (.ishr, 1) := by decide +kernel
theorem dX5_mended_23 : decode cX5_mended 23 = .ok (.iconst 1, 1) := by decide +kernel
theorem dX5_mended_24 : decode cX5_mended 24 = .ok (.iand, 1) := by decide +kernel
theorem dX5_mended_25 : decode cX5_mended 25 = .ok (.iconst 1, 1) := by decide +kernel
theorem dX5_mended_26 : decode cX5_mended 26 = .ok (.if_icmp .ne 9, 3) := by decide +kernel
theorem dX5_mended_29 : decode cX5_mended 29 = .ok (.ldc2_w 100, 3) := by decide +kernel
theorem dX5_mended_32 : decode cX5_mended 32 = .ok (.goto 4, 3) := by decide +kernel
theorem dX5_mended_35 : decode cX5_mended 35 = .ok (.lconst 0, 1) := by decide +kernel
theorem dX5_mended_36 : decode cX5_mended 36 = .ok (.lastore, 1) := by decide +kernel
theorem dX5_mended_37 : decode cX5_mended 37 = .ok (.iinc 2 1, 3) := by decide +kernel
theorem dX5_mended_40 : decode cX5_mended 40 = .ok (.goto (-38), 3) := by decide +kernel
theorem dX5_mended_43 : decode cX5_mended 43 = .ok (.iconst 0, 1) := by decide +kernel
theorem dX5_mended_44 : decode cX5_mended 44 = .ok (.istore_n 2, 1) := by decide +kernel
theorem dX5_mended_45 : decode cX5_mended 45 = .ok (.iload_n 2, 1) := by decide +kernel
theorem dX5_mended_46 : decode cX5_mended 46 = .ok (.aload_n 0, 1) := by decide +kernel
theorem dX5_mended_47 : decode cX5_mended 47 = .ok (.getfield 85, 3) := by decide +kernel
theorem dX5_mended_50 : decode cX5_mended 50 = .ok (.if_icmp .ge 55, 3) := by decide +kernel
theorem dX5_mended_53 : decode cX5_mended 53 = .ok (.aload_n 0, 1) := by decide +kernel
theorem dX5_mended_54 : decode cX5_mended 54 = .ok (.getfield 19, 3) := by decide +kernel
theorem dX5_mended_57 : decode cX5_mended 57 = .ok (.iload_n 2, 1) := by decide +kernel
theorem dX5_mended_58 : decode cX5_mended 58 = .ok (.iaload, 1) := by decide +kernel
theorem dX5_mended_59 : decode cX5_mended 59 = .ok (.istore_n 3, 1) := by decide +kernel
theorem dX5_mended_60 : decode cX5_mended 60 = .ok (.aload_n 0, 1) := by decide +kernel
theorem dX5_mended_61 : decode cX5_mended 61 = .ok (.getfield 15, 3) := by decide +kernel
theorem dX5_mended_64 : decode cX5_mended 64 = .ok (.iload_n 3, 1) := by decide +kernel
theorem dX5_mended_65 : decode cX5_mended 65 = .ok (.aload_n 0, 1) := by decide +kernel
theorem dX5_mended_66 : decode cX5_mended 66 = .ok (.getfield 25, 3) := by decide +kernel
theorem dX5_mended_69 : decode cX5_mended 69 = .ok (.getfield 36, 3) := by decide +kernel
theorem dX5_mended_72 : decode cX5_mended 72 = .ok (.getfield 102, 3) := by decide +kernel
theorem dX5_mended_75 : decode cX5_mended 75 = .ok (.iload_n 3, 1) := by decide +kernel
theorem dX5_mended_76 : decode cX5_mended 76 = .ok (.iaload, 1) := by decide +kernel
theorem dX5_mended_77 : decode cX5_mended 77 = .ok (.aload_n 0, 1) := by decide +kernel
theorem dX5_mended_78 : decode cX5_mended 78 = .ok (.iload_n 3, 1) := by decide +kernel
theorem dX5_mended_79 : decode cX5_mended 79 = .ok (.iconst 0, 1) := by decide +kernel
theorem dX5_mended_80 : decode cX5_mended 80 = .ok (.invokevirtual 105, 3) := by decide +kernel
theorem dX5_mended_83 : decode cX5_mended 83 = .ok (.aload_n 0, 1) := by decide +kernel
theorem dX5_mended_84 : decode cX5_mended 84 = .ok (.iload_n 3, 1) := by decide +kernel
theorem dX5_mended_85 : decode cX5_mended 85 = .ok (.iconst 1, 1) := by decide +kernel
theorem dX5_mended_86 : decode cX5_mended 86 = .ok (.invokevirtual 105, 3) := by decide +kernel
theorem dX5_mended_89 : decode cX5_mended 89 = .ok (.aload_n 0, 1) := by decide +kernel
theorem dX5_mended_90 : decode cX5_mended 90 = .ok (.iload_n 3, 1) := by decide +kernel
theorem dX5_mended_91 : decode cX5_mended 91 = .ok (.iconst 2, 1) := by decide +kernel
theorem dX5_mended_92 : decode cX5_mended 92 = .ok (.invokevirtual 105, 3) := by decide +kernel
theorem dX5_mended_95 : decode cX5_mended 95 = .ok (.invokestatic 109, 3) := by decide +kernel
theorem dX5_mended_98 : decode cX5_mended 98 = .ok (.lastore, 1) := by decide +kernel
theorem dX5_mended_99 : decode cX5_mended 99 = .ok (.iinc 2 1, 3) := by decide +kernel
theorem dX5_mended_102 : decode cX5_mended 102 = .ok (.goto (-57), 3) := by decide +kernel
theorem dX5_mended_105 : decode cX5_mended 105 = .ok (.ldc2_w 100, 3) := by decide +kernel
theorem dX5_mended_108 : decode cX5_mended 108 = .ok (.lstore_n 2, 1) := by decide +kernel
theorem dX5_mended_109 : decode cX5_mended 109 = .ok (.iconst 0, 1) := by decide +kernel
theorem dX5_mended_110 : decode cX5_mended 110 = .ok (.istore 4, 2) := by decide +kernel
theorem dX5_mended_112 : decode cX5_mended 112 = .ok (.iload 4, 2) := by decide +kernel
theorem dX5_mended_114 : decode cX5_mended 114 = .ok (.aload_n 0, 1) := by decide +kernel
theorem dX5_mended_115 : decode cX5_mended 115 = .ok (.getfield 25, 3) := by decide +kernel
theorem dX5_mended_118 : decode cX5_mended 118 = .ok (.getfield 36, 3) := by decide +kernel
theorem dX5_mended_121 : decode cX5_mended 121 = .ok (.invokevirtual 56, 3) := by decide +kernel
theorem dX5_mended_124 : decode cX5_mended 124 = .ok (.if_icmp .ge 63, 3) := by decide +kernel
theorem dX5_mended_127 : decode cX5_mended 127 = .ok (.lload_n 2, 1) := by decide +kernel
theorem dX5_mended_128 : decode cX5_mended 128 = .ok (.aload_n 0, 1) := by decide +kernel
theorem dX5_mended_129 : decode cX5_mended 129 = .ok (.getfield 15, 3) := by decide +kernel
theorem dX5_mended_132 : decode cX5_mended 132 = .ok (.aload_n 0, 1) := by decide +kernel
theorem dX5_mended_133 : decode cX5_mended 133 = .ok (.getfield 25, 3) := by decide +kernel
theorem dX5_mended_136 : decode cX5_mended 136 = .ok (.getfield 36, 3) := by decide +kernel
theorem dX5_mended_139 : decode cX5_mended 139 = .ok (.getfield 63, 3) := by decide +kernel
theorem dX5_mended_142 : decode cX5_mended 142 = .ok (.iload 4, 2) := by decide +kernel
theorem dX5_mended_144 : decode cX5_mended 144 = .ok (.iaload, 1) := by decide +kernel
theorem dX5_mended_145 : decode cX5_mended 145 = .ok (.laload, 1) := by decide +kernel
theorem dX5_mended_146 : decode cX5_mended 146 = .ok (.aload_n 0, 1) := by decide +kernel
theorem dX5_mended_147 : decode cX5_mended 147 = .ok (.getfield 29, 3) := by decide +kernel
theorem dX5_mended_150 : decode cX5_mended 150 = .ok (.getfield 60, 3) := by decide +kernel
theorem dX5_mended_153 : decode cX5_mended 153 = .ok (.iconst 4, 1) := by decide +kernel
theorem dX5_mended_154 : decode cX5_mended 154 = .ok (.aload_n 0, 1) := by decide +kernel
theorem dX5_mended_155 : decode cX5_mended 155 = .ok (.getfield 29, 3) := by decide +kernel
theorem dX5_mended_158 : decode cX5_mended 158 = .ok (.getfield 36, 3) := by decide +kernel
theorem dX5_mended_161 : decode cX5_mended 161 = .ok (.getfield 63, 3) := by decide +kernel
theorem dX5_mended_164 : decode cX5_mended 164 = .ok (.iload 4, 2) := by decide +kernel
theorem dX5_mended_166 : decode cX5_mended 166 = .ok (.iaload, 1) := by decide +kernel
theorem dX5_mended_167 : decode cX5_mended 167 = .ok (.imul, 1) := by decide +kernel
theorem dX5_mended_168 : decode cX5_mended 168 = .ok (.aload_n 0, 1) := by decide +kernel
theorem dX5_mended_169 : decode cX5_mended 169 = .ok (.getfield 97, 3) := by decide +kernel
theorem dX5_mended_172 : decode cX5_mended 172 = .ok (.iadd, 1) := by decide +kernel
theorem dX5_mended_173 : decode cX5_mended 173 = .ok (.laload, 1) := by decide +kernel
theorem dX5_mended_174 : decode cX5_mended 174 = .ok (.lxor, 1) := by decide +kernel
theorem dX5_mended_175 : decode cX5_mended 175 = .ok (.ldc2_w 100, 3) := by decide +kernel
theorem dX5_mended_178 : decode cX5_mended 178 = .ok (.lxor, 1) := by decide +kernel
theorem dX5_mended_179 : decode cX5_mended 179 = .ok (.land, 1) := by decide +kernel
theorem dX5_mended_180 : decode cX5_mended 180 = .ok (.lstore_n 2, 1) := by decide +kernel
theorem dX5_mended_181 : decode cX5_mended 181 = .ok (.iinc 4 1, 3) := by decide +kernel
theorem dX5_mended_184 : decode cX5_mended 184 = .ok (.goto (-72), 3) := by decide +kernel
theorem dX5_mended_187 : decode cX5_mended 187 = .ok (.lload_n 2, 1) := by decide +kernel
theorem dX5_mended_188 : decode cX5_mended 188 = .ok (.lreturn, 1) := by decide +kernel
theorem dX5_unmended_0 : decode cX5_unmended 0 = .ok (.aload_n 0, 1) := by decide +kernel
theorem dX5_unmended_1 : decode cX5_unmended 1 = .ok (.getfield 32, 3) := by decide +kernel
theorem dX5_unmended_4 : decode cX5_unmended 4 = .ok (.getfield 66, 3) := by decide +kernel
theorem dX5_unmended_7 : decode cX5_unmended 7 = .ok (.iload_n 1, 1) := by decide +kernel
theorem dX5_unmended_8 : decode cX5_unmended 8 = .ok (.laload, 1) := by decide +kernel
theorem dX5_unmended_9 : decode cX5_unmended 9 = .ok (.lstore_n 2, 1) := by decide +kernel
theorem dX5_unmended_10 : decode cX5_unmended 10 = .ok (.lload_n 2, 1) := by decide +kernel
theorem dX5_unmended_11 : decode cX5_unmended 11 = .ok (.lconst 0, 1) := by decide +kernel
theorem dX5_unmended_12 : decode cX5_unmended 12 = .ok (.lcmp, 1) := by decide +kernel
theorem dX5_unmended_13 : decode cX5_unmended 13 = .ok (.ifCond .ne 5, 3) := by decide +kernel
theorem dX5_unmended_16 : decode cX5_unmended 16 = .ok (.lconst 0, 1) := by decide +kernel
theorem dX5_unmended_17 : decode cX5_unmended 17 = .ok (.lreturn, 1) := by decide +kernel
theorem dX5_unmended_18 : decode cX5_unmended 18 = .ok (.aload_n 0, 1) := by decide +kernel
theorem dX5_unmended_19 : decode cX5_unmended 19 = .ok (.iload_n 1, 1) := by decide +kernel
theorem dX5_unmended_20 : decode cX5_unmended 20 = .ok (.invokevirtual 116, 3) := by decide +kernel
theorem dX5_unmended_23 : decode cX5_unmended 23 = .ok (.iconst 0, 1) := by decide +kernel
theorem dX5_unmended_24 : decode cX5_unmended 24 = .ok (.istore 4, 2) := by decide +kernel
theorem dX5_unmended_26 : decode cX5_unmended 26 = .ok (.iload 4, 2) := by decide +kernel
theorem dX5_unmended_28 : decode cX5_unmended 28 = .ok (.aload_n 0, 1) := by decide +kernel
theorem dX5_unmended_29 : decode cX5_unmended 29 = .ok (.invokevirtual 120, 3) := by decide +kernel
theorem dX5_unmended_32 : decode cX5_unmended 32 = .ok (.if_icmp .ge 28, 3) := by decide +kernel
theorem dX5_unmended_35 : decode cX5_unmended 35 = .ok (.lload_n 2, 1) := by decide +kernel
theorem dX5_unmended_36 : decode cX5_unmended 36 = .ok (.lconst 0, 1) := by decide +kernel
theorem dX5_unmended_37 : decode cX5_unmended 37 = .ok (.lcmp, 1) := by decide +kernel
theorem dX5_unmended_38 : decode cX5_unmended 38 = .ok (.ifCond .eq 22, 3) := by decide +kernel
theorem dX5_unmended_41 : decode cX5_unmended 41 = .ok (.lload_n 2, 1) := by decide +kernel
theorem dX5_unmended_42 : decode cX5_unmended 42 = .ok (.aload_n 0, 1) := by decide +kernel
theorem dX5_unmended_43 : decode cX5_unmended 43 = .ok (.iload 4, 2) := by decide +kernel
theorem dX5_unmended_45 : decode cX5_unmended 45 = .ok (.invokevirtual 123, 3) := by decide +kernel
theorem dX5_unmended_48 : decode cX5_unmended 48 = .ok (.ldc2_w 100, 3) := by decide +kernel
theorem dX5_unmended_51 : decode cX5_unmended 51 = .ok (.lxor, 1) := by decide +kernel
theorem dX5_unmended_52 : decode cX5_unmended 52 = .ok (.land, 1) := by decide +kernel
theorem dX5_unmended_53 : decode cX5_unmended 53 = .ok (.lstore_n 2, 1) := by decide +kernel
theorem dX5_unmended_54 : decode cX5_unmended 54 = .ok (.iinc 4 1, 3) := by decide +kernel
theorem dX5_unmended_57 : decode cX5_unmended 57 = .ok (.goto (-31), 3) := by decide +kernel
theorem dX5_unmended_60 : decode cX5_unmended 60 = .ok (.lload_n 2, 1) := by decide +kernel
theorem dX5_unmended_61 : decode cX5_unmended 61 = .ok (.lreturn, 1) := by decide +kernel
theorem dX5_firstUnmended_0 : decode cX5_firstUnmended 0 = .ok (.iconst 0, 1) := by decide +kernel
theorem dX5_firstUnmended_1 : decode cX5_firstUnmended 1 = .ok (.istore_n 1, 1) := by decide +kernel
theorem dX5_firstUnmended_2 : decode cX5_firstUnmended 2 = .ok (.iload_n 1, 1) := by decide +kernel
theorem dX5_firstUnmended_3 : decode cX5_firstUnmended 3 = .ok (.aload_n 0, 1) := by decide +kernel
theorem dX5_firstUnmended_4 : decode cX5_firstUnmended 4 = .ok (.getfield 32, 3) := by decide +kernel
theorem dX5_firstUnmended_7 : decode cX5_firstUnmended 7 = .ok (.getfield 71, 3) := by decide +kernel
theorem dX5_firstUnmended_10 : decode cX5_firstUnmended 10 = .ok (.if_icmp .ge 27, 3) := by decide +kernel
theorem dX5_firstUnmended_13 : decode cX5_firstUnmended 13 = .ok (.aload_n 0, 1) := by decide +kernel
theorem dX5_firstUnmended_14 : decode cX5_firstUnmended 14 = .ok (.iload_n 1, 1) := by decide +kernel
theorem dX5_firstUnmended_15 : decode cX5_firstUnmended 15 = .ok (.invokevirtual 126, 3) := by decide +kernel
theorem dX5_firstUnmended_18 : decode cX5_firstUnmended 18 = .ok (.lstore_n 2, 1) := by decide +kernel
theorem dX5_firstUnmended_19 : decode cX5_firstUnmended 19 = .ok (.lload_n 2, 1) := by decide +kernel
theorem dX5_firstUnmended_20 : decode cX5_firstUnmended 20 = .ok (.lconst 0, 1) := by decide +kernel
theorem dX5_firstUnmended_21 : decode cX5_firstUnmended 21 = .ok (.lcmp, 1) := by decide +kernel
theorem dX5_firstUnmended_22 : decode cX5_firstUnmended 22 = .ok (.ifCond .eq 9, 3) := by decide +kernel
theorem dX5_firstUnmended_25 : decode cX5_firstUnmended 25 = .ok (.iload_n 1, 1) := by decide +kernel
theorem dX5_firstUnmended_26 : decode cX5_firstUnmended 26 = .ok (.lload_n 2, 1) := by decide +kernel
theorem dX5_firstUnmended_27 : decode cX5_firstUnmended 27 = .ok (.invokestatic 78, 3) := by decide +kernel
theorem dX5_firstUnmended_30 : decode cX5_firstUnmended 30 = .ok (.ireturn, 1) := by decide +kernel
theorem dX5_firstUnmended_31 : decode cX5_firstUnmended 31 = .ok (.iinc 1 1, 3) := by decide +kernel
theorem dX5_firstUnmended_34 : decode cX5_firstUnmended 34 = .ok (.goto (-32), 3) := by decide +kernel
theorem dX5_firstUnmended_37 : decode cX5_firstUnmended 37 = .ok (.sipush 1000, 3) := by decide +kernel
theorem dX5_firstUnmended_40 : decode cX5_firstUnmended 40 = .ok (.ireturn, 1) := by decide +kernel
theorem dX5_leastMending_0 : decode cX5_leastMending 0 = .ok (.aload_n 0, 1) := by decide +kernel
theorem dX5_leastMending_1 : decode cX5_leastMending 1 = .ok (.iload_n 1, 1) := by decide +kernel
theorem dX5_leastMending_2 : decode cX5_leastMending 2 = .ok (.bipush 64, 2) := by decide +kernel
theorem dX5_leastMending_4 : decode cX5_leastMending 4 = .ok (.idiv, 1) := by decide +kernel
theorem dX5_leastMending_5 : decode cX5_leastMending 5 = .ok (.invokevirtual 116, 3) := by decide +kernel
theorem dX5_leastMending_8 : decode cX5_leastMending 8 = .ok (.iconst 0, 1) := by decide +kernel
theorem dX5_leastMending_9 : decode cX5_leastMending 9 = .ok (.istore_n 2, 1) := by decide +kernel
theorem dX5_leastMending_10 : decode cX5_leastMending 10 = .ok (.iload_n 2, 1) := by decide +kernel
theorem dX5_leastMending_11 : decode cX5_leastMending 11 = .ok (.aload_n 0, 1) := by decide +kernel
theorem dX5_leastMending_12 : decode cX5_leastMending 12 = .ok (.invokevirtual 120, 3) := by decide +kernel
theorem dX5_leastMending_15 : decode cX5_leastMending 15 = .ok (.if_icmp .ge 28, 3) := by decide +kernel
theorem dX5_leastMending_18 : decode cX5_leastMending 18 = .ok (.aload_n 0, 1) := by decide +kernel
theorem dX5_leastMending_19 : decode cX5_leastMending 19 = .ok (.iload_n 2, 1) := by decide +kernel
theorem dX5_leastMending_20 : decode cX5_leastMending 20 = .ok (.invokevirtual 123, 3) := by decide +kernel
theorem dX5_leastMending_23 : decode cX5_leastMending 23 = .ok (.iload_n 1, 1) := by decide +kernel
theorem dX5_leastMending_24 : decode cX5_leastMending 24 = .ok (.bipush 64, 2) := by decide +kernel
theorem dX5_leastMending_26 : decode cX5_leastMending 26 = .ok (.irem, 1) := by decide +kernel
theorem dX5_leastMending_27 : decode cX5_leastMending 27 = .ok (.lshr, 1) := by decide +kernel
theorem dX5_leastMending_28 : decode cX5_leastMending 28 = .ok (.lconst 1, 1) := by decide +kernel
theorem dX5_leastMending_29 : decode cX5_leastMending 29 = .ok (.land, 1) := by decide +kernel
theorem dX5_leastMending_30 : decode cX5_leastMending 30 = .ok (.lconst 1, 1) := by decide +kernel
theorem dX5_leastMending_31 : decode cX5_leastMending 31 = .ok (.lcmp, 1) := by decide +kernel
theorem dX5_leastMending_32 : decode cX5_leastMending 32 = .ok (.ifCond .ne 5, 3) := by decide +kernel
theorem dX5_leastMending_35 : decode cX5_leastMending 35 = .ok (.iload_n 2, 1) := by decide +kernel
theorem dX5_leastMending_36 : decode cX5_leastMending 36 = .ok (.ireturn, 1) := by decide +kernel
theorem dX5_leastMending_37 : decode cX5_leastMending 37 = .ok (.iinc 2 1, 3) := by decide +kernel
theorem dX5_leastMending_40 : decode cX5_leastMending 40 = .ok (.goto (-30), 3) := by decide +kernel
theorem dX5_leastMending_43 : decode cX5_leastMending 43 = .ok (.bipush (-4), 2) := by decide +kernel
theorem dX5_leastMending_45 : decode cX5_leastMending 45 = .ok (.ireturn, 1) := by decide +kernel
theorem dX5_writeLeast_0 : decode cX5_writeLeast 0 = .ok (.iconst 0, 1) := by decide +kernel
theorem dX5_writeLeast_1 : decode cX5_writeLeast 1 = .ok (.istore_n 2, 1) := by decide +kernel
theorem dX5_writeLeast_2 : decode cX5_writeLeast 2 = .ok (.iload_n 2, 1) := by decide +kernel
theorem dX5_writeLeast_3 : decode cX5_writeLeast 3 = .ok (.aload_n 0, 1) := by decide +kernel
theorem dX5_writeLeast_4 : decode cX5_writeLeast 4 = .ok (.getfield 32, 3) := by decide +kernel
theorem dX5_writeLeast_7 : decode cX5_writeLeast 7 = .ok (.getfield 71, 3) := by decide +kernel
theorem dX5_writeLeast_10 : decode cX5_writeLeast 10 = .ok (.if_icmp .ge 101, 3) := by decide +kernel
theorem dX5_writeLeast_13 : decode cX5_writeLeast 13 = .ok (.aload_n 0, 1) := by decide +kernel
theorem dX5_writeLeast_14 : decode cX5_writeLeast 14 = .ok (.iload_n 2, 1) := by decide +kernel
theorem dX5_writeLeast_15 : decode cX5_writeLeast 15 = .ok (.invokevirtual 116, 3) := by decide +kernel
theorem dX5_writeLeast_18 : decode cX5_writeLeast 18 = .ok (.aload_n 0, 1) := by decide +kernel
theorem dX5_writeLeast_19 : decode cX5_writeLeast 19 = .ok (.getfield 32, 3) := by decide +kernel
theorem dX5_writeLeast_22 : decode cX5_writeLeast 22 = .ok (.getfield 66, 3) := by decide +kernel
theorem dX5_writeLeast_25 : decode cX5_writeLeast 25 = .ok (.iload_n 2, 1) := by decide +kernel
theorem dX5_writeLeast_26 : decode cX5_writeLeast 26 = .ok (.laload, 1) := by decide +kernel
theorem dX5_writeLeast_27 : decode cX5_writeLeast 27 = .ok (.lstore_n 3, 1) := by decide +kernel
theorem dX5_writeLeast_28 : decode cX5_writeLeast 28 = .ok (.iconst 0, 1) := by decide +kernel
theorem dX5_writeLeast_29 : decode cX5_writeLeast 29 = .ok (.istore 5, 2) := by decide +kernel
theorem dX5_writeLeast_31 : decode cX5_writeLeast 31 = .ok (.iload 5, 2) := by decide +kernel
theorem dX5_writeLeast_33 : decode cX5_writeLeast 33 = .ok (.aload_n 0, 1) := by decide +kernel
theorem dX5_writeLeast_34 : decode cX5_writeLeast 34 = .ok (.invokevirtual 120, 3) := by decide +kernel
theorem dX5_writeLeast_37 : decode cX5_writeLeast 37 = .ok (.if_icmp .ge 68, 3) := by decide +kernel
theorem dX5_writeLeast_40 : decode cX5_writeLeast 40 = .ok (.aload_n 0, 1) := by decide +kernel
theorem dX5_writeLeast_41 : decode cX5_writeLeast 41 = .ok (.iload 5, 2) := by decide +kernel
theorem dX5_writeLeast_43 : decode cX5_writeLeast 43 = .ok (.invokevirtual 123, 3) := by decide +kernel
theorem dX5_writeLeast_46 : decode cX5_writeLeast 46 = .ok (.lload_n 3, 1) := by decide +kernel
theorem dX5_writeLeast_47 : decode cX5_writeLeast 47 = .ok (.land, 1) := by decide +kernel
theorem dX5_writeLeast_48 : decode cX5_writeLeast 48 = .ok (.lstore 6, 2) := by decide +kernel
theorem dX5_writeLeast_50 : decode cX5_writeLeast 50 = .ok (.iconst 0, 1) := by decide +kernel
theorem dX5_writeLeast_51 : decode cX5_writeLeast 51 = .ok (.istore 8, 2) := by decide +kernel
theorem dX5_writeLeast_53 : decode cX5_writeLeast 53 = .ok (.iload 8, 2) := by decide +kernel
theorem dX5_writeLeast_55 : decode cX5_writeLeast 55 = .ok (.bipush 64, 2) := by decide +kernel
theorem dX5_writeLeast_57 : decode cX5_writeLeast 57 = .ok (.if_icmp .ge 33, 3) := by decide +kernel
theorem dX5_writeLeast_60 : decode cX5_writeLeast 60 = .ok (.lload 6, 2) := by decide +kernel
theorem dX5_writeLeast_62 : decode cX5_writeLeast 62 = .ok (.iload 8, 2) := by decide +kernel
theorem dX5_writeLeast_64 : decode cX5_writeLeast 64 = .ok (.lshr, 1) := by decide +kernel
theorem dX5_writeLeast_65 : decode cX5_writeLeast 65 = .ok (.lconst 1, 1) := by decide +kernel
theorem dX5_writeLeast_66 : decode cX5_writeLeast 66 = .ok (.land, 1) := by decide +kernel
theorem dX5_writeLeast_67 : decode cX5_writeLeast 67 = .ok (.lconst 1, 1) := by decide +kernel
theorem dX5_writeLeast_68 : decode cX5_writeLeast 68 = .ok (.lcmp, 1) := by decide +kernel
theorem dX5_writeLeast_69 : decode cX5_writeLeast 69 = .ok (.ifCond .ne 15, 3) := by decide +kernel
theorem dX5_writeLeast_72 : decode cX5_writeLeast 72 = .ok (.aload_n 1, 1) := by decide +kernel
theorem dX5_writeLeast_73 : decode cX5_writeLeast 73 = .ok (.bipush 64, 2) := by decide +kernel
theorem dX5_writeLeast_75 : decode cX5_writeLeast 75 = .ok (.iload_n 2, 1) := by decide +kernel
theorem dX5_writeLeast_76 : decode cX5_writeLeast 76 = .ok (.imul, 1) := by decide +kernel
theorem dX5_writeLeast_77 : decode cX5_writeLeast 77 = .ok (.iload 8, 2) := by decide +kernel
theorem dX5_writeLeast_79 : decode cX5_writeLeast 79 = .ok (.iadd, 1) := by decide +kernel
theorem dX5_writeLeast_80 : decode cX5_writeLeast 80 = .ok (.iload 5, 2) := by decide +kernel
theorem dX5_writeLeast_82 : decode cX5_writeLeast 82 = .ok (.i2l, 1) := by decide +kernel
theorem dX5_writeLeast_83 : decode cX5_writeLeast 83 = .ok (.lastore, 1) := by decide +kernel
theorem dX5_writeLeast_84 : decode cX5_writeLeast 84 = .ok (.iinc 8 1, 3) := by decide +kernel
theorem dX5_writeLeast_87 : decode cX5_writeLeast 87 = .ok (.goto (-34), 3) := by decide +kernel
theorem dX5_writeLeast_90 : decode cX5_writeLeast 90 = .ok (.lload_n 3, 1) := by decide +kernel
theorem dX5_writeLeast_91 : decode cX5_writeLeast 91 = .ok (.lload 6, 2) := by decide +kernel
theorem dX5_writeLeast_93 : decode cX5_writeLeast 93 = .ok (.ldc2_w 100, 3) := by decide +kernel
theorem dX5_writeLeast_96 : decode cX5_writeLeast 96 = .ok (.lxor, 1) := by decide +kernel
theorem dX5_writeLeast_97 : decode cX5_writeLeast 97 = .ok (.land, 1) := by decide +kernel
theorem dX5_writeLeast_98 : decode cX5_writeLeast 98 = .ok (.lstore_n 3, 1) := by decide +kernel
theorem dX5_writeLeast_99 : decode cX5_writeLeast 99 = .ok (.iinc 5 1, 3) := by decide +kernel
theorem dX5_writeLeast_102 : decode cX5_writeLeast 102 = .ok (.goto (-71), 3) := by decide +kernel
theorem dX5_writeLeast_105 : decode cX5_writeLeast 105 = .ok (.iinc 2 1, 3) := by decide +kernel
theorem dX5_writeLeast_108 : decode cX5_writeLeast 108 = .ok (.goto (-106), 3) := by decide +kernel
theorem dX5_writeLeast_111 : decode cX5_writeLeast 111 = .ok (.return_, 1) := by decide +kernel
theorem dX5_holders_0 : decode cX5_holders 0 = .ok (.lconst 0, 1) := by decide +kernel
theorem dX5_holders_1 : decode cX5_holders 1 = .ok (.lstore 4, 2) := by decide +kernel
theorem dX5_holders_3 : decode cX5_holders 3 = .ok (.iconst 0, 1) := by decide +kernel
theorem dX5_holders_4 : decode cX5_holders 4 = .ok (.istore 6, 2) := by decide +kernel
theorem dX5_holders_6 : decode cX5_holders 6 = .ok (.iload 6, 2) := by decide +kernel
theorem dX5_holders_8 : decode cX5_holders 8 = .ok (.bipush 64, 2) := by decide +kernel
theorem dX5_holders_10 : decode cX5_holders 10 = .ok (.if_icmp .ge 44, 3) := by decide +kernel
theorem dX5_holders_13 : decode cX5_holders 13 = .ok (.bipush 64, 2) := by decide +kernel
theorem dX5_holders_15 : decode cX5_holders 15 = .ok (.iload_n 0, 1) := by decide +kernel
theorem dX5_holders_16 : decode cX5_holders 16 = .ok (.imul, 1) := by decide +kernel
theorem dX5_holders_17 : decode cX5_holders 17 = .ok (.iload 6, 2) := by decide +kernel
theorem dX5_holders_19 : decode cX5_holders 19 = .ok (.iadd, 1) := by decide +kernel
theorem dX5_holders_20 : decode cX5_holders 20 = .ok (.iload_n 2, 1) := by decide +kernel
theorem dX5_holders_21 : decode cX5_holders 21 = .ok (.if_icmp .ge 33, 3) := by decide +kernel
theorem dX5_holders_24 : decode cX5_holders 24 = .ok (.aload_n 1, 1) := by decide +kernel
theorem dX5_holders_25 : decode cX5_holders 25 = .ok (.bipush 64, 2) := by decide +kernel
theorem dX5_holders_27 : decode cX5_holders 27 = .ok (.iload_n 0, 1) := by decide +kernel
theorem dX5_holders_28 : decode cX5_holders 28 = .ok (.imul, 1) := by decide +kernel
theorem dX5_holders_29 : decode cX5_holders 29 = .ok (.iload 6, 2) := by decide +kernel
theorem dX5_holders_31 : decode cX5_holders 31 = .ok (.iadd, 1) := by decide +kernel
theorem dX5_holders_32 : decode cX5_holders 32 = .ok (.laload, 1) := by decide +kernel
theorem dX5_holders_33 : decode cX5_holders 33 = .ok (.iload_n 3, 1) := by decide +kernel
theorem dX5_holders_34 : decode cX5_holders 34 = .ok (.i2l, 1) := by decide +kernel
theorem dX5_holders_35 : decode cX5_holders 35 = .ok (.lcmp, 1) := by decide +kernel
theorem dX5_holders_36 : decode cX5_holders 36 = .ok (.ifCond .ne 12, 3) := by decide +kernel
theorem dX5_holders_39 : decode cX5_holders 39 = .ok (.lload 4, 2) := by decide +kernel
theorem dX5_holders_41 : decode cX5_holders 41 = .ok (.lconst 1, 1) := by decide +kernel
theorem dX5_holders_42 : decode cX5_holders 42 = .ok (.iload 6, 2) := by decide +kernel
theorem dX5_holders_44 : decode cX5_holders 44 = .ok (.lshl, 1) := by decide +kernel
theorem dX5_holders_45 : decode cX5_holders 45 = .ok (.lor, 1) := by decide +kernel
theorem dX5_holders_46 : decode cX5_holders 46 = .ok (.lstore 4, 2) := by decide +kernel
theorem dX5_holders_48 : decode cX5_holders 48 = .ok (.iinc 6 1, 3) := by decide +kernel
theorem dX5_holders_51 : decode cX5_holders 51 = .ok (.goto (-45), 3) := by decide +kernel
theorem dX5_holders_54 : decode cX5_holders 54 = .ok (.lload 4, 2) := by decide +kernel
theorem dX5_holders_56 : decode cX5_holders 56 = .ok (.lreturn, 1) := by decide +kernel
theorem dX5_firstMisjudgedIn_0 : decode cX5_firstMisjudgedIn 0 = .ok (.lconst 0, 1) := by decide +kernel
theorem dX5_firstMisjudgedIn_1 : decode cX5_firstMisjudgedIn 1 = .ok (.lstore 4, 2) := by decide +kernel
theorem dX5_firstMisjudgedIn_3 : decode cX5_firstMisjudgedIn 3 = .ok (.iconst 0, 1) := by decide +kernel
theorem dX5_firstMisjudgedIn_4 : decode cX5_firstMisjudgedIn 4 = .ok (.istore 6, 2) := by decide +kernel
theorem dX5_firstMisjudgedIn_6 : decode cX5_firstMisjudgedIn 6 = .ok (.iload 6, 2) := by decide +kernel
theorem dX5_firstMisjudgedIn_8 : decode cX5_firstMisjudgedIn 8 = .ok (.aload_n 0, 1) := by decide +kernel
theorem dX5_firstMisjudgedIn_9 : decode cX5_firstMisjudgedIn 9 = .ok (.invokevirtual 120, 3) := by decide +kernel
theorem dX5_firstMisjudgedIn_12 : decode cX5_firstMisjudgedIn 12 = .ok (.if_icmp .ge 29, 3) := by decide +kernel
theorem dX5_firstMisjudgedIn_15 : decode cX5_firstMisjudgedIn 15 = .ok (.lload 4, 2) := by decide +kernel
theorem dX5_firstMisjudgedIn_17 : decode cX5_firstMisjudgedIn 17 = .ok (.aload_n 0, 1) := by decide +kernel
theorem dX5_firstMisjudgedIn_18 : decode cX5_firstMisjudgedIn 18 = .ok (.iload 6, 2) := by decide +kernel
theorem dX5_firstMisjudgedIn_20 : decode cX5_firstMisjudgedIn 20 = .ok (.invokevirtual 123, 3) := by decide +kernel
theorem dX5_firstMisjudgedIn_23 : decode cX5_firstMisjudgedIn 23 = .ok (.iload_n 1, 1) := by decide +kernel
theorem dX5_firstMisjudgedIn_24 : decode cX5_firstMisjudgedIn 24 = .ok (.aload_n 2, 1) := by decide +kernel
theorem dX5_firstMisjudgedIn_25 : decode cX5_firstMisjudgedIn 25 = .ok (.iload_n 3, 1) := by decide +kernel
theorem dX5_firstMisjudgedIn_26 : decode cX5_firstMisjudgedIn 26 = .ok (.iload 6, 2) := by decide +kernel
theorem dX5_firstMisjudgedIn_28 : decode cX5_firstMisjudgedIn 28 = .ok (.invokestatic 133, 3) := by decide +kernel
theorem dX5_firstMisjudgedIn_31 : decode cX5_firstMisjudgedIn 31 = .ok (.land, 1) := by decide +kernel
theorem dX5_firstMisjudgedIn_32 : decode cX5_firstMisjudgedIn 32 = .ok (.lor, 1) := by decide +kernel
theorem dX5_firstMisjudgedIn_33 : decode cX5_firstMisjudgedIn 33 = .ok (.lstore 4, 2) := by decide +kernel
theorem dX5_firstMisjudgedIn_35 : decode cX5_firstMisjudgedIn 35 = .ok (.iinc 6 1, 3) := by decide +kernel
theorem dX5_firstMisjudgedIn_38 : decode cX5_firstMisjudgedIn 38 = .ok (.goto (-32), 3) := by decide +kernel
theorem dX5_firstMisjudgedIn_41 : decode cX5_firstMisjudgedIn 41 = .ok (.bipush 64, 2) := by decide +kernel
theorem dX5_firstMisjudgedIn_43 : decode cX5_firstMisjudgedIn 43 = .ok (.iload_n 1, 1) := by decide +kernel
theorem dX5_firstMisjudgedIn_44 : decode cX5_firstMisjudgedIn 44 = .ok (.imul, 1) := by decide +kernel
theorem dX5_firstMisjudgedIn_45 : decode cX5_firstMisjudgedIn 45 = .ok (.istore 6, 2) := by decide +kernel
theorem dX5_firstMisjudgedIn_47 : decode cX5_firstMisjudgedIn 47 = .ok (.iload 6, 2) := by decide +kernel
theorem dX5_firstMisjudgedIn_49 : decode cX5_firstMisjudgedIn 49 = .ok (.aload_n 0, 1) := by decide +kernel
theorem dX5_firstMisjudgedIn_50 : decode cX5_firstMisjudgedIn 50 = .ok (.getfield 32, 3) := by decide +kernel
theorem dX5_firstMisjudgedIn_53 : decode cX5_firstMisjudgedIn 53 = .ok (.getfield 137, 3) := by decide +kernel
theorem dX5_firstMisjudgedIn_56 : decode cX5_firstMisjudgedIn 56 = .ok (.if_icmp .ge 60, 3) := by decide +kernel
theorem dX5_firstMisjudgedIn_59 : decode cX5_firstMisjudgedIn 59 = .ok (.iload 6, 2) := by decide +kernel
theorem dX5_firstMisjudgedIn_61 : decode cX5_firstMisjudgedIn 61 = .ok (.bipush 64, 2) := by decide +kernel
theorem dX5_firstMisjudgedIn_63 : decode cX5_firstMisjudgedIn 63 = .ok (.iload_n 1, 1) := by decide +kernel
theorem dX5_firstMisjudgedIn_64 : decode cX5_firstMisjudgedIn 64 = .ok (.imul, 1) := by decide +kernel
theorem dX5_firstMisjudgedIn_65 : decode cX5_firstMisjudgedIn 65 = .ok (.bipush 64, 2) := by decide +kernel
theorem dX5_firstMisjudgedIn_67 : decode cX5_firstMisjudgedIn 67 = .ok (.iadd, 1) := by decide +kernel
theorem dX5_firstMisjudgedIn_68 : decode cX5_firstMisjudgedIn 68 = .ok (.if_icmp .ge 48, 3) := by decide +kernel
theorem dX5_firstMisjudgedIn_71 : decode cX5_firstMisjudgedIn 71 = .ok (.aload_n 0, 1) := by decide +kernel
theorem dX5_firstMisjudgedIn_72 : decode cX5_firstMisjudgedIn 72 = .ok (.getfield 32, 3) := by decide +kernel
theorem dX5_firstMisjudgedIn_75 : decode cX5_firstMisjudgedIn 75 = .ok (.iload 6, 2) := by decide +kernel
theorem dX5_firstMisjudgedIn_77 : decode cX5_firstMisjudgedIn 77 = .ok (.invokevirtual 138, 3) := by decide +kernel
theorem dX5_firstMisjudgedIn_80 : decode cX5_firstMisjudgedIn 80 = .ok (.ifCond .eq 30, 3) := by decide +kernel
theorem dX5_firstMisjudgedIn_83 : decode cX5_firstMisjudgedIn 83 = .ok (.iload 6, 2) := by decide +kernel
theorem dX5_firstMisjudgedIn_85 : decode cX5_firstMisjudgedIn 85 = .ok (.iload_n 3, 1) := by decide +kernel
theorem dX5_firstMisjudgedIn_86 : decode cX5_firstMisjudgedIn 86 = .ok (.if_icmp .lt 6, 3) := by decide +kernel
theorem dX5_firstMisjudgedIn_89 : decode cX5_firstMisjudgedIn 89 = .ok (.bipush (-13), 2) := by decide +kernel
theorem dX5_firstMisjudgedIn_91 : decode cX5_firstMisjudgedIn 91 = .ok (.ireturn, 1) := by decide +kernel
theorem dX5_firstMisjudgedIn_92 : decode cX5_firstMisjudgedIn 92 = .ok (.lload 4, 2) := by decide +kernel
theorem dX5_firstMisjudgedIn_94 : decode cX5_firstMisjudgedIn 94 = .ok (.iload 6, 2) := by decide +kernel
theorem dX5_firstMisjudgedIn_96 : decode cX5_firstMisjudgedIn 96 = .ok (.bipush 64, 2) := by decide +kernel
theorem dX5_firstMisjudgedIn_98 : decode cX5_firstMisjudgedIn 98 = .ok (.irem, 1) := by decide +kernel
theorem dX5_firstMisjudgedIn_99 : decode cX5_firstMisjudgedIn 99 = .ok (.lshr, 1) := by decide +kernel
theorem dX5_firstMisjudgedIn_100 : decode cX5_firstMisjudgedIn 100 = .ok (.lconst 1, 1) := by decide +kernel
theorem dX5_firstMisjudgedIn_101 : decode cX5_firstMisjudgedIn 101 = .ok (.land, 1) := by decide +kernel
theorem dX5_firstMisjudgedIn_102 : decode cX5_firstMisjudgedIn 102 = .ok (.lconst 0, 1) := by decide +kernel
theorem dX5_firstMisjudgedIn_103 : decode cX5_firstMisjudgedIn 103 = .ok (.lcmp, 1) := by decide +kernel
theorem dX5_firstMisjudgedIn_104 : decode cX5_firstMisjudgedIn 104 = .ok (.ifCond .ne 6, 3) := by decide +kernel
theorem dX5_firstMisjudgedIn_107 : decode cX5_firstMisjudgedIn 107 = .ok (.iload 6, 2) := by decide +kernel
theorem dX5_firstMisjudgedIn_109 : decode cX5_firstMisjudgedIn 109 = .ok (.ireturn, 1) := by decide +kernel
theorem dX5_firstMisjudgedIn_110 : decode cX5_firstMisjudgedIn 110 = .ok (.iinc 6 1, 3) := by decide +kernel
theorem dX5_firstMisjudgedIn_113 : decode cX5_firstMisjudgedIn 113 = .ok (.goto (-66), 3) := by decide +kernel
theorem dX5_firstMisjudgedIn_116 : decode cX5_firstMisjudgedIn 116 = .ok (.sipush 1000, 3) := by decide +kernel
theorem dX5_firstMisjudgedIn_119 : decode cX5_firstMisjudgedIn 119 = .ok (.ireturn, 1) := by decide +kernel
theorem dX5_firstMisjudged_0 : decode cX5_firstMisjudged 0 = .ok (.iconst 0, 1) := by decide +kernel
theorem dX5_firstMisjudged_1 : decode cX5_firstMisjudged 1 = .ok (.istore_n 3, 1) := by decide +kernel
theorem dX5_firstMisjudged_2 : decode cX5_firstMisjudged 2 = .ok (.iload_n 3, 1) := by decide +kernel
theorem dX5_firstMisjudged_3 : decode cX5_firstMisjudged 3 = .ok (.aload_n 0, 1) := by decide +kernel
theorem dX5_firstMisjudged_4 : decode cX5_firstMisjudged 4 = .ok (.getfield 32, 3) := by decide +kernel
theorem dX5_firstMisjudged_7 : decode cX5_firstMisjudged 7 = .ok (.getfield 71, 3) := by decide +kernel
theorem dX5_firstMisjudged_10 : decode cX5_firstMisjudged 10 = .ok (.if_icmp .ge 34, 3) := by decide +kernel
theorem dX5_firstMisjudged_13 : decode cX5_firstMisjudged 13 = .ok (.aload_n 0, 1) := by decide +kernel
theorem dX5_firstMisjudged_14 : decode cX5_firstMisjudged 14 = .ok (.iload_n 3, 1) := by decide +kernel
theorem dX5_firstMisjudged_15 : decode cX5_firstMisjudged 15 = .ok (.invokevirtual 116, 3) := by decide +kernel
theorem dX5_firstMisjudged_18 : decode cX5_firstMisjudged 18 = .ok (.aload_n 0, 1) := by decide +kernel
theorem dX5_firstMisjudged_19 : decode cX5_firstMisjudged 19 = .ok (.iload_n 3, 1) := by decide +kernel
theorem dX5_firstMisjudged_20 : decode cX5_firstMisjudged 20 = .ok (.aload_n 1, 1) := by decide +kernel
theorem dX5_firstMisjudged_21 : decode cX5_firstMisjudged 21 = .ok (.iload_n 2, 1) := by decide +kernel
theorem dX5_firstMisjudged_22 : decode cX5_firstMisjudged 22 = .ok (.invokevirtual 129, 3) := by decide +kernel
theorem dX5_firstMisjudged_25 : decode cX5_firstMisjudged 25 = .ok (.istore 4, 2) := by decide +kernel
theorem dX5_firstMisjudged_27 : decode cX5_firstMisjudged 27 = .ok (.iload 4, 2) := by decide +kernel
theorem dX5_firstMisjudged_29 : decode cX5_firstMisjudged 29 = .ok (.sipush 1000, 3) := by decide +kernel
theorem dX5_firstMisjudged_32 : decode cX5_firstMisjudged 32 = .ok (.if_icmp .eq 6, 3) := by decide +kernel
theorem dX5_firstMisjudged_35 : decode cX5_firstMisjudged 35 = .ok (.iload 4, 2) := by decide +kernel
theorem dX5_firstMisjudged_37 : decode cX5_firstMisjudged 37 = .ok (.ireturn, 1) := by decide +kernel
theorem dX5_firstMisjudged_38 : decode cX5_firstMisjudged 38 = .ok (.iinc 3 1, 3) := by decide +kernel
theorem dX5_firstMisjudged_41 : decode cX5_firstMisjudged 41 = .ok (.goto (-39), 3) := by decide +kernel
theorem dX5_firstMisjudged_44 : decode cX5_firstMisjudged 44 = .ok (.sipush 1000, 3) := by decide +kernel
theorem dX5_firstMisjudged_47 : decode cX5_firstMisjudged 47 = .ok (.ireturn, 1) := by decide +kernel
theorem dX5_findWrong_0 : decode cX5_findWrong 0 = .ok (.aload_n 0, 1) := by decide +kernel
theorem dX5_findWrong_1 : decode cX5_findWrong 1 = .ok (.iconst 0, 1) := by decide +kernel
theorem dX5_findWrong_2 : decode cX5_findWrong 2 = .ok (.putfield 154, 3) := by decide +kernel
theorem dX5_findWrong_5 : decode cX5_findWrong 5 = .ok (.aload_n 0, 1) := by decide +kernel
theorem dX5_findWrong_6 : decode cX5_findWrong 6 = .ok (.iconst 0, 1) := by decide +kernel
theorem dX5_findWrong_7 : decode cX5_findWrong 7 = .ok (.putfield 157, 3) := by decide +kernel
theorem dX5_findWrong_10 : decode cX5_findWrong 10 = .ok (.iconst 0, 1) := by decide +kernel
theorem dX5_findWrong_11 : decode cX5_findWrong 11 = .ok (.istore_n 1, 1) := by decide +kernel
theorem dX5_findWrong_12 : decode cX5_findWrong 12 = .ok (.iload_n 1, 1) := by decide +kernel
theorem dX5_findWrong_13 : decode cX5_findWrong 13 = .ok (.aload_n 0, 1) := by decide +kernel
theorem dX5_findWrong_14 : decode cX5_findWrong 14 = .ok (.getfield 25, 3) := by decide +kernel
theorem dX5_findWrong_17 : decode cX5_findWrong 17 = .ok (.getfield 36, 3) := by decide +kernel
theorem dX5_findWrong_20 : decode cX5_findWrong 20 = .ok (.invokevirtual 56, 3) := by decide +kernel
theorem dX5_findWrong_23 : decode cX5_findWrong 23 = .ok (.if_icmp .ge 142, 3) := by decide +kernel
theorem dX5_findWrong_26 : decode cX5_findWrong 26 = .ok (.aload_n 0, 1) := by decide +kernel
theorem dX5_findWrong_27 : decode cX5_findWrong 27 = .ok (.getfield 25, 3) := by decide +kernel
theorem dX5_findWrong_30 : decode cX5_findWrong 30 = .ok (.getfield 36, 3) := by decide +kernel
theorem dX5_findWrong_33 : decode cX5_findWrong 33 = .ok (.getfield 63, 3) := by decide +kernel
theorem dX5_findWrong_36 : decode cX5_findWrong 36 = .ok (.iload_n 1, 1) := by decide +kernel
theorem dX5_findWrong_37 : decode cX5_findWrong 37 = .ok (.iaload, 1) := by decide +kernel
theorem dX5_findWrong_38 : decode cX5_findWrong 38 = .ok (.istore_n 2, 1) := by decide +kernel
theorem dX5_findWrong_39 : decode cX5_findWrong 39 = .ok (.aload_n 0, 1) := by decide +kernel
theorem dX5_findWrong_40 : decode cX5_findWrong 40 = .ok (.getfield 29, 3) := by decide +kernel
theorem dX5_findWrong_43 : decode cX5_findWrong 43 = .ok (.getfield 36, 3) := by decide +kernel
theorem dX5_findWrong_46 : decode cX5_findWrong 46 = .ok (.getfield 63, 3) := by decide +kernel
theorem dX5_findWrong_49 : decode cX5_findWrong 49 = .ok (.iload_n 1, 1) := by decide +kernel
theorem dX5_findWrong_50 : decode cX5_findWrong 50 = .ok (.iaload, 1) := by decide +kernel
theorem dX5_findWrong_51 : decode cX5_findWrong 51 = .ok (.istore_n 3, 1) := by decide +kernel
theorem dX5_findWrong_52 : decode cX5_findWrong 52 = .ok (.iconst 0, 1) := by decide +kernel
theorem dX5_findWrong_53 : decode cX5_findWrong 53 = .ok (.istore 4, 2) := by decide +kernel
theorem dX5_findWrong_55 : decode cX5_findWrong 55 = .ok (.iload 4, 2) := by decide +kernel
theorem dX5_findWrong_57 : decode cX5_findWrong 57 = .ok (.aload_n 0, 1) := by decide +kernel
theorem dX5_findWrong_58 : decode cX5_findWrong 58 = .ok (.getfield 32, 3) := by decide +kernel
theorem dX5_findWrong_61 : decode cX5_findWrong 61 = .ok (.getfield 71, 3) := by decide +kernel
theorem dX5_findWrong_64 : decode cX5_findWrong 64 = .ok (.if_icmp .ge 95, 3) := by decide +kernel
theorem dX5_findWrong_67 : decode cX5_findWrong 67 = .ok (.aload_n 0, 1) := by decide +kernel
theorem dX5_findWrong_68 : decode cX5_findWrong 68 = .ok (.getfield 25, 3) := by decide +kernel
theorem dX5_findWrong_71 : decode cX5_findWrong 71 = .ok (.getfield 60, 3) := by decide +kernel
theorem dX5_findWrong_74 : decode cX5_findWrong 74 = .ok (.iconst 4, 1) := by decide +kernel
theorem dX5_findWrong_75 : decode cX5_findWrong 75 = .ok (.iload_n 2, 1) := by decide +kernel
theorem dX5_findWrong_76 : decode cX5_findWrong 76 = .ok (.imul, 1) := by decide +kernel
theorem dX5_findWrong_77 : decode cX5_findWrong 77 = .ok (.iload 4, 2) := by decide +kernel
theorem dX5_findWrong_79 : decode cX5_findWrong 79 = .ok (.iadd, 1) := by decide +kernel
theorem dX5_findWrong_80 : decode cX5_findWrong 80 = .ok (.laload, 1) := by decide +kernel
theorem dX5_findWrong_81 : decode cX5_findWrong 81 = .ok (.aload_n 0, 1) := by decide +kernel
theorem dX5_findWrong_82 : decode cX5_findWrong 82 = .ok (.getfield 29, 3) := by decide +kernel
theorem dX5_findWrong_85 : decode cX5_findWrong 85 = .ok (.getfield 60, 3) := by decide +kernel
theorem dX5_findWrong_88 : decode cX5_findWrong 88 = .ok (.iconst 4, 1) := by decide +kernel
theorem dX5_findWrong_89 : decode cX5_findWrong 89 = .ok (.iload_n 3, 1) := by decide +kernel
theorem dX5_findWrong_90 : decode cX5_findWrong 90 = .ok (.imul, 1) := by decide +kernel
theorem dX5_findWrong_91 : decode cX5_findWrong 91 = .ok (.iload 4, 2) := by decide +kernel
theorem dX5_findWrong_93 : decode cX5_findWrong 93 = .ok (.iadd, 1) := by decide +kernel
theorem dX5_findWrong_94 : decode cX5_findWrong 94 = .ok (.laload, 1) := by decide +kernel
theorem dX5_findWrong_95 : decode cX5_findWrong 95 = .ok (.lxor, 1) := by decide +kernel
theorem dX5_findWrong_96 : decode cX5_findWrong 96 = .ok (.lstore 5, 2) := by decide +kernel
theorem dX5_findWrong_98 : decode cX5_findWrong 98 = .ok (.lload 5, 2) := by decide +kernel
theorem dX5_findWrong_100 : decode cX5_findWrong 100 = .ok (.aload_n 0, 1) := by decide +kernel
theorem dX5_findWrong_101 : decode cX5_findWrong 101 = .ok (.getfield 32, 3) := by decide +kernel
theorem dX5_findWrong_104 : decode cX5_findWrong 104 = .ok (.getfield 66, 3) := by decide +kernel
theorem dX5_findWrong_107 : decode cX5_findWrong 107 = .ok (.iload 4, 2) := by decide +kernel
theorem dX5_findWrong_109 : decode cX5_findWrong 109 = .ok (.laload, 1) := by decide +kernel
theorem dX5_findWrong_110 : decode cX5_findWrong 110 = .ok (.land, 1) := by decide +kernel
theorem dX5_findWrong_111 : decode cX5_findWrong 111 = .ok (.lconst 0, 1) := by decide +kernel
theorem dX5_findWrong_112 : decode cX5_findWrong 112 = .ok (.lcmp, 1) := by decide +kernel
theorem dX5_findWrong_113 : decode cX5_findWrong 113 = .ok (.ifCond .eq 40, 3) := by decide +kernel
theorem dX5_findWrong_116 : decode cX5_findWrong 116 = .ok (.aload_n 0, 1) := by decide +kernel
theorem dX5_findWrong_117 : decode cX5_findWrong 117 = .ok (.iload 4, 2) := by decide +kernel
theorem dX5_findWrong_119 : decode cX5_findWrong 119 = .ok (.putfield 157, 3) := by decide +kernel
theorem dX5_findWrong_122 : decode cX5_findWrong 122 = .ok (.aload_n 0, 1) := by decide +kernel
theorem dX5_findWrong_123 : decode cX5_findWrong 123 = .ok (.getfield 22, 3) := by decide +kernel
theorem dX5_findWrong_126 : decode cX5_findWrong 126 = .ok (.aload_n 0, 1) := by decide +kernel
theorem dX5_findWrong_127 : decode cX5_findWrong 127 = .ok (.getfield 154, 3) := by decide +kernel
theorem dX5_findWrong_130 : decode cX5_findWrong 130 = .ok (.aload_n 0, 1) := by decide +kernel
theorem dX5_findWrong_131 : decode cX5_findWrong 131 = .ok (.getfield 25, 3) := by decide +kernel
theorem dX5_findWrong_134 : decode cX5_findWrong 134 = .ok (.getfield 94, 3) := by decide +kernel
theorem dX5_findWrong_137 : decode cX5_findWrong 137 = .ok (.iload_n 2, 1) := by decide +kernel
theorem dX5_findWrong_138 : decode cX5_findWrong 138 = .ok (.laload, 1) := by decide +kernel
theorem dX5_findWrong_139 : decode cX5_findWrong 139 = .ok (.lastore, 1) := by decide +kernel
theorem dX5_findWrong_140 : decode cX5_findWrong 140 = .ok (.aload_n 0, 1) := by decide +kernel
theorem dX5_findWrong_141 : decode cX5_findWrong 141 = .ok (.dup, 1) := by decide +kernel
theorem dX5_findWrong_142 : decode cX5_findWrong 142 = .ok (.getfield 154, 3) := by decide +kernel
theorem dX5_findWrong_145 : decode cX5_findWrong 145 = .ok (.iconst 1, 1) := by decide +kernel
theorem dX5_findWrong_146 : decode cX5_findWrong 146 = .ok (.iadd, 1) := by decide +kernel
theorem dX5_findWrong_147 : decode cX5_findWrong 147 = .ok (.putfield 154, 3) := by decide +kernel
theorem dX5_findWrong_150 : decode cX5_findWrong 150 = .ok (.goto 9, 3) := by decide +kernel
theorem dX5_findWrong_153 : decode cX5_findWrong 153 = .ok (.iinc 4 1, 3) := by decide +kernel
theorem dX5_findWrong_156 : decode cX5_findWrong 156 = .ok (.goto (-101), 3) := by decide +kernel
theorem dX5_findWrong_159 : decode cX5_findWrong 159 = .ok (.iinc 1 1, 3) := by decide +kernel
theorem dX5_findWrong_162 : decode cX5_findWrong 162 = .ok (.goto (-150), 3) := by decide +kernel
theorem dX5_findWrong_165 : decode cX5_findWrong 165 = .ok (.return_, 1) := by decide +kernel
theorem dX5_isEnough_0 : decode cX5_isEnough 0 = .ok (.aload_n 0, 1) := by decide +kernel
theorem dX5_isEnough_1 : decode cX5_isEnough 1 = .ok (.iload_n 1, 1) := by decide +kernel
theorem dX5_isEnough_2 : decode cX5_isEnough 2 = .ok (.iload_n 2, 1) := by decide +kernel
theorem dX5_isEnough_3 : decode cX5_isEnough 3 = .ok (.iload_n 3, 1) := by decide +kernel
theorem dX5_isEnough_4 : decode cX5_isEnough 4 = .ok (.invokevirtual 160, 3) := by decide +kernel
theorem dX5_isEnough_7 : decode cX5_isEnough 7 = .ok (.pop, 1) := by decide +kernel
theorem dX5_isEnough_8 : decode cX5_isEnough 8 = .ok (.iconst 0, 1) := by decide +kernel
theorem dX5_isEnough_9 : decode cX5_isEnough 9 = .ok (.istore 4, 2) := by decide +kernel
theorem dX5_isEnough_11 : decode cX5_isEnough 11 = .ok (.iload 4, 2) := by decide +kernel
theorem dX5_isEnough_13 : decode cX5_isEnough 13 = .ok (.aload_n 0, 1) := by decide +kernel
theorem dX5_isEnough_14 : decode cX5_isEnough 14 = .ok (.getfield 154, 3) := by decide +kernel
theorem dX5_isEnough_17 : decode cX5_isEnough 17 = .ok (.if_icmp .ge 28, 3) := by decide +kernel
theorem dX5_isEnough_20 : decode cX5_isEnough 20 = .ok (.aload_n 0, 1) := by decide +kernel
theorem dX5_isEnough_21 : decode cX5_isEnough 21 = .ok (.getfield 22, 3) := by decide +kernel
theorem dX5_isEnough_24 : decode cX5_isEnough 24 = .ok (.iload 4, 2) := by decide +kernel
theorem dX5_isEnough_26 : decode cX5_isEnough 26 = .ok (.laload, 1) := by decide +kernel
theorem dX5_isEnough_27 : decode cX5_isEnough 27 = .ok (.aload_n 0, 1) := by decide +kernel
theorem dX5_isEnough_28 : decode cX5_isEnough 28 = .ok (.getfield 52, 3) := by decide +kernel
theorem dX5_isEnough_31 : decode cX5_isEnough 31 = .ok (.land, 1) := by decide +kernel
theorem dX5_isEnough_32 : decode cX5_isEnough 32 = .ok (.lconst 0, 1) := by decide +kernel
theorem dX5_isEnough_33 : decode cX5_isEnough 33 = .ok (.lcmp, 1) := by decide +kernel
theorem dX5_isEnough_34 : decode cX5_isEnough 34 = .ok (.ifCond .ne 5, 3) := by decide +kernel
theorem dX5_isEnough_37 : decode cX5_isEnough 37 = .ok (.iconst 0, 1) := by decide +kernel
theorem dX5_isEnough_38 : decode cX5_isEnough 38 = .ok (.ireturn, 1) := by decide +kernel
theorem dX5_isEnough_39 : decode cX5_isEnough 39 = .ok (.iinc 4 1, 3) := by decide +kernel
theorem dX5_isEnough_42 : decode cX5_isEnough 42 = .ok (.goto (-31), 3) := by decide +kernel
theorem dX5_isEnough_45 : decode cX5_isEnough 45 = .ok (.aload_n 0, 1) := by decide +kernel
theorem dX5_isEnough_46 : decode cX5_isEnough 46 = .ok (.aload_n 0, 1) := by decide +kernel
theorem dX5_isEnough_47 : decode cX5_isEnough 47 = .ok (.getfield 157, 3) := by decide +kernel
theorem dX5_isEnough_50 : decode cX5_isEnough 50 = .ok (.invokevirtual 126, 3) := by decide +kernel
theorem dX5_isEnough_53 : decode cX5_isEnough 53 = .ok (.lconst 0, 1) := by decide +kernel
theorem dX5_isEnough_54 : decode cX5_isEnough 54 = .ok (.lcmp, 1) := by decide +kernel
theorem dX5_isEnough_55 : decode cX5_isEnough 55 = .ok (.ifCond .eq 5, 3) := by decide +kernel
theorem dX5_isEnough_58 : decode cX5_isEnough 58 = .ok (.iconst 0, 1) := by decide +kernel
theorem dX5_isEnough_59 : decode cX5_isEnough 59 = .ok (.ireturn, 1) := by decide +kernel
theorem dX5_isEnough_60 : decode cX5_isEnough 60 = .ok (.iconst 0, 1) := by decide +kernel
theorem dX5_isEnough_61 : decode cX5_isEnough 61 = .ok (.istore 4, 2) := by decide +kernel
theorem dX5_isEnough_63 : decode cX5_isEnough 63 = .ok (.iload 4, 2) := by decide +kernel
theorem dX5_isEnough_65 : decode cX5_isEnough 65 = .ok (.aload_n 0, 1) := by decide +kernel
theorem dX5_isEnough_66 : decode cX5_isEnough 66 = .ok (.getfield 32, 3) := by decide +kernel
theorem dX5_isEnough_69 : decode cX5_isEnough 69 = .ok (.getfield 71, 3) := by decide +kernel
theorem dX5_isEnough_72 : decode cX5_isEnough 72 = .ok (.if_icmp .ge 37, 3) := by decide +kernel
theorem dX5_isEnough_75 : decode cX5_isEnough 75 = .ok (.iload 4, 2) := by decide +kernel
theorem dX5_isEnough_77 : decode cX5_isEnough 77 = .ok (.aload_n 0, 1) := by decide +kernel
theorem dX5_isEnough_78 : decode cX5_isEnough 78 = .ok (.getfield 157, 3) := by decide +kernel
theorem dX5_isEnough_81 : decode cX5_isEnough 81 = .ok (.if_icmp .eq 22, 3) := by decide +kernel
theorem dX5_isEnough_84 : decode cX5_isEnough 84 = .ok (.aload_n 0, 1) := by decide +kernel
theorem dX5_isEnough_85 : decode cX5_isEnough 85 = .ok (.iload 4, 2) := by decide +kernel
theorem dX5_isEnough_87 : decode cX5_isEnough 87 = .ok (.invokevirtual 126, 3) := by decide +kernel
theorem dX5_isEnough_90 : decode cX5_isEnough 90 = .ok (.lconst 0, 1) := by decide +kernel
theorem dX5_isEnough_91 : decode cX5_isEnough 91 = .ok (.lcmp, 1) := by decide +kernel
theorem dX5_isEnough_92 : decode cX5_isEnough 92 = .ok (.ifCond .eq 11, 3) := by decide +kernel
theorem dX5_isEnough_95 : decode cX5_isEnough 95 = .ok (.aload_n 0, 1) := by decide +kernel
theorem dX5_isEnough_96 : decode cX5_isEnough 96 = .ok (.iload 4, 2) := by decide +kernel
theorem dX5_isEnough_98 : decode cX5_isEnough 98 = .ok (.putfield 157, 3) := by decide +kernel
theorem dX5_isEnough_101 : decode cX5_isEnough 101 = .ok (.iconst 0, 1) := by decide +kernel
theorem dX5_isEnough_102 : decode cX5_isEnough 102 = .ok (.ireturn, 1) := by decide +kernel
theorem dX5_isEnough_103 : decode cX5_isEnough 103 = .ok (.iinc 4 1, 3) := by decide +kernel
theorem dX5_isEnough_106 : decode cX5_isEnough 106 = .ok (.goto (-43), 3) := by decide +kernel
theorem dX5_isEnough_109 : decode cX5_isEnough 109 = .ok (.iconst 1, 1) := by decide +kernel
theorem dX5_isEnough_110 : decode cX5_isEnough 110 = .ok (.ireturn, 1) := by decide +kernel
theorem dX5_searchSize_0 : decode cX5_searchSize 0 = .ok (.aload_n 0, 1) := by decide +kernel
theorem dX5_searchSize_1 : decode cX5_searchSize 1 = .ok (.getfield 25, 3) := by decide +kernel
theorem dX5_searchSize_4 : decode cX5_searchSize 4 = .ok (.getfield 36, 3) := by decide +kernel
theorem dX5_searchSize_7 : decode cX5_searchSize 7 = .ok (.invokevirtual 82, 3) := by decide +kernel
theorem dX5_searchSize_10 : decode cX5_searchSize 10 = .ok (.istore_n 2, 1) := by decide +kernel
theorem dX5_searchSize_11 : decode cX5_searchSize 11 = .ok (.aload_n 0, 1) := by decide +kernel
theorem dX5_searchSize_12 : decode cX5_searchSize 12 = .ok (.getfield 25, 3) := by decide +kernel
theorem dX5_searchSize_15 : decode cX5_searchSize 15 = .ok (.getfield 36, 3) := by decide +kernel
theorem dX5_searchSize_18 : decode cX5_searchSize 18 = .ok (.invokevirtual 147, 3) := by decide +kernel
theorem dX5_searchSize_21 : decode cX5_searchSize 21 = .ok (.istore_n 3, 1) := by decide +kernel
theorem dX5_searchSize_22 : decode cX5_searchSize 22 = .ok (.iload_n 3, 1) := by decide +kernel
theorem dX5_searchSize_23 : decode cX5_searchSize 23 = .ok (.iload_n 2, 1) := by decide +kernel
theorem dX5_searchSize_24 : decode cX5_searchSize 24 = .ok (.if_icmp .ge 103, 3) := by decide +kernel
theorem dX5_searchSize_27 : decode cX5_searchSize 27 = .ok (.iload_n 1, 1) := by decide +kernel
theorem dX5_searchSize_28 : decode cX5_searchSize 28 = .ok (.iconst 1, 1) := by decide +kernel
theorem dX5_searchSize_29 : decode cX5_searchSize 29 = .ok (.if_icmp .ne 15, 3) := by decide +kernel
theorem dX5_searchSize_32 : decode cX5_searchSize 32 = .ok (.aload_n 0, 1) := by decide +kernel
theorem dX5_searchSize_33 : decode cX5_searchSize 33 = .ok (.iload_n 3, 1) := by decide +kernel
theorem dX5_searchSize_34 : decode cX5_searchSize 34 = .ok (.iconst (-1), 1) := by decide +kernel
theorem dX5_searchSize_35 : decode cX5_searchSize 35 = .ok (.iconst (-1), 1) := by decide +kernel
theorem dX5_searchSize_36 : decode cX5_searchSize 36 = .ok (.invokevirtual 150, 3) := by decide +kernel
theorem dX5_searchSize_39 : decode cX5_searchSize 39 = .ok (.ifCond .eq 5, 3) := by decide +kernel
theorem dX5_searchSize_42 : decode cX5_searchSize 42 = .ok (.iconst 1, 1) := by decide +kernel
theorem dX5_searchSize_43 : decode cX5_searchSize 43 = .ok (.ireturn, 1) := by decide +kernel
theorem dX5_searchSize_44 : decode cX5_searchSize 44 = .ok (.iload_n 3, 1) := by decide +kernel
theorem dX5_searchSize_45 : decode cX5_searchSize 45 = .ok (.iconst 1, 1) := by decide +kernel
theorem dX5_searchSize_46 : decode cX5_searchSize 46 = .ok (.iadd, 1) := by decide +kernel
theorem dX5_searchSize_47 : decode cX5_searchSize 47 = .ok (.istore 4, 2) := by decide +kernel
theorem dX5_searchSize_49 : decode cX5_searchSize 49 = .ok (.iload 4, 2) := by decide +kernel
theorem dX5_searchSize_51 : decode cX5_searchSize 51 = .ok (.iload_n 2, 1) := by decide +kernel
theorem dX5_searchSize_52 : decode cX5_searchSize 52 = .ok (.if_icmp .ge 69, 3) := by decide +kernel
theorem dX5_searchSize_55 : decode cX5_searchSize 55 = .ok (.iload_n 1, 1) := by decide +kernel
theorem dX5_searchSize_56 : decode cX5_searchSize 56 = .ok (.iconst 1, 1) := by decide +kernel
theorem dX5_searchSize_57 : decode cX5_searchSize 57 = .ok (.if_icmp .le 64, 3) := by decide +kernel
theorem dX5_searchSize_60 : decode cX5_searchSize 60 = .ok (.iload_n 1, 1) := by decide +kernel
theorem dX5_searchSize_61 : decode cX5_searchSize 61 = .ok (.iconst 2, 1) := by decide +kernel
theorem dX5_searchSize_62 : decode cX5_searchSize 62 = .ok (.if_icmp .ne 16, 3) := by decide +kernel
theorem dX5_searchSize_65 : decode cX5_searchSize 65 = .ok (.aload_n 0, 1) := by decide +kernel
theorem dX5_searchSize_66 : decode cX5_searchSize 66 = .ok (.iload_n 3, 1) := by decide +kernel
theorem dX5_searchSize_67 : decode cX5_searchSize 67 = .ok (.iload 4, 2) := by decide +kernel
theorem dX5_searchSize_69 : decode cX5_searchSize 69 = .ok (.iconst (-1), 1) := by decide +kernel
theorem dX5_searchSize_70 : decode cX5_searchSize 70 = .ok (.invokevirtual 150, 3) := by decide +kernel
theorem dX5_searchSize_73 : decode cX5_searchSize 73 = .ok (.ifCond .eq 5, 3) := by decide +kernel
theorem dX5_searchSize_76 : decode cX5_searchSize 76 = .ok (.iconst 1, 1) := by decide +kernel
theorem dX5_searchSize_77 : decode cX5_searchSize 77 = .ok (.ireturn, 1) := by decide +kernel
theorem dX5_searchSize_78 : decode cX5_searchSize 78 = .ok (.iload 4, 2) := by decide +kernel
theorem dX5_searchSize_80 : decode cX5_searchSize 80 = .ok (.iconst 1, 1) := by decide +kernel
theorem dX5_searchSize_81 : decode cX5_searchSize 81 = .ok (.iadd, 1) := by decide +kernel
theorem dX5_searchSize_82 : decode cX5_searchSize 82 = .ok (.istore 5, 2) := by decide +kernel
theorem dX5_searchSize_84 : decode cX5_searchSize 84 = .ok (.iload 5, 2) := by decide +kernel
theorem dX5_searchSize_86 : decode cX5_searchSize 86 = .ok (.iload_n 2, 1) := by decide +kernel
theorem dX5_searchSize_87 : decode cX5_searchSize 87 = .ok (.if_icmp .ge 28, 3) := by decide +kernel
theorem dX5_searchSize_90 : decode cX5_searchSize 90 = .ok (.iload_n 1, 1) := by decide +kernel
theorem dX5_searchSize_91 : decode cX5_searchSize 91 = .ok (.iconst 2, 1) := by decide +kernel
theorem dX5_searchSize_92 : decode cX5_searchSize 92 = .ok (.if_icmp .le 23, 3) := by decide +kernel
theorem dX5_searchSize_95 : decode cX5_searchSize 95 = .ok (.aload_n 0, 1) := by decide +kernel
theorem dX5_searchSize_96 : decode cX5_searchSize 96 = .ok (.iload_n 3, 1) := by decide +kernel
theorem dX5_searchSize_97 : decode cX5_searchSize 97 = .ok (.iload 4, 2) := by decide +kernel
theorem dX5_searchSize_99 : decode cX5_searchSize 99 = .ok (.iload 5, 2) := by decide +kernel
theorem dX5_searchSize_101 : decode cX5_searchSize 101 = .ok (.invokevirtual 150, 3) := by decide +kernel
theorem dX5_searchSize_104 : decode cX5_searchSize 104 = .ok (.ifCond .eq 5, 3) := by decide +kernel
theorem dX5_searchSize_107 : decode cX5_searchSize 107 = .ok (.iconst 1, 1) := by decide +kernel
theorem dX5_searchSize_108 : decode cX5_searchSize 108 = .ok (.ireturn, 1) := by decide +kernel
theorem dX5_searchSize_109 : decode cX5_searchSize 109 = .ok (.iinc 5 1, 3) := by decide +kernel
theorem dX5_searchSize_112 : decode cX5_searchSize 112 = .ok (.goto (-28), 3) := by decide +kernel
theorem dX5_searchSize_115 : decode cX5_searchSize 115 = .ok (.iinc 4 1, 3) := by decide +kernel
theorem dX5_searchSize_118 : decode cX5_searchSize 118 = .ok (.goto (-69), 3) := by decide +kernel
theorem dX5_searchSize_121 : decode cX5_searchSize 121 = .ok (.iinc 3 1, 3) := by decide +kernel
theorem dX5_searchSize_124 : decode cX5_searchSize 124 = .ok (.goto (-102), 3) := by decide +kernel
theorem dX5_searchSize_127 : decode cX5_searchSize 127 = .ok (.iconst 0, 1) := by decide +kernel
theorem dX5_searchSize_128 : decode cX5_searchSize 128 = .ok (.ireturn, 1) := by decide +kernel
theorem dX5_search_0 : decode cX5_search 0 = .ok (.aload_n 0, 1) := by decide +kernel
theorem dX5_search_1 : decode cX5_search 1 = .ok (.invokevirtual 141, 3) := by decide +kernel
theorem dX5_search_4 : decode cX5_search 4 = .ok (.iconst 1, 1) := by decide +kernel
theorem dX5_search_5 : decode cX5_search 5 = .ok (.istore_n 2, 1) := by decide +kernel
theorem dX5_search_6 : decode cX5_search 6 = .ok (.iload_n 2, 1) := by decide +kernel
theorem dX5_search_7 : decode cX5_search 7 = .ok (.iload_n 1, 1) := by decide +kernel
theorem dX5_search_8 : decode cX5_search 8 = .ok (.if_icmp .gt 19, 3) := by decide +kernel
theorem dX5_search_11 : decode cX5_search 11 = .ok (.aload_n 0, 1) := by decide +kernel
theorem dX5_search_12 : decode cX5_search 12 = .ok (.iload_n 2, 1) := by decide +kernel
theorem dX5_search_13 : decode cX5_search 13 = .ok (.invokevirtual 144, 3) := by decide +kernel
theorem dX5_search_16 : decode cX5_search 16 = .ok (.ifCond .eq 5, 3) := by decide +kernel
theorem dX5_search_19 : decode cX5_search 19 = .ok (.iload_n 2, 1) := by decide +kernel
theorem dX5_search_20 : decode cX5_search 20 = .ok (.ireturn, 1) := by decide +kernel
theorem dX5_search_21 : decode cX5_search 21 = .ok (.iinc 2 1, 3) := by decide +kernel
theorem dX5_search_24 : decode cX5_search 24 = .ok (.goto (-18), 3) := by decide +kernel
theorem dX5_search_27 : decode cX5_search 27 = .ok (.iconst 0, 1) := by decide +kernel
theorem dX5_search_28 : decode cX5_search 28 = .ok (.ireturn, 1) := by decide +kernel
def XX5_aim_b128   (self128 : Int → Hp → OR) (l4 : Int) (h : Hp) : OR :=
  if (h 40 4) ≤ l4 then zb 1 (some (1, h)) else inb l4 3 (hm (wr h 40 5 (jor (h 40 5) (jshl 1 (h 41 l4.toNat)))) (fun h10 => chk (l4 + 1) (self128 (l4 + 1) h10)))
def XX5_aim_L128   (l4 : Int) (h : Hp) : OR := lup1 (XX5_aim_b128 ) FU l4 h
def XX5_aim_p117   (s1 : Int) (h : Hp) : OR :=
  hm (wr h 40 4 s1) (fun h8 => hm (wr h8 40 5 0) (fun h9 => XX5_aim_L128 0 h9))
def XX5_aim_p76   (l1 l2 l3 : Int) (h : Hp) : OR :=
  inb 0 3 (hm (wr h 41 (0 : Int).toNat l1) (fun h5 => inb 1 3 (hm (wr h5 41 (1 : Int).toNat l2) (fun h6 => inb 2 3 (hm (wr h6 41 (2 : Int).toNat l3) (fun h7 => if l2 = (-1) then XX5_aim_p117 1 h7 else if l3 = (-1) then XX5_aim_p117 2 h7 else XX5_aim_p117 3 h7))))))
def XX5_aim_p50   (l1 l2 l3 : Int) (h : Hp) : OR :=
  if l3 = (-1) then XX5_aim_p76 l1 l2 l3 h else if l3 ≤ l2 then zb 0 (some (0, h)) else cal (XX8_isGate 18 l3 h) (fun r11 h12 => if r11 = 0 then zb 0 (some (0, h12)) else XX5_aim_p76 l1 l2 l3 h12)
def XX5_aim (x0 : Int) (x1 : Int) (x2 : Int) (h : Hp) : OR :=
  cal (XX8_isGate 18 x0 h) (fun r1 h2 => if r1 = 0 then zb 0 (some (0, h2)) else if x1 = (-1) then if x2 = (-1) then XX5_aim_p50 x0 x1 x2 h2 else zb 0 (some (0, h2)) else if x1 ≤ x0 then zb 0 (some (0, h2)) else cal (XX8_isGate 18 x1 h2) (fun r3 h4 => if r3 = 0 then zb 0 (some (0, h4)) else XX5_aim_p50 x0 x1 x2 h4))
theorem sX5_aim_L128 {Γ : Cx} {w : Wd} (hw : okX w) (g : Gd Γ cX5_aim 5 "GatePatch$Mender" (Option.some Jvm.ClassFile.FieldType.boolean) (rmd 3))   : ∀ (l4 : Int) (h : Hp), Sim Γ w 0 (XX5_aim_L128  l4 h) h 128 [(0, vP 40), (4, vI l4)] [] := by
  refine S_lup1 (fun l4 => [(0, vP 40), (4, vI l4)]) (fun self128 hs128 l4 h => ?_) FU
  unfold XX5_aim_b128
  refine S_iload (kk := 1) g dX5_aim_128 rfl ?_
  refine S_aload_n (kk := 0) g dX5_aim_130 rfl rfl ?_
  refine S_geti g dX5_aim_131 fl_Mender_48 (at_40 hw) (Or.inl rfl) ?_
  refine S_icmp_ge (tgt := 161) g dX5_aim_134 (by decide) ?_ ?_
  · refine S_iconst g dX5_aim_161 ⟨by decide, by decide⟩ ?_
    exact S_zreturn g dX5_aim_162 rfl
  · refine S_aload_n (kk := 0) g dX5_aim_137 rfl rfl ?_
    refine S_dup g dX5_aim_138 rfl ?_
    refine S_getj g dX5_aim_139 fl_Mender_52 (at_40 hw) rfl ?_
    refine S_lconst (x := 1) g dX5_aim_142 ⟨by decide, by decide⟩ rfl ?_
    refine S_aload_n (kk := 0) g dX5_aim_143 rfl rfl ?_
    refine S_getr g dX5_aim_144 fl_Mender_9 (at_40 hw) rfl (rc_40_3 hw) ?_
    refine S_iload (kk := 1) g dX5_aim_147 rfl ?_
    refine S_iaload g dX5_aim_149 (at_41 hw) ?_
    refine S_lshl g dX5_aim_150 ?_
    refine S_lor g dX5_aim_151 ?_
    refine S_putj g dX5_aim_152 fp_Mender_52 (at_40 hw) rfl (fun h10 => ?_)
    refine S_iinc (kk := 1) g dX5_aim_155 rfl (by decide) rfl ?_
    refine S_goto (tgt := 128) g dX5_aim_158 (by decide) ?_
    refine S_sub g [1, 0] rfl ?_
    exact hs128 _ _

theorem sX5_aim_p117 {Γ : Cx} {w : Wd} (hw : okX w) (g : Gd Γ cX5_aim 5 "GatePatch$Mender" (Option.some Jvm.ClassFile.FieldType.boolean) (rmd 3))   (s1 : Int) (h : Hp) : Sim Γ w 0 (XX5_aim_p117   s1 h) h 117 [(0, vP 40)] [vI s1, vP 40] := by
  unfold XX5_aim_p117
  refine S_puti g dX5_aim_117 fp_Mender_48 (at_40 hw) rfl (fun h8 => ?_)
  refine S_aload_n (kk := 0) g dX5_aim_120 rfl rfl ?_
  refine S_lconst (x := 0) g dX5_aim_121 ⟨by decide, by decide⟩ rfl ?_
  refine S_putj g dX5_aim_122 fp_Mender_52 (at_40 hw) rfl (fun h9 => ?_)
  refine S_iconst g dX5_aim_125 ⟨by decide, by decide⟩ ?_
  refine S_istore g dX5_aim_126 (by decide) rfl ?_
  refine S_sub g [1, 0] rfl ?_
  exact sX5_aim_L128 hw g _ _

theorem sX5_aim_p76 {Γ : Cx} {w : Wd} (hw : okX w) (g : Gd Γ cX5_aim 5 "GatePatch$Mender" (Option.some Jvm.ClassFile.FieldType.boolean) (rmd 3))   (l1 l2 l3 : Int) (h : Hp) : Sim Γ w 0 (XX5_aim_p76  l1 l2 l3  h) h 76 [(0, vP 40), (1, vI l1), (2, vI l2), (3, vI l3)] [] := by
  unfold XX5_aim_p76
  refine S_aload_n (kk := 0) g dX5_aim_76 rfl rfl ?_
  refine S_getr g dX5_aim_77 fl_Mender_9 (at_40 hw) rfl (rc_40_3 hw) ?_
  refine S_iconst g dX5_aim_80 ⟨by decide, by decide⟩ ?_
  refine S_iload_n (kk := 1) g dX5_aim_81 rfl rfl ?_
  refine S_iastore g dX5_aim_82 (at_41 hw) (fun h5 => ?_)
  refine S_aload_n (kk := 0) g dX5_aim_83 rfl rfl ?_
  refine S_getr g dX5_aim_84 fl_Mender_9 (at_40 hw) rfl (rc_40_3 hw) ?_
  refine S_iconst g dX5_aim_87 ⟨by decide, by decide⟩ ?_
  refine S_iload_n (kk := 2) g dX5_aim_88 rfl rfl ?_
  refine S_iastore g dX5_aim_89 (at_41 hw) (fun h6 => ?_)
  refine S_aload_n (kk := 0) g dX5_aim_90 rfl rfl ?_
  refine S_getr g dX5_aim_91 fl_Mender_9 (at_40 hw) rfl (rc_40_3 hw) ?_
  refine S_iconst g dX5_aim_94 ⟨by decide, by decide⟩ ?_
  refine S_iload_n (kk := 3) g dX5_aim_95 rfl rfl ?_
  refine S_iastore g dX5_aim_96 (at_41 hw) (fun h7 => ?_)
  refine S_aload_n (kk := 0) g dX5_aim_97 rfl rfl ?_
  refine S_iload_n (kk := 2) g dX5_aim_98 rfl rfl ?_
  refine S_iconst g dX5_aim_99 ⟨by decide, by decide⟩ ?_
  refine S_icmp_ne (tgt := 107) g dX5_aim_100 (by decide) ?_ ?_
  · refine S_iload_n (kk := 3) g dX5_aim_107 rfl rfl ?_
    refine S_iconst g dX5_aim_108 ⟨by decide, by decide⟩ ?_
    refine S_icmp_ne (tgt := 116) g dX5_aim_109 (by decide) ?_ ?_
    · refine S_iconst g dX5_aim_116 ⟨by decide, by decide⟩ ?_
      refine S_sub g [0] rfl ?_
      exact sX5_aim_p117 hw g _ _
    · refine S_iconst g dX5_aim_112 ⟨by decide, by decide⟩ ?_
      refine S_goto (tgt := 117) g dX5_aim_113 (by decide) ?_
      refine S_sub g [0] rfl ?_
      exact sX5_aim_p117 hw g _ _
  · refine S_iconst g dX5_aim_103 ⟨by decide, by decide⟩ ?_
    refine S_goto (tgt := 117) g dX5_aim_104 (by decide) ?_
    refine S_sub g [0] rfl ?_
    exact sX5_aim_p117 hw g _ _

theorem sX5_aim_p50 {Γ : Cx} {w : Wd} (hw : okX w) (g : Gd Γ cX5_aim 5 "GatePatch$Mender" (Option.some Jvm.ClassFile.FieldType.boolean) (rmd 3))   (l1 l2 l3 : Int) (h : Hp) : Sim Γ w 0 (XX5_aim_p50  l1 l2 l3  h) h 50 [(0, vP 40), (1, vI l1), (2, vI l2), (3, vI l3)] [] := by
  unfold XX5_aim_p50
  refine S_iload_n (kk := 3) g dX5_aim_50 rfl rfl ?_
  refine S_iconst g dX5_aim_51 ⟨by decide, by decide⟩ ?_
  refine S_icmp_eq (tgt := 76) g dX5_aim_52 (by decide) ?_ ?_
  · exact sX5_aim_p76 hw g _ _ _ _
  · refine S_iload_n (kk := 3) g dX5_aim_55 rfl rfl ?_
    refine S_iload_n (kk := 2) g dX5_aim_56 rfl rfl ?_
    refine S_icmp_le (tgt := 74) g dX5_aim_57 (by decide) ?_ ?_
    · refine S_iconst g dX5_aim_74 ⟨by decide, by decide⟩ ?_
      exact S_zreturn g dX5_aim_75 rfl
    · refine S_aload_n (kk := 0) g dX5_aim_60 rfl rfl ?_
      refine S_getr g dX5_aim_61 fl_Mender_25 (at_40 hw) rfl (rc_40_0 hw) ?_
      refine S_getr g dX5_aim_64 fl_Mender_36 (at_17 hw) rfl (rc_17_0 hw) ?_
      refine S_iload_n (kk := 3) g dX5_aim_67 rfl rfl ?_
      refine S_callVi (As := [vI l3]) g dX5_aim_68 (sX8_isGate hw 18 (pl_18 hw) _ _) rfl (at_18 hw) rfl im_X8_isGate se_X8_isGate cw_X8_isGate ml_Mender_42 ini_Plan nd_X8_isGate ⟨by decide, by decide⟩ (Nat.le_of_ble_eq_true rfl) (fun r11 h12 => ?_)
      refine S_if_ne (tgt := 76) g dX5_aim_71 (by decide) ?_ ?_
      · exact sX5_aim_p76 hw g _ _ _ _
      · refine S_iconst g dX5_aim_74 ⟨by decide, by decide⟩ ?_
        exact S_zreturn g dX5_aim_75 rfl

theorem sX5_aim {G : GG} {w : Wd} (hw : okX w) (x0 : Int) (x1 : Int) (x2 : Int) (h : Hp) : SC G w yX5_aim (Cond.code yX5_aim cX5_aim 5 (Option.some Jvm.ClassFile.FieldType.boolean)) 3 0 [vP 40, vI x0, vI x1, vI x2] (XX5_aim x0 x1 x2 h) h := by
  refine SC_of (own := "GatePatch$Mender") plain_Mender rfl (Nat.le_of_ble_eq_true rfl) (fun Γ hG g => ?_)
  subst hG
  show Sim Γ w 0 _ h 0 [(0, vP 40), (1, vI x0), (2, vI x1), (3, vI x2)] []
  unfold XX5_aim
  refine S_aload_n (kk := 0) g dX5_aim_0 rfl rfl ?_
  refine S_getr g dX5_aim_1 fl_Mender_25 (at_40 hw) rfl (rc_40_0 hw) ?_
  refine S_getr g dX5_aim_4 fl_Mender_36 (at_17 hw) rfl (rc_17_0 hw) ?_
  refine S_iload_n (kk := 1) g dX5_aim_7 rfl rfl ?_
  refine S_callVi (As := [vI x0]) g dX5_aim_8 (sX8_isGate hw 18 (pl_18 hw) _ _) rfl (at_18 hw) rfl im_X8_isGate se_X8_isGate cw_X8_isGate ml_Mender_42 ini_Plan nd_X8_isGate ⟨by decide, by decide⟩ (Nat.le_of_ble_eq_true rfl) (fun r1 h2 => ?_)
  refine S_if_ne (tgt := 16) g dX5_aim_11 (by decide) ?_ ?_
  · refine S_iload_n (kk := 2) g dX5_aim_16 rfl rfl ?_
    refine S_iconst g dX5_aim_17 ⟨by decide, by decide⟩ ?_
    refine S_icmp_ne (tgt := 29) g dX5_aim_18 (by decide) ?_ ?_
    · refine S_iload_n (kk := 2) g dX5_aim_29 rfl rfl ?_
      refine S_iload_n (kk := 1) g dX5_aim_30 rfl rfl ?_
      refine S_icmp_le (tgt := 48) g dX5_aim_31 (by decide) ?_ ?_
      · refine S_iconst g dX5_aim_48 ⟨by decide, by decide⟩ ?_
        exact S_zreturn g dX5_aim_49 rfl
      · refine S_aload_n (kk := 0) g dX5_aim_34 rfl rfl ?_
        refine S_getr g dX5_aim_35 fl_Mender_25 (at_40 hw) rfl (rc_40_0 hw) ?_
        refine S_getr g dX5_aim_38 fl_Mender_36 (at_17 hw) rfl (rc_17_0 hw) ?_
        refine S_iload_n (kk := 2) g dX5_aim_41 rfl rfl ?_
        refine S_callVi (As := [vI x1]) g dX5_aim_42 (sX8_isGate hw 18 (pl_18 hw) _ _) rfl (at_18 hw) rfl im_X8_isGate se_X8_isGate cw_X8_isGate ml_Mender_42 ini_Plan nd_X8_isGate ⟨by decide, by decide⟩ (Nat.le_of_ble_eq_true rfl) (fun r3 h4 => ?_)
        refine S_if_ne (tgt := 50) g dX5_aim_45 (by decide) ?_ ?_
        · exact sX5_aim_p50 hw g _ _ _ _
        · refine S_iconst g dX5_aim_48 ⟨by decide, by decide⟩ ?_
          exact S_zreturn g dX5_aim_49 rfl
    · refine S_iload_n (kk := 3) g dX5_aim_21 rfl rfl ?_
      refine S_iconst g dX5_aim_22 ⟨by decide, by decide⟩ ?_
      refine S_icmp_eq (tgt := 50) g dX5_aim_23 (by decide) ?_ ?_
      · exact sX5_aim_p50 hw g _ _ _ _
      · refine S_goto (tgt := 48) g dX5_aim_26 (by decide) ?_
        refine S_iconst g dX5_aim_48 ⟨by decide, by decide⟩ ?_
        exact S_zreturn g dX5_aim_49 rfl
  · refine S_iconst g dX5_aim_14 ⟨by decide, by decide⟩ ?_
    exact S_zreturn g dX5_aim_15 rfl

def XX5_assignments  (h : Hp) : OR :=
  some ((ashl 1 (h 40 4)), h)
theorem sX5_assignments {G : GG} {w : Wd} (hw : okX w)  (h : Hp) : SC G w yX5_assignments (Cond.code yX5_assignments cX5_assignments 1 (Option.some Jvm.ClassFile.FieldType.int)) 1 0 [vP 40] (XX5_assignments  h) h := by
  refine SC_of (own := "GatePatch$Mender") plain_Mender rfl (Nat.le_of_ble_eq_true rfl) (fun Γ hG g => ?_)
  subst hG
  show Sim Γ w 0 _ h 0 [(0, vP 40)] []
  unfold XX5_assignments
  refine S_iconst g dX5_assignments_0 ⟨by decide, by decide⟩ ?_
  refine S_aload_n (kk := 0) g dX5_assignments_1 rfl rfl ?_
  refine S_geti g dX5_assignments_2 fl_Mender_48 (at_40 hw) (Or.inl rfl) ?_
  refine S_ishl g dX5_assignments_5 ?_
  exact S_ireturn g dX5_assignments_6 rfl

def XX5_difference_b5   (self5 : Int → Int → Int → Hp → OR) (l1 l2 l4 : Int) (h : Hp) : OR :=
  cal (XX8_seenCount 18 h) (fun r1 h2 => if r1 ≤ l4 then inb l1 4 (some ((jand l2 (h2 39 l1.toNat)), h2)) else inb l4 6 (chk (4 * (h2 21 l4.toNat)) (chk ((4 * (h2 21 l4.toNat)) + l1) (inb ((4 * (h2 21 l4.toNat)) + l1) 192 (inb l4 6 (chk (4 * (h2 31 l4.toNat)) (chk ((4 * (h2 31 l4.toNat)) + l1) (inb ((4 * (h2 31 l4.toNat)) + l1) 192 (nm (jor l2 (jxor (h2 25 ((4 * (h2 21 l4.toNat)) + l1).toNat) (h2 35 ((4 * (h2 31 l4.toNat)) + l1).toNat))) (fun v3 => chk (l4 + 1) (self5 l1 v3 (l4 + 1) h2)))))))))))
def XX5_difference_L5   (l1 l2 l4 : Int) (h : Hp) : OR := lup3 (XX5_difference_b5 ) FU l1 l2 l4 h
def XX5_difference (x0 : Int) (h : Hp) : OR :=
  XX5_difference_L5 x0 0 0 h
theorem sX5_difference_L5 {Γ : Cx} {w : Wd} (hw : okX w) (g : Gd Γ cX5_difference 5 "GatePatch$Mender" (Option.some Jvm.ClassFile.FieldType.long) (rmd 2))   : ∀ (l1 l2 l4 : Int) (h : Hp), Sim Γ w 1 (XX5_difference_L5  l1 l2 l4 h) h 5 [(0, vP 40), (1, vI l1), (2, vJ l2), (4, vI l4)] [] := by
  refine S_lup3 (fun l1 l2 l4 => [(0, vP 40), (1, vI l1), (2, vJ l2), (4, vI l4)]) (fun self5 hs5 l1 l2 l4 h => ?_) FU
  unfold XX5_difference_b5
  refine S_iload (kk := 3) g dX5_difference_5 rfl ?_
  refine S_aload_n (kk := 0) g dX5_difference_7 rfl rfl ?_
  refine S_getr g dX5_difference_8 fl_Mender_25 (at_40 hw) rfl (rc_40_0 hw) ?_
  refine S_getr g dX5_difference_11 fl_Mender_36 (at_17 hw) rfl (rc_17_0 hw) ?_
  refine S_callVi (As := []) g dX5_difference_14 (sX8_seenCount hw 18 (pl_18 hw) _) rfl (at_18 hw) rfl im_X8_seenCount se_X8_seenCount cw_X8_seenCount ml_Mender_56 ini_Plan nd_X8_seenCount ⟨by decide, by decide⟩ (Nat.le_of_ble_eq_true rfl) (fun r1 h2 => ?_)
  refine S_icmp_ge (tgt := 80) g dX5_difference_17 (by decide) ?_ ?_
  · refine S_lload_n (kk := 2) g dX5_difference_80 rfl rfl ?_
    refine S_aload_n (kk := 0) g dX5_difference_81 rfl rfl ?_
    refine S_getr g dX5_difference_82 fl_Mender_32 (at_40 hw) rfl (rc_40_2 hw) ?_
    refine S_getr g dX5_difference_85 fl_Mender_66 (at_37 hw) rfl (rc_37_3 hw) ?_
    refine S_iload_n (kk := 1) g dX5_difference_88 rfl rfl ?_
    refine S_laload g dX5_difference_89 (at_39 hw) ?_
    refine S_land g dX5_difference_90 ?_
    exact S_lreturn g dX5_difference_91 rfl
  · refine S_lload_n (kk := 2) g dX5_difference_20 rfl rfl ?_
    refine S_aload_n (kk := 0) g dX5_difference_21 rfl rfl ?_
    refine S_getr g dX5_difference_22 fl_Mender_25 (at_40 hw) rfl (rc_40_0 hw) ?_
    refine S_getr g dX5_difference_25 fl_Mender_60 (at_17 hw) rfl (rc_17_4 hw) ?_
    refine S_iconst g dX5_difference_28 ⟨by decide, by decide⟩ ?_
    refine S_aload_n (kk := 0) g dX5_difference_29 rfl rfl ?_
    refine S_getr g dX5_difference_30 fl_Mender_25 (at_40 hw) rfl (rc_40_0 hw) ?_
    refine S_getr g dX5_difference_33 fl_Mender_36 (at_17 hw) rfl (rc_17_0 hw) ?_
    refine S_getr g dX5_difference_36 fl_Mender_63 (at_18 hw) rfl (rc_18_6 hw) ?_
    refine S_iload (kk := 3) g dX5_difference_39 rfl ?_
    refine S_iaload g dX5_difference_41 (at_21 hw) ?_
    refine S_imul g dX5_difference_42 ?_
    refine S_iload_n (kk := 1) g dX5_difference_43 rfl rfl ?_
    refine S_iadd g dX5_difference_44 ?_
    refine S_laload g dX5_difference_45 (at_25 hw) ?_
    refine S_aload_n (kk := 0) g dX5_difference_46 rfl rfl ?_
    refine S_getr g dX5_difference_47 fl_Mender_29 (at_40 hw) rfl (rc_40_1 hw) ?_
    refine S_getr g dX5_difference_50 fl_Mender_60 (at_27 hw) rfl (rc_27_4 hw) ?_
    refine S_iconst g dX5_difference_53 ⟨by decide, by decide⟩ ?_
    refine S_aload_n (kk := 0) g dX5_difference_54 rfl rfl ?_
    refine S_getr g dX5_difference_55 fl_Mender_29 (at_40 hw) rfl (rc_40_1 hw) ?_
    refine S_getr g dX5_difference_58 fl_Mender_36 (at_27 hw) rfl (rc_27_0 hw) ?_
    refine S_getr g dX5_difference_61 fl_Mender_63 (at_28 hw) rfl (rc_28_6 hw) ?_
    refine S_iload (kk := 3) g dX5_difference_64 rfl ?_
    refine S_iaload g dX5_difference_66 (at_31 hw) ?_
    refine S_imul g dX5_difference_67 ?_
    refine S_iload_n (kk := 1) g dX5_difference_68 rfl rfl ?_
    refine S_iadd g dX5_difference_69 ?_
    refine S_laload g dX5_difference_70 (at_35 hw) ?_
    refine S_lxor g dX5_difference_71 ?_
    refine S_lor g dX5_difference_72 ?_
    refine S_nmJ (fun v3 => ?_)
    refine S_lstore_n g dX5_difference_73 rfl (by decide) rfl ?_
    refine S_iinc (kk := 3) g dX5_difference_74 rfl (by decide) rfl ?_
    refine S_goto (tgt := 5) g dX5_difference_77 (by decide) ?_
    refine S_sub g [2, 3, 1, 0] rfl ?_
    exact hs5 _ _ _ _

theorem sX5_difference {G : GG} {w : Wd} (hw : okX w) (x0 : Int) (h : Hp) : SC G w yX5_difference (Cond.code yX5_difference cX5_difference 5 (Option.some Jvm.ClassFile.FieldType.long)) 2 1 [vP 40, vI x0] (XX5_difference x0 h) h := by
  refine SC_of (own := "GatePatch$Mender") plain_Mender rfl (Nat.le_of_ble_eq_true rfl) (fun Γ hG g => ?_)
  subst hG
  show Sim Γ w 1 _ h 0 [(0, vP 40), (1, vI x0)] []
  unfold XX5_difference
  refine S_lconst (x := 0) g dX5_difference_0 ⟨by decide, by decide⟩ rfl ?_
  refine S_lstore_n g dX5_difference_1 rfl (by decide) rfl ?_
  refine S_iconst g dX5_difference_2 ⟨by decide, by decide⟩ ?_
  refine S_istore g dX5_difference_3 (by decide) rfl ?_
  refine S_sub g [2, 3, 1, 0] rfl ?_
  exact sX5_difference_L5 hw g _ _ _ _

def XX5_firstDifference_b2   (self2 : Int → Hp → OR) (l1 : Int) (h : Hp) : OR :=
  if (h 37 1) ≤ l1 then some (1000, h) else cal (XX5_difference l1 h) (fun r1 h2 => if (jcmp r1 0) = 0 then chk (l1 + 1) (self2 (l1 + 1) h2) else cal (XX0_lowest l1 r1 h2) (fun r3 h4 => some (r3, h4)))
def XX5_firstDifference_L2   (l1 : Int) (h : Hp) : OR := lup1 (XX5_firstDifference_b2 ) FU l1 h
def XX5_firstDifference  (h : Hp) : OR :=
  XX5_firstDifference_L2 0 h
theorem sX5_firstDifference_L2 {Γ : Cx} {w : Wd} (hw : okX w) (g : Gd Γ cX5_firstDifference 4 "GatePatch$Mender" (Option.some Jvm.ClassFile.FieldType.int) (rmd 3))   : ∀ (l1 : Int) (h : Hp), Sim Γ w 0 (XX5_firstDifference_L2  l1 h) h 2 [(0, vP 40), (1, vI l1)] [] := by
  refine S_lup1 (fun l1 => [(0, vP 40), (1, vI l1)]) (fun self2 hs2 l1 h => ?_) FU
  unfold XX5_firstDifference_b2
  refine S_iload_n (kk := 1) g dX5_firstDifference_2 rfl rfl ?_
  refine S_aload_n (kk := 0) g dX5_firstDifference_3 rfl rfl ?_
  refine S_getr g dX5_firstDifference_4 fl_Mender_32 (at_40 hw) rfl (rc_40_2 hw) ?_
  refine S_geti g dX5_firstDifference_7 fl_Mender_71 (at_37 hw) (Or.inl rfl) ?_
  refine S_icmp_ge (tgt := 37) g dX5_firstDifference_10 (by decide) ?_ ?_
  · refine S_sipush g dX5_firstDifference_37 ⟨by decide, by decide⟩ rfl ?_
    exact S_ireturn g dX5_firstDifference_40 rfl
  · refine S_aload_n (kk := 0) g dX5_firstDifference_13 rfl rfl ?_
    refine S_iload_n (kk := 1) g dX5_firstDifference_14 rfl rfl ?_
    refine S_callVj (As := [vI l1]) g dX5_firstDifference_15 (sX5_difference hw _ _) rfl (at_40 hw) rfl im_X5_difference se_X5_difference cw_X5_difference ml_Mender_74 ini_Mender nd_X5_difference ⟨by decide, by decide⟩ (Nat.le_of_ble_eq_true rfl) (fun r1 h2 => ?_)
    refine S_lstore_n g dX5_firstDifference_18 rfl (by decide) rfl ?_
    refine S_lload_n (kk := 0) g dX5_firstDifference_19 rfl rfl ?_
    refine S_lconst (x := 0) g dX5_firstDifference_20 ⟨by decide, by decide⟩ rfl ?_
    refine S_lcmp g dX5_firstDifference_21 ?_
    refine S_if_eq (tgt := 31) g dX5_firstDifference_22 (by decide) ?_ ?_
    · refine S_iinc (kk := 2) g dX5_firstDifference_31 rfl (by decide) rfl ?_
      refine S_goto (tgt := 2) g dX5_firstDifference_34 (by decide) ?_
      refine S_sub g [2, 0] rfl ?_
      exact hs2 _ _
    · refine S_iload_n (kk := 2) g dX5_firstDifference_25 rfl rfl ?_
      refine S_lload_n (kk := 0) g dX5_firstDifference_26 rfl rfl ?_
      refine S_callSi (As := [vI l1, vJ r1]) g dX5_firstDifference_27 (sX0_lowest hw _ _ _) rfl st_X0_lowest cw_X0_lowest ml_Mender_78 ini_Cases nd_X0_lowest ⟨by decide, by decide⟩ (Nat.le_of_ble_eq_true rfl) (fun r3 h4 => ?_)
      exact S_ireturn g dX5_firstDifference_30 rfl

theorem sX5_firstDifference {G : GG} {w : Wd} (hw : okX w)  (h : Hp) : SC G w yX5_firstDifference (Cond.code yX5_firstDifference cX5_firstDifference 4 (Option.some Jvm.ClassFile.FieldType.int)) 3 0 [vP 40] (XX5_firstDifference  h) h := by
  refine SC_of (own := "GatePatch$Mender") plain_Mender rfl (Nat.le_of_ble_eq_true rfl) (fun Γ hG g => ?_)
  subst hG
  show Sim Γ w 0 _ h 0 [(0, vP 40)] []
  unfold XX5_firstDifference
  refine S_iconst g dX5_firstDifference_0 ⟨by decide, by decide⟩ ?_
  refine S_istore_n g dX5_firstDifference_1 rfl (by decide) rfl ?_
  refine S_sub g [1, 0] rfl ?_
  exact sX5_firstDifference_L2 hw g _ _

def XX5_load_p124  (self48 : Int → Int → Hp → OR) (l1 l2 : Int) (h : Hp) : OR :=
  chk (l2 + 1) (self48 l1 (l2 + 1) h)
def XX5_load_b48   (self48 : Int → Int → Hp → OR) (l1 l2 : Int) (h : Hp) : OR :=
  if (h 18 3) ≤ l2 then hm (wr h 40 9 l1) (fun h4 => some (0, h4)) else inb l2 40 (nm (h 23 l2.toNat) (fun v5 => inb v5 48 (if (jcmp (jand (h 24 v5.toNat) (h 40 5)) 0) = 0 then XX5_load_p124 self48 l1 l2 h else if (jcmp (jand (jshr (h 40 5) v5) 1) 0) = 0 then inb (h 40 8) 40 (hm (wr h 43 (h 40 8).toNat v5) (fun h6 => chk ((h6 40 8) + 1) (hm (wr h6 40 8 ((h6 40 8) + 1)) (fun h7 => XX5_load_p124 self48 l1 l2 h7)))) else XX5_load_p124 self48 l1 l2 h)))
def XX5_load_L48   (l1 l2 : Int) (h : Hp) : OR := lup2 (XX5_load_b48 ) FU l1 l2 h
def XX5_load_b2   (self2 : Int → Int → Hp → OR) (l1 l2 : Int) (h : Hp) : OR :=
  cal (XX8_wires 18 h) (fun r1 h2 => if r1 ≤ l2 then hm (wr h2 40 8 0) (fun h3 => XX5_load_L48 l1 0 h3) else chk (4 * l2) (chk ((4 * l2) + l1) (inb ((4 * l2) + l1) 192 (inb l2 48 (hm (wr h2 42 l2.toNat (h2 25 ((4 * l2) + l1).toNat)) (fun h8 => chk (l2 + 1) (self2 l1 (l2 + 1) h8)))))))
def XX5_load_L2   (l1 l2 : Int) (h : Hp) : OR := lup2 (XX5_load_b2 ) FU l1 l2 h
def XX5_load (x0 : Int) (h : Hp) : OR :=
  XX5_load_L2 x0 0 h
theorem sX5_load_p124 {Γ : Cx} {w : Wd} (hw : okX w) (g : Gd Γ cX5_load 4 "GatePatch$Mender" (Option.none : Option Jvm.ClassFile.FieldType) (rmd 2))  (self48 : Int → Int → Hp → OR) (hs48 : ∀ (x0 x1 : Int) (h : Hp), Sim Γ w 3 (self48 x0 x1 h) h 48 [(0, vP 40), (1, vI x0), (2, vI x1)] []) (l1 l2 : Int) (h : Hp) : Sim Γ w 3 (XX5_load_p124 self48 l1 l2  h) h 124 [(0, vP 40), (1, vI l1), (2, vI l2)] [] := by
  unfold XX5_load_p124
  refine S_iinc (kk := 2) g dX5_load_124 rfl (by decide) rfl ?_
  refine S_goto (tgt := 48) g dX5_load_127 (by decide) ?_
  refine S_sub g [1, 2, 0] rfl ?_
  exact hs48 _ _ _

theorem sX5_load_L48 {Γ : Cx} {w : Wd} (hw : okX w) (g : Gd Γ cX5_load 4 "GatePatch$Mender" (Option.none : Option Jvm.ClassFile.FieldType) (rmd 2))   : ∀ (l1 l2 : Int) (h : Hp), Sim Γ w 3 (XX5_load_L48  l1 l2 h) h 48 [(0, vP 40), (1, vI l1), (2, vI l2)] [] := by
  refine S_lup2 (fun l1 l2 => [(0, vP 40), (1, vI l1), (2, vI l2)]) (fun self48 hs48 l1 l2 h => ?_) FU
  unfold XX5_load_b48
  refine S_iload_n (kk := 2) g dX5_load_48 rfl rfl ?_
  refine S_aload_n (kk := 0) g dX5_load_49 rfl rfl ?_
  refine S_getr g dX5_load_50 fl_Mender_25 (at_40 hw) rfl (rc_40_0 hw) ?_
  refine S_getr g dX5_load_53 fl_Mender_36 (at_17 hw) rfl (rc_17_0 hw) ?_
  refine S_geti g dX5_load_56 fl_Mender_88 (at_18 hw) (Or.inl rfl) ?_
  refine S_icmp_ge (tgt := 130) g dX5_load_59 (by decide) ?_ ?_
  · refine S_aload_n (kk := 0) g dX5_load_130 rfl rfl ?_
    refine S_iload_n (kk := 1) g dX5_load_131 rfl rfl ?_
    refine S_puti g dX5_load_132 fp_Mender_97 (at_40 hw) rfl (fun h4 => ?_)
    exact S_return g dX5_load_135 rfl
  · refine S_aload_n (kk := 0) g dX5_load_62 rfl rfl ?_
    refine S_getr g dX5_load_63 fl_Mender_25 (at_40 hw) rfl (rc_40_0 hw) ?_
    refine S_getr g dX5_load_66 fl_Mender_91 (at_17 hw) rfl (rc_17_2 hw) ?_
    refine S_iload_n (kk := 2) g dX5_load_69 rfl rfl ?_
    refine S_iaload g dX5_load_70 (at_23 hw) ?_
    refine S_nmI (fun v5 => ?_)
    refine S_istore_n g dX5_load_71 rfl (by decide) rfl ?_
    refine S_aload_n (kk := 1) g dX5_load_72 rfl rfl ?_
    refine S_getr g dX5_load_73 fl_Mender_25 (at_40 hw) rfl (rc_40_0 hw) ?_
    refine S_getr g dX5_load_76 fl_Mender_94 (at_17 hw) rfl (rc_17_3 hw) ?_
    refine S_iload_n (kk := 0) g dX5_load_79 rfl rfl ?_
    refine S_laload g dX5_load_80 (at_24 hw) ?_
    refine S_aload_n (kk := 1) g dX5_load_81 rfl rfl ?_
    refine S_getj g dX5_load_82 fl_Mender_52 (at_40 hw) rfl ?_
    refine S_land g dX5_load_85 ?_
    refine S_lconst (x := 0) g dX5_load_86 ⟨by decide, by decide⟩ rfl ?_
    refine S_lcmp g dX5_load_87 ?_
    refine S_if_eq (tgt := 124) g dX5_load_88 (by decide) ?_ ?_
    · refine S_sub g [1, 2, 3] rfl ?_
      exact sX5_load_p124 hw g self48 hs48 _ _ _
    · refine S_aload_n (kk := 1) g dX5_load_91 rfl rfl ?_
      refine S_getj g dX5_load_92 fl_Mender_52 (at_40 hw) rfl ?_
      refine S_iload_n (kk := 0) g dX5_load_95 rfl rfl ?_
      refine S_lshr g dX5_load_96 ?_
      refine S_lconst (x := 1) g dX5_load_97 ⟨by decide, by decide⟩ rfl ?_
      refine S_land g dX5_load_98 ?_
      refine S_lconst (x := 0) g dX5_load_99 ⟨by decide, by decide⟩ rfl ?_
      refine S_lcmp g dX5_load_100 ?_
      refine S_if_ne (tgt := 124) g dX5_load_101 (by decide) ?_ ?_
      · refine S_sub g [1, 2, 3] rfl ?_
        exact sX5_load_p124 hw g self48 hs48 _ _ _
      · refine S_aload_n (kk := 1) g dX5_load_104 rfl rfl ?_
        refine S_getr g dX5_load_105 fl_Mender_19 (at_40 hw) rfl (rc_40_7 hw) ?_
        refine S_aload_n (kk := 1) g dX5_load_108 rfl rfl ?_
        refine S_geti g dX5_load_109 fl_Mender_85 (at_40 hw) (Or.inl rfl) ?_
        refine S_iload_n (kk := 0) g dX5_load_112 rfl rfl ?_
        refine S_iastore g dX5_load_113 (at_43 hw) (fun h6 => ?_)
        refine S_aload_n (kk := 1) g dX5_load_114 rfl rfl ?_
        refine S_dup g dX5_load_115 rfl ?_
        refine S_geti g dX5_load_116 fl_Mender_85 (at_40 hw) (Or.inl rfl) ?_
        refine S_iconst g dX5_load_119 ⟨by decide, by decide⟩ ?_
        refine S_iadd g dX5_load_120 ?_
        refine S_puti g dX5_load_121 fp_Mender_85 (at_40 hw) rfl (fun h7 => ?_)
        refine S_sub g [1, 2, 3] rfl ?_
        exact sX5_load_p124 hw g self48 hs48 _ _ _

theorem sX5_load_L2 {Γ : Cx} {w : Wd} (hw : okX w) (g : Gd Γ cX5_load 4 "GatePatch$Mender" (Option.none : Option Jvm.ClassFile.FieldType) (rmd 2))   : ∀ (l1 l2 : Int) (h : Hp), Sim Γ w 3 (XX5_load_L2  l1 l2 h) h 2 [(0, vP 40), (1, vI l1), (2, vI l2)] [] := by
  refine S_lup2 (fun l1 l2 => [(0, vP 40), (1, vI l1), (2, vI l2)]) (fun self2 hs2 l1 l2 h => ?_) FU
  unfold XX5_load_b2
  refine S_iload_n (kk := 2) g dX5_load_2 rfl rfl ?_
  refine S_aload_n (kk := 0) g dX5_load_3 rfl rfl ?_
  refine S_getr g dX5_load_4 fl_Mender_25 (at_40 hw) rfl (rc_40_0 hw) ?_
  refine S_getr g dX5_load_7 fl_Mender_36 (at_17 hw) rfl (rc_17_0 hw) ?_
  refine S_callVi (As := []) g dX5_load_10 (sX8_wires hw 18 (pl_18 hw) _) rfl (at_18 hw) rfl im_X8_wires se_X8_wires cw_X8_wires ml_Mender_82 ini_Plan nd_X8_wires ⟨by decide, by decide⟩ (Nat.le_of_ble_eq_true rfl) (fun r1 h2 => ?_)
  refine S_icmp_ge (tgt := 41) g dX5_load_13 (by decide) ?_ ?_
  · refine S_aload_n (kk := 0) g dX5_load_41 rfl rfl ?_
    refine S_iconst g dX5_load_42 ⟨by decide, by decide⟩ ?_
    refine S_puti g dX5_load_43 fp_Mender_85 (at_40 hw) rfl (fun h3 => ?_)
    refine S_iconst g dX5_load_46 ⟨by decide, by decide⟩ ?_
    refine S_istore_n g dX5_load_47 rfl (by decide) rfl ?_
    refine S_sub g [1, 2, 0] rfl ?_
    exact sX5_load_L48 hw g _ _ _
  · refine S_aload_n (kk := 0) g dX5_load_16 rfl rfl ?_
    refine S_getr g dX5_load_17 fl_Mender_15 (at_40 hw) rfl (rc_40_6 hw) ?_
    refine S_iload_n (kk := 2) g dX5_load_20 rfl rfl ?_
    refine S_aload_n (kk := 0) g dX5_load_21 rfl rfl ?_
    refine S_getr g dX5_load_22 fl_Mender_25 (at_40 hw) rfl (rc_40_0 hw) ?_
    refine S_getr g dX5_load_25 fl_Mender_60 (at_17 hw) rfl (rc_17_4 hw) ?_
    refine S_iconst g dX5_load_28 ⟨by decide, by decide⟩ ?_
    refine S_iload_n (kk := 2) g dX5_load_29 rfl rfl ?_
    refine S_imul g dX5_load_30 ?_
    refine S_iload_n (kk := 1) g dX5_load_31 rfl rfl ?_
    refine S_iadd g dX5_load_32 ?_
    refine S_laload g dX5_load_33 (at_25 hw) ?_
    refine S_lastore g dX5_load_34 (at_42 hw) (fun h8 => ?_)
    refine S_iinc (kk := 2) g dX5_load_35 rfl (by decide) rfl ?_
    refine S_goto (tgt := 2) g dX5_load_38 (by decide) ?_
    refine S_sub g [1, 2, 0] rfl ?_
    exact hs2 _ _ _

theorem sX5_load {G : GG} {w : Wd} (hw : okX w) (x0 : Int) (h : Hp) : SC G w yX5_load (Cond.code yX5_load cX5_load 4 (Option.none : Option Jvm.ClassFile.FieldType)) 2 3 [vP 40, vI x0] (XX5_load x0 h) h := by
  refine SC_of (own := "GatePatch$Mender") plain_Mender rfl (Nat.le_of_ble_eq_true rfl) (fun Γ hG g => ?_)
  subst hG
  show Sim Γ w 3 _ h 0 [(0, vP 40), (1, vI x0)] []
  unfold XX5_load
  refine S_iconst g dX5_load_0 ⟨by decide, by decide⟩ ?_
  refine S_istore_n g dX5_load_1 rfl (by decide) rfl ?_
  refine S_sub g [1, 2, 0] rfl ?_
  exact sX5_load_L2 hw g _ _ _

def XX5_pinNow (x0 : Int) (x1 : Int) (h : Hp) : OR :=
  chk (3 * x0) (chk ((3 * x0) + x1) (inb ((3 * x0) + x1) 144 (nm (h 20 ((3 * x0) + x1).toNat) (fun v1 => if 0 ≤ v1 then inb v1 48 (some ((h 42 v1.toNat), h)) else some (0, h)))))
theorem sX5_pinNow {G : GG} {w : Wd} (hw : okX w) (x0 : Int) (x1 : Int) (h : Hp) : SC G w yX5_pinNow (Cond.code yX5_pinNow cX5_pinNow 4 (Option.some Jvm.ClassFile.FieldType.long)) 1 1 [vP 40, vI x0, vI x1] (XX5_pinNow x0 x1 h) h := by
  refine SC_of (own := "GatePatch$Mender") plain_Mender rfl (Nat.le_of_ble_eq_true rfl) (fun Γ hG g => ?_)
  subst hG
  show Sim Γ w 1 _ h 0 [(0, vP 40), (1, vI x0), (2, vI x1)] []
  unfold XX5_pinNow
  refine S_aload_n (kk := 0) g dX5_pinNow_0 rfl rfl ?_
  refine S_getr g dX5_pinNow_1 fl_Mender_25 (at_40 hw) rfl (rc_40_0 hw) ?_
  refine S_getr g dX5_pinNow_4 fl_Mender_36 (at_17 hw) rfl (rc_17_0 hw) ?_
  refine S_getr g dX5_pinNow_7 fl_Mender_113 (at_18 hw) rfl (rc_18_5 hw) ?_
  refine S_iconst g dX5_pinNow_10 ⟨by decide, by decide⟩ ?_
  refine S_iload_n (kk := 1) g dX5_pinNow_11 rfl rfl ?_
  refine S_imul g dX5_pinNow_12 ?_
  refine S_iload_n (kk := 2) g dX5_pinNow_13 rfl rfl ?_
  refine S_iadd g dX5_pinNow_14 ?_
  refine S_iaload g dX5_pinNow_15 (at_20 hw) ?_
  refine S_nmI (fun v1 => ?_)
  refine S_istore_n g dX5_pinNow_16 rfl (by decide) rfl ?_
  refine S_iload_n (kk := 0) g dX5_pinNow_17 rfl rfl ?_
  refine S_if_ge (tgt := 25) g dX5_pinNow_18 (by decide) ?_ ?_
  · refine S_aload_n (kk := 1) g dX5_pinNow_25 rfl rfl ?_
    refine S_getr g dX5_pinNow_26 fl_Mender_15 (at_40 hw) rfl (rc_40_6 hw) ?_
    refine S_iload_n (kk := 0) g dX5_pinNow_29 rfl rfl ?_
    refine S_laload g dX5_pinNow_30 (at_42 hw) ?_
    exact S_lreturn g dX5_pinNow_31 rfl
  · refine S_lconst (x := 0) g dX5_pinNow_21 ⟨by decide, by decide⟩ rfl ?_
    refine S_goto (tgt := 31) g dX5_pinNow_22 (by decide) ?_
    exact S_lreturn g dX5_pinNow_31 rfl

def XX5_mended_b112   (self112 : Int → Int → Hp → OR) (l2 l4 : Int) (h : Hp) : OR :=
  cal (XX8_seenCount 18 h) (fun r1 h2 => if r1 ≤ l4 then some (l2, h2) else inb l4 6 (inb (h2 21 l4.toNat) 48 (inb l4 6 (chk (4 * (h2 31 l4.toNat)) (chk ((4 * (h2 31 l4.toNat)) + (h2 40 9)) (inb ((4 * (h2 31 l4.toNat)) + (h2 40 9)) 192 (nm (jand l2 (jxor (jxor (h2 42 (h2 21 l4.toNat).toNat) (h2 35 ((4 * (h2 31 l4.toNat)) + (h2 40 9)).toNat)) (-1))) (fun v3 => chk (l4 + 1) (self112 v3 (l4 + 1) h2)))))))))
def XX5_mended_L112   (l2 l4 : Int) (h : Hp) : OR := lup2 (XX5_mended_b112 ) FU l2 l4 h
def XX5_mended_b45   (self45 : Int → Hp → OR) (l2 : Int) (h : Hp) : OR :=
  if (h 40 8) ≤ l2 then XX5_mended_L112 (-1) 0 h else inb l2 40 (nm (h 43 l2.toNat) (fun v4 => inb v4 48 (cal (XX5_pinNow v4 0 h) (fun r5 h6 => cal (XX5_pinNow v4 1 h6) (fun r7 h8 => cal (XX5_pinNow v4 2 h8) (fun r9 h10 => cal (XX6_made (h 19 v4.toNat) r5 r7 r9 h10) (fun r11 h12 => inb v4 48 (hm (wr h12 42 v4.toNat r11) (fun h13 => chk (l2 + 1) (self45 (l2 + 1) h13))))))))))
def XX5_mended_L45   (l2 : Int) (h : Hp) : OR := lup1 (XX5_mended_b45 ) FU l2 h
def XX5_mended_p36  (self2 : Int → Int → Hp → OR) (l1 l2 : Int) (s1 s2 : Int) (h : Hp) : OR :=
  inb s1 48 (hm (wr h 42 s1.toNat s2) (fun h14 => chk (l2 + 1) (self2 l1 (l2 + 1) h14)))
def XX5_mended_b2   (self2 : Int → Int → Hp → OR) (l1 l2 : Int) (h : Hp) : OR :=
  if (h 40 4) ≤ l2 then XX5_mended_L45 0 h else inb l2 3 (if (aand (ashr l1 l2) 1) = 1 then XX5_mended_p36 self2 l1 l2 (h 41 l2.toNat) (-1) h else XX5_mended_p36 self2 l1 l2 (h 41 l2.toNat) 0 h)
def XX5_mended_L2   (l1 l2 : Int) (h : Hp) : OR := lup2 (XX5_mended_b2 ) FU l1 l2 h
def XX5_mended (x0 : Int) (h : Hp) : OR :=
  XX5_mended_L2 x0 0 h
theorem sX5_mended_L112 {Γ : Cx} {w : Wd} (hw : okX w) (g : Gd Γ cX5_mended 5 "GatePatch$Mender" (Option.some Jvm.ClassFile.FieldType.long) (rmd 2))   : ∀ (l2 l4 : Int) (h : Hp), Sim Γ w 1 (XX5_mended_L112  l2 l4 h) h 112 [(0, vP 40), (2, vJ l2), (4, vI l4)] [] := by
  refine S_lup2 (fun l2 l4 => [(0, vP 40), (2, vJ l2), (4, vI l4)]) (fun self112 hs112 l2 l4 h => ?_) FU
  unfold XX5_mended_b112
  refine S_iload (kk := 2) g dX5_mended_112 rfl ?_
  refine S_aload_n (kk := 0) g dX5_mended_114 rfl rfl ?_
  refine S_getr g dX5_mended_115 fl_Mender_25 (at_40 hw) rfl (rc_40_0 hw) ?_
  refine S_getr g dX5_mended_118 fl_Mender_36 (at_17 hw) rfl (rc_17_0 hw) ?_
  refine S_callVi (As := []) g dX5_mended_121 (sX8_seenCount hw 18 (pl_18 hw) _) rfl (at_18 hw) rfl im_X8_seenCount se_X8_seenCount cw_X8_seenCount ml_Mender_56 ini_Plan nd_X8_seenCount ⟨by decide, by decide⟩ (Nat.le_of_ble_eq_true rfl) (fun r1 h2 => ?_)
  refine S_icmp_ge (tgt := 187) g dX5_mended_124 (by decide) ?_ ?_
  · refine S_lload_n (kk := 1) g dX5_mended_187 rfl rfl ?_
    exact S_lreturn g dX5_mended_188 rfl
  · refine S_lload_n (kk := 1) g dX5_mended_127 rfl rfl ?_
    refine S_aload_n (kk := 0) g dX5_mended_128 rfl rfl ?_
    refine S_getr g dX5_mended_129 fl_Mender_15 (at_40 hw) rfl (rc_40_6 hw) ?_
    refine S_aload_n (kk := 0) g dX5_mended_132 rfl rfl ?_
    refine S_getr g dX5_mended_133 fl_Mender_25 (at_40 hw) rfl (rc_40_0 hw) ?_
    refine S_getr g dX5_mended_136 fl_Mender_36 (at_17 hw) rfl (rc_17_0 hw) ?_
    refine S_getr g dX5_mended_139 fl_Mender_63 (at_18 hw) rfl (rc_18_6 hw) ?_
    refine S_iload (kk := 2) g dX5_mended_142 rfl ?_
    refine S_iaload g dX5_mended_144 (at_21 hw) ?_
    refine S_laload g dX5_mended_145 (at_42 hw) ?_
    refine S_aload_n (kk := 0) g dX5_mended_146 rfl rfl ?_
    refine S_getr g dX5_mended_147 fl_Mender_29 (at_40 hw) rfl (rc_40_1 hw) ?_
    refine S_getr g dX5_mended_150 fl_Mender_60 (at_27 hw) rfl (rc_27_4 hw) ?_
    refine S_iconst g dX5_mended_153 ⟨by decide, by decide⟩ ?_
    refine S_aload_n (kk := 0) g dX5_mended_154 rfl rfl ?_
    refine S_getr g dX5_mended_155 fl_Mender_29 (at_40 hw) rfl (rc_40_1 hw) ?_
    refine S_getr g dX5_mended_158 fl_Mender_36 (at_27 hw) rfl (rc_27_0 hw) ?_
    refine S_getr g dX5_mended_161 fl_Mender_63 (at_28 hw) rfl (rc_28_6 hw) ?_
    refine S_iload (kk := 2) g dX5_mended_164 rfl ?_
    refine S_iaload g dX5_mended_166 (at_31 hw) ?_
    refine S_imul g dX5_mended_167 ?_
    refine S_aload_n (kk := 0) g dX5_mended_168 rfl rfl ?_
    refine S_geti g dX5_mended_169 fl_Mender_97 (at_40 hw) (Or.inl rfl) ?_
    refine S_iadd g dX5_mended_172 ?_
    refine S_laload g dX5_mended_173 (at_35 hw) ?_
    refine S_lxor g dX5_mended_174 ?_
    refine S_ldc2 g dX5_mended_175 ⟨by decide, by decide⟩ k_Mender_100 ?_
    refine S_lxor g dX5_mended_178 ?_
    refine S_land g dX5_mended_179 ?_
    refine S_nmJ (fun v3 => ?_)
    refine S_lstore_n g dX5_mended_180 rfl (by decide) rfl ?_
    refine S_iinc (kk := 2) g dX5_mended_181 rfl (by decide) rfl ?_
    refine S_goto (tgt := 112) g dX5_mended_184 (by decide) ?_
    refine S_sub g [2, 1, 0] rfl ?_
    exact hs112 _ _ _

theorem sX5_mended_L45 {Γ : Cx} {w : Wd} (hw : okX w) (g : Gd Γ cX5_mended 5 "GatePatch$Mender" (Option.some Jvm.ClassFile.FieldType.long) (rmd 2))   : ∀ (l2 : Int) (h : Hp), Sim Γ w 1 (XX5_mended_L45  l2 h) h 45 [(0, vP 40), (2, vI l2)] [] := by
  refine S_lup1 (fun l2 => [(0, vP 40), (2, vI l2)]) (fun self45 hs45 l2 h => ?_) FU
  unfold XX5_mended_b45
  refine S_iload_n (kk := 1) g dX5_mended_45 rfl rfl ?_
  refine S_aload_n (kk := 0) g dX5_mended_46 rfl rfl ?_
  refine S_geti g dX5_mended_47 fl_Mender_85 (at_40 hw) (Or.inl rfl) ?_
  refine S_icmp_ge (tgt := 105) g dX5_mended_50 (by decide) ?_ ?_
  · refine S_ldc2 g dX5_mended_105 ⟨by decide, by decide⟩ k_Mender_100 ?_
    refine S_lstore_n g dX5_mended_108 rfl (by decide) rfl ?_
    refine S_iconst g dX5_mended_109 ⟨by decide, by decide⟩ ?_
    refine S_istore g dX5_mended_110 (by decide) rfl ?_
    refine S_sub g [2, 1, 0] rfl ?_
    exact sX5_mended_L112 hw g _ _ _
  · refine S_aload_n (kk := 0) g dX5_mended_53 rfl rfl ?_
    refine S_getr g dX5_mended_54 fl_Mender_19 (at_40 hw) rfl (rc_40_7 hw) ?_
    refine S_iload_n (kk := 1) g dX5_mended_57 rfl rfl ?_
    refine S_iaload g dX5_mended_58 (at_43 hw) ?_
    refine S_nmI (fun v4 => ?_)
    refine S_istore_n g dX5_mended_59 rfl (by decide) rfl ?_
    refine S_aload_n (kk := 1) g dX5_mended_60 rfl rfl ?_
    refine S_getr g dX5_mended_61 fl_Mender_15 (at_40 hw) rfl (rc_40_6 hw) ?_
    refine S_iload_n (kk := 0) g dX5_mended_64 rfl rfl ?_
    refine S_aload_n (kk := 1) g dX5_mended_65 rfl rfl ?_
    refine S_getr g dX5_mended_66 fl_Mender_25 (at_40 hw) rfl (rc_40_0 hw) ?_
    refine S_getr g dX5_mended_69 fl_Mender_36 (at_17 hw) rfl (rc_17_0 hw) ?_
    refine S_getr g dX5_mended_72 fl_Mender_102 (at_18 hw) rfl (rc_18_4 hw) ?_
    refine S_iload_n (kk := 0) g dX5_mended_75 rfl rfl ?_
    refine S_iaload g dX5_mended_76 (at_19 hw) ?_
    refine S_aload_n (kk := 1) g dX5_mended_77 rfl rfl ?_
    refine S_iload_n (kk := 0) g dX5_mended_78 rfl rfl ?_
    refine S_iconst g dX5_mended_79 ⟨by decide, by decide⟩ ?_
    refine S_callVj (As := [vI v4, vI 0]) g dX5_mended_80 (sX5_pinNow hw _ _ _) rfl (at_40 hw) rfl im_X5_pinNow se_X5_pinNow cw_X5_pinNow ml_Mender_105 ini_Mender nd_X5_pinNow ⟨by decide, by decide⟩ (Nat.le_of_ble_eq_true rfl) (fun r5 h6 => ?_)
    refine S_aload_n (kk := 1) g dX5_mended_83 rfl rfl ?_
    refine S_iload_n (kk := 0) g dX5_mended_84 rfl rfl ?_
    refine S_iconst g dX5_mended_85 ⟨by decide, by decide⟩ ?_
    refine S_callVj (As := [vI v4, vI 1]) g dX5_mended_86 (sX5_pinNow hw _ _ _) rfl (at_40 hw) rfl im_X5_pinNow se_X5_pinNow cw_X5_pinNow ml_Mender_105 ini_Mender nd_X5_pinNow ⟨by decide, by decide⟩ (Nat.le_of_ble_eq_true rfl) (fun r7 h8 => ?_)
    refine S_aload_n (kk := 1) g dX5_mended_89 rfl rfl ?_
    refine S_iload_n (kk := 0) g dX5_mended_90 rfl rfl ?_
    refine S_iconst g dX5_mended_91 ⟨by decide, by decide⟩ ?_
    refine S_callVj (As := [vI v4, vI 2]) g dX5_mended_92 (sX5_pinNow hw _ _ _) rfl (at_40 hw) rfl im_X5_pinNow se_X5_pinNow cw_X5_pinNow ml_Mender_105 ini_Mender nd_X5_pinNow ⟨by decide, by decide⟩ (Nat.le_of_ble_eq_true rfl) (fun r9 h10 => ?_)
    refine S_callSj (As := [vI (h 19 v4.toNat), vJ r5, vJ r7, vJ r9]) g dX5_mended_95 (sX6_made hw _ _ _ _ _) rfl st_X6_made cw_X6_made ml_Mender_109 ini_Net nd_X6_made ⟨by decide, by decide⟩ (Nat.le_of_ble_eq_true rfl) (fun r11 h12 => ?_)
    refine S_lastore g dX5_mended_98 (at_42 hw) (fun h13 => ?_)
    refine S_iinc (kk := 2) g dX5_mended_99 rfl (by decide) rfl ?_
    refine S_goto (tgt := 45) g dX5_mended_102 (by decide) ?_
    refine S_sub g [2, 0] rfl ?_
    exact hs45 _ _

theorem sX5_mended_p36 {Γ : Cx} {w : Wd} (hw : okX w) (g : Gd Γ cX5_mended 5 "GatePatch$Mender" (Option.some Jvm.ClassFile.FieldType.long) (rmd 2))  (self2 : Int → Int → Hp → OR) (hs2 : ∀ (x0 x1 : Int) (h : Hp), Sim Γ w 1 (self2 x0 x1 h) h 2 [(0, vP 40), (1, vI x0), (2, vI x1)] []) (l1 l2 : Int) (s1 s2 : Int) (h : Hp) : Sim Γ w 1 (XX5_mended_p36 self2 l1 l2 s1 s2 h) h 36 [(0, vP 40), (1, vI l1), (2, vI l2)] [vJ s2, vI s1, vP 42] := by
  unfold XX5_mended_p36
  refine S_lastore g dX5_mended_36 (at_42 hw) (fun h14 => ?_)
  refine S_iinc (kk := 2) g dX5_mended_37 rfl (by decide) rfl ?_
  refine S_goto (tgt := 2) g dX5_mended_40 (by decide) ?_
  refine S_sub g [1, 2, 0] rfl ?_
  exact hs2 _ _ _

theorem sX5_mended_L2 {Γ : Cx} {w : Wd} (hw : okX w) (g : Gd Γ cX5_mended 5 "GatePatch$Mender" (Option.some Jvm.ClassFile.FieldType.long) (rmd 2))   : ∀ (l1 l2 : Int) (h : Hp), Sim Γ w 1 (XX5_mended_L2  l1 l2 h) h 2 [(0, vP 40), (1, vI l1), (2, vI l2)] [] := by
  refine S_lup2 (fun l1 l2 => [(0, vP 40), (1, vI l1), (2, vI l2)]) (fun self2 hs2 l1 l2 h => ?_) FU
  unfold XX5_mended_b2
  refine S_iload_n (kk := 2) g dX5_mended_2 rfl rfl ?_
  refine S_aload_n (kk := 0) g dX5_mended_3 rfl rfl ?_
  refine S_geti g dX5_mended_4 fl_Mender_48 (at_40 hw) (Or.inl rfl) ?_
  refine S_icmp_ge (tgt := 43) g dX5_mended_7 (by decide) ?_ ?_
  · refine S_iconst g dX5_mended_43 ⟨by decide, by decide⟩ ?_
    refine S_istore_n g dX5_mended_44 rfl (by decide) rfl ?_
    refine S_sub g [1, 0] rfl ?_
    exact sX5_mended_L45 hw g _ _
  · refine S_aload_n (kk := 0) g dX5_mended_10 rfl rfl ?_
    refine S_getr g dX5_mended_11 fl_Mender_15 (at_40 hw) rfl (rc_40_6 hw) ?_
    refine S_aload_n (kk := 0) g dX5_mended_14 rfl rfl ?_
    refine S_getr g dX5_mended_15 fl_Mender_9 (at_40 hw) rfl (rc_40_3 hw) ?_
    refine S_iload_n (kk := 2) g dX5_mended_18 rfl rfl ?_
    refine S_iaload g dX5_mended_19 (at_41 hw) ?_
    refine S_iload_n (kk := 1) g dX5_mended_20 rfl rfl ?_
    refine S_iload_n (kk := 2) g dX5_mended_21 rfl rfl ?_
    refine S_ishr g dX5_mended_22 ?_
    refine S_iconst g dX5_mended_23 ⟨by decide, by decide⟩ ?_
    refine S_iand g dX5_mended_24 ?_
    refine S_iconst g dX5_mended_25 ⟨by decide, by decide⟩ ?_
    refine S_icmp_ne (tgt := 35) g dX5_mended_26 (by decide) ?_ ?_
    · refine S_lconst (x := 0) g dX5_mended_35 ⟨by decide, by decide⟩ rfl ?_
      exact sX5_mended_p36 hw g self2 hs2 _ _ _ _ _
    · refine S_ldc2 g dX5_mended_29 ⟨by decide, by decide⟩ k_Mender_100 ?_
      refine S_goto (tgt := 36) g dX5_mended_32 (by decide) ?_
      exact sX5_mended_p36 hw g self2 hs2 _ _ _ _ _

theorem sX5_mended {G : GG} {w : Wd} (hw : okX w) (x0 : Int) (h : Hp) : SC G w yX5_mended (Cond.code yX5_mended cX5_mended 5 (Option.some Jvm.ClassFile.FieldType.long)) 2 1 [vP 40, vI x0] (XX5_mended x0 h) h := by
  refine SC_of (own := "GatePatch$Mender") plain_Mender rfl (Nat.le_of_ble_eq_true rfl) (fun Γ hG g => ?_)
  subst hG
  show Sim Γ w 1 _ h 0 [(0, vP 40), (1, vI x0)] []
  unfold XX5_mended
  refine S_iconst g dX5_mended_0 ⟨by decide, by decide⟩ ?_
  refine S_istore_n g dX5_mended_1 rfl (by decide) rfl ?_
  refine S_sub g [1, 2, 0] rfl ?_
  exact sX5_mended_L2 hw g _ _ _

def XX5_unmended_b26   (self26 : Int → Int → Hp → OR) (l2 l4 : Int) (h : Hp) : OR :=
  cal (XX5_assignments h) (fun r4 h5 => if r4 ≤ l4 then some (l2, h5) else if (jcmp l2 0) = 0 then some (l2, h5) else cal (XX5_mended l4 h5) (fun r6 h7 => nm (jand l2 (jxor r6 (-1))) (fun v8 => chk (l4 + 1) (self26 v8 (l4 + 1) h7))))
def XX5_unmended_L26   (l2 l4 : Int) (h : Hp) : OR := lup2 (XX5_unmended_b26 ) FU l2 l4 h
def XX5_unmended (x0 : Int) (h : Hp) : OR :=
  inb x0 4 (nm (h 39 x0.toNat) (fun v1 => if (jcmp v1 0) = 0 then some (0, h) else cal (XX5_load x0 h) (fun r2 h3 => XX5_unmended_L26 v1 0 h3)))
theorem sX5_unmended_L26 {Γ : Cx} {w : Wd} (hw : okX w) (g : Gd Γ cX5_unmended 5 "GatePatch$Mender" (Option.some Jvm.ClassFile.FieldType.long) (rmd 3))   : ∀ (l2 l4 : Int) (h : Hp), Sim Γ w 1 (XX5_unmended_L26  l2 l4 h) h 26 [(0, vP 40), (2, vJ l2), (4, vI l4)] [] := by
  refine S_lup2 (fun l2 l4 => [(0, vP 40), (2, vJ l2), (4, vI l4)]) (fun self26 hs26 l2 l4 h => ?_) FU
  unfold XX5_unmended_b26
  refine S_iload (kk := 2) g dX5_unmended_26 rfl ?_
  refine S_aload_n (kk := 0) g dX5_unmended_28 rfl rfl ?_
  refine S_callVi (As := []) g dX5_unmended_29 (sX5_assignments hw  _) rfl (at_40 hw) rfl im_X5_assignments se_X5_assignments cw_X5_assignments ml_Mender_120 ini_Mender nd_X5_assignments ⟨by decide, by decide⟩ (Nat.le_of_ble_eq_true rfl) (fun r4 h5 => ?_)
  refine S_icmp_ge (tgt := 60) g dX5_unmended_32 (by decide) ?_ ?_
  · refine S_lload_n (kk := 1) g dX5_unmended_60 rfl rfl ?_
    exact S_lreturn g dX5_unmended_61 rfl
  · refine S_lload_n (kk := 1) g dX5_unmended_35 rfl rfl ?_
    refine S_lconst (x := 0) g dX5_unmended_36 ⟨by decide, by decide⟩ rfl ?_
    refine S_lcmp g dX5_unmended_37 ?_
    refine S_if_eq (tgt := 60) g dX5_unmended_38 (by decide) ?_ ?_
    · refine S_lload_n (kk := 1) g dX5_unmended_60 rfl rfl ?_
      exact S_lreturn g dX5_unmended_61 rfl
    · refine S_lload_n (kk := 1) g dX5_unmended_41 rfl rfl ?_
      refine S_aload_n (kk := 0) g dX5_unmended_42 rfl rfl ?_
      refine S_iload (kk := 2) g dX5_unmended_43 rfl ?_
      refine S_callVj (As := [vI l4]) g dX5_unmended_45 (sX5_mended hw _ _) rfl (at_40 hw) rfl im_X5_mended se_X5_mended cw_X5_mended ml_Mender_123 ini_Mender nd_X5_mended ⟨by decide, by decide⟩ (Nat.le_of_ble_eq_true rfl) (fun r6 h7 => ?_)
      refine S_ldc2 g dX5_unmended_48 ⟨by decide, by decide⟩ k_Mender_100 ?_
      refine S_lxor g dX5_unmended_51 ?_
      refine S_land g dX5_unmended_52 ?_
      refine S_nmJ (fun v8 => ?_)
      refine S_lstore_n g dX5_unmended_53 rfl (by decide) rfl ?_
      refine S_iinc (kk := 2) g dX5_unmended_54 rfl (by decide) rfl ?_
      refine S_goto (tgt := 26) g dX5_unmended_57 (by decide) ?_
      refine S_sub g [2, 1, 0] rfl ?_
      exact hs26 _ _ _

theorem sX5_unmended {G : GG} {w : Wd} (hw : okX w) (x0 : Int) (h : Hp) : SC G w yX5_unmended (Cond.code yX5_unmended cX5_unmended 5 (Option.some Jvm.ClassFile.FieldType.long)) 3 1 [vP 40, vI x0] (XX5_unmended x0 h) h := by
  refine SC_of (own := "GatePatch$Mender") plain_Mender rfl (Nat.le_of_ble_eq_true rfl) (fun Γ hG g => ?_)
  subst hG
  show Sim Γ w 1 _ h 0 [(0, vP 40), (1, vI x0)] []
  unfold XX5_unmended
  refine S_aload_n (kk := 0) g dX5_unmended_0 rfl rfl ?_
  refine S_getr g dX5_unmended_1 fl_Mender_32 (at_40 hw) rfl (rc_40_2 hw) ?_
  refine S_getr g dX5_unmended_4 fl_Mender_66 (at_37 hw) rfl (rc_37_3 hw) ?_
  refine S_iload_n (kk := 1) g dX5_unmended_7 rfl rfl ?_
  refine S_laload g dX5_unmended_8 (at_39 hw) ?_
  refine S_nmJ (fun v1 => ?_)
  refine S_lstore_n g dX5_unmended_9 rfl (by decide) rfl ?_
  refine S_lload_n (kk := 0) g dX5_unmended_10 rfl rfl ?_
  refine S_lconst (x := 0) g dX5_unmended_11 ⟨by decide, by decide⟩ rfl ?_
  refine S_lcmp g dX5_unmended_12 ?_
  refine S_if_ne (tgt := 18) g dX5_unmended_13 (by decide) ?_ ?_
  · refine S_aload_n (kk := 1) g dX5_unmended_18 rfl rfl ?_
    refine S_iload_n (kk := 2) g dX5_unmended_19 rfl rfl ?_
    refine S_callVv (As := [vI x0]) g dX5_unmended_20 (sX5_load hw _ _) rfl (at_40 hw) rfl im_X5_load se_X5_load cw_X5_load ml_Mender_116 ini_Mender nd_X5_load ⟨by decide, by decide⟩ (Nat.le_of_ble_eq_true rfl) (fun r2 h3 => ?_)
    refine S_iconst g dX5_unmended_23 ⟨by decide, by decide⟩ ?_
    refine S_istore g dX5_unmended_24 (by decide) rfl ?_
    refine S_sub g [2, 1, 0] rfl ?_
    exact sX5_unmended_L26 hw g _ _ _
  · refine S_lconst (x := 0) g dX5_unmended_16 ⟨by decide, by decide⟩ rfl ?_
    exact S_lreturn g dX5_unmended_17 rfl

def XX5_firstUnmended_b2   (self2 : Int → Hp → OR) (l1 : Int) (h : Hp) : OR :=
  if (h 37 1) ≤ l1 then some (1000, h) else cal (XX5_unmended l1 h) (fun r1 h2 => if (jcmp r1 0) = 0 then chk (l1 + 1) (self2 (l1 + 1) h2) else cal (XX0_lowest l1 r1 h2) (fun r3 h4 => some (r3, h4)))
def XX5_firstUnmended_L2   (l1 : Int) (h : Hp) : OR := lup1 (XX5_firstUnmended_b2 ) FU l1 h
def XX5_firstUnmended  (h : Hp) : OR :=
  XX5_firstUnmended_L2 0 h
theorem sX5_firstUnmended_L2 {Γ : Cx} {w : Wd} (hw : okX w) (g : Gd Γ cX5_firstUnmended 4 "GatePatch$Mender" (Option.some Jvm.ClassFile.FieldType.int) (rmd 4))   : ∀ (l1 : Int) (h : Hp), Sim Γ w 0 (XX5_firstUnmended_L2  l1 h) h 2 [(0, vP 40), (1, vI l1)] [] := by
  refine S_lup1 (fun l1 => [(0, vP 40), (1, vI l1)]) (fun self2 hs2 l1 h => ?_) FU
  unfold XX5_firstUnmended_b2
  refine S_iload_n (kk := 1) g dX5_firstUnmended_2 rfl rfl ?_
  refine S_aload_n (kk := 0) g dX5_firstUnmended_3 rfl rfl ?_
  refine S_getr g dX5_firstUnmended_4 fl_Mender_32 (at_40 hw) rfl (rc_40_2 hw) ?_
  refine S_geti g dX5_firstUnmended_7 fl_Mender_71 (at_37 hw) (Or.inl rfl) ?_
  refine S_icmp_ge (tgt := 37) g dX5_firstUnmended_10 (by decide) ?_ ?_
  · refine S_sipush g dX5_firstUnmended_37 ⟨by decide, by decide⟩ rfl ?_
    exact S_ireturn g dX5_firstUnmended_40 rfl
  · refine S_aload_n (kk := 0) g dX5_firstUnmended_13 rfl rfl ?_
    refine S_iload_n (kk := 1) g dX5_firstUnmended_14 rfl rfl ?_
    refine S_callVj (As := [vI l1]) g dX5_firstUnmended_15 (sX5_unmended hw _ _) rfl (at_40 hw) rfl im_X5_unmended se_X5_unmended cw_X5_unmended ml_Mender_126 ini_Mender nd_X5_unmended ⟨by decide, by decide⟩ (Nat.le_of_ble_eq_true rfl) (fun r1 h2 => ?_)
    refine S_lstore_n g dX5_firstUnmended_18 rfl (by decide) rfl ?_
    refine S_lload_n (kk := 0) g dX5_firstUnmended_19 rfl rfl ?_
    refine S_lconst (x := 0) g dX5_firstUnmended_20 ⟨by decide, by decide⟩ rfl ?_
    refine S_lcmp g dX5_firstUnmended_21 ?_
    refine S_if_eq (tgt := 31) g dX5_firstUnmended_22 (by decide) ?_ ?_
    · refine S_iinc (kk := 2) g dX5_firstUnmended_31 rfl (by decide) rfl ?_
      refine S_goto (tgt := 2) g dX5_firstUnmended_34 (by decide) ?_
      refine S_sub g [2, 0] rfl ?_
      exact hs2 _ _
    · refine S_iload_n (kk := 2) g dX5_firstUnmended_25 rfl rfl ?_
      refine S_lload_n (kk := 0) g dX5_firstUnmended_26 rfl rfl ?_
      refine S_callSi (As := [vI l1, vJ r1]) g dX5_firstUnmended_27 (sX0_lowest hw _ _ _) rfl st_X0_lowest cw_X0_lowest ml_Mender_78 ini_Cases nd_X0_lowest ⟨by decide, by decide⟩ (Nat.le_of_ble_eq_true rfl) (fun r3 h4 => ?_)
      exact S_ireturn g dX5_firstUnmended_30 rfl

theorem sX5_firstUnmended {G : GG} {w : Wd} (hw : okX w)  (h : Hp) : SC G w yX5_firstUnmended (Cond.code yX5_firstUnmended cX5_firstUnmended 4 (Option.some Jvm.ClassFile.FieldType.int)) 4 0 [vP 40] (XX5_firstUnmended  h) h := by
  refine SC_of (own := "GatePatch$Mender") plain_Mender rfl (Nat.le_of_ble_eq_true rfl) (fun Γ hG g => ?_)
  subst hG
  show Sim Γ w 0 _ h 0 [(0, vP 40)] []
  unfold XX5_firstUnmended
  refine S_iconst g dX5_firstUnmended_0 ⟨by decide, by decide⟩ ?_
  refine S_istore_n g dX5_firstUnmended_1 rfl (by decide) rfl ?_
  refine S_sub g [1, 0] rfl ?_
  exact sX5_firstUnmended_L2 hw g _ _

def XX5_leastMending_b10   (self10 : Int → Int → Hp → OR) (l1 l2 : Int) (h : Hp) : OR :=
  cal (XX5_assignments h) (fun r3 h4 => if r3 ≤ l2 then some ((-4), h4) else cal (XX5_mended l2 h4) (fun r5 h6 => chk (l1 - l1.tdiv 64 * 64) (if (jcmp (jand (jshr r5 (l1 - l1.tdiv 64 * 64)) 1) 1) = 0 then some (l2, h6) else chk (l2 + 1) (self10 l1 (l2 + 1) h6))))
def XX5_leastMending_L10   (l1 l2 : Int) (h : Hp) : OR := lup2 (XX5_leastMending_b10 ) FU l1 l2 h
def XX5_leastMending (x0 : Int) (h : Hp) : OR :=
  chk (x0.tdiv 64) (cal (XX5_load (x0.tdiv 64) h) (fun r1 h2 => XX5_leastMending_L10 x0 0 h2))
theorem sX5_leastMending_L10 {Γ : Cx} {w : Wd} (hw : okX w) (g : Gd Γ cX5_leastMending 3 "GatePatch$Mender" (Option.some Jvm.ClassFile.FieldType.int) (rmd 3))   : ∀ (l1 l2 : Int) (h : Hp), Sim Γ w 0 (XX5_leastMending_L10  l1 l2 h) h 10 [(0, vP 40), (1, vI l1), (2, vI l2)] [] := by
  refine S_lup2 (fun l1 l2 => [(0, vP 40), (1, vI l1), (2, vI l2)]) (fun self10 hs10 l1 l2 h => ?_) FU
  unfold XX5_leastMending_b10
  refine S_iload_n (kk := 2) g dX5_leastMending_10 rfl rfl ?_
  refine S_aload_n (kk := 0) g dX5_leastMending_11 rfl rfl ?_
  refine S_callVi (As := []) g dX5_leastMending_12 (sX5_assignments hw  _) rfl (at_40 hw) rfl im_X5_assignments se_X5_assignments cw_X5_assignments ml_Mender_120 ini_Mender nd_X5_assignments ⟨by decide, by decide⟩ (Nat.le_of_ble_eq_true rfl) (fun r3 h4 => ?_)
  refine S_icmp_ge (tgt := 43) g dX5_leastMending_15 (by decide) ?_ ?_
  · refine S_bipush g dX5_leastMending_43 ⟨by decide, by decide⟩ rfl ?_
    exact S_ireturn g dX5_leastMending_45 rfl
  · refine S_aload_n (kk := 0) g dX5_leastMending_18 rfl rfl ?_
    refine S_iload_n (kk := 2) g dX5_leastMending_19 rfl rfl ?_
    refine S_callVj (As := [vI l2]) g dX5_leastMending_20 (sX5_mended hw _ _) rfl (at_40 hw) rfl im_X5_mended se_X5_mended cw_X5_mended ml_Mender_123 ini_Mender nd_X5_mended ⟨by decide, by decide⟩ (Nat.le_of_ble_eq_true rfl) (fun r5 h6 => ?_)
    refine S_iload_n (kk := 1) g dX5_leastMending_23 rfl rfl ?_
    refine S_bipush g dX5_leastMending_24 ⟨by decide, by decide⟩ rfl ?_
    refine S_irem g dX5_leastMending_26 (by decide) ?_
    refine S_lshr g dX5_leastMending_27 ?_
    refine S_lconst (x := 1) g dX5_leastMending_28 ⟨by decide, by decide⟩ rfl ?_
    refine S_land g dX5_leastMending_29 ?_
    refine S_lconst (x := 1) g dX5_leastMending_30 ⟨by decide, by decide⟩ rfl ?_
    refine S_lcmp g dX5_leastMending_31 ?_
    refine S_if_ne (tgt := 37) g dX5_leastMending_32 (by decide) ?_ ?_
    · refine S_iinc (kk := 2) g dX5_leastMending_37 rfl (by decide) rfl ?_
      refine S_goto (tgt := 10) g dX5_leastMending_40 (by decide) ?_
      refine S_sub g [1, 2, 0] rfl ?_
      exact hs10 _ _ _
    · refine S_iload_n (kk := 2) g dX5_leastMending_35 rfl rfl ?_
      exact S_ireturn g dX5_leastMending_36 rfl

theorem sX5_leastMending {G : GG} {w : Wd} (hw : okX w) (x0 : Int) (h : Hp) : SC G w yX5_leastMending (Cond.code yX5_leastMending cX5_leastMending 3 (Option.some Jvm.ClassFile.FieldType.int)) 3 0 [vP 40, vI x0] (XX5_leastMending x0 h) h := by
  refine SC_of (own := "GatePatch$Mender") plain_Mender rfl (Nat.le_of_ble_eq_true rfl) (fun Γ hG g => ?_)
  subst hG
  show Sim Γ w 0 _ h 0 [(0, vP 40), (1, vI x0)] []
  unfold XX5_leastMending
  refine S_aload_n (kk := 0) g dX5_leastMending_0 rfl rfl ?_
  refine S_iload_n (kk := 1) g dX5_leastMending_1 rfl rfl ?_
  refine S_bipush g dX5_leastMending_2 ⟨by decide, by decide⟩ rfl ?_
  refine S_idiv g dX5_leastMending_4 (by decide) ?_
  refine S_callVv (As := [vI (x0.tdiv 64)]) g dX5_leastMending_5 (sX5_load hw _ _) rfl (at_40 hw) rfl im_X5_load se_X5_load cw_X5_load ml_Mender_116 ini_Mender nd_X5_load ⟨by decide, by decide⟩ (Nat.le_of_ble_eq_true rfl) (fun r1 h2 => ?_)
  refine S_iconst g dX5_leastMending_8 ⟨by decide, by decide⟩ ?_
  refine S_istore_n g dX5_leastMending_9 rfl (by decide) rfl ?_
  refine S_sub g [1, 2, 0] rfl ?_
  exact sX5_leastMending_L10 hw g _ _ _

def XX5_writeLeast_p84 (a1 : Nat) (self2 : Int → Hp → OR) (self31 : Int → Int → Int → Hp → OR) (self53 : Int → Int → Int → Int → Int → Hp → OR) (l2 l3 l5 l6 l8 : Int) (h : Hp) : OR :=
  chk (l8 + 1) (self53 l2 l3 l5 l6 (l8 + 1) h)
def XX5_writeLeast_b53 (a1 : Nat) (self2 : Int → Hp → OR) (self31 : Int → Int → Int → Hp → OR) (self53 : Int → Int → Int → Int → Int → Hp → OR) (l2 l3 l5 l6 l8 : Int) (h : Hp) : OR :=
  if 64 ≤ l8 then nm (jand l3 (jxor l6 (-1))) (fun v9 => chk (l5 + 1) (self31 l2 v9 (l5 + 1) h)) else if (jcmp (jand (jshr l6 l8) 1) 1) = 0 then chk (64 * l2) (chk ((64 * l2) + l8) (inb ((64 * l2) + l8) 256 (hm (wr h a1 ((64 * l2) + l8).toNat l5) (fun h10 => XX5_writeLeast_p84 a1 self2 self31 self53 l2 l3 l5 l6 l8 h10)))) else XX5_writeLeast_p84 a1 self2 self31 self53 l2 l3 l5 l6 l8 h
def XX5_writeLeast_L53 (a1 : Nat) (self2 : Int → Hp → OR) (self31 : Int → Int → Int → Hp → OR) (l2 l3 l5 l6 l8 : Int) (h : Hp) : OR := lup5 (XX5_writeLeast_b53 a1 self2 self31) FU l2 l3 l5 l6 l8 h
def XX5_writeLeast_b31 (a1 : Nat) (self2 : Int → Hp → OR) (self31 : Int → Int → Int → Hp → OR) (l2 l3 l5 : Int) (h : Hp) : OR :=
  cal (XX5_assignments h) (fun r4 h5 => if r4 ≤ l5 then chk (l2 + 1) (self2 (l2 + 1) h5) else cal (XX5_mended l5 h5) (fun r6 h7 => nm (jand r6 l3) (fun v8 => XX5_writeLeast_L53 a1 self2 self31 l2 l3 l5 v8 0 h7)))
def XX5_writeLeast_L31 (a1 : Nat) (self2 : Int → Hp → OR) (l2 l3 l5 : Int) (h : Hp) : OR := lup3 (XX5_writeLeast_b31 a1 self2) FU l2 l3 l5 h
def XX5_writeLeast_b2 (a1 : Nat)  (self2 : Int → Hp → OR) (l2 : Int) (h : Hp) : OR :=
  if (h 37 1) ≤ l2 then some (0, h) else cal (XX5_load l2 h) (fun r1 h2 => inb l2 4 (nm (h2 39 l2.toNat) (fun v3 => XX5_writeLeast_L31 a1 self2 l2 v3 0 h2)))
def XX5_writeLeast_L2 (a1 : Nat)  (l2 : Int) (h : Hp) : OR := lup1 (XX5_writeLeast_b2 a1) FU l2 h
def XX5_writeLeast (x0 : Nat) (h : Hp) : OR :=
  XX5_writeLeast_L2 x0 0 h
theorem sX5_writeLeast_p84 {Γ : Cx} {w : Wd} (hw : okX w) (g : Gd Γ cX5_writeLeast 9 "GatePatch$Mender" (Option.none : Option Jvm.ClassFile.FieldType) (rmd 3)) (a1 : Nat) (ha1 : At w a1 (2, 1, 256)) (self2 : Int → Hp → OR) (hs2 : ∀ (x0 : Int) (h : Hp), Sim Γ w 3 (self2 x0 h) h 2 [(0, vP 40), (1, vP a1), (2, vI x0)] []) (self31 : Int → Int → Int → Hp → OR) (hs31 : ∀ (x0 x1 x2 : Int) (h : Hp), Sim Γ w 3 (self31 x0 x1 x2 h) h 31 [(0, vP 40), (1, vP a1), (2, vI x0), (3, vJ x1), (5, vI x2)] []) (self53 : Int → Int → Int → Int → Int → Hp → OR) (hs53 : ∀ (x0 x1 x2 x3 x4 : Int) (h : Hp), Sim Γ w 3 (self53 x0 x1 x2 x3 x4 h) h 53 [(0, vP 40), (1, vP a1), (2, vI x0), (3, vJ x1), (5, vI x2), (6, vJ x3), (8, vI x4)] []) (l2 l3 l5 l6 l8 : Int) (h : Hp) : Sim Γ w 3 (XX5_writeLeast_p84 a1 self2 self31 self53 l2 l3 l5 l6 l8  h) h 84 [(0, vP 40), (1, vP a1), (2, vI l2), (3, vJ l3), (5, vI l5), (6, vJ l6), (8, vI l8)] [] := by
  unfold XX5_writeLeast_p84
  refine S_iinc (kk := 6) g dX5_writeLeast_84 rfl (by decide) rfl ?_
  refine S_goto (tgt := 53) g dX5_writeLeast_87 (by decide) ?_
  refine S_sub g [1, 2, 3, 4, 5, 6, 0] rfl ?_
  exact hs53 _ _ _ _ _ _

theorem sX5_writeLeast_L53 {Γ : Cx} {w : Wd} (hw : okX w) (g : Gd Γ cX5_writeLeast 9 "GatePatch$Mender" (Option.none : Option Jvm.ClassFile.FieldType) (rmd 3)) (a1 : Nat) (ha1 : At w a1 (2, 1, 256)) (self2 : Int → Hp → OR) (hs2 : ∀ (x0 : Int) (h : Hp), Sim Γ w 3 (self2 x0 h) h 2 [(0, vP 40), (1, vP a1), (2, vI x0)] []) (self31 : Int → Int → Int → Hp → OR) (hs31 : ∀ (x0 x1 x2 : Int) (h : Hp), Sim Γ w 3 (self31 x0 x1 x2 h) h 31 [(0, vP 40), (1, vP a1), (2, vI x0), (3, vJ x1), (5, vI x2)] []) : ∀ (l2 l3 l5 l6 l8 : Int) (h : Hp), Sim Γ w 3 (XX5_writeLeast_L53 a1 self2 self31 l2 l3 l5 l6 l8 h) h 53 [(0, vP 40), (1, vP a1), (2, vI l2), (3, vJ l3), (5, vI l5), (6, vJ l6), (8, vI l8)] [] := by
  refine S_lup5 (fun l2 l3 l5 l6 l8 => [(0, vP 40), (1, vP a1), (2, vI l2), (3, vJ l3), (5, vI l5), (6, vJ l6), (8, vI l8)]) (fun self53 hs53 l2 l3 l5 l6 l8 h => ?_) FU
  unfold XX5_writeLeast_b53
  refine S_iload (kk := 6) g dX5_writeLeast_53 rfl ?_
  refine S_bipush g dX5_writeLeast_55 ⟨by decide, by decide⟩ rfl ?_
  refine S_icmp_ge (tgt := 90) g dX5_writeLeast_57 (by decide) ?_ ?_
  · refine S_lload_n (kk := 3) g dX5_writeLeast_90 rfl rfl ?_
    refine S_lload (kk := 5) g dX5_writeLeast_91 rfl ?_
    refine S_ldc2 g dX5_writeLeast_93 ⟨by decide, by decide⟩ k_Mender_100 ?_
    refine S_lxor g dX5_writeLeast_96 ?_
    refine S_land g dX5_writeLeast_97 ?_
    refine S_nmJ (fun v9 => ?_)
    refine S_lstore_n g dX5_writeLeast_98 rfl (by decide) rfl ?_
    refine S_iinc (kk := 4) g dX5_writeLeast_99 rfl (by decide) rfl ?_
    refine S_goto (tgt := 31) g dX5_writeLeast_102 (by decide) ?_
    refine S_sub g [2, 3, 4, 1, 0] rfl ?_
    exact hs31 _ _ _ _
  · refine S_lload (kk := 5) g dX5_writeLeast_60 rfl ?_
    refine S_iload (kk := 6) g dX5_writeLeast_62 rfl ?_
    refine S_lshr g dX5_writeLeast_64 ?_
    refine S_lconst (x := 1) g dX5_writeLeast_65 ⟨by decide, by decide⟩ rfl ?_
    refine S_land g dX5_writeLeast_66 ?_
    refine S_lconst (x := 1) g dX5_writeLeast_67 ⟨by decide, by decide⟩ rfl ?_
    refine S_lcmp g dX5_writeLeast_68 ?_
    refine S_if_ne (tgt := 84) g dX5_writeLeast_69 (by decide) ?_ ?_
    · exact sX5_writeLeast_p84 hw g a1 ha1 self2 hs2 self31 hs31 self53 hs53 _ _ _ _ _ _
    · refine S_aload_n (kk := 1) g dX5_writeLeast_72 rfl rfl ?_
      refine S_bipush g dX5_writeLeast_73 ⟨by decide, by decide⟩ rfl ?_
      refine S_iload_n (kk := 2) g dX5_writeLeast_75 rfl rfl ?_
      refine S_imul g dX5_writeLeast_76 ?_
      refine S_iload (kk := 6) g dX5_writeLeast_77 rfl ?_
      refine S_iadd g dX5_writeLeast_79 ?_
      refine S_iload (kk := 4) g dX5_writeLeast_80 rfl ?_
      refine S_i2l g dX5_writeLeast_82 ?_
      refine S_lastore g dX5_writeLeast_83 ha1 (fun h10 => ?_)
      exact sX5_writeLeast_p84 hw g a1 ha1 self2 hs2 self31 hs31 self53 hs53 _ _ _ _ _ _

theorem sX5_writeLeast_L31 {Γ : Cx} {w : Wd} (hw : okX w) (g : Gd Γ cX5_writeLeast 9 "GatePatch$Mender" (Option.none : Option Jvm.ClassFile.FieldType) (rmd 3)) (a1 : Nat) (ha1 : At w a1 (2, 1, 256)) (self2 : Int → Hp → OR) (hs2 : ∀ (x0 : Int) (h : Hp), Sim Γ w 3 (self2 x0 h) h 2 [(0, vP 40), (1, vP a1), (2, vI x0)] []) : ∀ (l2 l3 l5 : Int) (h : Hp), Sim Γ w 3 (XX5_writeLeast_L31 a1 self2 l2 l3 l5 h) h 31 [(0, vP 40), (1, vP a1), (2, vI l2), (3, vJ l3), (5, vI l5)] [] := by
  refine S_lup3 (fun l2 l3 l5 => [(0, vP 40), (1, vP a1), (2, vI l2), (3, vJ l3), (5, vI l5)]) (fun self31 hs31 l2 l3 l5 h => ?_) FU
  unfold XX5_writeLeast_b31
  refine S_iload (kk := 4) g dX5_writeLeast_31 rfl ?_
  refine S_aload_n (kk := 0) g dX5_writeLeast_33 rfl rfl ?_
  refine S_callVi (As := []) g dX5_writeLeast_34 (sX5_assignments hw  _) rfl (at_40 hw) rfl im_X5_assignments se_X5_assignments cw_X5_assignments ml_Mender_120 ini_Mender nd_X5_assignments ⟨by decide, by decide⟩ (Nat.le_of_ble_eq_true rfl) (fun r4 h5 => ?_)
  refine S_icmp_ge (tgt := 105) g dX5_writeLeast_37 (by decide) ?_ ?_
  · refine S_iinc (kk := 2) g dX5_writeLeast_105 rfl (by decide) rfl ?_
    refine S_goto (tgt := 2) g dX5_writeLeast_108 (by decide) ?_
    refine S_sub g [1, 2, 0] rfl ?_
    exact hs2 _ _
  · refine S_aload_n (kk := 0) g dX5_writeLeast_40 rfl rfl ?_
    refine S_iload (kk := 4) g dX5_writeLeast_41 rfl ?_
    refine S_callVj (As := [vI l5]) g dX5_writeLeast_43 (sX5_mended hw _ _) rfl (at_40 hw) rfl im_X5_mended se_X5_mended cw_X5_mended ml_Mender_123 ini_Mender nd_X5_mended ⟨by decide, by decide⟩ (Nat.le_of_ble_eq_true rfl) (fun r6 h7 => ?_)
    refine S_lload_n (kk := 3) g dX5_writeLeast_46 rfl rfl ?_
    refine S_land g dX5_writeLeast_47 ?_
    refine S_nmJ (fun v8 => ?_)
    refine S_lstore g dX5_writeLeast_48 (by decide) rfl ?_
    refine S_iconst g dX5_writeLeast_50 ⟨by decide, by decide⟩ ?_
    refine S_istore g dX5_writeLeast_51 (by decide) rfl ?_
    refine S_sub g [2, 3, 4, 5, 6, 1, 0] rfl ?_
    exact sX5_writeLeast_L53 hw g a1 ha1 self2 hs2 self31 hs31 _ _ _ _ _ _

theorem sX5_writeLeast_L2 {Γ : Cx} {w : Wd} (hw : okX w) (g : Gd Γ cX5_writeLeast 9 "GatePatch$Mender" (Option.none : Option Jvm.ClassFile.FieldType) (rmd 3)) (a1 : Nat) (ha1 : At w a1 (2, 1, 256))  : ∀ (l2 : Int) (h : Hp), Sim Γ w 3 (XX5_writeLeast_L2 a1 l2 h) h 2 [(0, vP 40), (1, vP a1), (2, vI l2)] [] := by
  refine S_lup1 (fun l2 => [(0, vP 40), (1, vP a1), (2, vI l2)]) (fun self2 hs2 l2 h => ?_) FU
  unfold XX5_writeLeast_b2
  refine S_iload_n (kk := 2) g dX5_writeLeast_2 rfl rfl ?_
  refine S_aload_n (kk := 0) g dX5_writeLeast_3 rfl rfl ?_
  refine S_getr g dX5_writeLeast_4 fl_Mender_32 (at_40 hw) rfl (rc_40_2 hw) ?_
  refine S_geti g dX5_writeLeast_7 fl_Mender_71 (at_37 hw) (Or.inl rfl) ?_
  refine S_icmp_ge (tgt := 111) g dX5_writeLeast_10 (by decide) ?_ ?_
  · exact S_return g dX5_writeLeast_111 rfl
  · refine S_aload_n (kk := 0) g dX5_writeLeast_13 rfl rfl ?_
    refine S_iload_n (kk := 2) g dX5_writeLeast_14 rfl rfl ?_
    refine S_callVv (As := [vI l2]) g dX5_writeLeast_15 (sX5_load hw _ _) rfl (at_40 hw) rfl im_X5_load se_X5_load cw_X5_load ml_Mender_116 ini_Mender nd_X5_load ⟨by decide, by decide⟩ (Nat.le_of_ble_eq_true rfl) (fun r1 h2 => ?_)
    refine S_aload_n (kk := 0) g dX5_writeLeast_18 rfl rfl ?_
    refine S_getr g dX5_writeLeast_19 fl_Mender_32 (at_40 hw) rfl (rc_40_2 hw) ?_
    refine S_getr g dX5_writeLeast_22 fl_Mender_66 (at_37 hw) rfl (rc_37_3 hw) ?_
    refine S_iload_n (kk := 2) g dX5_writeLeast_25 rfl rfl ?_
    refine S_laload g dX5_writeLeast_26 (at_39 hw) ?_
    refine S_nmJ (fun v3 => ?_)
    refine S_lstore_n g dX5_writeLeast_27 rfl (by decide) rfl ?_
    refine S_iconst g dX5_writeLeast_28 ⟨by decide, by decide⟩ ?_
    refine S_istore g dX5_writeLeast_29 (by decide) rfl ?_
    refine S_sub g [2, 3, 4, 1, 0] rfl ?_
    exact sX5_writeLeast_L31 hw g a1 ha1 self2 hs2 _ _ _ _

theorem sX5_writeLeast {G : GG} {w : Wd} (hw : okX w) (x0 : Nat) (hx0 : At w x0 (2, 1, 256)) (h : Hp) : SC G w yX5_writeLeast (Cond.code yX5_writeLeast cX5_writeLeast 9 (Option.none : Option Jvm.ClassFile.FieldType)) 3 3 [vP 40, vP x0] (XX5_writeLeast x0 h) h := by
  refine SC_of (own := "GatePatch$Mender") plain_Mender rfl (Nat.le_of_ble_eq_true rfl) (fun Γ hG g => ?_)
  subst hG
  show Sim Γ w 3 _ h 0 [(0, vP 40), (1, vP x0)] []
  unfold XX5_writeLeast
  refine S_iconst g dX5_writeLeast_0 ⟨by decide, by decide⟩ ?_
  refine S_istore_n g dX5_writeLeast_1 rfl (by decide) rfl ?_
  refine S_sub g [1, 2, 0] rfl ?_
  exact sX5_writeLeast_L2 hw g x0 hx0 _ _

def XX5_holders_p48 (a1 : Nat) (self6 : Int → Int → Int → Int → Int → Hp → OR) (l0 l2 l3 l4 l6 : Int) (h : Hp) : OR :=
  chk (l6 + 1) (self6 l0 l2 l3 l4 (l6 + 1) h)
def XX5_holders_b6 (a1 : Nat)  (self6 : Int → Int → Int → Int → Int → Hp → OR) (l0 l2 l3 l4 l6 : Int) (h : Hp) : OR :=
  if 64 ≤ l6 then some (l4, h) else chk (64 * l0) (chk ((64 * l0) + l6) (if l2 ≤ ((64 * l0) + l6) then some (l4, h) else chk (64 * l0) (chk ((64 * l0) + l6) (inb ((64 * l0) + l6) 256 (if (jcmp (h a1 ((64 * l0) + l6).toNat) l3) = 0 then nm (jor l4 (jshl 1 l6)) (fun v1 => XX5_holders_p48 a1 self6 l0 l2 l3 v1 l6 h) else XX5_holders_p48 a1 self6 l0 l2 l3 l4 l6 h)))))
def XX5_holders_L6 (a1 : Nat)  (l0 l2 l3 l4 l6 : Int) (h : Hp) : OR := lup5 (XX5_holders_b6 a1) FU l0 l2 l3 l4 l6 h
def XX5_holders (x0 : Int) (x1 : Nat) (x2 : Int) (x3 : Int) (h : Hp) : OR :=
  XX5_holders_L6 x1 x0 x2 x3 0 0 h
theorem sX5_holders_p48 {Γ : Cx} {w : Wd} (hw : okX w) (g : Gd Γ cX5_holders 7 "GatePatch$Mender" (Option.some Jvm.ClassFile.FieldType.long) (rmd 1)) (a1 : Nat) (ha1 : At w a1 (2, 1, 256)) (self6 : Int → Int → Int → Int → Int → Hp → OR) (hs6 : ∀ (x0 x1 x2 x3 x4 : Int) (h : Hp), Sim Γ w 1 (self6 x0 x1 x2 x3 x4 h) h 6 [(0, vI x0), (1, vP a1), (2, vI x1), (3, vI x2), (4, vJ x3), (6, vI x4)] []) (l0 l2 l3 l4 l6 : Int) (h : Hp) : Sim Γ w 1 (XX5_holders_p48 a1 self6 l0 l2 l3 l4 l6  h) h 48 [(0, vI l0), (1, vP a1), (2, vI l2), (3, vI l3), (4, vJ l4), (6, vI l6)] [] := by
  unfold XX5_holders_p48
  refine S_iinc (kk := 5) g dX5_holders_48 rfl (by decide) rfl ?_
  refine S_goto (tgt := 6) g dX5_holders_51 (by decide) ?_
  refine S_sub g [1, 2, 3, 4, 5, 0] rfl ?_
  exact hs6 _ _ _ _ _ _

theorem sX5_holders_L6 {Γ : Cx} {w : Wd} (hw : okX w) (g : Gd Γ cX5_holders 7 "GatePatch$Mender" (Option.some Jvm.ClassFile.FieldType.long) (rmd 1)) (a1 : Nat) (ha1 : At w a1 (2, 1, 256))  : ∀ (l0 l2 l3 l4 l6 : Int) (h : Hp), Sim Γ w 1 (XX5_holders_L6 a1 l0 l2 l3 l4 l6 h) h 6 [(0, vI l0), (1, vP a1), (2, vI l2), (3, vI l3), (4, vJ l4), (6, vI l6)] [] := by
  refine S_lup5 (fun l0 l2 l3 l4 l6 => [(0, vI l0), (1, vP a1), (2, vI l2), (3, vI l3), (4, vJ l4), (6, vI l6)]) (fun self6 hs6 l0 l2 l3 l4 l6 h => ?_) FU
  unfold XX5_holders_b6
  refine S_iload (kk := 5) g dX5_holders_6 rfl ?_
  refine S_bipush g dX5_holders_8 ⟨by decide, by decide⟩ rfl ?_
  refine S_icmp_ge (tgt := 54) g dX5_holders_10 (by decide) ?_ ?_
  · refine S_lload (kk := 4) g dX5_holders_54 rfl ?_
    exact S_lreturn g dX5_holders_56 rfl
  · refine S_bipush g dX5_holders_13 ⟨by decide, by decide⟩ rfl ?_
    refine S_iload_n (kk := 0) g dX5_holders_15 rfl rfl ?_
    refine S_imul g dX5_holders_16 ?_
    refine S_iload (kk := 5) g dX5_holders_17 rfl ?_
    refine S_iadd g dX5_holders_19 ?_
    refine S_iload_n (kk := 2) g dX5_holders_20 rfl rfl ?_
    refine S_icmp_ge (tgt := 54) g dX5_holders_21 (by decide) ?_ ?_
    · refine S_lload (kk := 4) g dX5_holders_54 rfl ?_
      exact S_lreturn g dX5_holders_56 rfl
    · refine S_aload_n (kk := 1) g dX5_holders_24 rfl rfl ?_
      refine S_bipush g dX5_holders_25 ⟨by decide, by decide⟩ rfl ?_
      refine S_iload_n (kk := 0) g dX5_holders_27 rfl rfl ?_
      refine S_imul g dX5_holders_28 ?_
      refine S_iload (kk := 5) g dX5_holders_29 rfl ?_
      refine S_iadd g dX5_holders_31 ?_
      refine S_laload g dX5_holders_32 ha1 ?_
      refine S_iload_n (kk := 3) g dX5_holders_33 rfl rfl ?_
      refine S_i2l g dX5_holders_34 ?_
      refine S_lcmp g dX5_holders_35 ?_
      refine S_if_ne (tgt := 48) g dX5_holders_36 (by decide) ?_ ?_
      · exact sX5_holders_p48 hw g a1 ha1 self6 hs6 _ _ _ _ _ _
      · refine S_lload (kk := 4) g dX5_holders_39 rfl ?_
        refine S_lconst (x := 1) g dX5_holders_41 ⟨by decide, by decide⟩ rfl ?_
        refine S_iload (kk := 5) g dX5_holders_42 rfl ?_
        refine S_lshl g dX5_holders_44 ?_
        refine S_lor g dX5_holders_45 ?_
        refine S_nmJ (fun v1 => ?_)
        refine S_lstore g dX5_holders_46 (by decide) rfl ?_
        refine S_sub g [1, 2, 3, 4, 0, 5] rfl ?_
        exact sX5_holders_p48 hw g a1 ha1 self6 hs6 _ _ _ _ _ _

theorem sX5_holders {G : GG} {w : Wd} (hw : okX w) (x0 : Int) (x1 : Nat) (hx1 : At w x1 (2, 1, 256)) (x2 : Int) (x3 : Int) (h : Hp) : SC G w yX5_holders (Cond.code yX5_holders cX5_holders 7 (Option.some Jvm.ClassFile.FieldType.long)) 1 1 [vI x0, vP x1, vI x2, vI x3] (XX5_holders x0 x1 x2 x3 h) h := by
  refine SC_of (own := "GatePatch$Mender") plain_Mender rfl (Nat.le_of_ble_eq_true rfl) (fun Γ hG g => ?_)
  subst hG
  show Sim Γ w 1 _ h 0 [(0, vI x0), (1, vP x1), (2, vI x2), (3, vI x3)] []
  unfold XX5_holders
  refine S_lconst (x := 0) g dX5_holders_0 ⟨by decide, by decide⟩ rfl ?_
  refine S_lstore g dX5_holders_1 (by decide) rfl ?_
  refine S_iconst g dX5_holders_3 ⟨by decide, by decide⟩ ?_
  refine S_istore g dX5_holders_4 (by decide) rfl ?_
  refine S_sub g [2, 3, 4, 5, 1, 0] rfl ?_
  exact sX5_holders_L6 hw g x1 hx1 _ _ _ _ _ _

def XX5_firstMisjudgedIn_p110  (self47 : Int → Int → Int → Int → Hp → OR) (l1 l3 l4 l6 : Int) (h : Hp) : OR :=
  chk (l6 + 1) (self47 l1 l3 l4 (l6 + 1) h)
def XX5_firstMisjudgedIn_b47   (self47 : Int → Int → Int → Int → Hp → OR) (l1 l3 l4 l6 : Int) (h : Hp) : OR :=
  if (h 37 0) ≤ l6 then some (1000, h) else chk (64 * l1) (chk ((64 * l1) + 64) (if ((64 * l1) + 64) ≤ l6 then some (1000, h) else cal (XX0_isLive l6 h) (fun r4 h5 => if r4 = 0 then XX5_firstMisjudgedIn_p110 self47 l1 l3 l4 l6 h5 else if l6 < l3 then chk (l6 - l6.tdiv 64 * 64) (if (jcmp (jand (jshr l4 (l6 - l6.tdiv 64 * 64)) 1) 0) = 0 then some (l6, h5) else XX5_firstMisjudgedIn_p110 self47 l1 l3 l4 l6 h5) else some ((-13), h5))))
def XX5_firstMisjudgedIn_L47   (l1 l3 l4 l6 : Int) (h : Hp) : OR := lup4 (XX5_firstMisjudgedIn_b47 ) FU l1 l3 l4 l6 h
def XX5_firstMisjudgedIn_b6 (a2 : Nat)  (self6 : Int → Int → Int → Int → Hp → OR) (l1 l3 l4 l6 : Int) (h : Hp) : OR :=
  cal (XX5_assignments h) (fun r1 h2 => if r1 ≤ l6 then chk (64 * l1) (nm (64 * l1) (fun v3 => XX5_firstMisjudgedIn_L47 l1 l3 l4 v3 h2)) else cal (XX5_mended l6 h2) (fun r6 h7 => cal (XX5_holders l1 a2 l3 l6 h7) (fun r8 h9 => nm (jor l4 (jand r6 r8)) (fun v10 => chk (l6 + 1) (self6 l1 l3 v10 (l6 + 1) h9)))))
def XX5_firstMisjudgedIn_L6 (a2 : Nat)  (l1 l3 l4 l6 : Int) (h : Hp) : OR := lup4 (XX5_firstMisjudgedIn_b6 a2) FU l1 l3 l4 l6 h
def XX5_firstMisjudgedIn (x0 : Int) (x1 : Nat) (x2 : Int) (h : Hp) : OR :=
  XX5_firstMisjudgedIn_L6 x1 x0 x2 0 0 h
theorem sX5_firstMisjudgedIn_p110 {Γ : Cx} {w : Wd} (hw : okX w) (g : Gd Γ cX5_firstMisjudgedIn 7 "GatePatch$Mender" (Option.some Jvm.ClassFile.FieldType.int) (rmd 3))  (self47 : Int → Int → Int → Int → Hp → OR) (hs47 : ∀ (x0 x1 x2 x3 : Int) (h : Hp), Sim Γ w 0 (self47 x0 x1 x2 x3 h) h 47 [(0, vP 40), (1, vI x0), (3, vI x1), (4, vJ x2), (6, vI x3)] []) (l1 l3 l4 l6 : Int) (h : Hp) : Sim Γ w 0 (XX5_firstMisjudgedIn_p110 self47 l1 l3 l4 l6  h) h 110 [(0, vP 40), (1, vI l1), (3, vI l3), (4, vJ l4), (6, vI l6)] [] := by
  unfold XX5_firstMisjudgedIn_p110
  refine S_iinc (kk := 4) g dX5_firstMisjudgedIn_110 rfl (by decide) rfl ?_
  refine S_goto (tgt := 47) g dX5_firstMisjudgedIn_113 (by decide) ?_
  refine S_sub g [1, 2, 3, 4, 0] rfl ?_
  exact hs47 _ _ _ _ _

theorem sX5_firstMisjudgedIn_L47 {Γ : Cx} {w : Wd} (hw : okX w) (g : Gd Γ cX5_firstMisjudgedIn 7 "GatePatch$Mender" (Option.some Jvm.ClassFile.FieldType.int) (rmd 3))   : ∀ (l1 l3 l4 l6 : Int) (h : Hp), Sim Γ w 0 (XX5_firstMisjudgedIn_L47  l1 l3 l4 l6 h) h 47 [(0, vP 40), (1, vI l1), (3, vI l3), (4, vJ l4), (6, vI l6)] [] := by
  refine S_lup4 (fun l1 l3 l4 l6 => [(0, vP 40), (1, vI l1), (3, vI l3), (4, vJ l4), (6, vI l6)]) (fun self47 hs47 l1 l3 l4 l6 h => ?_) FU
  unfold XX5_firstMisjudgedIn_b47
  refine S_iload (kk := 4) g dX5_firstMisjudgedIn_47 rfl ?_
  refine S_aload_n (kk := 0) g dX5_firstMisjudgedIn_49 rfl rfl ?_
  refine S_getr g dX5_firstMisjudgedIn_50 fl_Mender_32 (at_40 hw) rfl (rc_40_2 hw) ?_
  refine S_geti g dX5_firstMisjudgedIn_53 fl_Mender_137 (at_37 hw) (Or.inl rfl) ?_
  refine S_icmp_ge (tgt := 116) g dX5_firstMisjudgedIn_56 (by decide) ?_ ?_
  · refine S_sipush g dX5_firstMisjudgedIn_116 ⟨by decide, by decide⟩ rfl ?_
    exact S_ireturn g dX5_firstMisjudgedIn_119 rfl
  · refine S_iload (kk := 4) g dX5_firstMisjudgedIn_59 rfl ?_
    refine S_bipush g dX5_firstMisjudgedIn_61 ⟨by decide, by decide⟩ rfl ?_
    refine S_iload_n (kk := 1) g dX5_firstMisjudgedIn_63 rfl rfl ?_
    refine S_imul g dX5_firstMisjudgedIn_64 ?_
    refine S_bipush g dX5_firstMisjudgedIn_65 ⟨by decide, by decide⟩ rfl ?_
    refine S_iadd g dX5_firstMisjudgedIn_67 ?_
    refine S_icmp_ge (tgt := 116) g dX5_firstMisjudgedIn_68 (by decide) ?_ ?_
    · refine S_sipush g dX5_firstMisjudgedIn_116 ⟨by decide, by decide⟩ rfl ?_
      exact S_ireturn g dX5_firstMisjudgedIn_119 rfl
    · refine S_aload_n (kk := 0) g dX5_firstMisjudgedIn_71 rfl rfl ?_
      refine S_getr g dX5_firstMisjudgedIn_72 fl_Mender_32 (at_40 hw) rfl (rc_40_2 hw) ?_
      refine S_iload (kk := 4) g dX5_firstMisjudgedIn_75 rfl ?_
      refine S_callVi (As := [vI l6]) g dX5_firstMisjudgedIn_77 (sX0_isLive hw _ _) rfl (at_37 hw) rfl im_X0_isLive se_X0_isLive cw_X0_isLive ml_Mender_138 ini_Cases nd_X0_isLive ⟨by decide, by decide⟩ (Nat.le_of_ble_eq_true rfl) (fun r4 h5 => ?_)
      refine S_if_eq (tgt := 110) g dX5_firstMisjudgedIn_80 (by decide) ?_ ?_
      · exact sX5_firstMisjudgedIn_p110 hw g self47 hs47 _ _ _ _ _
      · refine S_iload (kk := 4) g dX5_firstMisjudgedIn_83 rfl ?_
        refine S_iload_n (kk := 2) g dX5_firstMisjudgedIn_85 rfl rfl ?_
        refine S_icmp_lt (tgt := 92) g dX5_firstMisjudgedIn_86 (by decide) ?_ ?_
        · refine S_lload (kk := 3) g dX5_firstMisjudgedIn_92 rfl ?_
          refine S_iload (kk := 4) g dX5_firstMisjudgedIn_94 rfl ?_
          refine S_bipush g dX5_firstMisjudgedIn_96 ⟨by decide, by decide⟩ rfl ?_
          refine S_irem g dX5_firstMisjudgedIn_98 (by decide) ?_
          refine S_lshr g dX5_firstMisjudgedIn_99 ?_
          refine S_lconst (x := 1) g dX5_firstMisjudgedIn_100 ⟨by decide, by decide⟩ rfl ?_
          refine S_land g dX5_firstMisjudgedIn_101 ?_
          refine S_lconst (x := 0) g dX5_firstMisjudgedIn_102 ⟨by decide, by decide⟩ rfl ?_
          refine S_lcmp g dX5_firstMisjudgedIn_103 ?_
          refine S_if_ne (tgt := 110) g dX5_firstMisjudgedIn_104 (by decide) ?_ ?_
          · exact sX5_firstMisjudgedIn_p110 hw g self47 hs47 _ _ _ _ _
          · refine S_iload (kk := 4) g dX5_firstMisjudgedIn_107 rfl ?_
            exact S_ireturn g dX5_firstMisjudgedIn_109 rfl
        · refine S_bipush g dX5_firstMisjudgedIn_89 ⟨by decide, by decide⟩ rfl ?_
          exact S_ireturn g dX5_firstMisjudgedIn_91 rfl

theorem sX5_firstMisjudgedIn_L6 {Γ : Cx} {w : Wd} (hw : okX w) (g : Gd Γ cX5_firstMisjudgedIn 7 "GatePatch$Mender" (Option.some Jvm.ClassFile.FieldType.int) (rmd 3)) (a2 : Nat) (ha2 : At w a2 (2, 1, 256))  : ∀ (l1 l3 l4 l6 : Int) (h : Hp), Sim Γ w 0 (XX5_firstMisjudgedIn_L6 a2 l1 l3 l4 l6 h) h 6 [(0, vP 40), (1, vI l1), (2, vP a2), (3, vI l3), (4, vJ l4), (6, vI l6)] [] := by
  refine S_lup4 (fun l1 l3 l4 l6 => [(0, vP 40), (1, vI l1), (2, vP a2), (3, vI l3), (4, vJ l4), (6, vI l6)]) (fun self6 hs6 l1 l3 l4 l6 h => ?_) FU
  unfold XX5_firstMisjudgedIn_b6
  refine S_iload (kk := 5) g dX5_firstMisjudgedIn_6 rfl ?_
  refine S_aload_n (kk := 0) g dX5_firstMisjudgedIn_8 rfl rfl ?_
  refine S_callVi (As := []) g dX5_firstMisjudgedIn_9 (sX5_assignments hw  _) rfl (at_40 hw) rfl im_X5_assignments se_X5_assignments cw_X5_assignments ml_Mender_120 ini_Mender nd_X5_assignments ⟨by decide, by decide⟩ (Nat.le_of_ble_eq_true rfl) (fun r1 h2 => ?_)
  refine S_icmp_ge (tgt := 41) g dX5_firstMisjudgedIn_12 (by decide) ?_ ?_
  · refine S_bipush g dX5_firstMisjudgedIn_41 ⟨by decide, by decide⟩ rfl ?_
    refine S_iload_n (kk := 1) g dX5_firstMisjudgedIn_43 rfl rfl ?_
    refine S_imul g dX5_firstMisjudgedIn_44 ?_
    refine S_nmI (fun v3 => ?_)
    refine S_istore g dX5_firstMisjudgedIn_45 (by decide) rfl ?_
    refine S_sub g [1, 2, 4, 5, 0] rfl ?_
    exact sX5_firstMisjudgedIn_L47 hw g _ _ _ _ _
  · refine S_lload (kk := 4) g dX5_firstMisjudgedIn_15 rfl ?_
    refine S_aload_n (kk := 0) g dX5_firstMisjudgedIn_17 rfl rfl ?_
    refine S_iload (kk := 5) g dX5_firstMisjudgedIn_18 rfl ?_
    refine S_callVj (As := [vI l6]) g dX5_firstMisjudgedIn_20 (sX5_mended hw _ _) rfl (at_40 hw) rfl im_X5_mended se_X5_mended cw_X5_mended ml_Mender_123 ini_Mender nd_X5_mended ⟨by decide, by decide⟩ (Nat.le_of_ble_eq_true rfl) (fun r6 h7 => ?_)
    refine S_iload_n (kk := 1) g dX5_firstMisjudgedIn_23 rfl rfl ?_
    refine S_aload_n (kk := 2) g dX5_firstMisjudgedIn_24 rfl rfl ?_
    refine S_iload_n (kk := 3) g dX5_firstMisjudgedIn_25 rfl rfl ?_
    refine S_iload (kk := 5) g dX5_firstMisjudgedIn_26 rfl ?_
    refine S_callSj (As := [vI l1, vP a2, vI l3, vI l6]) g dX5_firstMisjudgedIn_28 (sX5_holders hw _ a2 ha2 _ _ _) rfl st_X5_holders cw_X5_holders ml_Mender_133 ini_Mender nd_X5_holders ⟨by decide, by decide⟩ (Nat.le_of_ble_eq_true rfl) (fun r8 h9 => ?_)
    refine S_land g dX5_firstMisjudgedIn_31 ?_
    refine S_lor g dX5_firstMisjudgedIn_32 ?_
    refine S_nmJ (fun v10 => ?_)
    refine S_lstore g dX5_firstMisjudgedIn_33 (by decide) rfl ?_
    refine S_iinc (kk := 5) g dX5_firstMisjudgedIn_35 rfl (by decide) rfl ?_
    refine S_goto (tgt := 6) g dX5_firstMisjudgedIn_38 (by decide) ?_
    refine S_sub g [2, 3, 4, 5, 1, 0] rfl ?_
    exact hs6 _ _ _ _ _

theorem sX5_firstMisjudgedIn {G : GG} {w : Wd} (hw : okX w) (x0 : Int) (x1 : Nat) (hx1 : At w x1 (2, 1, 256)) (x2 : Int) (h : Hp) : SC G w yX5_firstMisjudgedIn (Cond.code yX5_firstMisjudgedIn cX5_firstMisjudgedIn 7 (Option.some Jvm.ClassFile.FieldType.int)) 3 0 [vP 40, vI x0, vP x1, vI x2] (XX5_firstMisjudgedIn x0 x1 x2 h) h := by
  refine SC_of (own := "GatePatch$Mender") plain_Mender rfl (Nat.le_of_ble_eq_true rfl) (fun Γ hG g => ?_)
  subst hG
  show Sim Γ w 0 _ h 0 [(0, vP 40), (1, vI x0), (2, vP x1), (3, vI x2)] []
  unfold XX5_firstMisjudgedIn
  refine S_lconst (x := 0) g dX5_firstMisjudgedIn_0 ⟨by decide, by decide⟩ rfl ?_
  refine S_lstore g dX5_firstMisjudgedIn_1 (by decide) rfl ?_
  refine S_iconst g dX5_firstMisjudgedIn_3 ⟨by decide, by decide⟩ ?_
  refine S_istore g dX5_firstMisjudgedIn_4 (by decide) rfl ?_
  refine S_sub g [2, 3, 4, 5, 1, 0] rfl ?_
  exact sX5_firstMisjudgedIn_L6 hw g x1 hx1 _ _ _ _ _

def XX5_firstMisjudged_b2 (a1 : Nat)  (self2 : Int → Int → Hp → OR) (l2 l3 : Int) (h : Hp) : OR :=
  if (h 37 1) ≤ l3 then some (1000, h) else cal (XX5_load l3 h) (fun r1 h2 => cal (XX5_firstMisjudgedIn l3 a1 l2 h2) (fun r3 h4 => if r3 = 1000 then chk (l3 + 1) (self2 l2 (l3 + 1) h4) else some (r3, h4)))
def XX5_firstMisjudged_L2 (a1 : Nat)  (l2 l3 : Int) (h : Hp) : OR := lup2 (XX5_firstMisjudged_b2 a1) FU l2 l3 h
def XX5_firstMisjudged (x0 : Nat) (x1 : Int) (h : Hp) : OR :=
  XX5_firstMisjudged_L2 x0 x1 0 h
theorem sX5_firstMisjudged_L2 {Γ : Cx} {w : Wd} (hw : okX w) (g : Gd Γ cX5_firstMisjudged 5 "GatePatch$Mender" (Option.some Jvm.ClassFile.FieldType.int) (rmd 4)) (a1 : Nat) (ha1 : At w a1 (2, 1, 256))  : ∀ (l2 l3 : Int) (h : Hp), Sim Γ w 0 (XX5_firstMisjudged_L2 a1 l2 l3 h) h 2 [(0, vP 40), (1, vP a1), (2, vI l2), (3, vI l3)] [] := by
  refine S_lup2 (fun l2 l3 => [(0, vP 40), (1, vP a1), (2, vI l2), (3, vI l3)]) (fun self2 hs2 l2 l3 h => ?_) FU
  unfold XX5_firstMisjudged_b2
  refine S_iload_n (kk := 3) g dX5_firstMisjudged_2 rfl rfl ?_
  refine S_aload_n (kk := 0) g dX5_firstMisjudged_3 rfl rfl ?_
  refine S_getr g dX5_firstMisjudged_4 fl_Mender_32 (at_40 hw) rfl (rc_40_2 hw) ?_
  refine S_geti g dX5_firstMisjudged_7 fl_Mender_71 (at_37 hw) (Or.inl rfl) ?_
  refine S_icmp_ge (tgt := 44) g dX5_firstMisjudged_10 (by decide) ?_ ?_
  · refine S_sipush g dX5_firstMisjudged_44 ⟨by decide, by decide⟩ rfl ?_
    exact S_ireturn g dX5_firstMisjudged_47 rfl
  · refine S_aload_n (kk := 0) g dX5_firstMisjudged_13 rfl rfl ?_
    refine S_iload_n (kk := 3) g dX5_firstMisjudged_14 rfl rfl ?_
    refine S_callVv (As := [vI l3]) g dX5_firstMisjudged_15 (sX5_load hw _ _) rfl (at_40 hw) rfl im_X5_load se_X5_load cw_X5_load ml_Mender_116 ini_Mender nd_X5_load ⟨by decide, by decide⟩ (Nat.le_of_ble_eq_true rfl) (fun r1 h2 => ?_)
    refine S_aload_n (kk := 0) g dX5_firstMisjudged_18 rfl rfl ?_
    refine S_iload_n (kk := 3) g dX5_firstMisjudged_19 rfl rfl ?_
    refine S_aload_n (kk := 1) g dX5_firstMisjudged_20 rfl rfl ?_
    refine S_iload_n (kk := 2) g dX5_firstMisjudged_21 rfl rfl ?_
    refine S_callVi (As := [vI l3, vP a1, vI l2]) g dX5_firstMisjudged_22 (sX5_firstMisjudgedIn hw _ a1 ha1 _ _) rfl (at_40 hw) rfl im_X5_firstMisjudgedIn se_X5_firstMisjudgedIn cw_X5_firstMisjudgedIn ml_Mender_129 ini_Mender nd_X5_firstMisjudgedIn ⟨by decide, by decide⟩ (Nat.le_of_ble_eq_true rfl) (fun r3 h4 => ?_)
    refine S_istore g dX5_firstMisjudged_25 (by decide) rfl ?_
    refine S_iload (kk := 0) g dX5_firstMisjudged_27 rfl ?_
    refine S_sipush g dX5_firstMisjudged_29 ⟨by decide, by decide⟩ rfl ?_
    refine S_icmp_eq (tgt := 38) g dX5_firstMisjudged_32 (by decide) ?_ ?_
    · refine S_iinc (kk := 4) g dX5_firstMisjudged_38 rfl (by decide) rfl ?_
      refine S_goto (tgt := 2) g dX5_firstMisjudged_41 (by decide) ?_
      refine S_sub g [2, 3, 4, 0] rfl ?_
      exact hs2 _ _ _
    · refine S_iload (kk := 0) g dX5_firstMisjudged_35 rfl ?_
      exact S_ireturn g dX5_firstMisjudged_37 rfl

theorem sX5_firstMisjudged {G : GG} {w : Wd} (hw : okX w) (x0 : Nat) (hx0 : At w x0 (2, 1, 256)) (x1 : Int) (h : Hp) : SC G w yX5_firstMisjudged (Cond.code yX5_firstMisjudged cX5_firstMisjudged 5 (Option.some Jvm.ClassFile.FieldType.int)) 4 0 [vP 40, vP x0, vI x1] (XX5_firstMisjudged x0 x1 h) h := by
  refine SC_of (own := "GatePatch$Mender") plain_Mender rfl (Nat.le_of_ble_eq_true rfl) (fun Γ hG g => ?_)
  subst hG
  show Sim Γ w 0 _ h 0 [(0, vP 40), (1, vP x0), (2, vI x1)] []
  unfold XX5_firstMisjudged
  refine S_iconst g dX5_firstMisjudged_0 ⟨by decide, by decide⟩ ?_
  refine S_istore_n g dX5_firstMisjudged_1 rfl (by decide) rfl ?_
  refine S_sub g [1, 2, 3, 0] rfl ?_
  exact sX5_firstMisjudged_L2 hw g x0 hx0 _ _ _

def XX5_findWrong_p159  (self12 : Int → Hp → OR) (l1 : Int) (h : Hp) : OR :=
  chk (l1 + 1) (self12 (l1 + 1) h)
def XX5_findWrong_b55  (self12 : Int → Hp → OR) (self55 : Int → Int → Int → Int → Hp → OR) (l1 l2 l3 l4 : Int) (h : Hp) : OR :=
  if (h 37 1) ≤ l4 then XX5_findWrong_p159 self12 l1 h else chk (4 * l2) (chk ((4 * l2) + l4) (inb ((4 * l2) + l4) 192 (chk (4 * l3) (chk ((4 * l3) + l4) (inb ((4 * l3) + l4) 192 (nm (jxor (h 25 ((4 * l2) + l4).toNat) (h 35 ((4 * l3) + l4).toNat)) (fun v7 => inb l4 4 (if (jcmp (jand v7 (h 39 l4.toNat)) 0) = 0 then chk (l4 + 1) (self55 l1 l2 l3 (l4 + 1) h) else hm (wr h 40 12 l4) (fun h8 => inb l2 48 (inb (h8 40 11) 6 (hm (wr h8 44 (h8 40 11).toNat (h8 24 l2.toNat)) (fun h9 => chk ((h9 40 11) + 1) (hm (wr h9 40 11 ((h9 40 11) + 1)) (fun h10 => XX5_findWrong_p159 self12 l1 h10))))))))))))))
def XX5_findWrong_L55  (self12 : Int → Hp → OR) (l1 l2 l3 l4 : Int) (h : Hp) : OR := lup4 (XX5_findWrong_b55 self12) FU l1 l2 l3 l4 h
def XX5_findWrong_b12   (self12 : Int → Hp → OR) (l1 : Int) (h : Hp) : OR :=
  cal (XX8_seenCount 18 h) (fun r3 h4 => if r3 ≤ l1 then some (0, h4) else inb l1 6 (nm (h4 21 l1.toNat) (fun v5 => inb l1 6 (nm (h4 31 l1.toNat) (fun v6 => XX5_findWrong_L55 self12 l1 v5 v6 0 h4)))))
def XX5_findWrong_L12   (l1 : Int) (h : Hp) : OR := lup1 (XX5_findWrong_b12 ) FU l1 h
def XX5_findWrong  (h : Hp) : OR :=
  hm (wr h 40 11 0) (fun h1 => hm (wr h1 40 12 0) (fun h2 => XX5_findWrong_L12 0 h2))
theorem sX5_findWrong_p159 {Γ : Cx} {w : Wd} (hw : okX w) (g : Gd Γ cX5_findWrong 7 "GatePatch$Mender" (Option.none : Option Jvm.ClassFile.FieldType) (rmd 2))  (self12 : Int → Hp → OR) (hs12 : ∀ (x0 : Int) (h : Hp), Sim Γ w 3 (self12 x0 h) h 12 [(0, vP 40), (1, vI x0)] []) (l1 : Int) (h : Hp) : Sim Γ w 3 (XX5_findWrong_p159 self12 l1  h) h 159 [(0, vP 40), (1, vI l1)] [] := by
  unfold XX5_findWrong_p159
  refine S_iinc (kk := 1) g dX5_findWrong_159 rfl (by decide) rfl ?_
  refine S_goto (tgt := 12) g dX5_findWrong_162 (by decide) ?_
  refine S_sub g [1, 0] rfl ?_
  exact hs12 _ _

theorem sX5_findWrong_L55 {Γ : Cx} {w : Wd} (hw : okX w) (g : Gd Γ cX5_findWrong 7 "GatePatch$Mender" (Option.none : Option Jvm.ClassFile.FieldType) (rmd 2))  (self12 : Int → Hp → OR) (hs12 : ∀ (x0 : Int) (h : Hp), Sim Γ w 3 (self12 x0 h) h 12 [(0, vP 40), (1, vI x0)] []) : ∀ (l1 l2 l3 l4 : Int) (h : Hp), Sim Γ w 3 (XX5_findWrong_L55 self12 l1 l2 l3 l4 h) h 55 [(0, vP 40), (1, vI l1), (2, vI l2), (3, vI l3), (4, vI l4)] [] := by
  refine S_lup4 (fun l1 l2 l3 l4 => [(0, vP 40), (1, vI l1), (2, vI l2), (3, vI l3), (4, vI l4)]) (fun self55 hs55 l1 l2 l3 l4 h => ?_) FU
  unfold XX5_findWrong_b55
  refine S_iload (kk := 4) g dX5_findWrong_55 rfl ?_
  refine S_aload_n (kk := 0) g dX5_findWrong_57 rfl rfl ?_
  refine S_getr g dX5_findWrong_58 fl_Mender_32 (at_40 hw) rfl (rc_40_2 hw) ?_
  refine S_geti g dX5_findWrong_61 fl_Mender_71 (at_37 hw) (Or.inl rfl) ?_
  refine S_icmp_ge (tgt := 159) g dX5_findWrong_64 (by decide) ?_ ?_
  · refine S_sub g [0, 1] rfl ?_
    exact sX5_findWrong_p159 hw g self12 hs12 _ _
  · refine S_aload_n (kk := 0) g dX5_findWrong_67 rfl rfl ?_
    refine S_getr g dX5_findWrong_68 fl_Mender_25 (at_40 hw) rfl (rc_40_0 hw) ?_
    refine S_getr g dX5_findWrong_71 fl_Mender_60 (at_17 hw) rfl (rc_17_4 hw) ?_
    refine S_iconst g dX5_findWrong_74 ⟨by decide, by decide⟩ ?_
    refine S_iload_n (kk := 2) g dX5_findWrong_75 rfl rfl ?_
    refine S_imul g dX5_findWrong_76 ?_
    refine S_iload (kk := 4) g dX5_findWrong_77 rfl ?_
    refine S_iadd g dX5_findWrong_79 ?_
    refine S_laload g dX5_findWrong_80 (at_25 hw) ?_
    refine S_aload_n (kk := 0) g dX5_findWrong_81 rfl rfl ?_
    refine S_getr g dX5_findWrong_82 fl_Mender_29 (at_40 hw) rfl (rc_40_1 hw) ?_
    refine S_getr g dX5_findWrong_85 fl_Mender_60 (at_27 hw) rfl (rc_27_4 hw) ?_
    refine S_iconst g dX5_findWrong_88 ⟨by decide, by decide⟩ ?_
    refine S_iload_n (kk := 3) g dX5_findWrong_89 rfl rfl ?_
    refine S_imul g dX5_findWrong_90 ?_
    refine S_iload (kk := 4) g dX5_findWrong_91 rfl ?_
    refine S_iadd g dX5_findWrong_93 ?_
    refine S_laload g dX5_findWrong_94 (at_35 hw) ?_
    refine S_lxor g dX5_findWrong_95 ?_
    refine S_nmJ (fun v7 => ?_)
    refine S_lstore g dX5_findWrong_96 (by decide) rfl ?_
    refine S_lload (kk := 0) g dX5_findWrong_98 rfl ?_
    refine S_aload_n (kk := 1) g dX5_findWrong_100 rfl rfl ?_
    refine S_getr g dX5_findWrong_101 fl_Mender_32 (at_40 hw) rfl (rc_40_2 hw) ?_
    refine S_getr g dX5_findWrong_104 fl_Mender_66 (at_37 hw) rfl (rc_37_3 hw) ?_
    refine S_iload (kk := 5) g dX5_findWrong_107 rfl ?_
    refine S_laload g dX5_findWrong_109 (at_39 hw) ?_
    refine S_land g dX5_findWrong_110 ?_
    refine S_lconst (x := 0) g dX5_findWrong_111 ⟨by decide, by decide⟩ rfl ?_
    refine S_lcmp g dX5_findWrong_112 ?_
    refine S_if_eq (tgt := 153) g dX5_findWrong_113 (by decide) ?_ ?_
    · refine S_iinc (kk := 5) g dX5_findWrong_153 rfl (by decide) rfl ?_
      refine S_goto (tgt := 55) g dX5_findWrong_156 (by decide) ?_
      refine S_sub g [2, 3, 4, 5, 0] rfl ?_
      exact hs55 _ _ _ _ _
    · refine S_aload_n (kk := 1) g dX5_findWrong_116 rfl rfl ?_
      refine S_iload (kk := 5) g dX5_findWrong_117 rfl ?_
      refine S_puti g dX5_findWrong_119 fp_Mender_157 (at_40 hw) rfl (fun h8 => ?_)
      refine S_aload_n (kk := 1) g dX5_findWrong_122 rfl rfl ?_
      refine S_getr g dX5_findWrong_123 fl_Mender_22 (at_40 hw) rfl (rc_40_10 hw) ?_
      refine S_aload_n (kk := 1) g dX5_findWrong_126 rfl rfl ?_
      refine S_geti g dX5_findWrong_127 fl_Mender_154 (at_40 hw) (Or.inl rfl) ?_
      refine S_aload_n (kk := 1) g dX5_findWrong_130 rfl rfl ?_
      refine S_getr g dX5_findWrong_131 fl_Mender_25 (at_40 hw) rfl (rc_40_0 hw) ?_
      refine S_getr g dX5_findWrong_134 fl_Mender_94 (at_17 hw) rfl (rc_17_3 hw) ?_
      refine S_iload_n (kk := 3) g dX5_findWrong_137 rfl rfl ?_
      refine S_laload g dX5_findWrong_138 (at_24 hw) ?_
      refine S_lastore g dX5_findWrong_139 (at_44 hw) (fun h9 => ?_)
      refine S_aload_n (kk := 1) g dX5_findWrong_140 rfl rfl ?_
      refine S_dup g dX5_findWrong_141 rfl ?_
      refine S_geti g dX5_findWrong_142 fl_Mender_154 (at_40 hw) (Or.inl rfl) ?_
      refine S_iconst g dX5_findWrong_145 ⟨by decide, by decide⟩ ?_
      refine S_iadd g dX5_findWrong_146 ?_
      refine S_puti g dX5_findWrong_147 fp_Mender_154 (at_40 hw) rfl (fun h10 => ?_)
      refine S_goto (tgt := 159) g dX5_findWrong_150 (by decide) ?_
      refine S_sub g [1, 2] rfl ?_
      exact sX5_findWrong_p159 hw g self12 hs12 _ _

theorem sX5_findWrong_L12 {Γ : Cx} {w : Wd} (hw : okX w) (g : Gd Γ cX5_findWrong 7 "GatePatch$Mender" (Option.none : Option Jvm.ClassFile.FieldType) (rmd 2))   : ∀ (l1 : Int) (h : Hp), Sim Γ w 3 (XX5_findWrong_L12  l1 h) h 12 [(0, vP 40), (1, vI l1)] [] := by
  refine S_lup1 (fun l1 => [(0, vP 40), (1, vI l1)]) (fun self12 hs12 l1 h => ?_) FU
  unfold XX5_findWrong_b12
  refine S_iload_n (kk := 1) g dX5_findWrong_12 rfl rfl ?_
  refine S_aload_n (kk := 0) g dX5_findWrong_13 rfl rfl ?_
  refine S_getr g dX5_findWrong_14 fl_Mender_25 (at_40 hw) rfl (rc_40_0 hw) ?_
  refine S_getr g dX5_findWrong_17 fl_Mender_36 (at_17 hw) rfl (rc_17_0 hw) ?_
  refine S_callVi (As := []) g dX5_findWrong_20 (sX8_seenCount hw 18 (pl_18 hw) _) rfl (at_18 hw) rfl im_X8_seenCount se_X8_seenCount cw_X8_seenCount ml_Mender_56 ini_Plan nd_X8_seenCount ⟨by decide, by decide⟩ (Nat.le_of_ble_eq_true rfl) (fun r3 h4 => ?_)
  refine S_icmp_ge (tgt := 165) g dX5_findWrong_23 (by decide) ?_ ?_
  · exact S_return g dX5_findWrong_165 rfl
  · refine S_aload_n (kk := 0) g dX5_findWrong_26 rfl rfl ?_
    refine S_getr g dX5_findWrong_27 fl_Mender_25 (at_40 hw) rfl (rc_40_0 hw) ?_
    refine S_getr g dX5_findWrong_30 fl_Mender_36 (at_17 hw) rfl (rc_17_0 hw) ?_
    refine S_getr g dX5_findWrong_33 fl_Mender_63 (at_18 hw) rfl (rc_18_6 hw) ?_
    refine S_iload_n (kk := 1) g dX5_findWrong_36 rfl rfl ?_
    refine S_iaload g dX5_findWrong_37 (at_21 hw) ?_
    refine S_nmI (fun v5 => ?_)
    refine S_istore_n g dX5_findWrong_38 rfl (by decide) rfl ?_
    refine S_aload_n (kk := 1) g dX5_findWrong_39 rfl rfl ?_
    refine S_getr g dX5_findWrong_40 fl_Mender_29 (at_40 hw) rfl (rc_40_1 hw) ?_
    refine S_getr g dX5_findWrong_43 fl_Mender_36 (at_27 hw) rfl (rc_27_0 hw) ?_
    refine S_getr g dX5_findWrong_46 fl_Mender_63 (at_28 hw) rfl (rc_28_6 hw) ?_
    refine S_iload_n (kk := 2) g dX5_findWrong_49 rfl rfl ?_
    refine S_iaload g dX5_findWrong_50 (at_31 hw) ?_
    refine S_nmI (fun v6 => ?_)
    refine S_istore_n g dX5_findWrong_51 rfl (by decide) rfl ?_
    refine S_iconst g dX5_findWrong_52 ⟨by decide, by decide⟩ ?_
    refine S_istore g dX5_findWrong_53 (by decide) rfl ?_
    refine S_sub g [3, 4, 2, 1, 0] rfl ?_
    exact sX5_findWrong_L55 hw g self12 hs12 _ _ _ _ _

theorem sX5_findWrong {G : GG} {w : Wd} (hw : okX w)  (h : Hp) : SC G w yX5_findWrong (Cond.code yX5_findWrong cX5_findWrong 7 (Option.none : Option Jvm.ClassFile.FieldType)) 2 3 [vP 40] (XX5_findWrong  h) h := by
  refine SC_of (own := "GatePatch$Mender") plain_Mender rfl (Nat.le_of_ble_eq_true rfl) (fun Γ hG g => ?_)
  subst hG
  show Sim Γ w 3 _ h 0 [(0, vP 40)] []
  unfold XX5_findWrong
  refine S_aload_n (kk := 0) g dX5_findWrong_0 rfl rfl ?_
  refine S_iconst g dX5_findWrong_1 ⟨by decide, by decide⟩ ?_
  refine S_puti g dX5_findWrong_2 fp_Mender_154 (at_40 hw) rfl (fun h1 => ?_)
  refine S_aload_n (kk := 0) g dX5_findWrong_5 rfl rfl ?_
  refine S_iconst g dX5_findWrong_6 ⟨by decide, by decide⟩ ?_
  refine S_puti g dX5_findWrong_7 fp_Mender_157 (at_40 hw) rfl (fun h2 => ?_)
  refine S_iconst g dX5_findWrong_10 ⟨by decide, by decide⟩ ?_
  refine S_istore_n g dX5_findWrong_11 rfl (by decide) rfl ?_
  refine S_sub g [1, 0] rfl ?_
  exact sX5_findWrong_L12 hw g _ _

def XX5_isEnough_p103  (self63 : Int → Hp → OR) (l4 : Int) (h : Hp) : OR :=
  chk (l4 + 1) (self63 (l4 + 1) h)
def XX5_isEnough_b63   (self63 : Int → Hp → OR) (l4 : Int) (h : Hp) : OR :=
  if (h 37 1) ≤ l4 then zb 1 (some (1, h)) else if l4 = (h 40 12) then XX5_isEnough_p103 self63 l4 h else cal (XX5_unmended l4 h) (fun r5 h6 => if (jcmp r5 0) = 0 then XX5_isEnough_p103 self63 l4 h6 else hm (wr h6 40 12 l4) (fun h7 => zb 0 (some (0, h7))))
def XX5_isEnough_L63   (l4 : Int) (h : Hp) : OR := lup1 (XX5_isEnough_b63 ) FU l4 h
def XX5_isEnough_b11   (self11 : Int → Hp → OR) (l4 : Int) (h : Hp) : OR :=
  if (h 40 11) ≤ l4 then cal (XX5_unmended (h 40 12) h) (fun r3 h4 => if (jcmp r3 0) = 0 then XX5_isEnough_L63 0 h4 else zb 0 (some (0, h4))) else inb l4 6 (if (jcmp (jand (h 44 l4.toNat) (h 40 5)) 0) = 0 then zb 0 (some (0, h)) else chk (l4 + 1) (self11 (l4 + 1) h))
def XX5_isEnough_L11   (l4 : Int) (h : Hp) : OR := lup1 (XX5_isEnough_b11 ) FU l4 h
def XX5_isEnough (x0 : Int) (x1 : Int) (x2 : Int) (h : Hp) : OR :=
  cal (XX5_aim x0 x1 x2 h) (fun r1 h2 => XX5_isEnough_L11 0 h2)
theorem sX5_isEnough_p103 {Γ : Cx} {w : Wd} (hw : okX w) (g : Gd Γ cX5_isEnough 5 "GatePatch$Mender" (Option.some Jvm.ClassFile.FieldType.boolean) (rmd 4))  (self63 : Int → Hp → OR) (hs63 : ∀ (x0 : Int) (h : Hp), Sim Γ w 0 (self63 x0 h) h 63 [(0, vP 40), (4, vI x0)] []) (l4 : Int) (h : Hp) : Sim Γ w 0 (XX5_isEnough_p103 self63 l4  h) h 103 [(0, vP 40), (4, vI l4)] [] := by
  unfold XX5_isEnough_p103
  refine S_iinc (kk := 1) g dX5_isEnough_103 rfl (by decide) rfl ?_
  refine S_goto (tgt := 63) g dX5_isEnough_106 (by decide) ?_
  refine S_sub g [1, 0] rfl ?_
  exact hs63 _ _

theorem sX5_isEnough_L63 {Γ : Cx} {w : Wd} (hw : okX w) (g : Gd Γ cX5_isEnough 5 "GatePatch$Mender" (Option.some Jvm.ClassFile.FieldType.boolean) (rmd 4))   : ∀ (l4 : Int) (h : Hp), Sim Γ w 0 (XX5_isEnough_L63  l4 h) h 63 [(0, vP 40), (4, vI l4)] [] := by
  refine S_lup1 (fun l4 => [(0, vP 40), (4, vI l4)]) (fun self63 hs63 l4 h => ?_) FU
  unfold XX5_isEnough_b63
  refine S_iload (kk := 1) g dX5_isEnough_63 rfl ?_
  refine S_aload_n (kk := 0) g dX5_isEnough_65 rfl rfl ?_
  refine S_getr g dX5_isEnough_66 fl_Mender_32 (at_40 hw) rfl (rc_40_2 hw) ?_
  refine S_geti g dX5_isEnough_69 fl_Mender_71 (at_37 hw) (Or.inl rfl) ?_
  refine S_icmp_ge (tgt := 109) g dX5_isEnough_72 (by decide) ?_ ?_
  · refine S_iconst g dX5_isEnough_109 ⟨by decide, by decide⟩ ?_
    exact S_zreturn g dX5_isEnough_110 rfl
  · refine S_iload (kk := 1) g dX5_isEnough_75 rfl ?_
    refine S_aload_n (kk := 0) g dX5_isEnough_77 rfl rfl ?_
    refine S_geti g dX5_isEnough_78 fl_Mender_157 (at_40 hw) (Or.inl rfl) ?_
    refine S_icmp_eq (tgt := 103) g dX5_isEnough_81 (by decide) ?_ ?_
    · exact sX5_isEnough_p103 hw g self63 hs63 _ _
    · refine S_aload_n (kk := 0) g dX5_isEnough_84 rfl rfl ?_
      refine S_iload (kk := 1) g dX5_isEnough_85 rfl ?_
      refine S_callVj (As := [vI l4]) g dX5_isEnough_87 (sX5_unmended hw _ _) rfl (at_40 hw) rfl im_X5_unmended se_X5_unmended cw_X5_unmended ml_Mender_126 ini_Mender nd_X5_unmended ⟨by decide, by decide⟩ (Nat.le_of_ble_eq_true rfl) (fun r5 h6 => ?_)
      refine S_lconst (x := 0) g dX5_isEnough_90 ⟨by decide, by decide⟩ rfl ?_
      refine S_lcmp g dX5_isEnough_91 ?_
      refine S_if_eq (tgt := 103) g dX5_isEnough_92 (by decide) ?_ ?_
      · exact sX5_isEnough_p103 hw g self63 hs63 _ _
      · refine S_aload_n (kk := 0) g dX5_isEnough_95 rfl rfl ?_
        refine S_iload (kk := 1) g dX5_isEnough_96 rfl ?_
        refine S_puti g dX5_isEnough_98 fp_Mender_157 (at_40 hw) rfl (fun h7 => ?_)
        refine S_iconst g dX5_isEnough_101 ⟨by decide, by decide⟩ ?_
        exact S_zreturn g dX5_isEnough_102 rfl

theorem sX5_isEnough_L11 {Γ : Cx} {w : Wd} (hw : okX w) (g : Gd Γ cX5_isEnough 5 "GatePatch$Mender" (Option.some Jvm.ClassFile.FieldType.boolean) (rmd 4))   : ∀ (l4 : Int) (h : Hp), Sim Γ w 0 (XX5_isEnough_L11  l4 h) h 11 [(0, vP 40), (4, vI l4)] [] := by
  refine S_lup1 (fun l4 => [(0, vP 40), (4, vI l4)]) (fun self11 hs11 l4 h => ?_) FU
  unfold XX5_isEnough_b11
  refine S_iload (kk := 1) g dX5_isEnough_11 rfl ?_
  refine S_aload_n (kk := 0) g dX5_isEnough_13 rfl rfl ?_
  refine S_geti g dX5_isEnough_14 fl_Mender_154 (at_40 hw) (Or.inl rfl) ?_
  refine S_icmp_ge (tgt := 45) g dX5_isEnough_17 (by decide) ?_ ?_
  · refine S_aload_n (kk := 0) g dX5_isEnough_45 rfl rfl ?_
    refine S_aload_n (kk := 0) g dX5_isEnough_46 rfl rfl ?_
    refine S_geti g dX5_isEnough_47 fl_Mender_157 (at_40 hw) (Or.inl rfl) ?_
    refine S_callVj (As := [vI (h 40 12)]) g dX5_isEnough_50 (sX5_unmended hw _ _) rfl (at_40 hw) rfl im_X5_unmended se_X5_unmended cw_X5_unmended ml_Mender_126 ini_Mender nd_X5_unmended ⟨by decide, by decide⟩ (Nat.le_of_ble_eq_true rfl) (fun r3 h4 => ?_)
    refine S_lconst (x := 0) g dX5_isEnough_53 ⟨by decide, by decide⟩ rfl ?_
    refine S_lcmp g dX5_isEnough_54 ?_
    refine S_if_eq (tgt := 60) g dX5_isEnough_55 (by decide) ?_ ?_
    · refine S_iconst g dX5_isEnough_60 ⟨by decide, by decide⟩ ?_
      refine S_istore g dX5_isEnough_61 (by decide) rfl ?_
      refine S_sub g [1, 0] rfl ?_
      exact sX5_isEnough_L63 hw g _ _
    · refine S_iconst g dX5_isEnough_58 ⟨by decide, by decide⟩ ?_
      exact S_zreturn g dX5_isEnough_59 rfl
  · refine S_aload_n (kk := 0) g dX5_isEnough_20 rfl rfl ?_
    refine S_getr g dX5_isEnough_21 fl_Mender_22 (at_40 hw) rfl (rc_40_10 hw) ?_
    refine S_iload (kk := 1) g dX5_isEnough_24 rfl ?_
    refine S_laload g dX5_isEnough_26 (at_44 hw) ?_
    refine S_aload_n (kk := 0) g dX5_isEnough_27 rfl rfl ?_
    refine S_getj g dX5_isEnough_28 fl_Mender_52 (at_40 hw) rfl ?_
    refine S_land g dX5_isEnough_31 ?_
    refine S_lconst (x := 0) g dX5_isEnough_32 ⟨by decide, by decide⟩ rfl ?_
    refine S_lcmp g dX5_isEnough_33 ?_
    refine S_if_ne (tgt := 39) g dX5_isEnough_34 (by decide) ?_ ?_
    · refine S_iinc (kk := 1) g dX5_isEnough_39 rfl (by decide) rfl ?_
      refine S_goto (tgt := 11) g dX5_isEnough_42 (by decide) ?_
      refine S_sub g [1, 0] rfl ?_
      exact hs11 _ _
    · refine S_iconst g dX5_isEnough_37 ⟨by decide, by decide⟩ ?_
      exact S_zreturn g dX5_isEnough_38 rfl

theorem sX5_isEnough {G : GG} {w : Wd} (hw : okX w) (x0 : Int) (x1 : Int) (x2 : Int) (h : Hp) : SC G w yX5_isEnough (Cond.code yX5_isEnough cX5_isEnough 5 (Option.some Jvm.ClassFile.FieldType.boolean)) 4 0 [vP 40, vI x0, vI x1, vI x2] (XX5_isEnough x0 x1 x2 h) h := by
  refine SC_of (own := "GatePatch$Mender") plain_Mender rfl (Nat.le_of_ble_eq_true rfl) (fun Γ hG g => ?_)
  subst hG
  show Sim Γ w 0 _ h 0 [(0, vP 40), (1, vI x0), (2, vI x1), (3, vI x2)] []
  unfold XX5_isEnough
  refine S_aload_n (kk := 0) g dX5_isEnough_0 rfl rfl ?_
  refine S_iload_n (kk := 1) g dX5_isEnough_1 rfl rfl ?_
  refine S_iload_n (kk := 2) g dX5_isEnough_2 rfl rfl ?_
  refine S_iload_n (kk := 3) g dX5_isEnough_3 rfl rfl ?_
  refine S_callVi (As := [vI x0, vI x1, vI x2]) g dX5_isEnough_4 (sX5_aim hw _ _ _ _) rfl (at_40 hw) rfl im_X5_aim se_X5_aim cw_X5_aim ml_Mender_160 ini_Mender nd_X5_aim ⟨by decide, by decide⟩ (Nat.le_of_ble_eq_true rfl) (fun r1 h2 => ?_)
  refine S_pop g dX5_isEnough_7 rfl ?_
  refine S_iconst g dX5_isEnough_8 ⟨by decide, by decide⟩ ?_
  refine S_istore g dX5_isEnough_9 (by decide) rfl ?_
  refine S_sub g [1, 0] rfl ?_
  exact sX5_isEnough_L11 hw g _ _

def XX5_searchSize_p121  (self22 : Int → Int → Int → Hp → OR) (l1 l2 l3 : Int) (h : Hp) : OR :=
  chk (l3 + 1) (self22 l1 l2 (l3 + 1) h)
def XX5_searchSize_p115  (self22 : Int → Int → Int → Hp → OR) (self49 : Int → Int → Int → Int → Hp → OR) (l1 l2 l3 l4 : Int) (h : Hp) : OR :=
  chk (l4 + 1) (self49 l1 l2 l3 (l4 + 1) h)
def XX5_searchSize_b84  (self22 : Int → Int → Int → Hp → OR) (self49 : Int → Int → Int → Int → Hp → OR) (self84 : Int → Int → Int → Int → Int → Hp → OR) (l1 l2 l3 l4 l5 : Int) (h : Hp) : OR :=
  if l2 ≤ l5 then XX5_searchSize_p115 self22 self49 l1 l2 l3 l4 h else if l1 ≤ 2 then XX5_searchSize_p115 self22 self49 l1 l2 l3 l4 h else cal (XX5_isEnough l3 l4 l5 h) (fun r7 h8 => if r7 = 0 then chk (l5 + 1) (self84 l1 l2 l3 l4 (l5 + 1) h8) else zb 1 (some (1, h8)))
def XX5_searchSize_L84  (self22 : Int → Int → Int → Hp → OR) (self49 : Int → Int → Int → Int → Hp → OR) (l1 l2 l3 l4 l5 : Int) (h : Hp) : OR := lup5 (XX5_searchSize_b84 self22 self49) FU l1 l2 l3 l4 l5 h
def XX5_searchSize_p78  (self22 : Int → Int → Int → Hp → OR) (self49 : Int → Int → Int → Int → Hp → OR) (l1 l2 l3 l4 : Int) (h : Hp) : OR :=
  chk (l4 + 1) (nm (l4 + 1) (fun v6 => XX5_searchSize_L84 self22 self49 l1 l2 l3 l4 v6 h))
def XX5_searchSize_b49  (self22 : Int → Int → Int → Hp → OR) (self49 : Int → Int → Int → Int → Hp → OR) (l1 l2 l3 l4 : Int) (h : Hp) : OR :=
  if l2 ≤ l4 then XX5_searchSize_p121 self22 l1 l2 l3 h else if l1 ≤ 1 then XX5_searchSize_p121 self22 l1 l2 l3 h else if l1 = 2 then cal (XX5_isEnough l3 l4 (-1) h) (fun r9 h10 => if r9 = 0 then XX5_searchSize_p78 self22 self49 l1 l2 l3 l4 h10 else zb 1 (some (1, h10))) else XX5_searchSize_p78 self22 self49 l1 l2 l3 l4 h
def XX5_searchSize_L49  (self22 : Int → Int → Int → Hp → OR) (l1 l2 l3 l4 : Int) (h : Hp) : OR := lup4 (XX5_searchSize_b49 self22) FU l1 l2 l3 l4 h
def XX5_searchSize_p44  (self22 : Int → Int → Int → Hp → OR) (l1 l2 l3 : Int) (h : Hp) : OR :=
  chk (l3 + 1) (nm (l3 + 1) (fun v5 => XX5_searchSize_L49 self22 l1 l2 l3 v5 h))
def XX5_searchSize_b22   (self22 : Int → Int → Int → Hp → OR) (l1 l2 l3 : Int) (h : Hp) : OR :=
  if l2 ≤ l3 then zb 0 (some (0, h)) else if l1 = 1 then cal (XX5_isEnough l3 (-1) (-1) h) (fun r11 h12 => if r11 = 0 then XX5_searchSize_p44 self22 l1 l2 l3 h12 else zb 1 (some (1, h12))) else XX5_searchSize_p44 self22 l1 l2 l3 h
def XX5_searchSize_L22   (l1 l2 l3 : Int) (h : Hp) : OR := lup3 (XX5_searchSize_b22 ) FU l1 l2 l3 h
def XX5_searchSize (x0 : Int) (h : Hp) : OR :=
  cal (XX8_wires 18 h) (fun r1 h2 => cal (XX8_sources 18 h2) (fun r3 h4 => XX5_searchSize_L22 x0 r1 r3 h4))
theorem sX5_searchSize_p121 {Γ : Cx} {w : Wd} (hw : okX w) (g : Gd Γ cX5_searchSize 6 "GatePatch$Mender" (Option.some Jvm.ClassFile.FieldType.boolean) (rmd 5))  (self22 : Int → Int → Int → Hp → OR) (hs22 : ∀ (x0 x1 x2 : Int) (h : Hp), Sim Γ w 0 (self22 x0 x1 x2 h) h 22 [(0, vP 40), (1, vI x0), (2, vI x1), (3, vI x2)] []) (l1 l2 l3 : Int) (h : Hp) : Sim Γ w 0 (XX5_searchSize_p121 self22 l1 l2 l3  h) h 121 [(0, vP 40), (1, vI l1), (2, vI l2), (3, vI l3)] [] := by
  unfold XX5_searchSize_p121
  refine S_iinc (kk := 3) g dX5_searchSize_121 rfl (by decide) rfl ?_
  refine S_goto (tgt := 22) g dX5_searchSize_124 (by decide) ?_
  refine S_sub g [1, 2, 3, 0] rfl ?_
  exact hs22 _ _ _ _

theorem sX5_searchSize_p115 {Γ : Cx} {w : Wd} (hw : okX w) (g : Gd Γ cX5_searchSize 6 "GatePatch$Mender" (Option.some Jvm.ClassFile.FieldType.boolean) (rmd 5))  (self22 : Int → Int → Int → Hp → OR) (hs22 : ∀ (x0 x1 x2 : Int) (h : Hp), Sim Γ w 0 (self22 x0 x1 x2 h) h 22 [(0, vP 40), (1, vI x0), (2, vI x1), (3, vI x2)] []) (self49 : Int → Int → Int → Int → Hp → OR) (hs49 : ∀ (x0 x1 x2 x3 : Int) (h : Hp), Sim Γ w 0 (self49 x0 x1 x2 x3 h) h 49 [(0, vP 40), (1, vI x0), (2, vI x1), (3, vI x2), (4, vI x3)] []) (l1 l2 l3 l4 : Int) (h : Hp) : Sim Γ w 0 (XX5_searchSize_p115 self22 self49 l1 l2 l3 l4  h) h 115 [(0, vP 40), (1, vI l1), (2, vI l2), (3, vI l3), (4, vI l4)] [] := by
  unfold XX5_searchSize_p115
  refine S_iinc (kk := 4) g dX5_searchSize_115 rfl (by decide) rfl ?_
  refine S_goto (tgt := 49) g dX5_searchSize_118 (by decide) ?_
  refine S_sub g [1, 2, 3, 4, 0] rfl ?_
  exact hs49 _ _ _ _ _

theorem sX5_searchSize_L84 {Γ : Cx} {w : Wd} (hw : okX w) (g : Gd Γ cX5_searchSize 6 "GatePatch$Mender" (Option.some Jvm.ClassFile.FieldType.boolean) (rmd 5))  (self22 : Int → Int → Int → Hp → OR) (hs22 : ∀ (x0 x1 x2 : Int) (h : Hp), Sim Γ w 0 (self22 x0 x1 x2 h) h 22 [(0, vP 40), (1, vI x0), (2, vI x1), (3, vI x2)] []) (self49 : Int → Int → Int → Int → Hp → OR) (hs49 : ∀ (x0 x1 x2 x3 : Int) (h : Hp), Sim Γ w 0 (self49 x0 x1 x2 x3 h) h 49 [(0, vP 40), (1, vI x0), (2, vI x1), (3, vI x2), (4, vI x3)] []) : ∀ (l1 l2 l3 l4 l5 : Int) (h : Hp), Sim Γ w 0 (XX5_searchSize_L84 self22 self49 l1 l2 l3 l4 l5 h) h 84 [(0, vP 40), (1, vI l1), (2, vI l2), (3, vI l3), (4, vI l4), (5, vI l5)] [] := by
  refine S_lup5 (fun l1 l2 l3 l4 l5 => [(0, vP 40), (1, vI l1), (2, vI l2), (3, vI l3), (4, vI l4), (5, vI l5)]) (fun self84 hs84 l1 l2 l3 l4 l5 h => ?_) FU
  unfold XX5_searchSize_b84
  refine S_iload (kk := 5) g dX5_searchSize_84 rfl ?_
  refine S_iload_n (kk := 2) g dX5_searchSize_86 rfl rfl ?_
  refine S_icmp_ge (tgt := 115) g dX5_searchSize_87 (by decide) ?_ ?_
  · refine S_sub g [0, 1, 2, 3, 4] rfl ?_
    exact sX5_searchSize_p115 hw g self22 hs22 self49 hs49 _ _ _ _ _
  · refine S_iload_n (kk := 1) g dX5_searchSize_90 rfl rfl ?_
    refine S_iconst g dX5_searchSize_91 ⟨by decide, by decide⟩ ?_
    refine S_icmp_le (tgt := 115) g dX5_searchSize_92 (by decide) ?_ ?_
    · refine S_sub g [0, 1, 2, 3, 4] rfl ?_
      exact sX5_searchSize_p115 hw g self22 hs22 self49 hs49 _ _ _ _ _
    · refine S_aload_n (kk := 0) g dX5_searchSize_95 rfl rfl ?_
      refine S_iload_n (kk := 3) g dX5_searchSize_96 rfl rfl ?_
      refine S_iload (kk := 4) g dX5_searchSize_97 rfl ?_
      refine S_iload (kk := 5) g dX5_searchSize_99 rfl ?_
      refine S_callVi (As := [vI l3, vI l4, vI l5]) g dX5_searchSize_101 (sX5_isEnough hw _ _ _ _) rfl (at_40 hw) rfl im_X5_isEnough se_X5_isEnough cw_X5_isEnough ml_Mender_150 ini_Mender nd_X5_isEnough ⟨by decide, by decide⟩ (Nat.le_of_ble_eq_true rfl) (fun r7 h8 => ?_)
      refine S_if_eq (tgt := 109) g dX5_searchSize_104 (by decide) ?_ ?_
      · refine S_iinc (kk := 5) g dX5_searchSize_109 rfl (by decide) rfl ?_
        refine S_goto (tgt := 84) g dX5_searchSize_112 (by decide) ?_
        refine S_sub g [1, 2, 3, 4, 5, 0] rfl ?_
        exact hs84 _ _ _ _ _ _
      · refine S_iconst g dX5_searchSize_107 ⟨by decide, by decide⟩ ?_
        exact S_zreturn g dX5_searchSize_108 rfl

theorem sX5_searchSize_p78 {Γ : Cx} {w : Wd} (hw : okX w) (g : Gd Γ cX5_searchSize 6 "GatePatch$Mender" (Option.some Jvm.ClassFile.FieldType.boolean) (rmd 5))  (self22 : Int → Int → Int → Hp → OR) (hs22 : ∀ (x0 x1 x2 : Int) (h : Hp), Sim Γ w 0 (self22 x0 x1 x2 h) h 22 [(0, vP 40), (1, vI x0), (2, vI x1), (3, vI x2)] []) (self49 : Int → Int → Int → Int → Hp → OR) (hs49 : ∀ (x0 x1 x2 x3 : Int) (h : Hp), Sim Γ w 0 (self49 x0 x1 x2 x3 h) h 49 [(0, vP 40), (1, vI x0), (2, vI x1), (3, vI x2), (4, vI x3)] []) (l1 l2 l3 l4 : Int) (h : Hp) : Sim Γ w 0 (XX5_searchSize_p78 self22 self49 l1 l2 l3 l4  h) h 78 [(0, vP 40), (1, vI l1), (2, vI l2), (3, vI l3), (4, vI l4)] [] := by
  unfold XX5_searchSize_p78
  refine S_iload (kk := 4) g dX5_searchSize_78 rfl ?_
  refine S_iconst g dX5_searchSize_80 ⟨by decide, by decide⟩ ?_
  refine S_iadd g dX5_searchSize_81 ?_
  refine S_nmI (fun v6 => ?_)
  refine S_istore g dX5_searchSize_82 (by decide) rfl ?_
  refine S_sub g [1, 2, 3, 4, 5, 0] rfl ?_
  exact sX5_searchSize_L84 hw g self22 hs22 self49 hs49 _ _ _ _ _ _

theorem sX5_searchSize_L49 {Γ : Cx} {w : Wd} (hw : okX w) (g : Gd Γ cX5_searchSize 6 "GatePatch$Mender" (Option.some Jvm.ClassFile.FieldType.boolean) (rmd 5))  (self22 : Int → Int → Int → Hp → OR) (hs22 : ∀ (x0 x1 x2 : Int) (h : Hp), Sim Γ w 0 (self22 x0 x1 x2 h) h 22 [(0, vP 40), (1, vI x0), (2, vI x1), (3, vI x2)] []) : ∀ (l1 l2 l3 l4 : Int) (h : Hp), Sim Γ w 0 (XX5_searchSize_L49 self22 l1 l2 l3 l4 h) h 49 [(0, vP 40), (1, vI l1), (2, vI l2), (3, vI l3), (4, vI l4)] [] := by
  refine S_lup4 (fun l1 l2 l3 l4 => [(0, vP 40), (1, vI l1), (2, vI l2), (3, vI l3), (4, vI l4)]) (fun self49 hs49 l1 l2 l3 l4 h => ?_) FU
  unfold XX5_searchSize_b49
  refine S_iload (kk := 4) g dX5_searchSize_49 rfl ?_
  refine S_iload_n (kk := 2) g dX5_searchSize_51 rfl rfl ?_
  refine S_icmp_ge (tgt := 121) g dX5_searchSize_52 (by decide) ?_ ?_
  · refine S_sub g [0, 1, 2, 3] rfl ?_
    exact sX5_searchSize_p121 hw g self22 hs22 _ _ _ _
  · refine S_iload_n (kk := 1) g dX5_searchSize_55 rfl rfl ?_
    refine S_iconst g dX5_searchSize_56 ⟨by decide, by decide⟩ ?_
    refine S_icmp_le (tgt := 121) g dX5_searchSize_57 (by decide) ?_ ?_
    · refine S_sub g [0, 1, 2, 3] rfl ?_
      exact sX5_searchSize_p121 hw g self22 hs22 _ _ _ _
    · refine S_iload_n (kk := 1) g dX5_searchSize_60 rfl rfl ?_
      refine S_iconst g dX5_searchSize_61 ⟨by decide, by decide⟩ ?_
      refine S_icmp_ne (tgt := 78) g dX5_searchSize_62 (by decide) ?_ ?_
      · exact sX5_searchSize_p78 hw g self22 hs22 self49 hs49 _ _ _ _ _
      · refine S_aload_n (kk := 0) g dX5_searchSize_65 rfl rfl ?_
        refine S_iload_n (kk := 3) g dX5_searchSize_66 rfl rfl ?_
        refine S_iload (kk := 4) g dX5_searchSize_67 rfl ?_
        refine S_iconst g dX5_searchSize_69 ⟨by decide, by decide⟩ ?_
        refine S_callVi (As := [vI l3, vI l4, vI (-1)]) g dX5_searchSize_70 (sX5_isEnough hw _ _ _ _) rfl (at_40 hw) rfl im_X5_isEnough se_X5_isEnough cw_X5_isEnough ml_Mender_150 ini_Mender nd_X5_isEnough ⟨by decide, by decide⟩ (Nat.le_of_ble_eq_true rfl) (fun r9 h10 => ?_)
        refine S_if_eq (tgt := 78) g dX5_searchSize_73 (by decide) ?_ ?_
        · exact sX5_searchSize_p78 hw g self22 hs22 self49 hs49 _ _ _ _ _
        · refine S_iconst g dX5_searchSize_76 ⟨by decide, by decide⟩ ?_
          exact S_zreturn g dX5_searchSize_77 rfl

theorem sX5_searchSize_p44 {Γ : Cx} {w : Wd} (hw : okX w) (g : Gd Γ cX5_searchSize 6 "GatePatch$Mender" (Option.some Jvm.ClassFile.FieldType.boolean) (rmd 5))  (self22 : Int → Int → Int → Hp → OR) (hs22 : ∀ (x0 x1 x2 : Int) (h : Hp), Sim Γ w 0 (self22 x0 x1 x2 h) h 22 [(0, vP 40), (1, vI x0), (2, vI x1), (3, vI x2)] []) (l1 l2 l3 : Int) (h : Hp) : Sim Γ w 0 (XX5_searchSize_p44 self22 l1 l2 l3  h) h 44 [(0, vP 40), (1, vI l1), (2, vI l2), (3, vI l3)] [] := by
  unfold XX5_searchSize_p44
  refine S_iload_n (kk := 3) g dX5_searchSize_44 rfl rfl ?_
  refine S_iconst g dX5_searchSize_45 ⟨by decide, by decide⟩ ?_
  refine S_iadd g dX5_searchSize_46 ?_
  refine S_nmI (fun v5 => ?_)
  refine S_istore g dX5_searchSize_47 (by decide) rfl ?_
  refine S_sub g [1, 2, 3, 4, 0] rfl ?_
  exact sX5_searchSize_L49 hw g self22 hs22 _ _ _ _ _

theorem sX5_searchSize_L22 {Γ : Cx} {w : Wd} (hw : okX w) (g : Gd Γ cX5_searchSize 6 "GatePatch$Mender" (Option.some Jvm.ClassFile.FieldType.boolean) (rmd 5))   : ∀ (l1 l2 l3 : Int) (h : Hp), Sim Γ w 0 (XX5_searchSize_L22  l1 l2 l3 h) h 22 [(0, vP 40), (1, vI l1), (2, vI l2), (3, vI l3)] [] := by
  refine S_lup3 (fun l1 l2 l3 => [(0, vP 40), (1, vI l1), (2, vI l2), (3, vI l3)]) (fun self22 hs22 l1 l2 l3 h => ?_) FU
  unfold XX5_searchSize_b22
  refine S_iload_n (kk := 3) g dX5_searchSize_22 rfl rfl ?_
  refine S_iload_n (kk := 2) g dX5_searchSize_23 rfl rfl ?_
  refine S_icmp_ge (tgt := 127) g dX5_searchSize_24 (by decide) ?_ ?_
  · refine S_iconst g dX5_searchSize_127 ⟨by decide, by decide⟩ ?_
    exact S_zreturn g dX5_searchSize_128 rfl
  · refine S_iload_n (kk := 1) g dX5_searchSize_27 rfl rfl ?_
    refine S_iconst g dX5_searchSize_28 ⟨by decide, by decide⟩ ?_
    refine S_icmp_ne (tgt := 44) g dX5_searchSize_29 (by decide) ?_ ?_
    · exact sX5_searchSize_p44 hw g self22 hs22 _ _ _ _
    · refine S_aload_n (kk := 0) g dX5_searchSize_32 rfl rfl ?_
      refine S_iload_n (kk := 3) g dX5_searchSize_33 rfl rfl ?_
      refine S_iconst g dX5_searchSize_34 ⟨by decide, by decide⟩ ?_
      refine S_iconst g dX5_searchSize_35 ⟨by decide, by decide⟩ ?_
      refine S_callVi (As := [vI l3, vI (-1), vI (-1)]) g dX5_searchSize_36 (sX5_isEnough hw _ _ _ _) rfl (at_40 hw) rfl im_X5_isEnough se_X5_isEnough cw_X5_isEnough ml_Mender_150 ini_Mender nd_X5_isEnough ⟨by decide, by decide⟩ (Nat.le_of_ble_eq_true rfl) (fun r11 h12 => ?_)
      refine S_if_eq (tgt := 44) g dX5_searchSize_39 (by decide) ?_ ?_
      · exact sX5_searchSize_p44 hw g self22 hs22 _ _ _ _
      · refine S_iconst g dX5_searchSize_42 ⟨by decide, by decide⟩ ?_
        exact S_zreturn g dX5_searchSize_43 rfl

theorem sX5_searchSize {G : GG} {w : Wd} (hw : okX w) (x0 : Int) (h : Hp) : SC G w yX5_searchSize (Cond.code yX5_searchSize cX5_searchSize 6 (Option.some Jvm.ClassFile.FieldType.boolean)) 5 0 [vP 40, vI x0] (XX5_searchSize x0 h) h := by
  refine SC_of (own := "GatePatch$Mender") plain_Mender rfl (Nat.le_of_ble_eq_true rfl) (fun Γ hG g => ?_)
  subst hG
  show Sim Γ w 0 _ h 0 [(0, vP 40), (1, vI x0)] []
  unfold XX5_searchSize
  refine S_aload_n (kk := 0) g dX5_searchSize_0 rfl rfl ?_
  refine S_getr g dX5_searchSize_1 fl_Mender_25 (at_40 hw) rfl (rc_40_0 hw) ?_
  refine S_getr g dX5_searchSize_4 fl_Mender_36 (at_17 hw) rfl (rc_17_0 hw) ?_
  refine S_callVi (As := []) g dX5_searchSize_7 (sX8_wires hw 18 (pl_18 hw) _) rfl (at_18 hw) rfl im_X8_wires se_X8_wires cw_X8_wires ml_Mender_82 ini_Plan nd_X8_wires ⟨by decide, by decide⟩ (Nat.le_of_ble_eq_true rfl) (fun r1 h2 => ?_)
  refine S_istore_n g dX5_searchSize_10 rfl (by decide) rfl ?_
  refine S_aload_n (kk := 1) g dX5_searchSize_11 rfl rfl ?_
  refine S_getr g dX5_searchSize_12 fl_Mender_25 (at_40 hw) rfl (rc_40_0 hw) ?_
  refine S_getr g dX5_searchSize_15 fl_Mender_36 (at_17 hw) rfl (rc_17_0 hw) ?_
  refine S_callVi (As := []) g dX5_searchSize_18 (sX8_sources hw 18 (pl_18 hw) _) rfl (at_18 hw) rfl im_X8_sources se_X8_sources cw_X8_sources ml_Mender_147 ini_Plan nd_X8_sources ⟨by decide, by decide⟩ (Nat.le_of_ble_eq_true rfl) (fun r3 h4 => ?_)
  refine S_istore_n g dX5_searchSize_21 rfl (by decide) rfl ?_
  refine S_sub g [2, 3, 1, 0] rfl ?_
  exact sX5_searchSize_L22 hw g _ _ _ _

def XX5_search_b6   (self6 : Int → Int → Hp → OR) (l1 l2 : Int) (h : Hp) : OR :=
  if l1 < l2 then some (0, h) else cal (XX5_searchSize l2 h) (fun r3 h4 => if r3 = 0 then chk (l2 + 1) (self6 l1 (l2 + 1) h4) else some (l2, h4))
def XX5_search_L6   (l1 l2 : Int) (h : Hp) : OR := lup2 (XX5_search_b6 ) FU l1 l2 h
def XX5_search (x0 : Int) (h : Hp) : OR :=
  cal (XX5_findWrong h) (fun r1 h2 => XX5_search_L6 x0 1 h2)
theorem sX5_search_L6 {Γ : Cx} {w : Wd} (hw : okX w) (g : Gd Γ cX5_search 3 "GatePatch$Mender" (Option.some Jvm.ClassFile.FieldType.int) (rmd 6))   : ∀ (l1 l2 : Int) (h : Hp), Sim Γ w 0 (XX5_search_L6  l1 l2 h) h 6 [(0, vP 40), (1, vI l1), (2, vI l2)] [] := by
  refine S_lup2 (fun l1 l2 => [(0, vP 40), (1, vI l1), (2, vI l2)]) (fun self6 hs6 l1 l2 h => ?_) FU
  unfold XX5_search_b6
  refine S_iload_n (kk := 2) g dX5_search_6 rfl rfl ?_
  refine S_iload_n (kk := 1) g dX5_search_7 rfl rfl ?_
  refine S_icmp_gt (tgt := 27) g dX5_search_8 (by decide) ?_ ?_
  · refine S_iconst g dX5_search_27 ⟨by decide, by decide⟩ ?_
    exact S_ireturn g dX5_search_28 rfl
  · refine S_aload_n (kk := 0) g dX5_search_11 rfl rfl ?_
    refine S_iload_n (kk := 2) g dX5_search_12 rfl rfl ?_
    refine S_callVi (As := [vI l2]) g dX5_search_13 (sX5_searchSize hw _ _) rfl (at_40 hw) rfl im_X5_searchSize se_X5_searchSize cw_X5_searchSize ml_Mender_144 ini_Mender nd_X5_searchSize ⟨by decide, by decide⟩ (Nat.le_of_ble_eq_true rfl) (fun r3 h4 => ?_)
    refine S_if_eq (tgt := 21) g dX5_search_16 (by decide) ?_ ?_
    · refine S_iinc (kk := 2) g dX5_search_21 rfl (by decide) rfl ?_
      refine S_goto (tgt := 6) g dX5_search_24 (by decide) ?_
      refine S_sub g [1, 2, 0] rfl ?_
      exact hs6 _ _ _
    · refine S_iload_n (kk := 2) g dX5_search_19 rfl rfl ?_
      exact S_ireturn g dX5_search_20 rfl

theorem sX5_search {G : GG} {w : Wd} (hw : okX w) (x0 : Int) (h : Hp) : SC G w yX5_search (Cond.code yX5_search cX5_search 3 (Option.some Jvm.ClassFile.FieldType.int)) 6 0 [vP 40, vI x0] (XX5_search x0 h) h := by
  refine SC_of (own := "GatePatch$Mender") plain_Mender rfl (Nat.le_of_ble_eq_true rfl) (fun Γ hG g => ?_)
  subst hG
  show Sim Γ w 0 _ h 0 [(0, vP 40), (1, vI x0)] []
  unfold XX5_search
  refine S_aload_n (kk := 0) g dX5_search_0 rfl rfl ?_
  refine S_callVv (As := []) g dX5_search_1 (sX5_findWrong hw  _) rfl (at_40 hw) rfl im_X5_findWrong se_X5_findWrong cw_X5_findWrong ml_Mender_141 ini_Mender nd_X5_findWrong ⟨by decide, by decide⟩ (Nat.le_of_ble_eq_true rfl) (fun r1 h2 => ?_)
  refine S_iconst g dX5_search_4 ⟨by decide, by decide⟩ ?_
  refine S_istore_n g dX5_search_5 rfl (by decide) rfl ?_
  refine S_sub g [1, 2, 0] rfl ?_
  exact sX5_search_L6 hw g _ _ _

