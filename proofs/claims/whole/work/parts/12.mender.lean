abbrev cX5_aim : ByteArray := prog_7_method_2_code
def yX5_aim : MethodName := ⟨"GatePatch$Mender", "aim", "(III)Z"⟩
abbrev cX5_assignments : ByteArray := prog_7_method_3_code
def yX5_assignments : MethodName := ⟨"GatePatch$Mender", "assignments", "()I"⟩
abbrev cX5_difference : ByteArray := prog_7_method_4_code
def yX5_difference : MethodName := ⟨"GatePatch$Mender", "difference", "(I)J"⟩
abbrev cX5_firstDifference : ByteArray := prog_7_method_5_code
def yX5_firstDifference : MethodName := ⟨"GatePatch$Mender", "firstDifference", "()I"⟩
abbrev cX5_findCone : ByteArray := prog_7_method_7_code
def yX5_findCone : MethodName := ⟨"GatePatch$Mender", "findCone", "()V"⟩
abbrev cX5_load : ByteArray := prog_7_method_6_code
def yX5_load : MethodName := ⟨"GatePatch$Mender", "load", "(I)V"⟩
abbrev cX5_pinNow : ByteArray := prog_7_method_10_code
def yX5_pinNow : MethodName := ⟨"GatePatch$Mender", "pinNow", "(II)J"⟩
abbrev cX5_matching : ByteArray := prog_7_method_9_code
def yX5_matching : MethodName := ⟨"GatePatch$Mender", "matching", "()J"⟩
abbrev cX5_mended : ByteArray := prog_7_method_8_code
def yX5_mended : MethodName := ⟨"GatePatch$Mender", "mended", "(I)J"⟩
abbrev cX5_unmended : ByteArray := prog_7_method_11_code
def yX5_unmended : MethodName := ⟨"GatePatch$Mender", "unmended", "(I)J"⟩
abbrev cX5_firstUnmended : ByteArray := prog_7_method_12_code
def yX5_firstUnmended : MethodName := ⟨"GatePatch$Mender", "firstUnmended", "()I"⟩
abbrev cX5_leastMending : ByteArray := prog_7_method_13_code
def yX5_leastMending : MethodName := ⟨"GatePatch$Mender", "leastMending", "(I)I"⟩
abbrev cX5_writeLeast : ByteArray := prog_7_method_14_code
def yX5_writeLeast : MethodName := ⟨"GatePatch$Mender", "writeLeast", "([J)V"⟩
abbrev cX5_holders : ByteArray := prog_7_method_17_code
def yX5_holders : MethodName := ⟨"GatePatch$Mender", "holders", "(I[JII)J"⟩
abbrev cX5_firstMisjudgedIn : ByteArray := prog_7_method_16_code
def yX5_firstMisjudgedIn : MethodName := ⟨"GatePatch$Mender", "firstMisjudgedIn", "(I[JI)I"⟩
abbrev cX5_firstMisjudged : ByteArray := prog_7_method_15_code
def yX5_firstMisjudged : MethodName := ⟨"GatePatch$Mender", "firstMisjudged", "([JI)I"⟩
abbrev cX5_findWrong : ByteArray := prog_7_method_20_code
def yX5_findWrong : MethodName := ⟨"GatePatch$Mender", "findWrong", "()V"⟩
abbrev cX5_addHard : ByteArray := prog_7_method_23_code
def yX5_addHard : MethodName := ⟨"GatePatch$Mender", "addHard", "(I)V"⟩
abbrev cX5_startSearch : ByteArray := prog_7_method_18_code
def yX5_startSearch : MethodName := ⟨"GatePatch$Mender", "startSearch", "(I)V"⟩
abbrev cX5_failsHard : ByteArray := prog_7_method_22_code
def yX5_failsHard : MethodName := ⟨"GatePatch$Mender", "failsHard", "()Z"⟩
abbrev cX5_isEnough : ByteArray := prog_7_method_21_code
def yX5_isEnough : MethodName := ⟨"GatePatch$Mender", "isEnough", "(III)Z"⟩
abbrev cX5_search : ByteArray := prog_7_method_19_code
def yX5_search : MethodName := ⟨"GatePatch$Mender", "search", "(I)Z"⟩
theorem fl_Mender_34 : FL "GatePatch$Mender" 34 4 0 := ⟨R_Mender, T_Mender, 15, ty_Mender, ci_Mender, by decide, mem_t 161 (by decide +kernel) rfl⟩
theorem fl_Mender_45 : FL "GatePatch$Mender" 45 5 0 := ⟨R_Net, T_Net, 7, ty_Net, ci_Net, by decide, mem_t 90 (by decide +kernel) rfl⟩
theorem ml_Mender_51 : Cond.methodLink "GatePatch$Mender" 51 yX8_isGate ∈ tblG := mem_t 730 (by decide +kernel) rfl
theorem im_X8_isGate : Cond.instanceMethod yX8_isGate ∈ tblG := mem_t 605 (by decide +kernel) rfl
theorem se_X8_isGate : Cond.selects "GatePatch$Plan" yX8_isGate yX8_isGate ∈ tblG := mem_t 606 (by decide +kernel) rfl
theorem cw_X8_isGate : Cond.code yX8_isGate cX8_isGate 2 (Option.some Jvm.ClassFile.FieldType.boolean) ∈ tblG := mem_t 607 (by decide +kernel) rfl
theorem nd_X8_isGate : yX8_isGate.cls ≠ "java/lang/invoke/MethodHandle" ∧ yX8_isGate.cls ≠ "java/lang/invoke/VarHandle" ∧ (parseMethodDescriptor yX8_isGate.desc).map (fun d => d.parameters.length) = some 1 := by decide +kernel
theorem fl_Mender_9 : FL "GatePatch$Mender" 9 4 3 := ⟨R_Mender, T_Mender, 15, ty_Mender, ci_Mender, by decide, mem_t 164 (by decide +kernel) rfl⟩
theorem fp_Mender_57 : FP "GatePatch$Mender" 57 4 4 .int := ⟨R_Mender, T_Mender, 15, ty_Mender, ci_Mender, by decide, mem_t 167 (by decide +kernel) rfl, rfl, rfl⟩
theorem fp_Mender_61 : FP "GatePatch$Mender" 61 4 5 .long := ⟨R_Mender, T_Mender, 15, ty_Mender, ci_Mender, by decide, mem_t 169 (by decide +kernel) rfl, rfl, rfl⟩
theorem fl_Mender_57 : FL "GatePatch$Mender" 57 4 4 := ⟨R_Mender, T_Mender, 15, ty_Mender, ci_Mender, by decide, mem_t 167 (by decide +kernel) rfl⟩
theorem fl_Mender_61 : FL "GatePatch$Mender" 61 4 5 := ⟨R_Mender, T_Mender, 15, ty_Mender, ci_Mender, by decide, mem_t 169 (by decide +kernel) rfl⟩
theorem plain_Mender : plainName "GatePatch$Mender" = true := by decide +kernel
theorem ml_Mender_65 : Cond.methodLink "GatePatch$Mender" 65 yX8_seenCount ∈ tblG := mem_t 709 (by decide +kernel) rfl
theorem im_X8_seenCount : Cond.instanceMethod yX8_seenCount ∈ tblG := mem_t 710 (by decide +kernel) rfl
theorem se_X8_seenCount : Cond.selects "GatePatch$Plan" yX8_seenCount yX8_seenCount ∈ tblG := mem_t 711 (by decide +kernel) rfl
theorem cw_X8_seenCount : Cond.code yX8_seenCount cX8_seenCount 1 (Option.some Jvm.ClassFile.FieldType.int) ∈ tblG := mem_t 712 (by decide +kernel) rfl
theorem nd_X8_seenCount : yX8_seenCount.cls ≠ "java/lang/invoke/MethodHandle" ∧ yX8_seenCount.cls ≠ "java/lang/invoke/VarHandle" ∧ (parseMethodDescriptor yX8_seenCount.desc).map (fun d => d.parameters.length) = some 0 := by decide +kernel
theorem fl_Mender_41 : FL "GatePatch$Mender" 41 4 2 := ⟨R_Mender, T_Mender, 15, ty_Mender, ci_Mender, by decide, mem_t 163 (by decide +kernel) rfl⟩
theorem fl_Mender_75 : FL "GatePatch$Mender" 75 0 3 := ⟨R_Cases, T_Cases, 4, ty_Cases, ci_Cases, by decide, mem_t 144 (by decide +kernel) rfl⟩
theorem fl_Mender_69 : FL "GatePatch$Mender" 69 5 4 := ⟨R_Net, T_Net, 7, ty_Net, ci_Net, by decide, mem_t 105 (by decide +kernel) rfl⟩
theorem fl_Mender_72 : FL "GatePatch$Mender" 72 7 6 := ⟨R_Plan, T_Plan, 8, ty_Plan, ci_Plan, by decide, mem_t 66 (by decide +kernel) rfl⟩
theorem fl_Mender_38 : FL "GatePatch$Mender" 38 4 1 := ⟨R_Mender, T_Mender, 15, ty_Mender, ci_Mender, by decide, mem_t 162 (by decide +kernel) rfl⟩
theorem fl_Mender_80 : FL "GatePatch$Mender" 80 0 1 := ⟨R_Cases, T_Cases, 4, ty_Cases, ci_Cases, by decide, mem_t 140 (by decide +kernel) rfl⟩
theorem ml_Mender_83 : Cond.methodLink "GatePatch$Mender" 83 yX5_difference ∈ tblG := mem_t 705 (by decide +kernel) rfl
theorem im_X5_difference : Cond.instanceMethod yX5_difference ∈ tblG := mem_t 707 (by decide +kernel) rfl
theorem se_X5_difference : Cond.selects "GatePatch$Mender" yX5_difference yX5_difference ∈ tblG := mem_s 10 (by decide +kernel) rfl
theorem cw_X5_difference : Cond.code yX5_difference cX5_difference 5 (Option.some Jvm.ClassFile.FieldType.long) ∈ tblG := mem_t 708 (by decide +kernel) rfl
theorem ini_Mender : Cond.initialized "GatePatch$Mender" ∈ tblG := mem_t 5 (by decide +kernel) rfl
theorem nd_X5_difference : yX5_difference.cls ≠ "java/lang/invoke/MethodHandle" ∧ yX5_difference.cls ≠ "java/lang/invoke/VarHandle" ∧ (parseMethodDescriptor yX5_difference.desc).map (fun d => d.parameters.length) = some 1 := by decide +kernel
theorem ml_Mender_87 : Cond.methodLink "GatePatch$Mender" 87 yX0_lowest ∈ tblG := mem_t 713 (by decide +kernel) rfl
theorem st_X0_lowest : Cond.static yX0_lowest ∈ tblG := mem_t 714 (by decide +kernel) rfl
theorem cw_X0_lowest : Cond.code yX0_lowest cX0_lowest 3 (Option.some Jvm.ClassFile.FieldType.int) ∈ tblG := mem_t 715 (by decide +kernel) rfl
theorem nd_X0_lowest : yX0_lowest.cls ≠ "java/lang/invoke/MethodHandle" ∧ yX0_lowest.cls ≠ "java/lang/invoke/VarHandle" ∧ (parseMethodDescriptor yX0_lowest.desc).map (fun d => d.parameters.length) = some 2 := by decide +kernel
theorem fp_Mender_97 : FP "GatePatch$Mender" 97 4 8 .int := ⟨R_Mender, T_Mender, 15, ty_Mender, ci_Mender, by decide, mem_t 174 (by decide +kernel) rfl, rfl, rfl⟩
theorem fl_Mender_100 : FL "GatePatch$Mender" 100 7 3 := ⟨R_Plan, T_Plan, 8, ty_Plan, ci_Plan, by decide, mem_t 54 (by decide +kernel) rfl⟩
theorem fl_Mender_103 : FL "GatePatch$Mender" 103 5 2 := ⟨R_Net, T_Net, 7, ty_Net, ci_Net, by decide, mem_t 98 (by decide +kernel) rfl⟩
theorem fl_Mender_106 : FL "GatePatch$Mender" 106 5 3 := ⟨R_Net, T_Net, 7, ty_Net, ci_Net, by decide, mem_t 101 (by decide +kernel) rfl⟩
theorem fl_Mender_22 : FL "GatePatch$Mender" 22 4 7 := ⟨R_Mender, T_Mender, 15, ty_Mender, ci_Mender, by decide, mem_t 173 (by decide +kernel) rfl⟩
theorem fl_Mender_97 : FL "GatePatch$Mender" 97 4 8 := ⟨R_Mender, T_Mender, 15, ty_Mender, ci_Mender, by decide, mem_t 174 (by decide +kernel) rfl⟩
theorem ml_Mender_91 : Cond.methodLink "GatePatch$Mender" 91 yX8_wires ∈ tblG := mem_t 743 (by decide +kernel) rfl
theorem ml_Mender_94 : Cond.methodLink "GatePatch$Mender" 94 yX5_findCone ∈ tblG := mem_t 744 (by decide +kernel) rfl
theorem im_X5_findCone : Cond.instanceMethod yX5_findCone ∈ tblG := mem_t 746 (by decide +kernel) rfl
theorem se_X5_findCone : Cond.selects "GatePatch$Mender" yX5_findCone yX5_findCone ∈ tblG := mem_s 12 (by decide +kernel) rfl
theorem cw_X5_findCone : Cond.code yX5_findCone cX5_findCone 3 (Option.none : Option Jvm.ClassFile.FieldType) ∈ tblG := mem_t 747 (by decide +kernel) rfl
theorem nd_X5_findCone : yX5_findCone.cls ≠ "java/lang/invoke/MethodHandle" ∧ yX5_findCone.cls ≠ "java/lang/invoke/VarHandle" ∧ (parseMethodDescriptor yX5_findCone.desc).map (fun d => d.parameters.length) = some 0 := by decide +kernel
theorem fl_Mender_19 : FL "GatePatch$Mender" 19 4 9 := ⟨R_Mender, T_Mender, 15, ty_Mender, ci_Mender, by decide, mem_t 172 (by decide +kernel) rfl⟩
theorem fl_Mender_15 : FL "GatePatch$Mender" 15 4 6 := ⟨R_Mender, T_Mender, 15, ty_Mender, ci_Mender, by decide, mem_t 171 (by decide +kernel) rfl⟩
theorem fl_Mender_126 : FL "GatePatch$Mender" 126 7 5 := ⟨R_Plan, T_Plan, 8, ty_Plan, ci_Plan, by decide, mem_t 63 (by decide +kernel) rfl⟩
theorem k_Mender_109 : Cond.constantLong "GatePatch$Mender" 109 (Int64.ofInt (-1)) ∈ tblG := mem_t 756 (by decide +kernel) rfl
theorem fl_Mender_115 : FL "GatePatch$Mender" 115 7 4 := ⟨R_Plan, T_Plan, 8, ty_Plan, ci_Plan, by decide, mem_t 58 (by decide +kernel) rfl⟩
theorem ml_Mender_118 : Cond.methodLink "GatePatch$Mender" 118 yX5_pinNow ∈ tblG := mem_t 761 (by decide +kernel) rfl
theorem im_X5_pinNow : Cond.instanceMethod yX5_pinNow ∈ tblG := mem_t 763 (by decide +kernel) rfl
theorem se_X5_pinNow : Cond.selects "GatePatch$Mender" yX5_pinNow yX5_pinNow ∈ tblG := mem_s 14 (by decide +kernel) rfl
theorem cw_X5_pinNow : Cond.code yX5_pinNow cX5_pinNow 4 (Option.some Jvm.ClassFile.FieldType.long) ∈ tblG := mem_t 764 (by decide +kernel) rfl
theorem nd_X5_pinNow : yX5_pinNow.cls ≠ "java/lang/invoke/MethodHandle" ∧ yX5_pinNow.cls ≠ "java/lang/invoke/VarHandle" ∧ (parseMethodDescriptor yX5_pinNow.desc).map (fun d => d.parameters.length) = some 2 := by decide +kernel
theorem ml_Mender_122 : Cond.methodLink "GatePatch$Mender" 122 yX6_made ∈ tblG := mem_t 765 (by decide +kernel) rfl
theorem ml_Mender_111 : Cond.methodLink "GatePatch$Mender" 111 yX5_matching ∈ tblG := mem_t 757 (by decide +kernel) rfl
theorem im_X5_matching : Cond.instanceMethod yX5_matching ∈ tblG := mem_t 759 (by decide +kernel) rfl
theorem se_X5_matching : Cond.selects "GatePatch$Mender" yX5_matching yX5_matching ∈ tblG := mem_s 13 (by decide +kernel) rfl
theorem cw_X5_matching : Cond.code yX5_matching cX5_matching 4 (Option.some Jvm.ClassFile.FieldType.long) ∈ tblG := mem_t 760 (by decide +kernel) rfl
theorem nd_X5_matching : yX5_matching.cls ≠ "java/lang/invoke/MethodHandle" ∧ yX5_matching.cls ≠ "java/lang/invoke/VarHandle" ∧ (parseMethodDescriptor yX5_matching.desc).map (fun d => d.parameters.length) = some 0 := by decide +kernel
theorem ml_Mender_129 : Cond.methodLink "GatePatch$Mender" 129 yX5_load ∈ tblG := mem_t 739 (by decide +kernel) rfl
theorem im_X5_load : Cond.instanceMethod yX5_load ∈ tblG := mem_t 740 (by decide +kernel) rfl
theorem se_X5_load : Cond.selects "GatePatch$Mender" yX5_load yX5_load ∈ tblG := mem_t 741 (by decide +kernel) rfl
theorem cw_X5_load : Cond.code yX5_load cX5_load 3 (Option.none : Option Jvm.ClassFile.FieldType) ∈ tblG := mem_t 742 (by decide +kernel) rfl
theorem nd_X5_load : yX5_load.cls ≠ "java/lang/invoke/MethodHandle" ∧ yX5_load.cls ≠ "java/lang/invoke/VarHandle" ∧ (parseMethodDescriptor yX5_load.desc).map (fun d => d.parameters.length) = some 1 := by decide +kernel
theorem ml_Mender_133 : Cond.methodLink "GatePatch$Mender" 133 yX5_assignments ∈ tblG := mem_t 748 (by decide +kernel) rfl
theorem im_X5_assignments : Cond.instanceMethod yX5_assignments ∈ tblG := mem_t 749 (by decide +kernel) rfl
theorem se_X5_assignments : Cond.selects "GatePatch$Mender" yX5_assignments yX5_assignments ∈ tblG := mem_t 750 (by decide +kernel) rfl
theorem cw_X5_assignments : Cond.code yX5_assignments cX5_assignments 1 (Option.some Jvm.ClassFile.FieldType.int) ∈ tblG := mem_t 751 (by decide +kernel) rfl
theorem nd_X5_assignments : yX5_assignments.cls ≠ "java/lang/invoke/MethodHandle" ∧ yX5_assignments.cls ≠ "java/lang/invoke/VarHandle" ∧ (parseMethodDescriptor yX5_assignments.desc).map (fun d => d.parameters.length) = some 0 := by decide +kernel
theorem ml_Mender_136 : Cond.methodLink "GatePatch$Mender" 136 yX5_mended ∈ tblG := mem_t 752 (by decide +kernel) rfl
theorem im_X5_mended : Cond.instanceMethod yX5_mended ∈ tblG := mem_t 753 (by decide +kernel) rfl
theorem se_X5_mended : Cond.selects "GatePatch$Mender" yX5_mended yX5_mended ∈ tblG := mem_t 754 (by decide +kernel) rfl
theorem cw_X5_mended : Cond.code yX5_mended cX5_mended 3 (Option.some Jvm.ClassFile.FieldType.long) ∈ tblG := mem_t 755 (by decide +kernel) rfl
theorem nd_X5_mended : yX5_mended.cls ≠ "java/lang/invoke/MethodHandle" ∧ yX5_mended.cls ≠ "java/lang/invoke/VarHandle" ∧ (parseMethodDescriptor yX5_mended.desc).map (fun d => d.parameters.length) = some 1 := by decide +kernel
theorem ml_Mender_139 : Cond.methodLink "GatePatch$Mender" 139 yX5_unmended ∈ tblG := mem_t 735 (by decide +kernel) rfl
theorem im_X5_unmended : Cond.instanceMethod yX5_unmended ∈ tblG := mem_t 737 (by decide +kernel) rfl
theorem se_X5_unmended : Cond.selects "GatePatch$Mender" yX5_unmended yX5_unmended ∈ tblG := mem_s 11 (by decide +kernel) rfl
theorem cw_X5_unmended : Cond.code yX5_unmended cX5_unmended 5 (Option.some Jvm.ClassFile.FieldType.long) ∈ tblG := mem_t 738 (by decide +kernel) rfl
theorem nd_X5_unmended : yX5_unmended.cls ≠ "java/lang/invoke/MethodHandle" ∧ yX5_unmended.cls ≠ "java/lang/invoke/VarHandle" ∧ (parseMethodDescriptor yX5_unmended.desc).map (fun d => d.parameters.length) = some 1 := by decide +kernel
theorem fl_Mender_150 : FL "GatePatch$Mender" 150 0 0 := ⟨R_Cases, T_Cases, 4, ty_Cases, ci_Cases, by decide, mem_t 137 (by decide +kernel) rfl⟩
theorem ml_Mender_151 : Cond.methodLink "GatePatch$Mender" 151 yX0_isLive ∈ tblG := mem_t 851 (by decide +kernel) rfl
theorem ml_Mender_146 : Cond.methodLink "GatePatch$Mender" 146 yX5_holders ∈ tblG := mem_t 848 (by decide +kernel) rfl
theorem st_X5_holders : Cond.static yX5_holders ∈ tblG := mem_t 849 (by decide +kernel) rfl
theorem cw_X5_holders : Cond.code yX5_holders cX5_holders 7 (Option.some Jvm.ClassFile.FieldType.long) ∈ tblG := mem_t 850 (by decide +kernel) rfl
theorem nd_X5_holders : yX5_holders.cls ≠ "java/lang/invoke/MethodHandle" ∧ yX5_holders.cls ≠ "java/lang/invoke/VarHandle" ∧ (parseMethodDescriptor yX5_holders.desc).map (fun d => d.parameters.length) = some 4 := by decide +kernel
theorem ml_Mender_142 : Cond.methodLink "GatePatch$Mender" 142 yX5_firstMisjudgedIn ∈ tblG := mem_t 844 (by decide +kernel) rfl
theorem im_X5_firstMisjudgedIn : Cond.instanceMethod yX5_firstMisjudgedIn ∈ tblG := mem_t 846 (by decide +kernel) rfl
theorem se_X5_firstMisjudgedIn : Cond.selects "GatePatch$Mender" yX5_firstMisjudgedIn yX5_firstMisjudgedIn ∈ tblG := mem_s 20 (by decide +kernel) rfl
theorem cw_X5_firstMisjudgedIn : Cond.code yX5_firstMisjudgedIn cX5_firstMisjudgedIn 7 (Option.some Jvm.ClassFile.FieldType.int) ∈ tblG := mem_t 847 (by decide +kernel) rfl
theorem nd_X5_firstMisjudgedIn : yX5_firstMisjudgedIn.cls ≠ "java/lang/invoke/MethodHandle" ∧ yX5_firstMisjudgedIn.cls ≠ "java/lang/invoke/VarHandle" ∧ (parseMethodDescriptor yX5_firstMisjudgedIn.desc).map (fun d => d.parameters.length) = some 3 := by decide +kernel
theorem fp_Mender_167 : FP "GatePatch$Mender" 167 4 11 .int := ⟨R_Mender, T_Mender, 15, ty_Mender, ci_Mender, by decide, mem_t 176 (by decide +kernel) rfl, rfl, rfl⟩
theorem fl_Mender_25 : FL "GatePatch$Mender" 25 4 10 := ⟨R_Mender, T_Mender, 15, ty_Mender, ci_Mender, by decide, mem_t 175 (by decide +kernel) rfl⟩
theorem fl_Mender_167 : FL "GatePatch$Mender" 167 4 11 := ⟨R_Mender, T_Mender, 15, ty_Mender, ci_Mender, by decide, mem_t 176 (by decide +kernel) rfl⟩
theorem k_Mender_191 : Cond.constantLong "GatePatch$Mender" 191 (Int64.ofInt 72340172838076673) ∈ tblG := mem_t 782 (by decide +kernel) rfl
theorem fl_Mender_193 : FL "GatePatch$Mender" 193 4 12 := ⟨R_Mender, T_Mender, 15, ty_Mender, ci_Mender, by decide, mem_t 179 (by decide +kernel) rfl⟩
theorem fp_Mender_193 : FP "GatePatch$Mender" 193 4 12 .int := ⟨R_Mender, T_Mender, 15, ty_Mender, ci_Mender, by decide, mem_t 179 (by decide +kernel) rfl, rfl, rfl⟩
theorem fl_Mender_31 : FL "GatePatch$Mender" 31 4 14 := ⟨R_Mender, T_Mender, 15, ty_Mender, ci_Mender, by decide, mem_t 178 (by decide +kernel) rfl⟩
theorem fl_Mender_28 : FL "GatePatch$Mender" 28 4 13 := ⟨R_Mender, T_Mender, 15, ty_Mender, ci_Mender, by decide, mem_t 177 (by decide +kernel) rfl⟩
theorem ml_Mender_154 : Cond.methodLink "GatePatch$Mender" 154 yX5_findWrong ∈ tblG := mem_t 774 (by decide +kernel) rfl
theorem im_X5_findWrong : Cond.instanceMethod yX5_findWrong ∈ tblG := mem_t 776 (by decide +kernel) rfl
theorem se_X5_findWrong : Cond.selects "GatePatch$Mender" yX5_findWrong yX5_findWrong ∈ tblG := mem_s 15 (by decide +kernel) rfl
theorem cw_X5_findWrong : Cond.code yX5_findWrong cX5_findWrong 7 (Option.none : Option Jvm.ClassFile.FieldType) ∈ tblG := mem_t 777 (by decide +kernel) rfl
theorem nd_X5_findWrong : yX5_findWrong.cls ≠ "java/lang/invoke/MethodHandle" ∧ yX5_findWrong.cls ≠ "java/lang/invoke/VarHandle" ∧ (parseMethodDescriptor yX5_findWrong.desc).map (fun d => d.parameters.length) = some 0 := by decide +kernel
theorem ml_Mender_157 : Cond.methodLink "GatePatch$Mender" 157 yX5_addHard ∈ tblG := mem_t 778 (by decide +kernel) rfl
theorem im_X5_addHard : Cond.instanceMethod yX5_addHard ∈ tblG := mem_t 780 (by decide +kernel) rfl
theorem se_X5_addHard : Cond.selects "GatePatch$Mender" yX5_addHard yX5_addHard ∈ tblG := mem_s 16 (by decide +kernel) rfl
theorem cw_X5_addHard : Cond.code yX5_addHard cX5_addHard 7 (Option.none : Option Jvm.ClassFile.FieldType) ∈ tblG := mem_t 781 (by decide +kernel) rfl
theorem nd_X5_addHard : yX5_addHard.cls ≠ "java/lang/invoke/MethodHandle" ∧ yX5_addHard.cls ≠ "java/lang/invoke/VarHandle" ∧ (parseMethodDescriptor yX5_addHard.desc).map (fun d => d.parameters.length) = some 1 := by decide +kernel
theorem ml_Mender_180 : Cond.methodLink "GatePatch$Mender" 180 arraycopyName ∈ tblG := mem_t 797 (by decide +kernel) rfl
theorem k_Mender_189 : Cond.constantLong "GatePatch$Mender" 189 (Int64.ofInt 255) ∈ tblG := mem_t 799 (by decide +kernel) rfl
theorem gs_Mender_186 : Cond.fieldLinkNest "GatePatch$Mender" 186 "GatePatch" "COUNTING" "[J" "GatePatch" ∈ NW := by simp [NW]
theorem ml_Mender_170 : Cond.methodLink "GatePatch$Mender" 170 yX5_aim ∈ tblG := mem_t 792 (by decide +kernel) rfl
theorem im_X5_aim : Cond.instanceMethod yX5_aim ∈ tblG := mem_t 727 (by decide +kernel) rfl
theorem se_X5_aim : Cond.selects "GatePatch$Mender" yX5_aim yX5_aim ∈ tblG := mem_t 728 (by decide +kernel) rfl
theorem cw_X5_aim : Cond.code yX5_aim cX5_aim 5 (Option.some Jvm.ClassFile.FieldType.boolean) ∈ tblG := mem_t 729 (by decide +kernel) rfl
theorem nd_X5_aim : yX5_aim.cls ≠ "java/lang/invoke/MethodHandle" ∧ yX5_aim.cls ≠ "java/lang/invoke/VarHandle" ∧ (parseMethodDescriptor yX5_aim.desc).map (fun d => d.parameters.length) = some 3 := by decide +kernel
theorem ml_Mender_173 : Cond.methodLink "GatePatch$Mender" 173 yX5_failsHard ∈ tblG := mem_t 793 (by decide +kernel) rfl
theorem im_X5_failsHard : Cond.instanceMethod yX5_failsHard ∈ tblG := mem_t 795 (by decide +kernel) rfl
theorem se_X5_failsHard : Cond.selects "GatePatch$Mender" yX5_failsHard yX5_failsHard ∈ tblG := mem_s 18 (by decide +kernel) rfl
theorem cw_X5_failsHard : Cond.code yX5_failsHard cX5_failsHard 6 (Option.some Jvm.ClassFile.FieldType.boolean) ∈ tblG := mem_t 796 (by decide +kernel) rfl
theorem nd_X5_failsHard : yX5_failsHard.cls ≠ "java/lang/invoke/MethodHandle" ∧ yX5_failsHard.cls ≠ "java/lang/invoke/VarHandle" ∧ (parseMethodDescriptor yX5_failsHard.desc).map (fun d => d.parameters.length) = some 0 := by decide +kernel
theorem ml_Mender_177 : Cond.methodLink "GatePatch$Mender" 177 yX5_firstUnmended ∈ tblG := mem_t 800 (by decide +kernel) rfl
theorem im_X5_firstUnmended : Cond.instanceMethod yX5_firstUnmended ∈ tblG := mem_t 732 (by decide +kernel) rfl
theorem se_X5_firstUnmended : Cond.selects "GatePatch$Mender" yX5_firstUnmended yX5_firstUnmended ∈ tblG := mem_t 733 (by decide +kernel) rfl
theorem cw_X5_firstUnmended : Cond.code yX5_firstUnmended cX5_firstUnmended 4 (Option.some Jvm.ClassFile.FieldType.int) ∈ tblG := mem_t 734 (by decide +kernel) rfl
theorem nd_X5_firstUnmended : yX5_firstUnmended.cls ≠ "java/lang/invoke/MethodHandle" ∧ yX5_firstUnmended.cls ≠ "java/lang/invoke/VarHandle" ∧ (parseMethodDescriptor yX5_firstUnmended.desc).map (fun d => d.parameters.length) = some 0 := by decide +kernel
theorem ml_Mender_160 : Cond.methodLink "GatePatch$Mender" 160 yX8_sources ∈ tblG := mem_t 787 (by decide +kernel) rfl
theorem ml_Mender_163 : Cond.methodLink "GatePatch$Mender" 163 yX5_isEnough ∈ tblG := mem_t 788 (by decide +kernel) rfl
theorem im_X5_isEnough : Cond.instanceMethod yX5_isEnough ∈ tblG := mem_t 790 (by decide +kernel) rfl
theorem se_X5_isEnough : Cond.selects "GatePatch$Mender" yX5_isEnough yX5_isEnough ∈ tblG := mem_s 17 (by decide +kernel) rfl
theorem cw_X5_isEnough : Cond.code yX5_isEnough cX5_isEnough 5 (Option.some Jvm.ClassFile.FieldType.boolean) ∈ tblG := mem_t 791 (by decide +kernel) rfl
theorem nd_X5_isEnough : yX5_isEnough.cls ≠ "java/lang/invoke/MethodHandle" ∧ yX5_isEnough.cls ≠ "java/lang/invoke/VarHandle" ∧ (parseMethodDescriptor yX5_isEnough.desc).map (fun d => d.parameters.length) = some 3 := by decide +kernel
theorem dX5_aim_0 : decode cX5_aim 0 = .ok (.aload_n 0, 1) := by decide +kernel
theorem dX5_aim_1 : decode cX5_aim 1 = .ok (.getfield 34, 3) := by decide +kernel
theorem dX5_aim_4 : decode cX5_aim 4 = .ok (.getfield 45, 3) := by decide +kernel
theorem dX5_aim_7 : decode cX5_aim 7 = .ok (.iload_n 1, 1) := by decide +kernel
theorem dX5_aim_8 : decode cX5_aim 8 = .ok (.invokevirtual 51, 3) := by decide +kernel
theorem dX5_aim_11 : decode cX5_aim 11 = .ok (.ifCond .ne 5, 3) := by decide +kernel
theorem dX5_aim_14 : decode cX5_aim 14 = .ok (.iconst 0, 1) := by decide +kernel
theorem dX5_aim_15 : decode cX5_aim 15 = .ok (.ireturn, 1) := by decide +kernel
theorem dX5_aim_16 : decode cX5_aim 16 = .ok (.iload_n 2, 1) := by decide +kernel
theorem dX5_aim_17 : decode cX5_aim 17 = .ok (.iconst (-1), 1) := by decide +kernel
theorem dX5_aim_18 : decode cX5_aim 18 = .ok (.if_icmp .ne 11, 3) := by decide +kernel
theorem dX5_aim_21 : decode cX5_aim 21 = .ok (.iload_n 3, 1) := by decide +kernel
theorem dX5_aim_22 : decode cX5_aim 22 = .ok (.iconst (-1), 1) := by decide +kernel
theorem dX5_aim_23 : decode cX5_aim 23 = .ok (.if_icmp .eq 27, 3) := by decide +kernel
theorem dX5_aim_26 : decode cX5_aim 26 = .ok (.goto 22, 3) := by decide +kernel
theorem dX5_aim_29 : decode cX5_aim 29 = .ok (.iload_n 2, 1) := by decide +kernel
theorem dX5_aim_30 : decode cX5_aim 30 = .ok (.iload_n 1, 1) := by decide +kernel
theorem dX5_aim_31 : decode cX5_aim 31 = .ok (.if_icmp .le 17, 3) := by decide +kernel
theorem dX5_aim_34 : decode cX5_aim 34 = .ok (.aload_n 0, 1) := by decide +kernel
theorem dX5_aim_35 : decode cX5_aim 35 = .ok (.getfield 34, 3) := by decide +kernel
theorem dX5_aim_38 : decode cX5_aim 38 = .ok (.getfield 45, 3) := by decide +kernel
theorem dX5_aim_41 : decode cX5_aim 41 = .ok (.iload_n 2, 1) := by decide +kernel
theorem dX5_aim_42 : decode cX5_aim 42 = .ok (.invokevirtual 51, 3) := by decide +kernel
theorem dX5_aim_45 : decode cX5_aim 45 = .ok (.ifCond .ne 5, 3) := by decide +kernel
theorem dX5_aim_48 : decode cX5_aim 48 = .ok (.iconst 0, 1) := by decide +kernel
theorem dX5_aim_49 : decode cX5_aim 49 = .ok (.ireturn, 1) := by decide +kernel
theorem dX5_aim_50 : decode cX5_aim 50 = .ok (.iload_n 3, 1) := by decide +kernel
theorem dX5_aim_51 : decode cX5_aim 51 = .ok (.iconst (-1), 1) := by decide +kernel
theorem dX5_aim_52 : decode cX5_aim 52 = .ok (.if_icmp .eq 24, 3) := by decide +kernel
theorem dX5_aim_55 : decode cX5_aim 55 = .ok (.iload_n 3, 1) := by decide +kernel
theorem dX5_aim_56 : decode cX5_aim 56 = .ok (.iload_n 2, 1) := by decide +kernel
theorem dX5_aim_57 : decode cX5_aim 57 = .ok (.if_icmp .le 17, 3) := by decide +kernel
theorem dX5_aim_60 : decode cX5_aim 60 = .ok (.aload_n 0, 1) := by decide +kernel
theorem dX5_aim_61 : decode cX5_aim 61 = .ok (.getfield 34, 3) := by decide +kernel
theorem dX5_aim_64 : decode cX5_aim 64 = .ok (.getfield 45, 3) := by decide +kernel
theorem dX5_aim_67 : decode cX5_aim 67 = .ok (.iload_n 3, 1) := by decide +kernel
theorem dX5_aim_68 : decode cX5_aim 68 = .ok (.invokevirtual 51, 3) := by decide +kernel
theorem dX5_aim_71 : decode cX5_aim 71 = .ok (.ifCond .ne 5, 3) := by decide +kernel
theorem dX5_aim_74 : decode cX5_aim 74 = .ok (.iconst 0, 1) := by decide +kernel
theorem dX5_aim_75 : decode cX5_aim 75 = .ok (.ireturn, 1) := by decide +kernel
theorem dX5_aim_76 : decode cX5_aim 76 = .ok (.aload_n 0, 1) := by decide +kernel
theorem dX5_aim_77 : decode cX5_aim 77 = .ok (.getfield 9, 3) := by decide +kernel
theorem dX5_aim_80 : decode cX5_aim 80 = .ok (.iconst 0, 1) := by decide +kernel
theorem dX5_aim_81 : decode cX5_aim 81 = .ok (.iload_n 1, 1) := by decide +kernel
theorem dX5_aim_82 : decode cX5_aim 82 = .ok (.iastore, 1) := by decide +kernel
theorem dX5_aim_83 : decode cX5_aim 83 = .ok (.aload_n 0, 1) := by decide +kernel
theorem dX5_aim_84 : decode cX5_aim 84 = .ok (.getfield 9, 3) := by decide +kernel
theorem dX5_aim_87 : decode cX5_aim 87 = .ok (.iconst 1, 1) := by decide +kernel
theorem dX5_aim_88 : decode cX5_aim 88 = .ok (.iload_n 2, 1) := by decide +kernel
theorem dX5_aim_89 : decode cX5_aim 89 = .ok (.iastore, 1) := by decide +kernel
theorem dX5_aim_90 : decode cX5_aim 90 = .ok (.aload_n 0, 1) := by decide +kernel
theorem dX5_aim_91 : decode cX5_aim 91 = .ok (.getfield 9, 3) := by decide +kernel
theorem dX5_aim_94 : decode cX5_aim 94 = .ok (.iconst 2, 1) := by decide +kernel
theorem dX5_aim_95 : decode cX5_aim 95 = .ok (.iload_n 3, 1) := by decide +kernel
theorem dX5_aim_96 : decode cX5_aim 96 = .ok (.iastore, 1) := by decide +kernel
theorem dX5_aim_97 : decode cX5_aim 97 = .ok (.aload_n 0, 1) := by decide +kernel
theorem dX5_aim_98 : decode cX5_aim 98 = .ok (.iload_n 2, 1) := by decide +kernel
theorem dX5_aim_99 : decode cX5_aim 99 = .ok (.iconst (-1), 1) := by decide +kernel
theorem dX5_aim_100 : decode cX5_aim 100 = .ok (.if_icmp .ne 7, 3) := by decide +kernel
theorem dX5_aim_103 : decode cX5_aim 103 = .ok (.iconst 1, 1) := by decide +kernel
theorem dX5_aim_104 : decode cX5_aim 104 = .ok (.goto 13, 3) := by decide +kernel
theorem dX5_aim_107 : decode cX5_aim 107 = .ok (.iload_n 3, 1) := by decide +kernel
theorem dX5_aim_108 : decode cX5_aim 108 = .ok (.iconst (-1), 1) := by decide +kernel
theorem dX5_aim_109 : decode cX5_aim 109 = .ok (.if_icmp .ne 7, 3) := by decide +kernel
theorem dX5_aim_112 : decode cX5_aim 112 = .ok (.iconst 2, 1) := by decide +kernel
theorem dX5_aim_113 : decode cX5_aim 113 = .ok (.goto 4, 3) := by decide +kernel
theorem dX5_aim_116 : decode cX5_aim 116 = .ok (.iconst 3, 1) := by decide +kernel
theorem dX5_aim_117 : decode cX5_aim 117 = .ok (.putfield 57, 3) := by decide +kernel
theorem dX5_aim_120 : decode cX5_aim 120 = .ok (.aload_n 0, 1) := by decide +kernel
theorem dX5_aim_121 : decode cX5_aim 121 = .ok (.lconst 0, 1) := by decide +kernel
theorem dX5_aim_122 : decode cX5_aim 122 = .ok (.putfield 61, 3) := by decide +kernel
theorem dX5_aim_125 : decode cX5_aim 125 = .ok (.iconst 0, 1) := by decide +kernel
theorem dX5_aim_126 : decode cX5_aim 126 = .ok (.istore 4, 2) := by decide +kernel
theorem dX5_aim_128 : decode cX5_aim 128 = .ok (.iload 4, 2) := by decide +kernel
theorem dX5_aim_130 : decode cX5_aim 130 = .ok (.aload_n 0, 1) := by decide +kernel
theorem dX5_aim_131 : decode cX5_aim 131 = .ok (.getfield 57, 3) := by decide +kernel
theorem dX5_aim_134 : decode cX5_aim 134 = .ok (.if_icmp .ge 27, 3) := by decide +kernel
theorem dX5_aim_137 : decode cX5_aim 137 = .ok (.aload_n 0, 1) := by decide +kernel
theorem dX5_aim_138 : decode cX5_aim 138 = .ok (.dup, 1) := by decide +kernel
theorem dX5_aim_139 : decode cX5_aim 139 = .ok (.getfield 61, 3) := by decide +kernel
theorem dX5_aim_142 : decode cX5_aim 142 = .ok (.lconst 1, 1) := by decide +kernel
theorem dX5_aim_143 : decode cX5_aim 143 = .ok (.aload_n 0, 1) := by decide +kernel
theorem dX5_aim_144 : decode cX5_aim 144 = .ok (.getfield 9, 3) := by decide +kernel
theorem dX5_aim_147 : decode cX5_aim 147 = .ok (.iload 4, 2) := by decide +kernel
theorem dX5_aim_149 : decode cX5_aim 149 = .ok (.iaload, 1) := by decide +kernel
theorem dX5_aim_150 : decode cX5_aim 150 = .ok (.lshl, 1) := by decide +kernel
theorem dX5_aim_151 : decode cX5_aim 151 = .ok (.lor, 1) := by decide +kernel
theorem dX5_aim_152 : decode cX5_aim 152 = .ok (.putfield 61, 3) := by decide +kernel
theorem dX5_aim_155 : decode cX5_aim 155 = .ok (.iinc 4 1, 3) := by decide +kernel
theorem dX5_aim_158 : decode cX5_aim 158 = .ok (.goto (-30), 3) := by decide +kernel
theorem dX5_aim_161 : decode cX5_aim 161 = .ok (.iconst 1, 1) := by decide +kernel
theorem dX5_aim_162 : decode cX5_aim 162 = .ok (.ireturn, 1) := by decide +kernel
theorem dX5_assignments_0 : decode cX5_assignments 0 = .ok (.iconst 1, 1) := by decide +kernel
theorem dX5_assignments_1 : decode cX5_assignments 1 = .ok (.aload_n 0, 1) := by decide +kernel
theorem dX5_assignments_2 : decode cX5_assignments 2 = .ok (.getfield 57, 3) := by decide +kernel
theorem dX5_assignments_5 : decode cX5_assignments 5 = .ok (.ishl, 1) := by decide +kernel
theorem dX5_assignments_6 : decode cX5_assignments 6 = .ok (.ireturn, 1) := by decide +kernel
theorem dX5_difference_0 : decode cX5_difference 0 = .ok (.lconst 0, 1) := by decide +kernel
theorem dX5_difference_1 : decode cX5_difference 1 = .ok (.lstore_n 2, 1) := by decide +kernel
theorem dX5_difference_2 : decode cX5_difference 2 = .ok (.iconst 0, 1) := by decide +kernel
theorem dX5_difference_3 : decode cX5_difference 3 = .ok (.istore 4, 2) := by decide +kernel
theorem dX5_difference_5 : decode cX5_difference 5 = .ok (.iload 4, 2) := by decide +kernel
theorem dX5_difference_7 : decode cX5_difference 7 = .ok (.aload_n 0, 1) := by decide +kernel
theorem dX5_difference_8 : decode cX5_difference 8 = .ok (.getfield 34, 3) := by decide +kernel
theorem dX5_difference_11 : decode cX5_difference 11 = .ok (.getfield 45, 3) := by decide +kernel
theorem dX5_difference_14 : decode cX5_difference 14 = .ok (.invokevirtual 65, 3) := by decide +kernel
theorem dX5_difference_17 : decode cX5_difference 17 = .ok (.if_icmp .ge 63, 3) := by decide +kernel
theorem dX5_difference_20 : decode cX5_difference 20 = .ok (.lload_n 2, 1) := by decide +kernel
theorem dX5_difference_21 : decode cX5_difference 21 = .ok (.aload_n 0, 1) := by decide +kernel
theorem dX5_difference_22 : decode cX5_difference 22 = .ok (.getfield 34, 3) := by decide +kernel
theorem dX5_difference_25 : decode cX5_difference 25 = .ok (.getfield 69, 3) := by decide +kernel
theorem dX5_difference_28 : decode cX5_difference 28 = .ok (.iconst 4, 1) := by decide +kernel
theorem dX5_difference_29 : decode cX5_difference 29 = .ok (.aload_n 0, 1) := by decide +kernel
theorem dX5_difference_30 : decode cX5_difference 30 = .ok (.getfield 34, 3) := by decide +kernel
theorem dX5_difference_33 : decode cX5_difference 33 = .ok (.getfield 45, 3) := by decide +kernel
theorem dX5_difference_36 : decode cX5_difference 36 = .ok (.getfield 72, 3) := by decide +kernel
theorem dX5_difference_39 : decode cX5_difference 39 = .ok (.iload 4, 2) := by decide +kernel
theorem dX5_difference_41 : decode cX5_difference 41 = .ok (.iaload, 1) := by decide +kernel
theorem dX5_difference_42 : decode cX5_difference 42 = .ok (.imul, 1) := by decide +kernel
theorem dX5_difference_43 : decode cX5_difference 43 = .ok (.iload_n 1, 1) := by decide +kernel
theorem dX5_difference_44 : decode cX5_difference 44 = .ok (.iadd, 1) := by decide +kernel
theorem dX5_difference_45 : decode cX5_difference 45 = .ok (.laload, 1) := by decide +kernel
theorem dX5_difference_46 : decode cX5_difference 46 = .ok (.aload_n 0, 1) := by decide +kernel
theorem dX5_difference_47 : decode cX5_difference 47 = .ok (.getfield 38, 3) := by decide +kernel
theorem dX5_difference_50 : decode cX5_difference 50 = .ok (.getfield 69, 3) := by decide +kernel
theorem dX5_difference_53 : decode cX5_difference 53 = .ok (.iconst 4, 1) := by decide +kernel
theorem dX5_difference_54 : decode cX5_difference 54 = .ok (.aload_n 0, 1) := by decide +kernel
theorem dX5_difference_55 : decode cX5_difference 55 = .ok (.getfield 38, 3) := by decide +kernel
theorem dX5_difference_58 : decode cX5_difference 58 = .ok (.getfield 45, 3) := by decide +kernel
theorem dX5_difference_61 : decode cX5_difference 61 = .ok (.getfield 72, 3) := by decide +kernel
theorem dX5_difference_64 : decode cX5_difference 64 = .ok (.iload 4, 2) := by decide +kernel
theorem dX5_difference_66 : decode cX5_difference 66 = .ok (.iaload, 1) := by decide +kernel
theorem dX5_difference_67 : decode cX5_difference 67 = .ok (.imul, 1) := by decide +kernel
theorem dX5_difference_68 : decode cX5_difference 68 = .ok (.iload_n 1, 1) := by decide +kernel
theorem dX5_difference_69 : decode cX5_difference 69 = .ok (.iadd, 1) := by decide +kernel
theorem dX5_difference_70 : decode cX5_difference 70 = .ok (.laload, 1) := by decide +kernel
theorem dX5_difference_71 : decode cX5_difference 71 = .ok (.lxor, 1) := by decide +kernel
theorem dX5_difference_72 : decode cX5_difference 72 = .ok (.lor, 1) := by decide +kernel
theorem dX5_difference_73 : decode cX5_difference 73 = .ok (.lstore_n 2, 1) := by decide +kernel
theorem dX5_difference_74 : decode cX5_difference 74 = .ok (.iinc 4 1, 3) := by decide +kernel
theorem dX5_difference_77 : decode cX5_difference 77 = .ok (.goto (-72), 3) := by decide +kernel
theorem dX5_difference_80 : decode cX5_difference 80 = .ok (.lload_n 2, 1) := by decide +kernel
theorem dX5_difference_81 : decode cX5_difference 81 = .ok (.aload_n 0, 1) := by decide +kernel
theorem dX5_difference_82 : decode cX5_difference 82 = .ok (.getfield 41, 3) := by decide +kernel
theorem dX5_difference_85 : decode cX5_difference 85 = .ok (.getfield 75, 3) := by decide +kernel
theorem dX5_difference_88 : decode cX5_difference 88 = .ok (.iload_n 1, 1) := by decide +kernel
theorem dX5_difference_89 : decode cX5_difference 89 = .ok (.laload, 1) := by decide +kernel
theorem dX5_difference_90 : decode cX5_difference 90 = .ok (.land, 1) := by decide +kernel
theorem dX5_difference_91 : decode cX5_difference 91 = .ok (.lreturn, 1) := by decide +kernel
theorem dX5_firstDifference_0 : decode cX5_firstDifference 0 = .ok (.iconst 0, 1) := by decide +kernel
theorem dX5_firstDifference_1 : decode cX5_firstDifference 1 = .ok (.istore_n 1, 1) := by decide +kernel
theorem dX5_firstDifference_2 : decode cX5_firstDifference 2 = .ok (.iload_n 1, 1) := by decide +kernel
theorem dX5_firstDifference_3 : decode cX5_firstDifference 3 = .ok (.aload_n 0, 1) := by decide +kernel
theorem dX5_firstDifference_4 : decode cX5_firstDifference 4 = .ok (.getfield 41, 3) := by decide +kernel
theorem dX5_firstDifference_7 : decode cX5_firstDifference 7 = .ok (.getfield 80, 3) := by decide +kernel
theorem dX5_firstDifference_10 : decode cX5_firstDifference 10 = .ok (.if_icmp .ge 27, 3) := by decide +kernel
theorem dX5_firstDifference_13 : decode cX5_firstDifference 13 = .ok (.aload_n 0, 1) := by decide +kernel
theorem dX5_firstDifference_14 : decode cX5_firstDifference 14 = .ok (.iload_n 1, 1) := by decide +kernel
theorem dX5_firstDifference_15 : decode cX5_firstDifference 15 = .ok (.invokevirtual 83, 3) := by decide +kernel
theorem dX5_firstDifference_18 : decode cX5_firstDifference 18 = .ok (.lstore_n 2, 1) := by decide +kernel
theorem dX5_firstDifference_19 : decode cX5_firstDifference 19 = .ok (.lload_n 2, 1) := by decide +kernel
theorem dX5_firstDifference_20 : decode cX5_firstDifference 20 = .ok (.lconst 0, 1) := by decide +kernel
theorem dX5_firstDifference_21 : decode cX5_firstDifference 21 = .ok (.lcmp, 1) := by decide +kernel
theorem dX5_firstDifference_22 : decode cX5_firstDifference 22 = .ok (.ifCond .eq 9, 3) := by decide +kernel
theorem dX5_firstDifference_25 : decode cX5_firstDifference 25 = .ok (.iload_n 1, 1) := by decide +kernel
theorem dX5_firstDifference_26 : decode cX5_firstDifference 26 = .ok (.lload_n 2, 1) := by decide +kernel
theorem dX5_firstDifference_27 : decode cX5_firstDifference 27 = .ok (.invokestatic 87, 3) := by decide +kernel
theorem dX5_firstDifference_30 : decode cX5_firstDifference 30 = .ok (.ireturn, 1) := by decide +kernel
theorem dX5_firstDifference_31 : decode cX5_firstDifference 31 = .ok (.iinc 1 1, 3) := by decide +kernel
theorem dX5_firstDifference_34 : decode cX5_firstDifference 34 = .ok (.goto (-32), 3) := by decide +kernel
theorem dX5_firstDifference_37 : decode cX5_firstDifference 37 = .ok (.sipush 1000, 3) := by decide +kernel
theorem dX5_firstDifference_40 : decode cX5_firstDifference 40 = .ok (.ireturn, 1) := by decide +kernel
theorem dX5_findCone_0 : decode cX5_findCone 0 = .ok (.aload_n 0, 1) := by decide +kernel
theorem dX5_findCone_1 : decode cX5_findCone 1 = .ok (.iconst 0, 1) := by decide +kernel
theorem dX5_findCone_2 : decode cX5_findCone 2 = .ok (.putfield 97, 3) := by decide +kernel
theorem dX5_findCone_5 : decode cX5_findCone 5 = .ok (.iconst 0, 1) := by decide +kernel
theorem dX5_findCone_6 : decode cX5_findCone 6 = .ok (.istore_n 1, 1) := by decide +kernel
theorem dX5_findCone_7 : decode cX5_findCone 7 = .ok (.iload_n 1, 1) := by decide +kernel
theorem dX5_findCone_8 : decode cX5_findCone 8 = .ok (.aload_n 0, 1) := by decide +kernel
theorem dX5_findCone_9 : decode cX5_findCone 9 = .ok (.getfield 34, 3) := by decide +kernel
theorem dX5_findCone_12 : decode cX5_findCone 12 = .ok (.getfield 45, 3) := by decide +kernel
theorem dX5_findCone_15 : decode cX5_findCone 15 = .ok (.getfield 100, 3) := by decide +kernel
theorem dX5_findCone_18 : decode cX5_findCone 18 = .ok (.if_icmp .ge 71, 3) := by decide +kernel
theorem dX5_findCone_21 : decode cX5_findCone 21 = .ok (.aload_n 0, 1) := by decide +kernel
theorem dX5_findCone_22 : decode cX5_findCone 22 = .ok (.getfield 34, 3) := by decide +kernel
theorem dX5_findCone_25 : decode cX5_findCone 25 = .ok (.getfield 103, 3) := by decide +kernel
theorem dX5_findCone_28 : decode cX5_findCone 28 = .ok (.iload_n 1, 1) := by decide +kernel
theorem dX5_findCone_29 : decode cX5_findCone 29 = .ok (.iaload, 1) := by decide +kernel
theorem dX5_findCone_30 : decode cX5_findCone 30 = .ok (.istore_n 2, 1) := by decide +kernel
theorem dX5_findCone_31 : decode cX5_findCone 31 = .ok (.aload_n 0, 1) := by decide +kernel
theorem dX5_findCone_32 : decode cX5_findCone 32 = .ok (.getfield 34, 3) := by decide +kernel
theorem dX5_findCone_35 : decode cX5_findCone 35 = .ok (.getfield 106, 3) := by decide +kernel
theorem dX5_findCone_38 : decode cX5_findCone 38 = .ok (.iload_n 2, 1) := by decide +kernel
theorem dX5_findCone_39 : decode cX5_findCone 39 = .ok (.laload, 1) := by decide +kernel
theorem dX5_findCone_40 : decode cX5_findCone 40 = .ok (.aload_n 0, 1) := by decide +kernel
theorem dX5_findCone_41 : decode cX5_findCone 41 = .ok (.getfield 61, 3) := by decide +kernel
theorem dX5_findCone_44 : decode cX5_findCone 44 = .ok (.land, 1) := by decide +kernel
theorem dX5_findCone_45 : decode cX5_findCone 45 = .ok (.lconst 0, 1) := by decide +kernel
theorem dX5_findCone_46 : decode cX5_findCone 46 = .ok (.lcmp, 1) := by decide +kernel
theorem dX5_findCone_47 : decode cX5_findCone 47 = .ok (.ifCond .eq 36, 3) := by decide +kernel
theorem dX5_findCone_50 : decode cX5_findCone 50 = .ok (.aload_n 0, 1) := by decide +kernel
theorem dX5_findCone_51 : decode cX5_findCone 51 = .ok (.getfield 61, 3) := by decide +kernel
theorem dX5_findCone_54 : decode cX5_findCone 54 = .ok (.iload_n 2, 1) := by decide +kernel
theorem dX5_findCone_55 : decode cX5_findCone 55 = .ok (.lshr, 1) := by decide +kernel
theorem dX5_findCone_56 : decode cX5_findCone 56 = .ok (.lconst 1, 1) := by decide +kernel
theorem dX5_findCone_57 : decode cX5_findCone 57 = .ok (.land, 1) := by decide +kernel
theorem dX5_findCone_58 : decode cX5_findCone 58 = .ok (.lconst 0, 1) := by decide +kernel
theorem dX5_findCone_59 : decode cX5_findCone 59 = .ok (.lcmp, 1) := by decide +kernel
theorem dX5_findCone_60 : decode cX5_findCone 60 = .ok (.ifCond .ne 23, 3) := by decide +kernel
theorem dX5_findCone_63 : decode cX5_findCone 63 = .ok (.aload_n 0, 1) := by decide +kernel
theorem dX5_findCone_64 : decode cX5_findCone 64 = .ok (.getfield 22, 3) := by decide +kernel
theorem dX5_findCone_67 : decode cX5_findCone 67 = .ok (.aload_n 0, 1) := by decide +kernel
theorem dX5_findCone_68 : decode cX5_findCone 68 = .ok (.getfield 97, 3) := by decide +kernel
theorem dX5_findCone_71 : decode cX5_findCone 71 = .ok (.iload_n 2, 1) := by decide +kernel
theorem dX5_findCone_72 : decode cX5_findCone 72 = .ok (.iastore, 1) := by decide +kernel
theorem dX5_findCone_73 : decode cX5_findCone 73 = .ok (.aload_n 0, 1) := by decide +kernel
theorem dX5_findCone_74 : decode cX5_findCone 74 = .ok (.dup, 1) := by decide +kernel
theorem dX5_findCone_75 : decode cX5_findCone 75 = .ok (.getfield 97, 3) := by decide +kernel
theorem dX5_findCone_78 : decode cX5_findCone 78 = .ok (.iconst 1, 1) := by decide +kernel
theorem dX5_findCone_79 : decode cX5_findCone 79 = .ok (.iadd, 1) := by decide +kernel
theorem dX5_findCone_80 : decode cX5_findCone 80 = .ok (.putfield 97, 3) := by decide +kernel
theorem dX5_findCone_83 : decode cX5_findCone 83 = .ok (.iinc 1 1, 3) := by decide +kernel
theorem dX5_findCone_86 : decode cX5_findCone 86 = .ok (.goto (-79), 3) := by decide +kernel
theorem dX5_findCone_89 : decode cX5_findCone 89 = .ok (.return_, 1) := by decide +kernel
theorem dX5_load_0 : decode cX5_load 0 = .ok (.iconst 0, 1) := by decide +kernel
theorem dX5_load_1 : decode cX5_load 1 = .ok (.istore_n 2, 1) := by decide +kernel
theorem dX5_load_2 : decode cX5_load 2 = .ok (.iload_n 2, 1) := by decide +kernel
theorem dX5_load_3 : decode cX5_load 3 = .ok (.aload_n 0, 1) := by decide +kernel
theorem dX5_load_4 : decode cX5_load 4 = .ok (.getfield 34, 3) := by decide +kernel
theorem dX5_load_7 : decode cX5_load 7 = .ok (.getfield 45, 3) := by decide +kernel
theorem dX5_load_10 : decode cX5_load 10 = .ok (.invokevirtual 91, 3) := by decide +kernel
theorem dX5_load_13 : decode cX5_load 13 = .ok (.if_icmp .ge 28, 3) := by decide +kernel
theorem dX5_load_16 : decode cX5_load 16 = .ok (.aload_n 0, 1) := by decide +kernel
theorem dX5_load_17 : decode cX5_load 17 = .ok (.getfield 15, 3) := by decide +kernel
theorem dX5_load_20 : decode cX5_load 20 = .ok (.iload_n 2, 1) := by decide +kernel
theorem dX5_load_21 : decode cX5_load 21 = .ok (.aload_n 0, 1) := by decide +kernel
theorem dX5_load_22 : decode cX5_load 22 = .ok (.getfield 34, 3) := by decide +kernel
theorem dX5_load_25 : decode cX5_load 25 = .ok (.getfield 69, 3) := by decide +kernel
theorem dX5_load_28 : decode cX5_load 28 = .ok (.iconst 4, 1) := by decide +kernel
theorem dX5_load_29 : decode cX5_load 29 = .ok (.iload_n 2, 1) := by decide +kernel
theorem dX5_load_30 : decode cX5_load 30 = .ok (.imul, 1) := by decide +kernel
theorem dX5_load_31 : decode cX5_load 31 = .ok (.iload_n 1, 1) := by decide +kernel
theorem dX5_load_32 : decode cX5_load 32 = .ok (.iadd, 1) := by decide +kernel
theorem dX5_load_33 : decode cX5_load 33 = .ok (.laload, 1) := by decide +kernel
theorem dX5_load_34 : decode cX5_load 34 = .ok (.lastore, 1) := by decide +kernel
theorem dX5_load_35 : decode cX5_load 35 = .ok (.iinc 2 1, 3) := by decide +kernel
theorem dX5_load_38 : decode cX5_load 38 = .ok (.goto (-36), 3) := by decide +kernel
theorem dX5_load_41 : decode cX5_load 41 = .ok (.iconst 0, 1) := by decide +kernel
theorem dX5_load_42 : decode cX5_load 42 = .ok (.istore_n 2, 1) := by decide +kernel
theorem dX5_load_43 : decode cX5_load 43 = .ok (.iload_n 2, 1) := by decide +kernel
theorem dX5_load_44 : decode cX5_load 44 = .ok (.aload_n 0, 1) := by decide +kernel
theorem dX5_load_45 : decode cX5_load 45 = .ok (.getfield 38, 3) := by decide +kernel
theorem dX5_load_48 : decode cX5_load 48 = .ok (.getfield 45, 3) := by decide +kernel
theorem dX5_load_51 : decode cX5_load 51 = .ok (.invokevirtual 65, 3) := by decide +kernel
theorem dX5_load_54 : decode cX5_load 54 = .ok (.if_icmp .ge 39, 3) := by decide +kernel
theorem dX5_load_57 : decode cX5_load 57 = .ok (.aload_n 0, 1) := by decide +kernel
theorem dX5_load_58 : decode cX5_load 58 = .ok (.getfield 19, 3) := by decide +kernel
theorem dX5_load_61 : decode cX5_load 61 = .ok (.iload_n 2, 1) := by decide +kernel
theorem dX5_load_62 : decode cX5_load 62 = .ok (.aload_n 0, 1) := by decide +kernel
theorem dX5_load_63 : decode cX5_load 63 = .ok (.getfield 38, 3) := by decide +kernel
theorem dX5_load_66 : decode cX5_load 66 = .ok (.getfield 69, 3) := by decide +kernel
theorem dX5_load_69 : decode cX5_load 69 = .ok (.iconst 4, 1) := by decide +kernel
theorem dX5_load_70 : decode cX5_load 70 = .ok (.aload_n 0, 1) := by decide +kernel
theorem dX5_load_71 : decode cX5_load 71 = .ok (.getfield 38, 3) := by decide +kernel
theorem dX5_load_74 : decode cX5_load 74 = .ok (.getfield 45, 3) := by decide +kernel
theorem dX5_load_77 : decode cX5_load 77 = .ok (.getfield 72, 3) := by decide +kernel
theorem dX5_load_80 : decode cX5_load 80 = .ok (.iload_n 2, 1) := by decide +kernel
theorem dX5_load_81 : decode cX5_load 81 = .ok (.iaload, 1) := by decide +kernel
theorem dX5_load_82 : decode cX5_load 82 = .ok (.imul, 1) := by decide +kernel
theorem dX5_load_83 : decode cX5_load 83 = .ok (.iload_n 1, 1) := by decide +kernel
theorem dX5_load_84 : decode cX5_load 84 = .ok (.iadd, 1) := by decide +kernel
theorem dX5_load_85 : decode cX5_load 85 = .ok (.laload, 1) := by decide +kernel
theorem dX5_load_86 : decode cX5_load 86 = .ok (.lastore, 1) := by decide +kernel
theorem dX5_load_87 : decode cX5_load 87 = .ok (.iinc 2 1, 3) := by decide +kernel
theorem dX5_load_90 : decode cX5_load 90 = .ok (.goto (-47), 3) := by decide +kernel
theorem dX5_load_93 : decode cX5_load 93 = .ok (.aload_n 0, 1) := by decide +kernel
theorem dX5_load_94 : decode cX5_load 94 = .ok (.invokevirtual 94, 3) := by decide +kernel
theorem dX5_load_97 : decode cX5_load 97 = .ok (.return_, 1) := by decide +kernel
theorem dX5_pinNow_0 : decode cX5_pinNow 0 = .ok (.aload_n 0, 1) := by decide +kernel
theorem dX5_pinNow_1 : decode cX5_pinNow 1 = .ok (.getfield 34, 3) := by decide +kernel
theorem dX5_pinNow_4 : decode cX5_pinNow 4 = .ok (.getfield 45, 3) := by decide +kernel
theorem dX5_pinNow_7 : decode cX5_pinNow 7 = .ok (.getfield 126, 3) := by decide +kernel
theorem dX5_pinNow_10 : decode cX5_pinNow 10 = .ok (.iconst 3, 1) := by decide +kernel
theorem dX5_pinNow_11 : decode cX5_pinNow 11 = .ok (.iload_n 1, 1) := by decide +kernel
theorem dX5_pinNow_12 : decode cX5_pinNow 12 = .ok (.imul, 1) := by decide +kernel
theorem dX5_pinNow_13 : decode cX5_pinNow 13 = .ok (.iload_n 2, 1) := by decide +kernel
theorem dX5_pinNow_14 : decode cX5_pinNow 14 = .ok (.iadd, 1) := by decide +kernel
theorem dX5_pinNow_15 : decode cX5_pinNow 15 = .ok (.iaload, 1) := by decide +kernel
theorem dX5_pinNow_16 : decode cX5_pinNow 16 = .ok (.istore_n 3, 1) := by decide +kernel
theorem dX5_pinNow_17 : decode cX5_pinNow 17 = .ok (.iload_n 3, 1) := by decide +kernel
theorem dX5_pinNow_18 : decode cX5_pinNow 18 = .ok (.ifCond .ge 7, 3) := by decide +kernel
theorem dX5_pinNow_21 : decode cX5_pinNow 21 = .ok (.lconst 0, 1) := by decide +kernel
theorem dX5_pinNow_22 : decode cX5_pinNow 22 = .ok (.goto 9, 3) := by decide +kernel
theorem dX5_pinNow_25 : decode cX5_pinNow 25 = .ok (.aload_n 0, 1) := by decide +kernel
theorem dX5_pinNow_26 : decode cX5_pinNow 26 = .ok (.getfield 15, 3) := by decide +kernel
theorem dX5_pinNow_29 : decode cX5_pinNow 29 = .ok (.iload_n 3, 1) := by decide +kernel
theorem dX5_pinNow_30 : decode cX5_pinNow 30 = .ok (.laload, 1) := by decide +kernel
theorem dX5_pinNow_31 : decode cX5_pinNow 31 = .ok (.lreturn, 1) := by decide +kernel
theorem dX5_matching_0 : decode cX5_matching 0 = .ok (.iconst 0, 1) := by decide +kernel
theorem dX5_matching_1 : decode cX5_matching 1 = .ok (.istore_n 1, 1) := by decide +kernel
theorem dX5_matching_2 : decode cX5_matching 2 = .ok (.iload_n 1, 1) := by decide +kernel
theorem dX5_matching_3 : decode cX5_matching 3 = .ok (.aload_n 0, 1) := by decide +kernel
theorem dX5_matching_4 : decode cX5_matching 4 = .ok (.getfield 97, 3) := by decide +kernel
theorem dX5_matching_7 : decode cX5_matching 7 = .ok (.if_icmp .ge 55, 3) := by decide +kernel
theorem dX5_matching_10 : decode cX5_matching 10 = .ok (.aload_n 0, 1) := by decide +kernel
theorem dX5_matching_11 : decode cX5_matching 11 = .ok (.getfield 22, 3) := by decide +kernel
theorem dX5_matching_14 : decode cX5_matching 14 = .ok (.iload_n 1, 1) := by decide +kernel
theorem dX5_matching_15 : decode cX5_matching 15 = .ok (.iaload, 1) := by decide +kernel
theorem dX5_matching_16 : decode cX5_matching 16 = .ok (.istore_n 2, 1) := by decide +kernel
theorem dX5_matching_17 : decode cX5_matching 17 = .ok (.aload_n 0, 1) := by decide +kernel
theorem dX5_matching_18 : decode cX5_matching 18 = .ok (.getfield 15, 3) := by decide +kernel
theorem dX5_matching_21 : decode cX5_matching 21 = .ok (.iload_n 2, 1) := by decide +kernel
theorem dX5_matching_22 : decode cX5_matching 22 = .ok (.aload_n 0, 1) := by decide +kernel
theorem dX5_matching_23 : decode cX5_matching 23 = .ok (.getfield 34, 3) := by decide +kernel
theorem dX5_matching_26 : decode cX5_matching 26 = .ok (.getfield 45, 3) := by decide +kernel
theorem dX5_matching_29 : decode cX5_matching 29 = .ok (.getfield 115, 3) := by decide +kernel
theorem dX5_matching_32 : decode cX5_matching 32 = .ok (.iload_n 2, 1) := by decide +kernel
theorem dX5_matching_33 : decode cX5_matching 33 = .ok (.iaload, 1) := by decide +kernel
theorem dX5_matching_34 : decode cX5_matching 34 = .ok (.aload_n 0, 1) := by decide +kernel
theorem dX5_matching_35 : decode cX5_matching 35 = .ok (.iload_n 2, 1) := by decide +kernel
theorem dX5_matching_36 : decode cX5_matching 36 = .ok (.iconst 0, 1) := by decide +kernel
theorem dX5_matching_37 : decode cX5_matching 37 = .ok (.invokevirtual 118, 3) := by decide +kernel
theorem dX5_matching_40 : decode cX5_matching 40 = .ok (.aload_n 0, 1) := by decide +kernel
theorem dX5_matching_41 : decode cX5_matching 41 = .ok (.iload_n 2, 1) := by decide +kernel
theorem dX5_matching_42 : decode cX5_matching 42 = .ok (.iconst 1, 1) := by decide +kernel
theorem dX5_matching_43 : decode cX5_matching 43 = .ok (.invokevirtual 118, 3) := by decide +kernel
theorem dX5_matching_46 : decode cX5_matching 46 = .ok (.aload_n 0, 1) := by decide +kernel
theorem dX5_matching_47 : decode cX5_matching 47 = .ok (.iload_n 2, 1) := by decide +kernel
theorem dX5_matching_48 : decode cX5_matching 48 = .ok (.iconst 2, 1) := by decide +kernel
theorem dX5_matching_49 : decode cX5_matching 49 = .ok (.invokevirtual 118, 3) := by decide +kernel
theorem dX5_matching_52 : decode cX5_matching 52 = .ok (.invokestatic 122, 3) := by decide +kernel
theorem dX5_matching_55 : decode cX5_matching 55 = .ok (.lastore, 1) := by decide +kernel
theorem dX5_matching_56 : decode cX5_matching 56 = .ok (.iinc 1 1, 3) := by decide +kernel
theorem dX5_matching_59 : decode cX5_matching 59 = .ok (.goto (-57), 3) := by decide +kernel
theorem dX5_matching_62 : decode cX5_matching 62 = .ok (.ldc2_w 109, 3) := by decide +kernel
theorem dX5_matching_65 : decode cX5_matching 65 = .ok (.lstore_n 1, 1) := by decide +kernel
theorem dX5_matching_66 : decode cX5_matching 66 = .ok (.iconst 0, 1) := by decide +kernel
theorem dX5_matching_67 : decode cX5_matching 67 = .ok (.istore_n 3, 1) := by decide +kernel
theorem dX5_matching_68 : decode cX5_matching 68 = .ok (.iload_n 3, 1) := by decide +kernel
theorem dX5_matching_69 : decode cX5_matching 69 = .ok (.aload_n 0, 1) := by decide +kernel
theorem dX5_matching_70 : decode cX5_matching 70 = .ok (.getfield 34, 3) := by decide +kernel
theorem dX5_matching_73 : decode cX5_matching 73 = .ok (.getfield 45, 3) := by decide +kernel
theorem dX5_matching_76 : decode cX5_matching 76 = .ok (.invokevirtual 65, 3) := by decide +kernel
theorem dX5_matching_79 : decode cX5_matching 79 = .ok (.if_icmp .ge 40, 3) := by decide +kernel
theorem dX5_matching_82 : decode cX5_matching 82 = .ok (.lload_n 1, 1) := by decide +kernel
theorem dX5_matching_83 : decode cX5_matching 83 = .ok (.aload_n 0, 1) := by decide +kernel
theorem dX5_matching_84 : decode cX5_matching 84 = .ok (.getfield 15, 3) := by decide +kernel
theorem dX5_matching_87 : decode cX5_matching 87 = .ok (.aload_n 0, 1) := by decide +kernel
theorem dX5_matching_88 : decode cX5_matching 88 = .ok (.getfield 34, 3) := by decide +kernel
theorem dX5_matching_91 : decode cX5_matching 91 = .ok (.getfield 45, 3) := by decide +kernel
theorem dX5_matching_94 : decode cX5_matching 94 = .ok (.getfield 72, 3) := by decide +kernel
theorem dX5_matching_97 : decode cX5_matching 97 = .ok (.iload_n 3, 1) := by decide +kernel
theorem dX5_matching_98 : decode cX5_matching 98 = .ok (.iaload, 1) := by decide +kernel
theorem dX5_matching_99 : decode cX5_matching 99 = .ok (.laload, 1) := by decide +kernel
theorem dX5_matching_100 : decode cX5_matching 100 = .ok (.aload_n 0, 1) := by decide +kernel
theorem dX5_matching_101 : decode cX5_matching 101 = .ok (.getfield 19, 3) := by decide +kernel
theorem dX5_matching_104 : decode cX5_matching 104 = .ok (.iload_n 3, 1) := by decide +kernel
theorem dX5_matching_105 : decode cX5_matching 105 = .ok (.laload, 1) := by decide +kernel
theorem dX5_matching_106 : decode cX5_matching 106 = .ok (.lxor, 1) := by decide +kernel
theorem dX5_matching_107 : decode cX5_matching 107 = .ok (.ldc2_w 109, 3) := by decide +kernel
theorem dX5_matching_110 : decode cX5_matching 110 = .ok (.lxor, 1) := by decide +kernel
theorem dX5_matching_111 : decode cX5_matching 111 = .ok (.land, 1) := by decide +kernel
theorem dX5_matching_112 : decode cX5_matching 112 = .ok (.lstore_n 1, 1) := by decide +kernel
theorem dX5_matching_113 : decode cX5_matching 113 = .ok (.iinc 3 1, 3) := by decide +kernel
theorem dX5_matching_116 : decode cX5_matching 116 = .ok (.goto (-48), 3) := by decide +kernel
theorem dX5_matching_119 : decode cX5_matching 119 = .ok (.lload_n 1, 1) := by decide +kernel
theorem dX5_matching_120 : decode cX5_matching 120 = .ok (.lreturn, 1) := by decide +kernel
theorem dX5_mended_0 : decode cX5_mended 0 = .ok (.iconst 0, 1) := by decide +kernel
theorem dX5_mended_1 : decode cX5_mended 1 = .ok (.istore_n 2, 1) := by decide +kernel
theorem dX5_mended_2 : decode cX5_mended 2 = .ok (.iload_n 2, 1) := by decide +kernel
theorem dX5_mended_3 : decode cX5_mended 3 = .ok (.aload_n 0, 1) := by decide +kernel
theorem dX5_mended_4 : decode cX5_mended 4 = .ok (.getfield 57, 3) := by decide +kernel
theorem dX5_mended_7 : decode cX5_mended 7 = .ok (.if_icmp .ge 36, 3) := by decide +kernel
theorem dX5_mended_10 : decode cX5_mended 10 = .ok (.aload_n 0, 1) := by decide +kernel
theorem dX5_mended_11 : decode cX5_mended 11 = .ok (.getfield 15, 3) := by decide +kernel
theorem dX5_mended_14 : decode cX5_mended 14 = .ok (.aload_n 0, 1) := by decide +kernel
theorem dX5_mended_15 : decode cX5_mended 15 = .ok (.getfield 9, 3) := by decide +kernel
theorem dX5_mended_18 : decode cX5_mended 18 = .ok (.iload_n 2, 1) := by decide +kernel
theorem dX5_mended_19 : decode cX5_mended 19 = .ok (.iaload, 1) := by decide +kernel
theorem dX5_mended_20 : decode cX5_mended 20 = .ok (.iload_n 1, 1) := by decide +kernel
theorem dX5_mended_21 : decode cX5_mended 21 = .ok (.iload_n 2, 1) := by decide +kernel
theorem dX5_mended_22 : decode cX5_mended 22 = .ok (.ishr, 1) := by decide +kernel
theorem dX5_mended_23 : decode cX5_mended 23 = .ok (.iconst 1, 1) := by decide +kernel
theorem dX5_mended_24 : decode cX5_mended 24 = .ok (.iand, 1) := by decide +kernel
theorem dX5_mended_25 : decode cX5_mended 25 = .ok (.iconst 1, 1) := by decide +kernel
theorem dX5_mended_26 : decode cX5_mended 26 = .ok (.if_icmp .ne 9, 3) := by decide +kernel
theorem dX5_mended_29 : decode cX5_mended 29 = .ok (.ldc2_w 109, 3) := by decide +kernel
theorem dX5_mended_32 : decode cX5_mended 32 = .ok (.goto 4, 3) := by decide +kernel
theorem dX5_mended_35 : decode cX5_mended 35 = .ok (.lconst 0, 1) := by decide +kernel
theorem dX5_mended_36 : decode cX5_mended 36 = .ok (.lastore, 1) := by decide +kernel
theorem dX5_mended_37 : decode cX5_mended 37 = .ok (.iinc 2 1, 3) := by decide +kernel
theorem dX5_mended_40 : decode cX5_mended 40 = .ok (.goto (-38), 3) := by decide +kernel
theorem dX5_mended_43 : decode cX5_mended 43 = .ok (.aload_n 0, 1) := by decide +kernel
theorem dX5_mended_44 : decode cX5_mended 44 = .ok (.invokevirtual 111, 3) := by decide +kernel
theorem dX5_mended_47 : decode cX5_mended 47 = .ok (.lreturn, 1) := by decide +kernel
theorem dX5_unmended_0 : decode cX5_unmended 0 = .ok (.aload_n 0, 1) := by decide +kernel
theorem dX5_unmended_1 : decode cX5_unmended 1 = .ok (.getfield 41, 3) := by decide +kernel
theorem dX5_unmended_4 : decode cX5_unmended 4 = .ok (.getfield 75, 3) := by decide +kernel
theorem dX5_unmended_7 : decode cX5_unmended 7 = .ok (.iload_n 1, 1) := by decide +kernel
theorem dX5_unmended_8 : decode cX5_unmended 8 = .ok (.laload, 1) := by decide +kernel
theorem dX5_unmended_9 : decode cX5_unmended 9 = .ok (.lstore_n 2, 1) := by decide +kernel
theorem dX5_unmended_10 : decode cX5_unmended 10 = .ok (.lload_n 2, 1) := by decide +kernel
theorem dX5_unmended_11 : decode cX5_unmended 11 = .ok (.lconst 0, 1) := by decide +kernel
theorem dX5_unmended_12 : decode cX5_unmended 12 = .ok (.lcmp, 1) := by decide +kernel
theorem dX5_unmended_13 : decode cX5_unmended 13 = .ok (.ifCond .ne 5, 3) := by decide +kernel
theorem dX5_unmended_16 : decode cX5_unmended 16 = .ok (.lconst 0, 1) := by decide +kernel
theorem dX5_unmended_17 : decode cX5_unmended 17 = .ok (.lreturn, 1) := by decide +kernel
theorem dX5_unmended_18 : decode cX5_unmended 18 = .ok (.aload_n 0, 1) := by decide +kernel
theorem dX5_unmended_19 : decode cX5_unmended 19 = .ok (.iload_n 1, 1) := by decide +kernel
theorem dX5_unmended_20 : decode cX5_unmended 20 = .ok (.invokevirtual 129, 3) := by decide +kernel
theorem dX5_unmended_23 : decode cX5_unmended 23 = .ok (.iconst 0, 1) := by decide +kernel
theorem dX5_unmended_24 : decode cX5_unmended 24 = .ok (.istore 4, 2) := by decide +kernel
theorem dX5_unmended_26 : decode cX5_unmended 26 = .ok (.iload 4, 2) := by decide +kernel
theorem dX5_unmended_28 : decode cX5_unmended 28 = .ok (.aload_n 0, 1) := by decide +kernel
theorem dX5_unmended_29 : decode cX5_unmended 29 = .ok (.invokevirtual 133, 3) := by decide +kernel
theorem dX5_unmended_32 : decode cX5_unmended 32 = .ok (.if_icmp .ge 28, 3) := by decide +kernel
theorem dX5_unmended_35 : decode cX5_unmended 35 = .ok (.lload_n 2, 1) := by decide +kernel
theorem dX5_unmended_36 : decode cX5_unmended 36 = .ok (.lconst 0, 1) := by decide +kernel
theorem dX5_unmended_37 : decode cX5_unmended 37 = .ok (.lcmp, 1) := by decide +kernel
theorem dX5_unmended_38 : decode cX5_unmended 38 = .ok (.ifCond .eq 22, 3) := by decide +kernel
theorem dX5_unmended_41 : decode cX5_unmended 41 = .ok (.lload_n 2, 1) := by decide +kernel
theorem dX5_unmended_42 : decode cX5_unmended 42 = .ok (.aload_n 0, 1) := by decide +kernel
theorem dX5_unmended_43 : decode cX5_unmended 43 = .ok (.iload 4, 2) := by decide +kernel
theorem dX5_unmended_45 : decode cX5_unmended 45 = .ok (.invokevirtual 136, 3) := by decide +kernel
theorem dX5_unmended_48 : decode cX5_unmended 48 = .ok (.ldc2_w 109, 3) := by decide +kernel
theorem dX5_unmended_51 : decode cX5_unmended 51 = .ok (.lxor, 1) := by decide +kernel
theorem dX5_unmended_52 : decode cX5_unmended 52 = .ok (.land, 1) := by decide +kernel
theorem dX5_unmended_53 : decode cX5_unmended 53 = .ok (.lstore_n 2, 1) := by decide +kernel
theorem dX5_unmended_54 : decode cX5_unmended 54 = .ok (.iinc 4 1, 3) := by decide +kernel
theorem dX5_unmended_57 : decode cX5_unmended 57 = .ok (.goto (-31), 3) := by decide +kernel
theorem dX5_unmended_60 : decode cX5_unmended 60 = .ok (.lload_n 2, 1) := by decide +kernel
theorem dX5_unmended_61 : decode cX5_unmended 61 = .ok (.lreturn, 1) := by decide +kernel
theorem dX5_firstUnmended_0 : decode cX5_firstUnmended 0 = .ok (.iconst 0, 1) := by decide +kernel
theorem dX5_firstUnmended_1 : decode cX5_firstUnmended 1 = .ok (.istore_n 1, 1) := by decide +kernel
theorem dX5_firstUnmended_2 : decode cX5_firstUnmended 2 = .ok (.iload_n 1, 1) := by decide +kernel
theorem dX5_firstUnmended_3 : decode cX5_firstUnmended 3 = .ok (.aload_n 0, 1) := by decide +kernel
theorem dX5_firstUnmended_4 : decode cX5_firstUnmended 4 = .ok (.getfield 41, 3) := by decide +kernel
theorem dX5_firstUnmended_7 : decode cX5_firstUnmended 7 = .ok (.getfield 80, 3) := by decide +kernel
theorem dX5_firstUnmended_10 : decode cX5_firstUnmended 10 = .ok (.if_icmp .ge 27, 3) := by decide +kernel
theorem dX5_firstUnmended_13 : decode cX5_firstUnmended 13 = .ok (.aload_n 0, 1) := by decide +kernel
theorem dX5_firstUnmended_14 : decode cX5_firstUnmended 14 = .ok (.iload_n 1, 1) := by decide +kernel
theorem dX5_firstUnmended_15 : decode cX5_firstUnmended 15 = .ok (.invokevirtual 139, 3) := by decide +kernel
theorem dX5_firstUnmended_18 : decode cX5_firstUnmended 18 = .ok (.lstore_n 2, 1) := by decide +kernel
theorem dX5_firstUnmended_19 : decode cX5_firstUnmended 19 = .ok (.lload_n 2, 1) := by decide +kernel
theorem dX5_firstUnmended_20 : decode cX5_firstUnmended 20 = .ok (.lconst 0, 1) := by decide +kernel
theorem dX5_firstUnmended_21 : decode cX5_firstUnmended 21 = .ok (.lcmp, 1) := by decide +kernel
theorem dX5_firstUnmended_22 : decode cX5_firstUnmended 22 = .ok (.ifCond .eq 9, 3) := by decide +kernel
theorem dX5_firstUnmended_25 : decode cX5_firstUnmended 25 = .ok (.iload_n 1, 1) := by decide +kernel
theorem dX5_firstUnmended_26 : decode cX5_firstUnmended 26 = .ok (.lload_n 2, 1) := by decide +kernel
theorem dX5_firstUnmended_27 : decode cX5_firstUnmended 27 = .ok (.invokestatic 87, 3) := by decide +kernel
theorem dX5_firstUnmended_30 : decode cX5_firstUnmended 30 = .ok (.ireturn, 1) := by decide +kernel
theorem dX5_firstUnmended_31 : decode cX5_firstUnmended 31 = .ok (.iinc 1 1, 3) := by decide +kernel
theorem dX5_firstUnmended_34 : decode cX5_firstUnmended 34 = .ok (.goto (-32), 3) := by decide +kernel
theorem dX5_firstUnmended_37 : decode cX5_firstUnmended 37 = .ok (.sipush 1000, 3) := by decide +kernel
theorem dX5_firstUnmended_40 : decode cX5_firstUnmended 40 = .ok (.ireturn, 1) := by decide +kernel
theorem dX5_leastMending_0 : decode cX5_leastMending 0 = .ok (.aload_n 0, 1) := by decide +kernel
theorem dX5_leastMending_1 : decode cX5_leastMending 1 = .ok (.iload_n 1, 1) := by decide +kernel
theorem dX5_leastMending_2 : decode cX5_leastMending 2 = .ok (.bipush 64, 2) := by decide +kernel
theorem dX5_leastMending_4 : decode cX5_leastMending 4 = .ok (.idiv, 1) := by decide +kernel
theorem dX5_leastMending_5 : decode cX5_leastMending 5 = .ok (.invokevirtual 129, 3) := by decide +kernel
theorem dX5_leastMending_8 : decode cX5_leastMending 8 = .ok (.iconst 0, 1) := by decide +kernel
theorem dX5_leastMending_9 : decode cX5_leastMending 9 = .ok (.istore_n 2, 1) := by decide +kernel
theorem dX5_leastMending_10 : decode cX5_leastMending 10 = .ok (.iload_n 2, 1) := by decide +kernel
theorem dX5_leastMending_11 : decode cX5_leastMending 11 = .ok (.aload_n 0, 1) := by decide +kernel
theorem dX5_leastMending_12 : decode cX5_leastMending 12 = .ok (.invokevirtual 133, 3) := by decide +kernel
theorem dX5_leastMending_15 : decode cX5_leastMending 15 = .ok (.if_icmp .ge 28, 3) := by decide +kernel
theorem dX5_leastMending_18 : decode cX5_leastMending 18 = .ok (.aload_n 0, 1) := by decide +kernel
theorem dX5_leastMending_19 : decode cX5_leastMending 19 = .ok (.iload_n 2, 1) := by decide +kernel
theorem dX5_leastMending_20 : decode cX5_leastMending 20 = .ok (.invokevirtual 136, 3) := by decide +kernel
theorem dX5_leastMending_23 : decode cX5_leastMending 23 = .ok (.iload_n 1, 1) := by decide +kernel
theorem dX5_leastMending_24 : decode cX5_leastMending 24 = .ok (.bipush 64, 2) := by decide +kernel
theorem dX5_leastMending_26 : decode cX5_leastMending 26 = .ok (.irem, 1) := by decide +kernel
theorem dX5_leastMending_27 : decode cX5_leastMending 27 = .ok (.lshr, 1) := by decide +kernel
theorem dX5_leastMending_28 : decode cX5_leastMending 28 = .ok (.lconst 1, 1) := by decide +kernel
theorem dX5_leastMending_29 : decode cX5_leastMending 29 = .ok (.land, 1) := by decide +kernel
theorem dX5_leastMending_30 : decode cX5_leastMending 30 = .ok (.lconst 1, 1) := by decide +kernel
theorem dX5_leastMending_31 : decode cX5_leastMending 31 = .ok (.lcmp, 1) := by decide +kernel
theorem dX5_leastMending_32 : decode cX5_leastMending 32 = .ok (.ifCond .ne 5, 3) := by decide +kernel
theorem dX5_leastMending_35 : decode cX5_leastMending 35 = .ok (.iload_n 2, 1) := by decide +kernel
theorem dX5_leastMending_36 : decode cX5_leastMending 36 = .ok (.ireturn, 1) := by decide +kernel
theorem dX5_leastMending_37 : decode cX5_leastMending 37 = .ok (.iinc 2 1, 3) := by decide +kernel
theorem dX5_leastMending_40 : decode cX5_leastMending 40 = .ok (.goto (-30), 3) := by decide +kernel
theorem dX5_leastMending_43 : decode cX5_leastMending 43 = .ok (.bipush (-4), 2) := by decide +kernel
theorem dX5_leastMending_45 : decode cX5_leastMending 45 = .ok (.ireturn, 1) := by decide +kernel
theorem dX5_writeLeast_0 : decode cX5_writeLeast 0 = .ok (.iconst 0, 1) := by decide +kernel
theorem dX5_writeLeast_1 : decode cX5_writeLeast 1 = .ok (.istore_n 2, 1) := by decide +kernel
theorem dX5_writeLeast_2 : decode cX5_writeLeast 2 = .ok (.iload_n 2, 1) := by decide +kernel
theorem dX5_writeLeast_3 : decode cX5_writeLeast 3 = .ok (.aload_n 0, 1) := by decide +kernel
theorem dX5_writeLeast_4 : decode cX5_writeLeast 4 = .ok (.getfield 41, 3) := by decide +kernel
theorem dX5_writeLeast_7 : decode cX5_writeLeast 7 = .ok (.getfield 80, 3) := by decide +kernel
theorem dX5_writeLeast_10 : decode cX5_writeLeast 10 = .ok (.if_icmp .ge 101, 3) := by decide +kernel
theorem dX5_writeLeast_13 : decode cX5_writeLeast 13 = .ok (.aload_n 0, 1) := by decide +kernel
theorem dX5_writeLeast_14 : decode cX5_writeLeast 14 = .ok (.iload_n 2, 1) := by decide +kernel
theorem dX5_writeLeast_15 : decode cX5_writeLeast 15 = .ok (.invokevirtual 129, 3) := by decide +kernel
theorem dX5_writeLeast_18 : decode cX5_writeLeast 18 = .ok (.aload_n 0, 1) := by decide +kernel
theorem dX5_writeLeast_19 : decode cX5_writeLeast 19 = .ok (.getfield 41, 3) := by decide +kernel
theorem dX5_writeLeast_22 : decode cX5_writeLeast 22 = .ok (.getfield 75, 3) := by decide +kernel
theorem dX5_writeLeast_25 : decode cX5_writeLeast 25 = .ok (.iload_n 2, 1) := by decide +kernel
theorem dX5_writeLeast_26 : decode cX5_writeLeast 26 = .ok (.laload, 1) := by decide +kernel
theorem dX5_writeLeast_27 : decode cX5_writeLeast 27 = .ok (.lstore_n 3, 1) := by decide +kernel
theorem dX5_writeLeast_28 : decode cX5_writeLeast 28 = .ok (.iconst 0, 1) := by decide +kernel
theorem dX5_writeLeast_29 : decode cX5_writeLeast 29 = .ok (.istore 5, 2) := by decide +kernel
theorem dX5_writeLeast_31 : decode cX5_writeLeast 31 = .ok (.iload 5, 2) := by decide +kernel
theorem dX5_writeLeast_33 : decode cX5_writeLeast 33 = .ok (.aload_n 0, 1) := by decide +kernel
theorem dX5_writeLeast_34 : decode cX5_writeLeast 34 = .ok (.invokevirtual 133, 3) := by decide +kernel
theorem dX5_writeLeast_37 : decode cX5_writeLeast 37 = .ok (.if_icmp .ge 68, 3) := by decide +kernel
theorem dX5_writeLeast_40 : decode cX5_writeLeast 40 = .ok (.aload_n 0, 1) := by decide +kernel
theorem dX5_writeLeast_41 : decode cX5_writeLeast 41 = .ok (.iload 5, 2) := by decide +kernel
theorem dX5_writeLeast_43 : decode cX5_writeLeast 43 = .ok (.invokevirtual 136, 3) := by decide +kernel
theorem dX5_writeLeast_46 : decode cX5_writeLeast 46 = .ok (.lload_n 3, 1) := by decide +kernel
theorem dX5_writeLeast_47 : decode cX5_writeLeast 47 = .ok (.land, 1) := by decide +kernel
theorem dX5_writeLeast_48 : decode cX5_writeLeast 48 = .ok (.lstore 6, 2) := by decide +kernel
theorem dX5_writeLeast_50 : decode cX5_writeLeast 50 = .ok (.iconst 0, 1) := by decide +kernel
theorem dX5_writeLeast_51 : decode cX5_writeLeast 51 = .ok (.istore 8, 2) := by decide +kernel
theorem dX5_writeLeast_53 : decode cX5_writeLeast 53 = .ok (.iload 8, 2) := by decide +kernel
theorem dX5_writeLeast_55 : decode cX5_writeLeast 55 = .ok (.bipush 64, 2) := by decide +kernel
theorem dX5_writeLeast_57 : decode cX5_writeLeast 57 = .ok (.if_icmp .ge 33, 3) := by decide +kernel
theorem dX5_writeLeast_60 : decode cX5_writeLeast 60 = .ok (.lload 6, 2) := by decide +kernel
theorem dX5_writeLeast_62 : decode cX5_writeLeast 62 = .ok (.iload 8, 2) := by decide +kernel
theorem dX5_writeLeast_64 : decode cX5_writeLeast 64 = .ok (.lshr, 1) := by decide +kernel
theorem dX5_writeLeast_65 : decode cX5_writeLeast 65 = .ok (.lconst 1, 1) := by decide +kernel
theorem dX5_writeLeast_66 : decode cX5_writeLeast 66 = .ok (.land, 1) := by decide +kernel
theorem dX5_writeLeast_67 : decode cX5_writeLeast 67 = .ok (.lconst 1, 1) := by decide +kernel
theorem dX5_writeLeast_68 : decode cX5_writeLeast 68 = .ok (.lcmp, 1) := by decide +kernel
theorem dX5_writeLeast_69 : decode cX5_writeLeast 69 = .ok (.ifCond .ne 15, 3) := by decide +kernel
theorem dX5_writeLeast_72 : decode cX5_writeLeast 72 = .ok (.aload_n 1, 1) := by decide +kernel
theorem dX5_writeLeast_73 : decode cX5_writeLeast 73 = .ok (.bipush 64, 2) := by decide +kernel
theorem dX5_writeLeast_75 : decode cX5_writeLeast 75 = .ok (.iload_n 2, 1) := by decide +kernel
theorem dX5_writeLeast_76 : decode cX5_writeLeast 76 = .ok (.imul, 1) := by decide +kernel
theorem dX5_writeLeast_77 : decode cX5_writeLeast 77 = .ok (.iload 8, 2) := by decide +kernel
theorem dX5_writeLeast_79 : decode cX5_writeLeast 79 = .ok (.iadd, 1) := by decide +kernel
theorem dX5_writeLeast_80 : decode cX5_writeLeast 80 = .ok (.iload 5, 2) := by decide +kernel
theorem dX5_writeLeast_82 : decode cX5_writeLeast 82 = .ok (.i2l, 1) := by decide +kernel
theorem dX5_writeLeast_83 : decode cX5_writeLeast 83 = .ok (.lastore, 1) := by decide +kernel
theorem dX5_writeLeast_84 : decode cX5_writeLeast 84 = .ok (.iinc 8 1, 3) := by decide +kernel
theorem dX5_writeLeast_87 : decode cX5_writeLeast 87 = .ok (.goto (-34), 3) := by decide +kernel
theorem dX5_writeLeast_90 : decode cX5_writeLeast 90 = .ok (.lload_n 3, 1) := by decide +kernel
theorem dX5_writeLeast_91 : decode cX5_writeLeast 91 = .ok (.lload 6, 2) := by decide +kernel
theorem dX5_writeLeast_93 : decode cX5_writeLeast 93 = .ok (.ldc2_w 109, 3) := by decide +kernel
theorem dX5_writeLeast_96 : decode cX5_writeLeast 96 = .ok (.lxor, 1) := by decide +kernel
theorem dX5_writeLeast_97 : decode cX5_writeLeast 97 = .ok (.land, 1) := by decide +kernel
theorem dX5_writeLeast_98 : decode cX5_writeLeast 98 = .ok (.lstore_n 3, 1) := by decide +kernel
theorem dX5_writeLeast_99 : decode cX5_writeLeast 99 = .ok (.iinc 5 1, 3) := by decide +kernel
theorem dX5_writeLeast_102 : decode cX5_writeLeast 102 = .ok (.goto (-71), 3) := by decide +kernel
theorem dX5_writeLeast_105 : decode cX5_writeLeast 105 = .ok (.iinc 2 1, 3) := by decide +kernel
theorem dX5_writeLeast_108 : decode cX5_writeLeast 108 = .ok (.goto (-106), 3) := by decide +kernel
theorem dX5_writeLeast_111 : decode cX5_writeLeast 111 = .ok (.return_, 1) := by decide +kernel
theorem dX5_holders_0 : decode cX5_holders 0 = .ok (.lconst 0, 1) := by decide +kernel
theorem dX5_holders_1 : decode cX5_holders 1 = .ok (.lstore 4, 2) := by decide +kernel
theorem dX5_holders_3 : decode cX5_holders 3 = .ok (.iconst 0, 1) := by decide +kernel
theorem dX5_holders_4 : decode cX5_holders 4 = .ok (.istore 6, 2) := by decide +kernel
theorem dX5_holders_6 : decode cX5_holders 6 = .ok (.iload 6, 2) := by decide +kernel
theorem dX5_holders_8 : decode cX5_holders 8 = .ok (.bipush 64, 2) := by decide +kernel
theorem dX5_holders_10 : decode cX5_holders 10 = .ok (.if_icmp .ge 44, 3) := by decide +kernel
theorem dX5_holders_13 : decode cX5_holders 13 = .ok (.bipush 64, 2) := by decide +kernel
theorem dX5_holders_15 : decode cX5_holders 15 = .ok (.iload_n 0, 1) := by decide +kernel
theorem dX5_holders_16 : decode cX5_holders 16 = .ok (.imul, 1) := by decide +kernel
theorem dX5_holders_17 : decode cX5_holders 17 = .ok (.iload 6, 2) := by decide +kernel
theorem dX5_holders_19 : decode cX5_holders 19 = .ok (.iadd, 1) := by decide +kernel
theorem dX5_holders_20 : decode cX5_holders 20 = .ok (.iload_n 2, 1) := by decide +kernel
theorem dX5_holders_21 : decode cX5_holders 21 = .ok (.if_icmp .ge 33, 3) := by decide +kernel
theorem dX5_holders_24 : decode cX5_holders 24 = .ok (.aload_n 1, 1) := by decide +kernel
theorem dX5_holders_25 : decode cX5_holders 25 = .ok (.bipush 64, 2) := by decide +kernel
theorem dX5_holders_27 : decode cX5_holders 27 = .ok (.iload_n 0, 1) := by decide +kernel
theorem dX5_holders_28 : decode cX5_holders 28 = .ok (.imul, 1) := by decide +kernel
theorem dX5_holders_29 : decode cX5_holders 29 = .ok (.iload 6, 2) := by decide +kernel
theorem dX5_holders_31 : decode cX5_holders 31 = .ok (.iadd, 1) := by decide +kernel
theorem dX5_holders_32 : decode cX5_holders 32 = .ok (.laload, 1) := by decide +kernel
theorem dX5_holders_33 : decode cX5_holders 33 = .ok (.iload_n 3, 1) := by decide +kernel
theorem dX5_holders_34 : decode cX5_holders 34 = .ok (.i2l, 1) := by decide +kernel
theorem dX5_holders_35 : decode cX5_holders 35 = .ok (.lcmp, 1) := by decide +kernel
theorem dX5_holders_36 : decode cX5_holders 36 = .ok (.ifCond .ne 12, 3) := by decide +kernel
theorem dX5_holders_39 : decode cX5_holders 39 = .ok (.lload 4, 2) := by decide +kernel
theorem dX5_holders_41 : decode cX5_holders 41 = .ok (.lconst 1, 1) := by decide +kernel
theorem dX5_holders_42 : decode cX5_holders 42 = .ok (.iload 6, 2) := by decide +kernel
theorem dX5_holders_44 : decode cX5_holders 44 = .ok (.lshl, 1) := by decide +kernel
theorem dX5_holders_45 : decode cX5_holders 45 = .ok (.lor, 1) := by decide +kernel
theorem dX5_holders_46 : decode cX5_holders 46 = .ok (.lstore 4, 2) := by decide +kernel
theorem dX5_holders_48 : decode cX5_holders 48 = .ok (.iinc 6 1, 3) := by decide +kernel
theorem dX5_holders_51 : decode cX5_holders 51 = .ok (.goto (-45), 3) := by decide +kernel
theorem dX5_holders_54 : decode cX5_holders 54 = .ok (.lload 4, 2) := by decide +kernel
theorem dX5_holders_56 : decode cX5_holders 56 = .ok (.lreturn, 1) := by decide +kernel
theorem dX5_firstMisjudgedIn_0 : decode cX5_firstMisjudgedIn 0 = .ok (.lconst 0, 1) := by decide +kernel
theorem dX5_firstMisjudgedIn_1 : decode cX5_firstMisjudgedIn 1 = .ok (.lstore 4, 2) := by decide +kernel
theorem dX5_firstMisjudgedIn_3 : decode cX5_firstMisjudgedIn 3 = .ok (.iconst 0, 1) := by decide +kernel
theorem dX5_firstMisjudgedIn_4 : decode cX5_firstMisjudgedIn 4 = .ok (.istore 6, 2) := by decide +kernel
theorem dX5_firstMisjudgedIn_6 : decode cX5_firstMisjudgedIn 6 = .ok (.iload 6, 2) := by decide +kernel
theorem dX5_firstMisjudgedIn_8 : decode cX5_firstMisjudgedIn 8 = .ok (.aload_n 0, 1) := by decide +kernel
theorem dX5_firstMisjudgedIn_9 : decode cX5_firstMisjudgedIn 9 = .ok (.invokevirtual 133, 3) := by decide +kernel
theorem dX5_firstMisjudgedIn_12 : decode cX5_firstMisjudgedIn 12 = .ok (.if_icmp .ge 29, 3) := by decide +kernel
theorem dX5_firstMisjudgedIn_15 : decode cX5_firstMisjudgedIn 15 = .ok (.lload 4, 2) := by decide +kernel
theorem dX5_firstMisjudgedIn_17 : decode cX5_firstMisjudgedIn 17 = .ok (.aload_n 0, 1) := by decide +kernel
theorem dX5_firstMisjudgedIn_18 : decode cX5_firstMisjudgedIn 18 = .ok (.iload 6, 2) := by decide +kernel
theorem dX5_firstMisjudgedIn_20 : decode cX5_firstMisjudgedIn 20 = .ok (.invokevirtual 136, 3) := by decide +kernel
theorem dX5_firstMisjudgedIn_23 : decode cX5_firstMisjudgedIn 23 = .ok (.iload_n 1, 1) := by decide +kernel
theorem dX5_firstMisjudgedIn_24 : decode cX5_firstMisjudgedIn 24 = .ok (.aload_n 2, 1) := by decide +kernel
theorem dX5_firstMisjudgedIn_25 : decode cX5_firstMisjudgedIn 25 = .ok (.iload_n 3, 1) := by decide +kernel
theorem dX5_firstMisjudgedIn_26 : decode cX5_firstMisjudgedIn 26 = .ok (.iload 6, 2) := by decide +kernel
theorem dX5_firstMisjudgedIn_28 : decode cX5_firstMisjudgedIn 28 = .ok (.invokestatic 146, 3) := by decide +kernel
theorem dX5_firstMisjudgedIn_31 : decode cX5_firstMisjudgedIn 31 = .ok (.land, 1) := by decide +kernel
theorem dX5_firstMisjudgedIn_32 : decode cX5_firstMisjudgedIn 32 = .ok (.lor, 1) := by decide +kernel
theorem dX5_firstMisjudgedIn_33 : decode cX5_firstMisjudgedIn 33 = .ok (.lstore 4, 2) := by decide +kernel
theorem dX5_firstMisjudgedIn_35 : decode cX5_firstMisjudgedIn 35 = .ok (.iinc 6 1, 3) := by decide +kernel
theorem dX5_firstMisjudgedIn_38 : decode cX5_firstMisjudgedIn 38 = .ok (.goto (-32), 3) := by decide +kernel
theorem dX5_firstMisjudgedIn_41 : decode cX5_firstMisjudgedIn 41 = .ok (.bipush 64, 2) := by decide +kernel
theorem dX5_firstMisjudgedIn_43 : decode cX5_firstMisjudgedIn 43 = .ok (.iload_n 1, 1) := by decide +kernel
theorem dX5_firstMisjudgedIn_44 : decode cX5_firstMisjudgedIn 44 = .ok (.imul, 1) := by decide +kernel
theorem dX5_firstMisjudgedIn_45 : decode cX5_firstMisjudgedIn 45 = .ok (.istore 6, 2) := by decide +kernel
theorem dX5_firstMisjudgedIn_47 : decode cX5_firstMisjudgedIn 47 = .ok (.iload 6, 2) := by decide +kernel
theorem dX5_firstMisjudgedIn_49 : decode cX5_firstMisjudgedIn 49 = .ok (.aload_n 0, 1) := by decide +kernel
theorem dX5_firstMisjudgedIn_50 : decode cX5_firstMisjudgedIn 50 = .ok (.getfield 41, 3) := by decide +kernel
theorem dX5_firstMisjudgedIn_53 : decode cX5_firstMisjudgedIn 53 = .ok (.getfield 150, 3) := by decide +kernel
theorem dX5_firstMisjudgedIn_56 : decode cX5_firstMisjudgedIn 56 = .ok (.if_icmp .ge 60, 3) := by decide +kernel
theorem dX5_firstMisjudgedIn_59 : decode cX5_firstMisjudgedIn 59 = .ok (.iload 6, 2) := by decide +kernel
theorem dX5_firstMisjudgedIn_61 : decode cX5_firstMisjudgedIn 61 = .ok (.bipush 64, 2) := by decide +kernel
theorem dX5_firstMisjudgedIn_63 : decode cX5_firstMisjudgedIn 63 = .ok (.iload_n 1, 1) := by decide +kernel
theorem dX5_firstMisjudgedIn_64 : decode cX5_firstMisjudgedIn 64 = .ok (.imul, 1) := by decide +kernel
theorem dX5_firstMisjudgedIn_65 : decode cX5_firstMisjudgedIn 65 = .ok (.bipush 64, 2) := by decide +kernel
theorem dX5_firstMisjudgedIn_67 : decode cX5_firstMisjudgedIn 67 = .ok (.iadd, 1) := by decide +kernel
theorem dX5_firstMisjudgedIn_68 : decode cX5_firstMisjudgedIn 68 = .ok (.if_icmp .ge 48, 3) := by decide +kernel
theorem dX5_firstMisjudgedIn_71 : decode cX5_firstMisjudgedIn 71 = .ok (.aload_n 0, 1) := by decide +kernel
theorem dX5_firstMisjudgedIn_72 : decode cX5_firstMisjudgedIn 72 = .ok (.getfield 41, 3) := by decide +kernel
theorem dX5_firstMisjudgedIn_75 : decode cX5_firstMisjudgedIn 75 = .ok (.iload 6, 2) := by decide +kernel
theorem dX5_firstMisjudgedIn_77 : decode cX5_firstMisjudgedIn 77 = .ok (.invokevirtual 151, 3) := by decide +kernel
theorem dX5_firstMisjudgedIn_80 : decode cX5_firstMisjudgedIn 80 = .ok (.ifCond .eq 30, 3) := by decide +kernel
theorem dX5_firstMisjudgedIn_83 : decode cX5_firstMisjudgedIn 83 = .ok (.iload 6, 2) := by decide +kernel
theorem dX5_firstMisjudgedIn_85 : decode cX5_firstMisjudgedIn 85 = .ok (.iload_n 3, 1) := by decide +kernel
theorem dX5_firstMisjudgedIn_86 : decode cX5_firstMisjudgedIn 86 = .ok (.if_icmp .lt 6, 3) := by decide +kernel
theorem dX5_firstMisjudgedIn_89 : decode cX5_firstMisjudgedIn 89 = .ok (.bipush (-13), 2) := by decide +kernel
theorem dX5_firstMisjudgedIn_91 : decode cX5_firstMisjudgedIn 91 = .ok (.ireturn, 1) := by decide +kernel
theorem dX5_firstMisjudgedIn_92 : decode cX5_firstMisjudgedIn 92 = .ok (.lload 4, 2) := by decide +kernel
theorem dX5_firstMisjudgedIn_94 : decode cX5_firstMisjudgedIn 94 = .ok (.iload 6, 2) := by decide +kernel
theorem dX5_firstMisjudgedIn_96 : decode cX5_firstMisjudgedIn 96 = .ok (.bipush 64, 2) := by decide +kernel
theorem dX5_firstMisjudgedIn_98 : decode cX5_firstMisjudgedIn 98 = .ok (.irem, 1) := by decide +kernel
theorem dX5_firstMisjudgedIn_99 : decode cX5_firstMisjudgedIn 99 = .ok (.lshr, 1) := by decide +kernel
theorem dX5_firstMisjudgedIn_100 : decode cX5_firstMisjudgedIn 100 = .ok (.lconst 1, 1) := by decide +kernel
theorem dX5_firstMisjudgedIn_101 : decode cX5_firstMisjudgedIn 101 = .ok (.land, 1) := by decide +kernel
theorem dX5_firstMisjudgedIn_102 : decode cX5_firstMisjudgedIn 102 = .ok (.lconst 0, 1) := by decide +kernel
theorem dX5_firstMisjudgedIn_103 : decode cX5_firstMisjudgedIn 103 = .ok (.lcmp, 1) := by decide +kernel
theorem dX5_firstMisjudgedIn_104 : decode cX5_firstMisjudgedIn 104 = .ok (.ifCond .ne 6, 3) := by decide +kernel
theorem dX5_firstMisjudgedIn_107 : decode cX5_firstMisjudgedIn 107 = .ok (.iload 6, 2) := by decide +kernel
theorem dX5_firstMisjudgedIn_109 : decode cX5_firstMisjudgedIn 109 = .ok (.ireturn, 1) := by decide +kernel
theorem dX5_firstMisjudgedIn_110 : decode cX5_firstMisjudgedIn 110 = .ok (.iinc 6 1, 3) := by decide +kernel
theorem dX5_firstMisjudgedIn_113 : decode cX5_firstMisjudgedIn 113 = .ok (.goto (-66), 3) := by decide +kernel
theorem dX5_firstMisjudgedIn_116 : decode cX5_firstMisjudgedIn 116 = .ok (.sipush 1000, 3) := by decide +kernel
theorem dX5_firstMisjudgedIn_119 : decode cX5_firstMisjudgedIn 119 = .ok (.ireturn, 1) := by decide +kernel
theorem dX5_firstMisjudged_0 : decode cX5_firstMisjudged 0 = .ok (.iconst 0, 1) := by decide +kernel
theorem dX5_firstMisjudged_1 : decode cX5_firstMisjudged 1 = .ok (.istore_n 3, 1) := by decide +kernel
theorem dX5_firstMisjudged_2 : decode cX5_firstMisjudged 2 = .ok (.iload_n 3, 1) := by decide +kernel
theorem dX5_firstMisjudged_3 : decode cX5_firstMisjudged 3 = .ok (.aload_n 0, 1) := by decide +kernel
theorem dX5_firstMisjudged_4 : decode cX5_firstMisjudged 4 = .ok (.getfield 41, 3) := by decide +kernel
theorem dX5_firstMisjudged_7 : decode cX5_firstMisjudged 7 = .ok (.getfield 80, 3) := by decide +kernel
theorem dX5_firstMisjudged_10 : decode cX5_firstMisjudged 10 = .ok (.if_icmp .ge 34, 3) := by decide +kernel
theorem dX5_firstMisjudged_13 : decode cX5_firstMisjudged 13 = .ok (.aload_n 0, 1) := by decide +kernel
theorem dX5_firstMisjudged_14 : decode cX5_firstMisjudged 14 = .ok (.iload_n 3, 1) := by decide +kernel
theorem dX5_firstMisjudged_15 : decode cX5_firstMisjudged 15 = .ok (.invokevirtual 129, 3) := by decide +kernel
theorem dX5_firstMisjudged_18 : decode cX5_firstMisjudged 18 = .ok (.aload_n 0, 1) := by decide +kernel
theorem dX5_firstMisjudged_19 : decode cX5_firstMisjudged 19 = .ok (.iload_n 3, 1) := by decide +kernel
theorem dX5_firstMisjudged_20 : decode cX5_firstMisjudged 20 = .ok (.aload_n 1, 1) := by decide +kernel
theorem dX5_firstMisjudged_21 : decode cX5_firstMisjudged 21 = .ok (.iload_n 2, 1) := by decide +kernel
theorem dX5_firstMisjudged_22 : decode cX5_firstMisjudged 22 = .ok (.invokevirtual 142, 3) := by decide +kernel
theorem dX5_firstMisjudged_25 : decode cX5_firstMisjudged 25 = .ok (.istore 4, 2) := by decide +kernel
theorem dX5_firstMisjudged_27 : decode cX5_firstMisjudged 27 = .ok (.iload 4, 2) := by decide +kernel
theorem dX5_firstMisjudged_29 : decode cX5_firstMisjudged 29 = .ok (.sipush 1000, 3) := by decide +kernel
theorem dX5_firstMisjudged_32 : decode cX5_firstMisjudged 32 = .ok (.if_icmp .eq 6, 3) := by decide +kernel
theorem dX5_firstMisjudged_35 : decode cX5_firstMisjudged 35 = .ok (.iload 4, 2) := by decide +kernel
theorem dX5_firstMisjudged_37 : decode cX5_firstMisjudged 37 = .ok (.ireturn, 1) := by decide +kernel
theorem dX5_firstMisjudged_38 : decode cX5_firstMisjudged 38 = .ok (.iinc 3 1, 3) := by decide +kernel
theorem dX5_firstMisjudged_41 : decode cX5_firstMisjudged 41 = .ok (.goto (-39), 3) := by decide +kernel
theorem dX5_firstMisjudged_44 : decode cX5_firstMisjudged 44 = .ok (.sipush 1000, 3) := by decide +kernel
theorem dX5_firstMisjudged_47 : decode cX5_firstMisjudged 47 = .ok (.ireturn, 1) := by decide +kernel
theorem dX5_findWrong_0 : decode cX5_findWrong 0 = .ok (.aload_n 0, 1) := by decide +kernel
theorem dX5_findWrong_1 : decode cX5_findWrong 1 = .ok (.iconst 0, 1) := by decide +kernel
theorem dX5_findWrong_2 : decode cX5_findWrong 2 = .ok (.putfield 167, 3) := by decide +kernel
theorem dX5_findWrong_5 : decode cX5_findWrong 5 = .ok (.iconst 0, 1) := by decide +kernel
theorem dX5_findWrong_6 : decode cX5_findWrong 6 = .ok (.istore_n 1, 1) := by decide +kernel
theorem dX5_findWrong_7 : decode cX5_findWrong 7 = .ok (.iload_n 1, 1) := by decide +kernel
theorem dX5_findWrong_8 : decode cX5_findWrong 8 = .ok (.aload_n 0, 1) := by decide +kernel
theorem dX5_findWrong_9 : decode cX5_findWrong 9 = .ok (.getfield 34, 3) := by decide +kernel
theorem dX5_findWrong_12 : decode cX5_findWrong 12 = .ok (.getfield 45, 3) := by decide +kernel
theorem dX5_findWrong_15 : decode cX5_findWrong 15 = .ok (.invokevirtual 65, 3) := by decide +kernel
theorem dX5_findWrong_18 : decode cX5_findWrong 18 = .ok (.if_icmp .ge 136, 3) := by decide +kernel
theorem dX5_findWrong_21 : decode cX5_findWrong 21 = .ok (.aload_n 0, 1) := by decide +kernel
theorem dX5_findWrong_22 : decode cX5_findWrong 22 = .ok (.getfield 34, 3) := by decide +kernel
theorem dX5_findWrong_25 : decode cX5_findWrong 25 = .ok (.getfield 45, 3) := by decide +kernel
theorem dX5_findWrong_28 : decode cX5_findWrong 28 = .ok (.getfield 72, 3) := by decide +kernel
theorem dX5_findWrong_31 : decode cX5_findWrong 31 = .ok (.iload_n 1, 1) := by decide +kernel
theorem dX5_findWrong_32 : decode cX5_findWrong 32 = .ok (.iaload, 1) := by decide +kernel
theorem dX5_findWrong_33 : decode cX5_findWrong 33 = .ok (.istore_n 2, 1) := by decide +kernel
theorem dX5_findWrong_34 : decode cX5_findWrong 34 = .ok (.aload_n 0, 1) := by decide +kernel
theorem dX5_findWrong_35 : decode cX5_findWrong 35 = .ok (.getfield 38, 3) := by decide +kernel
theorem dX5_findWrong_38 : decode cX5_findWrong 38 = .ok (.getfield 45, 3) := by decide +kernel
theorem dX5_findWrong_41 : decode cX5_findWrong 41 = .ok (.getfield 72, 3) := by decide +kernel
theorem dX5_findWrong_44 : decode cX5_findWrong 44 = .ok (.iload_n 1, 1) := by decide +kernel
theorem dX5_findWrong_45 : decode cX5_findWrong 45 = .ok (.iaload, 1) := by decide +kernel
theorem dX5_findWrong_46 : decode cX5_findWrong 46 = .ok (.istore_n 3, 1) := by decide +kernel
theorem dX5_findWrong_47 : decode cX5_findWrong 47 = .ok (.iconst 0, 1) := by decide +kernel
theorem dX5_findWrong_48 : decode cX5_findWrong 48 = .ok (.istore 4, 2) := by decide +kernel
theorem dX5_findWrong_50 : decode cX5_findWrong 50 = .ok (.iload 4, 2) := by decide +kernel
theorem dX5_findWrong_52 : decode cX5_findWrong 52 = .ok (.aload_n 0, 1) := by decide +kernel
theorem dX5_findWrong_53 : decode cX5_findWrong 53 = .ok (.getfield 41, 3) := by decide +kernel
theorem dX5_findWrong_56 : decode cX5_findWrong 56 = .ok (.getfield 80, 3) := by decide +kernel
theorem dX5_findWrong_59 : decode cX5_findWrong 59 = .ok (.if_icmp .ge 89, 3) := by decide +kernel
theorem dX5_findWrong_62 : decode cX5_findWrong 62 = .ok (.aload_n 0, 1) := by decide +kernel
theorem dX5_findWrong_63 : decode cX5_findWrong 63 = .ok (.getfield 34, 3) := by decide +kernel
theorem dX5_findWrong_66 : decode cX5_findWrong 66 = .ok (.getfield 69, 3) := by decide +kernel
theorem dX5_findWrong_69 : decode cX5_findWrong 69 = .ok (.iconst 4, 1) := by decide +kernel
theorem dX5_findWrong_70 : decode cX5_findWrong 70 = .ok (.iload_n 2, 1) := by decide +kernel
theorem dX5_findWrong_71 : decode cX5_findWrong 71 = .ok (.imul, 1) := by decide +kernel
theorem dX5_findWrong_72 : decode cX5_findWrong 72 = .ok (.iload 4, 2) := by decide +kernel
theorem dX5_findWrong_74 : decode cX5_findWrong 74 = .ok (.iadd, 1) := by decide +kernel
theorem dX5_findWrong_75 : decode cX5_findWrong 75 = .ok (.laload, 1) := by decide +kernel
theorem dX5_findWrong_76 : decode cX5_findWrong 76 = .ok (.aload_n 0, 1) := by decide +kernel
theorem dX5_findWrong_77 : decode cX5_findWrong 77 = .ok (.getfield 38, 3) := by decide +kernel
theorem dX5_findWrong_80 : decode cX5_findWrong 80 = .ok (.getfield 69, 3) := by decide +kernel
theorem dX5_findWrong_83 : decode cX5_findWrong 83 = .ok (.iconst 4, 1) := by decide +kernel
theorem dX5_findWrong_84 : decode cX5_findWrong 84 = .ok (.iload_n 3, 1) := by decide +kernel
theorem dX5_findWrong_85 : decode cX5_findWrong 85 = .ok (.imul, 1) := by decide +kernel
theorem dX5_findWrong_86 : decode cX5_findWrong 86 = .ok (.iload 4, 2) := by decide +kernel
theorem dX5_findWrong_88 : decode cX5_findWrong 88 = .ok (.iadd, 1) := by decide +kernel
theorem dX5_findWrong_89 : decode cX5_findWrong 89 = .ok (.laload, 1) := by decide +kernel
theorem dX5_findWrong_90 : decode cX5_findWrong 90 = .ok (.lxor, 1) := by decide +kernel
theorem dX5_findWrong_91 : decode cX5_findWrong 91 = .ok (.lstore 5, 2) := by decide +kernel
theorem dX5_findWrong_93 : decode cX5_findWrong 93 = .ok (.lload 5, 2) := by decide +kernel
theorem dX5_findWrong_95 : decode cX5_findWrong 95 = .ok (.aload_n 0, 1) := by decide +kernel
theorem dX5_findWrong_96 : decode cX5_findWrong 96 = .ok (.getfield 41, 3) := by decide +kernel
theorem dX5_findWrong_99 : decode cX5_findWrong 99 = .ok (.getfield 75, 3) := by decide +kernel
theorem dX5_findWrong_102 : decode cX5_findWrong 102 = .ok (.iload 4, 2) := by decide +kernel
theorem dX5_findWrong_104 : decode cX5_findWrong 104 = .ok (.laload, 1) := by decide +kernel
theorem dX5_findWrong_105 : decode cX5_findWrong 105 = .ok (.land, 1) := by decide +kernel
theorem dX5_findWrong_106 : decode cX5_findWrong 106 = .ok (.lconst 0, 1) := by decide +kernel
theorem dX5_findWrong_107 : decode cX5_findWrong 107 = .ok (.lcmp, 1) := by decide +kernel
theorem dX5_findWrong_108 : decode cX5_findWrong 108 = .ok (.ifCond .eq 34, 3) := by decide +kernel
theorem dX5_findWrong_111 : decode cX5_findWrong 111 = .ok (.aload_n 0, 1) := by decide +kernel
theorem dX5_findWrong_112 : decode cX5_findWrong 112 = .ok (.getfield 25, 3) := by decide +kernel
theorem dX5_findWrong_115 : decode cX5_findWrong 115 = .ok (.aload_n 0, 1) := by decide +kernel
theorem dX5_findWrong_116 : decode cX5_findWrong 116 = .ok (.getfield 167, 3) := by decide +kernel
theorem dX5_findWrong_119 : decode cX5_findWrong 119 = .ok (.aload_n 0, 1) := by decide +kernel
theorem dX5_findWrong_120 : decode cX5_findWrong 120 = .ok (.getfield 34, 3) := by decide +kernel
theorem dX5_findWrong_123 : decode cX5_findWrong 123 = .ok (.getfield 106, 3) := by decide +kernel
theorem dX5_findWrong_126 : decode cX5_findWrong 126 = .ok (.iload_n 2, 1) := by decide +kernel
theorem dX5_findWrong_127 : decode cX5_findWrong 127 = .ok (.laload, 1) := by decide +kernel
theorem dX5_findWrong_128 : decode cX5_findWrong 128 = .ok (.lastore, 1) := by decide +kernel
theorem dX5_findWrong_129 : decode cX5_findWrong 129 = .ok (.aload_n 0, 1) := by decide +kernel
theorem dX5_findWrong_130 : decode cX5_findWrong 130 = .ok (.dup, 1) := by decide +kernel
theorem dX5_findWrong_131 : decode cX5_findWrong 131 = .ok (.getfield 167, 3) := by decide +kernel
theorem dX5_findWrong_134 : decode cX5_findWrong 134 = .ok (.iconst 1, 1) := by decide +kernel
theorem dX5_findWrong_135 : decode cX5_findWrong 135 = .ok (.iadd, 1) := by decide +kernel
theorem dX5_findWrong_136 : decode cX5_findWrong 136 = .ok (.putfield 167, 3) := by decide +kernel
theorem dX5_findWrong_139 : decode cX5_findWrong 139 = .ok (.goto 9, 3) := by decide +kernel
theorem dX5_findWrong_142 : decode cX5_findWrong 142 = .ok (.iinc 4 1, 3) := by decide +kernel
theorem dX5_findWrong_145 : decode cX5_findWrong 145 = .ok (.goto (-95), 3) := by decide +kernel
theorem dX5_findWrong_148 : decode cX5_findWrong 148 = .ok (.iinc 1 1, 3) := by decide +kernel
theorem dX5_findWrong_151 : decode cX5_findWrong 151 = .ok (.goto (-144), 3) := by decide +kernel
theorem dX5_findWrong_154 : decode cX5_findWrong 154 = .ok (.return_, 1) := by decide +kernel
theorem dX5_addHard_0 : decode cX5_addHard 0 = .ok (.ldc2_w 191, 3) := by decide +kernel
theorem dX5_addHard_3 : decode cX5_addHard 3 = .ok (.aload_n 0, 1) := by decide +kernel
theorem dX5_addHard_4 : decode cX5_addHard 4 = .ok (.getfield 193, 3) := by decide +kernel
theorem dX5_addHard_7 : decode cX5_addHard 7 = .ok (.lshl, 1) := by decide +kernel
theorem dX5_addHard_8 : decode cX5_addHard 8 = .ok (.lstore_n 2, 1) := by decide +kernel
theorem dX5_addHard_9 : decode cX5_addHard 9 = .ok (.iconst 0, 1) := by decide +kernel
theorem dX5_addHard_10 : decode cX5_addHard 10 = .ok (.istore 4, 2) := by decide +kernel
theorem dX5_addHard_12 : decode cX5_addHard 12 = .ok (.iload 4, 2) := by decide +kernel
theorem dX5_addHard_14 : decode cX5_addHard 14 = .ok (.aload_n 0, 1) := by decide +kernel
theorem dX5_addHard_15 : decode cX5_addHard 15 = .ok (.getfield 34, 3) := by decide +kernel
theorem dX5_addHard_18 : decode cX5_addHard 18 = .ok (.getfield 45, 3) := by decide +kernel
theorem dX5_addHard_21 : decode cX5_addHard 21 = .ok (.invokevirtual 91, 3) := by decide +kernel
theorem dX5_addHard_24 : decode cX5_addHard 24 = .ok (.if_icmp .ge 57, 3) := by decide +kernel
theorem dX5_addHard_27 : decode cX5_addHard 27 = .ok (.aload_n 0, 1) := by decide +kernel
theorem dX5_addHard_28 : decode cX5_addHard 28 = .ok (.getfield 28, 3) := by decide +kernel
theorem dX5_addHard_31 : decode cX5_addHard 31 = .ok (.iload 4, 2) := by decide +kernel
theorem dX5_addHard_33 : decode cX5_addHard 33 = .ok (.aload_n 0, 1) := by decide +kernel
theorem dX5_addHard_34 : decode cX5_addHard 34 = .ok (.getfield 28, 3) := by decide +kernel
theorem dX5_addHard_37 : decode cX5_addHard 37 = .ok (.iload 4, 2) := by decide +kernel
theorem dX5_addHard_39 : decode cX5_addHard 39 = .ok (.laload, 1) := by decide +kernel
theorem dX5_addHard_40 : decode cX5_addHard 40 = .ok (.lload_n 2, 1) := by decide +kernel
theorem dX5_addHard_41 : decode cX5_addHard 41 = .ok (.ldc2_w 109, 3) := by decide +kernel
theorem dX5_addHard_44 : decode cX5_addHard 44 = .ok (.lxor, 1) := by decide +kernel
theorem dX5_addHard_45 : decode cX5_addHard 45 = .ok (.land, 1) := by decide +kernel
theorem dX5_addHard_46 : decode cX5_addHard 46 = .ok (.lload_n 2, 1) := by decide +kernel
theorem dX5_addHard_47 : decode cX5_addHard 47 = .ok (.aload_n 0, 1) := by decide +kernel
theorem dX5_addHard_48 : decode cX5_addHard 48 = .ok (.getfield 34, 3) := by decide +kernel
theorem dX5_addHard_51 : decode cX5_addHard 51 = .ok (.getfield 69, 3) := by decide +kernel
theorem dX5_addHard_54 : decode cX5_addHard 54 = .ok (.iconst 4, 1) := by decide +kernel
theorem dX5_addHard_55 : decode cX5_addHard 55 = .ok (.iload 4, 2) := by decide +kernel
theorem dX5_addHard_57 : decode cX5_addHard 57 = .ok (.imul, 1) := by decide +kernel
theorem dX5_addHard_58 : decode cX5_addHard 58 = .ok (.iload_n 1, 1) := by decide +kernel
theorem dX5_addHard_59 : decode cX5_addHard 59 = .ok (.bipush 64, 2) := by decide +kernel
theorem dX5_addHard_61 : decode cX5_addHard 61 = .ok (.idiv, 1) := by decide +kernel
theorem dX5_addHard_62 : decode cX5_addHard 62 = .ok (.iadd, 1) := by decide +kernel
theorem dX5_addHard_63 : decode cX5_addHard 63 = .ok (.laload, 1) := by decide +kernel
theorem dX5_addHard_64 : decode cX5_addHard 64 = .ok (.iload_n 1, 1) := by decide +kernel
theorem dX5_addHard_65 : decode cX5_addHard 65 = .ok (.bipush 64, 2) := by decide +kernel
theorem dX5_addHard_67 : decode cX5_addHard 67 = .ok (.irem, 1) := by decide +kernel
theorem dX5_addHard_68 : decode cX5_addHard 68 = .ok (.lshr, 1) := by decide +kernel
theorem dX5_addHard_69 : decode cX5_addHard 69 = .ok (.lconst 1, 1) := by decide +kernel
theorem dX5_addHard_70 : decode cX5_addHard 70 = .ok (.land, 1) := by decide +kernel
theorem dX5_addHard_71 : decode cX5_addHard 71 = .ok (.lneg, 1) := by decide +kernel
theorem dX5_addHard_72 : decode cX5_addHard 72 = .ok (.land, 1) := by decide +kernel
theorem dX5_addHard_73 : decode cX5_addHard 73 = .ok (.lor, 1) := by decide +kernel
theorem dX5_addHard_74 : decode cX5_addHard 74 = .ok (.lastore, 1) := by decide +kernel
theorem dX5_addHard_75 : decode cX5_addHard 75 = .ok (.iinc 4 1, 3) := by decide +kernel
theorem dX5_addHard_78 : decode cX5_addHard 78 = .ok (.goto (-66), 3) := by decide +kernel
theorem dX5_addHard_81 : decode cX5_addHard 81 = .ok (.iconst 0, 1) := by decide +kernel
theorem dX5_addHard_82 : decode cX5_addHard 82 = .ok (.istore 4, 2) := by decide +kernel
theorem dX5_addHard_84 : decode cX5_addHard 84 = .ok (.iload 4, 2) := by decide +kernel
theorem dX5_addHard_86 : decode cX5_addHard 86 = .ok (.aload_n 0, 1) := by decide +kernel
theorem dX5_addHard_87 : decode cX5_addHard 87 = .ok (.getfield 38, 3) := by decide +kernel
theorem dX5_addHard_90 : decode cX5_addHard 90 = .ok (.getfield 45, 3) := by decide +kernel
theorem dX5_addHard_93 : decode cX5_addHard 93 = .ok (.invokevirtual 65, 3) := by decide +kernel
theorem dX5_addHard_96 : decode cX5_addHard 96 = .ok (.if_icmp .ge 72, 3) := by decide +kernel
theorem dX5_addHard_99 : decode cX5_addHard 99 = .ok (.aload_n 0, 1) := by decide +kernel
theorem dX5_addHard_100 : decode cX5_addHard 100 = .ok (.getfield 38, 3) := by decide +kernel
theorem dX5_addHard_103 : decode cX5_addHard 103 = .ok (.getfield 69, 3) := by decide +kernel
theorem dX5_addHard_106 : decode cX5_addHard 106 = .ok (.iconst 4, 1) := by decide +kernel
theorem dX5_addHard_107 : decode cX5_addHard 107 = .ok (.aload_n 0, 1) := by decide +kernel
theorem dX5_addHard_108 : decode cX5_addHard 108 = .ok (.getfield 38, 3) := by decide +kernel
theorem dX5_addHard_111 : decode cX5_addHard 111 = .ok (.getfield 45, 3) := by decide +kernel
theorem dX5_addHard_114 : decode cX5_addHard 114 = .ok (.getfield 72, 3) := by decide +kernel
theorem dX5_addHard_117 : decode cX5_addHard 117 = .ok (.iload 4, 2) := by decide +kernel
theorem dX5_addHard_119 : decode cX5_addHard 119 = .ok (.iaload, 1) := by decide +kernel
theorem dX5_addHard_120 : decode cX5_addHard 120 = .ok (.imul, 1) := by decide +kernel
theorem dX5_addHard_121 : decode cX5_addHard 121 = .ok (.iload_n 1, 1) := by decide +kernel
theorem dX5_addHard_122 : decode cX5_addHard 122 = .ok (.bipush 64, 2) := by decide +kernel
theorem dX5_addHard_124 : decode cX5_addHard 124 = .ok (.idiv, 1) := by decide +kernel
theorem dX5_addHard_125 : decode cX5_addHard 125 = .ok (.iadd, 1) := by decide +kernel
theorem dX5_addHard_126 : decode cX5_addHard 126 = .ok (.laload, 1) := by decide +kernel
theorem dX5_addHard_127 : decode cX5_addHard 127 = .ok (.lstore 5, 2) := by decide +kernel
theorem dX5_addHard_129 : decode cX5_addHard 129 = .ok (.aload_n 0, 1) := by decide +kernel
theorem dX5_addHard_130 : decode cX5_addHard 130 = .ok (.getfield 31, 3) := by decide +kernel
theorem dX5_addHard_133 : decode cX5_addHard 133 = .ok (.iload 4, 2) := by decide +kernel
theorem dX5_addHard_135 : decode cX5_addHard 135 = .ok (.aload_n 0, 1) := by decide +kernel
theorem dX5_addHard_136 : decode cX5_addHard 136 = .ok (.getfield 31, 3) := by decide +kernel
theorem dX5_addHard_139 : decode cX5_addHard 139 = .ok (.iload 4, 2) := by decide +kernel
theorem dX5_addHard_141 : decode cX5_addHard 141 = .ok (.laload, 1) := by decide +kernel
theorem dX5_addHard_142 : decode cX5_addHard 142 = .ok (.lload_n 2, 1) := by decide +kernel
theorem dX5_addHard_143 : decode cX5_addHard 143 = .ok (.ldc2_w 109, 3) := by decide +kernel
theorem dX5_addHard_146 : decode cX5_addHard 146 = .ok (.lxor, 1) := by decide +kernel
theorem dX5_addHard_147 : decode cX5_addHard 147 = .ok (.land, 1) := by decide +kernel
theorem dX5_addHard_148 : decode cX5_addHard 148 = .ok (.lload_n 2, 1) := by decide +kernel
theorem dX5_addHard_149 : decode cX5_addHard 149 = .ok (.lload 5, 2) := by decide +kernel
theorem dX5_addHard_151 : decode cX5_addHard 151 = .ok (.iload_n 1, 1) := by decide +kernel
theorem dX5_addHard_152 : decode cX5_addHard 152 = .ok (.bipush 64, 2) := by decide +kernel
theorem dX5_addHard_154 : decode cX5_addHard 154 = .ok (.irem, 1) := by decide +kernel
theorem dX5_addHard_155 : decode cX5_addHard 155 = .ok (.lshr, 1) := by decide +kernel
theorem dX5_addHard_156 : decode cX5_addHard 156 = .ok (.lconst 1, 1) := by decide +kernel
theorem dX5_addHard_157 : decode cX5_addHard 157 = .ok (.land, 1) := by decide +kernel
theorem dX5_addHard_158 : decode cX5_addHard 158 = .ok (.lneg, 1) := by decide +kernel
theorem dX5_addHard_159 : decode cX5_addHard 159 = .ok (.land, 1) := by decide +kernel
theorem dX5_addHard_160 : decode cX5_addHard 160 = .ok (.lor, 1) := by decide +kernel
theorem dX5_addHard_161 : decode cX5_addHard 161 = .ok (.lastore, 1) := by decide +kernel
theorem dX5_addHard_162 : decode cX5_addHard 162 = .ok (.iinc 4 1, 3) := by decide +kernel
theorem dX5_addHard_165 : decode cX5_addHard 165 = .ok (.goto (-81), 3) := by decide +kernel
theorem dX5_addHard_168 : decode cX5_addHard 168 = .ok (.aload_n 0, 1) := by decide +kernel
theorem dX5_addHard_169 : decode cX5_addHard 169 = .ok (.aload_n 0, 1) := by decide +kernel
theorem dX5_addHard_170 : decode cX5_addHard 170 = .ok (.getfield 193, 3) := by decide +kernel
theorem dX5_addHard_173 : decode cX5_addHard 173 = .ok (.iconst 1, 1) := by decide +kernel
theorem dX5_addHard_174 : decode cX5_addHard 174 = .ok (.iadd, 1) := by decide +kernel
theorem dX5_addHard_175 : decode cX5_addHard 175 = .ok (.bipush 8, 2) := by decide +kernel
theorem dX5_addHard_177 : decode cX5_addHard 177 = .ok (.irem, 1) := by decide +kernel
theorem dX5_addHard_178 : decode cX5_addHard 178 = .ok (.putfield 193, 3) := by decide +kernel
theorem dX5_addHard_181 : decode cX5_addHard 181 = .ok (.return_, 1) := by decide +kernel
theorem dX5_startSearch_0 : decode cX5_startSearch 0 = .ok (.aload_n 0, 1) := by decide +kernel
theorem dX5_startSearch_1 : decode cX5_startSearch 1 = .ok (.invokevirtual 154, 3) := by decide +kernel
theorem dX5_startSearch_4 : decode cX5_startSearch 4 = .ok (.iconst 0, 1) := by decide +kernel
theorem dX5_startSearch_5 : decode cX5_startSearch 5 = .ok (.istore_n 2, 1) := by decide +kernel
theorem dX5_startSearch_6 : decode cX5_startSearch 6 = .ok (.iload_n 2, 1) := by decide +kernel
theorem dX5_startSearch_7 : decode cX5_startSearch 7 = .ok (.bipush 8, 2) := by decide +kernel
theorem dX5_startSearch_9 : decode cX5_startSearch 9 = .ok (.if_icmp .ge 14, 3) := by decide +kernel
theorem dX5_startSearch_12 : decode cX5_startSearch 12 = .ok (.aload_n 0, 1) := by decide +kernel
theorem dX5_startSearch_13 : decode cX5_startSearch 13 = .ok (.iload_n 1, 1) := by decide +kernel
theorem dX5_startSearch_14 : decode cX5_startSearch 14 = .ok (.invokevirtual 157, 3) := by decide +kernel
theorem dX5_startSearch_17 : decode cX5_startSearch 17 = .ok (.iinc 2 1, 3) := by decide +kernel
theorem dX5_startSearch_20 : decode cX5_startSearch 20 = .ok (.goto (-14), 3) := by decide +kernel
theorem dX5_startSearch_23 : decode cX5_startSearch 23 = .ok (.return_, 1) := by decide +kernel
theorem dX5_failsHard_0 : decode cX5_failsHard 0 = .ok (.aload_n 0, 1) := by decide +kernel
theorem dX5_failsHard_1 : decode cX5_failsHard 1 = .ok (.getfield 28, 3) := by decide +kernel
theorem dX5_failsHard_4 : decode cX5_failsHard 4 = .ok (.iconst 0, 1) := by decide +kernel
theorem dX5_failsHard_5 : decode cX5_failsHard 5 = .ok (.aload_n 0, 1) := by decide +kernel
theorem dX5_failsHard_6 : decode cX5_failsHard 6 = .ok (.getfield 15, 3) := by decide +kernel
theorem dX5_failsHard_9 : decode cX5_failsHard 9 = .ok (.iconst 0, 1) := by decide +kernel
theorem dX5_failsHard_10 : decode cX5_failsHard 10 = .ok (.aload_n 0, 1) := by decide +kernel
theorem dX5_failsHard_11 : decode cX5_failsHard 11 = .ok (.getfield 34, 3) := by decide +kernel
theorem dX5_failsHard_14 : decode cX5_failsHard 14 = .ok (.getfield 45, 3) := by decide +kernel
theorem dX5_failsHard_17 : decode cX5_failsHard 17 = .ok (.invokevirtual 91, 3) := by decide +kernel
theorem dX5_failsHard_20 : decode cX5_failsHard 20 = .ok (.invokestatic 180, 3) := by decide +kernel
theorem dX5_failsHard_23 : decode cX5_failsHard 23 = .ok (.aload_n 0, 1) := by decide +kernel
theorem dX5_failsHard_24 : decode cX5_failsHard 24 = .ok (.getfield 31, 3) := by decide +kernel
theorem dX5_failsHard_27 : decode cX5_failsHard 27 = .ok (.iconst 0, 1) := by decide +kernel
theorem dX5_failsHard_28 : decode cX5_failsHard 28 = .ok (.aload_n 0, 1) := by decide +kernel
theorem dX5_failsHard_29 : decode cX5_failsHard 29 = .ok (.getfield 19, 3) := by decide +kernel
theorem dX5_failsHard_32 : decode cX5_failsHard 32 = .ok (.iconst 0, 1) := by decide +kernel
theorem dX5_failsHard_33 : decode cX5_failsHard 33 = .ok (.aload_n 0, 1) := by decide +kernel
theorem dX5_failsHard_34 : decode cX5_failsHard 34 = .ok (.getfield 34, 3) := by decide +kernel
theorem dX5_failsHard_37 : decode cX5_failsHard 37 = .ok (.getfield 45, 3) := by decide +kernel
theorem dX5_failsHard_40 : decode cX5_failsHard 40 = .ok (.invokevirtual 65, 3) := by decide +kernel
theorem dX5_failsHard_43 : decode cX5_failsHard 43 = .ok (.invokestatic 180, 3) := by decide +kernel
theorem dX5_failsHard_46 : decode cX5_failsHard 46 = .ok (.aload_n 0, 1) := by decide +kernel
theorem dX5_failsHard_47 : decode cX5_failsHard 47 = .ok (.invokevirtual 94, 3) := by decide +kernel
theorem dX5_failsHard_50 : decode cX5_failsHard 50 = .ok (.iconst 0, 1) := by decide +kernel
theorem dX5_failsHard_51 : decode cX5_failsHard 51 = .ok (.istore_n 1, 1) := by decide +kernel
theorem dX5_failsHard_52 : decode cX5_failsHard 52 = .ok (.iload_n 1, 1) := by decide +kernel
theorem dX5_failsHard_53 : decode cX5_failsHard 53 = .ok (.aload_n 0, 1) := by decide +kernel
theorem dX5_failsHard_54 : decode cX5_failsHard 54 = .ok (.getfield 57, 3) := by decide +kernel
theorem dX5_failsHard_57 : decode cX5_failsHard 57 = .ok (.if_icmp .ge 27, 3) := by decide +kernel
theorem dX5_failsHard_60 : decode cX5_failsHard 60 = .ok (.aload_n 0, 1) := by decide +kernel
theorem dX5_failsHard_61 : decode cX5_failsHard 61 = .ok (.getfield 15, 3) := by decide +kernel
theorem dX5_failsHard_64 : decode cX5_failsHard 64 = .ok (.aload_n 0, 1) := by decide +kernel
theorem dX5_failsHard_65 : decode cX5_failsHard 65 = .ok (.getfield 9, 3) := by decide +kernel
theorem dX5_failsHard_68 : decode cX5_failsHard 68 = .ok (.iload_n 1, 1) := by decide +kernel
theorem dX5_failsHard_69 : decode cX5_failsHard 69 = .ok (.iaload, 1) := by decide +kernel
theorem dX5_failsHard_70 : decode cX5_failsHard 70 = .ok (.getstatic 186, 3) := by decide +kernel
theorem dX5_failsHard_73 : decode cX5_failsHard 73 = .ok (.iconst 3, 1) := by decide +kernel
theorem dX5_failsHard_74 : decode cX5_failsHard 74 = .ok (.iload_n 1, 1) := by decide +kernel
theorem dX5_failsHard_75 : decode cX5_failsHard 75 = .ok (.iadd, 1) := by decide +kernel
theorem dX5_failsHard_76 : decode cX5_failsHard 76 = .ok (.laload, 1) := by decide +kernel
theorem dX5_failsHard_77 : decode cX5_failsHard 77 = .ok (.lastore, 1) := by decide +kernel
theorem dX5_failsHard_78 : decode cX5_failsHard 78 = .ok (.iinc 1 1, 3) := by decide +kernel
theorem dX5_failsHard_81 : decode cX5_failsHard 81 = .ok (.goto (-29), 3) := by decide +kernel
theorem dX5_failsHard_84 : decode cX5_failsHard 84 = .ok (.aload_n 0, 1) := by decide +kernel
theorem dX5_failsHard_85 : decode cX5_failsHard 85 = .ok (.invokevirtual 111, 3) := by decide +kernel
theorem dX5_failsHard_88 : decode cX5_failsHard 88 = .ok (.lstore_n 1, 1) := by decide +kernel
theorem dX5_failsHard_89 : decode cX5_failsHard 89 = .ok (.lconst 0, 1) := by decide +kernel
theorem dX5_failsHard_90 : decode cX5_failsHard 90 = .ok (.lstore_n 3, 1) := by decide +kernel
theorem dX5_failsHard_91 : decode cX5_failsHard 91 = .ok (.iconst 0, 1) := by decide +kernel
theorem dX5_failsHard_92 : decode cX5_failsHard 92 = .ok (.istore 5, 2) := by decide +kernel
theorem dX5_failsHard_94 : decode cX5_failsHard 94 = .ok (.iload 5, 2) := by decide +kernel
theorem dX5_failsHard_96 : decode cX5_failsHard 96 = .ok (.bipush 8, 2) := by decide +kernel
theorem dX5_failsHard_98 : decode cX5_failsHard 98 = .ok (.if_icmp .ge 19, 3) := by decide +kernel
theorem dX5_failsHard_101 : decode cX5_failsHard 101 = .ok (.lload_n 3, 1) := by decide +kernel
theorem dX5_failsHard_102 : decode cX5_failsHard 102 = .ok (.lload_n 1, 1) := by decide +kernel
theorem dX5_failsHard_103 : decode cX5_failsHard 103 = .ok (.bipush 8, 2) := by decide +kernel
theorem dX5_failsHard_105 : decode cX5_failsHard 105 = .ok (.iload 5, 2) := by decide +kernel
theorem dX5_failsHard_107 : decode cX5_failsHard 107 = .ok (.imul, 1) := by decide +kernel
theorem dX5_failsHard_108 : decode cX5_failsHard 108 = .ok (.lshr, 1) := by decide +kernel
theorem dX5_failsHard_109 : decode cX5_failsHard 109 = .ok (.lor, 1) := by decide +kernel
theorem dX5_failsHard_110 : decode cX5_failsHard 110 = .ok (.lstore_n 3, 1) := by decide +kernel
theorem dX5_failsHard_111 : decode cX5_failsHard 111 = .ok (.iinc 5 1, 3) := by decide +kernel
theorem dX5_failsHard_114 : decode cX5_failsHard 114 = .ok (.goto (-20), 3) := by decide +kernel
theorem dX5_failsHard_117 : decode cX5_failsHard 117 = .ok (.lload_n 3, 1) := by decide +kernel
theorem dX5_failsHard_118 : decode cX5_failsHard 118 = .ok (.ldc2_w 109, 3) := by decide +kernel
theorem dX5_failsHard_121 : decode cX5_failsHard 121 = .ok (.lxor, 1) := by decide +kernel
theorem dX5_failsHard_122 : decode cX5_failsHard 122 = .ok (.ldc2_w 189, 3) := by decide +kernel
theorem dX5_failsHard_125 : decode cX5_failsHard 125 = .ok (.land, 1) := by decide +kernel
theorem dX5_failsHard_126 : decode cX5_failsHard 126 = .ok (.lconst 0, 1) := by decide +kernel
theorem dX5_failsHard_127 : decode cX5_failsHard 127 = .ok (.lcmp, 1) := by decide +kernel
theorem dX5_failsHard_128 : decode cX5_failsHard 128 = .ok (.ifCond .eq 7, 3) := by decide +kernel
theorem dX5_failsHard_131 : decode cX5_failsHard 131 = .ok (.iconst 1, 1) := by decide +kernel
theorem dX5_failsHard_132 : decode cX5_failsHard 132 = .ok (.goto 4, 3) := by decide +kernel
theorem dX5_failsHard_135 : decode cX5_failsHard 135 = .ok (.iconst 0, 1) := by decide +kernel
theorem dX5_failsHard_136 : decode cX5_failsHard 136 = .ok (.ireturn, 1) := by decide +kernel
theorem dX5_isEnough_0 : decode cX5_isEnough 0 = .ok (.aload_n 0, 1) := by decide +kernel
theorem dX5_isEnough_1 : decode cX5_isEnough 1 = .ok (.iload_n 1, 1) := by decide +kernel
theorem dX5_isEnough_2 : decode cX5_isEnough 2 = .ok (.iload_n 2, 1) := by decide +kernel
theorem dX5_isEnough_3 : decode cX5_isEnough 3 = .ok (.iload_n 3, 1) := by decide +kernel
theorem dX5_isEnough_4 : decode cX5_isEnough 4 = .ok (.invokevirtual 170, 3) := by decide +kernel
theorem dX5_isEnough_7 : decode cX5_isEnough 7 = .ok (.ifCond .ne 5, 3) := by decide +kernel
theorem dX5_isEnough_10 : decode cX5_isEnough 10 = .ok (.iconst 0, 1) := by decide +kernel
theorem dX5_isEnough_11 : decode cX5_isEnough 11 = .ok (.ireturn, 1) := by decide +kernel
theorem dX5_isEnough_12 : decode cX5_isEnough 12 = .ok (.iconst 0, 1) := by decide +kernel
theorem dX5_isEnough_13 : decode cX5_isEnough 13 = .ok (.istore 4, 2) := by decide +kernel
theorem dX5_isEnough_15 : decode cX5_isEnough 15 = .ok (.iload 4, 2) := by decide +kernel
theorem dX5_isEnough_17 : decode cX5_isEnough 17 = .ok (.aload_n 0, 1) := by decide +kernel
theorem dX5_isEnough_18 : decode cX5_isEnough 18 = .ok (.getfield 167, 3) := by decide +kernel
theorem dX5_isEnough_21 : decode cX5_isEnough 21 = .ok (.if_icmp .ge 28, 3) := by decide +kernel
theorem dX5_isEnough_24 : decode cX5_isEnough 24 = .ok (.aload_n 0, 1) := by decide +kernel
theorem dX5_isEnough_25 : decode cX5_isEnough 25 = .ok (.getfield 25, 3) := by decide +kernel
theorem dX5_isEnough_28 : decode cX5_isEnough 28 = .ok (.iload 4, 2) := by decide +kernel
theorem dX5_isEnough_30 : decode cX5_isEnough 30 = .ok (.laload, 1) := by decide +kernel
theorem dX5_isEnough_31 : decode cX5_isEnough 31 = .ok (.aload_n 0, 1) := by decide +kernel
theorem dX5_isEnough_32 : decode cX5_isEnough 32 = .ok (.getfield 61, 3) := by decide +kernel
theorem dX5_isEnough_35 : decode cX5_isEnough 35 = .ok (.land, 1) := by decide +kernel
theorem dX5_isEnough_36 : decode cX5_isEnough 36 = .ok (.lconst 0, 1) := by decide +kernel
theorem dX5_isEnough_37 : decode cX5_isEnough 37 = .ok (.lcmp, 1) := by decide +kernel
theorem dX5_isEnough_38 : decode cX5_isEnough 38 = .ok (.ifCond .ne 5, 3) := by decide +kernel
theorem dX5_isEnough_41 : decode cX5_isEnough 41 = .ok (.iconst 0, 1) := by decide +kernel
theorem dX5_isEnough_42 : decode cX5_isEnough 42 = .ok (.ireturn, 1) := by decide +kernel
theorem dX5_isEnough_43 : decode cX5_isEnough 43 = .ok (.iinc 4 1, 3) := by decide +kernel
theorem dX5_isEnough_46 : decode cX5_isEnough 46 = .ok (.goto (-31), 3) := by decide +kernel
theorem dX5_isEnough_49 : decode cX5_isEnough 49 = .ok (.aload_n 0, 1) := by decide +kernel
theorem dX5_isEnough_50 : decode cX5_isEnough 50 = .ok (.invokevirtual 173, 3) := by decide +kernel
theorem dX5_isEnough_53 : decode cX5_isEnough 53 = .ok (.ifCond .eq 5, 3) := by decide +kernel
theorem dX5_isEnough_56 : decode cX5_isEnough 56 = .ok (.iconst 0, 1) := by decide +kernel
theorem dX5_isEnough_57 : decode cX5_isEnough 57 = .ok (.ireturn, 1) := by decide +kernel
theorem dX5_isEnough_58 : decode cX5_isEnough 58 = .ok (.aload_n 0, 1) := by decide +kernel
theorem dX5_isEnough_59 : decode cX5_isEnough 59 = .ok (.invokevirtual 177, 3) := by decide +kernel
theorem dX5_isEnough_62 : decode cX5_isEnough 62 = .ok (.istore 4, 2) := by decide +kernel
theorem dX5_isEnough_64 : decode cX5_isEnough 64 = .ok (.iload 4, 2) := by decide +kernel
theorem dX5_isEnough_66 : decode cX5_isEnough 66 = .ok (.sipush 1000, 3) := by decide +kernel
theorem dX5_isEnough_69 : decode cX5_isEnough 69 = .ok (.if_icmp .eq 9, 3) := by decide +kernel
theorem dX5_isEnough_72 : decode cX5_isEnough 72 = .ok (.aload_n 0, 1) := by decide +kernel
theorem dX5_isEnough_73 : decode cX5_isEnough 73 = .ok (.iload 4, 2) := by decide +kernel
theorem dX5_isEnough_75 : decode cX5_isEnough 75 = .ok (.invokevirtual 157, 3) := by decide +kernel
theorem dX5_isEnough_78 : decode cX5_isEnough 78 = .ok (.iload 4, 2) := by decide +kernel
theorem dX5_isEnough_80 : decode cX5_isEnough 80 = .ok (.sipush 1000, 3) := by decide +kernel
theorem dX5_isEnough_83 : decode cX5_isEnough 83 = .ok (.if_icmp .ne 7, 3) := by decide +kernel
theorem dX5_isEnough_86 : decode cX5_isEnough 86 = .ok (.iconst 1, 1) := by decide +kernel
theorem dX5_isEnough_87 : decode cX5_isEnough 87 = .ok (.goto 4, 3) := by decide +kernel
theorem dX5_isEnough_90 : decode cX5_isEnough 90 = .ok (.iconst 0, 1) := by decide +kernel
theorem dX5_isEnough_91 : decode cX5_isEnough 91 = .ok (.ireturn, 1) := by decide +kernel
theorem dX5_search_0 : decode cX5_search 0 = .ok (.aload_n 0, 1) := by decide +kernel
theorem dX5_search_1 : decode cX5_search 1 = .ok (.getfield 34, 3) := by decide +kernel
theorem dX5_search_4 : decode cX5_search 4 = .ok (.getfield 45, 3) := by decide +kernel
theorem dX5_search_7 : decode cX5_search 7 = .ok (.invokevirtual 91, 3) := by decide +kernel
theorem dX5_search_10 : decode cX5_search 10 = .ok (.istore_n 2, 1) := by decide +kernel
theorem dX5_search_11 : decode cX5_search 11 = .ok (.aload_n 0, 1) := by decide +kernel
theorem dX5_search_12 : decode cX5_search 12 = .ok (.getfield 34, 3) := by decide +kernel
theorem dX5_search_15 : decode cX5_search 15 = .ok (.getfield 45, 3) := by decide +kernel
theorem dX5_search_18 : decode cX5_search 18 = .ok (.invokevirtual 160, 3) := by decide +kernel
theorem dX5_search_21 : decode cX5_search 21 = .ok (.istore_n 3, 1) := by decide +kernel
theorem dX5_search_22 : decode cX5_search 22 = .ok (.iload_n 3, 1) := by decide +kernel
theorem dX5_search_23 : decode cX5_search 23 = .ok (.iload_n 2, 1) := by decide +kernel
theorem dX5_search_24 : decode cX5_search 24 = .ok (.if_icmp .ge 103, 3) := by decide +kernel
theorem dX5_search_27 : decode cX5_search 27 = .ok (.iload_n 1, 1) := by decide +kernel
theorem dX5_search_28 : decode cX5_search 28 = .ok (.iconst 1, 1) := by decide +kernel
theorem dX5_search_29 : decode cX5_search 29 = .ok (.if_icmp .ne 15, 3) := by decide +kernel
theorem dX5_search_32 : decode cX5_search 32 = .ok (.aload_n 0, 1) := by decide +kernel
theorem dX5_search_33 : decode cX5_search 33 = .ok (.iload_n 3, 1) := by decide +kernel
theorem dX5_search_34 : decode cX5_search 34 = .ok (.iconst (-1), 1) := by decide +kernel
theorem dX5_search_35 : decode cX5_search 35 = .ok (.iconst (-1), 1) := by decide +kernel
theorem dX5_search_36 : decode cX5_search 36 = .ok (.invokevirtual 163, 3) := by decide +kernel
theorem dX5_search_39 : decode cX5_search 39 = .ok (.ifCond .eq 5, 3) := by decide +kernel
theorem dX5_search_42 : decode cX5_search 42 = .ok (.iconst 1, 1) := by decide +kernel
theorem dX5_search_43 : decode cX5_search 43 = .ok (.ireturn, 1) := by decide +kernel
theorem dX5_search_44 : decode cX5_search 44 = .ok (.iload_n 3, 1) := by decide +kernel
theorem dX5_search_45 : decode cX5_search 45 = .ok (.iconst 1, 1) := by decide +kernel
theorem dX5_search_46 : decode cX5_search 46 = .ok (.iadd, 1) := by decide +kernel
theorem dX5_search_47 : decode cX5_search 47 = .ok (.istore 4, 2) := by decide +kernel
theorem dX5_search_49 : decode cX5_search 49 = .ok (.iload 4, 2) := by decide +kernel
theorem dX5_search_51 : decode cX5_search 51 = .ok (.iload_n 2, 1) := by decide +kernel
theorem dX5_search_52 : decode cX5_search 52 = .ok (.if_icmp .ge 69, 3) := by decide +kernel
theorem dX5_search_55 : decode cX5_search 55 = .ok (.iload_n 1, 1) := by decide +kernel
theorem dX5_search_56 : decode cX5_search 56 = .ok (.iconst 1, 1) := by decide +kernel
theorem dX5_search_57 : decode cX5_search 57 = .ok (.if_icmp .le 64, 3) := by decide +kernel
theorem dX5_search_60 : decode cX5_search 60 = .ok (.iload_n 1, 1) := by decide +kernel
theorem dX5_search_61 : decode cX5_search 61 = .ok (.iconst 2, 1) := by decide +kernel
theorem dX5_search_62 : decode cX5_search 62 = .ok (.if_icmp .ne 16, 3) := by decide +kernel
theorem dX5_search_65 : decode cX5_search 65 = .ok (.aload_n 0, 1) := by decide +kernel
theorem dX5_search_66 : decode cX5_search 66 = .ok (.iload_n 3, 1) := by decide +kernel
theorem dX5_search_67 : decode cX5_search 67 = .ok (.iload 4, 2) := by decide +kernel
theorem dX5_search_69 : decode cX5_search 69 = .ok (.iconst (-1), 1) := by decide +kernel
theorem dX5_search_70 : decode cX5_search 70 = .ok (.invokevirtual 163, 3) := by decide +kernel
theorem dX5_search_73 : decode cX5_search 73 = .ok (.ifCond .eq 5, 3) := by decide +kernel
theorem dX5_search_76 : decode cX5_search 76 = .ok (.iconst 1, 1) := by decide +kernel
theorem dX5_search_77 : decode cX5_search 77 = .ok (.ireturn, 1) := by decide +kernel
theorem dX5_search_78 : decode cX5_search 78 = .ok (.iload 4, 2) := by decide +kernel
theorem dX5_search_80 : decode cX5_search 80 = .ok (.iconst 1, 1) := by decide +kernel
theorem dX5_search_81 : decode cX5_search 81 = .ok (.iadd, 1) := by decide +kernel
theorem dX5_search_82 : decode cX5_search 82 = .ok (.istore 5, 2) := by decide +kernel
theorem dX5_search_84 : decode cX5_search 84 = .ok (.iload 5, 2) := by decide +kernel
theorem dX5_search_86 : decode cX5_search 86 = .ok (.iload_n 2, 1) := by decide +kernel
theorem dX5_search_87 : decode cX5_search 87 = .ok (.if_icmp .ge 28, 3) := by decide +kernel
theorem dX5_search_90 : decode cX5_search 90 = .ok (.iload_n 1, 1) := by decide +kernel
theorem dX5_search_91 : decode cX5_search 91 = .ok (.iconst 2, 1) := by decide +kernel
theorem dX5_search_92 : decode cX5_search 92 = .ok (.if_icmp .le 23, 3) := by decide +kernel
theorem dX5_search_95 : decode cX5_search 95 = .ok (.aload_n 0, 1) := by decide +kernel
theorem dX5_search_96 : decode cX5_search 96 = .ok (.iload_n 3, 1) := by decide +kernel
theorem dX5_search_97 : decode cX5_search 97 = .ok (.iload 4, 2) := by decide +kernel
theorem dX5_search_99 : decode cX5_search 99 = .ok (.iload 5, 2) := by decide +kernel
theorem dX5_search_101 : decode cX5_search 101 = .ok (.invokevirtual 163, 3) := by decide +kernel
theorem dX5_search_104 : decode cX5_search 104 = .ok (.ifCond .eq 5, 3) := by decide +kernel
theorem dX5_search_107 : decode cX5_search 107 = .ok (.iconst 1, 1) := by decide +kernel
theorem dX5_search_108 : decode cX5_search 108 = .ok (.ireturn, 1) := by decide +kernel
theorem dX5_search_109 : decode cX5_search 109 = .ok (.iinc 5 1, 3) := by decide +kernel
theorem dX5_search_112 : decode cX5_search 112 = .ok (.goto (-28), 3) := by decide +kernel
theorem dX5_search_115 : decode cX5_search 115 = .ok (.iinc 4 1, 3) := by decide +kernel
theorem dX5_search_118 : decode cX5_search 118 = .ok (.goto (-69), 3) := by decide +kernel
theorem dX5_search_121 : decode cX5_search 121 = .ok (.iinc 3 1, 3) := by decide +kernel
theorem dX5_search_124 : decode cX5_search 124 = .ok (.goto (-102), 3) := by decide +kernel
theorem dX5_search_127 : decode cX5_search 127 = .ok (.iconst 0, 1) := by decide +kernel
theorem dX5_search_128 : decode cX5_search 128 = .ok (.ireturn, 1) := by decide +kernel
def XX5_aim_b128   (self128 : Int → Hp → OR) (l4 : Int) (h : Hp) : OR :=
  if (h 40 4) ≤ l4 then zb 1 (some (1, h)) else inb l4 3 (hm (wr h 40 5 (jor (h 40 5) (jshl 1 (h 41 l4.toNat)))) (fun h10 => chk (l4 + 1) (self128 (l4 + 1) h10)))
def XX5_aim_L128   (l4 : Int) (h : Hp) : OR := lup1 (XX5_aim_b128 ) FU l4 h
def XX5_aim_p117   (s1 : Int) (h : Hp) : OR :=
  hm (wr h 40 4 s1) (fun h8 => hm (wr h8 40 5 0) (fun h9 => XX5_aim_L128 0 h9))
def XX5_aim_p76   (l1 l2 l3 : Int) (h : Hp) : OR :=
  inb 0 3 (hm (wr h 41 (0 : Int).toNat l1) (fun h5 => inb 1 3 (hm (wr h5 41 (1 : Int).toNat l2) (fun h6 => inb 2 3 (hm (wr h6 41 (2 : Int).toNat l3) (fun h7 => if l2 = (-1) then XX5_aim_p117 1 h7 else if l3 = (-1) then XX5_aim_p117 2 h7 else XX5_aim_p117 3 h7))))))
def XX5_aim_p50   (l1 l2 l3 : Int) (h : Hp) : OR :=
  if l3 = (-1) then XX5_aim_p76 l1 l2 l3 h else if l3 ≤ l2 then zb 0 (some (0, h)) else cal (XX8_isGate 18 l3 h) (fun r11 h12 => if r11 = 0 then zb 0 (some (0, h12)) else XX5_aim_p76 l1 l2 l3 h12)
def XX5_aim (x0 : Int) (x1 : Int) (x2 : Int) (h : Hp) : OR :=
  cal (XX8_isGate 18 x0 h) (fun r1 h2 => if r1 = 0 then zb 0 (some (0, h2)) else if x1 = (-1) then if x2 = (-1) then XX5_aim_p50 x0 x1 x2 h2 else zb 0 (some (0, h2)) else if x1 ≤ x0 then zb 0 (some (0, h2)) else cal (XX8_isGate 18 x1 h2) (fun r3 h4 => if r3 = 0 then zb 0 (some (0, h4)) else XX5_aim_p50 x0 x1 x2 h4))
theorem sX5_aim_L128 {Γ : Cx} {w : Wd} (hw : okX w) (g : Gd Γ cX5_aim 5 "GatePatch$Mender" (Option.some Jvm.ClassFile.FieldType.boolean) (rmd 3))   : ∀ (l4 : Int) (h : Hp), Sim Γ w 0 (XX5_aim_L128  l4 h) h 128 [(0, vP 40), (4, vI l4)] [] := by
  refine S_lup1 (fun l4 => [(0, vP 40), (4, vI l4)]) (fun self128 hs128 l4 h => ?_) FU
  unfold XX5_aim_b128
  refine S_iload (kk := 1) g dX5_aim_128 rfl ?_
  refine S_aload_n (kk := 0) g dX5_aim_130 rfl rfl ?_
  refine S_geti g dX5_aim_131 fl_Mender_57 (at_40 hw) (Or.inl rfl) ?_
  refine S_icmp_ge (tgt := 161) g dX5_aim_134 (by decide) ?_ ?_
  · refine S_iconst g dX5_aim_161 ⟨by decide, by decide⟩ ?_
    exact S_zreturn g dX5_aim_162 rfl
  · refine S_aload_n (kk := 0) g dX5_aim_137 rfl rfl ?_
    refine S_dup g dX5_aim_138 rfl ?_
    refine S_getj g dX5_aim_139 fl_Mender_61 (at_40 hw) rfl ?_
    refine S_lconst (x := 1) g dX5_aim_142 ⟨by decide, by decide⟩ rfl ?_
    refine S_aload_n (kk := 0) g dX5_aim_143 rfl rfl ?_
    refine S_getr g dX5_aim_144 fl_Mender_9 (at_40 hw) rfl (rc_40_3 hw) ?_
    refine S_iload (kk := 1) g dX5_aim_147 rfl ?_
    refine S_iaload g dX5_aim_149 (at_41 hw) ?_
    refine S_lshl g dX5_aim_150 ?_
    refine S_lor g dX5_aim_151 ?_
    refine S_putj g dX5_aim_152 fp_Mender_61 (at_40 hw) rfl (fun h10 => ?_)
    refine S_iinc (kk := 1) g dX5_aim_155 rfl (by decide) rfl ?_
    refine S_goto (tgt := 128) g dX5_aim_158 (by decide) ?_
    refine S_sub g [1, 0] rfl ?_
    exact hs128 _ _

theorem sX5_aim_p117 {Γ : Cx} {w : Wd} (hw : okX w) (g : Gd Γ cX5_aim 5 "GatePatch$Mender" (Option.some Jvm.ClassFile.FieldType.boolean) (rmd 3))   (s1 : Int) (h : Hp) : Sim Γ w 0 (XX5_aim_p117   s1 h) h 117 [(0, vP 40)] [vI s1, vP 40] := by
  unfold XX5_aim_p117
  refine S_puti g dX5_aim_117 fp_Mender_57 (at_40 hw) rfl (fun h8 => ?_)
  refine S_aload_n (kk := 0) g dX5_aim_120 rfl rfl ?_
  refine S_lconst (x := 0) g dX5_aim_121 ⟨by decide, by decide⟩ rfl ?_
  refine S_putj g dX5_aim_122 fp_Mender_61 (at_40 hw) rfl (fun h9 => ?_)
  refine S_iconst g dX5_aim_125 ⟨by decide, by decide⟩ ?_
  refine S_istore g dX5_aim_126 (by decide) rfl ?_
  refine S_sub g [1, 0] rfl ?_
  exact sX5_aim_L128 hw g _ _

theorem sX5_aim_p76 {Γ : Cx} {w : Wd} (hw : okX w) (g : Gd Γ cX5_aim 5 "GatePatch$Mender" (Option.some Jvm.ClassFile.FieldType.boolean) (rmd 3))   (l1 l2 l3 : Int) (h : Hp) : Sim Γ w 0 (XX5_aim_p76  l1 l2 l3  h) h 76 [(0, vP 40), (1, vI l1), (2, vI l2), (3, vI l3)] [] := by
  unfold XX5_aim_p76
  refine S_aload_n (kk := 0) g dX5_aim_76 rfl rfl ?_
  refine S_getr g dX5_aim_77 fl_Mender_9 (at_40 hw) rfl (rc_40_3 hw) ?_
  refine S_iconst g dX5_aim_80 ⟨by decide, by decide⟩ ?_
  refine S_iload_n (kk := 1) g dX5_aim_81 rfl rfl ?_
  refine S_iastore g dX5_aim_82 (at_41 hw) (fun h5 => ?_)
  refine S_aload_n (kk := 0) g dX5_aim_83 rfl rfl ?_
  refine S_getr g dX5_aim_84 fl_Mender_9 (at_40 hw) rfl (rc_40_3 hw) ?_
  refine S_iconst g dX5_aim_87 ⟨by decide, by decide⟩ ?_
  refine S_iload_n (kk := 2) g dX5_aim_88 rfl rfl ?_
  refine S_iastore g dX5_aim_89 (at_41 hw) (fun h6 => ?_)
  refine S_aload_n (kk := 0) g dX5_aim_90 rfl rfl ?_
  refine S_getr g dX5_aim_91 fl_Mender_9 (at_40 hw) rfl (rc_40_3 hw) ?_
  refine S_iconst g dX5_aim_94 ⟨by decide, by decide⟩ ?_
  refine S_iload_n (kk := 3) g dX5_aim_95 rfl rfl ?_
  refine S_iastore g dX5_aim_96 (at_41 hw) (fun h7 => ?_)
  refine S_aload_n (kk := 0) g dX5_aim_97 rfl rfl ?_
  refine S_iload_n (kk := 2) g dX5_aim_98 rfl rfl ?_
  refine S_iconst g dX5_aim_99 ⟨by decide, by decide⟩ ?_
  refine S_icmp_ne (tgt := 107) g dX5_aim_100 (by decide) ?_ ?_
  · refine S_iload_n (kk := 3) g dX5_aim_107 rfl rfl ?_
    refine S_iconst g dX5_aim_108 ⟨by decide, by decide⟩ ?_
    refine S_icmp_ne (tgt := 116) g dX5_aim_109 (by decide) ?_ ?_
    · refine S_iconst g dX5_aim_116 ⟨by decide, by decide⟩ ?_
      refine S_sub g [0] rfl ?_
      exact sX5_aim_p117 hw g _ _
    · refine S_iconst g dX5_aim_112 ⟨by decide, by decide⟩ ?_
      refine S_goto (tgt := 117) g dX5_aim_113 (by decide) ?_
      refine S_sub g [0] rfl ?_
      exact sX5_aim_p117 hw g _ _
  · refine S_iconst g dX5_aim_103 ⟨by decide, by decide⟩ ?_
    refine S_goto (tgt := 117) g dX5_aim_104 (by decide) ?_
    refine S_sub g [0] rfl ?_
    exact sX5_aim_p117 hw g _ _

theorem sX5_aim_p50 {Γ : Cx} {w : Wd} (hw : okX w) (g : Gd Γ cX5_aim 5 "GatePatch$Mender" (Option.some Jvm.ClassFile.FieldType.boolean) (rmd 3))   (l1 l2 l3 : Int) (h : Hp) : Sim Γ w 0 (XX5_aim_p50  l1 l2 l3  h) h 50 [(0, vP 40), (1, vI l1), (2, vI l2), (3, vI l3)] [] := by
  unfold XX5_aim_p50
  refine S_iload_n (kk := 3) g dX5_aim_50 rfl rfl ?_
  refine S_iconst g dX5_aim_51 ⟨by decide, by decide⟩ ?_
  refine S_icmp_eq (tgt := 76) g dX5_aim_52 (by decide) ?_ ?_
  · exact sX5_aim_p76 hw g _ _ _ _
  · refine S_iload_n (kk := 3) g dX5_aim_55 rfl rfl ?_
    refine S_iload_n (kk := 2) g dX5_aim_56 rfl rfl ?_
    refine S_icmp_le (tgt := 74) g dX5_aim_57 (by decide) ?_ ?_
    · refine S_iconst g dX5_aim_74 ⟨by decide, by decide⟩ ?_
      exact S_zreturn g dX5_aim_75 rfl
    · refine S_aload_n (kk := 0) g dX5_aim_60 rfl rfl ?_
      refine S_getr g dX5_aim_61 fl_Mender_34 (at_40 hw) rfl (rc_40_0 hw) ?_
      refine S_getr g dX5_aim_64 fl_Mender_45 (at_17 hw) rfl (rc_17_0 hw) ?_
      refine S_iload_n (kk := 3) g dX5_aim_67 rfl rfl ?_
      refine S_callVi (As := [vI l3]) g dX5_aim_68 (sX8_isGate hw 18 (pl_18 hw) _ _) rfl (at_18 hw) rfl im_X8_isGate se_X8_isGate cw_X8_isGate ml_Mender_51 ini_Plan nd_X8_isGate ⟨by decide, by decide⟩ (Nat.le_of_ble_eq_true rfl) (fun r11 h12 => ?_)
      refine S_if_ne (tgt := 76) g dX5_aim_71 (by decide) ?_ ?_
      · exact sX5_aim_p76 hw g _ _ _ _
      · refine S_iconst g dX5_aim_74 ⟨by decide, by decide⟩ ?_
        exact S_zreturn g dX5_aim_75 rfl

theorem sX5_aim {G : GG} {w : Wd} (hw : okX w) (x0 : Int) (x1 : Int) (x2 : Int) (h : Hp) : SC G w yX5_aim (Cond.code yX5_aim cX5_aim 5 (Option.some Jvm.ClassFile.FieldType.boolean)) 3 0 [vP 40, vI x0, vI x1, vI x2] (XX5_aim x0 x1 x2 h) h := by
  refine SC_of (own := "GatePatch$Mender") plain_Mender rfl (Nat.le_of_ble_eq_true rfl) (fun Γ hG g => ?_)
  subst hG
  show Sim Γ w 0 _ h 0 [(0, vP 40), (1, vI x0), (2, vI x1), (3, vI x2)] []
  unfold XX5_aim
  refine S_aload_n (kk := 0) g dX5_aim_0 rfl rfl ?_
  refine S_getr g dX5_aim_1 fl_Mender_34 (at_40 hw) rfl (rc_40_0 hw) ?_
  refine S_getr g dX5_aim_4 fl_Mender_45 (at_17 hw) rfl (rc_17_0 hw) ?_
  refine S_iload_n (kk := 1) g dX5_aim_7 rfl rfl ?_
  refine S_callVi (As := [vI x0]) g dX5_aim_8 (sX8_isGate hw 18 (pl_18 hw) _ _) rfl (at_18 hw) rfl im_X8_isGate se_X8_isGate cw_X8_isGate ml_Mender_51 ini_Plan nd_X8_isGate ⟨by decide, by decide⟩ (Nat.le_of_ble_eq_true rfl) (fun r1 h2 => ?_)
  refine S_if_ne (tgt := 16) g dX5_aim_11 (by decide) ?_ ?_
  · refine S_iload_n (kk := 2) g dX5_aim_16 rfl rfl ?_
    refine S_iconst g dX5_aim_17 ⟨by decide, by decide⟩ ?_
    refine S_icmp_ne (tgt := 29) g dX5_aim_18 (by decide) ?_ ?_
    · refine S_iload_n (kk := 2) g dX5_aim_29 rfl rfl ?_
      refine S_iload_n (kk := 1) g dX5_aim_30 rfl rfl ?_
      refine S_icmp_le (tgt := 48) g dX5_aim_31 (by decide) ?_ ?_
      · refine S_iconst g dX5_aim_48 ⟨by decide, by decide⟩ ?_
        exact S_zreturn g dX5_aim_49 rfl
      · refine S_aload_n (kk := 0) g dX5_aim_34 rfl rfl ?_
        refine S_getr g dX5_aim_35 fl_Mender_34 (at_40 hw) rfl (rc_40_0 hw) ?_
        refine S_getr g dX5_aim_38 fl_Mender_45 (at_17 hw) rfl (rc_17_0 hw) ?_
        refine S_iload_n (kk := 2) g dX5_aim_41 rfl rfl ?_
        refine S_callVi (As := [vI x1]) g dX5_aim_42 (sX8_isGate hw 18 (pl_18 hw) _ _) rfl (at_18 hw) rfl im_X8_isGate se_X8_isGate cw_X8_isGate ml_Mender_51 ini_Plan nd_X8_isGate ⟨by decide, by decide⟩ (Nat.le_of_ble_eq_true rfl) (fun r3 h4 => ?_)
        refine S_if_ne (tgt := 50) g dX5_aim_45 (by decide) ?_ ?_
        · exact sX5_aim_p50 hw g _ _ _ _
        · refine S_iconst g dX5_aim_48 ⟨by decide, by decide⟩ ?_
          exact S_zreturn g dX5_aim_49 rfl
    · refine S_iload_n (kk := 3) g dX5_aim_21 rfl rfl ?_
      refine S_iconst g dX5_aim_22 ⟨by decide, by decide⟩ ?_
      refine S_icmp_eq (tgt := 50) g dX5_aim_23 (by decide) ?_ ?_
      · exact sX5_aim_p50 hw g _ _ _ _
      · refine S_goto (tgt := 48) g dX5_aim_26 (by decide) ?_
        refine S_iconst g dX5_aim_48 ⟨by decide, by decide⟩ ?_
        exact S_zreturn g dX5_aim_49 rfl
  · refine S_iconst g dX5_aim_14 ⟨by decide, by decide⟩ ?_
    exact S_zreturn g dX5_aim_15 rfl

def XX5_assignments  (h : Hp) : OR :=
  some ((ashl 1 (h 40 4)), h)
theorem sX5_assignments {G : GG} {w : Wd} (hw : okX w)  (h : Hp) : SC G w yX5_assignments (Cond.code yX5_assignments cX5_assignments 1 (Option.some Jvm.ClassFile.FieldType.int)) 1 0 [vP 40] (XX5_assignments  h) h := by
  refine SC_of (own := "GatePatch$Mender") plain_Mender rfl (Nat.le_of_ble_eq_true rfl) (fun Γ hG g => ?_)
  subst hG
  show Sim Γ w 0 _ h 0 [(0, vP 40)] []
  unfold XX5_assignments
  refine S_iconst g dX5_assignments_0 ⟨by decide, by decide⟩ ?_
  refine S_aload_n (kk := 0) g dX5_assignments_1 rfl rfl ?_
  refine S_geti g dX5_assignments_2 fl_Mender_57 (at_40 hw) (Or.inl rfl) ?_
  refine S_ishl g dX5_assignments_5 ?_
  exact S_ireturn g dX5_assignments_6 rfl

def XX5_difference_b5   (self5 : Int → Int → Int → Hp → OR) (l1 l2 l4 : Int) (h : Hp) : OR :=
  cal (XX8_seenCount 18 h) (fun r1 h2 => if r1 ≤ l4 then inb l1 4 (some ((jand l2 (h2 39 l1.toNat)), h2)) else inb l4 6 (chk (4 * (h2 21 l4.toNat)) (chk ((4 * (h2 21 l4.toNat)) + l1) (inb ((4 * (h2 21 l4.toNat)) + l1) 192 (inb l4 6 (chk (4 * (h2 31 l4.toNat)) (chk ((4 * (h2 31 l4.toNat)) + l1) (inb ((4 * (h2 31 l4.toNat)) + l1) 192 (nm (jor l2 (jxor (h2 25 ((4 * (h2 21 l4.toNat)) + l1).toNat) (h2 35 ((4 * (h2 31 l4.toNat)) + l1).toNat))) (fun v3 => chk (l4 + 1) (self5 l1 v3 (l4 + 1) h2)))))))))))
def XX5_difference_L5   (l1 l2 l4 : Int) (h : Hp) : OR := lup3 (XX5_difference_b5 ) FU l1 l2 l4 h
def XX5_difference (x0 : Int) (h : Hp) : OR :=
  XX5_difference_L5 x0 0 0 h
theorem sX5_difference_L5 {Γ : Cx} {w : Wd} (hw : okX w) (g : Gd Γ cX5_difference 5 "GatePatch$Mender" (Option.some Jvm.ClassFile.FieldType.long) (rmd 2))   : ∀ (l1 l2 l4 : Int) (h : Hp), Sim Γ w 1 (XX5_difference_L5  l1 l2 l4 h) h 5 [(0, vP 40), (1, vI l1), (2, vJ l2), (4, vI l4)] [] := by
  refine S_lup3 (fun l1 l2 l4 => [(0, vP 40), (1, vI l1), (2, vJ l2), (4, vI l4)]) (fun self5 hs5 l1 l2 l4 h => ?_) FU
  unfold XX5_difference_b5
  refine S_iload (kk := 3) g dX5_difference_5 rfl ?_
  refine S_aload_n (kk := 0) g dX5_difference_7 rfl rfl ?_
  refine S_getr g dX5_difference_8 fl_Mender_34 (at_40 hw) rfl (rc_40_0 hw) ?_
  refine S_getr g dX5_difference_11 fl_Mender_45 (at_17 hw) rfl (rc_17_0 hw) ?_
  refine S_callVi (As := []) g dX5_difference_14 (sX8_seenCount hw 18 (pl_18 hw) _) rfl (at_18 hw) rfl im_X8_seenCount se_X8_seenCount cw_X8_seenCount ml_Mender_65 ini_Plan nd_X8_seenCount ⟨by decide, by decide⟩ (Nat.le_of_ble_eq_true rfl) (fun r1 h2 => ?_)
  refine S_icmp_ge (tgt := 80) g dX5_difference_17 (by decide) ?_ ?_
  · refine S_lload_n (kk := 2) g dX5_difference_80 rfl rfl ?_
    refine S_aload_n (kk := 0) g dX5_difference_81 rfl rfl ?_
    refine S_getr g dX5_difference_82 fl_Mender_41 (at_40 hw) rfl (rc_40_2 hw) ?_
    refine S_getr g dX5_difference_85 fl_Mender_75 (at_37 hw) rfl (rc_37_3 hw) ?_
    refine S_iload_n (kk := 1) g dX5_difference_88 rfl rfl ?_
    refine S_laload g dX5_difference_89 (at_39 hw) ?_
    refine S_land g dX5_difference_90 ?_
    exact S_lreturn g dX5_difference_91 rfl
  · refine S_lload_n (kk := 2) g dX5_difference_20 rfl rfl ?_
    refine S_aload_n (kk := 0) g dX5_difference_21 rfl rfl ?_
    refine S_getr g dX5_difference_22 fl_Mender_34 (at_40 hw) rfl (rc_40_0 hw) ?_
    refine S_getr g dX5_difference_25 fl_Mender_69 (at_17 hw) rfl (rc_17_4 hw) ?_
    refine S_iconst g dX5_difference_28 ⟨by decide, by decide⟩ ?_
    refine S_aload_n (kk := 0) g dX5_difference_29 rfl rfl ?_
    refine S_getr g dX5_difference_30 fl_Mender_34 (at_40 hw) rfl (rc_40_0 hw) ?_
    refine S_getr g dX5_difference_33 fl_Mender_45 (at_17 hw) rfl (rc_17_0 hw) ?_
    refine S_getr g dX5_difference_36 fl_Mender_72 (at_18 hw) rfl (rc_18_6 hw) ?_
    refine S_iload (kk := 3) g dX5_difference_39 rfl ?_
    refine S_iaload g dX5_difference_41 (at_21 hw) ?_
    refine S_imul g dX5_difference_42 ?_
    refine S_iload_n (kk := 1) g dX5_difference_43 rfl rfl ?_
    refine S_iadd g dX5_difference_44 ?_
    refine S_laload g dX5_difference_45 (at_25 hw) ?_
    refine S_aload_n (kk := 0) g dX5_difference_46 rfl rfl ?_
    refine S_getr g dX5_difference_47 fl_Mender_38 (at_40 hw) rfl (rc_40_1 hw) ?_
    refine S_getr g dX5_difference_50 fl_Mender_69 (at_27 hw) rfl (rc_27_4 hw) ?_
    refine S_iconst g dX5_difference_53 ⟨by decide, by decide⟩ ?_
    refine S_aload_n (kk := 0) g dX5_difference_54 rfl rfl ?_
    refine S_getr g dX5_difference_55 fl_Mender_38 (at_40 hw) rfl (rc_40_1 hw) ?_
    refine S_getr g dX5_difference_58 fl_Mender_45 (at_27 hw) rfl (rc_27_0 hw) ?_
    refine S_getr g dX5_difference_61 fl_Mender_72 (at_28 hw) rfl (rc_28_6 hw) ?_
    refine S_iload (kk := 3) g dX5_difference_64 rfl ?_
    refine S_iaload g dX5_difference_66 (at_31 hw) ?_
    refine S_imul g dX5_difference_67 ?_
    refine S_iload_n (kk := 1) g dX5_difference_68 rfl rfl ?_
    refine S_iadd g dX5_difference_69 ?_
    refine S_laload g dX5_difference_70 (at_35 hw) ?_
    refine S_lxor g dX5_difference_71 ?_
    refine S_lor g dX5_difference_72 ?_
    refine S_nmJ (fun v3 => ?_)
    refine S_lstore_n g dX5_difference_73 rfl (by decide) rfl ?_
    refine S_iinc (kk := 3) g dX5_difference_74 rfl (by decide) rfl ?_
    refine S_goto (tgt := 5) g dX5_difference_77 (by decide) ?_
    refine S_sub g [2, 3, 1, 0] rfl ?_
    exact hs5 _ _ _ _

theorem sX5_difference {G : GG} {w : Wd} (hw : okX w) (x0 : Int) (h : Hp) : SC G w yX5_difference (Cond.code yX5_difference cX5_difference 5 (Option.some Jvm.ClassFile.FieldType.long)) 2 1 [vP 40, vI x0] (XX5_difference x0 h) h := by
  refine SC_of (own := "GatePatch$Mender") plain_Mender rfl (Nat.le_of_ble_eq_true rfl) (fun Γ hG g => ?_)
  subst hG
  show Sim Γ w 1 _ h 0 [(0, vP 40), (1, vI x0)] []
  unfold XX5_difference
  refine S_lconst (x := 0) g dX5_difference_0 ⟨by decide, by decide⟩ rfl ?_
  refine S_lstore_n g dX5_difference_1 rfl (by decide) rfl ?_
  refine S_iconst g dX5_difference_2 ⟨by decide, by decide⟩ ?_
  refine S_istore g dX5_difference_3 (by decide) rfl ?_
  refine S_sub g [2, 3, 1, 0] rfl ?_
  exact sX5_difference_L5 hw g _ _ _ _

def XX5_firstDifference_b2   (self2 : Int → Hp → OR) (l1 : Int) (h : Hp) : OR :=
  if (h 37 1) ≤ l1 then some (1000, h) else cal (XX5_difference l1 h) (fun r1 h2 => if (jcmp r1 0) = 0 then chk (l1 + 1) (self2 (l1 + 1) h2) else cal (XX0_lowest l1 r1 h2) (fun r3 h4 => some (r3, h4)))
def XX5_firstDifference_L2   (l1 : Int) (h : Hp) : OR := lup1 (XX5_firstDifference_b2 ) FU l1 h
def XX5_firstDifference  (h : Hp) : OR :=
  XX5_firstDifference_L2 0 h
theorem sX5_firstDifference_L2 {Γ : Cx} {w : Wd} (hw : okX w) (g : Gd Γ cX5_firstDifference 4 "GatePatch$Mender" (Option.some Jvm.ClassFile.FieldType.int) (rmd 3))   : ∀ (l1 : Int) (h : Hp), Sim Γ w 0 (XX5_firstDifference_L2  l1 h) h 2 [(0, vP 40), (1, vI l1)] [] := by
  refine S_lup1 (fun l1 => [(0, vP 40), (1, vI l1)]) (fun self2 hs2 l1 h => ?_) FU
  unfold XX5_firstDifference_b2
  refine S_iload_n (kk := 1) g dX5_firstDifference_2 rfl rfl ?_
  refine S_aload_n (kk := 0) g dX5_firstDifference_3 rfl rfl ?_
  refine S_getr g dX5_firstDifference_4 fl_Mender_41 (at_40 hw) rfl (rc_40_2 hw) ?_
  refine S_geti g dX5_firstDifference_7 fl_Mender_80 (at_37 hw) (Or.inl rfl) ?_
  refine S_icmp_ge (tgt := 37) g dX5_firstDifference_10 (by decide) ?_ ?_
  · refine S_sipush g dX5_firstDifference_37 ⟨by decide, by decide⟩ rfl ?_
    exact S_ireturn g dX5_firstDifference_40 rfl
  · refine S_aload_n (kk := 0) g dX5_firstDifference_13 rfl rfl ?_
    refine S_iload_n (kk := 1) g dX5_firstDifference_14 rfl rfl ?_
    refine S_callVj (As := [vI l1]) g dX5_firstDifference_15 (sX5_difference hw _ _) rfl (at_40 hw) rfl im_X5_difference se_X5_difference cw_X5_difference ml_Mender_83 ini_Mender nd_X5_difference ⟨by decide, by decide⟩ (Nat.le_of_ble_eq_true rfl) (fun r1 h2 => ?_)
    refine S_lstore_n g dX5_firstDifference_18 rfl (by decide) rfl ?_
    refine S_lload_n (kk := 0) g dX5_firstDifference_19 rfl rfl ?_
    refine S_lconst (x := 0) g dX5_firstDifference_20 ⟨by decide, by decide⟩ rfl ?_
    refine S_lcmp g dX5_firstDifference_21 ?_
    refine S_if_eq (tgt := 31) g dX5_firstDifference_22 (by decide) ?_ ?_
    · refine S_iinc (kk := 2) g dX5_firstDifference_31 rfl (by decide) rfl ?_
      refine S_goto (tgt := 2) g dX5_firstDifference_34 (by decide) ?_
      refine S_sub g [2, 0] rfl ?_
      exact hs2 _ _
    · refine S_iload_n (kk := 2) g dX5_firstDifference_25 rfl rfl ?_
      refine S_lload_n (kk := 0) g dX5_firstDifference_26 rfl rfl ?_
      refine S_callSi (As := [vI l1, vJ r1]) g dX5_firstDifference_27 (sX0_lowest hw _ _ _) rfl st_X0_lowest cw_X0_lowest ml_Mender_87 ini_Cases nd_X0_lowest ⟨by decide, by decide⟩ (Nat.le_of_ble_eq_true rfl) (fun r3 h4 => ?_)
      exact S_ireturn g dX5_firstDifference_30 rfl

theorem sX5_firstDifference {G : GG} {w : Wd} (hw : okX w)  (h : Hp) : SC G w yX5_firstDifference (Cond.code yX5_firstDifference cX5_firstDifference 4 (Option.some Jvm.ClassFile.FieldType.int)) 3 0 [vP 40] (XX5_firstDifference  h) h := by
  refine SC_of (own := "GatePatch$Mender") plain_Mender rfl (Nat.le_of_ble_eq_true rfl) (fun Γ hG g => ?_)
  subst hG
  show Sim Γ w 0 _ h 0 [(0, vP 40)] []
  unfold XX5_firstDifference
  refine S_iconst g dX5_firstDifference_0 ⟨by decide, by decide⟩ ?_
  refine S_istore_n g dX5_firstDifference_1 rfl (by decide) rfl ?_
  refine S_sub g [1, 0] rfl ?_
  exact sX5_firstDifference_L2 hw g _ _

def XX5_findCone_p83  (self7 : Int → Hp → OR) (l1 : Int) (h : Hp) : OR :=
  chk (l1 + 1) (self7 (l1 + 1) h)
def XX5_findCone_b7   (self7 : Int → Hp → OR) (l1 : Int) (h : Hp) : OR :=
  if (h 18 3) ≤ l1 then some (0, h) else inb l1 40 (nm (h 23 l1.toNat) (fun v2 => inb v2 48 (if (jcmp (jand (h 24 v2.toNat) (h 40 5)) 0) = 0 then XX5_findCone_p83 self7 l1 h else if (jcmp (jand (jshr (h 40 5) v2) 1) 0) = 0 then inb (h 40 8) 40 (hm (wr h 43 (h 40 8).toNat v2) (fun h3 => chk ((h3 40 8) + 1) (hm (wr h3 40 8 ((h3 40 8) + 1)) (fun h4 => XX5_findCone_p83 self7 l1 h4)))) else XX5_findCone_p83 self7 l1 h)))
def XX5_findCone_L7   (l1 : Int) (h : Hp) : OR := lup1 (XX5_findCone_b7 ) FU l1 h
def XX5_findCone  (h : Hp) : OR :=
  hm (wr h 40 8 0) (fun h1 => XX5_findCone_L7 0 h1)
theorem sX5_findCone_p83 {Γ : Cx} {w : Wd} (hw : okX w) (g : Gd Γ cX5_findCone 3 "GatePatch$Mender" (Option.none : Option Jvm.ClassFile.FieldType) (rmd 1))  (self7 : Int → Hp → OR) (hs7 : ∀ (x0 : Int) (h : Hp), Sim Γ w 3 (self7 x0 h) h 7 [(0, vP 40), (1, vI x0)] []) (l1 : Int) (h : Hp) : Sim Γ w 3 (XX5_findCone_p83 self7 l1  h) h 83 [(0, vP 40), (1, vI l1)] [] := by
  unfold XX5_findCone_p83
  refine S_iinc (kk := 1) g dX5_findCone_83 rfl (by decide) rfl ?_
  refine S_goto (tgt := 7) g dX5_findCone_86 (by decide) ?_
  refine S_sub g [1, 0] rfl ?_
  exact hs7 _ _

theorem sX5_findCone_L7 {Γ : Cx} {w : Wd} (hw : okX w) (g : Gd Γ cX5_findCone 3 "GatePatch$Mender" (Option.none : Option Jvm.ClassFile.FieldType) (rmd 1))   : ∀ (l1 : Int) (h : Hp), Sim Γ w 3 (XX5_findCone_L7  l1 h) h 7 [(0, vP 40), (1, vI l1)] [] := by
  refine S_lup1 (fun l1 => [(0, vP 40), (1, vI l1)]) (fun self7 hs7 l1 h => ?_) FU
  unfold XX5_findCone_b7
  refine S_iload_n (kk := 1) g dX5_findCone_7 rfl rfl ?_
  refine S_aload_n (kk := 0) g dX5_findCone_8 rfl rfl ?_
  refine S_getr g dX5_findCone_9 fl_Mender_34 (at_40 hw) rfl (rc_40_0 hw) ?_
  refine S_getr g dX5_findCone_12 fl_Mender_45 (at_17 hw) rfl (rc_17_0 hw) ?_
  refine S_geti g dX5_findCone_15 fl_Mender_100 (at_18 hw) (Or.inl rfl) ?_
  refine S_icmp_ge (tgt := 89) g dX5_findCone_18 (by decide) ?_ ?_
  · exact S_return g dX5_findCone_89 rfl
  · refine S_aload_n (kk := 0) g dX5_findCone_21 rfl rfl ?_
    refine S_getr g dX5_findCone_22 fl_Mender_34 (at_40 hw) rfl (rc_40_0 hw) ?_
    refine S_getr g dX5_findCone_25 fl_Mender_103 (at_17 hw) rfl (rc_17_2 hw) ?_
    refine S_iload_n (kk := 1) g dX5_findCone_28 rfl rfl ?_
    refine S_iaload g dX5_findCone_29 (at_23 hw) ?_
    refine S_nmI (fun v2 => ?_)
    refine S_istore_n g dX5_findCone_30 rfl (by decide) rfl ?_
    refine S_aload_n (kk := 1) g dX5_findCone_31 rfl rfl ?_
    refine S_getr g dX5_findCone_32 fl_Mender_34 (at_40 hw) rfl (rc_40_0 hw) ?_
    refine S_getr g dX5_findCone_35 fl_Mender_106 (at_17 hw) rfl (rc_17_3 hw) ?_
    refine S_iload_n (kk := 0) g dX5_findCone_38 rfl rfl ?_
    refine S_laload g dX5_findCone_39 (at_24 hw) ?_
    refine S_aload_n (kk := 1) g dX5_findCone_40 rfl rfl ?_
    refine S_getj g dX5_findCone_41 fl_Mender_61 (at_40 hw) rfl ?_
    refine S_land g dX5_findCone_44 ?_
    refine S_lconst (x := 0) g dX5_findCone_45 ⟨by decide, by decide⟩ rfl ?_
    refine S_lcmp g dX5_findCone_46 ?_
    refine S_if_eq (tgt := 83) g dX5_findCone_47 (by decide) ?_ ?_
    · refine S_sub g [1, 2] rfl ?_
      exact sX5_findCone_p83 hw g self7 hs7 _ _
    · refine S_aload_n (kk := 1) g dX5_findCone_50 rfl rfl ?_
      refine S_getj g dX5_findCone_51 fl_Mender_61 (at_40 hw) rfl ?_
      refine S_iload_n (kk := 0) g dX5_findCone_54 rfl rfl ?_
      refine S_lshr g dX5_findCone_55 ?_
      refine S_lconst (x := 1) g dX5_findCone_56 ⟨by decide, by decide⟩ rfl ?_
      refine S_land g dX5_findCone_57 ?_
      refine S_lconst (x := 0) g dX5_findCone_58 ⟨by decide, by decide⟩ rfl ?_
      refine S_lcmp g dX5_findCone_59 ?_
      refine S_if_ne (tgt := 83) g dX5_findCone_60 (by decide) ?_ ?_
      · refine S_sub g [1, 2] rfl ?_
        exact sX5_findCone_p83 hw g self7 hs7 _ _
      · refine S_aload_n (kk := 1) g dX5_findCone_63 rfl rfl ?_
        refine S_getr g dX5_findCone_64 fl_Mender_22 (at_40 hw) rfl (rc_40_7 hw) ?_
        refine S_aload_n (kk := 1) g dX5_findCone_67 rfl rfl ?_
        refine S_geti g dX5_findCone_68 fl_Mender_97 (at_40 hw) (Or.inl rfl) ?_
        refine S_iload_n (kk := 0) g dX5_findCone_71 rfl rfl ?_
        refine S_iastore g dX5_findCone_72 (at_43 hw) (fun h3 => ?_)
        refine S_aload_n (kk := 1) g dX5_findCone_73 rfl rfl ?_
        refine S_dup g dX5_findCone_74 rfl ?_
        refine S_geti g dX5_findCone_75 fl_Mender_97 (at_40 hw) (Or.inl rfl) ?_
        refine S_iconst g dX5_findCone_78 ⟨by decide, by decide⟩ ?_
        refine S_iadd g dX5_findCone_79 ?_
        refine S_puti g dX5_findCone_80 fp_Mender_97 (at_40 hw) rfl (fun h4 => ?_)
        refine S_sub g [1, 2] rfl ?_
        exact sX5_findCone_p83 hw g self7 hs7 _ _

theorem sX5_findCone {G : GG} {w : Wd} (hw : okX w)  (h : Hp) : SC G w yX5_findCone (Cond.code yX5_findCone cX5_findCone 3 (Option.none : Option Jvm.ClassFile.FieldType)) 1 3 [vP 40] (XX5_findCone  h) h := by
  refine SC_of (own := "GatePatch$Mender") plain_Mender rfl (Nat.le_of_ble_eq_true rfl) (fun Γ hG g => ?_)
  subst hG
  show Sim Γ w 3 _ h 0 [(0, vP 40)] []
  unfold XX5_findCone
  refine S_aload_n (kk := 0) g dX5_findCone_0 rfl rfl ?_
  refine S_iconst g dX5_findCone_1 ⟨by decide, by decide⟩ ?_
  refine S_puti g dX5_findCone_2 fp_Mender_97 (at_40 hw) rfl (fun h1 => ?_)
  refine S_iconst g dX5_findCone_5 ⟨by decide, by decide⟩ ?_
  refine S_istore_n g dX5_findCone_6 rfl (by decide) rfl ?_
  refine S_sub g [1, 0] rfl ?_
  exact sX5_findCone_L7 hw g _ _

def XX5_load_b43   (self43 : Int → Int → Hp → OR) (l1 l2 : Int) (h : Hp) : OR :=
  cal (XX8_seenCount 28 h) (fun r3 h4 => if r3 ≤ l2 then cal (XX5_findCone h4) (fun r5 h6 => some (0, h6)) else inb l2 6 (chk (4 * (h4 31 l2.toNat)) (chk ((4 * (h4 31 l2.toNat)) + l1) (inb ((4 * (h4 31 l2.toNat)) + l1) 192 (inb l2 6 (hm (wr h4 203 l2.toNat (h4 35 ((4 * (h4 31 l2.toNat)) + l1).toNat)) (fun h7 => chk (l2 + 1) (self43 l1 (l2 + 1) h7))))))))
def XX5_load_L43   (l1 l2 : Int) (h : Hp) : OR := lup2 (XX5_load_b43 ) FU l1 l2 h
def XX5_load_b2   (self2 : Int → Int → Hp → OR) (l1 l2 : Int) (h : Hp) : OR :=
  cal (XX8_wires 18 h) (fun r1 h2 => if r1 ≤ l2 then XX5_load_L43 l1 0 h2 else chk (4 * l2) (chk ((4 * l2) + l1) (inb ((4 * l2) + l1) 192 (inb l2 48 (hm (wr h2 42 l2.toNat (h2 25 ((4 * l2) + l1).toNat)) (fun h8 => chk (l2 + 1) (self2 l1 (l2 + 1) h8)))))))
def XX5_load_L2   (l1 l2 : Int) (h : Hp) : OR := lup2 (XX5_load_b2 ) FU l1 l2 h
def XX5_load (x0 : Int) (h : Hp) : OR :=
  XX5_load_L2 x0 0 h
theorem sX5_load_L43 {Γ : Cx} {w : Wd} (hw : okX w) (g : Gd Γ cX5_load 3 "GatePatch$Mender" (Option.none : Option Jvm.ClassFile.FieldType) (rmd 2))   : ∀ (l1 l2 : Int) (h : Hp), Sim Γ w 3 (XX5_load_L43  l1 l2 h) h 43 [(0, vP 40), (1, vI l1), (2, vI l2)] [] := by
  refine S_lup2 (fun l1 l2 => [(0, vP 40), (1, vI l1), (2, vI l2)]) (fun self43 hs43 l1 l2 h => ?_) FU
  unfold XX5_load_b43
  refine S_iload_n (kk := 2) g dX5_load_43 rfl rfl ?_
  refine S_aload_n (kk := 0) g dX5_load_44 rfl rfl ?_
  refine S_getr g dX5_load_45 fl_Mender_38 (at_40 hw) rfl (rc_40_1 hw) ?_
  refine S_getr g dX5_load_48 fl_Mender_45 (at_27 hw) rfl (rc_27_0 hw) ?_
  refine S_callVi (As := []) g dX5_load_51 (sX8_seenCount hw 28 (pl_28 hw) _) rfl (at_28 hw) rfl im_X8_seenCount se_X8_seenCount cw_X8_seenCount ml_Mender_65 ini_Plan nd_X8_seenCount ⟨by decide, by decide⟩ (Nat.le_of_ble_eq_true rfl) (fun r3 h4 => ?_)
  refine S_icmp_ge (tgt := 93) g dX5_load_54 (by decide) ?_ ?_
  · refine S_aload_n (kk := 0) g dX5_load_93 rfl rfl ?_
    refine S_callVv (As := []) g dX5_load_94 (sX5_findCone hw  _) rfl (at_40 hw) rfl im_X5_findCone se_X5_findCone cw_X5_findCone ml_Mender_94 ini_Mender nd_X5_findCone ⟨by decide, by decide⟩ (Nat.le_of_ble_eq_true rfl) (fun r5 h6 => ?_)
    exact S_return g dX5_load_97 rfl
  · refine S_aload_n (kk := 0) g dX5_load_57 rfl rfl ?_
    refine S_getr g dX5_load_58 fl_Mender_19 (at_40 hw) rfl (rc_40_9 hw) ?_
    refine S_iload_n (kk := 2) g dX5_load_61 rfl rfl ?_
    refine S_aload_n (kk := 0) g dX5_load_62 rfl rfl ?_
    refine S_getr g dX5_load_63 fl_Mender_38 (at_40 hw) rfl (rc_40_1 hw) ?_
    refine S_getr g dX5_load_66 fl_Mender_69 (at_27 hw) rfl (rc_27_4 hw) ?_
    refine S_iconst g dX5_load_69 ⟨by decide, by decide⟩ ?_
    refine S_aload_n (kk := 0) g dX5_load_70 rfl rfl ?_
    refine S_getr g dX5_load_71 fl_Mender_38 (at_40 hw) rfl (rc_40_1 hw) ?_
    refine S_getr g dX5_load_74 fl_Mender_45 (at_27 hw) rfl (rc_27_0 hw) ?_
    refine S_getr g dX5_load_77 fl_Mender_72 (at_28 hw) rfl (rc_28_6 hw) ?_
    refine S_iload_n (kk := 2) g dX5_load_80 rfl rfl ?_
    refine S_iaload g dX5_load_81 (at_31 hw) ?_
    refine S_imul g dX5_load_82 ?_
    refine S_iload_n (kk := 1) g dX5_load_83 rfl rfl ?_
    refine S_iadd g dX5_load_84 ?_
    refine S_laload g dX5_load_85 (at_35 hw) ?_
    refine S_lastore g dX5_load_86 (at_203 hw) (fun h7 => ?_)
    refine S_iinc (kk := 2) g dX5_load_87 rfl (by decide) rfl ?_
    refine S_goto (tgt := 43) g dX5_load_90 (by decide) ?_
    refine S_sub g [1, 2, 0] rfl ?_
    exact hs43 _ _ _

theorem sX5_load_L2 {Γ : Cx} {w : Wd} (hw : okX w) (g : Gd Γ cX5_load 3 "GatePatch$Mender" (Option.none : Option Jvm.ClassFile.FieldType) (rmd 2))   : ∀ (l1 l2 : Int) (h : Hp), Sim Γ w 3 (XX5_load_L2  l1 l2 h) h 2 [(0, vP 40), (1, vI l1), (2, vI l2)] [] := by
  refine S_lup2 (fun l1 l2 => [(0, vP 40), (1, vI l1), (2, vI l2)]) (fun self2 hs2 l1 l2 h => ?_) FU
  unfold XX5_load_b2
  refine S_iload_n (kk := 2) g dX5_load_2 rfl rfl ?_
  refine S_aload_n (kk := 0) g dX5_load_3 rfl rfl ?_
  refine S_getr g dX5_load_4 fl_Mender_34 (at_40 hw) rfl (rc_40_0 hw) ?_
  refine S_getr g dX5_load_7 fl_Mender_45 (at_17 hw) rfl (rc_17_0 hw) ?_
  refine S_callVi (As := []) g dX5_load_10 (sX8_wires hw 18 (pl_18 hw) _) rfl (at_18 hw) rfl im_X8_wires se_X8_wires cw_X8_wires ml_Mender_91 ini_Plan nd_X8_wires ⟨by decide, by decide⟩ (Nat.le_of_ble_eq_true rfl) (fun r1 h2 => ?_)
  refine S_icmp_ge (tgt := 41) g dX5_load_13 (by decide) ?_ ?_
  · refine S_iconst g dX5_load_41 ⟨by decide, by decide⟩ ?_
    refine S_istore_n g dX5_load_42 rfl (by decide) rfl ?_
    refine S_sub g [1, 2, 0] rfl ?_
    exact sX5_load_L43 hw g _ _ _
  · refine S_aload_n (kk := 0) g dX5_load_16 rfl rfl ?_
    refine S_getr g dX5_load_17 fl_Mender_15 (at_40 hw) rfl (rc_40_6 hw) ?_
    refine S_iload_n (kk := 2) g dX5_load_20 rfl rfl ?_
    refine S_aload_n (kk := 0) g dX5_load_21 rfl rfl ?_
    refine S_getr g dX5_load_22 fl_Mender_34 (at_40 hw) rfl (rc_40_0 hw) ?_
    refine S_getr g dX5_load_25 fl_Mender_69 (at_17 hw) rfl (rc_17_4 hw) ?_
    refine S_iconst g dX5_load_28 ⟨by decide, by decide⟩ ?_
    refine S_iload_n (kk := 2) g dX5_load_29 rfl rfl ?_
    refine S_imul g dX5_load_30 ?_
    refine S_iload_n (kk := 1) g dX5_load_31 rfl rfl ?_
    refine S_iadd g dX5_load_32 ?_
    refine S_laload g dX5_load_33 (at_25 hw) ?_
    refine S_lastore g dX5_load_34 (at_42 hw) (fun h8 => ?_)
    refine S_iinc (kk := 2) g dX5_load_35 rfl (by decide) rfl ?_
    refine S_goto (tgt := 2) g dX5_load_38 (by decide) ?_
    refine S_sub g [1, 2, 0] rfl ?_
    exact hs2 _ _ _

theorem sX5_load {G : GG} {w : Wd} (hw : okX w) (x0 : Int) (h : Hp) : SC G w yX5_load (Cond.code yX5_load cX5_load 3 (Option.none : Option Jvm.ClassFile.FieldType)) 2 3 [vP 40, vI x0] (XX5_load x0 h) h := by
  refine SC_of (own := "GatePatch$Mender") plain_Mender rfl (Nat.le_of_ble_eq_true rfl) (fun Γ hG g => ?_)
  subst hG
  show Sim Γ w 3 _ h 0 [(0, vP 40), (1, vI x0)] []
  unfold XX5_load
  refine S_iconst g dX5_load_0 ⟨by decide, by decide⟩ ?_
  refine S_istore_n g dX5_load_1 rfl (by decide) rfl ?_
  refine S_sub g [1, 2, 0] rfl ?_
  exact sX5_load_L2 hw g _ _ _

def XX5_pinNow (x0 : Int) (x1 : Int) (h : Hp) : OR :=
  chk (3 * x0) (chk ((3 * x0) + x1) (inb ((3 * x0) + x1) 144 (nm (h 20 ((3 * x0) + x1).toNat) (fun v1 => if 0 ≤ v1 then inb v1 48 (some ((h 42 v1.toNat), h)) else some (0, h)))))
theorem sX5_pinNow {G : GG} {w : Wd} (hw : okX w) (x0 : Int) (x1 : Int) (h : Hp) : SC G w yX5_pinNow (Cond.code yX5_pinNow cX5_pinNow 4 (Option.some Jvm.ClassFile.FieldType.long)) 1 1 [vP 40, vI x0, vI x1] (XX5_pinNow x0 x1 h) h := by
  refine SC_of (own := "GatePatch$Mender") plain_Mender rfl (Nat.le_of_ble_eq_true rfl) (fun Γ hG g => ?_)
  subst hG
  show Sim Γ w 1 _ h 0 [(0, vP 40), (1, vI x0), (2, vI x1)] []
  unfold XX5_pinNow
  refine S_aload_n (kk := 0) g dX5_pinNow_0 rfl rfl ?_
  refine S_getr g dX5_pinNow_1 fl_Mender_34 (at_40 hw) rfl (rc_40_0 hw) ?_
  refine S_getr g dX5_pinNow_4 fl_Mender_45 (at_17 hw) rfl (rc_17_0 hw) ?_
  refine S_getr g dX5_pinNow_7 fl_Mender_126 (at_18 hw) rfl (rc_18_5 hw) ?_
  refine S_iconst g dX5_pinNow_10 ⟨by decide, by decide⟩ ?_
  refine S_iload_n (kk := 1) g dX5_pinNow_11 rfl rfl ?_
  refine S_imul g dX5_pinNow_12 ?_
  refine S_iload_n (kk := 2) g dX5_pinNow_13 rfl rfl ?_
  refine S_iadd g dX5_pinNow_14 ?_
  refine S_iaload g dX5_pinNow_15 (at_20 hw) ?_
  refine S_nmI (fun v1 => ?_)
  refine S_istore_n g dX5_pinNow_16 rfl (by decide) rfl ?_
  refine S_iload_n (kk := 0) g dX5_pinNow_17 rfl rfl ?_
  refine S_if_ge (tgt := 25) g dX5_pinNow_18 (by decide) ?_ ?_
  · refine S_aload_n (kk := 1) g dX5_pinNow_25 rfl rfl ?_
    refine S_getr g dX5_pinNow_26 fl_Mender_15 (at_40 hw) rfl (rc_40_6 hw) ?_
    refine S_iload_n (kk := 0) g dX5_pinNow_29 rfl rfl ?_
    refine S_laload g dX5_pinNow_30 (at_42 hw) ?_
    exact S_lreturn g dX5_pinNow_31 rfl
  · refine S_lconst (x := 0) g dX5_pinNow_21 ⟨by decide, by decide⟩ rfl ?_
    refine S_goto (tgt := 31) g dX5_pinNow_22 (by decide) ?_
    exact S_lreturn g dX5_pinNow_31 rfl

def XX5_matching_b68   (self68 : Int → Int → Hp → OR) (l1 l3 : Int) (h : Hp) : OR :=
  cal (XX8_seenCount 18 h) (fun r1 h2 => if r1 ≤ l3 then some (l1, h2) else inb l3 6 (inb (h2 21 l3.toNat) 48 (inb l3 6 (nm (jand l1 (jxor (jxor (h2 42 (h2 21 l3.toNat).toNat) (h2 203 l3.toNat)) (-1))) (fun v3 => chk (l3 + 1) (self68 v3 (l3 + 1) h2))))))
def XX5_matching_L68   (l1 l3 : Int) (h : Hp) : OR := lup2 (XX5_matching_b68 ) FU l1 l3 h
def XX5_matching_b2   (self2 : Int → Hp → OR) (l1 : Int) (h : Hp) : OR :=
  if (h 40 8) ≤ l1 then XX5_matching_L68 (-1) 0 h else inb l1 40 (nm (h 43 l1.toNat) (fun v4 => inb v4 48 (cal (XX5_pinNow v4 0 h) (fun r5 h6 => cal (XX5_pinNow v4 1 h6) (fun r7 h8 => cal (XX5_pinNow v4 2 h8) (fun r9 h10 => cal (XX6_made (h 19 v4.toNat) r5 r7 r9 h10) (fun r11 h12 => inb v4 48 (hm (wr h12 42 v4.toNat r11) (fun h13 => chk (l1 + 1) (self2 (l1 + 1) h13))))))))))
def XX5_matching_L2   (l1 : Int) (h : Hp) : OR := lup1 (XX5_matching_b2 ) FU l1 h
def XX5_matching  (h : Hp) : OR :=
  XX5_matching_L2 0 h
theorem sX5_matching_L68 {Γ : Cx} {w : Wd} (hw : okX w) (g : Gd Γ cX5_matching 4 "GatePatch$Mender" (Option.some Jvm.ClassFile.FieldType.long) (rmd 2))   : ∀ (l1 l3 : Int) (h : Hp), Sim Γ w 1 (XX5_matching_L68  l1 l3 h) h 68 [(0, vP 40), (1, vJ l1), (3, vI l3)] [] := by
  refine S_lup2 (fun l1 l3 => [(0, vP 40), (1, vJ l1), (3, vI l3)]) (fun self68 hs68 l1 l3 h => ?_) FU
  unfold XX5_matching_b68
  refine S_iload_n (kk := 2) g dX5_matching_68 rfl rfl ?_
  refine S_aload_n (kk := 0) g dX5_matching_69 rfl rfl ?_
  refine S_getr g dX5_matching_70 fl_Mender_34 (at_40 hw) rfl (rc_40_0 hw) ?_
  refine S_getr g dX5_matching_73 fl_Mender_45 (at_17 hw) rfl (rc_17_0 hw) ?_
  refine S_callVi (As := []) g dX5_matching_76 (sX8_seenCount hw 18 (pl_18 hw) _) rfl (at_18 hw) rfl im_X8_seenCount se_X8_seenCount cw_X8_seenCount ml_Mender_65 ini_Plan nd_X8_seenCount ⟨by decide, by decide⟩ (Nat.le_of_ble_eq_true rfl) (fun r1 h2 => ?_)
  refine S_icmp_ge (tgt := 119) g dX5_matching_79 (by decide) ?_ ?_
  · refine S_lload_n (kk := 1) g dX5_matching_119 rfl rfl ?_
    exact S_lreturn g dX5_matching_120 rfl
  · refine S_lload_n (kk := 1) g dX5_matching_82 rfl rfl ?_
    refine S_aload_n (kk := 0) g dX5_matching_83 rfl rfl ?_
    refine S_getr g dX5_matching_84 fl_Mender_15 (at_40 hw) rfl (rc_40_6 hw) ?_
    refine S_aload_n (kk := 0) g dX5_matching_87 rfl rfl ?_
    refine S_getr g dX5_matching_88 fl_Mender_34 (at_40 hw) rfl (rc_40_0 hw) ?_
    refine S_getr g dX5_matching_91 fl_Mender_45 (at_17 hw) rfl (rc_17_0 hw) ?_
    refine S_getr g dX5_matching_94 fl_Mender_72 (at_18 hw) rfl (rc_18_6 hw) ?_
    refine S_iload_n (kk := 2) g dX5_matching_97 rfl rfl ?_
    refine S_iaload g dX5_matching_98 (at_21 hw) ?_
    refine S_laload g dX5_matching_99 (at_42 hw) ?_
    refine S_aload_n (kk := 0) g dX5_matching_100 rfl rfl ?_
    refine S_getr g dX5_matching_101 fl_Mender_19 (at_40 hw) rfl (rc_40_9 hw) ?_
    refine S_iload_n (kk := 2) g dX5_matching_104 rfl rfl ?_
    refine S_laload g dX5_matching_105 (at_203 hw) ?_
    refine S_lxor g dX5_matching_106 ?_
    refine S_ldc2 g dX5_matching_107 ⟨by decide, by decide⟩ k_Mender_109 ?_
    refine S_lxor g dX5_matching_110 ?_
    refine S_land g dX5_matching_111 ?_
    refine S_nmJ (fun v3 => ?_)
    refine S_lstore_n g dX5_matching_112 rfl (by decide) rfl ?_
    refine S_iinc (kk := 2) g dX5_matching_113 rfl (by decide) rfl ?_
    refine S_goto (tgt := 68) g dX5_matching_116 (by decide) ?_
    refine S_sub g [2, 1, 0] rfl ?_
    exact hs68 _ _ _

theorem sX5_matching_L2 {Γ : Cx} {w : Wd} (hw : okX w) (g : Gd Γ cX5_matching 4 "GatePatch$Mender" (Option.some Jvm.ClassFile.FieldType.long) (rmd 2))   : ∀ (l1 : Int) (h : Hp), Sim Γ w 1 (XX5_matching_L2  l1 h) h 2 [(0, vP 40), (1, vI l1)] [] := by
  refine S_lup1 (fun l1 => [(0, vP 40), (1, vI l1)]) (fun self2 hs2 l1 h => ?_) FU
  unfold XX5_matching_b2
  refine S_iload_n (kk := 1) g dX5_matching_2 rfl rfl ?_
  refine S_aload_n (kk := 0) g dX5_matching_3 rfl rfl ?_
  refine S_geti g dX5_matching_4 fl_Mender_97 (at_40 hw) (Or.inl rfl) ?_
  refine S_icmp_ge (tgt := 62) g dX5_matching_7 (by decide) ?_ ?_
  · refine S_ldc2 g dX5_matching_62 ⟨by decide, by decide⟩ k_Mender_109 ?_
    refine S_lstore_n g dX5_matching_65 rfl (by decide) rfl ?_
    refine S_iconst g dX5_matching_66 ⟨by decide, by decide⟩ ?_
    refine S_istore_n g dX5_matching_67 rfl (by decide) rfl ?_
    refine S_sub g [2, 1, 0] rfl ?_
    exact sX5_matching_L68 hw g _ _ _
  · refine S_aload_n (kk := 0) g dX5_matching_10 rfl rfl ?_
    refine S_getr g dX5_matching_11 fl_Mender_22 (at_40 hw) rfl (rc_40_7 hw) ?_
    refine S_iload_n (kk := 1) g dX5_matching_14 rfl rfl ?_
    refine S_iaload g dX5_matching_15 (at_43 hw) ?_
    refine S_nmI (fun v4 => ?_)
    refine S_istore_n g dX5_matching_16 rfl (by decide) rfl ?_
    refine S_aload_n (kk := 1) g dX5_matching_17 rfl rfl ?_
    refine S_getr g dX5_matching_18 fl_Mender_15 (at_40 hw) rfl (rc_40_6 hw) ?_
    refine S_iload_n (kk := 0) g dX5_matching_21 rfl rfl ?_
    refine S_aload_n (kk := 1) g dX5_matching_22 rfl rfl ?_
    refine S_getr g dX5_matching_23 fl_Mender_34 (at_40 hw) rfl (rc_40_0 hw) ?_
    refine S_getr g dX5_matching_26 fl_Mender_45 (at_17 hw) rfl (rc_17_0 hw) ?_
    refine S_getr g dX5_matching_29 fl_Mender_115 (at_18 hw) rfl (rc_18_4 hw) ?_
    refine S_iload_n (kk := 0) g dX5_matching_32 rfl rfl ?_
    refine S_iaload g dX5_matching_33 (at_19 hw) ?_
    refine S_aload_n (kk := 1) g dX5_matching_34 rfl rfl ?_
    refine S_iload_n (kk := 0) g dX5_matching_35 rfl rfl ?_
    refine S_iconst g dX5_matching_36 ⟨by decide, by decide⟩ ?_
    refine S_callVj (As := [vI v4, vI 0]) g dX5_matching_37 (sX5_pinNow hw _ _ _) rfl (at_40 hw) rfl im_X5_pinNow se_X5_pinNow cw_X5_pinNow ml_Mender_118 ini_Mender nd_X5_pinNow ⟨by decide, by decide⟩ (Nat.le_of_ble_eq_true rfl) (fun r5 h6 => ?_)
    refine S_aload_n (kk := 1) g dX5_matching_40 rfl rfl ?_
    refine S_iload_n (kk := 0) g dX5_matching_41 rfl rfl ?_
    refine S_iconst g dX5_matching_42 ⟨by decide, by decide⟩ ?_
    refine S_callVj (As := [vI v4, vI 1]) g dX5_matching_43 (sX5_pinNow hw _ _ _) rfl (at_40 hw) rfl im_X5_pinNow se_X5_pinNow cw_X5_pinNow ml_Mender_118 ini_Mender nd_X5_pinNow ⟨by decide, by decide⟩ (Nat.le_of_ble_eq_true rfl) (fun r7 h8 => ?_)
    refine S_aload_n (kk := 1) g dX5_matching_46 rfl rfl ?_
    refine S_iload_n (kk := 0) g dX5_matching_47 rfl rfl ?_
    refine S_iconst g dX5_matching_48 ⟨by decide, by decide⟩ ?_
    refine S_callVj (As := [vI v4, vI 2]) g dX5_matching_49 (sX5_pinNow hw _ _ _) rfl (at_40 hw) rfl im_X5_pinNow se_X5_pinNow cw_X5_pinNow ml_Mender_118 ini_Mender nd_X5_pinNow ⟨by decide, by decide⟩ (Nat.le_of_ble_eq_true rfl) (fun r9 h10 => ?_)
    refine S_callSj (As := [vI (h 19 v4.toNat), vJ r5, vJ r7, vJ r9]) g dX5_matching_52 (sX6_made hw _ _ _ _ _) rfl st_X6_made cw_X6_made ml_Mender_122 ini_Net nd_X6_made ⟨by decide, by decide⟩ (Nat.le_of_ble_eq_true rfl) (fun r11 h12 => ?_)
    refine S_lastore g dX5_matching_55 (at_42 hw) (fun h13 => ?_)
    refine S_iinc (kk := 2) g dX5_matching_56 rfl (by decide) rfl ?_
    refine S_goto (tgt := 2) g dX5_matching_59 (by decide) ?_
    refine S_sub g [2, 0] rfl ?_
    exact hs2 _ _

theorem sX5_matching {G : GG} {w : Wd} (hw : okX w)  (h : Hp) : SC G w yX5_matching (Cond.code yX5_matching cX5_matching 4 (Option.some Jvm.ClassFile.FieldType.long)) 2 1 [vP 40] (XX5_matching  h) h := by
  refine SC_of (own := "GatePatch$Mender") plain_Mender rfl (Nat.le_of_ble_eq_true rfl) (fun Γ hG g => ?_)
  subst hG
  show Sim Γ w 1 _ h 0 [(0, vP 40)] []
  unfold XX5_matching
  refine S_iconst g dX5_matching_0 ⟨by decide, by decide⟩ ?_
  refine S_istore_n g dX5_matching_1 rfl (by decide) rfl ?_
  refine S_sub g [1, 0] rfl ?_
  exact sX5_matching_L2 hw g _ _

def XX5_mended_p36  (self2 : Int → Int → Hp → OR) (l1 l2 : Int) (s1 s2 : Int) (h : Hp) : OR :=
  inb s1 48 (hm (wr h 42 s1.toNat s2) (fun h3 => chk (l2 + 1) (self2 l1 (l2 + 1) h3)))
def XX5_mended_b2   (self2 : Int → Int → Hp → OR) (l1 l2 : Int) (h : Hp) : OR :=
  if (h 40 4) ≤ l2 then cal (XX5_matching h) (fun r1 h2 => some (r1, h2)) else inb l2 3 (if (aand (ashr l1 l2) 1) = 1 then XX5_mended_p36 self2 l1 l2 (h 41 l2.toNat) (-1) h else XX5_mended_p36 self2 l1 l2 (h 41 l2.toNat) 0 h)
def XX5_mended_L2   (l1 l2 : Int) (h : Hp) : OR := lup2 (XX5_mended_b2 ) FU l1 l2 h
def XX5_mended (x0 : Int) (h : Hp) : OR :=
  XX5_mended_L2 x0 0 h
theorem sX5_mended_p36 {Γ : Cx} {w : Wd} (hw : okX w) (g : Gd Γ cX5_mended 3 "GatePatch$Mender" (Option.some Jvm.ClassFile.FieldType.long) (rmd 3))  (self2 : Int → Int → Hp → OR) (hs2 : ∀ (x0 x1 : Int) (h : Hp), Sim Γ w 1 (self2 x0 x1 h) h 2 [(0, vP 40), (1, vI x0), (2, vI x1)] []) (l1 l2 : Int) (s1 s2 : Int) (h : Hp) : Sim Γ w 1 (XX5_mended_p36 self2 l1 l2 s1 s2 h) h 36 [(0, vP 40), (1, vI l1), (2, vI l2)] [vJ s2, vI s1, vP 42] := by
  unfold XX5_mended_p36
  refine S_lastore g dX5_mended_36 (at_42 hw) (fun h3 => ?_)
  refine S_iinc (kk := 2) g dX5_mended_37 rfl (by decide) rfl ?_
  refine S_goto (tgt := 2) g dX5_mended_40 (by decide) ?_
  refine S_sub g [1, 2, 0] rfl ?_
  exact hs2 _ _ _

theorem sX5_mended_L2 {Γ : Cx} {w : Wd} (hw : okX w) (g : Gd Γ cX5_mended 3 "GatePatch$Mender" (Option.some Jvm.ClassFile.FieldType.long) (rmd 3))   : ∀ (l1 l2 : Int) (h : Hp), Sim Γ w 1 (XX5_mended_L2  l1 l2 h) h 2 [(0, vP 40), (1, vI l1), (2, vI l2)] [] := by
  refine S_lup2 (fun l1 l2 => [(0, vP 40), (1, vI l1), (2, vI l2)]) (fun self2 hs2 l1 l2 h => ?_) FU
  unfold XX5_mended_b2
  refine S_iload_n (kk := 2) g dX5_mended_2 rfl rfl ?_
  refine S_aload_n (kk := 0) g dX5_mended_3 rfl rfl ?_
  refine S_geti g dX5_mended_4 fl_Mender_57 (at_40 hw) (Or.inl rfl) ?_
  refine S_icmp_ge (tgt := 43) g dX5_mended_7 (by decide) ?_ ?_
  · refine S_aload_n (kk := 0) g dX5_mended_43 rfl rfl ?_
    refine S_callVj (As := []) g dX5_mended_44 (sX5_matching hw  _) rfl (at_40 hw) rfl im_X5_matching se_X5_matching cw_X5_matching ml_Mender_111 ini_Mender nd_X5_matching ⟨by decide, by decide⟩ (Nat.le_of_ble_eq_true rfl) (fun r1 h2 => ?_)
    exact S_lreturn g dX5_mended_47 rfl
  · refine S_aload_n (kk := 0) g dX5_mended_10 rfl rfl ?_
    refine S_getr g dX5_mended_11 fl_Mender_15 (at_40 hw) rfl (rc_40_6 hw) ?_
    refine S_aload_n (kk := 0) g dX5_mended_14 rfl rfl ?_
    refine S_getr g dX5_mended_15 fl_Mender_9 (at_40 hw) rfl (rc_40_3 hw) ?_
    refine S_iload_n (kk := 2) g dX5_mended_18 rfl rfl ?_
    refine S_iaload g dX5_mended_19 (at_41 hw) ?_
    refine S_iload_n (kk := 1) g dX5_mended_20 rfl rfl ?_
    refine S_iload_n (kk := 2) g dX5_mended_21 rfl rfl ?_
    refine S_ishr g dX5_mended_22 ?_
    refine S_iconst g dX5_mended_23 ⟨by decide, by decide⟩ ?_
    refine S_iand g dX5_mended_24 ?_
    refine S_iconst g dX5_mended_25 ⟨by decide, by decide⟩ ?_
    refine S_icmp_ne (tgt := 35) g dX5_mended_26 (by decide) ?_ ?_
    · refine S_lconst (x := 0) g dX5_mended_35 ⟨by decide, by decide⟩ rfl ?_
      exact sX5_mended_p36 hw g self2 hs2 _ _ _ _ _
    · refine S_ldc2 g dX5_mended_29 ⟨by decide, by decide⟩ k_Mender_109 ?_
      refine S_goto (tgt := 36) g dX5_mended_32 (by decide) ?_
      exact sX5_mended_p36 hw g self2 hs2 _ _ _ _ _

theorem sX5_mended {G : GG} {w : Wd} (hw : okX w) (x0 : Int) (h : Hp) : SC G w yX5_mended (Cond.code yX5_mended cX5_mended 3 (Option.some Jvm.ClassFile.FieldType.long)) 3 1 [vP 40, vI x0] (XX5_mended x0 h) h := by
  refine SC_of (own := "GatePatch$Mender") plain_Mender rfl (Nat.le_of_ble_eq_true rfl) (fun Γ hG g => ?_)
  subst hG
  show Sim Γ w 1 _ h 0 [(0, vP 40), (1, vI x0)] []
  unfold XX5_mended
  refine S_iconst g dX5_mended_0 ⟨by decide, by decide⟩ ?_
  refine S_istore_n g dX5_mended_1 rfl (by decide) rfl ?_
  refine S_sub g [1, 2, 0] rfl ?_
  exact sX5_mended_L2 hw g _ _ _

def XX5_unmended_b26   (self26 : Int → Int → Hp → OR) (l2 l4 : Int) (h : Hp) : OR :=
  cal (XX5_assignments h) (fun r4 h5 => if r4 ≤ l4 then some (l2, h5) else if (jcmp l2 0) = 0 then some (l2, h5) else cal (XX5_mended l4 h5) (fun r6 h7 => nm (jand l2 (jxor r6 (-1))) (fun v8 => chk (l4 + 1) (self26 v8 (l4 + 1) h7))))
def XX5_unmended_L26   (l2 l4 : Int) (h : Hp) : OR := lup2 (XX5_unmended_b26 ) FU l2 l4 h
def XX5_unmended (x0 : Int) (h : Hp) : OR :=
  inb x0 4 (nm (h 39 x0.toNat) (fun v1 => if (jcmp v1 0) = 0 then some (0, h) else cal (XX5_load x0 h) (fun r2 h3 => XX5_unmended_L26 v1 0 h3)))
theorem sX5_unmended_L26 {Γ : Cx} {w : Wd} (hw : okX w) (g : Gd Γ cX5_unmended 5 "GatePatch$Mender" (Option.some Jvm.ClassFile.FieldType.long) (rmd 4))   : ∀ (l2 l4 : Int) (h : Hp), Sim Γ w 1 (XX5_unmended_L26  l2 l4 h) h 26 [(0, vP 40), (2, vJ l2), (4, vI l4)] [] := by
  refine S_lup2 (fun l2 l4 => [(0, vP 40), (2, vJ l2), (4, vI l4)]) (fun self26 hs26 l2 l4 h => ?_) FU
  unfold XX5_unmended_b26
  refine S_iload (kk := 2) g dX5_unmended_26 rfl ?_
  refine S_aload_n (kk := 0) g dX5_unmended_28 rfl rfl ?_
  refine S_callVi (As := []) g dX5_unmended_29 (sX5_assignments hw  _) rfl (at_40 hw) rfl im_X5_assignments se_X5_assignments cw_X5_assignments ml_Mender_133 ini_Mender nd_X5_assignments ⟨by decide, by decide⟩ (Nat.le_of_ble_eq_true rfl) (fun r4 h5 => ?_)
  refine S_icmp_ge (tgt := 60) g dX5_unmended_32 (by decide) ?_ ?_
  · refine S_lload_n (kk := 1) g dX5_unmended_60 rfl rfl ?_
    exact S_lreturn g dX5_unmended_61 rfl
  · refine S_lload_n (kk := 1) g dX5_unmended_35 rfl rfl ?_
    refine S_lconst (x := 0) g dX5_unmended_36 ⟨by decide, by decide⟩ rfl ?_
    refine S_lcmp g dX5_unmended_37 ?_
    refine S_if_eq (tgt := 60) g dX5_unmended_38 (by decide) ?_ ?_
    · refine S_lload_n (kk := 1) g dX5_unmended_60 rfl rfl ?_
      exact S_lreturn g dX5_unmended_61 rfl
    · refine S_lload_n (kk := 1) g dX5_unmended_41 rfl rfl ?_
      refine S_aload_n (kk := 0) g dX5_unmended_42 rfl rfl ?_
      refine S_iload (kk := 2) g dX5_unmended_43 rfl ?_
      refine S_callVj (As := [vI l4]) g dX5_unmended_45 (sX5_mended hw _ _) rfl (at_40 hw) rfl im_X5_mended se_X5_mended cw_X5_mended ml_Mender_136 ini_Mender nd_X5_mended ⟨by decide, by decide⟩ (Nat.le_of_ble_eq_true rfl) (fun r6 h7 => ?_)
      refine S_ldc2 g dX5_unmended_48 ⟨by decide, by decide⟩ k_Mender_109 ?_
      refine S_lxor g dX5_unmended_51 ?_
      refine S_land g dX5_unmended_52 ?_
      refine S_nmJ (fun v8 => ?_)
      refine S_lstore_n g dX5_unmended_53 rfl (by decide) rfl ?_
      refine S_iinc (kk := 2) g dX5_unmended_54 rfl (by decide) rfl ?_
      refine S_goto (tgt := 26) g dX5_unmended_57 (by decide) ?_
      refine S_sub g [2, 1, 0] rfl ?_
      exact hs26 _ _ _

theorem sX5_unmended {G : GG} {w : Wd} (hw : okX w) (x0 : Int) (h : Hp) : SC G w yX5_unmended (Cond.code yX5_unmended cX5_unmended 5 (Option.some Jvm.ClassFile.FieldType.long)) 4 1 [vP 40, vI x0] (XX5_unmended x0 h) h := by
  refine SC_of (own := "GatePatch$Mender") plain_Mender rfl (Nat.le_of_ble_eq_true rfl) (fun Γ hG g => ?_)
  subst hG
  show Sim Γ w 1 _ h 0 [(0, vP 40), (1, vI x0)] []
  unfold XX5_unmended
  refine S_aload_n (kk := 0) g dX5_unmended_0 rfl rfl ?_
  refine S_getr g dX5_unmended_1 fl_Mender_41 (at_40 hw) rfl (rc_40_2 hw) ?_
  refine S_getr g dX5_unmended_4 fl_Mender_75 (at_37 hw) rfl (rc_37_3 hw) ?_
  refine S_iload_n (kk := 1) g dX5_unmended_7 rfl rfl ?_
  refine S_laload g dX5_unmended_8 (at_39 hw) ?_
  refine S_nmJ (fun v1 => ?_)
  refine S_lstore_n g dX5_unmended_9 rfl (by decide) rfl ?_
  refine S_lload_n (kk := 0) g dX5_unmended_10 rfl rfl ?_
  refine S_lconst (x := 0) g dX5_unmended_11 ⟨by decide, by decide⟩ rfl ?_
  refine S_lcmp g dX5_unmended_12 ?_
  refine S_if_ne (tgt := 18) g dX5_unmended_13 (by decide) ?_ ?_
  · refine S_aload_n (kk := 1) g dX5_unmended_18 rfl rfl ?_
    refine S_iload_n (kk := 2) g dX5_unmended_19 rfl rfl ?_
    refine S_callVv (As := [vI x0]) g dX5_unmended_20 (sX5_load hw _ _) rfl (at_40 hw) rfl im_X5_load se_X5_load cw_X5_load ml_Mender_129 ini_Mender nd_X5_load ⟨by decide, by decide⟩ (Nat.le_of_ble_eq_true rfl) (fun r2 h3 => ?_)
    refine S_iconst g dX5_unmended_23 ⟨by decide, by decide⟩ ?_
    refine S_istore g dX5_unmended_24 (by decide) rfl ?_
    refine S_sub g [2, 1, 0] rfl ?_
    exact sX5_unmended_L26 hw g _ _ _
  · refine S_lconst (x := 0) g dX5_unmended_16 ⟨by decide, by decide⟩ rfl ?_
    exact S_lreturn g dX5_unmended_17 rfl

def XX5_firstUnmended_b2   (self2 : Int → Hp → OR) (l1 : Int) (h : Hp) : OR :=
  if (h 37 1) ≤ l1 then some (1000, h) else cal (XX5_unmended l1 h) (fun r1 h2 => if (jcmp r1 0) = 0 then chk (l1 + 1) (self2 (l1 + 1) h2) else cal (XX0_lowest l1 r1 h2) (fun r3 h4 => some (r3, h4)))
def XX5_firstUnmended_L2   (l1 : Int) (h : Hp) : OR := lup1 (XX5_firstUnmended_b2 ) FU l1 h
def XX5_firstUnmended  (h : Hp) : OR :=
  XX5_firstUnmended_L2 0 h
theorem sX5_firstUnmended_L2 {Γ : Cx} {w : Wd} (hw : okX w) (g : Gd Γ cX5_firstUnmended 4 "GatePatch$Mender" (Option.some Jvm.ClassFile.FieldType.int) (rmd 5))   : ∀ (l1 : Int) (h : Hp), Sim Γ w 0 (XX5_firstUnmended_L2  l1 h) h 2 [(0, vP 40), (1, vI l1)] [] := by
  refine S_lup1 (fun l1 => [(0, vP 40), (1, vI l1)]) (fun self2 hs2 l1 h => ?_) FU
  unfold XX5_firstUnmended_b2
  refine S_iload_n (kk := 1) g dX5_firstUnmended_2 rfl rfl ?_
  refine S_aload_n (kk := 0) g dX5_firstUnmended_3 rfl rfl ?_
  refine S_getr g dX5_firstUnmended_4 fl_Mender_41 (at_40 hw) rfl (rc_40_2 hw) ?_
  refine S_geti g dX5_firstUnmended_7 fl_Mender_80 (at_37 hw) (Or.inl rfl) ?_
  refine S_icmp_ge (tgt := 37) g dX5_firstUnmended_10 (by decide) ?_ ?_
  · refine S_sipush g dX5_firstUnmended_37 ⟨by decide, by decide⟩ rfl ?_
    exact S_ireturn g dX5_firstUnmended_40 rfl
  · refine S_aload_n (kk := 0) g dX5_firstUnmended_13 rfl rfl ?_
    refine S_iload_n (kk := 1) g dX5_firstUnmended_14 rfl rfl ?_
    refine S_callVj (As := [vI l1]) g dX5_firstUnmended_15 (sX5_unmended hw _ _) rfl (at_40 hw) rfl im_X5_unmended se_X5_unmended cw_X5_unmended ml_Mender_139 ini_Mender nd_X5_unmended ⟨by decide, by decide⟩ (Nat.le_of_ble_eq_true rfl) (fun r1 h2 => ?_)
    refine S_lstore_n g dX5_firstUnmended_18 rfl (by decide) rfl ?_
    refine S_lload_n (kk := 0) g dX5_firstUnmended_19 rfl rfl ?_
    refine S_lconst (x := 0) g dX5_firstUnmended_20 ⟨by decide, by decide⟩ rfl ?_
    refine S_lcmp g dX5_firstUnmended_21 ?_
    refine S_if_eq (tgt := 31) g dX5_firstUnmended_22 (by decide) ?_ ?_
    · refine S_iinc (kk := 2) g dX5_firstUnmended_31 rfl (by decide) rfl ?_
      refine S_goto (tgt := 2) g dX5_firstUnmended_34 (by decide) ?_
      refine S_sub g [2, 0] rfl ?_
      exact hs2 _ _
    · refine S_iload_n (kk := 2) g dX5_firstUnmended_25 rfl rfl ?_
      refine S_lload_n (kk := 0) g dX5_firstUnmended_26 rfl rfl ?_
      refine S_callSi (As := [vI l1, vJ r1]) g dX5_firstUnmended_27 (sX0_lowest hw _ _ _) rfl st_X0_lowest cw_X0_lowest ml_Mender_87 ini_Cases nd_X0_lowest ⟨by decide, by decide⟩ (Nat.le_of_ble_eq_true rfl) (fun r3 h4 => ?_)
      exact S_ireturn g dX5_firstUnmended_30 rfl

theorem sX5_firstUnmended {G : GG} {w : Wd} (hw : okX w)  (h : Hp) : SC G w yX5_firstUnmended (Cond.code yX5_firstUnmended cX5_firstUnmended 4 (Option.some Jvm.ClassFile.FieldType.int)) 5 0 [vP 40] (XX5_firstUnmended  h) h := by
  refine SC_of (own := "GatePatch$Mender") plain_Mender rfl (Nat.le_of_ble_eq_true rfl) (fun Γ hG g => ?_)
  subst hG
  show Sim Γ w 0 _ h 0 [(0, vP 40)] []
  unfold XX5_firstUnmended
  refine S_iconst g dX5_firstUnmended_0 ⟨by decide, by decide⟩ ?_
  refine S_istore_n g dX5_firstUnmended_1 rfl (by decide) rfl ?_
  refine S_sub g [1, 0] rfl ?_
  exact sX5_firstUnmended_L2 hw g _ _

def XX5_leastMending_b10   (self10 : Int → Int → Hp → OR) (l1 l2 : Int) (h : Hp) : OR :=
  cal (XX5_assignments h) (fun r3 h4 => if r3 ≤ l2 then some ((-4), h4) else cal (XX5_mended l2 h4) (fun r5 h6 => chk (l1 - l1.tdiv 64 * 64) (if (jcmp (jand (jshr r5 (l1 - l1.tdiv 64 * 64)) 1) 1) = 0 then some (l2, h6) else chk (l2 + 1) (self10 l1 (l2 + 1) h6))))
def XX5_leastMending_L10   (l1 l2 : Int) (h : Hp) : OR := lup2 (XX5_leastMending_b10 ) FU l1 l2 h
def XX5_leastMending (x0 : Int) (h : Hp) : OR :=
  chk (x0.tdiv 64) (cal (XX5_load (x0.tdiv 64) h) (fun r1 h2 => XX5_leastMending_L10 x0 0 h2))
theorem sX5_leastMending_L10 {Γ : Cx} {w : Wd} (hw : okX w) (g : Gd Γ cX5_leastMending 3 "GatePatch$Mender" (Option.some Jvm.ClassFile.FieldType.int) (rmd 4))   : ∀ (l1 l2 : Int) (h : Hp), Sim Γ w 0 (XX5_leastMending_L10  l1 l2 h) h 10 [(0, vP 40), (1, vI l1), (2, vI l2)] [] := by
  refine S_lup2 (fun l1 l2 => [(0, vP 40), (1, vI l1), (2, vI l2)]) (fun self10 hs10 l1 l2 h => ?_) FU
  unfold XX5_leastMending_b10
  refine S_iload_n (kk := 2) g dX5_leastMending_10 rfl rfl ?_
  refine S_aload_n (kk := 0) g dX5_leastMending_11 rfl rfl ?_
  refine S_callVi (As := []) g dX5_leastMending_12 (sX5_assignments hw  _) rfl (at_40 hw) rfl im_X5_assignments se_X5_assignments cw_X5_assignments ml_Mender_133 ini_Mender nd_X5_assignments ⟨by decide, by decide⟩ (Nat.le_of_ble_eq_true rfl) (fun r3 h4 => ?_)
  refine S_icmp_ge (tgt := 43) g dX5_leastMending_15 (by decide) ?_ ?_
  · refine S_bipush g dX5_leastMending_43 ⟨by decide, by decide⟩ rfl ?_
    exact S_ireturn g dX5_leastMending_45 rfl
  · refine S_aload_n (kk := 0) g dX5_leastMending_18 rfl rfl ?_
    refine S_iload_n (kk := 2) g dX5_leastMending_19 rfl rfl ?_
    refine S_callVj (As := [vI l2]) g dX5_leastMending_20 (sX5_mended hw _ _) rfl (at_40 hw) rfl im_X5_mended se_X5_mended cw_X5_mended ml_Mender_136 ini_Mender nd_X5_mended ⟨by decide, by decide⟩ (Nat.le_of_ble_eq_true rfl) (fun r5 h6 => ?_)
    refine S_iload_n (kk := 1) g dX5_leastMending_23 rfl rfl ?_
    refine S_bipush g dX5_leastMending_24 ⟨by decide, by decide⟩ rfl ?_
    refine S_irem g dX5_leastMending_26 (by decide) ?_
    refine S_lshr g dX5_leastMending_27 ?_
    refine S_lconst (x := 1) g dX5_leastMending_28 ⟨by decide, by decide⟩ rfl ?_
    refine S_land g dX5_leastMending_29 ?_
    refine S_lconst (x := 1) g dX5_leastMending_30 ⟨by decide, by decide⟩ rfl ?_
    refine S_lcmp g dX5_leastMending_31 ?_
    refine S_if_ne (tgt := 37) g dX5_leastMending_32 (by decide) ?_ ?_
    · refine S_iinc (kk := 2) g dX5_leastMending_37 rfl (by decide) rfl ?_
      refine S_goto (tgt := 10) g dX5_leastMending_40 (by decide) ?_
      refine S_sub g [1, 2, 0] rfl ?_
      exact hs10 _ _ _
    · refine S_iload_n (kk := 2) g dX5_leastMending_35 rfl rfl ?_
      exact S_ireturn g dX5_leastMending_36 rfl

theorem sX5_leastMending {G : GG} {w : Wd} (hw : okX w) (x0 : Int) (h : Hp) : SC G w yX5_leastMending (Cond.code yX5_leastMending cX5_leastMending 3 (Option.some Jvm.ClassFile.FieldType.int)) 4 0 [vP 40, vI x0] (XX5_leastMending x0 h) h := by
  refine SC_of (own := "GatePatch$Mender") plain_Mender rfl (Nat.le_of_ble_eq_true rfl) (fun Γ hG g => ?_)
  subst hG
  show Sim Γ w 0 _ h 0 [(0, vP 40), (1, vI x0)] []
  unfold XX5_leastMending
  refine S_aload_n (kk := 0) g dX5_leastMending_0 rfl rfl ?_
  refine S_iload_n (kk := 1) g dX5_leastMending_1 rfl rfl ?_
  refine S_bipush g dX5_leastMending_2 ⟨by decide, by decide⟩ rfl ?_
  refine S_idiv g dX5_leastMending_4 (by decide) ?_
  refine S_callVv (As := [vI (x0.tdiv 64)]) g dX5_leastMending_5 (sX5_load hw _ _) rfl (at_40 hw) rfl im_X5_load se_X5_load cw_X5_load ml_Mender_129 ini_Mender nd_X5_load ⟨by decide, by decide⟩ (Nat.le_of_ble_eq_true rfl) (fun r1 h2 => ?_)
  refine S_iconst g dX5_leastMending_8 ⟨by decide, by decide⟩ ?_
  refine S_istore_n g dX5_leastMending_9 rfl (by decide) rfl ?_
  refine S_sub g [1, 2, 0] rfl ?_
  exact sX5_leastMending_L10 hw g _ _ _

def XX5_writeLeast_p84 (a1 : Nat) (self2 : Int → Hp → OR) (self31 : Int → Int → Int → Hp → OR) (self53 : Int → Int → Int → Int → Int → Hp → OR) (l2 l3 l5 l6 l8 : Int) (h : Hp) : OR :=
  chk (l8 + 1) (self53 l2 l3 l5 l6 (l8 + 1) h)
def XX5_writeLeast_b53 (a1 : Nat) (self2 : Int → Hp → OR) (self31 : Int → Int → Int → Hp → OR) (self53 : Int → Int → Int → Int → Int → Hp → OR) (l2 l3 l5 l6 l8 : Int) (h : Hp) : OR :=
  if 64 ≤ l8 then nm (jand l3 (jxor l6 (-1))) (fun v9 => chk (l5 + 1) (self31 l2 v9 (l5 + 1) h)) else if (jcmp (jand (jshr l6 l8) 1) 1) = 0 then chk (64 * l2) (chk ((64 * l2) + l8) (inb ((64 * l2) + l8) 256 (hm (wr h a1 ((64 * l2) + l8).toNat l5) (fun h10 => XX5_writeLeast_p84 a1 self2 self31 self53 l2 l3 l5 l6 l8 h10)))) else XX5_writeLeast_p84 a1 self2 self31 self53 l2 l3 l5 l6 l8 h
def XX5_writeLeast_L53 (a1 : Nat) (self2 : Int → Hp → OR) (self31 : Int → Int → Int → Hp → OR) (l2 l3 l5 l6 l8 : Int) (h : Hp) : OR := lup5 (XX5_writeLeast_b53 a1 self2 self31) FU l2 l3 l5 l6 l8 h
def XX5_writeLeast_b31 (a1 : Nat) (self2 : Int → Hp → OR) (self31 : Int → Int → Int → Hp → OR) (l2 l3 l5 : Int) (h : Hp) : OR :=
  cal (XX5_assignments h) (fun r4 h5 => if r4 ≤ l5 then chk (l2 + 1) (self2 (l2 + 1) h5) else cal (XX5_mended l5 h5) (fun r6 h7 => nm (jand r6 l3) (fun v8 => XX5_writeLeast_L53 a1 self2 self31 l2 l3 l5 v8 0 h7)))
def XX5_writeLeast_L31 (a1 : Nat) (self2 : Int → Hp → OR) (l2 l3 l5 : Int) (h : Hp) : OR := lup3 (XX5_writeLeast_b31 a1 self2) FU l2 l3 l5 h
def XX5_writeLeast_b2 (a1 : Nat)  (self2 : Int → Hp → OR) (l2 : Int) (h : Hp) : OR :=
  if (h 37 1) ≤ l2 then some (0, h) else cal (XX5_load l2 h) (fun r1 h2 => inb l2 4 (nm (h2 39 l2.toNat) (fun v3 => XX5_writeLeast_L31 a1 self2 l2 v3 0 h2)))
def XX5_writeLeast_L2 (a1 : Nat)  (l2 : Int) (h : Hp) : OR := lup1 (XX5_writeLeast_b2 a1) FU l2 h
def XX5_writeLeast (x0 : Nat) (h : Hp) : OR :=
  XX5_writeLeast_L2 x0 0 h
theorem sX5_writeLeast_p84 {Γ : Cx} {w : Wd} (hw : okX w) (g : Gd Γ cX5_writeLeast 9 "GatePatch$Mender" (Option.none : Option Jvm.ClassFile.FieldType) (rmd 4)) (a1 : Nat) (ha1 : At w a1 (2, 1, 256)) (self2 : Int → Hp → OR) (hs2 : ∀ (x0 : Int) (h : Hp), Sim Γ w 3 (self2 x0 h) h 2 [(0, vP 40), (1, vP a1), (2, vI x0)] []) (self31 : Int → Int → Int → Hp → OR) (hs31 : ∀ (x0 x1 x2 : Int) (h : Hp), Sim Γ w 3 (self31 x0 x1 x2 h) h 31 [(0, vP 40), (1, vP a1), (2, vI x0), (3, vJ x1), (5, vI x2)] []) (self53 : Int → Int → Int → Int → Int → Hp → OR) (hs53 : ∀ (x0 x1 x2 x3 x4 : Int) (h : Hp), Sim Γ w 3 (self53 x0 x1 x2 x3 x4 h) h 53 [(0, vP 40), (1, vP a1), (2, vI x0), (3, vJ x1), (5, vI x2), (6, vJ x3), (8, vI x4)] []) (l2 l3 l5 l6 l8 : Int) (h : Hp) : Sim Γ w 3 (XX5_writeLeast_p84 a1 self2 self31 self53 l2 l3 l5 l6 l8  h) h 84 [(0, vP 40), (1, vP a1), (2, vI l2), (3, vJ l3), (5, vI l5), (6, vJ l6), (8, vI l8)] [] := by
  unfold XX5_writeLeast_p84
  refine S_iinc (kk := 6) g dX5_writeLeast_84 rfl (by decide) rfl ?_
  refine S_goto (tgt := 53) g dX5_writeLeast_87 (by decide) ?_
  refine S_sub g [1, 2, 3, 4, 5, 6, 0] rfl ?_
  exact hs53 _ _ _ _ _ _

theorem sX5_writeLeast_L53 {Γ : Cx} {w : Wd} (hw : okX w) (g : Gd Γ cX5_writeLeast 9 "GatePatch$Mender" (Option.none : Option Jvm.ClassFile.FieldType) (rmd 4)) (a1 : Nat) (ha1 : At w a1 (2, 1, 256)) (self2 : Int → Hp → OR) (hs2 : ∀ (x0 : Int) (h : Hp), Sim Γ w 3 (self2 x0 h) h 2 [(0, vP 40), (1, vP a1), (2, vI x0)] []) (self31 : Int → Int → Int → Hp → OR) (hs31 : ∀ (x0 x1 x2 : Int) (h : Hp), Sim Γ w 3 (self31 x0 x1 x2 h) h 31 [(0, vP 40), (1, vP a1), (2, vI x0), (3, vJ x1), (5, vI x2)] []) : ∀ (l2 l3 l5 l6 l8 : Int) (h : Hp), Sim Γ w 3 (XX5_writeLeast_L53 a1 self2 self31 l2 l3 l5 l6 l8 h) h 53 [(0, vP 40), (1, vP a1), (2, vI l2), (3, vJ l3), (5, vI l5), (6, vJ l6), (8, vI l8)] [] := by
  refine S_lup5 (fun l2 l3 l5 l6 l8 => [(0, vP 40), (1, vP a1), (2, vI l2), (3, vJ l3), (5, vI l5), (6, vJ l6), (8, vI l8)]) (fun self53 hs53 l2 l3 l5 l6 l8 h => ?_) FU
  unfold XX5_writeLeast_b53
  refine S_iload (kk := 6) g dX5_writeLeast_53 rfl ?_
  refine S_bipush g dX5_writeLeast_55 ⟨by decide, by decide⟩ rfl ?_
  refine S_icmp_ge (tgt := 90) g dX5_writeLeast_57 (by decide) ?_ ?_
  · refine S_lload_n (kk := 3) g dX5_writeLeast_90 rfl rfl ?_
    refine S_lload (kk := 5) g dX5_writeLeast_91 rfl ?_
    refine S_ldc2 g dX5_writeLeast_93 ⟨by decide, by decide⟩ k_Mender_109 ?_
    refine S_lxor g dX5_writeLeast_96 ?_
    refine S_land g dX5_writeLeast_97 ?_
    refine S_nmJ (fun v9 => ?_)
    refine S_lstore_n g dX5_writeLeast_98 rfl (by decide) rfl ?_
    refine S_iinc (kk := 4) g dX5_writeLeast_99 rfl (by decide) rfl ?_
    refine S_goto (tgt := 31) g dX5_writeLeast_102 (by decide) ?_
    refine S_sub g [2, 3, 4, 1, 0] rfl ?_
    exact hs31 _ _ _ _
  · refine S_lload (kk := 5) g dX5_writeLeast_60 rfl ?_
    refine S_iload (kk := 6) g dX5_writeLeast_62 rfl ?_
    refine S_lshr g dX5_writeLeast_64 ?_
    refine S_lconst (x := 1) g dX5_writeLeast_65 ⟨by decide, by decide⟩ rfl ?_
    refine S_land g dX5_writeLeast_66 ?_
    refine S_lconst (x := 1) g dX5_writeLeast_67 ⟨by decide, by decide⟩ rfl ?_
    refine S_lcmp g dX5_writeLeast_68 ?_
    refine S_if_ne (tgt := 84) g dX5_writeLeast_69 (by decide) ?_ ?_
    · exact sX5_writeLeast_p84 hw g a1 ha1 self2 hs2 self31 hs31 self53 hs53 _ _ _ _ _ _
    · refine S_aload_n (kk := 1) g dX5_writeLeast_72 rfl rfl ?_
      refine S_bipush g dX5_writeLeast_73 ⟨by decide, by decide⟩ rfl ?_
      refine S_iload_n (kk := 2) g dX5_writeLeast_75 rfl rfl ?_
      refine S_imul g dX5_writeLeast_76 ?_
      refine S_iload (kk := 6) g dX5_writeLeast_77 rfl ?_
      refine S_iadd g dX5_writeLeast_79 ?_
      refine S_iload (kk := 4) g dX5_writeLeast_80 rfl ?_
      refine S_i2l g dX5_writeLeast_82 ?_
      refine S_lastore g dX5_writeLeast_83 ha1 (fun h10 => ?_)
      exact sX5_writeLeast_p84 hw g a1 ha1 self2 hs2 self31 hs31 self53 hs53 _ _ _ _ _ _

theorem sX5_writeLeast_L31 {Γ : Cx} {w : Wd} (hw : okX w) (g : Gd Γ cX5_writeLeast 9 "GatePatch$Mender" (Option.none : Option Jvm.ClassFile.FieldType) (rmd 4)) (a1 : Nat) (ha1 : At w a1 (2, 1, 256)) (self2 : Int → Hp → OR) (hs2 : ∀ (x0 : Int) (h : Hp), Sim Γ w 3 (self2 x0 h) h 2 [(0, vP 40), (1, vP a1), (2, vI x0)] []) : ∀ (l2 l3 l5 : Int) (h : Hp), Sim Γ w 3 (XX5_writeLeast_L31 a1 self2 l2 l3 l5 h) h 31 [(0, vP 40), (1, vP a1), (2, vI l2), (3, vJ l3), (5, vI l5)] [] := by
  refine S_lup3 (fun l2 l3 l5 => [(0, vP 40), (1, vP a1), (2, vI l2), (3, vJ l3), (5, vI l5)]) (fun self31 hs31 l2 l3 l5 h => ?_) FU
  unfold XX5_writeLeast_b31
  refine S_iload (kk := 4) g dX5_writeLeast_31 rfl ?_
  refine S_aload_n (kk := 0) g dX5_writeLeast_33 rfl rfl ?_
  refine S_callVi (As := []) g dX5_writeLeast_34 (sX5_assignments hw  _) rfl (at_40 hw) rfl im_X5_assignments se_X5_assignments cw_X5_assignments ml_Mender_133 ini_Mender nd_X5_assignments ⟨by decide, by decide⟩ (Nat.le_of_ble_eq_true rfl) (fun r4 h5 => ?_)
  refine S_icmp_ge (tgt := 105) g dX5_writeLeast_37 (by decide) ?_ ?_
  · refine S_iinc (kk := 2) g dX5_writeLeast_105 rfl (by decide) rfl ?_
    refine S_goto (tgt := 2) g dX5_writeLeast_108 (by decide) ?_
    refine S_sub g [1, 2, 0] rfl ?_
    exact hs2 _ _
  · refine S_aload_n (kk := 0) g dX5_writeLeast_40 rfl rfl ?_
    refine S_iload (kk := 4) g dX5_writeLeast_41 rfl ?_
    refine S_callVj (As := [vI l5]) g dX5_writeLeast_43 (sX5_mended hw _ _) rfl (at_40 hw) rfl im_X5_mended se_X5_mended cw_X5_mended ml_Mender_136 ini_Mender nd_X5_mended ⟨by decide, by decide⟩ (Nat.le_of_ble_eq_true rfl) (fun r6 h7 => ?_)
    refine S_lload_n (kk := 3) g dX5_writeLeast_46 rfl rfl ?_
    refine S_land g dX5_writeLeast_47 ?_
    refine S_nmJ (fun v8 => ?_)
    refine S_lstore g dX5_writeLeast_48 (by decide) rfl ?_
    refine S_iconst g dX5_writeLeast_50 ⟨by decide, by decide⟩ ?_
    refine S_istore g dX5_writeLeast_51 (by decide) rfl ?_
    refine S_sub g [2, 3, 4, 5, 6, 1, 0] rfl ?_
    exact sX5_writeLeast_L53 hw g a1 ha1 self2 hs2 self31 hs31 _ _ _ _ _ _

theorem sX5_writeLeast_L2 {Γ : Cx} {w : Wd} (hw : okX w) (g : Gd Γ cX5_writeLeast 9 "GatePatch$Mender" (Option.none : Option Jvm.ClassFile.FieldType) (rmd 4)) (a1 : Nat) (ha1 : At w a1 (2, 1, 256))  : ∀ (l2 : Int) (h : Hp), Sim Γ w 3 (XX5_writeLeast_L2 a1 l2 h) h 2 [(0, vP 40), (1, vP a1), (2, vI l2)] [] := by
  refine S_lup1 (fun l2 => [(0, vP 40), (1, vP a1), (2, vI l2)]) (fun self2 hs2 l2 h => ?_) FU
  unfold XX5_writeLeast_b2
  refine S_iload_n (kk := 2) g dX5_writeLeast_2 rfl rfl ?_
  refine S_aload_n (kk := 0) g dX5_writeLeast_3 rfl rfl ?_
  refine S_getr g dX5_writeLeast_4 fl_Mender_41 (at_40 hw) rfl (rc_40_2 hw) ?_
  refine S_geti g dX5_writeLeast_7 fl_Mender_80 (at_37 hw) (Or.inl rfl) ?_
  refine S_icmp_ge (tgt := 111) g dX5_writeLeast_10 (by decide) ?_ ?_
  · exact S_return g dX5_writeLeast_111 rfl
  · refine S_aload_n (kk := 0) g dX5_writeLeast_13 rfl rfl ?_
    refine S_iload_n (kk := 2) g dX5_writeLeast_14 rfl rfl ?_
    refine S_callVv (As := [vI l2]) g dX5_writeLeast_15 (sX5_load hw _ _) rfl (at_40 hw) rfl im_X5_load se_X5_load cw_X5_load ml_Mender_129 ini_Mender nd_X5_load ⟨by decide, by decide⟩ (Nat.le_of_ble_eq_true rfl) (fun r1 h2 => ?_)
    refine S_aload_n (kk := 0) g dX5_writeLeast_18 rfl rfl ?_
    refine S_getr g dX5_writeLeast_19 fl_Mender_41 (at_40 hw) rfl (rc_40_2 hw) ?_
    refine S_getr g dX5_writeLeast_22 fl_Mender_75 (at_37 hw) rfl (rc_37_3 hw) ?_
    refine S_iload_n (kk := 2) g dX5_writeLeast_25 rfl rfl ?_
    refine S_laload g dX5_writeLeast_26 (at_39 hw) ?_
    refine S_nmJ (fun v3 => ?_)
    refine S_lstore_n g dX5_writeLeast_27 rfl (by decide) rfl ?_
    refine S_iconst g dX5_writeLeast_28 ⟨by decide, by decide⟩ ?_
    refine S_istore g dX5_writeLeast_29 (by decide) rfl ?_
    refine S_sub g [2, 3, 4, 1, 0] rfl ?_
    exact sX5_writeLeast_L31 hw g a1 ha1 self2 hs2 _ _ _ _

theorem sX5_writeLeast {G : GG} {w : Wd} (hw : okX w) (x0 : Nat) (hx0 : At w x0 (2, 1, 256)) (h : Hp) : SC G w yX5_writeLeast (Cond.code yX5_writeLeast cX5_writeLeast 9 (Option.none : Option Jvm.ClassFile.FieldType)) 4 3 [vP 40, vP x0] (XX5_writeLeast x0 h) h := by
  refine SC_of (own := "GatePatch$Mender") plain_Mender rfl (Nat.le_of_ble_eq_true rfl) (fun Γ hG g => ?_)
  subst hG
  show Sim Γ w 3 _ h 0 [(0, vP 40), (1, vP x0)] []
  unfold XX5_writeLeast
  refine S_iconst g dX5_writeLeast_0 ⟨by decide, by decide⟩ ?_
  refine S_istore_n g dX5_writeLeast_1 rfl (by decide) rfl ?_
  refine S_sub g [1, 2, 0] rfl ?_
  exact sX5_writeLeast_L2 hw g x0 hx0 _ _

def XX5_holders_p48 (a1 : Nat) (self6 : Int → Int → Int → Int → Int → Hp → OR) (l0 l2 l3 l4 l6 : Int) (h : Hp) : OR :=
  chk (l6 + 1) (self6 l0 l2 l3 l4 (l6 + 1) h)
def XX5_holders_b6 (a1 : Nat)  (self6 : Int → Int → Int → Int → Int → Hp → OR) (l0 l2 l3 l4 l6 : Int) (h : Hp) : OR :=
  if 64 ≤ l6 then some (l4, h) else chk (64 * l0) (chk ((64 * l0) + l6) (if l2 ≤ ((64 * l0) + l6) then some (l4, h) else chk (64 * l0) (chk ((64 * l0) + l6) (inb ((64 * l0) + l6) 256 (if (jcmp (h a1 ((64 * l0) + l6).toNat) l3) = 0 then nm (jor l4 (jshl 1 l6)) (fun v1 => XX5_holders_p48 a1 self6 l0 l2 l3 v1 l6 h) else XX5_holders_p48 a1 self6 l0 l2 l3 l4 l6 h)))))
def XX5_holders_L6 (a1 : Nat)  (l0 l2 l3 l4 l6 : Int) (h : Hp) : OR := lup5 (XX5_holders_b6 a1) FU l0 l2 l3 l4 l6 h
def XX5_holders (x0 : Int) (x1 : Nat) (x2 : Int) (x3 : Int) (h : Hp) : OR :=
  XX5_holders_L6 x1 x0 x2 x3 0 0 h
theorem sX5_holders_p48 {Γ : Cx} {w : Wd} (hw : okX w) (g : Gd Γ cX5_holders 7 "GatePatch$Mender" (Option.some Jvm.ClassFile.FieldType.long) (rmd 1)) (a1 : Nat) (ha1 : At w a1 (2, 1, 256)) (self6 : Int → Int → Int → Int → Int → Hp → OR) (hs6 : ∀ (x0 x1 x2 x3 x4 : Int) (h : Hp), Sim Γ w 1 (self6 x0 x1 x2 x3 x4 h) h 6 [(0, vI x0), (1, vP a1), (2, vI x1), (3, vI x2), (4, vJ x3), (6, vI x4)] []) (l0 l2 l3 l4 l6 : Int) (h : Hp) : Sim Γ w 1 (XX5_holders_p48 a1 self6 l0 l2 l3 l4 l6  h) h 48 [(0, vI l0), (1, vP a1), (2, vI l2), (3, vI l3), (4, vJ l4), (6, vI l6)] [] := by
  unfold XX5_holders_p48
  refine S_iinc (kk := 5) g dX5_holders_48 rfl (by decide) rfl ?_
  refine S_goto (tgt := 6) g dX5_holders_51 (by decide) ?_
  refine S_sub g [1, 2, 3, 4, 5, 0] rfl ?_
  exact hs6 _ _ _ _ _ _

theorem sX5_holders_L6 {Γ : Cx} {w : Wd} (hw : okX w) (g : Gd Γ cX5_holders 7 "GatePatch$Mender" (Option.some Jvm.ClassFile.FieldType.long) (rmd 1)) (a1 : Nat) (ha1 : At w a1 (2, 1, 256))  : ∀ (l0 l2 l3 l4 l6 : Int) (h : Hp), Sim Γ w 1 (XX5_holders_L6 a1 l0 l2 l3 l4 l6 h) h 6 [(0, vI l0), (1, vP a1), (2, vI l2), (3, vI l3), (4, vJ l4), (6, vI l6)] [] := by
  refine S_lup5 (fun l0 l2 l3 l4 l6 => [(0, vI l0), (1, vP a1), (2, vI l2), (3, vI l3), (4, vJ l4), (6, vI l6)]) (fun self6 hs6 l0 l2 l3 l4 l6 h => ?_) FU
  unfold XX5_holders_b6
  refine S_iload (kk := 5) g dX5_holders_6 rfl ?_
  refine S_bipush g dX5_holders_8 ⟨by decide, by decide⟩ rfl ?_
  refine S_icmp_ge (tgt := 54) g dX5_holders_10 (by decide) ?_ ?_
  · refine S_lload (kk := 4) g dX5_holders_54 rfl ?_
    exact S_lreturn g dX5_holders_56 rfl
  · refine S_bipush g dX5_holders_13 ⟨by decide, by decide⟩ rfl ?_
    refine S_iload_n (kk := 0) g dX5_holders_15 rfl rfl ?_
    refine S_imul g dX5_holders_16 ?_
    refine S_iload (kk := 5) g dX5_holders_17 rfl ?_
    refine S_iadd g dX5_holders_19 ?_
    refine S_iload_n (kk := 2) g dX5_holders_20 rfl rfl ?_
    refine S_icmp_ge (tgt := 54) g dX5_holders_21 (by decide) ?_ ?_
    · refine S_lload (kk := 4) g dX5_holders_54 rfl ?_
      exact S_lreturn g dX5_holders_56 rfl
    · refine S_aload_n (kk := 1) g dX5_holders_24 rfl rfl ?_
      refine S_bipush g dX5_holders_25 ⟨by decide, by decide⟩ rfl ?_
      refine S_iload_n (kk := 0) g dX5_holders_27 rfl rfl ?_
      refine S_imul g dX5_holders_28 ?_
      refine S_iload (kk := 5) g dX5_holders_29 rfl ?_
      refine S_iadd g dX5_holders_31 ?_
      refine S_laload g dX5_holders_32 ha1 ?_
      refine S_iload_n (kk := 3) g dX5_holders_33 rfl rfl ?_
      refine S_i2l g dX5_holders_34 ?_
      refine S_lcmp g dX5_holders_35 ?_
      refine S_if_ne (tgt := 48) g dX5_holders_36 (by decide) ?_ ?_
      · exact sX5_holders_p48 hw g a1 ha1 self6 hs6 _ _ _ _ _ _
      · refine S_lload (kk := 4) g dX5_holders_39 rfl ?_
        refine S_lconst (x := 1) g dX5_holders_41 ⟨by decide, by decide⟩ rfl ?_
        refine S_iload (kk := 5) g dX5_holders_42 rfl ?_
        refine S_lshl g dX5_holders_44 ?_
        refine S_lor g dX5_holders_45 ?_
        refine S_nmJ (fun v1 => ?_)
        refine S_lstore g dX5_holders_46 (by decide) rfl ?_
        refine S_sub g [1, 2, 3, 4, 0, 5] rfl ?_
        exact sX5_holders_p48 hw g a1 ha1 self6 hs6 _ _ _ _ _ _

theorem sX5_holders {G : GG} {w : Wd} (hw : okX w) (x0 : Int) (x1 : Nat) (hx1 : At w x1 (2, 1, 256)) (x2 : Int) (x3 : Int) (h : Hp) : SC G w yX5_holders (Cond.code yX5_holders cX5_holders 7 (Option.some Jvm.ClassFile.FieldType.long)) 1 1 [vI x0, vP x1, vI x2, vI x3] (XX5_holders x0 x1 x2 x3 h) h := by
  refine SC_of (own := "GatePatch$Mender") plain_Mender rfl (Nat.le_of_ble_eq_true rfl) (fun Γ hG g => ?_)
  subst hG
  show Sim Γ w 1 _ h 0 [(0, vI x0), (1, vP x1), (2, vI x2), (3, vI x3)] []
  unfold XX5_holders
  refine S_lconst (x := 0) g dX5_holders_0 ⟨by decide, by decide⟩ rfl ?_
  refine S_lstore g dX5_holders_1 (by decide) rfl ?_
  refine S_iconst g dX5_holders_3 ⟨by decide, by decide⟩ ?_
  refine S_istore g dX5_holders_4 (by decide) rfl ?_
  refine S_sub g [2, 3, 4, 5, 1, 0] rfl ?_
  exact sX5_holders_L6 hw g x1 hx1 _ _ _ _ _ _

def XX5_firstMisjudgedIn_p110  (self47 : Int → Int → Int → Int → Hp → OR) (l1 l3 l4 l6 : Int) (h : Hp) : OR :=
  chk (l6 + 1) (self47 l1 l3 l4 (l6 + 1) h)
def XX5_firstMisjudgedIn_b47   (self47 : Int → Int → Int → Int → Hp → OR) (l1 l3 l4 l6 : Int) (h : Hp) : OR :=
  if (h 37 0) ≤ l6 then some (1000, h) else chk (64 * l1) (chk ((64 * l1) + 64) (if ((64 * l1) + 64) ≤ l6 then some (1000, h) else cal (XX0_isLive l6 h) (fun r4 h5 => if r4 = 0 then XX5_firstMisjudgedIn_p110 self47 l1 l3 l4 l6 h5 else if l6 < l3 then chk (l6 - l6.tdiv 64 * 64) (if (jcmp (jand (jshr l4 (l6 - l6.tdiv 64 * 64)) 1) 0) = 0 then some (l6, h5) else XX5_firstMisjudgedIn_p110 self47 l1 l3 l4 l6 h5) else some ((-13), h5))))
def XX5_firstMisjudgedIn_L47   (l1 l3 l4 l6 : Int) (h : Hp) : OR := lup4 (XX5_firstMisjudgedIn_b47 ) FU l1 l3 l4 l6 h
def XX5_firstMisjudgedIn_b6 (a2 : Nat)  (self6 : Int → Int → Int → Int → Hp → OR) (l1 l3 l4 l6 : Int) (h : Hp) : OR :=
  cal (XX5_assignments h) (fun r1 h2 => if r1 ≤ l6 then chk (64 * l1) (nm (64 * l1) (fun v3 => XX5_firstMisjudgedIn_L47 l1 l3 l4 v3 h2)) else cal (XX5_mended l6 h2) (fun r6 h7 => cal (XX5_holders l1 a2 l3 l6 h7) (fun r8 h9 => nm (jor l4 (jand r6 r8)) (fun v10 => chk (l6 + 1) (self6 l1 l3 v10 (l6 + 1) h9)))))
def XX5_firstMisjudgedIn_L6 (a2 : Nat)  (l1 l3 l4 l6 : Int) (h : Hp) : OR := lup4 (XX5_firstMisjudgedIn_b6 a2) FU l1 l3 l4 l6 h
def XX5_firstMisjudgedIn (x0 : Int) (x1 : Nat) (x2 : Int) (h : Hp) : OR :=
  XX5_firstMisjudgedIn_L6 x1 x0 x2 0 0 h
theorem sX5_firstMisjudgedIn_p110 {Γ : Cx} {w : Wd} (hw : okX w) (g : Gd Γ cX5_firstMisjudgedIn 7 "GatePatch$Mender" (Option.some Jvm.ClassFile.FieldType.int) (rmd 4))  (self47 : Int → Int → Int → Int → Hp → OR) (hs47 : ∀ (x0 x1 x2 x3 : Int) (h : Hp), Sim Γ w 0 (self47 x0 x1 x2 x3 h) h 47 [(0, vP 40), (1, vI x0), (3, vI x1), (4, vJ x2), (6, vI x3)] []) (l1 l3 l4 l6 : Int) (h : Hp) : Sim Γ w 0 (XX5_firstMisjudgedIn_p110 self47 l1 l3 l4 l6  h) h 110 [(0, vP 40), (1, vI l1), (3, vI l3), (4, vJ l4), (6, vI l6)] [] := by
  unfold XX5_firstMisjudgedIn_p110
  refine S_iinc (kk := 4) g dX5_firstMisjudgedIn_110 rfl (by decide) rfl ?_
  refine S_goto (tgt := 47) g dX5_firstMisjudgedIn_113 (by decide) ?_
  refine S_sub g [1, 2, 3, 4, 0] rfl ?_
  exact hs47 _ _ _ _ _

theorem sX5_firstMisjudgedIn_L47 {Γ : Cx} {w : Wd} (hw : okX w) (g : Gd Γ cX5_firstMisjudgedIn 7 "GatePatch$Mender" (Option.some Jvm.ClassFile.FieldType.int) (rmd 4))   : ∀ (l1 l3 l4 l6 : Int) (h : Hp), Sim Γ w 0 (XX5_firstMisjudgedIn_L47  l1 l3 l4 l6 h) h 47 [(0, vP 40), (1, vI l1), (3, vI l3), (4, vJ l4), (6, vI l6)] [] := by
  refine S_lup4 (fun l1 l3 l4 l6 => [(0, vP 40), (1, vI l1), (3, vI l3), (4, vJ l4), (6, vI l6)]) (fun self47 hs47 l1 l3 l4 l6 h => ?_) FU
  unfold XX5_firstMisjudgedIn_b47
  refine S_iload (kk := 4) g dX5_firstMisjudgedIn_47 rfl ?_
  refine S_aload_n (kk := 0) g dX5_firstMisjudgedIn_49 rfl rfl ?_
  refine S_getr g dX5_firstMisjudgedIn_50 fl_Mender_41 (at_40 hw) rfl (rc_40_2 hw) ?_
  refine S_geti g dX5_firstMisjudgedIn_53 fl_Mender_150 (at_37 hw) (Or.inl rfl) ?_
  refine S_icmp_ge (tgt := 116) g dX5_firstMisjudgedIn_56 (by decide) ?_ ?_
  · refine S_sipush g dX5_firstMisjudgedIn_116 ⟨by decide, by decide⟩ rfl ?_
    exact S_ireturn g dX5_firstMisjudgedIn_119 rfl
  · refine S_iload (kk := 4) g dX5_firstMisjudgedIn_59 rfl ?_
    refine S_bipush g dX5_firstMisjudgedIn_61 ⟨by decide, by decide⟩ rfl ?_
    refine S_iload_n (kk := 1) g dX5_firstMisjudgedIn_63 rfl rfl ?_
    refine S_imul g dX5_firstMisjudgedIn_64 ?_
    refine S_bipush g dX5_firstMisjudgedIn_65 ⟨by decide, by decide⟩ rfl ?_
    refine S_iadd g dX5_firstMisjudgedIn_67 ?_
    refine S_icmp_ge (tgt := 116) g dX5_firstMisjudgedIn_68 (by decide) ?_ ?_
    · refine S_sipush g dX5_firstMisjudgedIn_116 ⟨by decide, by decide⟩ rfl ?_
      exact S_ireturn g dX5_firstMisjudgedIn_119 rfl
    · refine S_aload_n (kk := 0) g dX5_firstMisjudgedIn_71 rfl rfl ?_
      refine S_getr g dX5_firstMisjudgedIn_72 fl_Mender_41 (at_40 hw) rfl (rc_40_2 hw) ?_
      refine S_iload (kk := 4) g dX5_firstMisjudgedIn_75 rfl ?_
      refine S_callVi (As := [vI l6]) g dX5_firstMisjudgedIn_77 (sX0_isLive hw _ _) rfl (at_37 hw) rfl im_X0_isLive se_X0_isLive cw_X0_isLive ml_Mender_151 ini_Cases nd_X0_isLive ⟨by decide, by decide⟩ (Nat.le_of_ble_eq_true rfl) (fun r4 h5 => ?_)
      refine S_if_eq (tgt := 110) g dX5_firstMisjudgedIn_80 (by decide) ?_ ?_
      · exact sX5_firstMisjudgedIn_p110 hw g self47 hs47 _ _ _ _ _
      · refine S_iload (kk := 4) g dX5_firstMisjudgedIn_83 rfl ?_
        refine S_iload_n (kk := 2) g dX5_firstMisjudgedIn_85 rfl rfl ?_
        refine S_icmp_lt (tgt := 92) g dX5_firstMisjudgedIn_86 (by decide) ?_ ?_
        · refine S_lload (kk := 3) g dX5_firstMisjudgedIn_92 rfl ?_
          refine S_iload (kk := 4) g dX5_firstMisjudgedIn_94 rfl ?_
          refine S_bipush g dX5_firstMisjudgedIn_96 ⟨by decide, by decide⟩ rfl ?_
          refine S_irem g dX5_firstMisjudgedIn_98 (by decide) ?_
          refine S_lshr g dX5_firstMisjudgedIn_99 ?_
          refine S_lconst (x := 1) g dX5_firstMisjudgedIn_100 ⟨by decide, by decide⟩ rfl ?_
          refine S_land g dX5_firstMisjudgedIn_101 ?_
          refine S_lconst (x := 0) g dX5_firstMisjudgedIn_102 ⟨by decide, by decide⟩ rfl ?_
          refine S_lcmp g dX5_firstMisjudgedIn_103 ?_
          refine S_if_ne (tgt := 110) g dX5_firstMisjudgedIn_104 (by decide) ?_ ?_
          · exact sX5_firstMisjudgedIn_p110 hw g self47 hs47 _ _ _ _ _
          · refine S_iload (kk := 4) g dX5_firstMisjudgedIn_107 rfl ?_
            exact S_ireturn g dX5_firstMisjudgedIn_109 rfl
        · refine S_bipush g dX5_firstMisjudgedIn_89 ⟨by decide, by decide⟩ rfl ?_
          exact S_ireturn g dX5_firstMisjudgedIn_91 rfl

theorem sX5_firstMisjudgedIn_L6 {Γ : Cx} {w : Wd} (hw : okX w) (g : Gd Γ cX5_firstMisjudgedIn 7 "GatePatch$Mender" (Option.some Jvm.ClassFile.FieldType.int) (rmd 4)) (a2 : Nat) (ha2 : At w a2 (2, 1, 256))  : ∀ (l1 l3 l4 l6 : Int) (h : Hp), Sim Γ w 0 (XX5_firstMisjudgedIn_L6 a2 l1 l3 l4 l6 h) h 6 [(0, vP 40), (1, vI l1), (2, vP a2), (3, vI l3), (4, vJ l4), (6, vI l6)] [] := by
  refine S_lup4 (fun l1 l3 l4 l6 => [(0, vP 40), (1, vI l1), (2, vP a2), (3, vI l3), (4, vJ l4), (6, vI l6)]) (fun self6 hs6 l1 l3 l4 l6 h => ?_) FU
  unfold XX5_firstMisjudgedIn_b6
  refine S_iload (kk := 5) g dX5_firstMisjudgedIn_6 rfl ?_
  refine S_aload_n (kk := 0) g dX5_firstMisjudgedIn_8 rfl rfl ?_
  refine S_callVi (As := []) g dX5_firstMisjudgedIn_9 (sX5_assignments hw  _) rfl (at_40 hw) rfl im_X5_assignments se_X5_assignments cw_X5_assignments ml_Mender_133 ini_Mender nd_X5_assignments ⟨by decide, by decide⟩ (Nat.le_of_ble_eq_true rfl) (fun r1 h2 => ?_)
  refine S_icmp_ge (tgt := 41) g dX5_firstMisjudgedIn_12 (by decide) ?_ ?_
  · refine S_bipush g dX5_firstMisjudgedIn_41 ⟨by decide, by decide⟩ rfl ?_
    refine S_iload_n (kk := 1) g dX5_firstMisjudgedIn_43 rfl rfl ?_
    refine S_imul g dX5_firstMisjudgedIn_44 ?_
    refine S_nmI (fun v3 => ?_)
    refine S_istore g dX5_firstMisjudgedIn_45 (by decide) rfl ?_
    refine S_sub g [1, 2, 4, 5, 0] rfl ?_
    exact sX5_firstMisjudgedIn_L47 hw g _ _ _ _ _
  · refine S_lload (kk := 4) g dX5_firstMisjudgedIn_15 rfl ?_
    refine S_aload_n (kk := 0) g dX5_firstMisjudgedIn_17 rfl rfl ?_
    refine S_iload (kk := 5) g dX5_firstMisjudgedIn_18 rfl ?_
    refine S_callVj (As := [vI l6]) g dX5_firstMisjudgedIn_20 (sX5_mended hw _ _) rfl (at_40 hw) rfl im_X5_mended se_X5_mended cw_X5_mended ml_Mender_136 ini_Mender nd_X5_mended ⟨by decide, by decide⟩ (Nat.le_of_ble_eq_true rfl) (fun r6 h7 => ?_)
    refine S_iload_n (kk := 1) g dX5_firstMisjudgedIn_23 rfl rfl ?_
    refine S_aload_n (kk := 2) g dX5_firstMisjudgedIn_24 rfl rfl ?_
    refine S_iload_n (kk := 3) g dX5_firstMisjudgedIn_25 rfl rfl ?_
    refine S_iload (kk := 5) g dX5_firstMisjudgedIn_26 rfl ?_
    refine S_callSj (As := [vI l1, vP a2, vI l3, vI l6]) g dX5_firstMisjudgedIn_28 (sX5_holders hw _ a2 ha2 _ _ _) rfl st_X5_holders cw_X5_holders ml_Mender_146 ini_Mender nd_X5_holders ⟨by decide, by decide⟩ (Nat.le_of_ble_eq_true rfl) (fun r8 h9 => ?_)
    refine S_land g dX5_firstMisjudgedIn_31 ?_
    refine S_lor g dX5_firstMisjudgedIn_32 ?_
    refine S_nmJ (fun v10 => ?_)
    refine S_lstore g dX5_firstMisjudgedIn_33 (by decide) rfl ?_
    refine S_iinc (kk := 5) g dX5_firstMisjudgedIn_35 rfl (by decide) rfl ?_
    refine S_goto (tgt := 6) g dX5_firstMisjudgedIn_38 (by decide) ?_
    refine S_sub g [2, 3, 4, 5, 1, 0] rfl ?_
    exact hs6 _ _ _ _ _

theorem sX5_firstMisjudgedIn {G : GG} {w : Wd} (hw : okX w) (x0 : Int) (x1 : Nat) (hx1 : At w x1 (2, 1, 256)) (x2 : Int) (h : Hp) : SC G w yX5_firstMisjudgedIn (Cond.code yX5_firstMisjudgedIn cX5_firstMisjudgedIn 7 (Option.some Jvm.ClassFile.FieldType.int)) 4 0 [vP 40, vI x0, vP x1, vI x2] (XX5_firstMisjudgedIn x0 x1 x2 h) h := by
  refine SC_of (own := "GatePatch$Mender") plain_Mender rfl (Nat.le_of_ble_eq_true rfl) (fun Γ hG g => ?_)
  subst hG
  show Sim Γ w 0 _ h 0 [(0, vP 40), (1, vI x0), (2, vP x1), (3, vI x2)] []
  unfold XX5_firstMisjudgedIn
  refine S_lconst (x := 0) g dX5_firstMisjudgedIn_0 ⟨by decide, by decide⟩ rfl ?_
  refine S_lstore g dX5_firstMisjudgedIn_1 (by decide) rfl ?_
  refine S_iconst g dX5_firstMisjudgedIn_3 ⟨by decide, by decide⟩ ?_
  refine S_istore g dX5_firstMisjudgedIn_4 (by decide) rfl ?_
  refine S_sub g [2, 3, 4, 5, 1, 0] rfl ?_
  exact sX5_firstMisjudgedIn_L6 hw g x1 hx1 _ _ _ _ _

def XX5_firstMisjudged_b2 (a1 : Nat)  (self2 : Int → Int → Hp → OR) (l2 l3 : Int) (h : Hp) : OR :=
  if (h 37 1) ≤ l3 then some (1000, h) else cal (XX5_load l3 h) (fun r1 h2 => cal (XX5_firstMisjudgedIn l3 a1 l2 h2) (fun r3 h4 => if r3 = 1000 then chk (l3 + 1) (self2 l2 (l3 + 1) h4) else some (r3, h4)))
def XX5_firstMisjudged_L2 (a1 : Nat)  (l2 l3 : Int) (h : Hp) : OR := lup2 (XX5_firstMisjudged_b2 a1) FU l2 l3 h
def XX5_firstMisjudged (x0 : Nat) (x1 : Int) (h : Hp) : OR :=
  XX5_firstMisjudged_L2 x0 x1 0 h
theorem sX5_firstMisjudged_L2 {Γ : Cx} {w : Wd} (hw : okX w) (g : Gd Γ cX5_firstMisjudged 5 "GatePatch$Mender" (Option.some Jvm.ClassFile.FieldType.int) (rmd 5)) (a1 : Nat) (ha1 : At w a1 (2, 1, 256))  : ∀ (l2 l3 : Int) (h : Hp), Sim Γ w 0 (XX5_firstMisjudged_L2 a1 l2 l3 h) h 2 [(0, vP 40), (1, vP a1), (2, vI l2), (3, vI l3)] [] := by
  refine S_lup2 (fun l2 l3 => [(0, vP 40), (1, vP a1), (2, vI l2), (3, vI l3)]) (fun self2 hs2 l2 l3 h => ?_) FU
  unfold XX5_firstMisjudged_b2
  refine S_iload_n (kk := 3) g dX5_firstMisjudged_2 rfl rfl ?_
  refine S_aload_n (kk := 0) g dX5_firstMisjudged_3 rfl rfl ?_
  refine S_getr g dX5_firstMisjudged_4 fl_Mender_41 (at_40 hw) rfl (rc_40_2 hw) ?_
  refine S_geti g dX5_firstMisjudged_7 fl_Mender_80 (at_37 hw) (Or.inl rfl) ?_
  refine S_icmp_ge (tgt := 44) g dX5_firstMisjudged_10 (by decide) ?_ ?_
  · refine S_sipush g dX5_firstMisjudged_44 ⟨by decide, by decide⟩ rfl ?_
    exact S_ireturn g dX5_firstMisjudged_47 rfl
  · refine S_aload_n (kk := 0) g dX5_firstMisjudged_13 rfl rfl ?_
    refine S_iload_n (kk := 3) g dX5_firstMisjudged_14 rfl rfl ?_
    refine S_callVv (As := [vI l3]) g dX5_firstMisjudged_15 (sX5_load hw _ _) rfl (at_40 hw) rfl im_X5_load se_X5_load cw_X5_load ml_Mender_129 ini_Mender nd_X5_load ⟨by decide, by decide⟩ (Nat.le_of_ble_eq_true rfl) (fun r1 h2 => ?_)
    refine S_aload_n (kk := 0) g dX5_firstMisjudged_18 rfl rfl ?_
    refine S_iload_n (kk := 3) g dX5_firstMisjudged_19 rfl rfl ?_
    refine S_aload_n (kk := 1) g dX5_firstMisjudged_20 rfl rfl ?_
    refine S_iload_n (kk := 2) g dX5_firstMisjudged_21 rfl rfl ?_
    refine S_callVi (As := [vI l3, vP a1, vI l2]) g dX5_firstMisjudged_22 (sX5_firstMisjudgedIn hw _ a1 ha1 _ _) rfl (at_40 hw) rfl im_X5_firstMisjudgedIn se_X5_firstMisjudgedIn cw_X5_firstMisjudgedIn ml_Mender_142 ini_Mender nd_X5_firstMisjudgedIn ⟨by decide, by decide⟩ (Nat.le_of_ble_eq_true rfl) (fun r3 h4 => ?_)
    refine S_istore g dX5_firstMisjudged_25 (by decide) rfl ?_
    refine S_iload (kk := 0) g dX5_firstMisjudged_27 rfl ?_
    refine S_sipush g dX5_firstMisjudged_29 ⟨by decide, by decide⟩ rfl ?_
    refine S_icmp_eq (tgt := 38) g dX5_firstMisjudged_32 (by decide) ?_ ?_
    · refine S_iinc (kk := 4) g dX5_firstMisjudged_38 rfl (by decide) rfl ?_
      refine S_goto (tgt := 2) g dX5_firstMisjudged_41 (by decide) ?_
      refine S_sub g [2, 3, 4, 0] rfl ?_
      exact hs2 _ _ _
    · refine S_iload (kk := 0) g dX5_firstMisjudged_35 rfl ?_
      exact S_ireturn g dX5_firstMisjudged_37 rfl

theorem sX5_firstMisjudged {G : GG} {w : Wd} (hw : okX w) (x0 : Nat) (hx0 : At w x0 (2, 1, 256)) (x1 : Int) (h : Hp) : SC G w yX5_firstMisjudged (Cond.code yX5_firstMisjudged cX5_firstMisjudged 5 (Option.some Jvm.ClassFile.FieldType.int)) 5 0 [vP 40, vP x0, vI x1] (XX5_firstMisjudged x0 x1 h) h := by
  refine SC_of (own := "GatePatch$Mender") plain_Mender rfl (Nat.le_of_ble_eq_true rfl) (fun Γ hG g => ?_)
  subst hG
  show Sim Γ w 0 _ h 0 [(0, vP 40), (1, vP x0), (2, vI x1)] []
  unfold XX5_firstMisjudged
  refine S_iconst g dX5_firstMisjudged_0 ⟨by decide, by decide⟩ ?_
  refine S_istore_n g dX5_firstMisjudged_1 rfl (by decide) rfl ?_
  refine S_sub g [1, 2, 3, 0] rfl ?_
  exact sX5_firstMisjudged_L2 hw g x0 hx0 _ _ _

def XX5_findWrong_p148  (self7 : Int → Hp → OR) (l1 : Int) (h : Hp) : OR :=
  chk (l1 + 1) (self7 (l1 + 1) h)
def XX5_findWrong_b50  (self7 : Int → Hp → OR) (self50 : Int → Int → Int → Int → Hp → OR) (l1 l2 l3 l4 : Int) (h : Hp) : OR :=
  if (h 37 1) ≤ l4 then XX5_findWrong_p148 self7 l1 h else chk (4 * l2) (chk ((4 * l2) + l4) (inb ((4 * l2) + l4) 192 (chk (4 * l3) (chk ((4 * l3) + l4) (inb ((4 * l3) + l4) 192 (nm (jxor (h 25 ((4 * l2) + l4).toNat) (h 35 ((4 * l3) + l4).toNat)) (fun v6 => inb l4 4 (if (jcmp (jand v6 (h 39 l4.toNat)) 0) = 0 then chk (l4 + 1) (self50 l1 l2 l3 (l4 + 1) h) else inb l2 48 (inb (h 40 11) 6 (hm (wr h 44 (h 40 11).toNat (h 24 l2.toNat)) (fun h7 => chk ((h7 40 11) + 1) (hm (wr h7 40 11 ((h7 40 11) + 1)) (fun h8 => XX5_findWrong_p148 self7 l1 h8)))))))))))))
def XX5_findWrong_L50  (self7 : Int → Hp → OR) (l1 l2 l3 l4 : Int) (h : Hp) : OR := lup4 (XX5_findWrong_b50 self7) FU l1 l2 l3 l4 h
def XX5_findWrong_b7   (self7 : Int → Hp → OR) (l1 : Int) (h : Hp) : OR :=
  cal (XX8_seenCount 18 h) (fun r2 h3 => if r2 ≤ l1 then some (0, h3) else inb l1 6 (nm (h3 21 l1.toNat) (fun v4 => inb l1 6 (nm (h3 31 l1.toNat) (fun v5 => XX5_findWrong_L50 self7 l1 v4 v5 0 h3)))))
def XX5_findWrong_L7   (l1 : Int) (h : Hp) : OR := lup1 (XX5_findWrong_b7 ) FU l1 h
def XX5_findWrong  (h : Hp) : OR :=
  hm (wr h 40 11 0) (fun h1 => XX5_findWrong_L7 0 h1)
theorem sX5_findWrong_p148 {Γ : Cx} {w : Wd} (hw : okX w) (g : Gd Γ cX5_findWrong 7 "GatePatch$Mender" (Option.none : Option Jvm.ClassFile.FieldType) (rmd 2))  (self7 : Int → Hp → OR) (hs7 : ∀ (x0 : Int) (h : Hp), Sim Γ w 3 (self7 x0 h) h 7 [(0, vP 40), (1, vI x0)] []) (l1 : Int) (h : Hp) : Sim Γ w 3 (XX5_findWrong_p148 self7 l1  h) h 148 [(0, vP 40), (1, vI l1)] [] := by
  unfold XX5_findWrong_p148
  refine S_iinc (kk := 1) g dX5_findWrong_148 rfl (by decide) rfl ?_
  refine S_goto (tgt := 7) g dX5_findWrong_151 (by decide) ?_
  refine S_sub g [1, 0] rfl ?_
  exact hs7 _ _

theorem sX5_findWrong_L50 {Γ : Cx} {w : Wd} (hw : okX w) (g : Gd Γ cX5_findWrong 7 "GatePatch$Mender" (Option.none : Option Jvm.ClassFile.FieldType) (rmd 2))  (self7 : Int → Hp → OR) (hs7 : ∀ (x0 : Int) (h : Hp), Sim Γ w 3 (self7 x0 h) h 7 [(0, vP 40), (1, vI x0)] []) : ∀ (l1 l2 l3 l4 : Int) (h : Hp), Sim Γ w 3 (XX5_findWrong_L50 self7 l1 l2 l3 l4 h) h 50 [(0, vP 40), (1, vI l1), (2, vI l2), (3, vI l3), (4, vI l4)] [] := by
  refine S_lup4 (fun l1 l2 l3 l4 => [(0, vP 40), (1, vI l1), (2, vI l2), (3, vI l3), (4, vI l4)]) (fun self50 hs50 l1 l2 l3 l4 h => ?_) FU
  unfold XX5_findWrong_b50
  refine S_iload (kk := 4) g dX5_findWrong_50 rfl ?_
  refine S_aload_n (kk := 0) g dX5_findWrong_52 rfl rfl ?_
  refine S_getr g dX5_findWrong_53 fl_Mender_41 (at_40 hw) rfl (rc_40_2 hw) ?_
  refine S_geti g dX5_findWrong_56 fl_Mender_80 (at_37 hw) (Or.inl rfl) ?_
  refine S_icmp_ge (tgt := 148) g dX5_findWrong_59 (by decide) ?_ ?_
  · refine S_sub g [0, 1] rfl ?_
    exact sX5_findWrong_p148 hw g self7 hs7 _ _
  · refine S_aload_n (kk := 0) g dX5_findWrong_62 rfl rfl ?_
    refine S_getr g dX5_findWrong_63 fl_Mender_34 (at_40 hw) rfl (rc_40_0 hw) ?_
    refine S_getr g dX5_findWrong_66 fl_Mender_69 (at_17 hw) rfl (rc_17_4 hw) ?_
    refine S_iconst g dX5_findWrong_69 ⟨by decide, by decide⟩ ?_
    refine S_iload_n (kk := 2) g dX5_findWrong_70 rfl rfl ?_
    refine S_imul g dX5_findWrong_71 ?_
    refine S_iload (kk := 4) g dX5_findWrong_72 rfl ?_
    refine S_iadd g dX5_findWrong_74 ?_
    refine S_laload g dX5_findWrong_75 (at_25 hw) ?_
    refine S_aload_n (kk := 0) g dX5_findWrong_76 rfl rfl ?_
    refine S_getr g dX5_findWrong_77 fl_Mender_38 (at_40 hw) rfl (rc_40_1 hw) ?_
    refine S_getr g dX5_findWrong_80 fl_Mender_69 (at_27 hw) rfl (rc_27_4 hw) ?_
    refine S_iconst g dX5_findWrong_83 ⟨by decide, by decide⟩ ?_
    refine S_iload_n (kk := 3) g dX5_findWrong_84 rfl rfl ?_
    refine S_imul g dX5_findWrong_85 ?_
    refine S_iload (kk := 4) g dX5_findWrong_86 rfl ?_
    refine S_iadd g dX5_findWrong_88 ?_
    refine S_laload g dX5_findWrong_89 (at_35 hw) ?_
    refine S_lxor g dX5_findWrong_90 ?_
    refine S_nmJ (fun v6 => ?_)
    refine S_lstore g dX5_findWrong_91 (by decide) rfl ?_
    refine S_lload (kk := 0) g dX5_findWrong_93 rfl ?_
    refine S_aload_n (kk := 1) g dX5_findWrong_95 rfl rfl ?_
    refine S_getr g dX5_findWrong_96 fl_Mender_41 (at_40 hw) rfl (rc_40_2 hw) ?_
    refine S_getr g dX5_findWrong_99 fl_Mender_75 (at_37 hw) rfl (rc_37_3 hw) ?_
    refine S_iload (kk := 5) g dX5_findWrong_102 rfl ?_
    refine S_laload g dX5_findWrong_104 (at_39 hw) ?_
    refine S_land g dX5_findWrong_105 ?_
    refine S_lconst (x := 0) g dX5_findWrong_106 ⟨by decide, by decide⟩ rfl ?_
    refine S_lcmp g dX5_findWrong_107 ?_
    refine S_if_eq (tgt := 142) g dX5_findWrong_108 (by decide) ?_ ?_
    · refine S_iinc (kk := 5) g dX5_findWrong_142 rfl (by decide) rfl ?_
      refine S_goto (tgt := 50) g dX5_findWrong_145 (by decide) ?_
      refine S_sub g [2, 3, 4, 5, 0] rfl ?_
      exact hs50 _ _ _ _ _
    · refine S_aload_n (kk := 1) g dX5_findWrong_111 rfl rfl ?_
      refine S_getr g dX5_findWrong_112 fl_Mender_25 (at_40 hw) rfl (rc_40_10 hw) ?_
      refine S_aload_n (kk := 1) g dX5_findWrong_115 rfl rfl ?_
      refine S_geti g dX5_findWrong_116 fl_Mender_167 (at_40 hw) (Or.inl rfl) ?_
      refine S_aload_n (kk := 1) g dX5_findWrong_119 rfl rfl ?_
      refine S_getr g dX5_findWrong_120 fl_Mender_34 (at_40 hw) rfl (rc_40_0 hw) ?_
      refine S_getr g dX5_findWrong_123 fl_Mender_106 (at_17 hw) rfl (rc_17_3 hw) ?_
      refine S_iload_n (kk := 3) g dX5_findWrong_126 rfl rfl ?_
      refine S_laload g dX5_findWrong_127 (at_24 hw) ?_
      refine S_lastore g dX5_findWrong_128 (at_44 hw) (fun h7 => ?_)
      refine S_aload_n (kk := 1) g dX5_findWrong_129 rfl rfl ?_
      refine S_dup g dX5_findWrong_130 rfl ?_
      refine S_geti g dX5_findWrong_131 fl_Mender_167 (at_40 hw) (Or.inl rfl) ?_
      refine S_iconst g dX5_findWrong_134 ⟨by decide, by decide⟩ ?_
      refine S_iadd g dX5_findWrong_135 ?_
      refine S_puti g dX5_findWrong_136 fp_Mender_167 (at_40 hw) rfl (fun h8 => ?_)
      refine S_goto (tgt := 148) g dX5_findWrong_139 (by decide) ?_
      refine S_sub g [1, 2] rfl ?_
      exact sX5_findWrong_p148 hw g self7 hs7 _ _

theorem sX5_findWrong_L7 {Γ : Cx} {w : Wd} (hw : okX w) (g : Gd Γ cX5_findWrong 7 "GatePatch$Mender" (Option.none : Option Jvm.ClassFile.FieldType) (rmd 2))   : ∀ (l1 : Int) (h : Hp), Sim Γ w 3 (XX5_findWrong_L7  l1 h) h 7 [(0, vP 40), (1, vI l1)] [] := by
  refine S_lup1 (fun l1 => [(0, vP 40), (1, vI l1)]) (fun self7 hs7 l1 h => ?_) FU
  unfold XX5_findWrong_b7
  refine S_iload_n (kk := 1) g dX5_findWrong_7 rfl rfl ?_
  refine S_aload_n (kk := 0) g dX5_findWrong_8 rfl rfl ?_
  refine S_getr g dX5_findWrong_9 fl_Mender_34 (at_40 hw) rfl (rc_40_0 hw) ?_
  refine S_getr g dX5_findWrong_12 fl_Mender_45 (at_17 hw) rfl (rc_17_0 hw) ?_
  refine S_callVi (As := []) g dX5_findWrong_15 (sX8_seenCount hw 18 (pl_18 hw) _) rfl (at_18 hw) rfl im_X8_seenCount se_X8_seenCount cw_X8_seenCount ml_Mender_65 ini_Plan nd_X8_seenCount ⟨by decide, by decide⟩ (Nat.le_of_ble_eq_true rfl) (fun r2 h3 => ?_)
  refine S_icmp_ge (tgt := 154) g dX5_findWrong_18 (by decide) ?_ ?_
  · exact S_return g dX5_findWrong_154 rfl
  · refine S_aload_n (kk := 0) g dX5_findWrong_21 rfl rfl ?_
    refine S_getr g dX5_findWrong_22 fl_Mender_34 (at_40 hw) rfl (rc_40_0 hw) ?_
    refine S_getr g dX5_findWrong_25 fl_Mender_45 (at_17 hw) rfl (rc_17_0 hw) ?_
    refine S_getr g dX5_findWrong_28 fl_Mender_72 (at_18 hw) rfl (rc_18_6 hw) ?_
    refine S_iload_n (kk := 1) g dX5_findWrong_31 rfl rfl ?_
    refine S_iaload g dX5_findWrong_32 (at_21 hw) ?_
    refine S_nmI (fun v4 => ?_)
    refine S_istore_n g dX5_findWrong_33 rfl (by decide) rfl ?_
    refine S_aload_n (kk := 1) g dX5_findWrong_34 rfl rfl ?_
    refine S_getr g dX5_findWrong_35 fl_Mender_38 (at_40 hw) rfl (rc_40_1 hw) ?_
    refine S_getr g dX5_findWrong_38 fl_Mender_45 (at_27 hw) rfl (rc_27_0 hw) ?_
    refine S_getr g dX5_findWrong_41 fl_Mender_72 (at_28 hw) rfl (rc_28_6 hw) ?_
    refine S_iload_n (kk := 2) g dX5_findWrong_44 rfl rfl ?_
    refine S_iaload g dX5_findWrong_45 (at_31 hw) ?_
    refine S_nmI (fun v5 => ?_)
    refine S_istore_n g dX5_findWrong_46 rfl (by decide) rfl ?_
    refine S_iconst g dX5_findWrong_47 ⟨by decide, by decide⟩ ?_
    refine S_istore g dX5_findWrong_48 (by decide) rfl ?_
    refine S_sub g [3, 4, 2, 1, 0] rfl ?_
    exact sX5_findWrong_L50 hw g self7 hs7 _ _ _ _ _

theorem sX5_findWrong {G : GG} {w : Wd} (hw : okX w)  (h : Hp) : SC G w yX5_findWrong (Cond.code yX5_findWrong cX5_findWrong 7 (Option.none : Option Jvm.ClassFile.FieldType)) 2 3 [vP 40] (XX5_findWrong  h) h := by
  refine SC_of (own := "GatePatch$Mender") plain_Mender rfl (Nat.le_of_ble_eq_true rfl) (fun Γ hG g => ?_)
  subst hG
  show Sim Γ w 3 _ h 0 [(0, vP 40)] []
  unfold XX5_findWrong
  refine S_aload_n (kk := 0) g dX5_findWrong_0 rfl rfl ?_
  refine S_iconst g dX5_findWrong_1 ⟨by decide, by decide⟩ ?_
  refine S_puti g dX5_findWrong_2 fp_Mender_167 (at_40 hw) rfl (fun h1 => ?_)
  refine S_iconst g dX5_findWrong_5 ⟨by decide, by decide⟩ ?_
  refine S_istore_n g dX5_findWrong_6 rfl (by decide) rfl ?_
  refine S_sub g [1, 0] rfl ?_
  exact sX5_findWrong_L7 hw g _ _

def XX5_addHard_b84   (self84 : Int → Int → Int → Hp → OR) (l1 l2 l4 : Int) (h : Hp) : OR :=
  cal (XX8_seenCount 28 h) (fun r4 h5 => if r4 ≤ l4 then chk ((h5 40 12) + 1) (chk (((h5 40 12) + 1) - ((h5 40 12) + 1).tdiv 8 * 8) (hm (wr h5 40 12 (((h5 40 12) + 1) - ((h5 40 12) + 1).tdiv 8 * 8)) (fun h6 => some (0, h6)))) else inb l4 6 (chk (4 * (h5 31 l4.toNat)) (chk (l1.tdiv 64) (chk ((4 * (h5 31 l4.toNat)) + (l1.tdiv 64)) (inb ((4 * (h5 31 l4.toNat)) + (l1.tdiv 64)) 192 (nm (h5 35 ((4 * (h5 31 l4.toNat)) + (l1.tdiv 64)).toNat) (fun v7 => inb l4 6 (chk (l1 - l1.tdiv 64 * 64) (inb l4 6 (hm (wr h5 205 l4.toNat (jor (jand (h5 205 l4.toNat) (jxor l2 (-1))) (jand l2 (jneg (jand (jshr v7 (l1 - l1.tdiv 64 * 64)) 1))))) (fun h8 => chk (l4 + 1) (self84 l1 l2 (l4 + 1) h8))))))))))))
def XX5_addHard_L84   (l1 l2 l4 : Int) (h : Hp) : OR := lup3 (XX5_addHard_b84 ) FU l1 l2 l4 h
def XX5_addHard_b12   (self12 : Int → Int → Int → Hp → OR) (l1 l2 l4 : Int) (h : Hp) : OR :=
  cal (XX8_wires 18 h) (fun r2 h3 => if r2 ≤ l4 then XX5_addHard_L84 l1 l2 0 h3 else inb l4 48 (chk (4 * l4) (chk (l1.tdiv 64) (chk ((4 * l4) + (l1.tdiv 64)) (inb ((4 * l4) + (l1.tdiv 64)) 192 (chk (l1 - l1.tdiv 64 * 64) (inb l4 48 (hm (wr h3 204 l4.toNat (jor (jand (h3 204 l4.toNat) (jxor l2 (-1))) (jand l2 (jneg (jand (jshr (h3 25 ((4 * l4) + (l1.tdiv 64)).toNat) (l1 - l1.tdiv 64 * 64)) 1))))) (fun h9 => chk (l4 + 1) (self12 l1 l2 (l4 + 1) h9))))))))))
def XX5_addHard_L12   (l1 l2 l4 : Int) (h : Hp) : OR := lup3 (XX5_addHard_b12 ) FU l1 l2 l4 h
def XX5_addHard (x0 : Int) (h : Hp) : OR :=
  nm (jshl 72340172838076673 (h 40 12)) (fun v1 => XX5_addHard_L12 x0 v1 0 h)
theorem sX5_addHard_L84 {Γ : Cx} {w : Wd} (hw : okX w) (g : Gd Γ cX5_addHard 7 "GatePatch$Mender" (Option.none : Option Jvm.ClassFile.FieldType) (rmd 2))   : ∀ (l1 l2 l4 : Int) (h : Hp), Sim Γ w 3 (XX5_addHard_L84  l1 l2 l4 h) h 84 [(0, vP 40), (1, vI l1), (2, vJ l2), (4, vI l4)] [] := by
  refine S_lup3 (fun l1 l2 l4 => [(0, vP 40), (1, vI l1), (2, vJ l2), (4, vI l4)]) (fun self84 hs84 l1 l2 l4 h => ?_) FU
  unfold XX5_addHard_b84
  refine S_iload (kk := 3) g dX5_addHard_84 rfl ?_
  refine S_aload_n (kk := 0) g dX5_addHard_86 rfl rfl ?_
  refine S_getr g dX5_addHard_87 fl_Mender_38 (at_40 hw) rfl (rc_40_1 hw) ?_
  refine S_getr g dX5_addHard_90 fl_Mender_45 (at_27 hw) rfl (rc_27_0 hw) ?_
  refine S_callVi (As := []) g dX5_addHard_93 (sX8_seenCount hw 28 (pl_28 hw) _) rfl (at_28 hw) rfl im_X8_seenCount se_X8_seenCount cw_X8_seenCount ml_Mender_65 ini_Plan nd_X8_seenCount ⟨by decide, by decide⟩ (Nat.le_of_ble_eq_true rfl) (fun r4 h5 => ?_)
  refine S_icmp_ge (tgt := 168) g dX5_addHard_96 (by decide) ?_ ?_
  · refine S_aload_n (kk := 0) g dX5_addHard_168 rfl rfl ?_
    refine S_aload_n (kk := 0) g dX5_addHard_169 rfl rfl ?_
    refine S_geti g dX5_addHard_170 fl_Mender_193 (at_40 hw) (Or.inl rfl) ?_
    refine S_iconst g dX5_addHard_173 ⟨by decide, by decide⟩ ?_
    refine S_iadd g dX5_addHard_174 ?_
    refine S_bipush g dX5_addHard_175 ⟨by decide, by decide⟩ rfl ?_
    refine S_irem g dX5_addHard_177 (by decide) ?_
    refine S_puti g dX5_addHard_178 fp_Mender_193 (at_40 hw) rfl (fun h6 => ?_)
    exact S_return g dX5_addHard_181 rfl
  · refine S_aload_n (kk := 0) g dX5_addHard_99 rfl rfl ?_
    refine S_getr g dX5_addHard_100 fl_Mender_38 (at_40 hw) rfl (rc_40_1 hw) ?_
    refine S_getr g dX5_addHard_103 fl_Mender_69 (at_27 hw) rfl (rc_27_4 hw) ?_
    refine S_iconst g dX5_addHard_106 ⟨by decide, by decide⟩ ?_
    refine S_aload_n (kk := 0) g dX5_addHard_107 rfl rfl ?_
    refine S_getr g dX5_addHard_108 fl_Mender_38 (at_40 hw) rfl (rc_40_1 hw) ?_
    refine S_getr g dX5_addHard_111 fl_Mender_45 (at_27 hw) rfl (rc_27_0 hw) ?_
    refine S_getr g dX5_addHard_114 fl_Mender_72 (at_28 hw) rfl (rc_28_6 hw) ?_
    refine S_iload (kk := 3) g dX5_addHard_117 rfl ?_
    refine S_iaload g dX5_addHard_119 (at_31 hw) ?_
    refine S_imul g dX5_addHard_120 ?_
    refine S_iload_n (kk := 1) g dX5_addHard_121 rfl rfl ?_
    refine S_bipush g dX5_addHard_122 ⟨by decide, by decide⟩ rfl ?_
    refine S_idiv g dX5_addHard_124 (by decide) ?_
    refine S_iadd g dX5_addHard_125 ?_
    refine S_laload g dX5_addHard_126 (at_35 hw) ?_
    refine S_nmJ (fun v7 => ?_)
    refine S_lstore g dX5_addHard_127 (by decide) rfl ?_
    refine S_aload_n (kk := 1) g dX5_addHard_129 rfl rfl ?_
    refine S_getr g dX5_addHard_130 fl_Mender_31 (at_40 hw) rfl (rc_40_14 hw) ?_
    refine S_iload (kk := 4) g dX5_addHard_133 rfl ?_
    refine S_aload_n (kk := 1) g dX5_addHard_135 rfl rfl ?_
    refine S_getr g dX5_addHard_136 fl_Mender_31 (at_40 hw) rfl (rc_40_14 hw) ?_
    refine S_iload (kk := 4) g dX5_addHard_139 rfl ?_
    refine S_laload g dX5_addHard_141 (at_205 hw) ?_
    refine S_lload_n (kk := 3) g dX5_addHard_142 rfl rfl ?_
    refine S_ldc2 g dX5_addHard_143 ⟨by decide, by decide⟩ k_Mender_109 ?_
    refine S_lxor g dX5_addHard_146 ?_
    refine S_land g dX5_addHard_147 ?_
    refine S_lload_n (kk := 3) g dX5_addHard_148 rfl rfl ?_
    refine S_lload (kk := 0) g dX5_addHard_149 rfl ?_
    refine S_iload_n (kk := 2) g dX5_addHard_151 rfl rfl ?_
    refine S_bipush g dX5_addHard_152 ⟨by decide, by decide⟩ rfl ?_
    refine S_irem g dX5_addHard_154 (by decide) ?_
    refine S_lshr g dX5_addHard_155 ?_
    refine S_lconst (x := 1) g dX5_addHard_156 ⟨by decide, by decide⟩ rfl ?_
    refine S_land g dX5_addHard_157 ?_
    refine S_lneg g dX5_addHard_158 ?_
    refine S_land g dX5_addHard_159 ?_
    refine S_lor g dX5_addHard_160 ?_
    refine S_lastore g dX5_addHard_161 (at_205 hw) (fun h8 => ?_)
    refine S_iinc (kk := 4) g dX5_addHard_162 rfl (by decide) rfl ?_
    refine S_goto (tgt := 84) g dX5_addHard_165 (by decide) ?_
    refine S_sub g [2, 3, 4, 0] rfl ?_
    exact hs84 _ _ _ _

theorem sX5_addHard_L12 {Γ : Cx} {w : Wd} (hw : okX w) (g : Gd Γ cX5_addHard 7 "GatePatch$Mender" (Option.none : Option Jvm.ClassFile.FieldType) (rmd 2))   : ∀ (l1 l2 l4 : Int) (h : Hp), Sim Γ w 3 (XX5_addHard_L12  l1 l2 l4 h) h 12 [(0, vP 40), (1, vI l1), (2, vJ l2), (4, vI l4)] [] := by
  refine S_lup3 (fun l1 l2 l4 => [(0, vP 40), (1, vI l1), (2, vJ l2), (4, vI l4)]) (fun self12 hs12 l1 l2 l4 h => ?_) FU
  unfold XX5_addHard_b12
  refine S_iload (kk := 3) g dX5_addHard_12 rfl ?_
  refine S_aload_n (kk := 0) g dX5_addHard_14 rfl rfl ?_
  refine S_getr g dX5_addHard_15 fl_Mender_34 (at_40 hw) rfl (rc_40_0 hw) ?_
  refine S_getr g dX5_addHard_18 fl_Mender_45 (at_17 hw) rfl (rc_17_0 hw) ?_
  refine S_callVi (As := []) g dX5_addHard_21 (sX8_wires hw 18 (pl_18 hw) _) rfl (at_18 hw) rfl im_X8_wires se_X8_wires cw_X8_wires ml_Mender_91 ini_Plan nd_X8_wires ⟨by decide, by decide⟩ (Nat.le_of_ble_eq_true rfl) (fun r2 h3 => ?_)
  refine S_icmp_ge (tgt := 81) g dX5_addHard_24 (by decide) ?_ ?_
  · refine S_iconst g dX5_addHard_81 ⟨by decide, by decide⟩ ?_
    refine S_istore g dX5_addHard_82 (by decide) rfl ?_
    refine S_sub g [1, 2, 3, 0] rfl ?_
    exact sX5_addHard_L84 hw g _ _ _ _
  · refine S_aload_n (kk := 0) g dX5_addHard_27 rfl rfl ?_
    refine S_getr g dX5_addHard_28 fl_Mender_28 (at_40 hw) rfl (rc_40_13 hw) ?_
    refine S_iload (kk := 3) g dX5_addHard_31 rfl ?_
    refine S_aload_n (kk := 0) g dX5_addHard_33 rfl rfl ?_
    refine S_getr g dX5_addHard_34 fl_Mender_28 (at_40 hw) rfl (rc_40_13 hw) ?_
    refine S_iload (kk := 3) g dX5_addHard_37 rfl ?_
    refine S_laload g dX5_addHard_39 (at_204 hw) ?_
    refine S_lload_n (kk := 2) g dX5_addHard_40 rfl rfl ?_
    refine S_ldc2 g dX5_addHard_41 ⟨by decide, by decide⟩ k_Mender_109 ?_
    refine S_lxor g dX5_addHard_44 ?_
    refine S_land g dX5_addHard_45 ?_
    refine S_lload_n (kk := 2) g dX5_addHard_46 rfl rfl ?_
    refine S_aload_n (kk := 0) g dX5_addHard_47 rfl rfl ?_
    refine S_getr g dX5_addHard_48 fl_Mender_34 (at_40 hw) rfl (rc_40_0 hw) ?_
    refine S_getr g dX5_addHard_51 fl_Mender_69 (at_17 hw) rfl (rc_17_4 hw) ?_
    refine S_iconst g dX5_addHard_54 ⟨by decide, by decide⟩ ?_
    refine S_iload (kk := 3) g dX5_addHard_55 rfl ?_
    refine S_imul g dX5_addHard_57 ?_
    refine S_iload_n (kk := 1) g dX5_addHard_58 rfl rfl ?_
    refine S_bipush g dX5_addHard_59 ⟨by decide, by decide⟩ rfl ?_
    refine S_idiv g dX5_addHard_61 (by decide) ?_
    refine S_iadd g dX5_addHard_62 ?_
    refine S_laload g dX5_addHard_63 (at_25 hw) ?_
    refine S_iload_n (kk := 1) g dX5_addHard_64 rfl rfl ?_
    refine S_bipush g dX5_addHard_65 ⟨by decide, by decide⟩ rfl ?_
    refine S_irem g dX5_addHard_67 (by decide) ?_
    refine S_lshr g dX5_addHard_68 ?_
    refine S_lconst (x := 1) g dX5_addHard_69 ⟨by decide, by decide⟩ rfl ?_
    refine S_land g dX5_addHard_70 ?_
    refine S_lneg g dX5_addHard_71 ?_
    refine S_land g dX5_addHard_72 ?_
    refine S_lor g dX5_addHard_73 ?_
    refine S_lastore g dX5_addHard_74 (at_204 hw) (fun h9 => ?_)
    refine S_iinc (kk := 3) g dX5_addHard_75 rfl (by decide) rfl ?_
    refine S_goto (tgt := 12) g dX5_addHard_78 (by decide) ?_
    refine S_sub g [1, 2, 3, 0] rfl ?_
    exact hs12 _ _ _ _

theorem sX5_addHard {G : GG} {w : Wd} (hw : okX w) (x0 : Int) (h : Hp) : SC G w yX5_addHard (Cond.code yX5_addHard cX5_addHard 7 (Option.none : Option Jvm.ClassFile.FieldType)) 2 3 [vP 40, vI x0] (XX5_addHard x0 h) h := by
  refine SC_of (own := "GatePatch$Mender") plain_Mender rfl (Nat.le_of_ble_eq_true rfl) (fun Γ hG g => ?_)
  subst hG
  show Sim Γ w 3 _ h 0 [(0, vP 40), (1, vI x0)] []
  unfold XX5_addHard
  refine S_ldc2 g dX5_addHard_0 ⟨by decide, by decide⟩ k_Mender_191 ?_
  refine S_aload_n (kk := 0) g dX5_addHard_3 rfl rfl ?_
  refine S_geti g dX5_addHard_4 fl_Mender_193 (at_40 hw) (Or.inl rfl) ?_
  refine S_lshl g dX5_addHard_7 ?_
  refine S_nmJ (fun v1 => ?_)
  refine S_lstore_n g dX5_addHard_8 rfl (by decide) rfl ?_
  refine S_iconst g dX5_addHard_9 ⟨by decide, by decide⟩ ?_
  refine S_istore g dX5_addHard_10 (by decide) rfl ?_
  refine S_sub g [2, 3, 1, 0] rfl ?_
  exact sX5_addHard_L12 hw g _ _ _ _

def XX5_startSearch_b6   (self6 : Int → Int → Hp → OR) (l1 l2 : Int) (h : Hp) : OR :=
  if 8 ≤ l2 then some (0, h) else cal (XX5_addHard l1 h) (fun r3 h4 => chk (l2 + 1) (self6 l1 (l2 + 1) h4))
def XX5_startSearch_L6   (l1 l2 : Int) (h : Hp) : OR := lup2 (XX5_startSearch_b6 ) FU l1 l2 h
def XX5_startSearch (x0 : Int) (h : Hp) : OR :=
  cal (XX5_findWrong h) (fun r1 h2 => XX5_startSearch_L6 x0 0 h2)
theorem sX5_startSearch_L6 {Γ : Cx} {w : Wd} (hw : okX w) (g : Gd Γ cX5_startSearch 3 "GatePatch$Mender" (Option.none : Option Jvm.ClassFile.FieldType) (rmd 3))   : ∀ (l1 l2 : Int) (h : Hp), Sim Γ w 3 (XX5_startSearch_L6  l1 l2 h) h 6 [(0, vP 40), (1, vI l1), (2, vI l2)] [] := by
  refine S_lup2 (fun l1 l2 => [(0, vP 40), (1, vI l1), (2, vI l2)]) (fun self6 hs6 l1 l2 h => ?_) FU
  unfold XX5_startSearch_b6
  refine S_iload_n (kk := 2) g dX5_startSearch_6 rfl rfl ?_
  refine S_bipush g dX5_startSearch_7 ⟨by decide, by decide⟩ rfl ?_
  refine S_icmp_ge (tgt := 23) g dX5_startSearch_9 (by decide) ?_ ?_
  · exact S_return g dX5_startSearch_23 rfl
  · refine S_aload_n (kk := 0) g dX5_startSearch_12 rfl rfl ?_
    refine S_iload_n (kk := 1) g dX5_startSearch_13 rfl rfl ?_
    refine S_callVv (As := [vI l1]) g dX5_startSearch_14 (sX5_addHard hw _ _) rfl (at_40 hw) rfl im_X5_addHard se_X5_addHard cw_X5_addHard ml_Mender_157 ini_Mender nd_X5_addHard ⟨by decide, by decide⟩ (Nat.le_of_ble_eq_true rfl) (fun r3 h4 => ?_)
    refine S_iinc (kk := 2) g dX5_startSearch_17 rfl (by decide) rfl ?_
    refine S_goto (tgt := 6) g dX5_startSearch_20 (by decide) ?_
    refine S_sub g [1, 2, 0] rfl ?_
    exact hs6 _ _ _

theorem sX5_startSearch {G : GG} {w : Wd} (hw : okX w) (x0 : Int) (h : Hp) : SC G w yX5_startSearch (Cond.code yX5_startSearch cX5_startSearch 3 (Option.none : Option Jvm.ClassFile.FieldType)) 3 3 [vP 40, vI x0] (XX5_startSearch x0 h) h := by
  refine SC_of (own := "GatePatch$Mender") plain_Mender rfl (Nat.le_of_ble_eq_true rfl) (fun Γ hG g => ?_)
  subst hG
  show Sim Γ w 3 _ h 0 [(0, vP 40), (1, vI x0)] []
  unfold XX5_startSearch
  refine S_aload_n (kk := 0) g dX5_startSearch_0 rfl rfl ?_
  refine S_callVv (As := []) g dX5_startSearch_1 (sX5_findWrong hw  _) rfl (at_40 hw) rfl im_X5_findWrong se_X5_findWrong cw_X5_findWrong ml_Mender_154 ini_Mender nd_X5_findWrong ⟨by decide, by decide⟩ (Nat.le_of_ble_eq_true rfl) (fun r1 h2 => ?_)
  refine S_iconst g dX5_startSearch_4 ⟨by decide, by decide⟩ ?_
  refine S_istore_n g dX5_startSearch_5 rfl (by decide) rfl ?_
  refine S_sub g [1, 2, 0] rfl ?_
  exact sX5_startSearch_L6 hw g _ _ _

def XX5_failsHard_b94   (self94 : Int → Int → Int → Hp → OR) (l1 l3 l5 : Int) (h : Hp) : OR :=
  if 8 ≤ l5 then if (jcmp (jand (jxor l3 (-1)) 255) 0) = 0 then zb 0 (some (0, h)) else zb 1 (some (1, h)) else chk (8 * l5) (nm (jor l3 (jshr l1 (8 * l5))) (fun v11 => chk (l5 + 1) (self94 l1 v11 (l5 + 1) h)))
def XX5_failsHard_L94   (l1 l3 l5 : Int) (h : Hp) : OR := lup3 (XX5_failsHard_b94 ) FU l1 l3 l5 h
def XX5_failsHard_b52   (self52 : Int → Hp → OR) (l1 : Int) (h : Hp) : OR :=
  if (h 40 4) ≤ l1 then cal (XX5_matching h) (fun r9 h10 => XX5_failsHard_L94 r9 0 0 h10) else inb l1 3 (chk (3 + l1) (inb (3 + l1) 6 (inb (h 41 l1.toNat) 48 (hm (wr h 42 (h 41 l1.toNat).toNat (cntC (3 + l1).toNat)) (fun h12 => chk (l1 + 1) (self52 (l1 + 1) h12))))))
def XX5_failsHard_L52   (l1 : Int) (h : Hp) : OR := lup1 (XX5_failsHard_b52 ) FU l1 h
def XX5_failsHard  (h : Hp) : OR :=
  cal (XX8_wires 18 h) (fun r1 h2 => acp 0 0 r1 48 48 (hm (cpy h2 204 (0 : Int).toNat 42 (0 : Int).toNat r1.toNat) (fun h3 => cal (XX8_seenCount 18 h3) (fun r4 h5 => acp 0 0 r4 6 6 (hm (cpy h5 205 (0 : Int).toNat 203 (0 : Int).toNat r4.toNat) (fun h6 => cal (XX5_findCone h6) (fun r7 h8 => XX5_failsHard_L52 0 h8)))))))
theorem sX5_failsHard_L94 {Γ : Cx} {w : Wd} (hw : okX w) (g : Gd Γ cX5_failsHard 6 "GatePatch$Mender" (Option.some Jvm.ClassFile.FieldType.boolean) (rmd 3))   : ∀ (l1 l3 l5 : Int) (h : Hp), Sim Γ w 0 (XX5_failsHard_L94  l1 l3 l5 h) h 94 [(1, vJ l1), (3, vJ l3), (5, vI l5)] [] := by
  refine S_lup3 (fun l1 l3 l5 => [(1, vJ l1), (3, vJ l3), (5, vI l5)]) (fun self94 hs94 l1 l3 l5 h => ?_) FU
  unfold XX5_failsHard_b94
  refine S_iload (kk := 2) g dX5_failsHard_94 rfl ?_
  refine S_bipush g dX5_failsHard_96 ⟨by decide, by decide⟩ rfl ?_
  refine S_icmp_ge (tgt := 117) g dX5_failsHard_98 (by decide) ?_ ?_
  · refine S_lload_n (kk := 1) g dX5_failsHard_117 rfl rfl ?_
    refine S_ldc2 g dX5_failsHard_118 ⟨by decide, by decide⟩ k_Mender_109 ?_
    refine S_lxor g dX5_failsHard_121 ?_
    refine S_ldc2 g dX5_failsHard_122 ⟨by decide, by decide⟩ k_Mender_189 ?_
    refine S_land g dX5_failsHard_125 ?_
    refine S_lconst (x := 0) g dX5_failsHard_126 ⟨by decide, by decide⟩ rfl ?_
    refine S_lcmp g dX5_failsHard_127 ?_
    refine S_if_eq (tgt := 135) g dX5_failsHard_128 (by decide) ?_ ?_
    · refine S_iconst g dX5_failsHard_135 ⟨by decide, by decide⟩ ?_
      exact S_zreturn g dX5_failsHard_136 rfl
    · refine S_iconst g dX5_failsHard_131 ⟨by decide, by decide⟩ ?_
      refine S_goto (tgt := 136) g dX5_failsHard_132 (by decide) ?_
      exact S_zreturn g dX5_failsHard_136 rfl
  · refine S_lload_n (kk := 1) g dX5_failsHard_101 rfl rfl ?_
    refine S_lload_n (kk := 0) g dX5_failsHard_102 rfl rfl ?_
    refine S_bipush g dX5_failsHard_103 ⟨by decide, by decide⟩ rfl ?_
    refine S_iload (kk := 2) g dX5_failsHard_105 rfl ?_
    refine S_imul g dX5_failsHard_107 ?_
    refine S_lshr g dX5_failsHard_108 ?_
    refine S_lor g dX5_failsHard_109 ?_
    refine S_nmJ (fun v11 => ?_)
    refine S_lstore_n g dX5_failsHard_110 rfl (by decide) rfl ?_
    refine S_iinc (kk := 2) g dX5_failsHard_111 rfl (by decide) rfl ?_
    refine S_goto (tgt := 94) g dX5_failsHard_114 (by decide) ?_
    refine S_sub g [2, 1, 0] rfl ?_
    exact hs94 _ _ _ _

theorem sX5_failsHard_L52 {Γ : Cx} {w : Wd} (hw : okX w) (g : Gd Γ cX5_failsHard 6 "GatePatch$Mender" (Option.some Jvm.ClassFile.FieldType.boolean) (rmd 3))   : ∀ (l1 : Int) (h : Hp), Sim Γ w 0 (XX5_failsHard_L52  l1 h) h 52 [(0, vP 40), (1, vI l1)] [] := by
  refine S_lup1 (fun l1 => [(0, vP 40), (1, vI l1)]) (fun self52 hs52 l1 h => ?_) FU
  unfold XX5_failsHard_b52
  refine S_iload_n (kk := 1) g dX5_failsHard_52 rfl rfl ?_
  refine S_aload_n (kk := 0) g dX5_failsHard_53 rfl rfl ?_
  refine S_geti g dX5_failsHard_54 fl_Mender_57 (at_40 hw) (Or.inl rfl) ?_
  refine S_icmp_ge (tgt := 84) g dX5_failsHard_57 (by decide) ?_ ?_
  · refine S_aload_n (kk := 0) g dX5_failsHard_84 rfl rfl ?_
    refine S_callVj (As := []) g dX5_failsHard_85 (sX5_matching hw  _) rfl (at_40 hw) rfl im_X5_matching se_X5_matching cw_X5_matching ml_Mender_111 ini_Mender nd_X5_matching ⟨by decide, by decide⟩ (Nat.le_of_ble_eq_true rfl) (fun r9 h10 => ?_)
    refine S_lstore_n g dX5_failsHard_88 rfl (by decide) rfl ?_
    refine S_lconst (x := 0) g dX5_failsHard_89 ⟨by decide, by decide⟩ rfl ?_
    refine S_lstore_n g dX5_failsHard_90 rfl (by decide) rfl ?_
    refine S_iconst g dX5_failsHard_91 ⟨by decide, by decide⟩ ?_
    refine S_istore g dX5_failsHard_92 (by decide) rfl ?_
    refine S_sub g [2, 1, 0] rfl ?_
    exact sX5_failsHard_L94 hw g _ _ _ _
  · refine S_aload_n (kk := 0) g dX5_failsHard_60 rfl rfl ?_
    refine S_getr g dX5_failsHard_61 fl_Mender_15 (at_40 hw) rfl (rc_40_6 hw) ?_
    refine S_aload_n (kk := 0) g dX5_failsHard_64 rfl rfl ?_
    refine S_getr g dX5_failsHard_65 fl_Mender_9 (at_40 hw) rfl (rc_40_3 hw) ?_
    refine S_iload_n (kk := 1) g dX5_failsHard_68 rfl rfl ?_
    refine S_iaload g dX5_failsHard_69 (at_41 hw) ?_
    refine S_gets2N g dX5_failsHard_70 gs_Mender_186 ?_
    refine S_iconst g dX5_failsHard_73 ⟨by decide, by decide⟩ ?_
    refine S_iload_n (kk := 1) g dX5_failsHard_74 rfl rfl ?_
    refine S_iadd g dX5_failsHard_75 ?_
    refine S_laloadS2 g dX5_failsHard_76 ?_
    refine S_lastore g dX5_failsHard_77 (at_42 hw) (fun h12 => ?_)
    refine S_iinc (kk := 1) g dX5_failsHard_78 rfl (by decide) rfl ?_
    refine S_goto (tgt := 52) g dX5_failsHard_81 (by decide) ?_
    refine S_sub g [1, 0] rfl ?_
    exact hs52 _ _

theorem sX5_failsHard {G : GG} {w : Wd} (hw : okX w)  (h : Hp) : SC G w yX5_failsHard (Cond.code yX5_failsHard cX5_failsHard 6 (Option.some Jvm.ClassFile.FieldType.boolean)) 3 0 [vP 40] (XX5_failsHard  h) h := by
  refine SC_of (own := "GatePatch$Mender") plain_Mender rfl (Nat.le_of_ble_eq_true rfl) (fun Γ hG g => ?_)
  subst hG
  show Sim Γ w 0 _ h 0 [(0, vP 40)] []
  unfold XX5_failsHard
  refine S_aload_n (kk := 0) g dX5_failsHard_0 rfl rfl ?_
  refine S_getr g dX5_failsHard_1 fl_Mender_28 (at_40 hw) rfl (rc_40_13 hw) ?_
  refine S_iconst g dX5_failsHard_4 ⟨by decide, by decide⟩ ?_
  refine S_aload_n (kk := 0) g dX5_failsHard_5 rfl rfl ?_
  refine S_getr g dX5_failsHard_6 fl_Mender_15 (at_40 hw) rfl (rc_40_6 hw) ?_
  refine S_iconst g dX5_failsHard_9 ⟨by decide, by decide⟩ ?_
  refine S_aload_n (kk := 0) g dX5_failsHard_10 rfl rfl ?_
  refine S_getr g dX5_failsHard_11 fl_Mender_34 (at_40 hw) rfl (rc_40_0 hw) ?_
  refine S_getr g dX5_failsHard_14 fl_Mender_45 (at_17 hw) rfl (rc_17_0 hw) ?_
  refine S_callVi (As := []) g dX5_failsHard_17 (sX8_wires hw 18 (pl_18 hw) _) rfl (at_18 hw) rfl im_X8_wires se_X8_wires cw_X8_wires ml_Mender_91 ini_Plan nd_X8_wires ⟨by decide, by decide⟩ (Nat.le_of_ble_eq_true rfl) (fun r1 h2 => ?_)
  refine S_copyl g dX5_failsHard_20 ml_Mender_180 acp_nat acp_st ini_Sys (at_204 hw) (at_42 hw) (by decide) (by decide) (fun h3 => ?_)
  refine S_aload_n (kk := 0) g dX5_failsHard_23 rfl rfl ?_
  refine S_getr g dX5_failsHard_24 fl_Mender_31 (at_40 hw) rfl (rc_40_14 hw) ?_
  refine S_iconst g dX5_failsHard_27 ⟨by decide, by decide⟩ ?_
  refine S_aload_n (kk := 0) g dX5_failsHard_28 rfl rfl ?_
  refine S_getr g dX5_failsHard_29 fl_Mender_19 (at_40 hw) rfl (rc_40_9 hw) ?_
  refine S_iconst g dX5_failsHard_32 ⟨by decide, by decide⟩ ?_
  refine S_aload_n (kk := 0) g dX5_failsHard_33 rfl rfl ?_
  refine S_getr g dX5_failsHard_34 fl_Mender_34 (at_40 hw) rfl (rc_40_0 hw) ?_
  refine S_getr g dX5_failsHard_37 fl_Mender_45 (at_17 hw) rfl (rc_17_0 hw) ?_
  refine S_callVi (As := []) g dX5_failsHard_40 (sX8_seenCount hw 18 (pl_18 hw) _) rfl (at_18 hw) rfl im_X8_seenCount se_X8_seenCount cw_X8_seenCount ml_Mender_65 ini_Plan nd_X8_seenCount ⟨by decide, by decide⟩ (Nat.le_of_ble_eq_true rfl) (fun r4 h5 => ?_)
  refine S_copyl g dX5_failsHard_43 ml_Mender_180 acp_nat acp_st ini_Sys (at_205 hw) (at_203 hw) (by decide) (by decide) (fun h6 => ?_)
  refine S_aload_n (kk := 0) g dX5_failsHard_46 rfl rfl ?_
  refine S_callVv (As := []) g dX5_failsHard_47 (sX5_findCone hw  _) rfl (at_40 hw) rfl im_X5_findCone se_X5_findCone cw_X5_findCone ml_Mender_94 ini_Mender nd_X5_findCone ⟨by decide, by decide⟩ (Nat.le_of_ble_eq_true rfl) (fun r7 h8 => ?_)
  refine S_iconst g dX5_failsHard_50 ⟨by decide, by decide⟩ ?_
  refine S_istore_n g dX5_failsHard_51 rfl (by decide) rfl ?_
  refine S_sub g [1, 0] rfl ?_
  exact sX5_failsHard_L52 hw g _ _

def XX5_isEnough_p78   (l4 : Int) (h : Hp) : OR :=
  if l4 = 1000 then zb 1 (some (1, h)) else zb 0 (some (0, h))
def XX5_isEnough_b15   (self15 : Int → Hp → OR) (l4 : Int) (h : Hp) : OR :=
  if (h 40 11) ≤ l4 then cal (XX5_failsHard h) (fun r3 h4 => if r3 = 0 then cal (XX5_firstUnmended h4) (fun r5 h6 => if r5 = 1000 then XX5_isEnough_p78 r5 h6 else cal (XX5_addHard r5 h6) (fun r7 h8 => XX5_isEnough_p78 r5 h8)) else zb 0 (some (0, h4))) else inb l4 6 (if (jcmp (jand (h 44 l4.toNat) (h 40 5)) 0) = 0 then zb 0 (some (0, h)) else chk (l4 + 1) (self15 (l4 + 1) h))
def XX5_isEnough_L15   (l4 : Int) (h : Hp) : OR := lup1 (XX5_isEnough_b15 ) FU l4 h
def XX5_isEnough (x0 : Int) (x1 : Int) (x2 : Int) (h : Hp) : OR :=
  cal (XX5_aim x0 x1 x2 h) (fun r1 h2 => if r1 = 0 then zb 0 (some (0, h2)) else XX5_isEnough_L15 0 h2)
theorem sX5_isEnough_p78 {Γ : Cx} {w : Wd} (hw : okX w) (g : Gd Γ cX5_isEnough 5 "GatePatch$Mender" (Option.some Jvm.ClassFile.FieldType.boolean) (rmd 6))   (l4 : Int) (h : Hp) : Sim Γ w 0 (XX5_isEnough_p78  l4  h) h 78 [(4, vI l4)] [] := by
  unfold XX5_isEnough_p78
  refine S_iload (kk := 0) g dX5_isEnough_78 rfl ?_
  refine S_sipush g dX5_isEnough_80 ⟨by decide, by decide⟩ rfl ?_
  refine S_icmp_ne (tgt := 90) g dX5_isEnough_83 (by decide) ?_ ?_
  · refine S_iconst g dX5_isEnough_90 ⟨by decide, by decide⟩ ?_
    exact S_zreturn g dX5_isEnough_91 rfl
  · refine S_iconst g dX5_isEnough_86 ⟨by decide, by decide⟩ ?_
    refine S_goto (tgt := 91) g dX5_isEnough_87 (by decide) ?_
    exact S_zreturn g dX5_isEnough_91 rfl

theorem sX5_isEnough_L15 {Γ : Cx} {w : Wd} (hw : okX w) (g : Gd Γ cX5_isEnough 5 "GatePatch$Mender" (Option.some Jvm.ClassFile.FieldType.boolean) (rmd 6))   : ∀ (l4 : Int) (h : Hp), Sim Γ w 0 (XX5_isEnough_L15  l4 h) h 15 [(0, vP 40), (4, vI l4)] [] := by
  refine S_lup1 (fun l4 => [(0, vP 40), (4, vI l4)]) (fun self15 hs15 l4 h => ?_) FU
  unfold XX5_isEnough_b15
  refine S_iload (kk := 1) g dX5_isEnough_15 rfl ?_
  refine S_aload_n (kk := 0) g dX5_isEnough_17 rfl rfl ?_
  refine S_geti g dX5_isEnough_18 fl_Mender_167 (at_40 hw) (Or.inl rfl) ?_
  refine S_icmp_ge (tgt := 49) g dX5_isEnough_21 (by decide) ?_ ?_
  · refine S_aload_n (kk := 0) g dX5_isEnough_49 rfl rfl ?_
    refine S_callVi (As := []) g dX5_isEnough_50 (sX5_failsHard hw  _) rfl (at_40 hw) rfl im_X5_failsHard se_X5_failsHard cw_X5_failsHard ml_Mender_173 ini_Mender nd_X5_failsHard ⟨by decide, by decide⟩ (Nat.le_of_ble_eq_true rfl) (fun r3 h4 => ?_)
    refine S_if_eq (tgt := 58) g dX5_isEnough_53 (by decide) ?_ ?_
    · refine S_aload_n (kk := 0) g dX5_isEnough_58 rfl rfl ?_
      refine S_callVi (As := []) g dX5_isEnough_59 (sX5_firstUnmended hw  _) rfl (at_40 hw) rfl im_X5_firstUnmended se_X5_firstUnmended cw_X5_firstUnmended ml_Mender_177 ini_Mender nd_X5_firstUnmended ⟨by decide, by decide⟩ (Nat.le_of_ble_eq_true rfl) (fun r5 h6 => ?_)
      refine S_istore g dX5_isEnough_62 (by decide) rfl ?_
      refine S_iload (kk := 0) g dX5_isEnough_64 rfl ?_
      refine S_sipush g dX5_isEnough_66 ⟨by decide, by decide⟩ rfl ?_
      refine S_icmp_eq (tgt := 78) g dX5_isEnough_69 (by decide) ?_ ?_
      · refine S_sub g [0] rfl ?_
        exact sX5_isEnough_p78 hw g _ _
      · refine S_aload_n (kk := 1) g dX5_isEnough_72 rfl rfl ?_
        refine S_iload (kk := 0) g dX5_isEnough_73 rfl ?_
        refine S_callVv (As := [vI r5]) g dX5_isEnough_75 (sX5_addHard hw _ _) rfl (at_40 hw) rfl im_X5_addHard se_X5_addHard cw_X5_addHard ml_Mender_157 ini_Mender nd_X5_addHard ⟨by decide, by decide⟩ (Nat.le_of_ble_eq_true rfl) (fun r7 h8 => ?_)
        refine S_sub g [0] rfl ?_
        exact sX5_isEnough_p78 hw g _ _
    · refine S_iconst g dX5_isEnough_56 ⟨by decide, by decide⟩ ?_
      exact S_zreturn g dX5_isEnough_57 rfl
  · refine S_aload_n (kk := 0) g dX5_isEnough_24 rfl rfl ?_
    refine S_getr g dX5_isEnough_25 fl_Mender_25 (at_40 hw) rfl (rc_40_10 hw) ?_
    refine S_iload (kk := 1) g dX5_isEnough_28 rfl ?_
    refine S_laload g dX5_isEnough_30 (at_44 hw) ?_
    refine S_aload_n (kk := 0) g dX5_isEnough_31 rfl rfl ?_
    refine S_getj g dX5_isEnough_32 fl_Mender_61 (at_40 hw) rfl ?_
    refine S_land g dX5_isEnough_35 ?_
    refine S_lconst (x := 0) g dX5_isEnough_36 ⟨by decide, by decide⟩ rfl ?_
    refine S_lcmp g dX5_isEnough_37 ?_
    refine S_if_ne (tgt := 43) g dX5_isEnough_38 (by decide) ?_ ?_
    · refine S_iinc (kk := 1) g dX5_isEnough_43 rfl (by decide) rfl ?_
      refine S_goto (tgt := 15) g dX5_isEnough_46 (by decide) ?_
      refine S_sub g [1, 0] rfl ?_
      exact hs15 _ _
    · refine S_iconst g dX5_isEnough_41 ⟨by decide, by decide⟩ ?_
      exact S_zreturn g dX5_isEnough_42 rfl

theorem sX5_isEnough {G : GG} {w : Wd} (hw : okX w) (x0 : Int) (x1 : Int) (x2 : Int) (h : Hp) : SC G w yX5_isEnough (Cond.code yX5_isEnough cX5_isEnough 5 (Option.some Jvm.ClassFile.FieldType.boolean)) 6 0 [vP 40, vI x0, vI x1, vI x2] (XX5_isEnough x0 x1 x2 h) h := by
  refine SC_of (own := "GatePatch$Mender") plain_Mender rfl (Nat.le_of_ble_eq_true rfl) (fun Γ hG g => ?_)
  subst hG
  show Sim Γ w 0 _ h 0 [(0, vP 40), (1, vI x0), (2, vI x1), (3, vI x2)] []
  unfold XX5_isEnough
  refine S_aload_n (kk := 0) g dX5_isEnough_0 rfl rfl ?_
  refine S_iload_n (kk := 1) g dX5_isEnough_1 rfl rfl ?_
  refine S_iload_n (kk := 2) g dX5_isEnough_2 rfl rfl ?_
  refine S_iload_n (kk := 3) g dX5_isEnough_3 rfl rfl ?_
  refine S_callVi (As := [vI x0, vI x1, vI x2]) g dX5_isEnough_4 (sX5_aim hw _ _ _ _) rfl (at_40 hw) rfl im_X5_aim se_X5_aim cw_X5_aim ml_Mender_170 ini_Mender nd_X5_aim ⟨by decide, by decide⟩ (Nat.le_of_ble_eq_true rfl) (fun r1 h2 => ?_)
  refine S_if_ne (tgt := 12) g dX5_isEnough_7 (by decide) ?_ ?_
  · refine S_iconst g dX5_isEnough_12 ⟨by decide, by decide⟩ ?_
    refine S_istore g dX5_isEnough_13 (by decide) rfl ?_
    refine S_sub g [1, 0] rfl ?_
    exact sX5_isEnough_L15 hw g _ _
  · refine S_iconst g dX5_isEnough_10 ⟨by decide, by decide⟩ ?_
    exact S_zreturn g dX5_isEnough_11 rfl

def XX5_search_p121  (self22 : Int → Int → Int → Hp → OR) (l1 l2 l3 : Int) (h : Hp) : OR :=
  chk (l3 + 1) (self22 l1 l2 (l3 + 1) h)
def XX5_search_p115  (self22 : Int → Int → Int → Hp → OR) (self49 : Int → Int → Int → Int → Hp → OR) (l1 l2 l3 l4 : Int) (h : Hp) : OR :=
  chk (l4 + 1) (self49 l1 l2 l3 (l4 + 1) h)
def XX5_search_b84  (self22 : Int → Int → Int → Hp → OR) (self49 : Int → Int → Int → Int → Hp → OR) (self84 : Int → Int → Int → Int → Int → Hp → OR) (l1 l2 l3 l4 l5 : Int) (h : Hp) : OR :=
  if l2 ≤ l5 then XX5_search_p115 self22 self49 l1 l2 l3 l4 h else if l1 ≤ 2 then XX5_search_p115 self22 self49 l1 l2 l3 l4 h else cal (XX5_isEnough l3 l4 l5 h) (fun r7 h8 => if r7 = 0 then chk (l5 + 1) (self84 l1 l2 l3 l4 (l5 + 1) h8) else zb 1 (some (1, h8)))
def XX5_search_L84  (self22 : Int → Int → Int → Hp → OR) (self49 : Int → Int → Int → Int → Hp → OR) (l1 l2 l3 l4 l5 : Int) (h : Hp) : OR := lup5 (XX5_search_b84 self22 self49) FU l1 l2 l3 l4 l5 h
def XX5_search_p78  (self22 : Int → Int → Int → Hp → OR) (self49 : Int → Int → Int → Int → Hp → OR) (l1 l2 l3 l4 : Int) (h : Hp) : OR :=
  chk (l4 + 1) (nm (l4 + 1) (fun v6 => XX5_search_L84 self22 self49 l1 l2 l3 l4 v6 h))
def XX5_search_b49  (self22 : Int → Int → Int → Hp → OR) (self49 : Int → Int → Int → Int → Hp → OR) (l1 l2 l3 l4 : Int) (h : Hp) : OR :=
  if l2 ≤ l4 then XX5_search_p121 self22 l1 l2 l3 h else if l1 ≤ 1 then XX5_search_p121 self22 l1 l2 l3 h else if l1 = 2 then cal (XX5_isEnough l3 l4 (-1) h) (fun r9 h10 => if r9 = 0 then XX5_search_p78 self22 self49 l1 l2 l3 l4 h10 else zb 1 (some (1, h10))) else XX5_search_p78 self22 self49 l1 l2 l3 l4 h
def XX5_search_L49  (self22 : Int → Int → Int → Hp → OR) (l1 l2 l3 l4 : Int) (h : Hp) : OR := lup4 (XX5_search_b49 self22) FU l1 l2 l3 l4 h
def XX5_search_p44  (self22 : Int → Int → Int → Hp → OR) (l1 l2 l3 : Int) (h : Hp) : OR :=
  chk (l3 + 1) (nm (l3 + 1) (fun v5 => XX5_search_L49 self22 l1 l2 l3 v5 h))
def XX5_search_b22   (self22 : Int → Int → Int → Hp → OR) (l1 l2 l3 : Int) (h : Hp) : OR :=
  if l2 ≤ l3 then zb 0 (some (0, h)) else if l1 = 1 then cal (XX5_isEnough l3 (-1) (-1) h) (fun r11 h12 => if r11 = 0 then XX5_search_p44 self22 l1 l2 l3 h12 else zb 1 (some (1, h12))) else XX5_search_p44 self22 l1 l2 l3 h
def XX5_search_L22   (l1 l2 l3 : Int) (h : Hp) : OR := lup3 (XX5_search_b22 ) FU l1 l2 l3 h
def XX5_search (x0 : Int) (h : Hp) : OR :=
  cal (XX8_wires 18 h) (fun r1 h2 => cal (XX8_sources 18 h2) (fun r3 h4 => XX5_search_L22 x0 r1 r3 h4))
theorem sX5_search_p121 {Γ : Cx} {w : Wd} (hw : okX w) (g : Gd Γ cX5_search 6 "GatePatch$Mender" (Option.some Jvm.ClassFile.FieldType.boolean) (rmd 7))  (self22 : Int → Int → Int → Hp → OR) (hs22 : ∀ (x0 x1 x2 : Int) (h : Hp), Sim Γ w 0 (self22 x0 x1 x2 h) h 22 [(0, vP 40), (1, vI x0), (2, vI x1), (3, vI x2)] []) (l1 l2 l3 : Int) (h : Hp) : Sim Γ w 0 (XX5_search_p121 self22 l1 l2 l3  h) h 121 [(0, vP 40), (1, vI l1), (2, vI l2), (3, vI l3)] [] := by
  unfold XX5_search_p121
  refine S_iinc (kk := 3) g dX5_search_121 rfl (by decide) rfl ?_
  refine S_goto (tgt := 22) g dX5_search_124 (by decide) ?_
  refine S_sub g [1, 2, 3, 0] rfl ?_
  exact hs22 _ _ _ _

theorem sX5_search_p115 {Γ : Cx} {w : Wd} (hw : okX w) (g : Gd Γ cX5_search 6 "GatePatch$Mender" (Option.some Jvm.ClassFile.FieldType.boolean) (rmd 7))  (self22 : Int → Int → Int → Hp → OR) (hs22 : ∀ (x0 x1 x2 : Int) (h : Hp), Sim Γ w 0 (self22 x0 x1 x2 h) h 22 [(0, vP 40), (1, vI x0), (2, vI x1), (3, vI x2)] []) (self49 : Int → Int → Int → Int → Hp → OR) (hs49 : ∀ (x0 x1 x2 x3 : Int) (h : Hp), Sim Γ w 0 (self49 x0 x1 x2 x3 h) h 49 [(0, vP 40), (1, vI x0), (2, vI x1), (3, vI x2), (4, vI x3)] []) (l1 l2 l3 l4 : Int) (h : Hp) : Sim Γ w 0 (XX5_search_p115 self22 self49 l1 l2 l3 l4  h) h 115 [(0, vP 40), (1, vI l1), (2, vI l2), (3, vI l3), (4, vI l4)] [] := by
  unfold XX5_search_p115
  refine S_iinc (kk := 4) g dX5_search_115 rfl (by decide) rfl ?_
  refine S_goto (tgt := 49) g dX5_search_118 (by decide) ?_
  refine S_sub g [1, 2, 3, 4, 0] rfl ?_
  exact hs49 _ _ _ _ _

theorem sX5_search_L84 {Γ : Cx} {w : Wd} (hw : okX w) (g : Gd Γ cX5_search 6 "GatePatch$Mender" (Option.some Jvm.ClassFile.FieldType.boolean) (rmd 7))  (self22 : Int → Int → Int → Hp → OR) (hs22 : ∀ (x0 x1 x2 : Int) (h : Hp), Sim Γ w 0 (self22 x0 x1 x2 h) h 22 [(0, vP 40), (1, vI x0), (2, vI x1), (3, vI x2)] []) (self49 : Int → Int → Int → Int → Hp → OR) (hs49 : ∀ (x0 x1 x2 x3 : Int) (h : Hp), Sim Γ w 0 (self49 x0 x1 x2 x3 h) h 49 [(0, vP 40), (1, vI x0), (2, vI x1), (3, vI x2), (4, vI x3)] []) : ∀ (l1 l2 l3 l4 l5 : Int) (h : Hp), Sim Γ w 0 (XX5_search_L84 self22 self49 l1 l2 l3 l4 l5 h) h 84 [(0, vP 40), (1, vI l1), (2, vI l2), (3, vI l3), (4, vI l4), (5, vI l5)] [] := by
  refine S_lup5 (fun l1 l2 l3 l4 l5 => [(0, vP 40), (1, vI l1), (2, vI l2), (3, vI l3), (4, vI l4), (5, vI l5)]) (fun self84 hs84 l1 l2 l3 l4 l5 h => ?_) FU
  unfold XX5_search_b84
  refine S_iload (kk := 5) g dX5_search_84 rfl ?_
  refine S_iload_n (kk := 2) g dX5_search_86 rfl rfl ?_
  refine S_icmp_ge (tgt := 115) g dX5_search_87 (by decide) ?_ ?_
  · refine S_sub g [0, 1, 2, 3, 4] rfl ?_
    exact sX5_search_p115 hw g self22 hs22 self49 hs49 _ _ _ _ _
  · refine S_iload_n (kk := 1) g dX5_search_90 rfl rfl ?_
    refine S_iconst g dX5_search_91 ⟨by decide, by decide⟩ ?_
    refine S_icmp_le (tgt := 115) g dX5_search_92 (by decide) ?_ ?_
    · refine S_sub g [0, 1, 2, 3, 4] rfl ?_
      exact sX5_search_p115 hw g self22 hs22 self49 hs49 _ _ _ _ _
    · refine S_aload_n (kk := 0) g dX5_search_95 rfl rfl ?_
      refine S_iload_n (kk := 3) g dX5_search_96 rfl rfl ?_
      refine S_iload (kk := 4) g dX5_search_97 rfl ?_
      refine S_iload (kk := 5) g dX5_search_99 rfl ?_
      refine S_callVi (As := [vI l3, vI l4, vI l5]) g dX5_search_101 (sX5_isEnough hw _ _ _ _) rfl (at_40 hw) rfl im_X5_isEnough se_X5_isEnough cw_X5_isEnough ml_Mender_163 ini_Mender nd_X5_isEnough ⟨by decide, by decide⟩ (Nat.le_of_ble_eq_true rfl) (fun r7 h8 => ?_)
      refine S_if_eq (tgt := 109) g dX5_search_104 (by decide) ?_ ?_
      · refine S_iinc (kk := 5) g dX5_search_109 rfl (by decide) rfl ?_
        refine S_goto (tgt := 84) g dX5_search_112 (by decide) ?_
        refine S_sub g [1, 2, 3, 4, 5, 0] rfl ?_
        exact hs84 _ _ _ _ _ _
      · refine S_iconst g dX5_search_107 ⟨by decide, by decide⟩ ?_
        exact S_zreturn g dX5_search_108 rfl

theorem sX5_search_p78 {Γ : Cx} {w : Wd} (hw : okX w) (g : Gd Γ cX5_search 6 "GatePatch$Mender" (Option.some Jvm.ClassFile.FieldType.boolean) (rmd 7))  (self22 : Int → Int → Int → Hp → OR) (hs22 : ∀ (x0 x1 x2 : Int) (h : Hp), Sim Γ w 0 (self22 x0 x1 x2 h) h 22 [(0, vP 40), (1, vI x0), (2, vI x1), (3, vI x2)] []) (self49 : Int → Int → Int → Int → Hp → OR) (hs49 : ∀ (x0 x1 x2 x3 : Int) (h : Hp), Sim Γ w 0 (self49 x0 x1 x2 x3 h) h 49 [(0, vP 40), (1, vI x0), (2, vI x1), (3, vI x2), (4, vI x3)] []) (l1 l2 l3 l4 : Int) (h : Hp) : Sim Γ w 0 (XX5_search_p78 self22 self49 l1 l2 l3 l4  h) h 78 [(0, vP 40), (1, vI l1), (2, vI l2), (3, vI l3), (4, vI l4)] [] := by
  unfold XX5_search_p78
  refine S_iload (kk := 4) g dX5_search_78 rfl ?_
  refine S_iconst g dX5_search_80 ⟨by decide, by decide⟩ ?_
  refine S_iadd g dX5_search_81 ?_
  refine S_nmI (fun v6 => ?_)
  refine S_istore g dX5_search_82 (by decide) rfl ?_
  refine S_sub g [1, 2, 3, 4, 5, 0] rfl ?_
  exact sX5_search_L84 hw g self22 hs22 self49 hs49 _ _ _ _ _ _

theorem sX5_search_L49 {Γ : Cx} {w : Wd} (hw : okX w) (g : Gd Γ cX5_search 6 "GatePatch$Mender" (Option.some Jvm.ClassFile.FieldType.boolean) (rmd 7))  (self22 : Int → Int → Int → Hp → OR) (hs22 : ∀ (x0 x1 x2 : Int) (h : Hp), Sim Γ w 0 (self22 x0 x1 x2 h) h 22 [(0, vP 40), (1, vI x0), (2, vI x1), (3, vI x2)] []) : ∀ (l1 l2 l3 l4 : Int) (h : Hp), Sim Γ w 0 (XX5_search_L49 self22 l1 l2 l3 l4 h) h 49 [(0, vP 40), (1, vI l1), (2, vI l2), (3, vI l3), (4, vI l4)] [] := by
  refine S_lup4 (fun l1 l2 l3 l4 => [(0, vP 40), (1, vI l1), (2, vI l2), (3, vI l3), (4, vI l4)]) (fun self49 hs49 l1 l2 l3 l4 h => ?_) FU
  unfold XX5_search_b49
  refine S_iload (kk := 4) g dX5_search_49 rfl ?_
  refine S_iload_n (kk := 2) g dX5_search_51 rfl rfl ?_
  refine S_icmp_ge (tgt := 121) g dX5_search_52 (by decide) ?_ ?_
  · refine S_sub g [0, 1, 2, 3] rfl ?_
    exact sX5_search_p121 hw g self22 hs22 _ _ _ _
  · refine S_iload_n (kk := 1) g dX5_search_55 rfl rfl ?_
    refine S_iconst g dX5_search_56 ⟨by decide, by decide⟩ ?_
    refine S_icmp_le (tgt := 121) g dX5_search_57 (by decide) ?_ ?_
    · refine S_sub g [0, 1, 2, 3] rfl ?_
      exact sX5_search_p121 hw g self22 hs22 _ _ _ _
    · refine S_iload_n (kk := 1) g dX5_search_60 rfl rfl ?_
      refine S_iconst g dX5_search_61 ⟨by decide, by decide⟩ ?_
      refine S_icmp_ne (tgt := 78) g dX5_search_62 (by decide) ?_ ?_
      · exact sX5_search_p78 hw g self22 hs22 self49 hs49 _ _ _ _ _
      · refine S_aload_n (kk := 0) g dX5_search_65 rfl rfl ?_
        refine S_iload_n (kk := 3) g dX5_search_66 rfl rfl ?_
        refine S_iload (kk := 4) g dX5_search_67 rfl ?_
        refine S_iconst g dX5_search_69 ⟨by decide, by decide⟩ ?_
        refine S_callVi (As := [vI l3, vI l4, vI (-1)]) g dX5_search_70 (sX5_isEnough hw _ _ _ _) rfl (at_40 hw) rfl im_X5_isEnough se_X5_isEnough cw_X5_isEnough ml_Mender_163 ini_Mender nd_X5_isEnough ⟨by decide, by decide⟩ (Nat.le_of_ble_eq_true rfl) (fun r9 h10 => ?_)
        refine S_if_eq (tgt := 78) g dX5_search_73 (by decide) ?_ ?_
        · exact sX5_search_p78 hw g self22 hs22 self49 hs49 _ _ _ _ _
        · refine S_iconst g dX5_search_76 ⟨by decide, by decide⟩ ?_
          exact S_zreturn g dX5_search_77 rfl

theorem sX5_search_p44 {Γ : Cx} {w : Wd} (hw : okX w) (g : Gd Γ cX5_search 6 "GatePatch$Mender" (Option.some Jvm.ClassFile.FieldType.boolean) (rmd 7))  (self22 : Int → Int → Int → Hp → OR) (hs22 : ∀ (x0 x1 x2 : Int) (h : Hp), Sim Γ w 0 (self22 x0 x1 x2 h) h 22 [(0, vP 40), (1, vI x0), (2, vI x1), (3, vI x2)] []) (l1 l2 l3 : Int) (h : Hp) : Sim Γ w 0 (XX5_search_p44 self22 l1 l2 l3  h) h 44 [(0, vP 40), (1, vI l1), (2, vI l2), (3, vI l3)] [] := by
  unfold XX5_search_p44
  refine S_iload_n (kk := 3) g dX5_search_44 rfl rfl ?_
  refine S_iconst g dX5_search_45 ⟨by decide, by decide⟩ ?_
  refine S_iadd g dX5_search_46 ?_
  refine S_nmI (fun v5 => ?_)
  refine S_istore g dX5_search_47 (by decide) rfl ?_
  refine S_sub g [1, 2, 3, 4, 0] rfl ?_
  exact sX5_search_L49 hw g self22 hs22 _ _ _ _ _

theorem sX5_search_L22 {Γ : Cx} {w : Wd} (hw : okX w) (g : Gd Γ cX5_search 6 "GatePatch$Mender" (Option.some Jvm.ClassFile.FieldType.boolean) (rmd 7))   : ∀ (l1 l2 l3 : Int) (h : Hp), Sim Γ w 0 (XX5_search_L22  l1 l2 l3 h) h 22 [(0, vP 40), (1, vI l1), (2, vI l2), (3, vI l3)] [] := by
  refine S_lup3 (fun l1 l2 l3 => [(0, vP 40), (1, vI l1), (2, vI l2), (3, vI l3)]) (fun self22 hs22 l1 l2 l3 h => ?_) FU
  unfold XX5_search_b22
  refine S_iload_n (kk := 3) g dX5_search_22 rfl rfl ?_
  refine S_iload_n (kk := 2) g dX5_search_23 rfl rfl ?_
  refine S_icmp_ge (tgt := 127) g dX5_search_24 (by decide) ?_ ?_
  · refine S_iconst g dX5_search_127 ⟨by decide, by decide⟩ ?_
    exact S_zreturn g dX5_search_128 rfl
  · refine S_iload_n (kk := 1) g dX5_search_27 rfl rfl ?_
    refine S_iconst g dX5_search_28 ⟨by decide, by decide⟩ ?_
    refine S_icmp_ne (tgt := 44) g dX5_search_29 (by decide) ?_ ?_
    · exact sX5_search_p44 hw g self22 hs22 _ _ _ _
    · refine S_aload_n (kk := 0) g dX5_search_32 rfl rfl ?_
      refine S_iload_n (kk := 3) g dX5_search_33 rfl rfl ?_
      refine S_iconst g dX5_search_34 ⟨by decide, by decide⟩ ?_
      refine S_iconst g dX5_search_35 ⟨by decide, by decide⟩ ?_
      refine S_callVi (As := [vI l3, vI (-1), vI (-1)]) g dX5_search_36 (sX5_isEnough hw _ _ _ _) rfl (at_40 hw) rfl im_X5_isEnough se_X5_isEnough cw_X5_isEnough ml_Mender_163 ini_Mender nd_X5_isEnough ⟨by decide, by decide⟩ (Nat.le_of_ble_eq_true rfl) (fun r11 h12 => ?_)
      refine S_if_eq (tgt := 44) g dX5_search_39 (by decide) ?_ ?_
      · exact sX5_search_p44 hw g self22 hs22 _ _ _ _
      · refine S_iconst g dX5_search_42 ⟨by decide, by decide⟩ ?_
        exact S_zreturn g dX5_search_43 rfl

theorem sX5_search {G : GG} {w : Wd} (hw : okX w) (x0 : Int) (h : Hp) : SC G w yX5_search (Cond.code yX5_search cX5_search 6 (Option.some Jvm.ClassFile.FieldType.boolean)) 7 0 [vP 40, vI x0] (XX5_search x0 h) h := by
  refine SC_of (own := "GatePatch$Mender") plain_Mender rfl (Nat.le_of_ble_eq_true rfl) (fun Γ hG g => ?_)
  subst hG
  show Sim Γ w 0 _ h 0 [(0, vP 40), (1, vI x0)] []
  unfold XX5_search
  refine S_aload_n (kk := 0) g dX5_search_0 rfl rfl ?_
  refine S_getr g dX5_search_1 fl_Mender_34 (at_40 hw) rfl (rc_40_0 hw) ?_
  refine S_getr g dX5_search_4 fl_Mender_45 (at_17 hw) rfl (rc_17_0 hw) ?_
  refine S_callVi (As := []) g dX5_search_7 (sX8_wires hw 18 (pl_18 hw) _) rfl (at_18 hw) rfl im_X8_wires se_X8_wires cw_X8_wires ml_Mender_91 ini_Plan nd_X8_wires ⟨by decide, by decide⟩ (Nat.le_of_ble_eq_true rfl) (fun r1 h2 => ?_)
  refine S_istore_n g dX5_search_10 rfl (by decide) rfl ?_
  refine S_aload_n (kk := 1) g dX5_search_11 rfl rfl ?_
  refine S_getr g dX5_search_12 fl_Mender_34 (at_40 hw) rfl (rc_40_0 hw) ?_
  refine S_getr g dX5_search_15 fl_Mender_45 (at_17 hw) rfl (rc_17_0 hw) ?_
  refine S_callVi (As := []) g dX5_search_18 (sX8_sources hw 18 (pl_18 hw) _) rfl (at_18 hw) rfl im_X8_sources se_X8_sources cw_X8_sources ml_Mender_160 ini_Plan nd_X8_sources ⟨by decide, by decide⟩ (Nat.le_of_ble_eq_true rfl) (fun r3 h4 => ?_)
  refine S_istore_n g dX5_search_21 rfl (by decide) rfl ?_
  refine S_sub g [2, 3, 1, 0] rfl ?_
  exact sX5_search_L22 hw g _ _ _ _

