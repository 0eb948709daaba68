abbrev cJ6_bitCount_0f7a4 : ByteArray := prog_18_method_49_code
def yJ6_bitCount_0f7a4 : MethodName := ⟨"java/lang/Integer", "bitCount", "(I)I"⟩
abbrev cJ13_bitCount_95d88 : ByteArray := prog_19_method_50_code
def yJ13_bitCount_95d88 : MethodName := ⟨"java/lang/Long", "bitCount", "(J)I"⟩
abbrev cJ7_fill_53178 : ByteArray := prog_25_method_103_code
def yJ7_fill_53178 : MethodName := ⟨"java/util/Arrays", "fill", "([II)V"⟩
abbrev cJ7_fill_d0a16 : ByteArray := prog_25_method_101_code
def yJ7_fill_d0a16 : MethodName := ⟨"java/util/Arrays", "fill", "([JJ)V"⟩
abbrev cX0_start : ByteArray := prog_2_method_2_code
def yX0_start : MethodName := ⟨"GatePatch$Cases", "start", "(I)V"⟩
abbrev cX0_has : ByteArray := prog_2_method_3_code
def yX0_has : MethodName := ⟨"GatePatch$Cases", "has", "(I)Z"⟩
abbrev cX0_isLive : ByteArray := prog_2_method_4_code
def yX0_isLive : MethodName := ⟨"GatePatch$Cases", "isLive", "(I)Z"⟩
abbrev cX0_flip : ByteArray := prog_2_method_5_code
def yX0_flip : MethodName := ⟨"GatePatch$Cases", "flip", "(I)I"⟩
abbrev cX0_freeCount : ByteArray := prog_2_method_6_code
def yX0_freeCount : MethodName := ⟨"GatePatch$Cases", "freeCount", "()I"⟩
abbrev cX0_lowest : ByteArray := prog_2_method_7_code
def yX0_lowest : MethodName := ⟨"GatePatch$Cases", "lowest", "(IJ)I"⟩
abbrev cX2_ones : ByteArray := prog_4_method_2_code
def yX2_ones : MethodName := ⟨"GatePatch$Functions", "ones", "(I)I"⟩
abbrev cX2_price : ByteArray := prog_4_method_3_code
def yX2_price : MethodName := ⟨"GatePatch$Functions", "price", "(II)I"⟩
abbrev cX2_leafOf : ByteArray := prog_4_method_4_code
def yX2_leafOf : MethodName := ⟨"GatePatch$Functions", "leafOf", "(II)I"⟩
abbrev cX2_canMake : ByteArray := prog_4_method_7_code
def yX2_canMake : MethodName := ⟨"GatePatch$Functions", "canMake", "(IIII)Z"⟩
abbrev cX6_made : ByteArray := prog_8_method_12_code
def yX6_made : MethodName := ⟨"GatePatch$Net", "made", "(IJJJ)J"⟩
abbrev cX2_mate : ByteArray := prog_4_method_6_code
def yX2_mate : MethodName := ⟨"GatePatch$Functions", "mate", "(IIIII)I"⟩
abbrev cX2_split : ByteArray := prog_4_method_5_code
def yX2_split : MethodName := ⟨"GatePatch$Functions", "split", "(II)I"⟩
abbrev cX8_start : ByteArray := prog_10_method_2_code
def yX8_start : MethodName := ⟨"GatePatch$Plan", "start", "(III)V"⟩
abbrev cX8_sources : ByteArray := prog_10_method_3_code
def yX8_sources : MethodName := ⟨"GatePatch$Plan", "sources", "()I"⟩
abbrev cX8_wires : ByteArray := prog_10_method_4_code
def yX8_wires : MethodName := ⟨"GatePatch$Plan", "wires", "()I"⟩
abbrev cX8_seenCount : ByteArray := prog_10_method_5_code
def yX8_seenCount : MethodName := ⟨"GatePatch$Plan", "seenCount", "()I"⟩
abbrev cX8_isWire : ByteArray := prog_10_method_6_code
def yX8_isWire : MethodName := ⟨"GatePatch$Plan", "isWire", "(I)Z"⟩
abbrev cX8_isGate : ByteArray := prog_10_method_7_code
def yX8_isGate : MethodName := ⟨"GatePatch$Plan", "isGate", "(I)Z"⟩
abbrev cX8_hasPin : ByteArray := prog_10_method_8_code
def yX8_hasPin : MethodName := ⟨"GatePatch$Plan", "hasPin", "(II)Z"⟩
abbrev cX8_addGate : ByteArray := prog_10_method_9_code
def yX8_addGate : MethodName := ⟨"GatePatch$Plan", "addGate", "(IIIII)I"⟩
abbrev cX8_sameShape : ByteArray := prog_10_method_10_code
def yX8_sameShape : MethodName := ⟨"GatePatch$Plan", "sameShape", "(LGatePatch$Plan;)Z"⟩
abbrev cX8_take : ByteArray := prog_10_method_11_code
def yX8_take : MethodName := ⟨"GatePatch$Plan", "take", "(LGatePatch$Plan;)V"⟩
abbrev cX10_hold : ByteArray := prog_12_method_2_code
def yX10_hold : MethodName := ⟨"GatePatch$Tape", "hold", "(II)V"⟩
abbrev cX10_isRow : ByteArray := prog_12_method_3_code
def yX10_isRow : MethodName := ⟨"GatePatch$Tape", "isRow", "()Z"⟩
abbrev cX10_hasElement : ByteArray := prog_12_method_4_code
def yX10_hasElement : MethodName := ⟨"GatePatch$Tape", "hasElement", "(I)Z"⟩
abbrev cX10_hasElements : ByteArray := prog_12_method_5_code
def yX10_hasElements : MethodName := ⟨"GatePatch$Tape", "hasElements", "(II)Z"⟩
abbrev cX10_narrowed : ByteArray := prog_12_method_6_code
def yX10_narrowed : MethodName := ⟨"GatePatch$Tape", "narrowed", "(J)J"⟩
theorem k_Int_265 : Cond.constant "java/lang/Integer" 265 (Int32.ofInt 1431655765) ∈ tblG := mem_t 1048 (by decide +kernel) rfl
theorem k_Int_266 : Cond.constant "java/lang/Integer" 266 (Int32.ofInt 858993459) ∈ tblG := mem_t 1049 (by decide +kernel) rfl
theorem k_Int_267 : Cond.constant "java/lang/Integer" 267 (Int32.ofInt 252645135) ∈ tblG := mem_t 1050 (by decide +kernel) rfl
theorem plain_Int : plainName "java/lang/Integer" = true := by decide +kernel
theorem k_Long_314 : Cond.constantLong "java/lang/Long" 314 (Int64.ofInt 6148914691236517205) ∈ tblG := mem_t 719 (by decide +kernel) rfl
theorem k_Long_316 : Cond.constantLong "java/lang/Long" 316 (Int64.ofInt 3689348814741910323) ∈ tblG := mem_t 720 (by decide +kernel) rfl
theorem k_Long_318 : Cond.constantLong "java/lang/Long" 318 (Int64.ofInt 1085102592571150095) ∈ tblG := mem_t 721 (by decide +kernel) rfl
theorem plain_Long : plainName "java/lang/Long" = true := by decide +kernel
theorem plain_Arr : plainName "java/util/Arrays" = true := by decide +kernel
theorem fp_Cases_18 : FP "GatePatch$Cases" 18 0 0 .int := ⟨R_Cases, T_Cases, 4, ty_Cases, ci_Cases, by decide, mem_t 133 (by decide +kernel) rfl, rfl, rfl⟩
theorem fl_Cases_18 : FL "GatePatch$Cases" 18 0 0 := ⟨R_Cases, T_Cases, 4, ty_Cases, ci_Cases, by decide, mem_t 133 (by decide +kernel) rfl⟩
theorem fp_Cases_22 : FP "GatePatch$Cases" 22 0 1 .int := ⟨R_Cases, T_Cases, 4, ty_Cases, ci_Cases, by decide, mem_t 138 (by decide +kernel) rfl, rfl, rfl⟩
theorem fl_Cases_9 : FL "GatePatch$Cases" 9 0 2 := ⟨R_Cases, T_Cases, 4, ty_Cases, ci_Cases, by decide, mem_t 141 (by decide +kernel) rfl⟩
theorem fl_Cases_15 : FL "GatePatch$Cases" 15 0 3 := ⟨R_Cases, T_Cases, 4, ty_Cases, ci_Cases, by decide, mem_t 143 (by decide +kernel) rfl⟩
theorem ml_Cases_27 : Cond.methodLink "GatePatch$Cases" 27 arraycopyName ∈ tblG := mem_t 493 (by decide +kernel) rfl
theorem acp_nat : Cond.native arraycopyName ∈ tblG := mem_t 495 (by decide +kernel) rfl
theorem acp_st : Cond.static arraycopyName ∈ tblG := mem_t 494 (by decide +kernel) rfl
theorem ini_Sys : Cond.initialized "java/lang/System" ∈ tblG := mem_t 13 (by decide +kernel) rfl
theorem fl_Cases_22 : FL "GatePatch$Cases" 22 0 1 := ⟨R_Cases, T_Cases, 4, ty_Cases, ci_Cases, by decide, mem_t 138 (by decide +kernel) rfl⟩
theorem k_Cases_25 : Cond.constantLong "GatePatch$Cases" 25 (Int64.ofInt (-1)) ∈ tblG := mem_t 492 (by decide +kernel) rfl
theorem plain_Cases : plainName "GatePatch$Cases" = true := by decide +kernel
theorem ml_Cases_33 : Cond.methodLink "GatePatch$Cases" 33 yX0_isLive ∈ tblG := mem_t 681 (by decide +kernel) rfl
theorem im_X0_isLive : Cond.instanceMethod yX0_isLive ∈ tblG := mem_t 682 (by decide +kernel) rfl
theorem se_X0_isLive : Cond.selects "GatePatch$Cases" yX0_isLive yX0_isLive ∈ tblG := mem_t 683 (by decide +kernel) rfl
theorem cw_X0_isLive : Cond.code yX0_isLive cX0_isLive 2 (Option.some Jvm.ClassFile.FieldType.boolean) ∈ tblG := mem_t 684 (by decide +kernel) rfl
theorem ini_Cases : Cond.initialized "GatePatch$Cases" ∈ tblG := mem_t 4 (by decide +kernel) rfl
theorem nd_X0_isLive : yX0_isLive.cls ≠ "java/lang/invoke/MethodHandle" ∧ yX0_isLive.cls ≠ "java/lang/invoke/VarHandle" ∧ (parseMethodDescriptor yX0_isLive.desc).map (fun d => d.parameters.length) = some 1 := by decide +kernel
theorem ml_Cases_37 : Cond.methodLink "GatePatch$Cases" 37 yJ13_bitCount_95d88 ∈ tblG := mem_t 716 (by decide +kernel) rfl
theorem st_J13_bitCount_95d88 : Cond.static yJ13_bitCount_95d88 ∈ tblG := mem_t 717 (by decide +kernel) rfl
theorem cw_J13_bitCount_95d88 : Cond.code yJ13_bitCount_95d88 cJ13_bitCount_95d88 2 (Option.some Jvm.ClassFile.FieldType.int) ∈ tblG := mem_t 718 (by decide +kernel) rfl
theorem ini_Long : Cond.initialized "java/lang/Long" ∈ tblG := mem_t 19 (by decide +kernel) rfl
theorem nd_J13_bitCount_95d88 : yJ13_bitCount_95d88.cls ≠ "java/lang/invoke/MethodHandle" ∧ yJ13_bitCount_95d88.cls ≠ "java/lang/invoke/VarHandle" ∧ (parseMethodDescriptor yJ13_bitCount_95d88.desc).map (fun d => d.parameters.length) = some 1 := by decide +kernel
theorem plain_Fns : plainName "GatePatch$Functions" = true := by decide +kernel
theorem gs_Fns_9 : Cond.fieldLink "GatePatch$Functions" 9 "GatePatch$Functions" "PRICES" "[B" ∈ tblG := mem_t 911 (by decide +kernel) rfl
theorem ml_Fns_15 : Cond.methodLink "GatePatch$Functions" 15 yX2_ones ∈ tblG := mem_t 925 (by decide +kernel) rfl
theorem st_X2_ones : Cond.static yX2_ones ∈ tblG := mem_t 902 (by decide +kernel) rfl
theorem cw_X2_ones : Cond.code yX2_ones cX2_ones 1 (Option.some Jvm.ClassFile.FieldType.int) ∈ tblG := mem_t 903 (by decide +kernel) rfl
theorem ini_Fns : Cond.initialized "GatePatch$Functions" ∈ tblG := mem_t 21 (by decide +kernel) rfl
theorem nd_X2_ones : yX2_ones.cls ≠ "java/lang/invoke/MethodHandle" ∧ yX2_ones.cls ≠ "java/lang/invoke/VarHandle" ∧ (parseMethodDescriptor yX2_ones.desc).map (fun d => d.parameters.length) = some 1 := by decide +kernel
theorem gs_Fns_19 : Cond.fieldLinkNest "GatePatch$Functions" 19 "GatePatch" "COUNTING" "[J" "GatePatch" ∈ NW := by simp [NW]
theorem k_Net_92 : Cond.constantLong "GatePatch$Net" 92 (Int64.ofInt (-1)) ∈ tblG := mem_t 645 (by decide +kernel) rfl
theorem plain_Net : plainName "GatePatch$Net" = true := by decide +kernel
theorem ml_Fns_31 : Cond.methodLink "GatePatch$Functions" 31 yX2_canMake ∈ tblG := mem_t 934 (by decide +kernel) rfl
theorem st_X2_canMake : Cond.static yX2_canMake ∈ tblG := mem_t 935 (by decide +kernel) rfl
theorem cw_X2_canMake : Cond.code yX2_canMake cX2_canMake 5 (Option.some Jvm.ClassFile.FieldType.boolean) ∈ tblG := mem_t 936 (by decide +kernel) rfl
theorem nd_X2_canMake : yX2_canMake.cls ≠ "java/lang/invoke/MethodHandle" ∧ yX2_canMake.cls ≠ "java/lang/invoke/VarHandle" ∧ (parseMethodDescriptor yX2_canMake.desc).map (fun d => d.parameters.length) = some 4 := by decide +kernel
theorem ml_Fns_23 : Cond.methodLink "GatePatch$Functions" 23 yX2_price ∈ tblG := mem_t 930 (by decide +kernel) rfl
theorem st_X2_price : Cond.static yX2_price ∈ tblG := mem_t 909 (by decide +kernel) rfl
theorem cw_X2_price : Cond.code yX2_price cX2_price 4 (Option.some Jvm.ClassFile.FieldType.int) ∈ tblG := mem_t 910 (by decide +kernel) rfl
theorem nd_X2_price : yX2_price.cls ≠ "java/lang/invoke/MethodHandle" ∧ yX2_price.cls ≠ "java/lang/invoke/VarHandle" ∧ (parseMethodDescriptor yX2_price.desc).map (fun d => d.parameters.length) = some 2 := by decide +kernel
theorem ml_Fns_35 : Cond.methodLink "GatePatch$Functions" 35 yX6_made ∈ tblG := mem_t 937 (by decide +kernel) rfl
theorem st_X6_made : Cond.static yX6_made ∈ tblG := mem_t 651 (by decide +kernel) rfl
theorem cw_X6_made : Cond.code yX6_made cX6_made 7 (Option.some Jvm.ClassFile.FieldType.long) ∈ tblG := mem_t 652 (by decide +kernel) rfl
theorem ini_Net : Cond.initialized "GatePatch$Net" ∈ tblG := mem_t 2 (by decide +kernel) rfl
theorem nd_X6_made : yX6_made.cls ≠ "java/lang/invoke/MethodHandle" ∧ yX6_made.cls ≠ "java/lang/invoke/VarHandle" ∧ (parseMethodDescriptor yX6_made.desc).map (fun d => d.parameters.length) = some 4 := by decide +kernel
theorem ml_Fns_27 : Cond.methodLink "GatePatch$Functions" 27 yX2_mate ∈ tblG := mem_t 931 (by decide +kernel) rfl
theorem st_X2_mate : Cond.static yX2_mate ∈ tblG := mem_t 932 (by decide +kernel) rfl
theorem cw_X2_mate : Cond.code yX2_mate cX2_mate 8 (Option.some Jvm.ClassFile.FieldType.int) ∈ tblG := mem_t 933 (by decide +kernel) rfl
theorem nd_X2_mate : yX2_mate.cls ≠ "java/lang/invoke/MethodHandle" ∧ yX2_mate.cls ≠ "java/lang/invoke/VarHandle" ∧ (parseMethodDescriptor yX2_mate.desc).map (fun d => d.parameters.length) = some 5 := by decide +kernel
theorem fp_Plan_24 : FP "GatePatch$Plan" 24 7 0 .int := ⟨R_Plan, T_Plan, 8, ty_Plan, ci_Plan, by decide, mem_t 44 (by decide +kernel) rfl, rfl, rfl⟩
theorem fp_Plan_28 : FP "GatePatch$Plan" 28 7 1 .int := ⟨R_Plan, T_Plan, 8, ty_Plan, ci_Plan, by decide, mem_t 46 (by decide +kernel) rfl, rfl, rfl⟩
theorem fp_Plan_31 : FP "GatePatch$Plan" 31 7 2 .int := ⟨R_Plan, T_Plan, 8, ty_Plan, ci_Plan, by decide, mem_t 48 (by decide +kernel) rfl, rfl, rfl⟩
theorem fp_Plan_34 : FP "GatePatch$Plan" 34 7 3 .int := ⟨R_Plan, T_Plan, 8, ty_Plan, ci_Plan, by decide, mem_t 51 (by decide +kernel) rfl, rfl, rfl⟩
theorem fl_Plan_18 : FL "GatePatch$Plan" 18 7 6 := ⟨R_Plan, T_Plan, 8, ty_Plan, ci_Plan, by decide, mem_t 64 (by decide +kernel) rfl⟩
theorem ml_Plan_37 : Cond.methodLink "GatePatch$Plan" 37 yJ7_fill_53178 ∈ tblG := mem_t 485 (by decide +kernel) rfl
theorem st_J7_fill_53178 : Cond.static yJ7_fill_53178 ∈ tblG := mem_t 486 (by decide +kernel) rfl
theorem cw_J7_fill_53178 : Cond.code yJ7_fill_53178 cJ7_fill_53178 4 (Option.none : Option Jvm.ClassFile.FieldType) ∈ tblG := mem_t 487 (by decide +kernel) rfl
theorem ini_Arr : Cond.initialized "java/util/Arrays" ∈ tblG := mem_t 12 (by decide +kernel) rfl
theorem nd_J7_fill_53178 : yJ7_fill_53178.cls ≠ "java/lang/invoke/MethodHandle" ∧ yJ7_fill_53178.cls ≠ "java/lang/invoke/VarHandle" ∧ (parseMethodDescriptor yJ7_fill_53178.desc).map (fun d => d.parameters.length) = some 2 := by decide +kernel
theorem fl_Plan_21 : FL "GatePatch$Plan" 21 7 7 := ⟨R_Plan, T_Plan, 8, ty_Plan, ci_Plan, by decide, mem_t 68 (by decide +kernel) rfl⟩
theorem plain_Plan : plainName "GatePatch$Plan" = true := by decide +kernel
theorem fl_Plan_24 : FL "GatePatch$Plan" 24 7 0 := ⟨R_Plan, T_Plan, 8, ty_Plan, ci_Plan, by decide, mem_t 44 (by decide +kernel) rfl⟩
theorem fl_Plan_28 : FL "GatePatch$Plan" 28 7 1 := ⟨R_Plan, T_Plan, 8, ty_Plan, ci_Plan, by decide, mem_t 46 (by decide +kernel) rfl⟩
theorem fl_Plan_34 : FL "GatePatch$Plan" 34 7 3 := ⟨R_Plan, T_Plan, 8, ty_Plan, ci_Plan, by decide, mem_t 51 (by decide +kernel) rfl⟩
theorem fl_Plan_31 : FL "GatePatch$Plan" 31 7 2 := ⟨R_Plan, T_Plan, 8, ty_Plan, ci_Plan, by decide, mem_t 48 (by decide +kernel) rfl⟩
theorem ml_Plan_43 : Cond.methodLink "GatePatch$Plan" 43 yX8_wires ∈ tblG := mem_t 584 (by decide +kernel) rfl
theorem im_X8_wires : Cond.instanceMethod yX8_wires ∈ tblG := mem_t 585 (by decide +kernel) rfl
theorem se_X8_wires : Cond.selects "GatePatch$Plan" yX8_wires yX8_wires ∈ tblG := mem_t 586 (by decide +kernel) rfl
theorem cw_X8_wires : Cond.code yX8_wires cX8_wires 1 (Option.some Jvm.ClassFile.FieldType.int) ∈ tblG := mem_t 587 (by decide +kernel) rfl
theorem ini_Plan : Cond.initialized "GatePatch$Plan" ∈ tblG := mem_t 3 (by decide +kernel) rfl
theorem nd_X8_wires : yX8_wires.cls ≠ "java/lang/invoke/MethodHandle" ∧ yX8_wires.cls ≠ "java/lang/invoke/VarHandle" ∧ (parseMethodDescriptor yX8_wires.desc).map (fun d => d.parameters.length) = some 0 := by decide +kernel
theorem ml_Plan_47 : Cond.methodLink "GatePatch$Plan" 47 yX8_sources ∈ tblG := mem_t 608 (by decide +kernel) rfl
theorem im_X8_sources : Cond.instanceMethod yX8_sources ∈ tblG := mem_t 609 (by decide +kernel) rfl
theorem se_X8_sources : Cond.selects "GatePatch$Plan" yX8_sources yX8_sources ∈ tblG := mem_t 610 (by decide +kernel) rfl
theorem cw_X8_sources : Cond.code yX8_sources cX8_sources 1 (Option.some Jvm.ClassFile.FieldType.int) ∈ tblG := mem_t 611 (by decide +kernel) rfl
theorem nd_X8_sources : yX8_sources.cls ≠ "java/lang/invoke/MethodHandle" ∧ yX8_sources.cls ≠ "java/lang/invoke/VarHandle" ∧ (parseMethodDescriptor yX8_sources.desc).map (fun d => d.parameters.length) = some 0 := by decide +kernel
theorem gs_Plan_50 : Cond.fieldLinkNest "GatePatch$Plan" 50 "GatePatch" "PIN_COUNT" "[B" "GatePatch" ∈ NW := by simp [NW]
theorem fl_Plan_9 : FL "GatePatch$Plan" 9 7 4 := ⟨R_Plan, T_Plan, 8, ty_Plan, ci_Plan, by decide, mem_t 55 (by decide +kernel) rfl⟩
theorem fl_Plan_15 : FL "GatePatch$Plan" 15 7 5 := ⟨R_Plan, T_Plan, 8, ty_Plan, ci_Plan, by decide, mem_t 59 (by decide +kernel) rfl⟩
theorem ml_Plan_54 : Cond.methodLink "GatePatch$Plan" 54 arraycopyName ∈ tblG := mem_t 1100 (by decide +kernel) rfl
theorem fp_Tape_22 : FP "GatePatch$Tape" 22 9 0 .int := ⟨R_Tape, T_Tape, 4, ty_Tape, ci_Tape, by decide, mem_t 456 (by decide +kernel) rfl, rfl, rfl⟩
theorem fp_Tape_26 : FP "GatePatch$Tape" 26 9 1 .int := ⟨R_Tape, T_Tape, 4, ty_Tape, ci_Tape, by decide, mem_t 458 (by decide +kernel) rfl, rfl, rfl⟩
theorem fl_Tape_9 : FL "GatePatch$Tape" 9 9 2 := ⟨R_Tape, T_Tape, 4, ty_Tape, ci_Tape, by decide, mem_t 460 (by decide +kernel) rfl⟩
theorem ml_Tape_29 : Cond.methodLink "GatePatch$Tape" 29 yJ7_fill_d0a16 ∈ tblG := mem_t 825 (by decide +kernel) rfl
theorem st_J7_fill_d0a16 : Cond.static yJ7_fill_d0a16 ∈ tblG := mem_t 826 (by decide +kernel) rfl
theorem cw_J7_fill_d0a16 : Cond.code yJ7_fill_d0a16 cJ7_fill_d0a16 5 (Option.none : Option Jvm.ClassFile.FieldType) ∈ tblG := mem_t 827 (by decide +kernel) rfl
theorem nd_J7_fill_d0a16 : yJ7_fill_d0a16.cls ≠ "java/lang/invoke/MethodHandle" ∧ yJ7_fill_d0a16.cls ≠ "java/lang/invoke/VarHandle" ∧ (parseMethodDescriptor yJ7_fill_d0a16.desc).map (fun d => d.parameters.length) = some 2 := by decide +kernel
theorem plain_Tape : plainName "GatePatch$Tape" = true := by decide +kernel
theorem fl_Tape_22 : FL "GatePatch$Tape" 22 9 0 := ⟨R_Tape, T_Tape, 4, ty_Tape, ci_Tape, by decide, mem_t 456 (by decide +kernel) rfl⟩
theorem fl_Tape_26 : FL "GatePatch$Tape" 26 9 1 := ⟨R_Tape, T_Tape, 4, ty_Tape, ci_Tape, by decide, mem_t 458 (by decide +kernel) rfl⟩
theorem dJ6_bitCount_0f7a4_0 : decode cJ6_bitCount_0f7a4 0 = .ok (.iload_n 0, 1) := by decide +kernel
theorem dJ6_bitCount_0f7a4_1 : decode cJ6_bitCount_0f7a4 1 = .ok (.iload_n 0, 1) := by decide +kernel
theorem dJ6_bitCount_0f7a4_2 : decode cJ6_bitCount_0f7a4 2 = .ok (.iconst 1, 1) := by decide +kernel
theorem dJ6_bitCount_0f7a4_3 : decode cJ6_bitCount_0f7a4 3 = .ok (.iushr, 1) := by decide +kernel
theorem dJ6_bitCount_0f7a4_4 : decode cJ6_bitCount_0f7a4 4 = .ok (.ldc_w 265, 3) := by decide +kernel
theorem dJ6_bitCount_0f7a4_7 : decode cJ6_bitCount_0f7a4 7 = .ok (.iand, 1) := by decide +kernel
theorem dJ6_bitCount_0f7a4_8 : decode cJ6_bitCount_0f7a4 8 = .ok (.isub, 1) := by decide +kernel
theorem dJ6_bitCount_0f7a4_9 : decode cJ6_bitCount_0f7a4 9 = .ok (.istore_n 0, 1) := by decide +kernel
theorem dJ6_bitCount_0f7a4_10 : decode cJ6_bitCount_0f7a4 10 = .ok (.iload_n 0, 1) := by decide +kernel
theorem dJ6_bitCount_0f7a4_11 : decode cJ6_bitCount_0f7a4 11 = .ok (.ldc_w 266, 3) := by decide +kernel
theorem dJ6_bitCount_0f7a4_14 : decode cJ6_bitCount_0f7a4 14 = .ok (.iand, 1) := by decide +kernel
theorem dJ6_bitCount_0f7a4_15 : decode cJ6_bitCount_0f7a4 15 = .ok (.iload_n 0, 1) := by decide +kernel
theorem dJ6_bitCount_0f7a4_16 : decode cJ6_bitCount_0f7a4 16 = .ok (.iconst 2, 1) := by decide +kernel
theorem dJ6_bitCount_0f7a4_17 : decode cJ6_bitCount_0f7a4 17 = .ok (.iushr, 1) := by decide +kernel
theorem dJ6_bitCount_0f7a4_18 : decode cJ6_bitCount_0f7a4 18 = .ok (.ldc_w 266, 3) := by decide +kernel
theorem dJ6_bitCount_0f7a4_21 : decode cJ6_bitCount_0f7a4 21 = .ok (.iand, 1) := by decide +kernel
theorem dJ6_bitCount_0f7a4_22 : decode cJ6_bitCount_0f7a4 22 = .ok (.iadd, 1) := by decide +kernel
theorem dJ6_bitCount_0f7a4_23 : decode cJ6_bitCount_0f7a4 23 = .ok (.istore_n 0, 1) := by decide +kernel
theorem dJ6_bitCount_0f7a4_24 : decode cJ6_bitCount_0f7a4 24 = .ok (.iload_n 0, 1) := by decide +kernel
theorem dJ6_bitCount_0f7a4_25 : decode cJ6_bitCount_0f7a4 25 = .ok (.iload_n 0, 1) := by decide +kernel
theorem dJ6_bitCount_0f7a4_26 : decode cJ6_bitCount_0f7a4 26 = .ok (.iconst 4, 1) := by decide +kernel
theorem dJ6_bitCount_0f7a4_27 : decode cJ6_bitCount_0f7a4 27 = .ok (.iushr, 1) := by decide +kernel
theorem dJ6_bitCount_0f7a4_28 : decode cJ6_bitCount_0f7a4 28 = .ok (.iadd, 1) := by decide +kernel
theorem dJ6_bitCount_0f7a4_29 : decode cJ6_bitCount_0f7a4 29 = .ok (.ldc_w 267, 3) := by decide +kernel
theorem dJ6_bitCount_0f7a4_32 : decode cJ6_bitCount_0f7a4 32 = .ok (.iand, 1) := by decide +kernel
theorem dJ6_bitCount_0f7a4_33 : decode cJ6_bitCount_0f7a4 33 = .ok (.istore_n 0, 1) := by decide +kernel
theorem dJ6_bitCount_0f7a4_34 : decode cJ6_bitCount_0f7a4 34 = .ok (.iload_n 0, 1) := by decide +kernel
theorem dJ6_bitCount_0f7a4_35 : decode cJ6_bitCount_0f7a4 35 = .ok (.iload_n 0, 1) := by decide +kernel
theorem dJ6_bitCount_0f7a4_36 : decode cJ6_bitCount_0f7a4 36 = .ok (.bipush 8, 2) := by decide +kernel
theorem dJ6_bitCount_0f7a4_38 : decode cJ6_bitCount_0f7a4 38 = .ok (.iushr, 1) := by decide +kernel
theorem dJ6_bitCount_0f7a4_39 : decode cJ6_bitCount_0f7a4 39 = .ok (.iadd, 1) := by decide +kernel
theorem dJ6_bitCount_0f7a4_40 : decode cJ6_bitCount_0f7a4 40 = .ok (.istore_n 0, 1) := by decide +kernel
theorem dJ6_bitCount_0f7a4_41 : decode cJ6_bitCount_0f7a4 41 = .ok (.iload_n 0, 1) := by decide +kernel
theorem dJ6_bitCount_0f7a4_42 : decode cJ6_bitCount_0f7a4 42 = .ok (.iload_n 0, 1) := by decide +kernel
theorem dJ6_bitCount_0f7a4_43 : decode cJ6_bitCount_0f7a4 43 = .ok (.bipush 16, 2) := by decide +kernel
theorem dJ6_bitCount_0f7a4_45 : decode cJ6_bitCount_0f7a4 45 = .ok (.iushr, 1) := by decide +kernel
theorem dJ6_bitCount_0f7a4_46 : decode cJ6_bitCount_0f7a4 46 = .ok (.iadd, 1) := by decide +kernel
theorem dJ6_bitCount_0f7a4_47 : decode cJ6_bitCount_0f7a4 47 = .ok (.istore_n 0, 1) := by decide +kernel
theorem dJ6_bitCount_0f7a4_48 : decode cJ6_bitCount_0f7a4 48 = .ok (.iload_n 0, 1) := by decide +kernel
theorem dJ6_bitCount_0f7a4_49 : decode cJ6_bitCount_0f7a4 49 = .ok (.bipush 63, 2) := by decide +kernel
theorem dJ6_bitCount_0f7a4_51 : decode cJ6_bitCount_0f7a4 51 = .ok (.iand, 1) := by decide +kernel
theorem dJ6_bitCount_0f7a4_52 : decode cJ6_bitCount_0f7a4 52 = .ok (.ireturn, 1) := by decide +kernel
theorem dJ13_bitCount_95d88_0 : decode cJ13_bitCount_95d88 0 = .ok (.lload_n 0, 1) := by decide +kernel
theorem dJ13_bitCount_95d88_1 : decode cJ13_bitCount_95d88 1 = .ok (.lload_n 0, 1) := by decide +kernel
theorem dJ13_bitCount_95d88_2 : decode cJ13_bitCount_95d88 2 = .ok (.iconst 1, 1) := by decide +kernel
theorem dJ13_bitCount_95d88_3 : decode cJ13_bitCount_95d88 3 = .ok (.lushr, 1) := by decide +kernel
theorem dJ13_bitCount_95d88_4 : decode cJ13_bitCount_95d88 4 = .ok (.ldc2_w 314, 3) := by decide +kernel
theorem dJ13_bitCount_95d88_7 : decode cJ13_bitCount_95d88 7 = .ok (.land, 1) := by decide +kernel
theorem dJ13_bitCount_95d88_8 : decode cJ13_bitCount_95d88 8 = .ok (.lsub, 1) := by decide +kernel
theorem dJ13_bitCount_95d88_9 : decode cJ13_bitCount_95d88 9 = .ok (.lstore_n 0, 1) := by decide +kernel
theorem dJ13_bitCount_95d88_10 : decode cJ13_bitCount_95d88 10 = .ok (.lload_n 0, 1) := by decide +kernel
theorem dJ13_bitCount_95d88_11 : decode cJ13_bitCount_95d88 11 = .ok (.ldc2_w 316, 3) := by decide +kernel
theorem dJ13_bitCount_95d88_14 : decode cJ13_bitCount_95d88 14 = .ok (.land, 1) := by decide +kernel
theorem dJ13_bitCount_95d88_15 : decode cJ13_bitCount_95d88 15 = .ok (.lload_n 0, 1) := by decide +kernel
theorem dJ13_bitCount_95d88_16 : decode cJ13_bitCount_95d88 16 = .ok (.iconst 2, 1) := by decide +kernel
theorem dJ13_bitCount_95d88_17 : decode cJ13_bitCount_95d88 17 = .ok (.lushr, 1) := by decide +kernel
theorem dJ13_bitCount_95d88_18 : decode cJ13_bitCount_95d88 18 = .ok (.ldc2_w 316, 3) := by decide +kernel
theorem dJ13_bitCount_95d88_21 : decode cJ13_bitCount_95d88 21 = .ok (.land, 1) := by decide +kernel
theorem dJ13_bitCount_95d88_22 : decode cJ13_bitCount_95d88 22 = .ok (.ladd, 1) := by decide +kernel
theorem dJ13_bitCount_95d88_23 : decode cJ13_bitCount_95d88 23 = .ok (.lstore_n 0, 1) := by decide +kernel
theorem dJ13_bitCount_95d88_24 : decode cJ13_bitCount_95d88 24 = .ok (.lload_n 0, 1) := by decide +kernel
theorem dJ13_bitCount_95d88_25 : decode cJ13_bitCount_95d88 25 = .ok (.lload_n 0, 1) := by decide +kernel
theorem dJ13_bitCount_95d88_26 : decode cJ13_bitCount_95d88 26 = .ok (.iconst 4, 1) := by decide +kernel
theorem dJ13_bitCount_95d88_27 : decode cJ13_bitCount_95d88 27 = .ok (.lushr, 1) := by decide +kernel
theorem dJ13_bitCount_95d88_28 : decode cJ13_bitCount_95d88 28 = .ok (.ladd, 1) := by decide +kernel
theorem dJ13_bitCount_95d88_29 : decode cJ13_bitCount_95d88 29 = .ok (.ldc2_w 318, 3) := by decide +kernel
theorem dJ13_bitCount_95d88_32 : decode cJ13_bitCount_95d88 32 = .ok (.land, 1) := by decide +kernel
theorem dJ13_bitCount_95d88_33 : decode cJ13_bitCount_95d88 33 = .ok (.lstore_n 0, 1) := by decide +kernel
theorem dJ13_bitCount_95d88_34 : decode cJ13_bitCount_95d88 34 = .ok (.lload_n 0, 1) := by decide +kernel
theorem dJ13_bitCount_95d88_35 : decode cJ13_bitCount_95d88 35 = .ok (.lload_n 0, 1) := by decide +kernel
theorem dJ13_bitCount_95d88_36 : decode cJ13_bitCount_95d88 36 = .ok (.bipush 8, 2) := by decide +kernel
theorem dJ13_bitCount_95d88_38 : decode cJ13_bitCount_95d88 38 = .ok (.lushr, 1) := by decide +kernel
theorem dJ13_bitCount_95d88_39 : decode cJ13_bitCount_95d88 39 = .ok (.ladd, 1) := by decide +kernel
theorem dJ13_bitCount_95d88_40 : decode cJ13_bitCount_95d88 40 = .ok (.lstore_n 0, 1) := by decide +kernel
theorem dJ13_bitCount_95d88_41 : decode cJ13_bitCount_95d88 41 = .ok (.lload_n 0, 1) := by decide +kernel
theorem dJ13_bitCount_95d88_42 : decode cJ13_bitCount_95d88 42 = .ok (.lload_n 0, 1) := by decide +kernel
theorem dJ13_bitCount_95d88_43 : decode cJ13_bitCount_95d88 43 = .ok (.bipush 16, 2) := by decide +kernel
theorem dJ13_bitCount_95d88_45 : decode cJ13_bitCount_95d88 45 = .ok (.lushr, 1) := by decide +kernel
theorem dJ13_bitCount_95d88_46 : decode cJ13_bitCount_95d88 46 = .ok (.ladd, 1) := by decide +kernel
theorem dJ13_bitCount_95d88_47 : decode cJ13_bitCount_95d88 47 = .ok (.lstore_n 0, 1) := by decide +kernel
theorem dJ13_bitCount_95d88_48 : decode cJ13_bitCount_95d88 48 = .ok (.lload_n 0, 1) := by decide +kernel
theorem dJ13_bitCount_95d88_49 : decode cJ13_bitCount_95d88 49 = .ok (.lload_n 0, 1) := by decide +kernel
theorem dJ13_bitCount_95d88_50 : decode cJ13_bitCount_95d88 50 = .ok (.bipush 32, 2) := by decide +kernel
theorem dJ13_bitCount_95d88_52 : decode cJ13_bitCount_95d88 52 = .ok (.lushr, 1) := by decide +kernel
theorem dJ13_bitCount_95d88_53 : decode cJ13_bitCount_95d88 53 = .ok (.ladd, 1) := by decide +kernel
theorem dJ13_bitCount_95d88_54 : decode cJ13_bitCount_95d88 54 = .ok (.lstore_n 0, 1) := by decide +kernel
theorem dJ13_bitCount_95d88_55 : decode cJ13_bitCount_95d88 55 = .ok (.lload_n 0, 1) := by decide +kernel
theorem dJ13_bitCount_95d88_56 : decode cJ13_bitCount_95d88 56 = .ok (.l2i, 1) := by decide +kernel
theorem dJ13_bitCount_95d88_57 : decode cJ13_bitCount_95d88 57 = .ok (.bipush 127, 2) := by decide +kernel
theorem dJ13_bitCount_95d88_59 : decode cJ13_bitCount_95d88 59 = .ok (.iand, 1) := by decide +kernel
theorem dJ13_bitCount_95d88_60 : decode cJ13_bitCount_95d88 60 = .ok (.ireturn, 1) := by decide +kernel
theorem dJ7_fill_53178_0 : decode cJ7_fill_53178 0 = .ok (.iconst 0, 1) := by decide +kernel
theorem dJ7_fill_53178_1 : decode cJ7_fill_53178 1 = .ok (.istore_n 2, 1) := by decide +kernel
theorem dJ7_fill_53178_2 : decode cJ7_fill_53178 2 = .ok (.aload_n 0, 1) := by decide +kernel
theorem dJ7_fill_53178_3 : decode cJ7_fill_53178 3 = .ok (.arraylength, 1) := by decide +kernel
theorem dJ7_fill_53178_4 : decode cJ7_fill_53178 4 = .ok (.istore_n 3, 1) := by decide +kernel
theorem dJ7_fill_53178_5 : decode cJ7_fill_53178 5 = .ok (.iload_n 2, 1) := by decide +kernel
theorem dJ7_fill_53178_6 : decode cJ7_fill_53178 6 = .ok (.iload_n 3, 1) := by decide +kernel
theorem dJ7_fill_53178_7 : decode cJ7_fill_53178 7 = .ok (.if_icmp .ge 13, 3) := by decide +kernel
theorem dJ7_fill_53178_10 : decode cJ7_fill_53178 10 = .ok (.aload_n 0, 1) := by decide +kernel
theorem dJ7_fill_53178_11 : decode cJ7_fill_53178 11 = .ok (.iload_n 2, 1) := by decide +kernel
theorem dJ7_fill_53178_12 : decode cJ7_fill_53178 12 = .ok (.iload_n 1, 1) := by decide +kernel
theorem dJ7_fill_53178_13 : decode cJ7_fill_53178 13 = .ok (.iastore, 1) := by decide +kernel
theorem dJ7_fill_53178_14 : decode cJ7_fill_53178 14 = .ok (.iinc 2 1, 3) := by decide +kernel
theorem dJ7_fill_53178_17 : decode cJ7_fill_53178 17 = .ok (.goto (-12), 3) := by decide +kernel
theorem dJ7_fill_53178_20 : decode cJ7_fill_53178 20 = .ok (.return_, 1) := by decide +kernel
theorem dJ7_fill_d0a16_0 : decode cJ7_fill_d0a16 0 = .ok (.iconst 0, 1) := by decide +kernel
theorem dJ7_fill_d0a16_1 : decode cJ7_fill_d0a16 1 = .ok (.istore_n 3, 1) := by decide +kernel
theorem dJ7_fill_d0a16_2 : decode cJ7_fill_d0a16 2 = .ok (.aload_n 0, 1) := by decide +kernel
theorem dJ7_fill_d0a16_3 : decode cJ7_fill_d0a16 3 = .ok (.arraylength, 1) := by decide +kernel
theorem dJ7_fill_d0a16_4 : decode cJ7_fill_d0a16 4 = .ok (.istore 4, 2) := by decide +kernel
theorem dJ7_fill_d0a16_6 : decode cJ7_fill_d0a16 6 = .ok (.iload_n 3, 1) := by decide +kernel
theorem dJ7_fill_d0a16_7 : decode cJ7_fill_d0a16 7 = .ok (.iload 4, 2) := by decide +kernel
theorem dJ7_fill_d0a16_9 : decode cJ7_fill_d0a16 9 = .ok (.if_icmp .ge 13, 3) := by decide +kernel
theorem dJ7_fill_d0a16_12 : decode cJ7_fill_d0a16 12 = .ok (.aload_n 0, 1) := by decide +kernel
theorem dJ7_fill_d0a16_13 : decode cJ7_fill_d0a16 13 = .ok (.iload_n 3, 1) := by decide +kernel
theorem dJ7_fill_d0a16_14 : decode cJ7_fill_d0a16 14 = .ok (.lload_n 1, 1) := by decide +kernel
theorem dJ7_fill_d0a16_15 : decode cJ7_fill_d0a16 15 = .ok (.lastore, 1) := by decide +kernel
theorem dJ7_fill_d0a16_16 : decode cJ7_fill_d0a16 16 = .ok (.iinc 3 1, 3) := by decide +kernel
theorem dJ7_fill_d0a16_19 : decode cJ7_fill_d0a16 19 = .ok (.goto (-13), 3) := by decide +kernel
theorem dJ7_fill_d0a16_22 : decode cJ7_fill_d0a16 22 = .ok (.return_, 1) := by decide +kernel
theorem dX0_start_0 : decode cX0_start 0 = .ok (.aload_n 0, 1) := by decide +kernel
theorem dX0_start_1 : decode cX0_start 1 = .ok (.iconst 1, 1) := by decide +kernel
theorem dX0_start_2 : decode cX0_start 2 = .ok (.iload_n 1, 1) := by decide +kernel
theorem dX0_start_3 : decode cX0_start 3 = .ok (.ishl, 1) := by decide +kernel
theorem dX0_start_4 : decode cX0_start 4 = .ok (.putfield 18, 3) := by decide +kernel
theorem dX0_start_7 : decode cX0_start 7 = .ok (.aload_n 0, 1) := by decide +kernel
theorem dX0_start_8 : decode cX0_start 8 = .ok (.aload_n 0, 1) := by decide +kernel
theorem dX0_start_9 : decode cX0_start 9 = .ok (.getfield 18, 3) := by decide +kernel
theorem dX0_start_12 : decode cX0_start 12 = .ok (.bipush 64, 2) := by decide +kernel
theorem dX0_start_14 : decode cX0_start 14 = .ok (.if_icmp .le 13, 3) := by decide +kernel
theorem dX0_start_17 : decode cX0_start 17 = .ok (.aload_n 0, 1) := by decide +kernel
theorem dX0_start_18 : decode cX0_start 18 = .ok (.getfield 18, 3) := by decide +kernel
theorem dX0_start_21 : decode cX0_start 21 = .ok (.bipush 64, 2) := by decide +kernel
theorem dX0_start_23 : decode cX0_start 23 = .ok (.idiv, 1) := by decide +kernel
theorem dX0_start_24 : decode cX0_start 24 = .ok (.goto 4, 3) := by decide +kernel
theorem dX0_start_27 : decode cX0_start 27 = .ok (.iconst 1, 1) := by decide +kernel
theorem dX0_start_28 : decode cX0_start 28 = .ok (.putfield 22, 3) := by decide +kernel
theorem dX0_start_31 : decode cX0_start 31 = .ok (.iconst 0, 1) := by decide +kernel
theorem dX0_start_32 : decode cX0_start 32 = .ok (.istore_n 2, 1) := by decide +kernel
theorem dX0_start_33 : decode cX0_start 33 = .ok (.iload_n 2, 1) := by decide +kernel
theorem dX0_start_34 : decode cX0_start 34 = .ok (.iconst 4, 1) := by decide +kernel
theorem dX0_start_35 : decode cX0_start 35 = .ok (.if_icmp .ge 30, 3) := by decide +kernel
theorem dX0_start_38 : decode cX0_start 38 = .ok (.aload_n 0, 1) := by decide +kernel
theorem dX0_start_39 : decode cX0_start 39 = .ok (.getfield 9, 3) := by decide +kernel
theorem dX0_start_42 : decode cX0_start 42 = .ok (.iload_n 2, 1) := by decide +kernel
theorem dX0_start_43 : decode cX0_start 43 = .ok (.iload_n 2, 1) := by decide +kernel
theorem dX0_start_44 : decode cX0_start 44 = .ok (.aload_n 0, 1) := by decide +kernel
theorem dX0_start_45 : decode cX0_start 45 = .ok (.getfield 22, 3) := by decide +kernel
theorem dX0_start_48 : decode cX0_start 48 = .ok (.if_icmp .ge 9, 3) := by decide +kernel
theorem dX0_start_51 : decode cX0_start 51 = .ok (.ldc2_w 25, 3) := by decide +kernel
theorem dX0_start_54 : decode cX0_start 54 = .ok (.goto 4, 3) := by decide +kernel
theorem dX0_start_57 : decode cX0_start 57 = .ok (.lconst 0, 1) := by decide +kernel
theorem dX0_start_58 : decode cX0_start 58 = .ok (.lastore, 1) := by decide +kernel
theorem dX0_start_59 : decode cX0_start 59 = .ok (.iinc 2 1, 3) := by decide +kernel
theorem dX0_start_62 : decode cX0_start 62 = .ok (.goto (-29), 3) := by decide +kernel
theorem dX0_start_65 : decode cX0_start 65 = .ok (.aload_n 0, 1) := by decide +kernel
theorem dX0_start_66 : decode cX0_start 66 = .ok (.getfield 18, 3) := by decide +kernel
theorem dX0_start_69 : decode cX0_start 69 = .ok (.bipush 64, 2) := by decide +kernel
theorem dX0_start_71 : decode cX0_start 71 = .ok (.if_icmp .ge 17, 3) := by decide +kernel
theorem dX0_start_74 : decode cX0_start 74 = .ok (.aload_n 0, 1) := by decide +kernel
theorem dX0_start_75 : decode cX0_start 75 = .ok (.getfield 9, 3) := by decide +kernel
theorem dX0_start_78 : decode cX0_start 78 = .ok (.iconst 0, 1) := by decide +kernel
theorem dX0_start_79 : decode cX0_start 79 = .ok (.lconst 1, 1) := by decide +kernel
theorem dX0_start_80 : decode cX0_start 80 = .ok (.aload_n 0, 1) := by decide +kernel
theorem dX0_start_81 : decode cX0_start 81 = .ok (.getfield 18, 3) := by decide +kernel
theorem dX0_start_84 : decode cX0_start 84 = .ok (.lshl, 1) := by decide +kernel
theorem dX0_start_85 : decode cX0_start 85 = .ok (.lconst 1, 1) := by decide +kernel
theorem dX0_start_86 : decode cX0_start 86 = .ok (.lsub, 1) := by decide +kernel
theorem dX0_start_87 : decode cX0_start 87 = .ok (.lastore, 1) := by decide +kernel
theorem dX0_start_88 : decode cX0_start 88 = .ok (.aload_n 0, 1) := by decide +kernel
theorem dX0_start_89 : decode cX0_start 89 = .ok (.getfield 9, 3) := by decide +kernel
theorem dX0_start_92 : decode cX0_start 92 = .ok (.iconst 0, 1) := by decide +kernel
theorem dX0_start_93 : decode cX0_start 93 = .ok (.aload_n 0, 1) := by decide +kernel
theorem dX0_start_94 : decode cX0_start 94 = .ok (.getfield 15, 3) := by decide +kernel
theorem dX0_start_97 : decode cX0_start 97 = .ok (.iconst 0, 1) := by decide +kernel
theorem dX0_start_98 : decode cX0_start 98 = .ok (.iconst 4, 1) := by decide +kernel
theorem dX0_start_99 : decode cX0_start 99 = .ok (.invokestatic 27, 3) := by decide +kernel
theorem dX0_start_102 : decode cX0_start 102 = .ok (.return_, 1) := by decide +kernel
theorem dX0_has_0 : decode cX0_has 0 = .ok (.iload_n 1, 1) := by decide +kernel
theorem dX0_has_1 : decode cX0_has 1 = .ok (.ifCond .lt 15, 3) := by decide +kernel
theorem dX0_has_4 : decode cX0_has 4 = .ok (.iload_n 1, 1) := by decide +kernel
theorem dX0_has_5 : decode cX0_has 5 = .ok (.aload_n 0, 1) := by decide +kernel
theorem dX0_has_6 : decode cX0_has 6 = .ok (.getfield 18, 3) := by decide +kernel
theorem dX0_has_9 : decode cX0_has 9 = .ok (.if_icmp .ge 7, 3) := by decide +kernel
theorem dX0_has_12 : decode cX0_has 12 = .ok (.iconst 1, 1) := by decide +kernel
theorem dX0_has_13 : decode cX0_has 13 = .ok (.goto 4, 3) := by decide +kernel
theorem dX0_has_16 : decode cX0_has 16 = .ok (.iconst 0, 1) := by decide +kernel
theorem dX0_has_17 : decode cX0_has 17 = .ok (.ireturn, 1) := by decide +kernel
theorem dX0_isLive_0 : decode cX0_isLive 0 = .ok (.aload_n 0, 1) := by decide +kernel
theorem dX0_isLive_1 : decode cX0_isLive 1 = .ok (.getfield 15, 3) := by decide +kernel
theorem dX0_isLive_4 : decode cX0_isLive 4 = .ok (.iload_n 1, 1) := by decide +kernel
theorem dX0_isLive_5 : decode cX0_isLive 5 = .ok (.bipush 64, 2) := by decide +kernel
theorem dX0_isLive_7 : decode cX0_isLive 7 = .ok (.idiv, 1) := by decide +kernel
theorem dX0_isLive_8 : decode cX0_isLive 8 = .ok (.laload, 1) := by decide +kernel
theorem dX0_isLive_9 : decode cX0_isLive 9 = .ok (.iload_n 1, 1) := by decide +kernel
theorem dX0_isLive_10 : decode cX0_isLive 10 = .ok (.bipush 64, 2) := by decide +kernel
theorem dX0_isLive_12 : decode cX0_isLive 12 = .ok (.irem, 1) := by decide +kernel
theorem dX0_isLive_13 : decode cX0_isLive 13 = .ok (.lshr, 1) := by decide +kernel
theorem dX0_isLive_14 : decode cX0_isLive 14 = .ok (.lconst 1, 1) := by decide +kernel
theorem dX0_isLive_15 : decode cX0_isLive 15 = .ok (.land, 1) := by decide +kernel
theorem dX0_isLive_16 : decode cX0_isLive 16 = .ok (.lconst 1, 1) := by decide +kernel
theorem dX0_isLive_17 : decode cX0_isLive 17 = .ok (.lcmp, 1) := by decide +kernel
theorem dX0_isLive_18 : decode cX0_isLive 18 = .ok (.ifCond .ne 7, 3) := by decide +kernel
theorem dX0_isLive_21 : decode cX0_isLive 21 = .ok (.iconst 1, 1) := by decide +kernel
theorem dX0_isLive_22 : decode cX0_isLive 22 = .ok (.goto 4, 3) := by decide +kernel
theorem dX0_isLive_25 : decode cX0_isLive 25 = .ok (.iconst 0, 1) := by decide +kernel
theorem dX0_isLive_26 : decode cX0_isLive 26 = .ok (.ireturn, 1) := by decide +kernel
theorem dX0_flip_0 : decode cX0_flip 0 = .ok (.aload_n 0, 1) := by decide +kernel
theorem dX0_flip_1 : decode cX0_flip 1 = .ok (.getfield 15, 3) := by decide +kernel
theorem dX0_flip_4 : decode cX0_flip 4 = .ok (.iload_n 1, 1) := by decide +kernel
theorem dX0_flip_5 : decode cX0_flip 5 = .ok (.bipush 64, 2) := by decide +kernel
theorem dX0_flip_7 : decode cX0_flip 7 = .ok (.idiv, 1) := by decide +kernel
theorem dX0_flip_8 : decode cX0_flip 8 = .ok (.dup2, 1) := by decide +kernel
theorem dX0_flip_9 : decode cX0_flip 9 = .ok (.laload, 1) := by decide +kernel
theorem dX0_flip_10 : decode cX0_flip 10 = .ok (.lconst 1, 1) := by decide +kernel
theorem dX0_flip_11 : decode cX0_flip 11 = .ok (.iload_n 1, 1) := by decide +kernel
theorem dX0_flip_12 : decode cX0_flip 12 = .ok (.bipush 64, 2) := by decide +kernel
theorem dX0_flip_14 : decode cX0_flip 14 = .ok (.irem, 1) := by decide +kernel
theorem dX0_flip_15 : decode cX0_flip 15 = .ok (.lshl, 1) := by decide +kernel
theorem dX0_flip_16 : decode cX0_flip 16 = .ok (.lxor, 1) := by decide +kernel
theorem dX0_flip_17 : decode cX0_flip 17 = .ok (.lastore, 1) := by decide +kernel
theorem dX0_flip_18 : decode cX0_flip 18 = .ok (.aload_n 0, 1) := by decide +kernel
theorem dX0_flip_19 : decode cX0_flip 19 = .ok (.iload_n 1, 1) := by decide +kernel
theorem dX0_flip_20 : decode cX0_flip 20 = .ok (.invokevirtual 33, 3) := by decide +kernel
theorem dX0_flip_23 : decode cX0_flip 23 = .ok (.ifCond .eq 7, 3) := by decide +kernel
theorem dX0_flip_26 : decode cX0_flip 26 = .ok (.iconst 0, 1) := by decide +kernel
theorem dX0_flip_27 : decode cX0_flip 27 = .ok (.goto 4, 3) := by decide +kernel
theorem dX0_flip_30 : decode cX0_flip 30 = .ok (.iconst 1, 1) := by decide +kernel
theorem dX0_flip_31 : decode cX0_flip 31 = .ok (.ireturn, 1) := by decide +kernel
theorem dX0_freeCount_0 : decode cX0_freeCount 0 = .ok (.aload_n 0, 1) := by decide +kernel
theorem dX0_freeCount_1 : decode cX0_freeCount 1 = .ok (.getfield 18, 3) := by decide +kernel
theorem dX0_freeCount_4 : decode cX0_freeCount 4 = .ok (.istore_n 1, 1) := by decide +kernel
theorem dX0_freeCount_5 : decode cX0_freeCount 5 = .ok (.iconst 0, 1) := by decide +kernel
theorem dX0_freeCount_6 : decode cX0_freeCount 6 = .ok (.istore_n 2, 1) := by decide +kernel
theorem dX0_freeCount_7 : decode cX0_freeCount 7 = .ok (.iload_n 2, 1) := by decide +kernel
theorem dX0_freeCount_8 : decode cX0_freeCount 8 = .ok (.iconst 4, 1) := by decide +kernel
theorem dX0_freeCount_9 : decode cX0_freeCount 9 = .ok (.if_icmp .ge 21, 3) := by decide +kernel
theorem dX0_freeCount_12 : decode cX0_freeCount 12 = .ok (.iload_n 1, 1) := by decide +kernel
theorem dX0_freeCount_13 : decode cX0_freeCount 13 = .ok (.aload_n 0, 1) := by decide +kernel
theorem dX0_freeCount_14 : decode cX0_freeCount 14 = .ok (.getfield 15, 3) := by decide +kernel
theorem dX0_freeCount_17 : decode cX0_freeCount 17 = .ok (.iload_n 2, 1) := by decide +kernel
theorem dX0_freeCount_18 : decode cX0_freeCount 18 = .ok (.laload, 1) := by decide +kernel
theorem dX0_freeCount_19 : decode cX0_freeCount 19 = .ok (.invokestatic 37, 3) := by decide +kernel
theorem dX0_freeCount_22 : decode cX0_freeCount 22 = .ok (.isub, 1) := by decide +kernel
theorem dX0_freeCount_23 : decode cX0_freeCount 23 = .ok (.istore_n 1, 1) := by decide +kernel
theorem dX0_freeCount_24 : decode cX0_freeCount 24 = .ok (.iinc 2 1, 3) := by decide +kernel
theorem dX0_freeCount_27 : decode cX0_freeCount 27 = .ok (.goto (-20), 3) := by decide +kernel
theorem dX0_freeCount_30 : decode cX0_freeCount 30 = .ok (.iload_n 1, 1) := by decide +kernel
theorem dX0_freeCount_31 : decode cX0_freeCount 31 = .ok (.ireturn, 1) := by decide +kernel
theorem dX0_lowest_0 : decode cX0_lowest 0 = .ok (.bipush 64, 2) := by decide +kernel
theorem dX0_lowest_2 : decode cX0_lowest 2 = .ok (.iload_n 0, 1) := by decide +kernel
theorem dX0_lowest_3 : decode cX0_lowest 3 = .ok (.imul, 1) := by decide +kernel
theorem dX0_lowest_4 : decode cX0_lowest 4 = .ok (.lload_n 1, 1) := by decide +kernel
theorem dX0_lowest_5 : decode cX0_lowest 5 = .ok (.lload_n 1, 1) := by decide +kernel
theorem dX0_lowest_6 : decode cX0_lowest 6 = .ok (.lneg, 1) := by decide +kernel
theorem dX0_lowest_7 : decode cX0_lowest 7 = .ok (.land, 1) := by decide +kernel
theorem dX0_lowest_8 : decode cX0_lowest 8 = .ok (.lconst 1, 1) := by decide +kernel
theorem dX0_lowest_9 : decode cX0_lowest 9 = .ok (.lsub, 1) := by decide +kernel
theorem dX0_lowest_10 : decode cX0_lowest 10 = .ok (.invokestatic 37, 3) := by decide +kernel
theorem dX0_lowest_13 : decode cX0_lowest 13 = .ok (.iadd, 1) := by decide +kernel
theorem dX0_lowest_14 : decode cX0_lowest 14 = .ok (.ireturn, 1) := by decide +kernel
theorem dX2_ones_0 : decode cX2_ones 0 = .ok (.iconst 1, 1) := by decide +kernel
theorem dX2_ones_1 : decode cX2_ones 1 = .ok (.iconst 1, 1) := by decide +kernel
theorem dX2_ones_2 : decode cX2_ones 2 = .ok (.iload_n 0, 1) := by decide +kernel
theorem dX2_ones_3 : decode cX2_ones 3 = .ok (.ishl, 1) := by decide +kernel
theorem dX2_ones_4 : decode cX2_ones 4 = .ok (.ishl, 1) := by decide +kernel
theorem dX2_ones_5 : decode cX2_ones 5 = .ok (.iconst 1, 1) := by decide +kernel
theorem dX2_ones_6 : decode cX2_ones 6 = .ok (.isub, 1) := by decide +kernel
theorem dX2_ones_7 : decode cX2_ones 7 = .ok (.ireturn, 1) := by decide +kernel
theorem dX2_price_0 : decode cX2_price 0 = .ok (.iload_n 1, 1) := by decide +kernel
theorem dX2_price_1 : decode cX2_price 1 = .ok (.istore_n 2, 1) := by decide +kernel
theorem dX2_price_2 : decode cX2_price 2 = .ok (.iload_n 0, 1) := by decide +kernel
theorem dX2_price_3 : decode cX2_price 3 = .ok (.istore_n 3, 1) := by decide +kernel
theorem dX2_price_4 : decode cX2_price 4 = .ok (.iload_n 3, 1) := by decide +kernel
theorem dX2_price_5 : decode cX2_price 5 = .ok (.iconst 3, 1) := by decide +kernel
theorem dX2_price_6 : decode cX2_price 6 = .ok (.if_icmp .ge 17, 3) := by decide +kernel
theorem dX2_price_9 : decode cX2_price 9 = .ok (.iload_n 2, 1) := by decide +kernel
theorem dX2_price_10 : decode cX2_price 10 = .ok (.iload_n 2, 1) := by decide +kernel
theorem dX2_price_11 : decode cX2_price 11 = .ok (.iconst 1, 1) := by decide +kernel
theorem dX2_price_12 : decode cX2_price 12 = .ok (.iload_n 3, 1) := by decide +kernel
theorem dX2_price_13 : decode cX2_price 13 = .ok (.ishl, 1) := by decide +kernel
theorem dX2_price_14 : decode cX2_price 14 = .ok (.ishl, 1) := by decide +kernel
theorem dX2_price_15 : decode cX2_price 15 = .ok (.ior, 1) := by decide +kernel
theorem dX2_price_16 : decode cX2_price 16 = .ok (.istore_n 2, 1) := by decide +kernel
theorem dX2_price_17 : decode cX2_price 17 = .ok (.iinc 3 1, 3) := by decide +kernel
theorem dX2_price_20 : decode cX2_price 20 = .ok (.goto (-16), 3) := by decide +kernel
theorem dX2_price_23 : decode cX2_price 23 = .ok (.iload_n 2, 1) := by decide +kernel
theorem dX2_price_24 : decode cX2_price 24 = .ok (.ifCond .lt 11, 3) := by decide +kernel
theorem dX2_price_27 : decode cX2_price 27 = .ok (.iload_n 2, 1) := by decide +kernel
theorem dX2_price_28 : decode cX2_price 28 = .ok (.getstatic 9, 3) := by decide +kernel
theorem dX2_price_31 : decode cX2_price 31 = .ok (.arraylength, 1) := by decide +kernel
theorem dX2_price_32 : decode cX2_price 32 = .ok (.if_icmp .lt 7, 3) := by decide +kernel
theorem dX2_price_35 : decode cX2_price 35 = .ok (.iconst 0, 1) := by decide +kernel
theorem dX2_price_36 : decode cX2_price 36 = .ok (.goto 8, 3) := by decide +kernel
theorem dX2_price_39 : decode cX2_price 39 = .ok (.getstatic 9, 3) := by decide +kernel
theorem dX2_price_42 : decode cX2_price 42 = .ok (.iload_n 2, 1) := by decide +kernel
theorem dX2_price_43 : decode cX2_price 43 = .ok (.baload, 1) := by decide +kernel
theorem dX2_price_44 : decode cX2_price 44 = .ok (.ireturn, 1) := by decide +kernel
theorem dX2_leafOf_0 : decode cX2_leafOf 0 = .ok (.iload_n 1, 1) := by decide +kernel
theorem dX2_leafOf_1 : decode cX2_leafOf 1 = .ok (.ifCond .ne 7, 3) := by decide +kernel
theorem dX2_leafOf_4 : decode cX2_leafOf 4 = .ok (.sipush 200, 3) := by decide +kernel
theorem dX2_leafOf_7 : decode cX2_leafOf 7 = .ok (.ireturn, 1) := by decide +kernel
theorem dX2_leafOf_8 : decode cX2_leafOf 8 = .ok (.iload_n 1, 1) := by decide +kernel
theorem dX2_leafOf_9 : decode cX2_leafOf 9 = .ok (.iload_n 0, 1) := by decide +kernel
theorem dX2_leafOf_10 : decode cX2_leafOf 10 = .ok (.invokestatic 15, 3) := by decide +kernel
theorem dX2_leafOf_13 : decode cX2_leafOf 13 = .ok (.if_icmp .ne 7, 3) := by decide +kernel
theorem dX2_leafOf_16 : decode cX2_leafOf 16 = .ok (.sipush 201, 3) := by decide +kernel
theorem dX2_leafOf_19 : decode cX2_leafOf 19 = .ok (.ireturn, 1) := by decide +kernel
theorem dX2_leafOf_20 : decode cX2_leafOf 20 = .ok (.iconst 0, 1) := by decide +kernel
theorem dX2_leafOf_21 : decode cX2_leafOf 21 = .ok (.istore_n 2, 1) := by decide +kernel
theorem dX2_leafOf_22 : decode cX2_leafOf 22 = .ok (.iload_n 2, 1) := by decide +kernel
theorem dX2_leafOf_23 : decode cX2_leafOf 23 = .ok (.iload_n 0, 1) := by decide +kernel
theorem dX2_leafOf_24 : decode cX2_leafOf 24 = .ok (.if_icmp .ge 29, 3) := by decide +kernel
theorem dX2_leafOf_27 : decode cX2_leafOf 27 = .ok (.iload_n 1, 1) := by decide +kernel
theorem dX2_leafOf_28 : decode cX2_leafOf 28 = .ok (.getstatic 19, 3) := by decide +kernel
theorem dX2_leafOf_31 : decode cX2_leafOf 31 = .ok (.iload_n 2, 1) := by decide +kernel
theorem dX2_leafOf_32 : decode cX2_leafOf 32 = .ok (.laload, 1) := by decide +kernel
theorem dX2_leafOf_33 : decode cX2_leafOf 33 = .ok (.l2i, 1) := by decide +kernel
theorem dX2_leafOf_34 : decode cX2_leafOf 34 = .ok (.iload_n 0, 1) := by decide +kernel
theorem dX2_leafOf_35 : decode cX2_leafOf 35 = .ok (.invokestatic 15, 3) := by decide +kernel
theorem dX2_leafOf_38 : decode cX2_leafOf 38 = .ok (.iand, 1) := by decide +kernel
theorem dX2_leafOf_39 : decode cX2_leafOf 39 = .ok (.if_icmp .ne 8, 3) := by decide +kernel
theorem dX2_leafOf_42 : decode cX2_leafOf 42 = .ok (.bipush 100, 2) := by decide +kernel
theorem dX2_leafOf_44 : decode cX2_leafOf 44 = .ok (.iload_n 2, 1) := by decide +kernel
theorem dX2_leafOf_45 : decode cX2_leafOf 45 = .ok (.iadd, 1) := by decide +kernel
theorem dX2_leafOf_46 : decode cX2_leafOf 46 = .ok (.ireturn, 1) := by decide +kernel
theorem dX2_leafOf_47 : decode cX2_leafOf 47 = .ok (.iinc 2 1, 3) := by decide +kernel
theorem dX2_leafOf_50 : decode cX2_leafOf 50 = .ok (.goto (-28), 3) := by decide +kernel
theorem dX2_leafOf_53 : decode cX2_leafOf 53 = .ok (.iconst (-1), 1) := by decide +kernel
theorem dX2_leafOf_54 : decode cX2_leafOf 54 = .ok (.ireturn, 1) := by decide +kernel
theorem dX2_canMake_0 : decode cX2_canMake 0 = .ok (.iload_n 0, 1) := by decide +kernel
theorem dX2_canMake_1 : decode cX2_canMake 1 = .ok (.invokestatic 15, 3) := by decide +kernel
theorem dX2_canMake_4 : decode cX2_canMake 4 = .ok (.iload_n 1, 1) := by decide +kernel
theorem dX2_canMake_5 : decode cX2_canMake 5 = .ok (.iconst (-1), 1) := by decide +kernel
theorem dX2_canMake_6 : decode cX2_canMake 6 = .ok (.ixor, 1) := by decide +kernel
theorem dX2_canMake_7 : decode cX2_canMake 7 = .ok (.iand, 1) := by decide +kernel
theorem dX2_canMake_8 : decode cX2_canMake 8 = .ok (.istore 4, 2) := by decide +kernel
theorem dX2_canMake_10 : decode cX2_canMake 10 = .ok (.iload_n 2, 1) := by decide +kernel
theorem dX2_canMake_11 : decode cX2_canMake 11 = .ok (.tableswitch 91 1 5 #[33, 47, 91, 61, 76], 33) := by decide +kernel
theorem dX2_canMake_44 : decode cX2_canMake 44 = .ok (.iload_n 1, 1) := by decide +kernel
theorem dX2_canMake_45 : decode cX2_canMake 45 = .ok (.iload_n 3, 1) := by decide +kernel
theorem dX2_canMake_46 : decode cX2_canMake 46 = .ok (.iconst (-1), 1) := by decide +kernel
theorem dX2_canMake_47 : decode cX2_canMake 47 = .ok (.ixor, 1) := by decide +kernel
theorem dX2_canMake_48 : decode cX2_canMake 48 = .ok (.iand, 1) := by decide +kernel
theorem dX2_canMake_49 : decode cX2_canMake 49 = .ok (.ifCond .ne 7, 3) := by decide +kernel
theorem dX2_canMake_52 : decode cX2_canMake 52 = .ok (.iconst 1, 1) := by decide +kernel
theorem dX2_canMake_53 : decode cX2_canMake 53 = .ok (.goto 4, 3) := by decide +kernel
theorem dX2_canMake_56 : decode cX2_canMake 56 = .ok (.iconst 0, 1) := by decide +kernel
theorem dX2_canMake_57 : decode cX2_canMake 57 = .ok (.ireturn, 1) := by decide +kernel
theorem dX2_canMake_58 : decode cX2_canMake 58 = .ok (.iload_n 3, 1) := by decide +kernel
theorem dX2_canMake_59 : decode cX2_canMake 59 = .ok (.iload_n 1, 1) := by decide +kernel
theorem dX2_canMake_60 : decode cX2_canMake 60 = .ok (.iconst (-1), 1) := by decide +kernel
theorem dX2_canMake_61 : decode cX2_canMake 61 = .ok (.ixor, 1) := by decide +kernel
theorem dX2_canMake_62 : decode cX2_canMake 62 = .ok (.iand, 1) := by decide +kernel
theorem dX2_canMake_63 : decode cX2_canMake 63 = .ok (.ifCond .ne 7, 3) := by decide +kernel
theorem dX2_canMake_66 : decode cX2_canMake 66 = .ok (.iconst 1, 1) := by decide +kernel
theorem dX2_canMake_67 : decode cX2_canMake 67 = .ok (.goto 4, 3) := by decide +kernel
theorem dX2_canMake_70 : decode cX2_canMake 70 = .ok (.iconst 0, 1) := by decide +kernel
theorem dX2_canMake_71 : decode cX2_canMake 71 = .ok (.ireturn, 1) := by decide +kernel
theorem dX2_canMake_72 : decode cX2_canMake 72 = .ok (.iload 4, 2) := by decide +kernel
theorem dX2_canMake_74 : decode cX2_canMake 74 = .ok (.iload_n 3, 1) := by decide +kernel
theorem dX2_canMake_75 : decode cX2_canMake 75 = .ok (.iconst (-1), 1) := by decide +kernel
theorem dX2_canMake_76 : decode cX2_canMake 76 = .ok (.ixor, 1) := by decide +kernel
theorem dX2_canMake_77 : decode cX2_canMake 77 = .ok (.iand, 1) := by decide +kernel
theorem dX2_canMake_78 : decode cX2_canMake 78 = .ok (.ifCond .ne 7, 3) := by decide +kernel
theorem dX2_canMake_81 : decode cX2_canMake 81 = .ok (.iconst 1, 1) := by decide +kernel
theorem dX2_canMake_82 : decode cX2_canMake 82 = .ok (.goto 4, 3) := by decide +kernel
theorem dX2_canMake_85 : decode cX2_canMake 85 = .ok (.iconst 0, 1) := by decide +kernel
theorem dX2_canMake_86 : decode cX2_canMake 86 = .ok (.ireturn, 1) := by decide +kernel
theorem dX2_canMake_87 : decode cX2_canMake 87 = .ok (.iload_n 3, 1) := by decide +kernel
theorem dX2_canMake_88 : decode cX2_canMake 88 = .ok (.iload 4, 2) := by decide +kernel
theorem dX2_canMake_90 : decode cX2_canMake 90 = .ok (.iconst (-1), 1) := by decide +kernel
theorem dX2_canMake_91 : decode cX2_canMake 91 = .ok (.ixor, 1) := by decide +kernel
theorem dX2_canMake_92 : decode cX2_canMake 92 = .ok (.iand, 1) := by decide +kernel
theorem dX2_canMake_93 : decode cX2_canMake 93 = .ok (.ifCond .ne 7, 3) := by decide +kernel
theorem dX2_canMake_96 : decode cX2_canMake 96 = .ok (.iconst 1, 1) := by decide +kernel
theorem dX2_canMake_97 : decode cX2_canMake 97 = .ok (.goto 4, 3) := by decide +kernel
theorem dX2_canMake_100 : decode cX2_canMake 100 = .ok (.iconst 0, 1) := by decide +kernel
theorem dX2_canMake_101 : decode cX2_canMake 101 = .ok (.ireturn, 1) := by decide +kernel
theorem dX2_canMake_102 : decode cX2_canMake 102 = .ok (.iconst 1, 1) := by decide +kernel
theorem dX2_canMake_103 : decode cX2_canMake 103 = .ok (.ireturn, 1) := by decide +kernel
theorem dX6_made_0 : decode cX6_made 0 = .ok (.iload_n 0, 1) := by decide +kernel
theorem dX6_made_1 : decode cX6_made 1 = .ok (.tableswitch 102 0 8 #[51, 57, 61, 65, 69, 77, 85, 102, 98], 51) := by decide +kernel
theorem dX6_made_52 : decode cX6_made 52 = .ok (.lload_n 1, 1) := by decide +kernel
theorem dX6_made_53 : decode cX6_made 53 = .ok (.ldc2_w 92, 3) := by decide +kernel
theorem dX6_made_56 : decode cX6_made 56 = .ok (.lxor, 1) := by decide +kernel
theorem dX6_made_57 : decode cX6_made 57 = .ok (.lreturn, 1) := by decide +kernel
theorem dX6_made_58 : decode cX6_made 58 = .ok (.lload_n 1, 1) := by decide +kernel
theorem dX6_made_59 : decode cX6_made 59 = .ok (.lload_n 3, 1) := by decide +kernel
theorem dX6_made_60 : decode cX6_made 60 = .ok (.land, 1) := by decide +kernel
theorem dX6_made_61 : decode cX6_made 61 = .ok (.lreturn, 1) := by decide +kernel
theorem dX6_made_62 : decode cX6_made 62 = .ok (.lload_n 1, 1) := by decide +kernel
theorem dX6_made_63 : decode cX6_made 63 = .ok (.lload_n 3, 1) := by decide +kernel
theorem dX6_made_64 : decode cX6_made 64 = .ok (.lor, 1) := by decide +kernel
theorem dX6_made_65 : decode cX6_made 65 = .ok (.lreturn, 1) := by decide +kernel
theorem dX6_made_66 : decode cX6_made 66 = .ok (.lload_n 1, 1) := by decide +kernel
theorem dX6_made_67 : decode cX6_made 67 = .ok (.lload_n 3, 1) := by decide +kernel
theorem dX6_made_68 : decode cX6_made 68 = .ok (.lxor, 1) := by decide +kernel
theorem dX6_made_69 : decode cX6_made 69 = .ok (.lreturn, 1) := by decide +kernel
theorem dX6_made_70 : decode cX6_made 70 = .ok (.lload_n 1, 1) := by decide +kernel
theorem dX6_made_71 : decode cX6_made 71 = .ok (.lload_n 3, 1) := by decide +kernel
theorem dX6_made_72 : decode cX6_made 72 = .ok (.land, 1) := by decide +kernel
theorem dX6_made_73 : decode cX6_made 73 = .ok (.ldc2_w 92, 3) := by decide +kernel
theorem dX6_made_76 : decode cX6_made 76 = .ok (.lxor, 1) := by decide +kernel
theorem dX6_made_77 : decode cX6_made 77 = .ok (.lreturn, 1) := by decide +kernel
theorem dX6_made_78 : decode cX6_made 78 = .ok (.lload_n 1, 1) := by decide +kernel
theorem dX6_made_79 : decode cX6_made 79 = .ok (.lload_n 3, 1) := by decide +kernel
theorem dX6_made_80 : decode cX6_made 80 = .ok (.lor, 1) := by decide +kernel
theorem dX6_made_81 : decode cX6_made 81 = .ok (.ldc2_w 92, 3) := by decide +kernel
theorem dX6_made_84 : decode cX6_made 84 = .ok (.lxor, 1) := by decide +kernel
theorem dX6_made_85 : decode cX6_made 85 = .ok (.lreturn, 1) := by decide +kernel
theorem dX6_made_86 : decode cX6_made 86 = .ok (.lload_n 1, 1) := by decide +kernel
theorem dX6_made_87 : decode cX6_made 87 = .ok (.lload_n 3, 1) := by decide +kernel
theorem dX6_made_88 : decode cX6_made 88 = .ok (.land, 1) := by decide +kernel
theorem dX6_made_89 : decode cX6_made 89 = .ok (.lload_n 1, 1) := by decide +kernel
theorem dX6_made_90 : decode cX6_made 90 = .ok (.ldc2_w 92, 3) := by decide +kernel
theorem dX6_made_93 : decode cX6_made 93 = .ok (.lxor, 1) := by decide +kernel
theorem dX6_made_94 : decode cX6_made 94 = .ok (.lload 5, 2) := by decide +kernel
theorem dX6_made_96 : decode cX6_made 96 = .ok (.land, 1) := by decide +kernel
theorem dX6_made_97 : decode cX6_made 97 = .ok (.lor, 1) := by decide +kernel
theorem dX6_made_98 : decode cX6_made 98 = .ok (.lreturn, 1) := by decide +kernel
theorem dX6_made_99 : decode cX6_made 99 = .ok (.ldc2_w 92, 3) := by decide +kernel
theorem dX6_made_102 : decode cX6_made 102 = .ok (.lreturn, 1) := by decide +kernel
theorem dX6_made_103 : decode cX6_made 103 = .ok (.lconst 0, 1) := by decide +kernel
theorem dX6_made_104 : decode cX6_made 104 = .ok (.lreturn, 1) := by decide +kernel
theorem dX2_mate_0 : decode cX2_mate 0 = .ok (.iload 4, 2) := by decide +kernel
theorem dX2_mate_2 : decode cX2_mate 2 = .ok (.ifCond .lt 13, 3) := by decide +kernel
theorem dX2_mate_5 : decode cX2_mate 5 = .ok (.iload_n 0, 1) := by decide +kernel
theorem dX2_mate_6 : decode cX2_mate 6 = .ok (.iload_n 1, 1) := by decide +kernel
theorem dX2_mate_7 : decode cX2_mate 7 = .ok (.iload_n 2, 1) := by decide +kernel
theorem dX2_mate_8 : decode cX2_mate 8 = .ok (.iload_n 3, 1) := by decide +kernel
theorem dX2_mate_9 : decode cX2_mate 9 = .ok (.invokestatic 31, 3) := by decide +kernel
theorem dX2_mate_12 : decode cX2_mate 12 = .ok (.ifCond .ne 5, 3) := by decide +kernel
theorem dX2_mate_15 : decode cX2_mate 15 = .ok (.iconst (-1), 1) := by decide +kernel
theorem dX2_mate_16 : decode cX2_mate 16 = .ok (.ireturn, 1) := by decide +kernel
theorem dX2_mate_17 : decode cX2_mate 17 = .ok (.iload_n 2, 1) := by decide +kernel
theorem dX2_mate_18 : decode cX2_mate 18 = .ok (.iconst 3, 1) := by decide +kernel
theorem dX2_mate_19 : decode cX2_mate 19 = .ok (.if_icmp .ne 9, 3) := by decide +kernel
theorem dX2_mate_22 : decode cX2_mate 22 = .ok (.iload_n 1, 1) := by decide +kernel
theorem dX2_mate_23 : decode cX2_mate 23 = .ok (.iload_n 3, 1) := by decide +kernel
theorem dX2_mate_24 : decode cX2_mate 24 = .ok (.ixor, 1) := by decide +kernel
theorem dX2_mate_25 : decode cX2_mate 25 = .ok (.goto 4, 3) := by decide +kernel
theorem dX2_mate_28 : decode cX2_mate 28 = .ok (.iconst 0, 1) := by decide +kernel
theorem dX2_mate_29 : decode cX2_mate 29 = .ok (.istore 5, 2) := by decide +kernel
theorem dX2_mate_31 : decode cX2_mate 31 = .ok (.iload_n 2, 1) := by decide +kernel
theorem dX2_mate_32 : decode cX2_mate 32 = .ok (.iconst 3, 1) := by decide +kernel
theorem dX2_mate_33 : decode cX2_mate 33 = .ok (.if_icmp .ne 9, 3) := by decide +kernel
theorem dX2_mate_36 : decode cX2_mate 36 = .ok (.iload_n 1, 1) := by decide +kernel
theorem dX2_mate_37 : decode cX2_mate 37 = .ok (.iload_n 3, 1) := by decide +kernel
theorem dX2_mate_38 : decode cX2_mate 38 = .ok (.ixor, 1) := by decide +kernel
theorem dX2_mate_39 : decode cX2_mate 39 = .ok (.goto 7, 3) := by decide +kernel
theorem dX2_mate_42 : decode cX2_mate 42 = .ok (.iload_n 0, 1) := by decide +kernel
theorem dX2_mate_43 : decode cX2_mate 43 = .ok (.invokestatic 15, 3) := by decide +kernel
theorem dX2_mate_46 : decode cX2_mate 46 = .ok (.istore 6, 2) := by decide +kernel
theorem dX2_mate_48 : decode cX2_mate 48 = .ok (.iload 5, 2) := by decide +kernel
theorem dX2_mate_50 : decode cX2_mate 50 = .ok (.istore 7, 2) := by decide +kernel
theorem dX2_mate_52 : decode cX2_mate 52 = .ok (.iload 7, 2) := by decide +kernel
theorem dX2_mate_54 : decode cX2_mate 54 = .ok (.iload 6, 2) := by decide +kernel
theorem dX2_mate_56 : decode cX2_mate 56 = .ok (.if_icmp .gt 43, 3) := by decide +kernel
theorem dX2_mate_59 : decode cX2_mate 59 = .ok (.iload_n 0, 1) := by decide +kernel
theorem dX2_mate_60 : decode cX2_mate 60 = .ok (.iload 7, 2) := by decide +kernel
theorem dX2_mate_62 : decode cX2_mate 62 = .ok (.invokestatic 23, 3) := by decide +kernel
theorem dX2_mate_65 : decode cX2_mate 65 = .ok (.iload 4, 2) := by decide +kernel
theorem dX2_mate_67 : decode cX2_mate 67 = .ok (.if_icmp .ne 26, 3) := by decide +kernel
theorem dX2_mate_70 : decode cX2_mate 70 = .ok (.iload_n 2, 1) := by decide +kernel
theorem dX2_mate_71 : decode cX2_mate 71 = .ok (.iload_n 3, 1) := by decide +kernel
theorem dX2_mate_72 : decode cX2_mate 72 = .ok (.i2l, 1) := by decide +kernel
theorem dX2_mate_73 : decode cX2_mate 73 = .ok (.iload 7, 2) := by decide +kernel
theorem dX2_mate_75 : decode cX2_mate 75 = .ok (.i2l, 1) := by decide +kernel
theorem dX2_mate_76 : decode cX2_mate 76 = .ok (.lconst 0, 1) := by decide +kernel
theorem dX2_mate_77 : decode cX2_mate 77 = .ok (.invokestatic 35, 3) := by decide +kernel
theorem dX2_mate_80 : decode cX2_mate 80 = .ok (.l2i, 1) := by decide +kernel
theorem dX2_mate_81 : decode cX2_mate 81 = .ok (.iload_n 0, 1) := by decide +kernel
theorem dX2_mate_82 : decode cX2_mate 82 = .ok (.invokestatic 15, 3) := by decide +kernel
theorem dX2_mate_85 : decode cX2_mate 85 = .ok (.iand, 1) := by decide +kernel
theorem dX2_mate_86 : decode cX2_mate 86 = .ok (.iload_n 1, 1) := by decide +kernel
theorem dX2_mate_87 : decode cX2_mate 87 = .ok (.if_icmp .ne 6, 3) := by decide +kernel
theorem dX2_mate_90 : decode cX2_mate 90 = .ok (.iload 7, 2) := by decide +kernel
theorem dX2_mate_92 : decode cX2_mate 92 = .ok (.ireturn, 1) := by decide +kernel
theorem dX2_mate_93 : decode cX2_mate 93 = .ok (.iinc 7 1, 3) := by decide +kernel
theorem dX2_mate_96 : decode cX2_mate 96 = .ok (.goto (-44), 3) := by decide +kernel
theorem dX2_mate_99 : decode cX2_mate 99 = .ok (.iconst (-1), 1) := by decide +kernel
theorem dX2_mate_100 : decode cX2_mate 100 = .ok (.ireturn, 1) := by decide +kernel
theorem dX2_split_0 : decode cX2_split 0 = .ok (.iload_n 0, 1) := by decide +kernel
theorem dX2_split_1 : decode cX2_split 1 = .ok (.iload_n 1, 1) := by decide +kernel
theorem dX2_split_2 : decode cX2_split 2 = .ok (.invokestatic 23, 3) := by decide +kernel
theorem dX2_split_5 : decode cX2_split 5 = .ok (.iconst 1, 1) := by decide +kernel
theorem dX2_split_6 : decode cX2_split 6 = .ok (.isub, 1) := by decide +kernel
theorem dX2_split_7 : decode cX2_split 7 = .ok (.istore_n 2, 1) := by decide +kernel
theorem dX2_split_8 : decode cX2_split 8 = .ok (.iload_n 0, 1) := by decide +kernel
theorem dX2_split_9 : decode cX2_split 9 = .ok (.invokestatic 15, 3) := by decide +kernel
theorem dX2_split_12 : decode cX2_split 12 = .ok (.iload_n 1, 1) := by decide +kernel
theorem dX2_split_13 : decode cX2_split 13 = .ok (.iconst (-1), 1) := by decide +kernel
theorem dX2_split_14 : decode cX2_split 14 = .ok (.ixor, 1) := by decide +kernel
theorem dX2_split_15 : decode cX2_split 15 = .ok (.iand, 1) := by decide +kernel
theorem dX2_split_16 : decode cX2_split 16 = .ok (.istore_n 3, 1) := by decide +kernel
theorem dX2_split_17 : decode cX2_split 17 = .ok (.iload_n 0, 1) := by decide +kernel
theorem dX2_split_18 : decode cX2_split 18 = .ok (.iload_n 3, 1) := by decide +kernel
theorem dX2_split_19 : decode cX2_split 19 = .ok (.invokestatic 23, 3) := by decide +kernel
theorem dX2_split_22 : decode cX2_split 22 = .ok (.iload_n 2, 1) := by decide +kernel
theorem dX2_split_23 : decode cX2_split 23 = .ok (.if_icmp .ne 8, 3) := by decide +kernel
theorem dX2_split_26 : decode cX2_split 26 = .ok (.iload_n 3, 1) := by decide +kernel
theorem dX2_split_27 : decode cX2_split 27 = .ok (.bipush 8, 2) := by decide +kernel
theorem dX2_split_29 : decode cX2_split 29 = .ok (.ishl, 1) := by decide +kernel
theorem dX2_split_30 : decode cX2_split 30 = .ok (.ireturn, 1) := by decide +kernel
theorem dX2_split_31 : decode cX2_split 31 = .ok (.iconst 1, 1) := by decide +kernel
theorem dX2_split_32 : decode cX2_split 32 = .ok (.istore 4, 2) := by decide +kernel
theorem dX2_split_34 : decode cX2_split 34 = .ok (.iload 4, 2) := by decide +kernel
theorem dX2_split_36 : decode cX2_split 36 = .ok (.iconst 5, 1) := by decide +kernel
theorem dX2_split_37 : decode cX2_split 37 = .ok (.if_icmp .gt 66, 3) := by decide +kernel
theorem dX2_split_40 : decode cX2_split 40 = .ok (.iconst 0, 1) := by decide +kernel
theorem dX2_split_41 : decode cX2_split 41 = .ok (.istore 5, 2) := by decide +kernel
theorem dX2_split_43 : decode cX2_split 43 = .ok (.iload 5, 2) := by decide +kernel
theorem dX2_split_45 : decode cX2_split 45 = .ok (.iload_n 0, 1) := by decide +kernel
theorem dX2_split_46 : decode cX2_split 46 = .ok (.invokestatic 15, 3) := by decide +kernel
theorem dX2_split_49 : decode cX2_split 49 = .ok (.if_icmp .gt 48, 3) := by decide +kernel
theorem dX2_split_52 : decode cX2_split 52 = .ok (.iload_n 0, 1) := by decide +kernel
theorem dX2_split_53 : decode cX2_split 53 = .ok (.iload_n 1, 1) := by decide +kernel
theorem dX2_split_54 : decode cX2_split 54 = .ok (.iload 4, 2) := by decide +kernel
theorem dX2_split_56 : decode cX2_split 56 = .ok (.iload 5, 2) := by decide +kernel
theorem dX2_split_58 : decode cX2_split 58 = .ok (.iload_n 2, 1) := by decide +kernel
theorem dX2_split_59 : decode cX2_split 59 = .ok (.iload_n 0, 1) := by decide +kernel
theorem dX2_split_60 : decode cX2_split 60 = .ok (.iload 5, 2) := by decide +kernel
theorem dX2_split_62 : decode cX2_split 62 = .ok (.invokestatic 23, 3) := by decide +kernel
theorem dX2_split_65 : decode cX2_split 65 = .ok (.isub, 1) := by decide +kernel
theorem dX2_split_66 : decode cX2_split 66 = .ok (.invokestatic 27, 3) := by decide +kernel
theorem dX2_split_69 : decode cX2_split 69 = .ok (.istore 6, 2) := by decide +kernel
theorem dX2_split_71 : decode cX2_split 71 = .ok (.iload 6, 2) := by decide +kernel
theorem dX2_split_73 : decode cX2_split 73 = .ok (.ifCond .lt 18, 3) := by decide +kernel
theorem dX2_split_76 : decode cX2_split 76 = .ok (.iload 4, 2) := by decide +kernel
theorem dX2_split_78 : decode cX2_split 78 = .ok (.bipush 16, 2) := by decide +kernel
theorem dX2_split_80 : decode cX2_split 80 = .ok (.ishl, 1) := by decide +kernel
theorem dX2_split_81 : decode cX2_split 81 = .ok (.iload 5, 2) := by decide +kernel
theorem dX2_split_83 : decode cX2_split 83 = .ok (.bipush 8, 2) := by decide +kernel
theorem dX2_split_85 : decode cX2_split 85 = .ok (.ishl, 1) := by decide +kernel
theorem dX2_split_86 : decode cX2_split 86 = .ok (.ior, 1) := by decide +kernel
theorem dX2_split_87 : decode cX2_split 87 = .ok (.iload 6, 2) := by decide +kernel
theorem dX2_split_89 : decode cX2_split 89 = .ok (.ior, 1) := by decide +kernel
theorem dX2_split_90 : decode cX2_split 90 = .ok (.ireturn, 1) := by decide +kernel
theorem dX2_split_91 : decode cX2_split 91 = .ok (.iinc 5 1, 3) := by decide +kernel
theorem dX2_split_94 : decode cX2_split 94 = .ok (.goto (-51), 3) := by decide +kernel
theorem dX2_split_97 : decode cX2_split 97 = .ok (.iinc 4 1, 3) := by decide +kernel
theorem dX2_split_100 : decode cX2_split 100 = .ok (.goto (-66), 3) := by decide +kernel
theorem dX2_split_103 : decode cX2_split 103 = .ok (.iconst (-1), 1) := by decide +kernel
theorem dX2_split_104 : decode cX2_split 104 = .ok (.ireturn, 1) := by decide +kernel
theorem dX8_start_0 : decode cX8_start 0 = .ok (.aload_n 0, 1) := by decide +kernel
theorem dX8_start_1 : decode cX8_start 1 = .ok (.iload_n 1, 1) := by decide +kernel
theorem dX8_start_2 : decode cX8_start 2 = .ok (.putfield 24, 3) := by decide +kernel
theorem dX8_start_5 : decode cX8_start 5 = .ok (.aload_n 0, 1) := by decide +kernel
theorem dX8_start_6 : decode cX8_start 6 = .ok (.iload_n 2, 1) := by decide +kernel
theorem dX8_start_7 : decode cX8_start 7 = .ok (.putfield 28, 3) := by decide +kernel
theorem dX8_start_10 : decode cX8_start 10 = .ok (.aload_n 0, 1) := by decide +kernel
theorem dX8_start_11 : decode cX8_start 11 = .ok (.iload_n 3, 1) := by decide +kernel
theorem dX8_start_12 : decode cX8_start 12 = .ok (.putfield 31, 3) := by decide +kernel
theorem dX8_start_15 : decode cX8_start 15 = .ok (.aload_n 0, 1) := by decide +kernel
theorem dX8_start_16 : decode cX8_start 16 = .ok (.iconst 0, 1) := by decide +kernel
theorem dX8_start_17 : decode cX8_start 17 = .ok (.putfield 34, 3) := by decide +kernel
theorem dX8_start_20 : decode cX8_start 20 = .ok (.aload_n 0, 1) := by decide +kernel
theorem dX8_start_21 : decode cX8_start 21 = .ok (.getfield 18, 3) := by decide +kernel
theorem dX8_start_24 : decode cX8_start 24 = .ok (.iconst 0, 1) := by decide +kernel
theorem dX8_start_25 : decode cX8_start 25 = .ok (.invokestatic 37, 3) := by decide +kernel
theorem dX8_start_28 : decode cX8_start 28 = .ok (.aload_n 0, 1) := by decide +kernel
theorem dX8_start_29 : decode cX8_start 29 = .ok (.getfield 21, 3) := by decide +kernel
theorem dX8_start_32 : decode cX8_start 32 = .ok (.iconst 0, 1) := by decide +kernel
theorem dX8_start_33 : decode cX8_start 33 = .ok (.invokestatic 37, 3) := by decide +kernel
theorem dX8_start_36 : decode cX8_start 36 = .ok (.return_, 1) := by decide +kernel
theorem dX8_sources_0 : decode cX8_sources 0 = .ok (.aload_n 0, 1) := by decide +kernel
theorem dX8_sources_1 : decode cX8_sources 1 = .ok (.getfield 24, 3) := by decide +kernel
theorem dX8_sources_4 : decode cX8_sources 4 = .ok (.aload_n 0, 1) := by decide +kernel
theorem dX8_sources_5 : decode cX8_sources 5 = .ok (.getfield 28, 3) := by decide +kernel
theorem dX8_sources_8 : decode cX8_sources 8 = .ok (.iadd, 1) := by decide +kernel
theorem dX8_sources_9 : decode cX8_sources 9 = .ok (.ireturn, 1) := by decide +kernel
theorem dX8_wires_0 : decode cX8_wires 0 = .ok (.aload_n 0, 1) := by decide +kernel
theorem dX8_wires_1 : decode cX8_wires 1 = .ok (.getfield 24, 3) := by decide +kernel
theorem dX8_wires_4 : decode cX8_wires 4 = .ok (.aload_n 0, 1) := by decide +kernel
theorem dX8_wires_5 : decode cX8_wires 5 = .ok (.getfield 28, 3) := by decide +kernel
theorem dX8_wires_8 : decode cX8_wires 8 = .ok (.iadd, 1) := by decide +kernel
theorem dX8_wires_9 : decode cX8_wires 9 = .ok (.aload_n 0, 1) := by decide +kernel
theorem dX8_wires_10 : decode cX8_wires 10 = .ok (.getfield 34, 3) := by decide +kernel
theorem dX8_wires_13 : decode cX8_wires 13 = .ok (.iadd, 1) := by decide +kernel
theorem dX8_wires_14 : decode cX8_wires 14 = .ok (.ireturn, 1) := by decide +kernel
theorem dX8_seenCount_0 : decode cX8_seenCount 0 = .ok (.aload_n 0, 1) := by decide +kernel
theorem dX8_seenCount_1 : decode cX8_seenCount 1 = .ok (.getfield 31, 3) := by decide +kernel
theorem dX8_seenCount_4 : decode cX8_seenCount 4 = .ok (.aload_n 0, 1) := by decide +kernel
theorem dX8_seenCount_5 : decode cX8_seenCount 5 = .ok (.getfield 28, 3) := by decide +kernel
theorem dX8_seenCount_8 : decode cX8_seenCount 8 = .ok (.iadd, 1) := by decide +kernel
theorem dX8_seenCount_9 : decode cX8_seenCount 9 = .ok (.ireturn, 1) := by decide +kernel
theorem dX8_isWire_0 : decode cX8_isWire 0 = .ok (.iload_n 1, 1) := by decide +kernel
theorem dX8_isWire_1 : decode cX8_isWire 1 = .ok (.ifCond .lt 15, 3) := by decide +kernel
theorem dX8_isWire_4 : decode cX8_isWire 4 = .ok (.iload_n 1, 1) := by decide +kernel
theorem dX8_isWire_5 : decode cX8_isWire 5 = .ok (.aload_n 0, 1) := by decide +kernel
theorem dX8_isWire_6 : decode cX8_isWire 6 = .ok (.invokevirtual 43, 3) := by decide +kernel
theorem dX8_isWire_9 : decode cX8_isWire 9 = .ok (.if_icmp .ge 7, 3) := by decide +kernel
theorem dX8_isWire_12 : decode cX8_isWire 12 = .ok (.iconst 1, 1) := by decide +kernel
theorem dX8_isWire_13 : decode cX8_isWire 13 = .ok (.goto 4, 3) := by decide +kernel
theorem dX8_isWire_16 : decode cX8_isWire 16 = .ok (.iconst 0, 1) := by decide +kernel
theorem dX8_isWire_17 : decode cX8_isWire 17 = .ok (.ireturn, 1) := by decide +kernel
theorem dX8_isGate_0 : decode cX8_isGate 0 = .ok (.iload_n 1, 1) := by decide +kernel
theorem dX8_isGate_1 : decode cX8_isGate 1 = .ok (.aload_n 0, 1) := by decide +kernel
theorem dX8_isGate_2 : decode cX8_isGate 2 = .ok (.invokevirtual 47, 3) := by decide +kernel
theorem dX8_isGate_5 : decode cX8_isGate 5 = .ok (.if_icmp .lt 15, 3) := by decide +kernel
theorem dX8_isGate_8 : decode cX8_isGate 8 = .ok (.iload_n 1, 1) := by decide +kernel
theorem dX8_isGate_9 : decode cX8_isGate 9 = .ok (.aload_n 0, 1) := by decide +kernel
theorem dX8_isGate_10 : decode cX8_isGate 10 = .ok (.invokevirtual 43, 3) := by decide +kernel
theorem dX8_isGate_13 : decode cX8_isGate 13 = .ok (.if_icmp .ge 7, 3) := by decide +kernel
theorem dX8_isGate_16 : decode cX8_isGate 16 = .ok (.iconst 1, 1) := by decide +kernel
theorem dX8_isGate_17 : decode cX8_isGate 17 = .ok (.goto 4, 3) := by decide +kernel
theorem dX8_isGate_20 : decode cX8_isGate 20 = .ok (.iconst 0, 1) := by decide +kernel
theorem dX8_isGate_21 : decode cX8_isGate 21 = .ok (.ireturn, 1) := by decide +kernel
theorem dX8_hasPin_0 : decode cX8_hasPin 0 = .ok (.iload_n 2, 1) := by decide +kernel
theorem dX8_hasPin_1 : decode cX8_hasPin 1 = .ok (.ifCond .lt 21, 3) := by decide +kernel
theorem dX8_hasPin_4 : decode cX8_hasPin 4 = .ok (.iload_n 2, 1) := by decide +kernel
theorem dX8_hasPin_5 : decode cX8_hasPin 5 = .ok (.getstatic 50, 3) := by decide +kernel
theorem dX8_hasPin_8 : decode cX8_hasPin 8 = .ok (.aload_n 0, 1) := by decide +kernel
theorem dX8_hasPin_9 : decode cX8_hasPin 9 = .ok (.getfield 9, 3) := by decide +kernel
theorem dX8_hasPin_12 : decode cX8_hasPin 12 = .ok (.iload_n 1, 1) := by decide +kernel
theorem dX8_hasPin_13 : decode cX8_hasPin 13 = .ok (.iaload, 1) := by decide +kernel
theorem dX8_hasPin_14 : decode cX8_hasPin 14 = .ok (.baload, 1) := by decide +kernel
theorem dX8_hasPin_15 : decode cX8_hasPin 15 = .ok (.if_icmp .ge 7, 3) := by decide +kernel
theorem dX8_hasPin_18 : decode cX8_hasPin 18 = .ok (.iconst 1, 1) := by decide +kernel
theorem dX8_hasPin_19 : decode cX8_hasPin 19 = .ok (.goto 4, 3) := by decide +kernel
theorem dX8_hasPin_22 : decode cX8_hasPin 22 = .ok (.iconst 0, 1) := by decide +kernel
theorem dX8_hasPin_23 : decode cX8_hasPin 23 = .ok (.ireturn, 1) := by decide +kernel
theorem dX8_addGate_0 : decode cX8_addGate 0 = .ok (.aload_n 0, 1) := by decide +kernel
theorem dX8_addGate_1 : decode cX8_addGate 1 = .ok (.invokevirtual 43, 3) := by decide +kernel
theorem dX8_addGate_4 : decode cX8_addGate 4 = .ok (.istore 6, 2) := by decide +kernel
theorem dX8_addGate_6 : decode cX8_addGate 6 = .ok (.aload_n 0, 1) := by decide +kernel
theorem dX8_addGate_7 : decode cX8_addGate 7 = .ok (.getfield 9, 3) := by decide +kernel
theorem dX8_addGate_10 : decode cX8_addGate 10 = .ok (.iload 6, 2) := by decide +kernel
theorem dX8_addGate_12 : decode cX8_addGate 12 = .ok (.iload_n 1, 1) := by decide +kernel
theorem dX8_addGate_13 : decode cX8_addGate 13 = .ok (.iastore, 1) := by decide +kernel
theorem dX8_addGate_14 : decode cX8_addGate 14 = .ok (.aload_n 0, 1) := by decide +kernel
theorem dX8_addGate_15 : decode cX8_addGate 15 = .ok (.getfield 15, 3) := by decide +kernel
theorem dX8_addGate_18 : decode cX8_addGate 18 = .ok (.iconst 3, 1) := by decide +kernel
theorem dX8_addGate_19 : decode cX8_addGate 19 = .ok (.iload 6, 2) := by decide +kernel
theorem dX8_addGate_21 : decode cX8_addGate 21 = .ok (.imul, 1) := by decide +kernel
theorem dX8_addGate_22 : decode cX8_addGate 22 = .ok (.iload_n 2, 1) := by decide +kernel
theorem dX8_addGate_23 : decode cX8_addGate 23 = .ok (.iastore, 1) := by decide +kernel
theorem dX8_addGate_24 : decode cX8_addGate 24 = .ok (.aload_n 0, 1) := by decide +kernel
theorem dX8_addGate_25 : decode cX8_addGate 25 = .ok (.getfield 15, 3) := by decide +kernel
theorem dX8_addGate_28 : decode cX8_addGate 28 = .ok (.iconst 3, 1) := by decide +kernel
theorem dX8_addGate_29 : decode cX8_addGate 29 = .ok (.iload 6, 2) := by decide +kernel
theorem dX8_addGate_31 : decode cX8_addGate 31 = .ok (.imul, 1) := by decide +kernel
theorem dX8_addGate_32 : decode cX8_addGate 32 = .ok (.iconst 1, 1) := by decide +kernel
theorem dX8_addGate_33 : decode cX8_addGate 33 = .ok (.iadd, 1) := by decide +kernel
theorem dX8_addGate_34 : decode cX8_addGate 34 = .ok (.iload_n 3, 1) := by decide +kernel
theorem dX8_addGate_35 : decode cX8_addGate 35 = .ok (.iastore, 1) := by decide +kernel
theorem dX8_addGate_36 : decode cX8_addGate 36 = .ok (.aload_n 0, 1) := by decide +kernel
theorem dX8_addGate_37 : decode cX8_addGate 37 = .ok (.getfield 15, 3) := by decide +kernel
theorem dX8_addGate_40 : decode cX8_addGate 40 = .ok (.iconst 3, 1) := by decide +kernel
theorem dX8_addGate_41 : decode cX8_addGate 41 = .ok (.iload 6, 2) := by decide +kernel
theorem dX8_addGate_43 : decode cX8_addGate 43 = .ok (.imul, 1) := by decide +kernel
theorem dX8_addGate_44 : decode cX8_addGate 44 = .ok (.iconst 2, 1) := by decide +kernel
theorem dX8_addGate_45 : decode cX8_addGate 45 = .ok (.iadd, 1) := by decide +kernel
theorem dX8_addGate_46 : decode cX8_addGate 46 = .ok (.iload 4, 2) := by decide +kernel
theorem dX8_addGate_48 : decode cX8_addGate 48 = .ok (.iastore, 1) := by decide +kernel
theorem dX8_addGate_49 : decode cX8_addGate 49 = .ok (.aload_n 0, 1) := by decide +kernel
theorem dX8_addGate_50 : decode cX8_addGate 50 = .ok (.getfield 21, 3) := by decide +kernel
theorem dX8_addGate_53 : decode cX8_addGate 53 = .ok (.iload 6, 2) := by decide +kernel
theorem dX8_addGate_55 : decode cX8_addGate 55 = .ok (.iload 5, 2) := by decide +kernel
theorem dX8_addGate_57 : decode cX8_addGate 57 = .ok (.iastore, 1) := by decide +kernel
theorem dX8_addGate_58 : decode cX8_addGate 58 = .ok (.aload_n 0, 1) := by decide +kernel
theorem dX8_addGate_59 : decode cX8_addGate 59 = .ok (.dup, 1) := by decide +kernel
theorem dX8_addGate_60 : decode cX8_addGate 60 = .ok (.getfield 34, 3) := by decide +kernel
theorem dX8_addGate_63 : decode cX8_addGate 63 = .ok (.iconst 1, 1) := by decide +kernel
theorem dX8_addGate_64 : decode cX8_addGate 64 = .ok (.iadd, 1) := by decide +kernel
theorem dX8_addGate_65 : decode cX8_addGate 65 = .ok (.putfield 34, 3) := by decide +kernel
theorem dX8_addGate_68 : decode cX8_addGate 68 = .ok (.iload 6, 2) := by decide +kernel
theorem dX8_addGate_70 : decode cX8_addGate 70 = .ok (.ireturn, 1) := by decide +kernel
theorem dX8_sameShape_0 : decode cX8_sameShape 0 = .ok (.aload_n 0, 1) := by decide +kernel
theorem dX8_sameShape_1 : decode cX8_sameShape 1 = .ok (.getfield 24, 3) := by decide +kernel
theorem dX8_sameShape_4 : decode cX8_sameShape 4 = .ok (.aload_n 1, 1) := by decide +kernel
theorem dX8_sameShape_5 : decode cX8_sameShape 5 = .ok (.getfield 24, 3) := by decide +kernel
theorem dX8_sameShape_8 : decode cX8_sameShape 8 = .ok (.if_icmp .ne 29, 3) := by decide +kernel
theorem dX8_sameShape_11 : decode cX8_sameShape 11 = .ok (.aload_n 0, 1) := by decide +kernel
theorem dX8_sameShape_12 : decode cX8_sameShape 12 = .ok (.getfield 28, 3) := by decide +kernel
theorem dX8_sameShape_15 : decode cX8_sameShape 15 = .ok (.aload_n 1, 1) := by decide +kernel
theorem dX8_sameShape_16 : decode cX8_sameShape 16 = .ok (.getfield 28, 3) := by decide +kernel
theorem dX8_sameShape_19 : decode cX8_sameShape 19 = .ok (.if_icmp .ne 18, 3) := by decide +kernel
theorem dX8_sameShape_22 : decode cX8_sameShape 22 = .ok (.aload_n 0, 1) := by decide +kernel
theorem dX8_sameShape_23 : decode cX8_sameShape 23 = .ok (.getfield 31, 3) := by decide +kernel
theorem dX8_sameShape_26 : decode cX8_sameShape 26 = .ok (.aload_n 1, 1) := by decide +kernel
theorem dX8_sameShape_27 : decode cX8_sameShape 27 = .ok (.getfield 31, 3) := by decide +kernel
theorem dX8_sameShape_30 : decode cX8_sameShape 30 = .ok (.if_icmp .ne 7, 3) := by decide +kernel
theorem dX8_sameShape_33 : decode cX8_sameShape 33 = .ok (.iconst 1, 1) := by decide +kernel
theorem dX8_sameShape_34 : decode cX8_sameShape 34 = .ok (.goto 4, 3) := by decide +kernel
theorem dX8_sameShape_37 : decode cX8_sameShape 37 = .ok (.iconst 0, 1) := by decide +kernel
theorem dX8_sameShape_38 : decode cX8_sameShape 38 = .ok (.ireturn, 1) := by decide +kernel
theorem dX8_take_0 : decode cX8_take 0 = .ok (.aload_n 0, 1) := by decide +kernel
theorem dX8_take_1 : decode cX8_take 1 = .ok (.aload_n 1, 1) := by decide +kernel
theorem dX8_take_2 : decode cX8_take 2 = .ok (.getfield 24, 3) := by decide +kernel
theorem dX8_take_5 : decode cX8_take 5 = .ok (.putfield 24, 3) := by decide +kernel
theorem dX8_take_8 : decode cX8_take 8 = .ok (.aload_n 0, 1) := by decide +kernel
theorem dX8_take_9 : decode cX8_take 9 = .ok (.aload_n 1, 1) := by decide +kernel
theorem dX8_take_10 : decode cX8_take 10 = .ok (.getfield 28, 3) := by decide +kernel
theorem dX8_take_13 : decode cX8_take 13 = .ok (.putfield 28, 3) := by decide +kernel
theorem dX8_take_16 : decode cX8_take 16 = .ok (.aload_n 0, 1) := by decide +kernel
theorem dX8_take_17 : decode cX8_take 17 = .ok (.aload_n 1, 1) := by decide +kernel
theorem dX8_take_18 : decode cX8_take 18 = .ok (.getfield 31, 3) := by decide +kernel
theorem dX8_take_21 : decode cX8_take 21 = .ok (.putfield 31, 3) := by decide +kernel
theorem dX8_take_24 : decode cX8_take 24 = .ok (.aload_n 0, 1) := by decide +kernel
theorem dX8_take_25 : decode cX8_take 25 = .ok (.aload_n 1, 1) := by decide +kernel
theorem dX8_take_26 : decode cX8_take 26 = .ok (.getfield 34, 3) := by decide +kernel
theorem dX8_take_29 : decode cX8_take 29 = .ok (.putfield 34, 3) := by decide +kernel
theorem dX8_take_32 : decode cX8_take 32 = .ok (.aload_n 1, 1) := by decide +kernel
theorem dX8_take_33 : decode cX8_take 33 = .ok (.getfield 9, 3) := by decide +kernel
theorem dX8_take_36 : decode cX8_take 36 = .ok (.iconst 0, 1) := by decide +kernel
theorem dX8_take_37 : decode cX8_take 37 = .ok (.aload_n 0, 1) := by decide +kernel
theorem dX8_take_38 : decode cX8_take 38 = .ok (.getfield 9, 3) := by decide +kernel
theorem dX8_take_41 : decode cX8_take 41 = .ok (.iconst 0, 1) := by decide +kernel
theorem dX8_take_42 : decode cX8_take 42 = .ok (.aload_n 0, 1) := by decide +kernel
theorem dX8_take_43 : decode cX8_take 43 = .ok (.getfield 9, 3) := by decide +kernel
theorem dX8_take_46 : decode cX8_take 46 = .ok (.arraylength, 1) := by decide +kernel
theorem dX8_take_47 : decode cX8_take 47 = .ok (.invokestatic 54, 3) := by decide +kernel
theorem dX8_take_50 : decode cX8_take 50 = .ok (.aload_n 1, 1) := by decide +kernel
theorem dX8_take_51 : decode cX8_take 51 = .ok (.getfield 15, 3) := by decide +kernel
theorem dX8_take_54 : decode cX8_take 54 = .ok (.iconst 0, 1) := by decide +kernel
theorem dX8_take_55 : decode cX8_take 55 = .ok (.aload_n 0, 1) := by decide +kernel
theorem dX8_take_56 : decode cX8_take 56 = .ok (.getfield 15, 3) := by decide +kernel
theorem dX8_take_59 : decode cX8_take 59 = .ok (.iconst 0, 1) := by decide +kernel
theorem dX8_take_60 : decode cX8_take 60 = .ok (.aload_n 0, 1) := by decide +kernel
theorem dX8_take_61 : decode cX8_take 61 = .ok (.getfield 15, 3) := by decide +kernel
theorem dX8_take_64 : decode cX8_take 64 = .ok (.arraylength, 1) := by decide +kernel
theorem dX8_take_65 : decode cX8_take 65 = .ok (.invokestatic 54, 3) := by decide +kernel
theorem dX8_take_68 : decode cX8_take 68 = .ok (.aload_n 1, 1) := by decide +kernel
theorem dX8_take_69 : decode cX8_take 69 = .ok (.getfield 18, 3) := by decide +kernel
theorem dX8_take_72 : decode cX8_take 72 = .ok (.iconst 0, 1) := by decide +kernel
theorem dX8_take_73 : decode cX8_take 73 = .ok (.aload_n 0, 1) := by decide +kernel
theorem dX8_take_74 : decode cX8_take 74 = .ok (.getfield 18, 3) := by decide +kernel
theorem dX8_take_77 : decode cX8_take 77 = .ok (.iconst 0, 1) := by decide +kernel
theorem dX8_take_78 : decode cX8_take 78 = .ok (.aload_n 0, 1) := by decide +kernel
theorem dX8_take_79 : decode cX8_take 79 = .ok (.getfield 18, 3) := by decide +kernel
theorem dX8_take_82 : decode cX8_take 82 = .ok (.arraylength, 1) := by decide +kernel
theorem dX8_take_83 : decode cX8_take 83 = .ok (.invokestatic 54, 3) := by decide +kernel
theorem dX8_take_86 : decode cX8_take 86 = .ok (.aload_n 1, 1) := by decide +kernel
theorem dX8_take_87 : decode cX8_take 87 = .ok (.getfield 21, 3) := by decide +kernel
theorem dX8_take_90 : decode cX8_take 90 = .ok (.iconst 0, 1) := by decide +kernel
theorem dX8_take_91 : decode cX8_take 91 = .ok (.aload_n 0, 1) := by decide +kernel
theorem dX8_take_92 : decode cX8_take 92 = .ok (.getfield 21, 3) := by decide +kernel
theorem dX8_take_95 : decode cX8_take 95 = .ok (.iconst 0, 1) := by decide +kernel
theorem dX8_take_96 : decode cX8_take 96 = .ok (.aload_n 0, 1) := by decide +kernel
theorem dX8_take_97 : decode cX8_take 97 = .ok (.getfield 21, 3) := by decide +kernel
theorem dX8_take_100 : decode cX8_take 100 = .ok (.arraylength, 1) := by decide +kernel
theorem dX8_take_101 : decode cX8_take 101 = .ok (.invokestatic 54, 3) := by decide +kernel
theorem dX8_take_104 : decode cX8_take 104 = .ok (.return_, 1) := by decide +kernel
theorem dX10_hold_0 : decode cX10_hold 0 = .ok (.aload_n 0, 1) := by decide +kernel
theorem dX10_hold_1 : decode cX10_hold 1 = .ok (.iload_n 1, 1) := by decide +kernel
theorem dX10_hold_2 : decode cX10_hold 2 = .ok (.putfield 22, 3) := by decide +kernel
theorem dX10_hold_5 : decode cX10_hold 5 = .ok (.aload_n 0, 1) := by decide +kernel
theorem dX10_hold_6 : decode cX10_hold 6 = .ok (.iload_n 2, 1) := by decide +kernel
theorem dX10_hold_7 : decode cX10_hold 7 = .ok (.putfield 26, 3) := by decide +kernel
theorem dX10_hold_10 : decode cX10_hold 10 = .ok (.aload_n 0, 1) := by decide +kernel
theorem dX10_hold_11 : decode cX10_hold 11 = .ok (.getfield 9, 3) := by decide +kernel
theorem dX10_hold_14 : decode cX10_hold 14 = .ok (.lconst 0, 1) := by decide +kernel
theorem dX10_hold_15 : decode cX10_hold 15 = .ok (.invokestatic 29, 3) := by decide +kernel
theorem dX10_hold_18 : decode cX10_hold 18 = .ok (.return_, 1) := by decide +kernel
theorem dX10_isRow_0 : decode cX10_isRow 0 = .ok (.aload_n 0, 1) := by decide +kernel
theorem dX10_isRow_1 : decode cX10_isRow 1 = .ok (.getfield 22, 3) := by decide +kernel
theorem dX10_isRow_4 : decode cX10_isRow 4 = .ok (.iconst 1, 1) := by decide +kernel
theorem dX10_isRow_5 : decode cX10_isRow 5 = .ok (.if_icmp .lt 15, 3) := by decide +kernel
theorem dX10_isRow_8 : decode cX10_isRow 8 = .ok (.aload_n 0, 1) := by decide +kernel
theorem dX10_isRow_9 : decode cX10_isRow 9 = .ok (.getfield 22, 3) := by decide +kernel
theorem dX10_isRow_12 : decode cX10_isRow 12 = .ok (.iconst 4, 1) := by decide +kernel
theorem dX10_isRow_13 : decode cX10_isRow 13 = .ok (.if_icmp .gt 7, 3) := by decide +kernel
theorem dX10_isRow_16 : decode cX10_isRow 16 = .ok (.iconst 1, 1) := by decide +kernel
theorem dX10_isRow_17 : decode cX10_isRow 17 = .ok (.goto 4, 3) := by decide +kernel
theorem dX10_isRow_20 : decode cX10_isRow 20 = .ok (.iconst 0, 1) := by decide +kernel
theorem dX10_isRow_21 : decode cX10_isRow 21 = .ok (.ireturn, 1) := by decide +kernel
theorem dX10_hasElement_0 : decode cX10_hasElement 0 = .ok (.iload_n 1, 1) := by decide +kernel
theorem dX10_hasElement_1 : decode cX10_hasElement 1 = .ok (.ifCond .lt 15, 3) := by decide +kernel
theorem dX10_hasElement_4 : decode cX10_hasElement 4 = .ok (.iload_n 1, 1) := by decide +kernel
theorem dX10_hasElement_5 : decode cX10_hasElement 5 = .ok (.aload_n 0, 1) := by decide +kernel
theorem dX10_hasElement_6 : decode cX10_hasElement 6 = .ok (.getfield 26, 3) := by decide +kernel
theorem dX10_hasElement_9 : decode cX10_hasElement 9 = .ok (.if_icmp .ge 7, 3) := by decide +kernel
theorem dX10_hasElement_12 : decode cX10_hasElement 12 = .ok (.iconst 1, 1) := by decide +kernel
theorem dX10_hasElement_13 : decode cX10_hasElement 13 = .ok (.goto 4, 3) := by decide +kernel
theorem dX10_hasElement_16 : decode cX10_hasElement 16 = .ok (.iconst 0, 1) := by decide +kernel
theorem dX10_hasElement_17 : decode cX10_hasElement 17 = .ok (.ireturn, 1) := by decide +kernel
theorem dX10_hasElements_0 : decode cX10_hasElements 0 = .ok (.iload_n 1, 1) := by decide +kernel
theorem dX10_hasElements_1 : decode cX10_hasElements 1 = .ok (.ifCond .lt 21, 3) := by decide +kernel
theorem dX10_hasElements_4 : decode cX10_hasElements 4 = .ok (.iload_n 2, 1) := by decide +kernel
theorem dX10_hasElements_5 : decode cX10_hasElements 5 = .ok (.ifCond .lt 17, 3) := by decide +kernel
theorem dX10_hasElements_8 : decode cX10_hasElements 8 = .ok (.iload_n 2, 1) := by decide +kernel
theorem dX10_hasElements_9 : decode cX10_hasElements 9 = .ok (.aload_n 0, 1) := by decide +kernel
theorem dX10_hasElements_10 : decode cX10_hasElements 10 = .ok (.getfield 26, 3) := by decide +kernel
theorem dX10_hasElements_13 : decode cX10_hasElements 13 = .ok (.iload_n 1, 1) := by decide +kernel
theorem dX10_hasElements_14 : decode cX10_hasElements 14 = .ok (.isub, 1) := by decide +kernel
theorem dX10_hasElements_15 : decode cX10_hasElements 15 = .ok (.if_icmp .gt 7, 3) := by decide +kernel
theorem dX10_hasElements_18 : decode cX10_hasElements 18 = .ok (.iconst 1, 1) := by decide +kernel
theorem dX10_hasElements_19 : decode cX10_hasElements 19 = .ok (.goto 4, 3) := by decide +kernel
theorem dX10_hasElements_22 : decode cX10_hasElements 22 = .ok (.iconst 0, 1) := by decide +kernel
theorem dX10_hasElements_23 : decode cX10_hasElements 23 = .ok (.ireturn, 1) := by decide +kernel
theorem dX10_narrowed_0 : decode cX10_narrowed 0 = .ok (.aload_n 0, 1) := by decide +kernel
theorem dX10_narrowed_1 : decode cX10_narrowed 1 = .ok (.getfield 22, 3) := by decide +kernel
theorem dX10_narrowed_4 : decode cX10_narrowed 4 = .ok (.tableswitch 42 1 3 #[28, 33, 38], 28) := by decide +kernel
theorem dX10_narrowed_32 : decode cX10_narrowed 32 = .ok (.lload_n 1, 1) := by decide +kernel
theorem dX10_narrowed_33 : decode cX10_narrowed 33 = .ok (.l2i, 1) := by decide +kernel
theorem dX10_narrowed_34 : decode cX10_narrowed 34 = .ok (.i2b, 1) := by decide +kernel
theorem dX10_narrowed_35 : decode cX10_narrowed 35 = .ok (.i2l, 1) := by decide +kernel
theorem dX10_narrowed_36 : decode cX10_narrowed 36 = .ok (.lreturn, 1) := by decide +kernel
theorem dX10_narrowed_37 : decode cX10_narrowed 37 = .ok (.lload_n 1, 1) := by decide +kernel
theorem dX10_narrowed_38 : decode cX10_narrowed 38 = .ok (.l2i, 1) := by decide +kernel
theorem dX10_narrowed_39 : decode cX10_narrowed 39 = .ok (.i2s, 1) := by decide +kernel
theorem dX10_narrowed_40 : decode cX10_narrowed 40 = .ok (.i2l, 1) := by decide +kernel
theorem dX10_narrowed_41 : decode cX10_narrowed 41 = .ok (.lreturn, 1) := by decide +kernel
theorem dX10_narrowed_42 : decode cX10_narrowed 42 = .ok (.lload_n 1, 1) := by decide +kernel
theorem dX10_narrowed_43 : decode cX10_narrowed 43 = .ok (.l2i, 1) := by decide +kernel
theorem dX10_narrowed_44 : decode cX10_narrowed 44 = .ok (.i2l, 1) := by decide +kernel
theorem dX10_narrowed_45 : decode cX10_narrowed 45 = .ok (.lreturn, 1) := by decide +kernel
theorem dX10_narrowed_46 : decode cX10_narrowed 46 = .ok (.lload_n 1, 1) := by decide +kernel
theorem dX10_narrowed_47 : decode cX10_narrowed 47 = .ok (.lreturn, 1) := by decide +kernel
def XJ6_bitCount_0f7a4 (x0 : Int) (h : Hp) : OR :=
  chk (x0 - (aand (aushr x0 1) 1431655765)) (nm (x0 - (aand (aushr x0 1) 1431655765)) (fun v1 => chk ((aand v1 858993459) + (aand (aushr v1 2) 858993459)) (nm ((aand v1 858993459) + (aand (aushr v1 2) 858993459)) (fun v2 => chk (v2 + (aushr v2 4)) (nm (aand (v2 + (aushr v2 4)) 252645135) (fun v3 => chk (v3 + (aushr v3 8)) (nm (v3 + (aushr v3 8)) (fun v4 => chk (v4 + (aushr v4 16)) (nm (v4 + (aushr v4 16)) (fun v5 => some ((aand v5 63), h)))))))))))
theorem sJ6_bitCount_0f7a4 {G : GG} {w : Wd} (x0 : Int) (h : Hp) : SC G w yJ6_bitCount_0f7a4 (Cond.code yJ6_bitCount_0f7a4 cJ6_bitCount_0f7a4 1 (Option.some Jvm.ClassFile.FieldType.int)) 1 0 [vI x0] (XJ6_bitCount_0f7a4 x0 h) h := by
  refine SC_of (own := "java/lang/Integer") plain_Int rfl (Nat.le_of_ble_eq_true rfl) (fun Γ hG g => ?_)
  subst hG
  show Sim Γ w 0 _ h 0 [(0, vI x0)] []
  unfold XJ6_bitCount_0f7a4
  refine S_iload_n (kk := 0) g dJ6_bitCount_0f7a4_0 rfl rfl ?_
  refine S_iload_n (kk := 0) g dJ6_bitCount_0f7a4_1 rfl rfl ?_
  refine S_iconst g dJ6_bitCount_0f7a4_2 ⟨by decide, by decide⟩ ?_
  refine S_iushr g dJ6_bitCount_0f7a4_3 ?_
  refine S_ldcw g dJ6_bitCount_0f7a4_4 ⟨by decide, by decide⟩ k_Int_265 ?_
  refine S_iand g dJ6_bitCount_0f7a4_7 ?_
  refine S_isub g dJ6_bitCount_0f7a4_8 ?_
  refine S_nmI (fun v1 => ?_)
  refine S_istore_n g dJ6_bitCount_0f7a4_9 rfl (by decide) rfl ?_
  refine S_iload_n (kk := 0) g dJ6_bitCount_0f7a4_10 rfl rfl ?_
  refine S_ldcw g dJ6_bitCount_0f7a4_11 ⟨by decide, by decide⟩ k_Int_266 ?_
  refine S_iand g dJ6_bitCount_0f7a4_14 ?_
  refine S_iload_n (kk := 0) g dJ6_bitCount_0f7a4_15 rfl rfl ?_
  refine S_iconst g dJ6_bitCount_0f7a4_16 ⟨by decide, by decide⟩ ?_
  refine S_iushr g dJ6_bitCount_0f7a4_17 ?_
  refine S_ldcw g dJ6_bitCount_0f7a4_18 ⟨by decide, by decide⟩ k_Int_266 ?_
  refine S_iand g dJ6_bitCount_0f7a4_21 ?_
  refine S_iadd g dJ6_bitCount_0f7a4_22 ?_
  refine S_nmI (fun v2 => ?_)
  refine S_istore_n g dJ6_bitCount_0f7a4_23 rfl (by decide) rfl ?_
  refine S_iload_n (kk := 0) g dJ6_bitCount_0f7a4_24 rfl rfl ?_
  refine S_iload_n (kk := 0) g dJ6_bitCount_0f7a4_25 rfl rfl ?_
  refine S_iconst g dJ6_bitCount_0f7a4_26 ⟨by decide, by decide⟩ ?_
  refine S_iushr g dJ6_bitCount_0f7a4_27 ?_
  refine S_iadd g dJ6_bitCount_0f7a4_28 ?_
  refine S_ldcw g dJ6_bitCount_0f7a4_29 ⟨by decide, by decide⟩ k_Int_267 ?_
  refine S_iand g dJ6_bitCount_0f7a4_32 ?_
  refine S_nmI (fun v3 => ?_)
  refine S_istore_n g dJ6_bitCount_0f7a4_33 rfl (by decide) rfl ?_
  refine S_iload_n (kk := 0) g dJ6_bitCount_0f7a4_34 rfl rfl ?_
  refine S_iload_n (kk := 0) g dJ6_bitCount_0f7a4_35 rfl rfl ?_
  refine S_bipush g dJ6_bitCount_0f7a4_36 ⟨by decide, by decide⟩ rfl ?_
  refine S_iushr g dJ6_bitCount_0f7a4_38 ?_
  refine S_iadd g dJ6_bitCount_0f7a4_39 ?_
  refine S_nmI (fun v4 => ?_)
  refine S_istore_n g dJ6_bitCount_0f7a4_40 rfl (by decide) rfl ?_
  refine S_iload_n (kk := 0) g dJ6_bitCount_0f7a4_41 rfl rfl ?_
  refine S_iload_n (kk := 0) g dJ6_bitCount_0f7a4_42 rfl rfl ?_
  refine S_bipush g dJ6_bitCount_0f7a4_43 ⟨by decide, by decide⟩ rfl ?_
  refine S_iushr g dJ6_bitCount_0f7a4_45 ?_
  refine S_iadd g dJ6_bitCount_0f7a4_46 ?_
  refine S_nmI (fun v5 => ?_)
  refine S_istore_n g dJ6_bitCount_0f7a4_47 rfl (by decide) rfl ?_
  refine S_iload_n (kk := 0) g dJ6_bitCount_0f7a4_48 rfl rfl ?_
  refine S_bipush g dJ6_bitCount_0f7a4_49 ⟨by decide, by decide⟩ rfl ?_
  refine S_iand g dJ6_bitCount_0f7a4_51 ?_
  exact S_ireturn g dJ6_bitCount_0f7a4_52 rfl

def XJ13_bitCount_95d88 (x0 : Int) (h : Hp) : OR :=
  nm (jsub x0 (jand (jushr x0 1) 6148914691236517205)) (fun v1 => nm (jadd (jand v1 3689348814741910323) (jand (jushr v1 2) 3689348814741910323)) (fun v2 => nm (jand (jadd v2 (jushr v2 4)) 1085102592571150095) (fun v3 => nm (jadd v3 (jushr v3 8)) (fun v4 => nm (jadd v4 (jushr v4 16)) (fun v5 => nm (jadd v5 (jushr v5 32)) (fun v6 => some ((aand (al2i v6) 127), h)))))))
theorem sJ13_bitCount_95d88 {G : GG} {w : Wd} (x0 : Int) (h : Hp) : SC G w yJ13_bitCount_95d88 (Cond.code yJ13_bitCount_95d88 cJ13_bitCount_95d88 2 (Option.some Jvm.ClassFile.FieldType.int)) 1 0 [vJ x0] (XJ13_bitCount_95d88 x0 h) h := by
  refine SC_of (own := "java/lang/Long") plain_Long rfl (Nat.le_of_ble_eq_true rfl) (fun Γ hG g => ?_)
  subst hG
  show Sim Γ w 0 _ h 0 [(0, vJ x0)] []
  unfold XJ13_bitCount_95d88
  refine S_lload_n (kk := 0) g dJ13_bitCount_95d88_0 rfl rfl ?_
  refine S_lload_n (kk := 0) g dJ13_bitCount_95d88_1 rfl rfl ?_
  refine S_iconst g dJ13_bitCount_95d88_2 ⟨by decide, by decide⟩ ?_
  refine S_lushr g dJ13_bitCount_95d88_3 ?_
  refine S_ldc2 g dJ13_bitCount_95d88_4 ⟨by decide, by decide⟩ k_Long_314 ?_
  refine S_land g dJ13_bitCount_95d88_7 ?_
  refine S_lsub g dJ13_bitCount_95d88_8 ?_
  refine S_nmJ (fun v1 => ?_)
  refine S_lstore_n g dJ13_bitCount_95d88_9 rfl (by decide) rfl ?_
  refine S_lload_n (kk := 0) g dJ13_bitCount_95d88_10 rfl rfl ?_
  refine S_ldc2 g dJ13_bitCount_95d88_11 ⟨by decide, by decide⟩ k_Long_316 ?_
  refine S_land g dJ13_bitCount_95d88_14 ?_
  refine S_lload_n (kk := 0) g dJ13_bitCount_95d88_15 rfl rfl ?_
  refine S_iconst g dJ13_bitCount_95d88_16 ⟨by decide, by decide⟩ ?_
  refine S_lushr g dJ13_bitCount_95d88_17 ?_
  refine S_ldc2 g dJ13_bitCount_95d88_18 ⟨by decide, by decide⟩ k_Long_316 ?_
  refine S_land g dJ13_bitCount_95d88_21 ?_
  refine S_ladd g dJ13_bitCount_95d88_22 ?_
  refine S_nmJ (fun v2 => ?_)
  refine S_lstore_n g dJ13_bitCount_95d88_23 rfl (by decide) rfl ?_
  refine S_lload_n (kk := 0) g dJ13_bitCount_95d88_24 rfl rfl ?_
  refine S_lload_n (kk := 0) g dJ13_bitCount_95d88_25 rfl rfl ?_
  refine S_iconst g dJ13_bitCount_95d88_26 ⟨by decide, by decide⟩ ?_
  refine S_lushr g dJ13_bitCount_95d88_27 ?_
  refine S_ladd g dJ13_bitCount_95d88_28 ?_
  refine S_ldc2 g dJ13_bitCount_95d88_29 ⟨by decide, by decide⟩ k_Long_318 ?_
  refine S_land g dJ13_bitCount_95d88_32 ?_
  refine S_nmJ (fun v3 => ?_)
  refine S_lstore_n g dJ13_bitCount_95d88_33 rfl (by decide) rfl ?_
  refine S_lload_n (kk := 0) g dJ13_bitCount_95d88_34 rfl rfl ?_
  refine S_lload_n (kk := 0) g dJ13_bitCount_95d88_35 rfl rfl ?_
  refine S_bipush g dJ13_bitCount_95d88_36 ⟨by decide, by decide⟩ rfl ?_
  refine S_lushr g dJ13_bitCount_95d88_38 ?_
  refine S_ladd g dJ13_bitCount_95d88_39 ?_
  refine S_nmJ (fun v4 => ?_)
  refine S_lstore_n g dJ13_bitCount_95d88_40 rfl (by decide) rfl ?_
  refine S_lload_n (kk := 0) g dJ13_bitCount_95d88_41 rfl rfl ?_
  refine S_lload_n (kk := 0) g dJ13_bitCount_95d88_42 rfl rfl ?_
  refine S_bipush g dJ13_bitCount_95d88_43 ⟨by decide, by decide⟩ rfl ?_
  refine S_lushr g dJ13_bitCount_95d88_45 ?_
  refine S_ladd g dJ13_bitCount_95d88_46 ?_
  refine S_nmJ (fun v5 => ?_)
  refine S_lstore_n g dJ13_bitCount_95d88_47 rfl (by decide) rfl ?_
  refine S_lload_n (kk := 0) g dJ13_bitCount_95d88_48 rfl rfl ?_
  refine S_lload_n (kk := 0) g dJ13_bitCount_95d88_49 rfl rfl ?_
  refine S_bipush g dJ13_bitCount_95d88_50 ⟨by decide, by decide⟩ rfl ?_
  refine S_lushr g dJ13_bitCount_95d88_52 ?_
  refine S_ladd g dJ13_bitCount_95d88_53 ?_
  refine S_nmJ (fun v6 => ?_)
  refine S_lstore_n g dJ13_bitCount_95d88_54 rfl (by decide) rfl ?_
  refine S_lload_n (kk := 0) g dJ13_bitCount_95d88_55 rfl rfl ?_
  refine S_l2i g dJ13_bitCount_95d88_56 ?_
  refine S_bipush g dJ13_bitCount_95d88_57 ⟨by decide, by decide⟩ rfl ?_
  refine S_iand g dJ13_bitCount_95d88_59 ?_
  exact S_ireturn g dJ13_bitCount_95d88_60 rfl

def XJ7_fill_53178_b5 (n : Nat) (a0 : Nat)  (self5 : Int → Int → Int → Hp → OR) (l1 l2 l3 : Int) (h : Hp) : OR :=
  if l3 ≤ l2 then some (0, h) else inb l2 n (hm (wr h a0 l2.toNat l1) (fun h2 => chk (l2 + 1) (self5 l1 (l2 + 1) l3 h2)))
def XJ7_fill_53178_L5 (n : Nat) (a0 : Nat)  (l1 l2 l3 : Int) (h : Hp) : OR := lup3 (XJ7_fill_53178_b5 n a0) FU l1 l2 l3 h
def XJ7_fill_53178 (x0 n : Nat) (x1 : Int) (h : Hp) : OR :=
  nm (n : Int) (fun v1 => XJ7_fill_53178_L5 n x0 x1 0 v1 h)
theorem sJ7_fill_53178_L5 {Γ : Cx} {w : Wd} (n : Nat) (g : Gd Γ cJ7_fill_53178 4 "java/util/Arrays" (Option.none : Option Jvm.ClassFile.FieldType) (rmd 1)) (a0 : Nat) (ha0 : At w a0 (2, 0, n))  : ∀ (l1 l2 l3 : Int) (h : Hp), Sim Γ w 3 (XJ7_fill_53178_L5 n a0 l1 l2 l3 h) h 5 [(0, vP a0), (1, vI l1), (2, vI l2), (3, vI l3)] [] := by
  refine S_lup3 (fun l1 l2 l3 => [(0, vP a0), (1, vI l1), (2, vI l2), (3, vI l3)]) (fun self5 hs5 l1 l2 l3 h => ?_) FU
  unfold XJ7_fill_53178_b5
  refine S_iload_n (kk := 2) g dJ7_fill_53178_5 rfl rfl ?_
  refine S_iload_n (kk := 3) g dJ7_fill_53178_6 rfl rfl ?_
  refine S_icmp_ge (tgt := 20) g dJ7_fill_53178_7 (by decide) ?_ ?_
  · exact S_return g dJ7_fill_53178_20 rfl
  · refine S_aload_n (kk := 0) g dJ7_fill_53178_10 rfl rfl ?_
    refine S_iload_n (kk := 2) g dJ7_fill_53178_11 rfl rfl ?_
    refine S_iload_n (kk := 1) g dJ7_fill_53178_12 rfl rfl ?_
    refine S_iastore g dJ7_fill_53178_13 ha0 (fun h2 => ?_)
    refine S_iinc (kk := 2) g dJ7_fill_53178_14 rfl (by decide) rfl ?_
    refine S_goto (tgt := 5) g dJ7_fill_53178_17 (by decide) ?_
    refine S_sub g [1, 2, 0, 3] rfl ?_
    exact hs5 _ _ _ _

theorem sJ7_fill_53178 {G : GG} {w : Wd} (x0 n : Nat) (hx0 : At w x0 (2, 0, n)) (hn : inI n) (x1 : Int) (h : Hp) : SC G w yJ7_fill_53178 (Cond.code yJ7_fill_53178 cJ7_fill_53178 4 (Option.none : Option Jvm.ClassFile.FieldType)) 1 3 [vP x0, vI x1] (XJ7_fill_53178 x0 n x1 h) h := by
  refine SC_of (own := "java/util/Arrays") plain_Arr rfl (Nat.le_of_ble_eq_true rfl) (fun Γ hG g => ?_)
  subst hG
  show Sim Γ w 3 _ h 0 [(0, vP x0), (1, vI x1)] []
  unfold XJ7_fill_53178
  refine S_iconst g dJ7_fill_53178_0 ⟨by decide, by decide⟩ ?_
  refine S_istore_n g dJ7_fill_53178_1 rfl (by decide) rfl ?_
  refine S_aload_n (kk := 1) g dJ7_fill_53178_2 rfl rfl ?_
  refine S_alen g dJ7_fill_53178_3 hx0 (by decide) hn ?_
  refine S_nmI (fun v1 => ?_)
  refine S_istore_n g dJ7_fill_53178_4 rfl (by decide) rfl ?_
  refine S_sub g [2, 3, 1, 0] rfl ?_
  exact sJ7_fill_53178_L5 n g x0 hx0 _ _ _ _

def XJ7_fill_d0a16_b6 (n : Nat) (a0 : Nat)  (self6 : Int → Int → Int → Hp → OR) (l1 l3 l4 : Int) (h : Hp) : OR :=
  if l4 ≤ l3 then some (0, h) else inb l3 n (hm (wr h a0 l3.toNat l1) (fun h2 => chk (l3 + 1) (self6 l1 (l3 + 1) l4 h2)))
def XJ7_fill_d0a16_L6 (n : Nat) (a0 : Nat)  (l1 l3 l4 : Int) (h : Hp) : OR := lup3 (XJ7_fill_d0a16_b6 n a0) FU l1 l3 l4 h
def XJ7_fill_d0a16 (x0 n : Nat) (x1 : Int) (h : Hp) : OR :=
  nm (n : Int) (fun v1 => XJ7_fill_d0a16_L6 n x0 x1 0 v1 h)
theorem sJ7_fill_d0a16_L6 {Γ : Cx} {w : Wd} (n : Nat) (g : Gd Γ cJ7_fill_d0a16 5 "java/util/Arrays" (Option.none : Option Jvm.ClassFile.FieldType) (rmd 1)) (a0 : Nat) (ha0 : At w a0 (2, 1, n))  : ∀ (l1 l3 l4 : Int) (h : Hp), Sim Γ w 3 (XJ7_fill_d0a16_L6 n a0 l1 l3 l4 h) h 6 [(0, vP a0), (1, vJ l1), (3, vI l3), (4, vI l4)] [] := by
  refine S_lup3 (fun l1 l3 l4 => [(0, vP a0), (1, vJ l1), (3, vI l3), (4, vI l4)]) (fun self6 hs6 l1 l3 l4 h => ?_) FU
  unfold XJ7_fill_d0a16_b6
  refine S_iload_n (kk := 2) g dJ7_fill_d0a16_6 rfl rfl ?_
  refine S_iload (kk := 3) g dJ7_fill_d0a16_7 rfl ?_
  refine S_icmp_ge (tgt := 22) g dJ7_fill_d0a16_9 (by decide) ?_ ?_
  · exact S_return g dJ7_fill_d0a16_22 rfl
  · refine S_aload_n (kk := 0) g dJ7_fill_d0a16_12 rfl rfl ?_
    refine S_iload_n (kk := 2) g dJ7_fill_d0a16_13 rfl rfl ?_
    refine S_lload_n (kk := 1) g dJ7_fill_d0a16_14 rfl rfl ?_
    refine S_lastore g dJ7_fill_d0a16_15 ha0 (fun h2 => ?_)
    refine S_iinc (kk := 2) g dJ7_fill_d0a16_16 rfl (by decide) rfl ?_
    refine S_goto (tgt := 6) g dJ7_fill_d0a16_19 (by decide) ?_
    refine S_sub g [1, 2, 0, 3] rfl ?_
    exact hs6 _ _ _ _

theorem sJ7_fill_d0a16 {G : GG} {w : Wd} (x0 n : Nat) (hx0 : At w x0 (2, 1, n)) (hn : inI n) (x1 : Int) (h : Hp) : SC G w yJ7_fill_d0a16 (Cond.code yJ7_fill_d0a16 cJ7_fill_d0a16 5 (Option.none : Option Jvm.ClassFile.FieldType)) 1 3 [vP x0, vJ x1] (XJ7_fill_d0a16 x0 n x1 h) h := by
  refine SC_of (own := "java/util/Arrays") plain_Arr rfl (Nat.le_of_ble_eq_true rfl) (fun Γ hG g => ?_)
  subst hG
  show Sim Γ w 3 _ h 0 [(0, vP x0), (1, vJ x1)] []
  unfold XJ7_fill_d0a16
  refine S_iconst g dJ7_fill_d0a16_0 ⟨by decide, by decide⟩ ?_
  refine S_istore_n g dJ7_fill_d0a16_1 rfl (by decide) rfl ?_
  refine S_aload_n (kk := 1) g dJ7_fill_d0a16_2 rfl rfl ?_
  refine S_alen g dJ7_fill_d0a16_3 hx0 (by decide) hn ?_
  refine S_nmI (fun v1 => ?_)
  refine S_istore g dJ7_fill_d0a16_4 (by decide) rfl ?_
  refine S_sub g [2, 3, 1, 0] rfl ?_
  exact sJ7_fill_d0a16_L6 n g x0 hx0 _ _ _ _

def XX0_start_p88   (h : Hp) : OR :=
  acp 0 0 4 4 4 (hm (cpy h 38 (0 : Int).toNat 39 (0 : Int).toNat (4 : Int).toNat) (fun h3 => some (0, h3)))
def XX0_start_p58  (self33 : Int → Hp → OR) (l2 : Int) (s1 s2 : Int) (h : Hp) : OR :=
  inb s1 4 (hm (wr h 38 s1.toNat s2) (fun h5 => chk (l2 + 1) (self33 (l2 + 1) h5)))
def XX0_start_b33   (self33 : Int → Hp → OR) (l2 : Int) (h : Hp) : OR :=
  if 4 ≤ l2 then if 64 ≤ (h 37 0) then XX0_start_p88 h else inb 0 4 (hm (wr h 38 (0 : Int).toNat (jsub (jshl 1 (h 37 0)) 1)) (fun h4 => XX0_start_p88 h4)) else if (h 37 1) ≤ l2 then XX0_start_p58 self33 l2 l2 0 h else XX0_start_p58 self33 l2 l2 (-1) h
def XX0_start_L33   (l2 : Int) (h : Hp) : OR := lup1 (XX0_start_b33 ) FU l2 h
def XX0_start_p28   (s1 : Int) (h : Hp) : OR :=
  hm (wr h 37 1 s1) (fun h2 => XX0_start_L33 0 h2)
def XX0_start (x0 : Int) (h : Hp) : OR :=
  hm (wr h 37 0 (ashl 1 x0)) (fun h1 => if (h1 37 0) ≤ 64 then XX0_start_p28 1 h1 else chk ((h1 37 0).tdiv 64) (XX0_start_p28 ((h1 37 0).tdiv 64) h1))
theorem sX0_start_p88 {Γ : Cx} {w : Wd} (hw : okX0 w) (g : Gd Γ cX0_start 3 "GatePatch$Cases" (Option.none : Option Jvm.ClassFile.FieldType) (rmd 1))   (h : Hp) : Sim Γ w 3 (XX0_start_p88    h) h 88 [(0, vP 37)] [] := by
  unfold XX0_start_p88
  refine S_aload_n (kk := 0) g dX0_start_88 rfl rfl ?_
  refine S_getr g dX0_start_89 fl_Cases_9 (at0_37 hw) rfl (rc0_37_2 hw) ?_
  refine S_iconst g dX0_start_92 ⟨by decide, by decide⟩ ?_
  refine S_aload_n (kk := 0) g dX0_start_93 rfl rfl ?_
  refine S_getr g dX0_start_94 fl_Cases_15 (at0_37 hw) rfl (rc0_37_3 hw) ?_
  refine S_iconst g dX0_start_97 ⟨by decide, by decide⟩ ?_
  refine S_iconst g dX0_start_98 ⟨by decide, by decide⟩ ?_
  refine S_copyl g dX0_start_99 ml_Cases_27 acp_nat acp_st ini_Sys (at0_38 hw) (at0_39 hw) (by decide) (by decide) (fun h3 => ?_)
  exact S_return g dX0_start_102 rfl

theorem sX0_start_p58 {Γ : Cx} {w : Wd} (hw : okX0 w) (g : Gd Γ cX0_start 3 "GatePatch$Cases" (Option.none : Option Jvm.ClassFile.FieldType) (rmd 1))  (self33 : Int → Hp → OR) (hs33 : ∀ (x0 : Int) (h : Hp), Sim Γ w 3 (self33 x0 h) h 33 [(0, vP 37), (2, vI x0)] []) (l2 : Int) (s1 s2 : Int) (h : Hp) : Sim Γ w 3 (XX0_start_p58 self33 l2 s1 s2 h) h 58 [(0, vP 37), (2, vI l2)] [vJ s2, vI s1, vP 38] := by
  unfold XX0_start_p58
  refine S_lastore g dX0_start_58 (at0_38 hw) (fun h5 => ?_)
  refine S_iinc (kk := 1) g dX0_start_59 rfl (by decide) rfl ?_
  refine S_goto (tgt := 33) g dX0_start_62 (by decide) ?_
  refine S_sub g [1, 0] rfl ?_
  exact hs33 _ _

theorem sX0_start_L33 {Γ : Cx} {w : Wd} (hw : okX0 w) (g : Gd Γ cX0_start 3 "GatePatch$Cases" (Option.none : Option Jvm.ClassFile.FieldType) (rmd 1))   : ∀ (l2 : Int) (h : Hp), Sim Γ w 3 (XX0_start_L33  l2 h) h 33 [(0, vP 37), (2, vI l2)] [] := by
  refine S_lup1 (fun l2 => [(0, vP 37), (2, vI l2)]) (fun self33 hs33 l2 h => ?_) FU
  unfold XX0_start_b33
  refine S_iload_n (kk := 1) g dX0_start_33 rfl rfl ?_
  refine S_iconst g dX0_start_34 ⟨by decide, by decide⟩ ?_
  refine S_icmp_ge (tgt := 65) g dX0_start_35 (by decide) ?_ ?_
  · refine S_aload_n (kk := 0) g dX0_start_65 rfl rfl ?_
    refine S_geti g dX0_start_66 fl_Cases_18 (at0_37 hw) (Or.inl rfl) ?_
    refine S_bipush g dX0_start_69 ⟨by decide, by decide⟩ rfl ?_
    refine S_icmp_ge (tgt := 88) g dX0_start_71 (by decide) ?_ ?_
    · refine S_sub g [0] rfl ?_
      exact sX0_start_p88 hw g _
    · refine S_aload_n (kk := 0) g dX0_start_74 rfl rfl ?_
      refine S_getr g dX0_start_75 fl_Cases_9 (at0_37 hw) rfl (rc0_37_2 hw) ?_
      refine S_iconst g dX0_start_78 ⟨by decide, by decide⟩ ?_
      refine S_lconst (x := 1) g dX0_start_79 ⟨by decide, by decide⟩ rfl ?_
      refine S_aload_n (kk := 0) g dX0_start_80 rfl rfl ?_
      refine S_geti g dX0_start_81 fl_Cases_18 (at0_37 hw) (Or.inl rfl) ?_
      refine S_lshl g dX0_start_84 ?_
      refine S_lconst (x := 1) g dX0_start_85 ⟨by decide, by decide⟩ rfl ?_
      refine S_lsub g dX0_start_86 ?_
      refine S_lastore g dX0_start_87 (at0_38 hw) (fun h4 => ?_)
      refine S_sub g [0] rfl ?_
      exact sX0_start_p88 hw g _
  · refine S_aload_n (kk := 0) g dX0_start_38 rfl rfl ?_
    refine S_getr g dX0_start_39 fl_Cases_9 (at0_37 hw) rfl (rc0_37_2 hw) ?_
    refine S_iload_n (kk := 1) g dX0_start_42 rfl rfl ?_
    refine S_iload_n (kk := 1) g dX0_start_43 rfl rfl ?_
    refine S_aload_n (kk := 0) g dX0_start_44 rfl rfl ?_
    refine S_geti g dX0_start_45 fl_Cases_22 (at0_37 hw) (Or.inl rfl) ?_
    refine S_icmp_ge (tgt := 57) g dX0_start_48 (by decide) ?_ ?_
    · refine S_lconst (x := 0) g dX0_start_57 ⟨by decide, by decide⟩ rfl ?_
      exact sX0_start_p58 hw g self33 hs33 _ _ _ _
    · refine S_ldc2 g dX0_start_51 ⟨by decide, by decide⟩ k_Cases_25 ?_
      refine S_goto (tgt := 58) g dX0_start_54 (by decide) ?_
      exact sX0_start_p58 hw g self33 hs33 _ _ _ _

theorem sX0_start_p28 {Γ : Cx} {w : Wd} (hw : okX0 w) (g : Gd Γ cX0_start 3 "GatePatch$Cases" (Option.none : Option Jvm.ClassFile.FieldType) (rmd 1))   (s1 : Int) (h : Hp) : Sim Γ w 3 (XX0_start_p28   s1 h) h 28 [(0, vP 37)] [vI s1, vP 37] := by
  unfold XX0_start_p28
  refine S_puti g dX0_start_28 fp_Cases_22 (at0_37 hw) rfl (fun h2 => ?_)
  refine S_iconst g dX0_start_31 ⟨by decide, by decide⟩ ?_
  refine S_istore_n g dX0_start_32 rfl (by decide) rfl ?_
  refine S_sub g [1, 0] rfl ?_
  exact sX0_start_L33 hw g _ _

theorem sX0_start {G : GG} {w : Wd} (hw : okX0 w) (x0 : Int) (h : Hp) : SC G w yX0_start (Cond.code yX0_start cX0_start 3 (Option.none : Option Jvm.ClassFile.FieldType)) 1 3 [vP 37, vI x0] (XX0_start x0 h) h := by
  refine SC_of (own := "GatePatch$Cases") plain_Cases rfl (Nat.le_of_ble_eq_true rfl) (fun Γ hG g => ?_)
  subst hG
  show Sim Γ w 3 _ h 0 [(0, vP 37), (1, vI x0)] []
  unfold XX0_start
  refine S_aload_n (kk := 0) g dX0_start_0 rfl rfl ?_
  refine S_iconst g dX0_start_1 ⟨by decide, by decide⟩ ?_
  refine S_iload_n (kk := 1) g dX0_start_2 rfl rfl ?_
  refine S_ishl g dX0_start_3 ?_
  refine S_puti g dX0_start_4 fp_Cases_18 (at0_37 hw) rfl (fun h1 => ?_)
  refine S_aload_n (kk := 0) g dX0_start_7 rfl rfl ?_
  refine S_aload_n (kk := 0) g dX0_start_8 rfl rfl ?_
  refine S_geti g dX0_start_9 fl_Cases_18 (at0_37 hw) (Or.inl rfl) ?_
  refine S_bipush g dX0_start_12 ⟨by decide, by decide⟩ rfl ?_
  refine S_icmp_le (tgt := 27) g dX0_start_14 (by decide) ?_ ?_
  · refine S_iconst g dX0_start_27 ⟨by decide, by decide⟩ ?_
    refine S_sub g [0] rfl ?_
    exact sX0_start_p28 hw g _ _
  · refine S_aload_n (kk := 0) g dX0_start_17 rfl rfl ?_
    refine S_geti g dX0_start_18 fl_Cases_18 (at0_37 hw) (Or.inl rfl) ?_
    refine S_bipush g dX0_start_21 ⟨by decide, by decide⟩ rfl ?_
    refine S_idiv g dX0_start_23 (by decide) ?_
    refine S_goto (tgt := 28) g dX0_start_24 (by decide) ?_
    refine S_sub g [0] rfl ?_
    exact sX0_start_p28 hw g _ _

def XX0_has (x0 : Int) (h : Hp) : OR :=
  if x0 < 0 then zb 0 (some (0, h)) else if (h 37 0) ≤ x0 then zb 0 (some (0, h)) else zb 1 (some (1, h))
theorem sX0_has {G : GG} {w : Wd} (hw : okX w) (x0 : Int) (h : Hp) : SC G w yX0_has (Cond.code yX0_has cX0_has 2 (Option.some Jvm.ClassFile.FieldType.boolean)) 1 0 [vP 37, vI x0] (XX0_has x0 h) h := by
  refine SC_of (own := "GatePatch$Cases") plain_Cases rfl (Nat.le_of_ble_eq_true rfl) (fun Γ hG g => ?_)
  subst hG
  show Sim Γ w 0 _ h 0 [(0, vP 37), (1, vI x0)] []
  unfold XX0_has
  refine S_iload_n (kk := 1) g dX0_has_0 rfl rfl ?_
  refine S_if_lt (tgt := 16) g dX0_has_1 (by decide) ?_ ?_
  · refine S_iconst g dX0_has_16 ⟨by decide, by decide⟩ ?_
    exact S_zreturn g dX0_has_17 rfl
  · refine S_iload_n (kk := 1) g dX0_has_4 rfl rfl ?_
    refine S_aload_n (kk := 0) g dX0_has_5 rfl rfl ?_
    refine S_geti g dX0_has_6 fl_Cases_18 (at_37 hw) (Or.inl rfl) ?_
    refine S_icmp_ge (tgt := 16) g dX0_has_9 (by decide) ?_ ?_
    · refine S_iconst g dX0_has_16 ⟨by decide, by decide⟩ ?_
      exact S_zreturn g dX0_has_17 rfl
    · refine S_iconst g dX0_has_12 ⟨by decide, by decide⟩ ?_
      refine S_goto (tgt := 17) g dX0_has_13 (by decide) ?_
      exact S_zreturn g dX0_has_17 rfl

def XX0_isLive (x0 : Int) (h : Hp) : OR :=
  chk (x0.tdiv 64) (inb (x0.tdiv 64) 4 (chk (x0 - x0.tdiv 64 * 64) (if (jcmp (jand (jshr (h 39 (x0.tdiv 64).toNat) (x0 - x0.tdiv 64 * 64)) 1) 1) = 0 then zb 1 (some (1, h)) else zb 0 (some (0, h)))))
theorem sX0_isLive {G : GG} {w : Wd} (hw : okX w) (x0 : Int) (h : Hp) : SC G w yX0_isLive (Cond.code yX0_isLive cX0_isLive 2 (Option.some Jvm.ClassFile.FieldType.boolean)) 1 0 [vP 37, vI x0] (XX0_isLive x0 h) h := by
  refine SC_of (own := "GatePatch$Cases") plain_Cases rfl (Nat.le_of_ble_eq_true rfl) (fun Γ hG g => ?_)
  subst hG
  show Sim Γ w 0 _ h 0 [(0, vP 37), (1, vI x0)] []
  unfold XX0_isLive
  refine S_aload_n (kk := 0) g dX0_isLive_0 rfl rfl ?_
  refine S_getr g dX0_isLive_1 fl_Cases_15 (at_37 hw) rfl (rc_37_3 hw) ?_
  refine S_iload_n (kk := 1) g dX0_isLive_4 rfl rfl ?_
  refine S_bipush g dX0_isLive_5 ⟨by decide, by decide⟩ rfl ?_
  refine S_idiv g dX0_isLive_7 (by decide) ?_
  refine S_laload g dX0_isLive_8 (at_39 hw) ?_
  refine S_iload_n (kk := 1) g dX0_isLive_9 rfl rfl ?_
  refine S_bipush g dX0_isLive_10 ⟨by decide, by decide⟩ rfl ?_
  refine S_irem g dX0_isLive_12 (by decide) ?_
  refine S_lshr g dX0_isLive_13 ?_
  refine S_lconst (x := 1) g dX0_isLive_14 ⟨by decide, by decide⟩ rfl ?_
  refine S_land g dX0_isLive_15 ?_
  refine S_lconst (x := 1) g dX0_isLive_16 ⟨by decide, by decide⟩ rfl ?_
  refine S_lcmp g dX0_isLive_17 ?_
  refine S_if_ne (tgt := 25) g dX0_isLive_18 (by decide) ?_ ?_
  · refine S_iconst g dX0_isLive_25 ⟨by decide, by decide⟩ ?_
    exact S_zreturn g dX0_isLive_26 rfl
  · refine S_iconst g dX0_isLive_21 ⟨by decide, by decide⟩ ?_
    refine S_goto (tgt := 26) g dX0_isLive_22 (by decide) ?_
    exact S_zreturn g dX0_isLive_26 rfl

def XX0_flip (x0 : Int) (h : Hp) : OR :=
  chk (x0.tdiv 64) (nm (x0.tdiv 64) (fun v1 => inb v1 4 (chk (x0 - x0.tdiv 64 * 64) (inb v1 4 (hm (wr h 39 v1.toNat (jxor (h 39 v1.toNat) (jshl 1 (x0 - x0.tdiv 64 * 64)))) (fun h2 => cal (XX0_isLive x0 h2) (fun r3 h4 => if r3 = 0 then some (1, h4) else some (0, h4))))))))
theorem sX0_flip {G : GG} {w : Wd} (hw : okX w) (x0 : Int) (h : Hp) : SC G w yX0_flip (Cond.code yX0_flip cX0_flip 2 (Option.some Jvm.ClassFile.FieldType.int)) 2 0 [vP 37, vI x0] (XX0_flip x0 h) h := by
  refine SC_of (own := "GatePatch$Cases") plain_Cases rfl (Nat.le_of_ble_eq_true rfl) (fun Γ hG g => ?_)
  subst hG
  show Sim Γ w 0 _ h 0 [(0, vP 37), (1, vI x0)] []
  unfold XX0_flip
  refine S_aload_n (kk := 0) g dX0_flip_0 rfl rfl ?_
  refine S_getr g dX0_flip_1 fl_Cases_15 (at_37 hw) rfl (rc_37_3 hw) ?_
  refine S_iload_n (kk := 1) g dX0_flip_4 rfl rfl ?_
  refine S_bipush g dX0_flip_5 ⟨by decide, by decide⟩ rfl ?_
  refine S_idiv g dX0_flip_7 (by decide) ?_
  refine S_nmI (fun v1 => ?_)
  refine S_dup2 g dX0_flip_8 rfl rfl ?_
  refine S_laload g dX0_flip_9 (at_39 hw) ?_
  refine S_lconst (x := 1) g dX0_flip_10 ⟨by decide, by decide⟩ rfl ?_
  refine S_iload_n (kk := 1) g dX0_flip_11 rfl rfl ?_
  refine S_bipush g dX0_flip_12 ⟨by decide, by decide⟩ rfl ?_
  refine S_irem g dX0_flip_14 (by decide) ?_
  refine S_lshl g dX0_flip_15 ?_
  refine S_lxor g dX0_flip_16 ?_
  refine S_lastore g dX0_flip_17 (at_39 hw) (fun h2 => ?_)
  refine S_aload_n (kk := 0) g dX0_flip_18 rfl rfl ?_
  refine S_iload_n (kk := 1) g dX0_flip_19 rfl rfl ?_
  refine S_callVi (As := [vI x0]) g dX0_flip_20 (sX0_isLive hw _ _) rfl (at_37 hw) rfl im_X0_isLive se_X0_isLive cw_X0_isLive ml_Cases_33 ini_Cases nd_X0_isLive ⟨by decide, by decide⟩ (Nat.le_of_ble_eq_true rfl) (fun r3 h4 => ?_)
  refine S_if_eq (tgt := 30) g dX0_flip_23 (by decide) ?_ ?_
  · refine S_iconst g dX0_flip_30 ⟨by decide, by decide⟩ ?_
    exact S_ireturn g dX0_flip_31 rfl
  · refine S_iconst g dX0_flip_26 ⟨by decide, by decide⟩ ?_
    refine S_goto (tgt := 31) g dX0_flip_27 (by decide) ?_
    exact S_ireturn g dX0_flip_31 rfl

def XX0_freeCount_b7   (self7 : Int → Int → Hp → OR) (l1 l2 : Int) (h : Hp) : OR :=
  if 4 ≤ l2 then some (l1, h) else inb l2 4 (cal (XJ13_bitCount_95d88 (h 39 l2.toNat) h) (fun r2 h3 => chk (l1 - r2) (nm (l1 - r2) (fun v4 => chk (l2 + 1) (self7 v4 (l2 + 1) h3)))))
def XX0_freeCount_L7   (l1 l2 : Int) (h : Hp) : OR := lup2 (XX0_freeCount_b7 ) FU l1 l2 h
def XX0_freeCount  (h : Hp) : OR :=
  nm (h 37 0) (fun v1 => XX0_freeCount_L7 v1 0 h)
theorem sX0_freeCount_L7 {Γ : Cx} {w : Wd} (hw : okX w) (g : Gd Γ cX0_freeCount 3 "GatePatch$Cases" (Option.some Jvm.ClassFile.FieldType.int) (rmd 2))   : ∀ (l1 l2 : Int) (h : Hp), Sim Γ w 0 (XX0_freeCount_L7  l1 l2 h) h 7 [(0, vP 37), (1, vI l1), (2, vI l2)] [] := by
  refine S_lup2 (fun l1 l2 => [(0, vP 37), (1, vI l1), (2, vI l2)]) (fun self7 hs7 l1 l2 h => ?_) FU
  unfold XX0_freeCount_b7
  refine S_iload_n (kk := 2) g dX0_freeCount_7 rfl rfl ?_
  refine S_iconst g dX0_freeCount_8 ⟨by decide, by decide⟩ ?_
  refine S_icmp_ge (tgt := 30) g dX0_freeCount_9 (by decide) ?_ ?_
  · refine S_iload_n (kk := 1) g dX0_freeCount_30 rfl rfl ?_
    exact S_ireturn g dX0_freeCount_31 rfl
  · refine S_iload_n (kk := 1) g dX0_freeCount_12 rfl rfl ?_
    refine S_aload_n (kk := 0) g dX0_freeCount_13 rfl rfl ?_
    refine S_getr g dX0_freeCount_14 fl_Cases_15 (at_37 hw) rfl (rc_37_3 hw) ?_
    refine S_iload_n (kk := 2) g dX0_freeCount_17 rfl rfl ?_
    refine S_laload g dX0_freeCount_18 (at_39 hw) ?_
    refine S_callSi (As := [vJ (h 39 l2.toNat)]) g dX0_freeCount_19 (sJ13_bitCount_95d88 _ _) rfl st_J13_bitCount_95d88 cw_J13_bitCount_95d88 ml_Cases_37 ini_Long nd_J13_bitCount_95d88 ⟨by decide, by decide⟩ (Nat.le_of_ble_eq_true rfl) (fun r2 h3 => ?_)
    refine S_isub g dX0_freeCount_22 ?_
    refine S_nmI (fun v4 => ?_)
    refine S_istore_n g dX0_freeCount_23 rfl (by decide) rfl ?_
    refine S_iinc (kk := 2) g dX0_freeCount_24 rfl (by decide) rfl ?_
    refine S_goto (tgt := 7) g dX0_freeCount_27 (by decide) ?_
    refine S_sub g [2, 1, 0] rfl ?_
    exact hs7 _ _ _

theorem sX0_freeCount {G : GG} {w : Wd} (hw : okX w)  (h : Hp) : SC G w yX0_freeCount (Cond.code yX0_freeCount cX0_freeCount 3 (Option.some Jvm.ClassFile.FieldType.int)) 2 0 [vP 37] (XX0_freeCount  h) h := by
  refine SC_of (own := "GatePatch$Cases") plain_Cases rfl (Nat.le_of_ble_eq_true rfl) (fun Γ hG g => ?_)
  subst hG
  show Sim Γ w 0 _ h 0 [(0, vP 37)] []
  unfold XX0_freeCount
  refine S_aload_n (kk := 0) g dX0_freeCount_0 rfl rfl ?_
  refine S_geti g dX0_freeCount_1 fl_Cases_18 (at_37 hw) (Or.inl rfl) ?_
  refine S_nmI (fun v1 => ?_)
  refine S_istore_n g dX0_freeCount_4 rfl (by decide) rfl ?_
  refine S_iconst g dX0_freeCount_5 ⟨by decide, by decide⟩ ?_
  refine S_istore_n g dX0_freeCount_6 rfl (by decide) rfl ?_
  refine S_sub g [2, 1, 0] rfl ?_
  exact sX0_freeCount_L7 hw g _ _ _

def XX0_lowest (x0 : Int) (x1 : Int) (h : Hp) : OR :=
  chk (64 * x0) (cal (XJ13_bitCount_95d88 (jsub (jand x1 (jneg x1)) 1) h) (fun r1 h2 => chk ((64 * x0) + r1) (some (((64 * x0) + r1), h2))))
theorem sX0_lowest {G : GG} {w : Wd} (hw : okX w) (x0 : Int) (x1 : Int) (h : Hp) : SC G w yX0_lowest (Cond.code yX0_lowest cX0_lowest 3 (Option.some Jvm.ClassFile.FieldType.int)) 2 0 [vI x0, vJ x1] (XX0_lowest x0 x1 h) h := by
  refine SC_of (own := "GatePatch$Cases") plain_Cases rfl (Nat.le_of_ble_eq_true rfl) (fun Γ hG g => ?_)
  subst hG
  show Sim Γ w 0 _ h 0 [(0, vI x0), (1, vJ x1)] []
  unfold XX0_lowest
  refine S_bipush g dX0_lowest_0 ⟨by decide, by decide⟩ rfl ?_
  refine S_iload_n (kk := 0) g dX0_lowest_2 rfl rfl ?_
  refine S_imul g dX0_lowest_3 ?_
  refine S_lload_n (kk := 1) g dX0_lowest_4 rfl rfl ?_
  refine S_lload_n (kk := 1) g dX0_lowest_5 rfl rfl ?_
  refine S_lneg g dX0_lowest_6 ?_
  refine S_land g dX0_lowest_7 ?_
  refine S_lconst (x := 1) g dX0_lowest_8 ⟨by decide, by decide⟩ rfl ?_
  refine S_lsub g dX0_lowest_9 ?_
  refine S_callSi (As := [vJ (jsub (jand x1 (jneg x1)) 1)]) g dX0_lowest_10 (sJ13_bitCount_95d88 _ _) rfl st_J13_bitCount_95d88 cw_J13_bitCount_95d88 ml_Cases_37 ini_Long nd_J13_bitCount_95d88 ⟨by decide, by decide⟩ (Nat.le_of_ble_eq_true rfl) (fun r1 h2 => ?_)
  refine S_iadd g dX0_lowest_13 ?_
  exact S_ireturn g dX0_lowest_14 rfl

def XX2_ones (x0 : Int) (h : Hp) : OR :=
  chk ((ashl 1 (ashl 1 x0)) - 1) (some (((ashl 1 (ashl 1 x0)) - 1), h))
theorem sX2_ones {G : GG} {w : Wd} (hw : okX w) (x0 : Int) (h : Hp) : SC G w yX2_ones (Cond.code yX2_ones cX2_ones 1 (Option.some Jvm.ClassFile.FieldType.int)) 1 0 [vI x0] (XX2_ones x0 h) h := by
  refine SC_of (own := "GatePatch$Functions") plain_Fns rfl (Nat.le_of_ble_eq_true rfl) (fun Γ hG g => ?_)
  subst hG
  show Sim Γ w 0 _ h 0 [(0, vI x0)] []
  unfold XX2_ones
  refine S_iconst g dX2_ones_0 ⟨by decide, by decide⟩ ?_
  refine S_iconst g dX2_ones_1 ⟨by decide, by decide⟩ ?_
  refine S_iload_n (kk := 0) g dX2_ones_2 rfl rfl ?_
  refine S_ishl g dX2_ones_3 ?_
  refine S_ishl g dX2_ones_4 ?_
  refine S_iconst g dX2_ones_5 ⟨by decide, by decide⟩ ?_
  refine S_isub g dX2_ones_6 ?_
  exact S_ireturn g dX2_ones_7 rfl

def XX2_price_p35   (h : Hp) : OR :=
  some (0, h)
def XX2_price_b4   (self4 : Int → Int → Hp → OR) (l2 l3 : Int) (h : Hp) : OR :=
  if 3 ≤ l3 then if l2 < 0 then XX2_price_p35 h else if l2 < 256 then inb l2 256 (some ((prcC l2.toNat), h)) else XX2_price_p35 h else nm (aor l2 (ashl l2 (ashl 1 l3))) (fun v1 => chk (l3 + 1) (self4 v1 (l3 + 1) h))
def XX2_price_L4   (l2 l3 : Int) (h : Hp) : OR := lup2 (XX2_price_b4 ) FU l2 l3 h
def XX2_price (x0 : Int) (x1 : Int) (h : Hp) : OR :=
  XX2_price_L4 x1 x0 h
theorem sX2_price_p35 {Γ : Cx} {w : Wd} (hw : okX w) (g : Gd Γ cX2_price 4 "GatePatch$Functions" (Option.some Jvm.ClassFile.FieldType.int) (rmd 1))   (h : Hp) : Sim Γ w 0 (XX2_price_p35    h) h 35 [] [] := by
  unfold XX2_price_p35
  refine S_iconst g dX2_price_35 ⟨by decide, by decide⟩ ?_
  refine S_goto (tgt := 44) g dX2_price_36 (by decide) ?_
  exact S_ireturn g dX2_price_44 rfl

theorem sX2_price_L4 {Γ : Cx} {w : Wd} (hw : okX w) (g : Gd Γ cX2_price 4 "GatePatch$Functions" (Option.some Jvm.ClassFile.FieldType.int) (rmd 1))   : ∀ (l2 l3 : Int) (h : Hp), Sim Γ w 0 (XX2_price_L4  l2 l3 h) h 4 [(2, vI l2), (3, vI l3)] [] := by
  refine S_lup2 (fun l2 l3 => [(2, vI l2), (3, vI l3)]) (fun self4 hs4 l2 l3 h => ?_) FU
  unfold XX2_price_b4
  refine S_iload_n (kk := 1) g dX2_price_4 rfl rfl ?_
  refine S_iconst g dX2_price_5 ⟨by decide, by decide⟩ ?_
  refine S_icmp_ge (tgt := 23) g dX2_price_6 (by decide) ?_ ?_
  · refine S_iload_n (kk := 0) g dX2_price_23 rfl rfl ?_
    refine S_if_lt (tgt := 35) g dX2_price_24 (by decide) ?_ ?_
    · refine S_sub g [] rfl ?_
      exact sX2_price_p35 hw g _
    · refine S_iload_n (kk := 0) g dX2_price_27 rfl rfl ?_
      refine S_gets3 g dX2_price_28 gs_Fns_9 ?_
      refine S_alenS3 g dX2_price_31 ?_
      refine S_icmp_lt (tgt := 39) g dX2_price_32 (by decide) ?_ ?_
      · refine S_gets3 g dX2_price_39 gs_Fns_9 ?_
        refine S_iload_n (kk := 0) g dX2_price_42 rfl rfl ?_
        refine S_baloadS3 g dX2_price_43 ?_
        exact S_ireturn g dX2_price_44 rfl
      · refine S_sub g [] rfl ?_
        exact sX2_price_p35 hw g _
  · refine S_iload_n (kk := 0) g dX2_price_9 rfl rfl ?_
    refine S_iload_n (kk := 0) g dX2_price_10 rfl rfl ?_
    refine S_iconst g dX2_price_11 ⟨by decide, by decide⟩ ?_
    refine S_iload_n (kk := 1) g dX2_price_12 rfl rfl ?_
    refine S_ishl g dX2_price_13 ?_
    refine S_ishl g dX2_price_14 ?_
    refine S_ior g dX2_price_15 ?_
    refine S_nmI (fun v1 => ?_)
    refine S_istore_n g dX2_price_16 rfl (by decide) rfl ?_
    refine S_iinc (kk := 1) g dX2_price_17 rfl (by decide) rfl ?_
    refine S_goto (tgt := 4) g dX2_price_20 (by decide) ?_
    refine S_sub g [1, 0] rfl ?_
    exact hs4 _ _ _

theorem sX2_price {G : GG} {w : Wd} (hw : okX w) (x0 : Int) (x1 : Int) (h : Hp) : SC G w yX2_price (Cond.code yX2_price cX2_price 4 (Option.some Jvm.ClassFile.FieldType.int)) 1 0 [vI x0, vI x1] (XX2_price x0 x1 h) h := by
  refine SC_of (own := "GatePatch$Functions") plain_Fns rfl (Nat.le_of_ble_eq_true rfl) (fun Γ hG g => ?_)
  subst hG
  show Sim Γ w 0 _ h 0 [(0, vI x0), (1, vI x1)] []
  unfold XX2_price
  refine S_iload_n (kk := 1) g dX2_price_0 rfl rfl ?_
  refine S_istore_n g dX2_price_1 rfl (by decide) rfl ?_
  refine S_iload_n (kk := 1) g dX2_price_2 rfl rfl ?_
  refine S_istore_n g dX2_price_3 rfl (by decide) rfl ?_
  refine S_sub g [1, 0] rfl ?_
  exact sX2_price_L4 hw g _ _ _

def XX2_leafOf_b22   (self22 : Int → Int → Int → Hp → OR) (l0 l1 l2 : Int) (h : Hp) : OR :=
  if l0 ≤ l2 then some ((-1), h) else inb l2 6 (cal (XX2_ones l0 h) (fun r3 h4 => if l1 = (aand (al2i (cntC l2.toNat)) r3) then chk (100 + l2) (some ((100 + l2), h4)) else chk (l2 + 1) (self22 l0 l1 (l2 + 1) h4)))
def XX2_leafOf_L22   (l0 l1 l2 : Int) (h : Hp) : OR := lup3 (XX2_leafOf_b22 ) FU l0 l1 l2 h
def XX2_leafOf (x0 : Int) (x1 : Int) (h : Hp) : OR :=
  if x1 = 0 then some (200, h) else cal (XX2_ones x0 h) (fun r1 h2 => if x1 = r1 then some (201, h2) else XX2_leafOf_L22 x0 x1 0 h2)
theorem sX2_leafOf_L22 {Γ : Cx} {w : Wd} (hw : okX w) (g : Gd Γ cX2_leafOf 3 "GatePatch$Functions" (Option.some Jvm.ClassFile.FieldType.int) (rmd 2))   : ∀ (l0 l1 l2 : Int) (h : Hp), Sim Γ w 0 (XX2_leafOf_L22  l0 l1 l2 h) h 22 [(0, vI l0), (1, vI l1), (2, vI l2)] [] := by
  refine S_lup3 (fun l0 l1 l2 => [(0, vI l0), (1, vI l1), (2, vI l2)]) (fun self22 hs22 l0 l1 l2 h => ?_) FU
  unfold XX2_leafOf_b22
  refine S_iload_n (kk := 2) g dX2_leafOf_22 rfl rfl ?_
  refine S_iload_n (kk := 0) g dX2_leafOf_23 rfl rfl ?_
  refine S_icmp_ge (tgt := 53) g dX2_leafOf_24 (by decide) ?_ ?_
  · refine S_iconst g dX2_leafOf_53 ⟨by decide, by decide⟩ ?_
    exact S_ireturn g dX2_leafOf_54 rfl
  · refine S_iload_n (kk := 1) g dX2_leafOf_27 rfl rfl ?_
    refine S_gets2N g dX2_leafOf_28 gs_Fns_19 ?_
    refine S_iload_n (kk := 2) g dX2_leafOf_31 rfl rfl ?_
    refine S_laloadS2 g dX2_leafOf_32 ?_
    refine S_l2i g dX2_leafOf_33 ?_
    refine S_iload_n (kk := 0) g dX2_leafOf_34 rfl rfl ?_
    refine S_callSi (As := [vI l0]) g dX2_leafOf_35 (sX2_ones hw _ _) rfl st_X2_ones cw_X2_ones ml_Fns_15 ini_Fns nd_X2_ones ⟨by decide, by decide⟩ (Nat.le_of_ble_eq_true rfl) (fun r3 h4 => ?_)
    refine S_iand g dX2_leafOf_38 ?_
    refine S_icmp_ne (tgt := 47) g dX2_leafOf_39 (by decide) ?_ ?_
    · refine S_iinc (kk := 2) g dX2_leafOf_47 rfl (by decide) rfl ?_
      refine S_goto (tgt := 22) g dX2_leafOf_50 (by decide) ?_
      refine S_sub g [1, 2, 0] rfl ?_
      exact hs22 _ _ _ _
    · refine S_bipush g dX2_leafOf_42 ⟨by decide, by decide⟩ rfl ?_
      refine S_iload_n (kk := 2) g dX2_leafOf_44 rfl rfl ?_
      refine S_iadd g dX2_leafOf_45 ?_
      exact S_ireturn g dX2_leafOf_46 rfl

theorem sX2_leafOf {G : GG} {w : Wd} (hw : okX w) (x0 : Int) (x1 : Int) (h : Hp) : SC G w yX2_leafOf (Cond.code yX2_leafOf cX2_leafOf 3 (Option.some Jvm.ClassFile.FieldType.int)) 2 0 [vI x0, vI x1] (XX2_leafOf x0 x1 h) h := by
  refine SC_of (own := "GatePatch$Functions") plain_Fns rfl (Nat.le_of_ble_eq_true rfl) (fun Γ hG g => ?_)
  subst hG
  show Sim Γ w 0 _ h 0 [(0, vI x0), (1, vI x1)] []
  unfold XX2_leafOf
  refine S_iload_n (kk := 1) g dX2_leafOf_0 rfl rfl ?_
  refine S_if_ne (tgt := 8) g dX2_leafOf_1 (by decide) ?_ ?_
  · refine S_iload_n (kk := 1) g dX2_leafOf_8 rfl rfl ?_
    refine S_iload_n (kk := 0) g dX2_leafOf_9 rfl rfl ?_
    refine S_callSi (As := [vI x0]) g dX2_leafOf_10 (sX2_ones hw _ _) rfl st_X2_ones cw_X2_ones ml_Fns_15 ini_Fns nd_X2_ones ⟨by decide, by decide⟩ (Nat.le_of_ble_eq_true rfl) (fun r1 h2 => ?_)
    refine S_icmp_ne (tgt := 20) g dX2_leafOf_13 (by decide) ?_ ?_
    · refine S_iconst g dX2_leafOf_20 ⟨by decide, by decide⟩ ?_
      refine S_istore_n g dX2_leafOf_21 rfl (by decide) rfl ?_
      refine S_sub g [1, 2, 0] rfl ?_
      exact sX2_leafOf_L22 hw g _ _ _ _
    · refine S_sipush g dX2_leafOf_16 ⟨by decide, by decide⟩ rfl ?_
      exact S_ireturn g dX2_leafOf_19 rfl
  · refine S_sipush g dX2_leafOf_4 ⟨by decide, by decide⟩ rfl ?_
    exact S_ireturn g dX2_leafOf_7 rfl

def XX2_canMake (x0 : Int) (x1 : Int) (x2 : Int) (x3 : Int) (h : Hp) : OR :=
  cal (XX2_ones x0 h) (fun r1 h2 => nm (aand r1 (axor x1 (-1))) (fun v3 => if x2 = 1 then if (aand x1 (axor x3 (-1))) = 0 then zb 1 (some (1, h2)) else zb 0 (some (0, h2)) else if x2 = 2 then if (aand x3 (axor x1 (-1))) = 0 then zb 1 (some (1, h2)) else zb 0 (some (0, h2)) else if x2 = 4 then if (aand v3 (axor x3 (-1))) = 0 then zb 1 (some (1, h2)) else zb 0 (some (0, h2)) else if x2 = 5 then if (aand x3 (axor v3 (-1))) = 0 then zb 1 (some (1, h2)) else zb 0 (some (0, h2)) else zb 1 (some (1, h2))))
theorem sX2_canMake {G : GG} {w : Wd} (hw : okX w) (x0 : Int) (x1 : Int) (x2 : Int) (x3 : Int) (h : Hp) : SC G w yX2_canMake (Cond.code yX2_canMake cX2_canMake 5 (Option.some Jvm.ClassFile.FieldType.boolean)) 2 0 [vI x0, vI x1, vI x2, vI x3] (XX2_canMake x0 x1 x2 x3 h) h := by
  refine SC_of (own := "GatePatch$Functions") plain_Fns rfl (Nat.le_of_ble_eq_true rfl) (fun Γ hG g => ?_)
  subst hG
  show Sim Γ w 0 _ h 0 [(0, vI x0), (1, vI x1), (2, vI x2), (3, vI x3)] []
  unfold XX2_canMake
  refine S_iload_n (kk := 0) g dX2_canMake_0 rfl rfl ?_
  refine S_callSi (As := [vI x0]) g dX2_canMake_1 (sX2_ones hw _ _) rfl st_X2_ones cw_X2_ones ml_Fns_15 ini_Fns nd_X2_ones ⟨by decide, by decide⟩ (Nat.le_of_ble_eq_true rfl) (fun r1 h2 => ?_)
  refine S_iload_n (kk := 1) g dX2_canMake_4 rfl rfl ?_
  refine S_iconst g dX2_canMake_5 ⟨by decide, by decide⟩ ?_
  refine S_ixor g dX2_canMake_6 ?_
  refine S_iand g dX2_canMake_7 ?_
  refine S_nmI (fun v3 => ?_)
  refine S_istore g dX2_canMake_8 (by decide) rfl ?_
  refine S_iload_n (kk := 3) g dX2_canMake_10 rfl rfl ?_
  refine S_ite (fun c4 => ?_) (fun c4 => ?_)
  · refine S_tabIn (tgt := 44) g dX2_canMake_11 1 c4 (by decide) (by decide) rfl (by decide) ?_
    refine S_iload_n (kk := 2) g dX2_canMake_44 rfl rfl ?_
    refine S_iload_n (kk := 4) g dX2_canMake_45 rfl rfl ?_
    refine S_iconst g dX2_canMake_46 ⟨by decide, by decide⟩ ?_
    refine S_ixor g dX2_canMake_47 ?_
    refine S_iand g dX2_canMake_48 ?_
    refine S_if_ne (tgt := 56) g dX2_canMake_49 (by decide) ?_ ?_
    · refine S_iconst g dX2_canMake_56 ⟨by decide, by decide⟩ ?_
      exact S_zreturn g dX2_canMake_57 rfl
    · refine S_iconst g dX2_canMake_52 ⟨by decide, by decide⟩ ?_
      refine S_goto (tgt := 57) g dX2_canMake_53 (by decide) ?_
      exact S_zreturn g dX2_canMake_57 rfl
  · skip
    refine S_ite (fun c5 => ?_) (fun c5 => ?_)
    · refine S_tabIn (tgt := 58) g dX2_canMake_11 2 c5 (by decide) (by decide) rfl (by decide) ?_
      refine S_iload_n (kk := 4) g dX2_canMake_58 rfl rfl ?_
      refine S_iload_n (kk := 2) g dX2_canMake_59 rfl rfl ?_
      refine S_iconst g dX2_canMake_60 ⟨by decide, by decide⟩ ?_
      refine S_ixor g dX2_canMake_61 ?_
      refine S_iand g dX2_canMake_62 ?_
      refine S_if_ne (tgt := 70) g dX2_canMake_63 (by decide) ?_ ?_
      · refine S_iconst g dX2_canMake_70 ⟨by decide, by decide⟩ ?_
        exact S_zreturn g dX2_canMake_71 rfl
      · refine S_iconst g dX2_canMake_66 ⟨by decide, by decide⟩ ?_
        refine S_goto (tgt := 71) g dX2_canMake_67 (by decide) ?_
        exact S_zreturn g dX2_canMake_71 rfl
    · skip
      refine S_ite (fun c6 => ?_) (fun c6 => ?_)
      · refine S_tabIn (tgt := 72) g dX2_canMake_11 4 c6 (by decide) (by decide) rfl (by decide) ?_
        refine S_iload (kk := 0) g dX2_canMake_72 rfl ?_
        refine S_iload_n (kk := 4) g dX2_canMake_74 rfl rfl ?_
        refine S_iconst g dX2_canMake_75 ⟨by decide, by decide⟩ ?_
        refine S_ixor g dX2_canMake_76 ?_
        refine S_iand g dX2_canMake_77 ?_
        refine S_if_ne (tgt := 85) g dX2_canMake_78 (by decide) ?_ ?_
        · refine S_iconst g dX2_canMake_85 ⟨by decide, by decide⟩ ?_
          exact S_zreturn g dX2_canMake_86 rfl
        · refine S_iconst g dX2_canMake_81 ⟨by decide, by decide⟩ ?_
          refine S_goto (tgt := 86) g dX2_canMake_82 (by decide) ?_
          exact S_zreturn g dX2_canMake_86 rfl
      · skip
        refine S_ite (fun c7 => ?_) (fun c7 => ?_)
        · refine S_tabIn (tgt := 87) g dX2_canMake_11 5 c7 (by decide) (by decide) rfl (by decide) ?_
          refine S_iload_n (kk := 4) g dX2_canMake_87 rfl rfl ?_
          refine S_iload (kk := 0) g dX2_canMake_88 rfl ?_
          refine S_iconst g dX2_canMake_90 ⟨by decide, by decide⟩ ?_
          refine S_ixor g dX2_canMake_91 ?_
          refine S_iand g dX2_canMake_92 ?_
          refine S_if_ne (tgt := 100) g dX2_canMake_93 (by decide) ?_ ?_
          · refine S_iconst g dX2_canMake_100 ⟨by decide, by decide⟩ ?_
            exact S_zreturn g dX2_canMake_101 rfl
          · refine S_iconst g dX2_canMake_96 ⟨by decide, by decide⟩ ?_
            refine S_goto (tgt := 101) g dX2_canMake_97 (by decide) ?_
            exact S_zreturn g dX2_canMake_101 rfl
        · skip
          by_cases c8 : x2 = 3
          · refine S_tabIn (tgt := 102) g dX2_canMake_11 3 c8 (by decide) (by decide) rfl (by decide) ?_
            refine S_iconst g dX2_canMake_102 ⟨by decide, by decide⟩ ?_
            exact S_zreturn g dX2_canMake_103 rfl
          refine S_tabOut (tgt := 102) g dX2_canMake_11 (by omega) (by decide) ?_
          refine S_iconst g dX2_canMake_102 ⟨by decide, by decide⟩ ?_
          exact S_zreturn g dX2_canMake_103 rfl

def XX6_made (x0 : Int) (x1 : Int) (x2 : Int) (x3 : Int) (h : Hp) : OR :=
  if x0 = 0 then some ((jxor x1 (-1)), h) else if x0 = 1 then some ((jand x1 x2), h) else if x0 = 2 then some ((jor x1 x2), h) else if x0 = 3 then some ((jxor x1 x2), h) else if x0 = 4 then some ((jxor (jand x1 x2) (-1)), h) else if x0 = 5 then some ((jxor (jor x1 x2) (-1)), h) else if x0 = 6 then some ((jor (jand x1 x2) (jand (jxor x1 (-1)) x3)), h) else if x0 = 8 then some ((-1), h) else some (0, h)
theorem sX6_made {G : GG} {w : Wd} (hw : okX w) (x0 : Int) (x1 : Int) (x2 : Int) (x3 : Int) (h : Hp) : SC G w yX6_made (Cond.code yX6_made cX6_made 7 (Option.some Jvm.ClassFile.FieldType.long)) 1 1 [vI x0, vJ x1, vJ x2, vJ x3] (XX6_made x0 x1 x2 x3 h) h := by
  refine SC_of (own := "GatePatch$Net") plain_Net rfl (Nat.le_of_ble_eq_true rfl) (fun Γ hG g => ?_)
  subst hG
  show Sim Γ w 1 _ h 0 [(0, vI x0), (1, vJ x1), (3, vJ x2), (5, vJ x3)] []
  unfold XX6_made
  refine S_iload_n (kk := 0) g dX6_made_0 rfl rfl ?_
  refine S_ite (fun c1 => ?_) (fun c1 => ?_)
  · refine S_tabIn (tgt := 52) g dX6_made_1 0 c1 (by decide) (by decide) rfl (by decide) ?_
    refine S_lload_n (kk := 1) g dX6_made_52 rfl rfl ?_
    refine S_ldc2 g dX6_made_53 ⟨by decide, by decide⟩ k_Net_92 ?_
    refine S_lxor g dX6_made_56 ?_
    exact S_lreturn g dX6_made_57 rfl
  · skip
    refine S_ite (fun c2 => ?_) (fun c2 => ?_)
    · refine S_tabIn (tgt := 58) g dX6_made_1 1 c2 (by decide) (by decide) rfl (by decide) ?_
      refine S_lload_n (kk := 1) g dX6_made_58 rfl rfl ?_
      refine S_lload_n (kk := 2) g dX6_made_59 rfl rfl ?_
      refine S_land g dX6_made_60 ?_
      exact S_lreturn g dX6_made_61 rfl
    · skip
      refine S_ite (fun c3 => ?_) (fun c3 => ?_)
      · refine S_tabIn (tgt := 62) g dX6_made_1 2 c3 (by decide) (by decide) rfl (by decide) ?_
        refine S_lload_n (kk := 1) g dX6_made_62 rfl rfl ?_
        refine S_lload_n (kk := 2) g dX6_made_63 rfl rfl ?_
        refine S_lor g dX6_made_64 ?_
        exact S_lreturn g dX6_made_65 rfl
      · skip
        refine S_ite (fun c4 => ?_) (fun c4 => ?_)
        · refine S_tabIn (tgt := 66) g dX6_made_1 3 c4 (by decide) (by decide) rfl (by decide) ?_
          refine S_lload_n (kk := 1) g dX6_made_66 rfl rfl ?_
          refine S_lload_n (kk := 2) g dX6_made_67 rfl rfl ?_
          refine S_lxor g dX6_made_68 ?_
          exact S_lreturn g dX6_made_69 rfl
        · skip
          refine S_ite (fun c5 => ?_) (fun c5 => ?_)
          · refine S_tabIn (tgt := 70) g dX6_made_1 4 c5 (by decide) (by decide) rfl (by decide) ?_
            refine S_lload_n (kk := 1) g dX6_made_70 rfl rfl ?_
            refine S_lload_n (kk := 2) g dX6_made_71 rfl rfl ?_
            refine S_land g dX6_made_72 ?_
            refine S_ldc2 g dX6_made_73 ⟨by decide, by decide⟩ k_Net_92 ?_
            refine S_lxor g dX6_made_76 ?_
            exact S_lreturn g dX6_made_77 rfl
          · skip
            refine S_ite (fun c6 => ?_) (fun c6 => ?_)
            · refine S_tabIn (tgt := 78) g dX6_made_1 5 c6 (by decide) (by decide) rfl (by decide) ?_
              refine S_lload_n (kk := 1) g dX6_made_78 rfl rfl ?_
              refine S_lload_n (kk := 2) g dX6_made_79 rfl rfl ?_
              refine S_lor g dX6_made_80 ?_
              refine S_ldc2 g dX6_made_81 ⟨by decide, by decide⟩ k_Net_92 ?_
              refine S_lxor g dX6_made_84 ?_
              exact S_lreturn g dX6_made_85 rfl
            · skip
              refine S_ite (fun c7 => ?_) (fun c7 => ?_)
              · refine S_tabIn (tgt := 86) g dX6_made_1 6 c7 (by decide) (by decide) rfl (by decide) ?_
                refine S_lload_n (kk := 1) g dX6_made_86 rfl rfl ?_
                refine S_lload_n (kk := 2) g dX6_made_87 rfl rfl ?_
                refine S_land g dX6_made_88 ?_
                refine S_lload_n (kk := 1) g dX6_made_89 rfl rfl ?_
                refine S_ldc2 g dX6_made_90 ⟨by decide, by decide⟩ k_Net_92 ?_
                refine S_lxor g dX6_made_93 ?_
                refine S_lload (kk := 3) g dX6_made_94 rfl ?_
                refine S_land g dX6_made_96 ?_
                refine S_lor g dX6_made_97 ?_
                exact S_lreturn g dX6_made_98 rfl
              · skip
                refine S_ite (fun c8 => ?_) (fun c8 => ?_)
                · refine S_tabIn (tgt := 99) g dX6_made_1 8 c8 (by decide) (by decide) rfl (by decide) ?_
                  refine S_ldc2 g dX6_made_99 ⟨by decide, by decide⟩ k_Net_92 ?_
                  exact S_lreturn g dX6_made_102 rfl
                · skip
                  by_cases c9 : x0 = 7
                  · refine S_tabIn (tgt := 103) g dX6_made_1 7 c9 (by decide) (by decide) rfl (by decide) ?_
                    refine S_lconst (x := 0) g dX6_made_103 ⟨by decide, by decide⟩ rfl ?_
                    exact S_lreturn g dX6_made_104 rfl
                  refine S_tabOut (tgt := 103) g dX6_made_1 (by omega) (by decide) ?_
                  refine S_lconst (x := 0) g dX6_made_103 ⟨by decide, by decide⟩ rfl ?_
                  exact S_lreturn g dX6_made_104 rfl

def XX2_mate_p93  (self52 : Int → Int → Int → Int → Int → Int → Int → Hp → OR) (l0 l1 l2 l3 l4 l6 l7 : Int) (h : Hp) : OR :=
  chk (l7 + 1) (self52 l0 l1 l2 l3 l4 l6 (l7 + 1) h)
def XX2_mate_b52   (self52 : Int → Int → Int → Int → Int → Int → Int → Hp → OR) (l0 l1 l2 l3 l4 l6 l7 : Int) (h : Hp) : OR :=
  if l6 < l7 then some ((-1), h) else cal (XX2_price l0 l7 h) (fun r5 h6 => if r5 = l4 then cal (XX6_made l2 l3 l7 0 h6) (fun r7 h8 => cal (XX2_ones l0 h8) (fun r9 h10 => if (aand (al2i r7) r9) = l1 then some (l7, h10) else XX2_mate_p93 self52 l0 l1 l2 l3 l4 l6 l7 h10)) else XX2_mate_p93 self52 l0 l1 l2 l3 l4 l6 l7 h6)
def XX2_mate_L52   (l0 l1 l2 l3 l4 l6 l7 : Int) (h : Hp) : OR := lup7 (XX2_mate_b52 ) FU l0 l1 l2 l3 l4 l6 l7 h
def XX2_mate_p46   (l0 l1 l2 l3 l4 l5 : Int) (s0 : Int) (h : Hp) : OR :=
  XX2_mate_L52 l0 l1 l2 l3 l4 s0 l5 h
def XX2_mate_p29   (l0 l1 l2 l3 l4 : Int) (s0 : Int) (h : Hp) : OR :=
  if l2 = 3 then XX2_mate_p46 l0 l1 l2 l3 l4 s0 (axor l1 l3) h else cal (XX2_ones l0 h) (fun r3 h4 => XX2_mate_p46 l0 l1 l2 l3 l4 s0 r3 h4)
def XX2_mate (x0 : Int) (x1 : Int) (x2 : Int) (x3 : Int) (x4 : Int) (h : Hp) : OR :=
  if x4 < 0 then some ((-1), h) else cal (XX2_canMake x0 x1 x2 x3 h) (fun r1 h2 => if r1 = 0 then some ((-1), h2) else if x2 = 3 then XX2_mate_p29 x0 x1 x2 x3 x4 (axor x1 x3) h2 else XX2_mate_p29 x0 x1 x2 x3 x4 0 h2)
theorem sX2_mate_p93 {Γ : Cx} {w : Wd} (hw : okX w) (g : Gd Γ cX2_mate 8 "GatePatch$Functions" (Option.some Jvm.ClassFile.FieldType.int) (rmd 3))  (self52 : Int → Int → Int → Int → Int → Int → Int → Hp → OR) (hs52 : ∀ (x0 x1 x2 x3 x4 x5 x6 : Int) (h : Hp), Sim Γ w 0 (self52 x0 x1 x2 x3 x4 x5 x6 h) h 52 [(0, vI x0), (1, vI x1), (2, vI x2), (3, vI x3), (4, vI x4), (6, vI x5), (7, vI x6)] []) (l0 l1 l2 l3 l4 l6 l7 : Int) (h : Hp) : Sim Γ w 0 (XX2_mate_p93 self52 l0 l1 l2 l3 l4 l6 l7  h) h 93 [(0, vI l0), (1, vI l1), (2, vI l2), (3, vI l3), (4, vI l4), (6, vI l6), (7, vI l7)] [] := by
  unfold XX2_mate_p93
  refine S_iinc (kk := 6) g dX2_mate_93 rfl (by decide) rfl ?_
  refine S_goto (tgt := 52) g dX2_mate_96 (by decide) ?_
  refine S_sub g [1, 2, 3, 4, 5, 6, 0] rfl ?_
  exact hs52 _ _ _ _ _ _ _ _

theorem sX2_mate_L52 {Γ : Cx} {w : Wd} (hw : okX w) (g : Gd Γ cX2_mate 8 "GatePatch$Functions" (Option.some Jvm.ClassFile.FieldType.int) (rmd 3))   : ∀ (l0 l1 l2 l3 l4 l6 l7 : Int) (h : Hp), Sim Γ w 0 (XX2_mate_L52  l0 l1 l2 l3 l4 l6 l7 h) h 52 [(0, vI l0), (1, vI l1), (2, vI l2), (3, vI l3), (4, vI l4), (6, vI l6), (7, vI l7)] [] := by
  refine S_lup7 (fun l0 l1 l2 l3 l4 l6 l7 => [(0, vI l0), (1, vI l1), (2, vI l2), (3, vI l3), (4, vI l4), (6, vI l6), (7, vI l7)]) (fun self52 hs52 l0 l1 l2 l3 l4 l6 l7 h => ?_) FU
  unfold XX2_mate_b52
  refine S_iload (kk := 6) g dX2_mate_52 rfl ?_
  refine S_iload (kk := 5) g dX2_mate_54 rfl ?_
  refine S_icmp_gt (tgt := 99) g dX2_mate_56 (by decide) ?_ ?_
  · refine S_iconst g dX2_mate_99 ⟨by decide, by decide⟩ ?_
    exact S_ireturn g dX2_mate_100 rfl
  · refine S_iload_n (kk := 0) g dX2_mate_59 rfl rfl ?_
    refine S_iload (kk := 6) g dX2_mate_60 rfl ?_
    refine S_callSi (As := [vI l0, vI l7]) g dX2_mate_62 (sX2_price hw _ _ _) rfl st_X2_price cw_X2_price ml_Fns_23 ini_Fns nd_X2_price ⟨by decide, by decide⟩ (Nat.le_of_ble_eq_true rfl) (fun r5 h6 => ?_)
    refine S_iload (kk := 4) g dX2_mate_65 rfl ?_
    refine S_icmp_ne (tgt := 93) g dX2_mate_67 (by decide) ?_ ?_
    · exact sX2_mate_p93 hw g self52 hs52 _ _ _ _ _ _ _ _
    · refine S_iload_n (kk := 2) g dX2_mate_70 rfl rfl ?_
      refine S_iload_n (kk := 3) g dX2_mate_71 rfl rfl ?_
      refine S_i2l g dX2_mate_72 ?_
      refine S_iload (kk := 6) g dX2_mate_73 rfl ?_
      refine S_i2l g dX2_mate_75 ?_
      refine S_lconst (x := 0) g dX2_mate_76 ⟨by decide, by decide⟩ rfl ?_
      refine S_callSj (As := [vI l2, vJ l3, vJ l7, vJ 0]) g dX2_mate_77 (sX6_made hw _ _ _ _ _) rfl st_X6_made cw_X6_made ml_Fns_35 ini_Net nd_X6_made ⟨by decide, by decide⟩ (Nat.le_of_ble_eq_true rfl) (fun r7 h8 => ?_)
      refine S_l2i g dX2_mate_80 ?_
      refine S_iload_n (kk := 0) g dX2_mate_81 rfl rfl ?_
      refine S_callSi (As := [vI l0]) g dX2_mate_82 (sX2_ones hw _ _) rfl st_X2_ones cw_X2_ones ml_Fns_15 ini_Fns nd_X2_ones ⟨by decide, by decide⟩ (Nat.le_of_ble_eq_true rfl) (fun r9 h10 => ?_)
      refine S_iand g dX2_mate_85 ?_
      refine S_iload_n (kk := 1) g dX2_mate_86 rfl rfl ?_
      refine S_icmp_ne (tgt := 93) g dX2_mate_87 (by decide) ?_ ?_
      · exact sX2_mate_p93 hw g self52 hs52 _ _ _ _ _ _ _ _
      · refine S_iload (kk := 6) g dX2_mate_90 rfl ?_
        exact S_ireturn g dX2_mate_92 rfl

theorem sX2_mate_p46 {Γ : Cx} {w : Wd} (hw : okX w) (g : Gd Γ cX2_mate 8 "GatePatch$Functions" (Option.some Jvm.ClassFile.FieldType.int) (rmd 3))   (l0 l1 l2 l3 l4 l5 : Int) (s0 : Int) (h : Hp) : Sim Γ w 0 (XX2_mate_p46  l0 l1 l2 l3 l4 l5 s0 h) h 46 [(0, vI l0), (1, vI l1), (2, vI l2), (3, vI l3), (4, vI l4), (5, vI l5)] [vI s0] := by
  unfold XX2_mate_p46
  refine S_istore g dX2_mate_46 (by decide) rfl ?_
  refine S_iload (kk := 6) g dX2_mate_48 rfl ?_
  refine S_istore g dX2_mate_50 (by decide) rfl ?_
  refine S_sub g [2, 3, 4, 5, 6, 1, 0] rfl ?_
  exact sX2_mate_L52 hw g _ _ _ _ _ _ _ _

theorem sX2_mate_p29 {Γ : Cx} {w : Wd} (hw : okX w) (g : Gd Γ cX2_mate 8 "GatePatch$Functions" (Option.some Jvm.ClassFile.FieldType.int) (rmd 3))   (l0 l1 l2 l3 l4 : Int) (s0 : Int) (h : Hp) : Sim Γ w 0 (XX2_mate_p29  l0 l1 l2 l3 l4 s0 h) h 29 [(0, vI l0), (1, vI l1), (2, vI l2), (3, vI l3), (4, vI l4)] [vI s0] := by
  unfold XX2_mate_p29
  refine S_istore g dX2_mate_29 (by decide) rfl ?_
  refine S_iload_n (kk := 3) g dX2_mate_31 rfl rfl ?_
  refine S_iconst g dX2_mate_32 ⟨by decide, by decide⟩ ?_
  refine S_icmp_ne (tgt := 42) g dX2_mate_33 (by decide) ?_ ?_
  · refine S_iload_n (kk := 1) g dX2_mate_42 rfl rfl ?_
    refine S_callSi (As := [vI l0]) g dX2_mate_43 (sX2_ones hw _ _) rfl st_X2_ones cw_X2_ones ml_Fns_15 ini_Fns nd_X2_ones ⟨by decide, by decide⟩ (Nat.le_of_ble_eq_true rfl) (fun r3 h4 => ?_)
    refine S_sub g [1, 2, 3, 4, 5, 0] rfl ?_
    exact sX2_mate_p46 hw g _ _ _ _ _ _ _ _
  · refine S_iload_n (kk := 2) g dX2_mate_36 rfl rfl ?_
    refine S_iload_n (kk := 4) g dX2_mate_37 rfl rfl ?_
    refine S_ixor g dX2_mate_38 ?_
    refine S_goto (tgt := 46) g dX2_mate_39 (by decide) ?_
    refine S_sub g [1, 2, 3, 4, 5, 0] rfl ?_
    exact sX2_mate_p46 hw g _ _ _ _ _ _ _ _

theorem sX2_mate {G : GG} {w : Wd} (hw : okX w) (x0 : Int) (x1 : Int) (x2 : Int) (x3 : Int) (x4 : Int) (h : Hp) : SC G w yX2_mate (Cond.code yX2_mate cX2_mate 8 (Option.some Jvm.ClassFile.FieldType.int)) 3 0 [vI x0, vI x1, vI x2, vI x3, vI x4] (XX2_mate x0 x1 x2 x3 x4 h) h := by
  refine SC_of (own := "GatePatch$Functions") plain_Fns rfl (Nat.le_of_ble_eq_true rfl) (fun Γ hG g => ?_)
  subst hG
  show Sim Γ w 0 _ h 0 [(0, vI x0), (1, vI x1), (2, vI x2), (3, vI x3), (4, vI x4)] []
  unfold XX2_mate
  refine S_iload (kk := 4) g dX2_mate_0 rfl ?_
  refine S_if_lt (tgt := 15) g dX2_mate_2 (by decide) ?_ ?_
  · refine S_iconst g dX2_mate_15 ⟨by decide, by decide⟩ ?_
    exact S_ireturn g dX2_mate_16 rfl
  · refine S_iload_n (kk := 0) g dX2_mate_5 rfl rfl ?_
    refine S_iload_n (kk := 1) g dX2_mate_6 rfl rfl ?_
    refine S_iload_n (kk := 2) g dX2_mate_7 rfl rfl ?_
    refine S_iload_n (kk := 3) g dX2_mate_8 rfl rfl ?_
    refine S_callSi (As := [vI x0, vI x1, vI x2, vI x3]) g dX2_mate_9 (sX2_canMake hw _ _ _ _ _) rfl st_X2_canMake cw_X2_canMake ml_Fns_31 ini_Fns nd_X2_canMake ⟨by decide, by decide⟩ (Nat.le_of_ble_eq_true rfl) (fun r1 h2 => ?_)
    refine S_if_ne (tgt := 17) g dX2_mate_12 (by decide) ?_ ?_
    · refine S_iload_n (kk := 2) g dX2_mate_17 rfl rfl ?_
      refine S_iconst g dX2_mate_18 ⟨by decide, by decide⟩ ?_
      refine S_icmp_ne (tgt := 28) g dX2_mate_19 (by decide) ?_ ?_
      · refine S_iconst g dX2_mate_28 ⟨by decide, by decide⟩ ?_
        exact sX2_mate_p29 hw g _ _ _ _ _ _ _
      · refine S_iload_n (kk := 1) g dX2_mate_22 rfl rfl ?_
        refine S_iload_n (kk := 3) g dX2_mate_23 rfl rfl ?_
        refine S_ixor g dX2_mate_24 ?_
        refine S_goto (tgt := 29) g dX2_mate_25 (by decide) ?_
        exact sX2_mate_p29 hw g _ _ _ _ _ _ _
    · refine S_iconst g dX2_mate_15 ⟨by decide, by decide⟩ ?_
      exact S_ireturn g dX2_mate_16 rfl

def XX2_split_b43  (self34 : Int → Int → Int → Int → Hp → OR) (self43 : Int → Int → Int → Int → Int → Hp → OR) (l0 l1 l2 l4 l5 : Int) (h : Hp) : OR :=
  cal (XX2_ones l0 h) (fun r9 h10 => if r9 < l5 then chk (l4 + 1) (self34 l0 l1 l2 (l4 + 1) h10) else cal (XX2_price l0 l5 h10) (fun r11 h12 => chk (l2 - r11) (cal (XX2_mate l0 l1 l4 l5 (l2 - r11) h12) (fun r13 h14 => if r13 < 0 then chk (l5 + 1) (self43 l0 l1 l2 l4 (l5 + 1) h14) else some ((aor (aor (ashl l4 16) (ashl l5 8)) r13), h14)))))
def XX2_split_L43  (self34 : Int → Int → Int → Int → Hp → OR) (l0 l1 l2 l4 l5 : Int) (h : Hp) : OR := lup5 (XX2_split_b43 self34) FU l0 l1 l2 l4 l5 h
def XX2_split_b34   (self34 : Int → Int → Int → Int → Hp → OR) (l0 l1 l2 l4 : Int) (h : Hp) : OR :=
  if 5 < l4 then some ((-1), h) else XX2_split_L43 self34 l0 l1 l2 l4 0 h
def XX2_split_L34   (l0 l1 l2 l4 : Int) (h : Hp) : OR := lup4 (XX2_split_b34 ) FU l0 l1 l2 l4 h
def XX2_split (x0 : Int) (x1 : Int) (h : Hp) : OR :=
  cal (XX2_price x0 x1 h) (fun r1 h2 => chk (r1 - 1) (nm (r1 - 1) (fun v3 => cal (XX2_ones x0 h2) (fun r4 h5 => nm (aand r4 (axor x1 (-1))) (fun v6 => cal (XX2_price x0 v6 h5) (fun r7 h8 => if r7 = v3 then some ((ashl v6 8), h8) else XX2_split_L34 x0 x1 v3 1 h8))))))
theorem sX2_split_L43 {Γ : Cx} {w : Wd} (hw : okX w) (g : Gd Γ cX2_split 7 "GatePatch$Functions" (Option.some Jvm.ClassFile.FieldType.int) (rmd 4))  (self34 : Int → Int → Int → Int → Hp → OR) (hs34 : ∀ (x0 x1 x2 x3 : Int) (h : Hp), Sim Γ w 0 (self34 x0 x1 x2 x3 h) h 34 [(0, vI x0), (1, vI x1), (2, vI x2), (4, vI x3)] []) : ∀ (l0 l1 l2 l4 l5 : Int) (h : Hp), Sim Γ w 0 (XX2_split_L43 self34 l0 l1 l2 l4 l5 h) h 43 [(0, vI l0), (1, vI l1), (2, vI l2), (4, vI l4), (5, vI l5)] [] := by
  refine S_lup5 (fun l0 l1 l2 l4 l5 => [(0, vI l0), (1, vI l1), (2, vI l2), (4, vI l4), (5, vI l5)]) (fun self43 hs43 l0 l1 l2 l4 l5 h => ?_) FU
  unfold XX2_split_b43
  refine S_iload (kk := 4) g dX2_split_43 rfl ?_
  refine S_iload_n (kk := 0) g dX2_split_45 rfl rfl ?_
  refine S_callSi (As := [vI l0]) g dX2_split_46 (sX2_ones hw _ _) rfl st_X2_ones cw_X2_ones ml_Fns_15 ini_Fns nd_X2_ones ⟨by decide, by decide⟩ (Nat.le_of_ble_eq_true rfl) (fun r9 h10 => ?_)
  refine S_icmp_gt (tgt := 97) g dX2_split_49 (by decide) ?_ ?_
  · refine S_iinc (kk := 3) g dX2_split_97 rfl (by decide) rfl ?_
    refine S_goto (tgt := 34) g dX2_split_100 (by decide) ?_
    refine S_sub g [1, 2, 3, 0] rfl ?_
    exact hs34 _ _ _ _ _
  · refine S_iload_n (kk := 0) g dX2_split_52 rfl rfl ?_
    refine S_iload_n (kk := 1) g dX2_split_53 rfl rfl ?_
    refine S_iload (kk := 3) g dX2_split_54 rfl ?_
    refine S_iload (kk := 4) g dX2_split_56 rfl ?_
    refine S_iload_n (kk := 2) g dX2_split_58 rfl rfl ?_
    refine S_iload_n (kk := 0) g dX2_split_59 rfl rfl ?_
    refine S_iload (kk := 4) g dX2_split_60 rfl ?_
    refine S_callSi (As := [vI l0, vI l5]) g dX2_split_62 (sX2_price hw _ _ _) rfl st_X2_price cw_X2_price ml_Fns_23 ini_Fns nd_X2_price ⟨by decide, by decide⟩ (Nat.le_of_ble_eq_true rfl) (fun r11 h12 => ?_)
    refine S_isub g dX2_split_65 ?_
    refine S_callSi (As := [vI l0, vI l1, vI l4, vI l5, vI (l2 - r11)]) g dX2_split_66 (sX2_mate hw _ _ _ _ _ _) rfl st_X2_mate cw_X2_mate ml_Fns_27 ini_Fns nd_X2_mate ⟨by decide, by decide⟩ (Nat.le_of_ble_eq_true rfl) (fun r13 h14 => ?_)
    refine S_istore g dX2_split_69 (by decide) rfl ?_
    refine S_iload (kk := 0) g dX2_split_71 rfl ?_
    refine S_if_lt (tgt := 91) g dX2_split_73 (by decide) ?_ ?_
    · refine S_iinc (kk := 5) g dX2_split_91 rfl (by decide) rfl ?_
      refine S_goto (tgt := 43) g dX2_split_94 (by decide) ?_
      refine S_sub g [2, 3, 4, 5, 0] rfl ?_
      exact hs43 _ _ _ _ _ _
    · refine S_iload (kk := 4) g dX2_split_76 rfl ?_
      refine S_bipush g dX2_split_78 ⟨by decide, by decide⟩ rfl ?_
      refine S_ishl g dX2_split_80 ?_
      refine S_iload (kk := 5) g dX2_split_81 rfl ?_
      refine S_bipush g dX2_split_83 ⟨by decide, by decide⟩ rfl ?_
      refine S_ishl g dX2_split_85 ?_
      refine S_ior g dX2_split_86 ?_
      refine S_iload (kk := 0) g dX2_split_87 rfl ?_
      refine S_ior g dX2_split_89 ?_
      exact S_ireturn g dX2_split_90 rfl

theorem sX2_split_L34 {Γ : Cx} {w : Wd} (hw : okX w) (g : Gd Γ cX2_split 7 "GatePatch$Functions" (Option.some Jvm.ClassFile.FieldType.int) (rmd 4))   : ∀ (l0 l1 l2 l4 : Int) (h : Hp), Sim Γ w 0 (XX2_split_L34  l0 l1 l2 l4 h) h 34 [(0, vI l0), (1, vI l1), (2, vI l2), (4, vI l4)] [] := by
  refine S_lup4 (fun l0 l1 l2 l4 => [(0, vI l0), (1, vI l1), (2, vI l2), (4, vI l4)]) (fun self34 hs34 l0 l1 l2 l4 h => ?_) FU
  unfold XX2_split_b34
  refine S_iload (kk := 3) g dX2_split_34 rfl ?_
  refine S_iconst g dX2_split_36 ⟨by decide, by decide⟩ ?_
  refine S_icmp_gt (tgt := 103) g dX2_split_37 (by decide) ?_ ?_
  · refine S_iconst g dX2_split_103 ⟨by decide, by decide⟩ ?_
    exact S_ireturn g dX2_split_104 rfl
  · refine S_iconst g dX2_split_40 ⟨by decide, by decide⟩ ?_
    refine S_istore g dX2_split_41 (by decide) rfl ?_
    refine S_sub g [1, 2, 3, 4, 0] rfl ?_
    exact sX2_split_L43 hw g self34 hs34 _ _ _ _ _ _

theorem sX2_split {G : GG} {w : Wd} (hw : okX w) (x0 : Int) (x1 : Int) (h : Hp) : SC G w yX2_split (Cond.code yX2_split cX2_split 7 (Option.some Jvm.ClassFile.FieldType.int)) 4 0 [vI x0, vI x1] (XX2_split x0 x1 h) h := by
  refine SC_of (own := "GatePatch$Functions") plain_Fns rfl (Nat.le_of_ble_eq_true rfl) (fun Γ hG g => ?_)
  subst hG
  show Sim Γ w 0 _ h 0 [(0, vI x0), (1, vI x1)] []
  unfold XX2_split
  refine S_iload_n (kk := 0) g dX2_split_0 rfl rfl ?_
  refine S_iload_n (kk := 1) g dX2_split_1 rfl rfl ?_
  refine S_callSi (As := [vI x0, vI x1]) g dX2_split_2 (sX2_price hw _ _ _) rfl st_X2_price cw_X2_price ml_Fns_23 ini_Fns nd_X2_price ⟨by decide, by decide⟩ (Nat.le_of_ble_eq_true rfl) (fun r1 h2 => ?_)
  refine S_iconst g dX2_split_5 ⟨by decide, by decide⟩ ?_
  refine S_isub g dX2_split_6 ?_
  refine S_nmI (fun v3 => ?_)
  refine S_istore_n g dX2_split_7 rfl (by decide) rfl ?_
  refine S_iload_n (kk := 1) g dX2_split_8 rfl rfl ?_
  refine S_callSi (As := [vI x0]) g dX2_split_9 (sX2_ones hw _ _) rfl st_X2_ones cw_X2_ones ml_Fns_15 ini_Fns nd_X2_ones ⟨by decide, by decide⟩ (Nat.le_of_ble_eq_true rfl) (fun r4 h5 => ?_)
  refine S_iload_n (kk := 2) g dX2_split_12 rfl rfl ?_
  refine S_iconst g dX2_split_13 ⟨by decide, by decide⟩ ?_
  refine S_ixor g dX2_split_14 ?_
  refine S_iand g dX2_split_15 ?_
  refine S_nmI (fun v6 => ?_)
  refine S_istore_n g dX2_split_16 rfl (by decide) rfl ?_
  refine S_iload_n (kk := 2) g dX2_split_17 rfl rfl ?_
  refine S_iload_n (kk := 0) g dX2_split_18 rfl rfl ?_
  refine S_callSi (As := [vI x0, vI v6]) g dX2_split_19 (sX2_price hw _ _ _) rfl st_X2_price cw_X2_price ml_Fns_23 ini_Fns nd_X2_price ⟨by decide, by decide⟩ (Nat.le_of_ble_eq_true rfl) (fun r7 h8 => ?_)
  refine S_iload_n (kk := 1) g dX2_split_22 rfl rfl ?_
  refine S_icmp_ne (tgt := 31) g dX2_split_23 (by decide) ?_ ?_
  · refine S_iconst g dX2_split_31 ⟨by decide, by decide⟩ ?_
    refine S_istore g dX2_split_32 (by decide) rfl ?_
    refine S_sub g [3, 4, 2, 0] rfl ?_
    exact sX2_split_L34 hw g _ _ _ _ _
  · refine S_iload_n (kk := 0) g dX2_split_26 rfl rfl ?_
    refine S_bipush g dX2_split_27 ⟨by decide, by decide⟩ rfl ?_
    refine S_ishl g dX2_split_29 ?_
    exact S_ireturn g dX2_split_30 rfl

def XX8_start (p : Nat) (x0 : Int) (x1 : Int) (x2 : Int) (h : Hp) : OR :=
  hm (wr h p 0 x0) (fun h1 => hm (wr h1 p 1 x1) (fun h2 => hm (wr h2 p 2 x2) (fun h3 => hm (wr h3 p 3 0) (fun h4 => cal (XJ7_fill_53178 (p + 3) 6 0 h4) (fun r5 h6 => cal (XJ7_fill_53178 (p + 4) 48 0 h6) (fun r7 h8 => some (0, h8)))))))
theorem sX8_start {G : GG} {w : Wd} (hw : okX0 w) (p : Nat) (hp : isPl w p) (x0 : Int) (x1 : Int) (x2 : Int) (h : Hp) : SC G w yX8_start (Cond.code yX8_start cX8_start 4 (Option.none : Option Jvm.ClassFile.FieldType)) 2 3 [vP p, vI x0, vI x1, vI x2] (XX8_start p x0 x1 x2 h) h := by
  refine SC_of (own := "GatePatch$Plan") plain_Plan rfl (Nat.le_of_ble_eq_true rfl) (fun Γ hG g => ?_)
  subst hG
  show Sim Γ w 3 _ h 0 [(0, vP p), (1, vI x0), (2, vI x1), (3, vI x2)] []
  unfold XX8_start
  refine S_aload_n (kk := 0) g dX8_start_0 rfl rfl ?_
  refine S_iload_n (kk := 1) g dX8_start_1 rfl rfl ?_
  refine S_puti g dX8_start_2 fp_Plan_24 hp.1 rfl (fun h1 => ?_)
  refine S_aload_n (kk := 0) g dX8_start_5 rfl rfl ?_
  refine S_iload_n (kk := 2) g dX8_start_6 rfl rfl ?_
  refine S_puti g dX8_start_7 fp_Plan_28 hp.1 rfl (fun h2 => ?_)
  refine S_aload_n (kk := 0) g dX8_start_10 rfl rfl ?_
  refine S_iload_n (kk := 3) g dX8_start_11 rfl rfl ?_
  refine S_puti g dX8_start_12 fp_Plan_31 hp.1 rfl (fun h3 => ?_)
  refine S_aload_n (kk := 0) g dX8_start_15 rfl rfl ?_
  refine S_iconst g dX8_start_16 ⟨by decide, by decide⟩ ?_
  refine S_puti g dX8_start_17 fp_Plan_34 hp.1 rfl (fun h4 => ?_)
  refine S_aload_n (kk := 0) g dX8_start_20 rfl rfl ?_
  refine S_getr g dX8_start_21 fl_Plan_18 hp.1 rfl hp.2.2.2.1 ?_
  refine S_iconst g dX8_start_24 ⟨by decide, by decide⟩ ?_
  refine S_callSv (As := [vP (p + 3), vI 0]) g dX8_start_25 (sJ7_fill_53178 (p + 3) 6 hp.2.2.2.2.2.2.2.1 ⟨by decide, by decide⟩ _ _) rfl st_J7_fill_53178 cw_J7_fill_53178 ml_Plan_37 ini_Arr nd_J7_fill_53178 ⟨by decide, by decide⟩ (Nat.le_of_ble_eq_true rfl) (fun r5 h6 => ?_)
  refine S_aload_n (kk := 0) g dX8_start_28 rfl rfl ?_
  refine S_getr g dX8_start_29 fl_Plan_21 hp.1 rfl hp.2.2.2.2.1 ?_
  refine S_iconst g dX8_start_32 ⟨by decide, by decide⟩ ?_
  refine S_callSv (As := [vP (p + 4), vI 0]) g dX8_start_33 (sJ7_fill_53178 (p + 4) 48 hp.2.2.2.2.2.2.2.2 ⟨by decide, by decide⟩ _ _) rfl st_J7_fill_53178 cw_J7_fill_53178 ml_Plan_37 ini_Arr nd_J7_fill_53178 ⟨by decide, by decide⟩ (Nat.le_of_ble_eq_true rfl) (fun r7 h8 => ?_)
  exact S_return g dX8_start_36 rfl

def XX8_sources (p : Nat) (h : Hp) : OR :=
  chk ((h p 0) + (h p 1)) (some (((h p 0) + (h p 1)), h))
theorem sX8_sources {G : GG} {w : Wd} (hw : okX w) (p : Nat) (hp : isPl w p) (h : Hp) : SC G w yX8_sources (Cond.code yX8_sources cX8_sources 1 (Option.some Jvm.ClassFile.FieldType.int)) 1 0 [vP p] (XX8_sources p h) h := by
  refine SC_of (own := "GatePatch$Plan") plain_Plan rfl (Nat.le_of_ble_eq_true rfl) (fun Γ hG g => ?_)
  subst hG
  show Sim Γ w 0 _ h 0 [(0, vP p)] []
  unfold XX8_sources
  refine S_aload_n (kk := 0) g dX8_sources_0 rfl rfl ?_
  refine S_geti g dX8_sources_1 fl_Plan_24 hp.1 (Or.inl rfl) ?_
  refine S_aload_n (kk := 0) g dX8_sources_4 rfl rfl ?_
  refine S_geti g dX8_sources_5 fl_Plan_28 hp.1 (Or.inl rfl) ?_
  refine S_iadd g dX8_sources_8 ?_
  exact S_ireturn g dX8_sources_9 rfl

def XX8_wires (p : Nat) (h : Hp) : OR :=
  chk ((h p 0) + (h p 1)) (chk (((h p 0) + (h p 1)) + (h p 3)) (some ((((h p 0) + (h p 1)) + (h p 3)), h)))
theorem sX8_wires {G : GG} {w : Wd} (hw : okX w) (p : Nat) (hp : isPl w p) (h : Hp) : SC G w yX8_wires (Cond.code yX8_wires cX8_wires 1 (Option.some Jvm.ClassFile.FieldType.int)) 1 0 [vP p] (XX8_wires p h) h := by
  refine SC_of (own := "GatePatch$Plan") plain_Plan rfl (Nat.le_of_ble_eq_true rfl) (fun Γ hG g => ?_)
  subst hG
  show Sim Γ w 0 _ h 0 [(0, vP p)] []
  unfold XX8_wires
  refine S_aload_n (kk := 0) g dX8_wires_0 rfl rfl ?_
  refine S_geti g dX8_wires_1 fl_Plan_24 hp.1 (Or.inl rfl) ?_
  refine S_aload_n (kk := 0) g dX8_wires_4 rfl rfl ?_
  refine S_geti g dX8_wires_5 fl_Plan_28 hp.1 (Or.inl rfl) ?_
  refine S_iadd g dX8_wires_8 ?_
  refine S_aload_n (kk := 0) g dX8_wires_9 rfl rfl ?_
  refine S_geti g dX8_wires_10 fl_Plan_34 hp.1 (Or.inl rfl) ?_
  refine S_iadd g dX8_wires_13 ?_
  exact S_ireturn g dX8_wires_14 rfl

def XX8_seenCount (p : Nat) (h : Hp) : OR :=
  chk ((h p 2) + (h p 1)) (some (((h p 2) + (h p 1)), h))
theorem sX8_seenCount {G : GG} {w : Wd} (hw : okX w) (p : Nat) (hp : isPl w p) (h : Hp) : SC G w yX8_seenCount (Cond.code yX8_seenCount cX8_seenCount 1 (Option.some Jvm.ClassFile.FieldType.int)) 1 0 [vP p] (XX8_seenCount p h) h := by
  refine SC_of (own := "GatePatch$Plan") plain_Plan rfl (Nat.le_of_ble_eq_true rfl) (fun Γ hG g => ?_)
  subst hG
  show Sim Γ w 0 _ h 0 [(0, vP p)] []
  unfold XX8_seenCount
  refine S_aload_n (kk := 0) g dX8_seenCount_0 rfl rfl ?_
  refine S_geti g dX8_seenCount_1 fl_Plan_31 hp.1 (Or.inl rfl) ?_
  refine S_aload_n (kk := 0) g dX8_seenCount_4 rfl rfl ?_
  refine S_geti g dX8_seenCount_5 fl_Plan_28 hp.1 (Or.inl rfl) ?_
  refine S_iadd g dX8_seenCount_8 ?_
  exact S_ireturn g dX8_seenCount_9 rfl

def XX8_isWire (p : Nat) (x0 : Int) (h : Hp) : OR :=
  if x0 < 0 then zb 0 (some (0, h)) else cal (XX8_wires p h) (fun r1 h2 => if r1 ≤ x0 then zb 0 (some (0, h2)) else zb 1 (some (1, h2)))
theorem sX8_isWire {G : GG} {w : Wd} (hw : okX w) (p : Nat) (hp : isPl w p) (x0 : Int) (h : Hp) : SC G w yX8_isWire (Cond.code yX8_isWire cX8_isWire 2 (Option.some Jvm.ClassFile.FieldType.boolean)) 2 0 [vP p, vI x0] (XX8_isWire p x0 h) h := by
  refine SC_of (own := "GatePatch$Plan") plain_Plan rfl (Nat.le_of_ble_eq_true rfl) (fun Γ hG g => ?_)
  subst hG
  show Sim Γ w 0 _ h 0 [(0, vP p), (1, vI x0)] []
  unfold XX8_isWire
  refine S_iload_n (kk := 1) g dX8_isWire_0 rfl rfl ?_
  refine S_if_lt (tgt := 16) g dX8_isWire_1 (by decide) ?_ ?_
  · refine S_iconst g dX8_isWire_16 ⟨by decide, by decide⟩ ?_
    exact S_zreturn g dX8_isWire_17 rfl
  · refine S_iload_n (kk := 1) g dX8_isWire_4 rfl rfl ?_
    refine S_aload_n (kk := 0) g dX8_isWire_5 rfl rfl ?_
    refine S_callVi (As := []) g dX8_isWire_6 (sX8_wires hw p hp _) rfl hp.1 rfl im_X8_wires se_X8_wires cw_X8_wires ml_Plan_43 ini_Plan nd_X8_wires ⟨by decide, by decide⟩ (Nat.le_of_ble_eq_true rfl) (fun r1 h2 => ?_)
    refine S_icmp_ge (tgt := 16) g dX8_isWire_9 (by decide) ?_ ?_
    · refine S_iconst g dX8_isWire_16 ⟨by decide, by decide⟩ ?_
      exact S_zreturn g dX8_isWire_17 rfl
    · refine S_iconst g dX8_isWire_12 ⟨by decide, by decide⟩ ?_
      refine S_goto (tgt := 17) g dX8_isWire_13 (by decide) ?_
      exact S_zreturn g dX8_isWire_17 rfl

def XX8_isGate (p : Nat) (x0 : Int) (h : Hp) : OR :=
  cal (XX8_sources p h) (fun r1 h2 => if x0 < r1 then zb 0 (some (0, h2)) else cal (XX8_wires p h2) (fun r3 h4 => if r3 ≤ x0 then zb 0 (some (0, h4)) else zb 1 (some (1, h4))))
theorem sX8_isGate {G : GG} {w : Wd} (hw : okX w) (p : Nat) (hp : isPl w p) (x0 : Int) (h : Hp) : SC G w yX8_isGate (Cond.code yX8_isGate cX8_isGate 2 (Option.some Jvm.ClassFile.FieldType.boolean)) 2 0 [vP p, vI x0] (XX8_isGate p x0 h) h := by
  refine SC_of (own := "GatePatch$Plan") plain_Plan rfl (Nat.le_of_ble_eq_true rfl) (fun Γ hG g => ?_)
  subst hG
  show Sim Γ w 0 _ h 0 [(0, vP p), (1, vI x0)] []
  unfold XX8_isGate
  refine S_iload_n (kk := 1) g dX8_isGate_0 rfl rfl ?_
  refine S_aload_n (kk := 0) g dX8_isGate_1 rfl rfl ?_
  refine S_callVi (As := []) g dX8_isGate_2 (sX8_sources hw p hp _) rfl hp.1 rfl im_X8_sources se_X8_sources cw_X8_sources ml_Plan_47 ini_Plan nd_X8_sources ⟨by decide, by decide⟩ (Nat.le_of_ble_eq_true rfl) (fun r1 h2 => ?_)
  refine S_icmp_lt (tgt := 20) g dX8_isGate_5 (by decide) ?_ ?_
  · refine S_iconst g dX8_isGate_20 ⟨by decide, by decide⟩ ?_
    exact S_zreturn g dX8_isGate_21 rfl
  · refine S_iload_n (kk := 1) g dX8_isGate_8 rfl rfl ?_
    refine S_aload_n (kk := 0) g dX8_isGate_9 rfl rfl ?_
    refine S_callVi (As := []) g dX8_isGate_10 (sX8_wires hw p hp _) rfl hp.1 rfl im_X8_wires se_X8_wires cw_X8_wires ml_Plan_43 ini_Plan nd_X8_wires ⟨by decide, by decide⟩ (Nat.le_of_ble_eq_true rfl) (fun r3 h4 => ?_)
    refine S_icmp_ge (tgt := 20) g dX8_isGate_13 (by decide) ?_ ?_
    · refine S_iconst g dX8_isGate_20 ⟨by decide, by decide⟩ ?_
      exact S_zreturn g dX8_isGate_21 rfl
    · refine S_iconst g dX8_isGate_16 ⟨by decide, by decide⟩ ?_
      refine S_goto (tgt := 21) g dX8_isGate_17 (by decide) ?_
      exact S_zreturn g dX8_isGate_21 rfl

def XX8_hasPin (p : Nat) (x0 : Int) (x1 : Int) (h : Hp) : OR :=
  if x1 < 0 then zb 0 (some (0, h)) else inb x0 48 (inb (h (p + 1) x0.toNat) 9 (if (pinC (h (p + 1) x0.toNat).toNat) ≤ x1 then zb 0 (some (0, h)) else zb 1 (some (1, h))))
theorem sX8_hasPin {G : GG} {w : Wd} (hw : okX w) (p : Nat) (hp : isPl w p) (x0 : Int) (x1 : Int) (h : Hp) : SC G w yX8_hasPin (Cond.code yX8_hasPin cX8_hasPin 3 (Option.some Jvm.ClassFile.FieldType.boolean)) 1 0 [vP p, vI x0, vI x1] (XX8_hasPin p x0 x1 h) h := by
  refine SC_of (own := "GatePatch$Plan") plain_Plan rfl (Nat.le_of_ble_eq_true rfl) (fun Γ hG g => ?_)
  subst hG
  show Sim Γ w 0 _ h 0 [(0, vP p), (1, vI x0), (2, vI x1)] []
  unfold XX8_hasPin
  refine S_iload_n (kk := 2) g dX8_hasPin_0 rfl rfl ?_
  refine S_if_lt (tgt := 22) g dX8_hasPin_1 (by decide) ?_ ?_
  · refine S_iconst g dX8_hasPin_22 ⟨by decide, by decide⟩ ?_
    exact S_zreturn g dX8_hasPin_23 rfl
  · refine S_iload_n (kk := 2) g dX8_hasPin_4 rfl rfl ?_
    refine S_gets1N g dX8_hasPin_5 gs_Plan_50 ?_
    refine S_aload_n (kk := 0) g dX8_hasPin_8 rfl rfl ?_
    refine S_getr g dX8_hasPin_9 fl_Plan_9 hp.1 rfl hp.2.1 ?_
    refine S_iload_n (kk := 1) g dX8_hasPin_12 rfl rfl ?_
    refine S_iaload g dX8_hasPin_13 hp.2.2.2.2.2.1 ?_
    refine S_baloadS1 g dX8_hasPin_14 ?_
    refine S_icmp_ge (tgt := 22) g dX8_hasPin_15 (by decide) ?_ ?_
    · refine S_iconst g dX8_hasPin_22 ⟨by decide, by decide⟩ ?_
      exact S_zreturn g dX8_hasPin_23 rfl
    · refine S_iconst g dX8_hasPin_18 ⟨by decide, by decide⟩ ?_
      refine S_goto (tgt := 23) g dX8_hasPin_19 (by decide) ?_
      exact S_zreturn g dX8_hasPin_23 rfl

def XX8_addGate (p : Nat) (x0 : Int) (x1 : Int) (x2 : Int) (x3 : Int) (x4 : Int) (h : Hp) : OR :=
  cal (XX8_wires p h) (fun r1 h2 => inb r1 48 (hm (wr h2 (p + 1) r1.toNat x0) (fun h3 => chk (3 * r1) (inb (3 * r1) 144 (hm (wr h3 (p + 2) (3 * r1).toNat x1) (fun h4 => chk (3 * r1) (chk ((3 * r1) + 1) (inb ((3 * r1) + 1) 144 (hm (wr h4 (p + 2) ((3 * r1) + 1).toNat x2) (fun h5 => chk (3 * r1) (chk ((3 * r1) + 2) (inb ((3 * r1) + 2) 144 (hm (wr h5 (p + 2) ((3 * r1) + 2).toNat x3) (fun h6 => inb r1 48 (hm (wr h6 (p + 4) r1.toNat x4) (fun h7 => chk ((h7 p 3) + 1) (hm (wr h7 p 3 ((h7 p 3) + 1)) (fun h8 => some (r1, h8)))))))))))))))))))
theorem sX8_addGate {G : GG} {w : Wd} (hw : okX w) (p : Nat) (hp : isPl w p) (x0 : Int) (x1 : Int) (x2 : Int) (x3 : Int) (x4 : Int) (h : Hp) : SC G w yX8_addGate (Cond.code yX8_addGate cX8_addGate 7 (Option.some Jvm.ClassFile.FieldType.int)) 2 0 [vP p, vI x0, vI x1, vI x2, vI x3, vI x4] (XX8_addGate p x0 x1 x2 x3 x4 h) h := by
  refine SC_of (own := "GatePatch$Plan") plain_Plan rfl (Nat.le_of_ble_eq_true rfl) (fun Γ hG g => ?_)
  subst hG
  show Sim Γ w 0 _ h 0 [(0, vP p), (1, vI x0), (2, vI x1), (3, vI x2), (4, vI x3), (5, vI x4)] []
  unfold XX8_addGate
  refine S_aload_n (kk := 0) g dX8_addGate_0 rfl rfl ?_
  refine S_callVi (As := []) g dX8_addGate_1 (sX8_wires hw p hp _) rfl hp.1 rfl im_X8_wires se_X8_wires cw_X8_wires ml_Plan_43 ini_Plan nd_X8_wires ⟨by decide, by decide⟩ (Nat.le_of_ble_eq_true rfl) (fun r1 h2 => ?_)
  refine S_istore g dX8_addGate_4 (by decide) rfl ?_
  refine S_aload_n (kk := 1) g dX8_addGate_6 rfl rfl ?_
  refine S_getr g dX8_addGate_7 fl_Plan_9 hp.1 rfl hp.2.1 ?_
  refine S_iload (kk := 0) g dX8_addGate_10 rfl ?_
  refine S_iload_n (kk := 2) g dX8_addGate_12 rfl rfl ?_
  refine S_iastore g dX8_addGate_13 hp.2.2.2.2.2.1 (fun h3 => ?_)
  refine S_aload_n (kk := 1) g dX8_addGate_14 rfl rfl ?_
  refine S_getr g dX8_addGate_15 fl_Plan_15 hp.1 rfl hp.2.2.1 ?_
  refine S_iconst g dX8_addGate_18 ⟨by decide, by decide⟩ ?_
  refine S_iload (kk := 0) g dX8_addGate_19 rfl ?_
  refine S_imul g dX8_addGate_21 ?_
  refine S_iload_n (kk := 3) g dX8_addGate_22 rfl rfl ?_
  refine S_iastore g dX8_addGate_23 hp.2.2.2.2.2.2.1 (fun h4 => ?_)
  refine S_aload_n (kk := 1) g dX8_addGate_24 rfl rfl ?_
  refine S_getr g dX8_addGate_25 fl_Plan_15 hp.1 rfl hp.2.2.1 ?_
  refine S_iconst g dX8_addGate_28 ⟨by decide, by decide⟩ ?_
  refine S_iload (kk := 0) g dX8_addGate_29 rfl ?_
  refine S_imul g dX8_addGate_31 ?_
  refine S_iconst g dX8_addGate_32 ⟨by decide, by decide⟩ ?_
  refine S_iadd g dX8_addGate_33 ?_
  refine S_iload_n (kk := 4) g dX8_addGate_34 rfl rfl ?_
  refine S_iastore g dX8_addGate_35 hp.2.2.2.2.2.2.1 (fun h5 => ?_)
  refine S_aload_n (kk := 1) g dX8_addGate_36 rfl rfl ?_
  refine S_getr g dX8_addGate_37 fl_Plan_15 hp.1 rfl hp.2.2.1 ?_
  refine S_iconst g dX8_addGate_40 ⟨by decide, by decide⟩ ?_
  refine S_iload (kk := 0) g dX8_addGate_41 rfl ?_
  refine S_imul g dX8_addGate_43 ?_
  refine S_iconst g dX8_addGate_44 ⟨by decide, by decide⟩ ?_
  refine S_iadd g dX8_addGate_45 ?_
  refine S_iload (kk := 5) g dX8_addGate_46 rfl ?_
  refine S_iastore g dX8_addGate_48 hp.2.2.2.2.2.2.1 (fun h6 => ?_)
  refine S_aload_n (kk := 1) g dX8_addGate_49 rfl rfl ?_
  refine S_getr g dX8_addGate_50 fl_Plan_21 hp.1 rfl hp.2.2.2.2.1 ?_
  refine S_iload (kk := 0) g dX8_addGate_53 rfl ?_
  refine S_iload (kk := 6) g dX8_addGate_55 rfl ?_
  refine S_iastore g dX8_addGate_57 hp.2.2.2.2.2.2.2.2 (fun h7 => ?_)
  refine S_aload_n (kk := 1) g dX8_addGate_58 rfl rfl ?_
  refine S_dup g dX8_addGate_59 rfl ?_
  refine S_geti g dX8_addGate_60 fl_Plan_34 hp.1 (Or.inl rfl) ?_
  refine S_iconst g dX8_addGate_63 ⟨by decide, by decide⟩ ?_
  refine S_iadd g dX8_addGate_64 ?_
  refine S_puti g dX8_addGate_65 fp_Plan_34 hp.1 rfl (fun h8 => ?_)
  refine S_iload (kk := 0) g dX8_addGate_68 rfl ?_
  exact S_ireturn g dX8_addGate_70 rfl

def XX8_sameShape (p : Nat) (x0 : Nat) (h : Hp) : OR :=
  if (h p 0) = (h x0 0) then if (h p 1) = (h x0 1) then if (h p 2) = (h x0 2) then zb 1 (some (1, h)) else zb 0 (some (0, h)) else zb 0 (some (0, h)) else zb 0 (some (0, h))
theorem sX8_sameShape {G : GG} {w : Wd} (hw : okX w) (p : Nat) (hp : isPl w p) (x0 : Nat) (hx0 : isPl w x0) (h : Hp) : SC G w yX8_sameShape (Cond.code yX8_sameShape cX8_sameShape 2 (Option.some Jvm.ClassFile.FieldType.boolean)) 1 0 [vP p, vP x0] (XX8_sameShape p x0 h) h := by
  refine SC_of (own := "GatePatch$Plan") plain_Plan rfl (Nat.le_of_ble_eq_true rfl) (fun Γ hG g => ?_)
  subst hG
  show Sim Γ w 0 _ h 0 [(0, vP p), (1, vP x0)] []
  unfold XX8_sameShape
  refine S_aload_n (kk := 0) g dX8_sameShape_0 rfl rfl ?_
  refine S_geti g dX8_sameShape_1 fl_Plan_24 hp.1 (Or.inl rfl) ?_
  refine S_aload_n (kk := 1) g dX8_sameShape_4 rfl rfl ?_
  refine S_geti g dX8_sameShape_5 fl_Plan_24 hx0.1 (Or.inl rfl) ?_
  refine S_icmp_ne (tgt := 37) g dX8_sameShape_8 (by decide) ?_ ?_
  · refine S_iconst g dX8_sameShape_37 ⟨by decide, by decide⟩ ?_
    exact S_zreturn g dX8_sameShape_38 rfl
  · refine S_aload_n (kk := 0) g dX8_sameShape_11 rfl rfl ?_
    refine S_geti g dX8_sameShape_12 fl_Plan_28 hp.1 (Or.inl rfl) ?_
    refine S_aload_n (kk := 1) g dX8_sameShape_15 rfl rfl ?_
    refine S_geti g dX8_sameShape_16 fl_Plan_28 hx0.1 (Or.inl rfl) ?_
    refine S_icmp_ne (tgt := 37) g dX8_sameShape_19 (by decide) ?_ ?_
    · refine S_iconst g dX8_sameShape_37 ⟨by decide, by decide⟩ ?_
      exact S_zreturn g dX8_sameShape_38 rfl
    · refine S_aload_n (kk := 0) g dX8_sameShape_22 rfl rfl ?_
      refine S_geti g dX8_sameShape_23 fl_Plan_31 hp.1 (Or.inl rfl) ?_
      refine S_aload_n (kk := 1) g dX8_sameShape_26 rfl rfl ?_
      refine S_geti g dX8_sameShape_27 fl_Plan_31 hx0.1 (Or.inl rfl) ?_
      refine S_icmp_ne (tgt := 37) g dX8_sameShape_30 (by decide) ?_ ?_
      · refine S_iconst g dX8_sameShape_37 ⟨by decide, by decide⟩ ?_
        exact S_zreturn g dX8_sameShape_38 rfl
      · refine S_iconst g dX8_sameShape_33 ⟨by decide, by decide⟩ ?_
        refine S_goto (tgt := 38) g dX8_sameShape_34 (by decide) ?_
        exact S_zreturn g dX8_sameShape_38 rfl

def XX8_take (p : Nat) (x0 : Nat) (h : Hp) : OR :=
  hm (wr h p 0 (h x0 0)) (fun h1 => hm (wr h1 p 1 (h1 x0 1)) (fun h2 => hm (wr h2 p 2 (h2 x0 2)) (fun h3 => hm (wr h3 p 3 (h3 x0 3)) (fun h4 => acp 0 0 48 48 48 (hm (cpy h4 (x0 + 1) (0 : Int).toNat (p + 1) (0 : Int).toNat (48 : Int).toNat) (fun h5 => acp 0 0 144 144 144 (hm (cpy h5 (x0 + 2) (0 : Int).toNat (p + 2) (0 : Int).toNat (144 : Int).toNat) (fun h6 => acp 0 0 6 6 6 (hm (cpy h6 (x0 + 3) (0 : Int).toNat (p + 3) (0 : Int).toNat (6 : Int).toNat) (fun h7 => acp 0 0 48 48 48 (hm (cpy h7 (x0 + 4) (0 : Int).toNat (p + 4) (0 : Int).toNat (48 : Int).toNat) (fun h8 => some (0, h8)))))))))))))
theorem sX8_take {G : GG} {w : Wd} (hw : okX w) (p : Nat) (hp : isPl w p) (x0 : Nat) (hx0 : isPl w x0) (h : Hp) : SC G w yX8_take (Cond.code yX8_take cX8_take 2 (Option.none : Option Jvm.ClassFile.FieldType)) 1 3 [vP p, vP x0] (XX8_take p x0 h) h := by
  refine SC_of (own := "GatePatch$Plan") plain_Plan rfl (Nat.le_of_ble_eq_true rfl) (fun Γ hG g => ?_)
  subst hG
  show Sim Γ w 3 _ h 0 [(0, vP p), (1, vP x0)] []
  unfold XX8_take
  refine S_aload_n (kk := 0) g dX8_take_0 rfl rfl ?_
  refine S_aload_n (kk := 1) g dX8_take_1 rfl rfl ?_
  refine S_geti g dX8_take_2 fl_Plan_24 hx0.1 (Or.inl rfl) ?_
  refine S_puti g dX8_take_5 fp_Plan_24 hp.1 rfl (fun h1 => ?_)
  refine S_aload_n (kk := 0) g dX8_take_8 rfl rfl ?_
  refine S_aload_n (kk := 1) g dX8_take_9 rfl rfl ?_
  refine S_geti g dX8_take_10 fl_Plan_28 hx0.1 (Or.inl rfl) ?_
  refine S_puti g dX8_take_13 fp_Plan_28 hp.1 rfl (fun h2 => ?_)
  refine S_aload_n (kk := 0) g dX8_take_16 rfl rfl ?_
  refine S_aload_n (kk := 1) g dX8_take_17 rfl rfl ?_
  refine S_geti g dX8_take_18 fl_Plan_31 hx0.1 (Or.inl rfl) ?_
  refine S_puti g dX8_take_21 fp_Plan_31 hp.1 rfl (fun h3 => ?_)
  refine S_aload_n (kk := 0) g dX8_take_24 rfl rfl ?_
  refine S_aload_n (kk := 1) g dX8_take_25 rfl rfl ?_
  refine S_geti g dX8_take_26 fl_Plan_34 hx0.1 (Or.inl rfl) ?_
  refine S_puti g dX8_take_29 fp_Plan_34 hp.1 rfl (fun h4 => ?_)
  refine S_aload_n (kk := 1) g dX8_take_32 rfl rfl ?_
  refine S_getr g dX8_take_33 fl_Plan_9 hx0.1 rfl hx0.2.1 ?_
  refine S_iconst g dX8_take_36 ⟨by decide, by decide⟩ ?_
  refine S_aload_n (kk := 0) g dX8_take_37 rfl rfl ?_
  refine S_getr g dX8_take_38 fl_Plan_9 hp.1 rfl hp.2.1 ?_
  refine S_iconst g dX8_take_41 ⟨by decide, by decide⟩ ?_
  refine S_aload_n (kk := 0) g dX8_take_42 rfl rfl ?_
  refine S_getr g dX8_take_43 fl_Plan_9 hp.1 rfl hp.2.1 ?_
  refine S_alen g dX8_take_46 hp.2.2.2.2.2.1 (by decide) ⟨by decide, by decide⟩ ?_
  refine S_copyi g dX8_take_47 ml_Plan_54 acp_nat acp_st ini_Sys hx0.2.2.2.2.2.1 hp.2.2.2.2.2.1 (by decide) (by decide) (fun h5 => ?_)
  refine S_aload_n (kk := 1) g dX8_take_50 rfl rfl ?_
  refine S_getr g dX8_take_51 fl_Plan_15 hx0.1 rfl hx0.2.2.1 ?_
  refine S_iconst g dX8_take_54 ⟨by decide, by decide⟩ ?_
  refine S_aload_n (kk := 0) g dX8_take_55 rfl rfl ?_
  refine S_getr g dX8_take_56 fl_Plan_15 hp.1 rfl hp.2.2.1 ?_
  refine S_iconst g dX8_take_59 ⟨by decide, by decide⟩ ?_
  refine S_aload_n (kk := 0) g dX8_take_60 rfl rfl ?_
  refine S_getr g dX8_take_61 fl_Plan_15 hp.1 rfl hp.2.2.1 ?_
  refine S_alen g dX8_take_64 hp.2.2.2.2.2.2.1 (by decide) ⟨by decide, by decide⟩ ?_
  refine S_copyi g dX8_take_65 ml_Plan_54 acp_nat acp_st ini_Sys hx0.2.2.2.2.2.2.1 hp.2.2.2.2.2.2.1 (by decide) (by decide) (fun h6 => ?_)
  refine S_aload_n (kk := 1) g dX8_take_68 rfl rfl ?_
  refine S_getr g dX8_take_69 fl_Plan_18 hx0.1 rfl hx0.2.2.2.1 ?_
  refine S_iconst g dX8_take_72 ⟨by decide, by decide⟩ ?_
  refine S_aload_n (kk := 0) g dX8_take_73 rfl rfl ?_
  refine S_getr g dX8_take_74 fl_Plan_18 hp.1 rfl hp.2.2.2.1 ?_
  refine S_iconst g dX8_take_77 ⟨by decide, by decide⟩ ?_
  refine S_aload_n (kk := 0) g dX8_take_78 rfl rfl ?_
  refine S_getr g dX8_take_79 fl_Plan_18 hp.1 rfl hp.2.2.2.1 ?_
  refine S_alen g dX8_take_82 hp.2.2.2.2.2.2.2.1 (by decide) ⟨by decide, by decide⟩ ?_
  refine S_copyi g dX8_take_83 ml_Plan_54 acp_nat acp_st ini_Sys hx0.2.2.2.2.2.2.2.1 hp.2.2.2.2.2.2.2.1 (by decide) (by decide) (fun h7 => ?_)
  refine S_aload_n (kk := 1) g dX8_take_86 rfl rfl ?_
  refine S_getr g dX8_take_87 fl_Plan_21 hx0.1 rfl hx0.2.2.2.2.1 ?_
  refine S_iconst g dX8_take_90 ⟨by decide, by decide⟩ ?_
  refine S_aload_n (kk := 0) g dX8_take_91 rfl rfl ?_
  refine S_getr g dX8_take_92 fl_Plan_21 hp.1 rfl hp.2.2.2.2.1 ?_
  refine S_iconst g dX8_take_95 ⟨by decide, by decide⟩ ?_
  refine S_aload_n (kk := 0) g dX8_take_96 rfl rfl ?_
  refine S_getr g dX8_take_97 fl_Plan_21 hp.1 rfl hp.2.2.2.2.1 ?_
  refine S_alen g dX8_take_100 hp.2.2.2.2.2.2.2.2 (by decide) ⟨by decide, by decide⟩ ?_
  refine S_copyi g dX8_take_101 ml_Plan_54 acp_nat acp_st ini_Sys hx0.2.2.2.2.2.2.2.2 hp.2.2.2.2.2.2.2.2 (by decide) (by decide) (fun h8 => ?_)
  exact S_return g dX8_take_104 rfl

def XX10_hold (p : Nat) (x0 : Int) (x1 : Int) (h : Hp) : OR :=
  hm (wr h p 0 x0) (fun h1 => hm (wr h1 p 1 x1) (fun h2 => cal (XJ7_fill_d0a16 (p + 1) 256 0 h2) (fun r3 h4 => some (0, h4))))
theorem sX10_hold {G : GG} {w : Wd} (hw : okX w) (p : Nat) (hp : isTp w p) (x0 : Int) (x1 : Int) (h : Hp) : SC G w yX10_hold (Cond.code yX10_hold cX10_hold 3 (Option.none : Option Jvm.ClassFile.FieldType)) 2 3 [vP p, vI x0, vI x1] (XX10_hold p x0 x1 h) h := by
  refine SC_of (own := "GatePatch$Tape") plain_Tape rfl (Nat.le_of_ble_eq_true rfl) (fun Γ hG g => ?_)
  subst hG
  show Sim Γ w 3 _ h 0 [(0, vP p), (1, vI x0), (2, vI x1)] []
  unfold XX10_hold
  refine S_aload_n (kk := 0) g dX10_hold_0 rfl rfl ?_
  refine S_iload_n (kk := 1) g dX10_hold_1 rfl rfl ?_
  refine S_puti g dX10_hold_2 fp_Tape_22 hp.1 rfl (fun h1 => ?_)
  refine S_aload_n (kk := 0) g dX10_hold_5 rfl rfl ?_
  refine S_iload_n (kk := 2) g dX10_hold_6 rfl rfl ?_
  refine S_puti g dX10_hold_7 fp_Tape_26 hp.1 rfl (fun h2 => ?_)
  refine S_aload_n (kk := 0) g dX10_hold_10 rfl rfl ?_
  refine S_getr g dX10_hold_11 fl_Tape_9 hp.1 rfl hp.2.1 ?_
  refine S_lconst (x := 0) g dX10_hold_14 ⟨by decide, by decide⟩ rfl ?_
  refine S_callSv (As := [vP (p + 1), vJ 0]) g dX10_hold_15 (sJ7_fill_d0a16 (p + 1) 256 hp.2.2.2.1 ⟨by decide, by decide⟩ _ _) rfl st_J7_fill_d0a16 cw_J7_fill_d0a16 ml_Tape_29 ini_Arr nd_J7_fill_d0a16 ⟨by decide, by decide⟩ (Nat.le_of_ble_eq_true rfl) (fun r3 h4 => ?_)
  exact S_return g dX10_hold_18 rfl

def XX10_isRow (p : Nat) (h : Hp) : OR :=
  if (h p 0) < 1 then zb 0 (some (0, h)) else if 4 < (h p 0) then zb 0 (some (0, h)) else zb 1 (some (1, h))
theorem sX10_isRow {G : GG} {w : Wd} (hw : okX w) (p : Nat) (hp : isTp w p) (h : Hp) : SC G w yX10_isRow (Cond.code yX10_isRow cX10_isRow 1 (Option.some Jvm.ClassFile.FieldType.boolean)) 1 0 [vP p] (XX10_isRow p h) h := by
  refine SC_of (own := "GatePatch$Tape") plain_Tape rfl (Nat.le_of_ble_eq_true rfl) (fun Γ hG g => ?_)
  subst hG
  show Sim Γ w 0 _ h 0 [(0, vP p)] []
  unfold XX10_isRow
  refine S_aload_n (kk := 0) g dX10_isRow_0 rfl rfl ?_
  refine S_geti g dX10_isRow_1 fl_Tape_22 hp.1 (Or.inl rfl) ?_
  refine S_iconst g dX10_isRow_4 ⟨by decide, by decide⟩ ?_
  refine S_icmp_lt (tgt := 20) g dX10_isRow_5 (by decide) ?_ ?_
  · refine S_iconst g dX10_isRow_20 ⟨by decide, by decide⟩ ?_
    exact S_zreturn g dX10_isRow_21 rfl
  · refine S_aload_n (kk := 0) g dX10_isRow_8 rfl rfl ?_
    refine S_geti g dX10_isRow_9 fl_Tape_22 hp.1 (Or.inl rfl) ?_
    refine S_iconst g dX10_isRow_12 ⟨by decide, by decide⟩ ?_
    refine S_icmp_gt (tgt := 20) g dX10_isRow_13 (by decide) ?_ ?_
    · refine S_iconst g dX10_isRow_20 ⟨by decide, by decide⟩ ?_
      exact S_zreturn g dX10_isRow_21 rfl
    · refine S_iconst g dX10_isRow_16 ⟨by decide, by decide⟩ ?_
      refine S_goto (tgt := 21) g dX10_isRow_17 (by decide) ?_
      exact S_zreturn g dX10_isRow_21 rfl

def XX10_hasElement (p : Nat) (x0 : Int) (h : Hp) : OR :=
  if x0 < 0 then zb 0 (some (0, h)) else if (h p 1) ≤ x0 then zb 0 (some (0, h)) else zb 1 (some (1, h))
theorem sX10_hasElement {G : GG} {w : Wd} (hw : okX w) (p : Nat) (hp : isTp w p) (x0 : Int) (h : Hp) : SC G w yX10_hasElement (Cond.code yX10_hasElement cX10_hasElement 2 (Option.some Jvm.ClassFile.FieldType.boolean)) 1 0 [vP p, vI x0] (XX10_hasElement p x0 h) h := by
  refine SC_of (own := "GatePatch$Tape") plain_Tape rfl (Nat.le_of_ble_eq_true rfl) (fun Γ hG g => ?_)
  subst hG
  show Sim Γ w 0 _ h 0 [(0, vP p), (1, vI x0)] []
  unfold XX10_hasElement
  refine S_iload_n (kk := 1) g dX10_hasElement_0 rfl rfl ?_
  refine S_if_lt (tgt := 16) g dX10_hasElement_1 (by decide) ?_ ?_
  · refine S_iconst g dX10_hasElement_16 ⟨by decide, by decide⟩ ?_
    exact S_zreturn g dX10_hasElement_17 rfl
  · refine S_iload_n (kk := 1) g dX10_hasElement_4 rfl rfl ?_
    refine S_aload_n (kk := 0) g dX10_hasElement_5 rfl rfl ?_
    refine S_geti g dX10_hasElement_6 fl_Tape_26 hp.1 (Or.inl rfl) ?_
    refine S_icmp_ge (tgt := 16) g dX10_hasElement_9 (by decide) ?_ ?_
    · refine S_iconst g dX10_hasElement_16 ⟨by decide, by decide⟩ ?_
      exact S_zreturn g dX10_hasElement_17 rfl
    · refine S_iconst g dX10_hasElement_12 ⟨by decide, by decide⟩ ?_
      refine S_goto (tgt := 17) g dX10_hasElement_13 (by decide) ?_
      exact S_zreturn g dX10_hasElement_17 rfl

def XX10_hasElements (p : Nat) (x0 : Int) (x1 : Int) (h : Hp) : OR :=
  if x0 < 0 then zb 0 (some (0, h)) else if x1 < 0 then zb 0 (some (0, h)) else chk ((h p 1) - x0) (if ((h p 1) - x0) < x1 then zb 0 (some (0, h)) else zb 1 (some (1, h)))
theorem sX10_hasElements {G : GG} {w : Wd} (hw : okX w) (p : Nat) (hp : isTp w p) (x0 : Int) (x1 : Int) (h : Hp) : SC G w yX10_hasElements (Cond.code yX10_hasElements cX10_hasElements 3 (Option.some Jvm.ClassFile.FieldType.boolean)) 1 0 [vP p, vI x0, vI x1] (XX10_hasElements p x0 x1 h) h := by
  refine SC_of (own := "GatePatch$Tape") plain_Tape rfl (Nat.le_of_ble_eq_true rfl) (fun Γ hG g => ?_)
  subst hG
  show Sim Γ w 0 _ h 0 [(0, vP p), (1, vI x0), (2, vI x1)] []
  unfold XX10_hasElements
  refine S_iload_n (kk := 1) g dX10_hasElements_0 rfl rfl ?_
  refine S_if_lt (tgt := 22) g dX10_hasElements_1 (by decide) ?_ ?_
  · refine S_iconst g dX10_hasElements_22 ⟨by decide, by decide⟩ ?_
    exact S_zreturn g dX10_hasElements_23 rfl
  · refine S_iload_n (kk := 2) g dX10_hasElements_4 rfl rfl ?_
    refine S_if_lt (tgt := 22) g dX10_hasElements_5 (by decide) ?_ ?_
    · refine S_iconst g dX10_hasElements_22 ⟨by decide, by decide⟩ ?_
      exact S_zreturn g dX10_hasElements_23 rfl
    · refine S_iload_n (kk := 2) g dX10_hasElements_8 rfl rfl ?_
      refine S_aload_n (kk := 0) g dX10_hasElements_9 rfl rfl ?_
      refine S_geti g dX10_hasElements_10 fl_Tape_26 hp.1 (Or.inl rfl) ?_
      refine S_iload_n (kk := 1) g dX10_hasElements_13 rfl rfl ?_
      refine S_isub g dX10_hasElements_14 ?_
      refine S_icmp_gt (tgt := 22) g dX10_hasElements_15 (by decide) ?_ ?_
      · refine S_iconst g dX10_hasElements_22 ⟨by decide, by decide⟩ ?_
        exact S_zreturn g dX10_hasElements_23 rfl
      · refine S_iconst g dX10_hasElements_18 ⟨by decide, by decide⟩ ?_
        refine S_goto (tgt := 23) g dX10_hasElements_19 (by decide) ?_
        exact S_zreturn g dX10_hasElements_23 rfl

def XX10_narrowed (p : Nat) (x0 : Int) (h : Hp) : OR :=
  nm (h p 0) (fun v1 => if v1 = 1 then some ((ai2b (al2i x0)), h) else if v1 = 2 then some ((ai2s (al2i x0)), h) else if v1 = 3 then some ((al2i x0), h) else some (x0, h))
theorem sX10_narrowed {G : GG} {w : Wd} (hw : okX w) (p : Nat) (hp : isTp w p) (x0 : Int) (h : Hp) : SC G w yX10_narrowed (Cond.code yX10_narrowed cX10_narrowed 3 (Option.some Jvm.ClassFile.FieldType.long)) 1 1 [vP p, vJ x0] (XX10_narrowed p x0 h) h := by
  refine SC_of (own := "GatePatch$Tape") plain_Tape rfl (Nat.le_of_ble_eq_true rfl) (fun Γ hG g => ?_)
  subst hG
  show Sim Γ w 1 _ h 0 [(0, vP p), (1, vJ x0)] []
  unfold XX10_narrowed
  refine S_aload_n (kk := 0) g dX10_narrowed_0 rfl rfl ?_
  refine S_geti g dX10_narrowed_1 fl_Tape_22 hp.1 (Or.inl rfl) ?_
  refine S_nmI (fun v1 => ?_)
  refine S_ite (fun c2 => ?_) (fun c2 => ?_)
  · refine S_tabIn (tgt := 32) g dX10_narrowed_4 1 c2 (by decide) (by decide) rfl (by decide) ?_
    refine S_lload_n (kk := 1) g dX10_narrowed_32 rfl rfl ?_
    refine S_l2i g dX10_narrowed_33 ?_
    refine S_i2b g dX10_narrowed_34 ?_
    refine S_i2l g dX10_narrowed_35 ?_
    exact S_lreturn g dX10_narrowed_36 rfl
  · skip
    refine S_ite (fun c3 => ?_) (fun c3 => ?_)
    · refine S_tabIn (tgt := 37) g dX10_narrowed_4 2 c3 (by decide) (by decide) rfl (by decide) ?_
      refine S_lload_n (kk := 1) g dX10_narrowed_37 rfl rfl ?_
      refine S_l2i g dX10_narrowed_38 ?_
      refine S_i2s g dX10_narrowed_39 ?_
      refine S_i2l g dX10_narrowed_40 ?_
      exact S_lreturn g dX10_narrowed_41 rfl
    · skip
      refine S_ite (fun c4 => ?_) (fun c4 => ?_)
      · refine S_tabIn (tgt := 42) g dX10_narrowed_4 3 c4 (by decide) (by decide) rfl (by decide) ?_
        refine S_lload_n (kk := 1) g dX10_narrowed_42 rfl rfl ?_
        refine S_l2i g dX10_narrowed_43 ?_
        refine S_i2l g dX10_narrowed_44 ?_
        exact S_lreturn g dX10_narrowed_45 rfl
      · skip
        refine S_tabOut (tgt := 46) g dX10_narrowed_4 (by omega) (by decide) ?_
        refine S_lload_n (kk := 1) g dX10_narrowed_46 rfl rfl ?_
        exact S_lreturn g dX10_narrowed_47 rfl

