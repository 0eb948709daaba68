abbrev cX1_tell : ByteArray := prog_3_method_2_code
def yX1_tell : MethodName := ⟨"GatePatch$Finder", "tell", "(III)Z"⟩
abbrev cX1_toldHangOn : ByteArray := prog_3_method_3_code
def yX1_toldHangOn : MethodName := ⟨"GatePatch$Finder", "toldHangOn", "(J)Z"⟩
abbrev cX1_learn : ByteArray := prog_3_method_4_code
def yX1_learn : MethodName := ⟨"GatePatch$Finder", "learn", "(LGatePatch$Mender;)V"⟩
abbrev cX1_mendsAll : ByteArray := prog_3_method_6_code
def yX1_mendsAll : MethodName := ⟨"GatePatch$Finder", "mendsAll", "(II)Z"⟩
abbrev cX1_allow : ByteArray := prog_3_method_5_code
def yX1_allow : MethodName := ⟨"GatePatch$Finder", "allow", "()Z"⟩
abbrev cX1_patternOf : ByteArray := prog_3_method_8_code
def yX1_patternOf : MethodName := ⟨"GatePatch$Finder", "patternOf", "(I)I"⟩
abbrev cX1_mendingSet : ByteArray := prog_3_method_9_code
def yX1_mendingSet : MethodName := ⟨"GatePatch$Finder", "mendingSet", "(I)I"⟩
abbrev cX1_findClash : ByteArray := prog_3_method_7_code
def yX1_findClash : MethodName := ⟨"GatePatch$Finder", "findClash", "()V"⟩
abbrev cX1_cheapest : ByteArray := prog_3_method_11_code
def yX1_cheapest : MethodName := ⟨"GatePatch$Finder", "cheapest", "(II)I"⟩
abbrev cX1_choose : ByteArray := prog_3_method_10_code
def yX1_choose : MethodName := ⟨"GatePatch$Finder", "choose", "()V"⟩
theorem fl_Finder_34 : FL "GatePatch$Finder" 34 1 0 := ⟨R_Finder, T_Finder, 14, ty_Finder, ci_Finder, by decide, mem_t 217 (by decide +kernel) rfl⟩
theorem fl_Finder_42 : FL "GatePatch$Finder" 42 5 0 := ⟨R_Net, T_Net, 7, ty_Net, ci_Net, by decide, mem_t 91 (by decide +kernel) rfl⟩
theorem fl_Finder_15 : FL "GatePatch$Finder" 15 1 4 := ⟨R_Finder, T_Finder, 14, ty_Finder, ci_Finder, by decide, mem_t 223 (by decide +kernel) rfl⟩
theorem fp_Finder_54 : FP "GatePatch$Finder" 54 1 5 .int := ⟨R_Finder, T_Finder, 14, ty_Finder, ci_Finder, by decide, mem_t 225 (by decide +kernel) rfl, rfl, rfl⟩
theorem ml_Finder_48 : Cond.methodLink "GatePatch$Finder" 48 yX8_isWire ∈ tblG := mem_t 860 (by decide +kernel) rfl
theorem im_X8_isWire : Cond.instanceMethod yX8_isWire ∈ tblG := mem_t 581 (by decide +kernel) rfl
theorem se_X8_isWire : Cond.selects "GatePatch$Plan" yX8_isWire yX8_isWire ∈ tblG := mem_t 582 (by decide +kernel) rfl
theorem cw_X8_isWire : Cond.code yX8_isWire cX8_isWire 2 (Option.some Jvm.ClassFile.FieldType.boolean) ∈ tblG := mem_t 583 (by decide +kernel) rfl
theorem nd_X8_isWire : yX8_isWire.cls ≠ "java/lang/invoke/MethodHandle" ∧ yX8_isWire.cls ≠ "java/lang/invoke/VarHandle" ∧ (parseMethodDescriptor yX8_isWire.desc).map (fun d => d.parameters.length) = some 1 := by decide +kernel
theorem plain_Finder : plainName "GatePatch$Finder" = true := by decide +kernel
theorem fl_Finder_54 : FL "GatePatch$Finder" 54 1 5 := ⟨R_Finder, T_Finder, 14, ty_Finder, ci_Finder, by decide, mem_t 225 (by decide +kernel) rfl⟩
theorem fl_Finder_58 : FL "GatePatch$Finder" 58 5 3 := ⟨R_Net, T_Net, 7, ty_Net, ci_Net, by decide, mem_t 100 (by decide +kernel) rfl⟩
theorem fl_Finder_61 : FL "GatePatch$Finder" 61 4 4 := ⟨R_Mender, T_Mender, 15, ty_Mender, ci_Mender, by decide, mem_t 168 (by decide +kernel) rfl⟩
theorem ml_Finder_66 : Cond.methodLink "GatePatch$Finder" 66 Lib.Math.min.name ∈ tblG := mem_t 869 (by decide +kernel) rfl
theorem ma_st_min : Cond.static Lib.Math.min.name ∈ tblG := mem_t 870 (by decide +kernel) rfl
theorem ma_cw_min : Cond.code Lib.Math.min.name Lib.Math.min.code 2 (some .int) ∈ tblG := mem_t 871 (by decide +kernel) rfl
theorem fp_Finder_72 : FP "GatePatch$Finder" 72 1 3 .int := ⟨R_Finder, T_Finder, 14, ty_Finder, ci_Finder, by decide, mem_t 222 (by decide +kernel) rfl, rfl, rfl⟩
theorem fl_Finder_72 : FL "GatePatch$Finder" 72 1 3 := ⟨R_Finder, T_Finder, 14, ty_Finder, ci_Finder, by decide, mem_t 222 (by decide +kernel) rfl⟩
theorem fl_Finder_38 : FL "GatePatch$Finder" 38 1 1 := ⟨R_Finder, T_Finder, 14, ty_Finder, ci_Finder, by decide, mem_t 218 (by decide +kernel) rfl⟩
theorem fl_Finder_74 : FL "GatePatch$Finder" 74 0 1 := ⟨R_Cases, T_Cases, 4, ty_Cases, ci_Cases, by decide, mem_t 139 (by decide +kernel) rfl⟩
theorem ml_Finder_79 : Cond.methodLink "GatePatch$Finder" 79 yX5_load ∈ tblG := mem_t 872 (by decide +kernel) rfl
theorem fl_Finder_18 : FL "GatePatch$Finder" 18 1 6 := ⟨R_Finder, T_Finder, 14, ty_Finder, ci_Finder, by decide, mem_t 227 (by decide +kernel) rfl⟩
theorem ml_Finder_83 : Cond.methodLink "GatePatch$Finder" 83 yX5_mended ∈ tblG := mem_t 873 (by decide +kernel) rfl
theorem fl_Finder_9 : FL "GatePatch$Finder" 9 1 2 := ⟨R_Finder, T_Finder, 14, ty_Finder, ci_Finder, by decide, mem_t 219 (by decide +kernel) rfl⟩
theorem fl_Finder_73 : FL "GatePatch$Finder" 73 4 3 := ⟨R_Mender, T_Mender, 15, ty_Mender, ci_Mender, by decide, mem_t 165 (by decide +kernel) rfl⟩
theorem fl_Finder_97 : FL "GatePatch$Finder" 97 0 3 := ⟨R_Cases, T_Cases, 4, ty_Cases, ci_Cases, by decide, mem_t 145 (by decide +kernel) rfl⟩
theorem k_Finder_100 : Cond.constantLong "GatePatch$Finder" 100 (Int64.ofInt (-1)) ∈ tblG := mem_t 883 (by decide +kernel) rfl
theorem fl_Finder_102 : FL "GatePatch$Finder" 102 5 4 := ⟨R_Net, T_Net, 7, ty_Net, ci_Net, by decide, mem_t 106 (by decide +kernel) rfl⟩
theorem fl_Finder_22 : FL "GatePatch$Finder" 22 1 7 := ⟨R_Finder, T_Finder, 14, ty_Finder, ci_Finder, by decide, mem_t 228 (by decide +kernel) rfl⟩
theorem ml_Finder_87 : Cond.methodLink "GatePatch$Finder" 87 yJ7_fill_53178 ∈ tblG := mem_t 878 (by decide +kernel) rfl
theorem ml_Finder_93 : Cond.methodLink "GatePatch$Finder" 93 yX1_mendsAll ∈ tblG := mem_t 879 (by decide +kernel) rfl
theorem im_X1_mendsAll : Cond.instanceMethod yX1_mendsAll ∈ tblG := mem_t 881 (by decide +kernel) rfl
theorem se_X1_mendsAll : Cond.selects "GatePatch$Finder" yX1_mendsAll yX1_mendsAll ∈ tblG := mem_s 21 (by decide +kernel) rfl
theorem cw_X1_mendsAll : Cond.code yX1_mendsAll cX1_mendsAll 9 (Option.some Jvm.ClassFile.FieldType.boolean) ∈ tblG := mem_t 882 (by decide +kernel) rfl
theorem ini_Finder : Cond.initialized "GatePatch$Finder" ∈ tblG := mem_t 6 (by decide +kernel) rfl
theorem nd_X1_mendsAll : yX1_mendsAll.cls ≠ "java/lang/invoke/MethodHandle" ∧ yX1_mendsAll.cls ≠ "java/lang/invoke/VarHandle" ∧ (parseMethodDescriptor yX1_mendsAll.desc).map (fun d => d.parameters.length) = some 2 := by decide +kernel
theorem fl_Finder_25 : FL "GatePatch$Finder" 25 1 8 := ⟨R_Finder, T_Finder, 14, ty_Finder, ci_Finder, by decide, mem_t 229 (by decide +kernel) rfl⟩
theorem fl_Finder_28 : FL "GatePatch$Finder" 28 1 9 := ⟨R_Finder, T_Finder, 14, ty_Finder, ci_Finder, by decide, mem_t 230 (by decide +kernel) rfl⟩
theorem fl_Finder_105 : FL "GatePatch$Finder" 105 0 0 := ⟨R_Cases, T_Cases, 4, ty_Cases, ci_Cases, by decide, mem_t 135 (by decide +kernel) rfl⟩
theorem ml_Finder_106 : Cond.methodLink "GatePatch$Finder" 106 yX0_isLive ∈ tblG := mem_t 888 (by decide +kernel) rfl
theorem ml_Finder_109 : Cond.methodLink "GatePatch$Finder" 109 yX1_patternOf ∈ tblG := mem_t 889 (by decide +kernel) rfl
theorem im_X1_patternOf : Cond.instanceMethod yX1_patternOf ∈ tblG := mem_t 891 (by decide +kernel) rfl
theorem se_X1_patternOf : Cond.selects "GatePatch$Finder" yX1_patternOf yX1_patternOf ∈ tblG := mem_s 22 (by decide +kernel) rfl
theorem cw_X1_patternOf : Cond.code yX1_patternOf cX1_patternOf 6 (Option.some Jvm.ClassFile.FieldType.int) ∈ tblG := mem_t 892 (by decide +kernel) rfl
theorem nd_X1_patternOf : yX1_patternOf.cls ≠ "java/lang/invoke/MethodHandle" ∧ yX1_patternOf.cls ≠ "java/lang/invoke/VarHandle" ∧ (parseMethodDescriptor yX1_patternOf.desc).map (fun d => d.parameters.length) = some 1 := by decide +kernel
theorem ml_Finder_113 : Cond.methodLink "GatePatch$Finder" 113 yX1_mendingSet ∈ tblG := mem_t 893 (by decide +kernel) rfl
theorem im_X1_mendingSet : Cond.instanceMethod yX1_mendingSet ∈ tblG := mem_t 895 (by decide +kernel) rfl
theorem se_X1_mendingSet : Cond.selects "GatePatch$Finder" yX1_mendingSet yX1_mendingSet ∈ tblG := mem_s 23 (by decide +kernel) rfl
theorem cw_X1_mendingSet : Cond.code yX1_mendingSet cX1_mendingSet 4 (Option.some Jvm.ClassFile.FieldType.int) ∈ tblG := mem_t 896 (by decide +kernel) rfl
theorem nd_X1_mendingSet : yX1_mendingSet.cls ≠ "java/lang/invoke/MethodHandle" ∧ yX1_mendingSet.cls ≠ "java/lang/invoke/VarHandle" ∧ (parseMethodDescriptor yX1_mendingSet.desc).map (fun d => d.parameters.length) = some 1 := by decide +kernel
theorem fp_Finder_116 : FP "GatePatch$Finder" 116 1 12 .int := ⟨R_Finder, T_Finder, 14, ty_Finder, ci_Finder, by decide, mem_t 236 (by decide +kernel) rfl, rfl, rfl⟩
theorem fp_Finder_119 : FP "GatePatch$Finder" 119 1 13 .int := ⟨R_Finder, T_Finder, 14, ty_Finder, ci_Finder, by decide, mem_t 238 (by decide +kernel) rfl, rfl, rfl⟩
theorem ml_Finder_122 : Cond.methodLink "GatePatch$Finder" 122 yX2_ones ∈ tblG := mem_t 901 (by decide +kernel) rfl
theorem ml_Finder_130 : Cond.methodLink "GatePatch$Finder" 130 yX2_price ∈ tblG := mem_t 908 (by decide +kernel) rfl
theorem fp_Finder_133 : FP "GatePatch$Finder" 133 1 11 .int := ⟨R_Finder, T_Finder, 14, ty_Finder, ci_Finder, by decide, mem_t 234 (by decide +kernel) rfl, rfl, rfl⟩
theorem fl_Finder_133 : FL "GatePatch$Finder" 133 1 11 := ⟨R_Finder, T_Finder, 14, ty_Finder, ci_Finder, by decide, mem_t 234 (by decide +kernel) rfl⟩
theorem ml_Finder_127 : Cond.methodLink "GatePatch$Finder" 127 yX1_cheapest ∈ tblG := mem_t 904 (by decide +kernel) rfl
theorem im_X1_cheapest : Cond.instanceMethod yX1_cheapest ∈ tblG := mem_t 906 (by decide +kernel) rfl
theorem se_X1_cheapest : Cond.selects "GatePatch$Finder" yX1_cheapest yX1_cheapest ∈ tblG := mem_s 24 (by decide +kernel) rfl
theorem cw_X1_cheapest : Cond.code yX1_cheapest cX1_cheapest 7 (Option.some Jvm.ClassFile.FieldType.int) ∈ tblG := mem_t 907 (by decide +kernel) rfl
theorem nd_X1_cheapest : yX1_cheapest.cls ≠ "java/lang/invoke/MethodHandle" ∧ yX1_cheapest.cls ≠ "java/lang/invoke/VarHandle" ∧ (parseMethodDescriptor yX1_cheapest.desc).map (fun d => d.parameters.length) = some 2 := by decide +kernel
theorem fl_Finder_31 : FL "GatePatch$Finder" 31 1 10 := ⟨R_Finder, T_Finder, 14, ty_Finder, ci_Finder, by decide, mem_t 231 (by decide +kernel) rfl⟩
theorem dX1_tell_0 : decode cX1_tell 0 = .ok (.aload_n 0, 1) := by decide +kernel
theorem dX1_tell_1 : decode cX1_tell 1 = .ok (.getfield 34, 3) := by decide +kernel
theorem dX1_tell_4 : decode cX1_tell 4 = .ok (.getfield 42, 3) := by decide +kernel
theorem dX1_tell_7 : decode cX1_tell 7 = .ok (.astore 4, 2) := by decide +kernel
theorem dX1_tell_9 : decode cX1_tell 9 = .ok (.iload_n 1, 1) := by decide +kernel
theorem dX1_tell_10 : decode cX1_tell 10 = .ok (.iconst (-1), 1) := by decide +kernel
theorem dX1_tell_11 : decode cX1_tell 11 = .ok (.if_icmp .eq 12, 3) := by decide +kernel
theorem dX1_tell_14 : decode cX1_tell 14 = .ok (.aload 4, 2) := by decide +kernel
theorem dX1_tell_16 : decode cX1_tell 16 = .ok (.iload_n 1, 1) := by decide +kernel
theorem dX1_tell_17 : decode cX1_tell 17 = .ok (.invokevirtual 48, 3) := by decide +kernel
theorem dX1_tell_20 : decode cX1_tell 20 = .ok (.ifCond .eq 31, 3) := by decide +kernel
theorem dX1_tell_23 : decode cX1_tell 23 = .ok (.iload_n 2, 1) := by decide +kernel
theorem dX1_tell_24 : decode cX1_tell 24 = .ok (.iconst (-1), 1) := by decide +kernel
theorem dX1_tell_25 : decode cX1_tell 25 = .ok (.if_icmp .eq 12, 3) := by decide +kernel
theorem dX1_tell_28 : decode cX1_tell 28 = .ok (.aload 4, 2) := by decide +kernel
theorem dX1_tell_30 : decode cX1_tell 30 = .ok (.iload_n 2, 1) := by decide +kernel
theorem dX1_tell_31 : decode cX1_tell 31 = .ok (.invokevirtual 48, 3) := by decide +kernel
theorem dX1_tell_34 : decode cX1_tell 34 = .ok (.ifCond .eq 17, 3) := by decide +kernel
theorem dX1_tell_37 : decode cX1_tell 37 = .ok (.iload_n 3, 1) := by decide +kernel
theorem dX1_tell_38 : decode cX1_tell 38 = .ok (.iconst (-1), 1) := by decide +kernel
theorem dX1_tell_39 : decode cX1_tell 39 = .ok (.if_icmp .eq 14, 3) := by decide +kernel
theorem dX1_tell_42 : decode cX1_tell 42 = .ok (.aload 4, 2) := by decide +kernel
theorem dX1_tell_44 : decode cX1_tell 44 = .ok (.iload_n 3, 1) := by decide +kernel
theorem dX1_tell_45 : decode cX1_tell 45 = .ok (.invokevirtual 48, 3) := by decide +kernel
theorem dX1_tell_48 : decode cX1_tell 48 = .ok (.ifCond .ne 5, 3) := by decide +kernel
theorem dX1_tell_51 : decode cX1_tell 51 = .ok (.iconst 0, 1) := by decide +kernel
theorem dX1_tell_52 : decode cX1_tell 52 = .ok (.ireturn, 1) := by decide +kernel
theorem dX1_tell_53 : decode cX1_tell 53 = .ok (.iload_n 2, 1) := by decide +kernel
theorem dX1_tell_54 : decode cX1_tell 54 = .ok (.iconst (-1), 1) := by decide +kernel
theorem dX1_tell_55 : decode cX1_tell 55 = .ok (.if_icmp .eq 13, 3) := by decide +kernel
theorem dX1_tell_58 : decode cX1_tell 58 = .ok (.iload_n 1, 1) := by decide +kernel
theorem dX1_tell_59 : decode cX1_tell 59 = .ok (.iconst (-1), 1) := by decide +kernel
theorem dX1_tell_60 : decode cX1_tell 60 = .ok (.if_icmp .eq 23, 3) := by decide +kernel
theorem dX1_tell_63 : decode cX1_tell 63 = .ok (.iload_n 2, 1) := by decide +kernel
theorem dX1_tell_64 : decode cX1_tell 64 = .ok (.iload_n 1, 1) := by decide +kernel
theorem dX1_tell_65 : decode cX1_tell 65 = .ok (.if_icmp .le 18, 3) := by decide +kernel
theorem dX1_tell_68 : decode cX1_tell 68 = .ok (.iload_n 3, 1) := by decide +kernel
theorem dX1_tell_69 : decode cX1_tell 69 = .ok (.iconst (-1), 1) := by decide +kernel
theorem dX1_tell_70 : decode cX1_tell 70 = .ok (.if_icmp .eq 15, 3) := by decide +kernel
theorem dX1_tell_73 : decode cX1_tell 73 = .ok (.iload_n 2, 1) := by decide +kernel
theorem dX1_tell_74 : decode cX1_tell 74 = .ok (.iconst (-1), 1) := by decide +kernel
theorem dX1_tell_75 : decode cX1_tell 75 = .ok (.if_icmp .eq 8, 3) := by decide +kernel
theorem dX1_tell_78 : decode cX1_tell 78 = .ok (.iload_n 3, 1) := by decide +kernel
theorem dX1_tell_79 : decode cX1_tell 79 = .ok (.iload_n 2, 1) := by decide +kernel
theorem dX1_tell_80 : decode cX1_tell 80 = .ok (.if_icmp .gt 5, 3) := by decide +kernel
theorem dX1_tell_83 : decode cX1_tell 83 = .ok (.iconst 0, 1) := by decide +kernel
theorem dX1_tell_84 : decode cX1_tell 84 = .ok (.ireturn, 1) := by decide +kernel
theorem dX1_tell_85 : decode cX1_tell 85 = .ok (.aload_n 0, 1) := by decide +kernel
theorem dX1_tell_86 : decode cX1_tell 86 = .ok (.getfield 15, 3) := by decide +kernel
theorem dX1_tell_89 : decode cX1_tell 89 = .ok (.iconst 0, 1) := by decide +kernel
theorem dX1_tell_90 : decode cX1_tell 90 = .ok (.iload_n 1, 1) := by decide +kernel
theorem dX1_tell_91 : decode cX1_tell 91 = .ok (.iastore, 1) := by decide +kernel
theorem dX1_tell_92 : decode cX1_tell 92 = .ok (.aload_n 0, 1) := by decide +kernel
theorem dX1_tell_93 : decode cX1_tell 93 = .ok (.getfield 15, 3) := by decide +kernel
theorem dX1_tell_96 : decode cX1_tell 96 = .ok (.iconst 1, 1) := by decide +kernel
theorem dX1_tell_97 : decode cX1_tell 97 = .ok (.iload_n 2, 1) := by decide +kernel
theorem dX1_tell_98 : decode cX1_tell 98 = .ok (.iastore, 1) := by decide +kernel
theorem dX1_tell_99 : decode cX1_tell 99 = .ok (.aload_n 0, 1) := by decide +kernel
theorem dX1_tell_100 : decode cX1_tell 100 = .ok (.getfield 15, 3) := by decide +kernel
theorem dX1_tell_103 : decode cX1_tell 103 = .ok (.iconst 2, 1) := by decide +kernel
theorem dX1_tell_104 : decode cX1_tell 104 = .ok (.iload_n 3, 1) := by decide +kernel
theorem dX1_tell_105 : decode cX1_tell 105 = .ok (.iastore, 1) := by decide +kernel
theorem dX1_tell_106 : decode cX1_tell 106 = .ok (.aload_n 0, 1) := by decide +kernel
theorem dX1_tell_107 : decode cX1_tell 107 = .ok (.iload_n 1, 1) := by decide +kernel
theorem dX1_tell_108 : decode cX1_tell 108 = .ok (.iconst (-1), 1) := by decide +kernel
theorem dX1_tell_109 : decode cX1_tell 109 = .ok (.if_icmp .ne 7, 3) := by decide +kernel
theorem dX1_tell_112 : decode cX1_tell 112 = .ok (.iconst 0, 1) := by decide +kernel
theorem dX1_tell_113 : decode cX1_tell 113 = .ok (.goto 22, 3) := by decide +kernel
theorem dX1_tell_116 : decode cX1_tell 116 = .ok (.iload_n 2, 1) := by decide +kernel
theorem dX1_tell_117 : decode cX1_tell 117 = .ok (.iconst (-1), 1) := by decide +kernel
theorem dX1_tell_118 : decode cX1_tell 118 = .ok (.if_icmp .ne 7, 3) := by decide +kernel
theorem dX1_tell_121 : decode cX1_tell 121 = .ok (.iconst 1, 1) := by decide +kernel
theorem dX1_tell_122 : decode cX1_tell 122 = .ok (.goto 13, 3) := by decide +kernel
theorem dX1_tell_125 : decode cX1_tell 125 = .ok (.iload_n 3, 1) := by decide +kernel
theorem dX1_tell_126 : decode cX1_tell 126 = .ok (.iconst (-1), 1) := by decide +kernel
theorem dX1_tell_127 : decode cX1_tell 127 = .ok (.if_icmp .ne 7, 3) := by decide +kernel
theorem dX1_tell_130 : decode cX1_tell 130 = .ok (.iconst 2, 1) := by decide +kernel
theorem dX1_tell_131 : decode cX1_tell 131 = .ok (.goto 4, 3) := by decide +kernel
theorem dX1_tell_134 : decode cX1_tell 134 = .ok (.iconst 3, 1) := by decide +kernel
theorem dX1_tell_135 : decode cX1_tell 135 = .ok (.putfield 54, 3) := by decide +kernel
theorem dX1_tell_138 : decode cX1_tell 138 = .ok (.iconst 1, 1) := by decide +kernel
theorem dX1_tell_139 : decode cX1_tell 139 = .ok (.ireturn, 1) := by decide +kernel
theorem dX1_toldHangOn_0 : decode cX1_toldHangOn 0 = .ok (.iconst 0, 1) := by decide +kernel
theorem dX1_toldHangOn_1 : decode cX1_toldHangOn 1 = .ok (.istore_n 3, 1) := by decide +kernel
theorem dX1_toldHangOn_2 : decode cX1_toldHangOn 2 = .ok (.iload_n 3, 1) := by decide +kernel
theorem dX1_toldHangOn_3 : decode cX1_toldHangOn 3 = .ok (.aload_n 0, 1) := by decide +kernel
theorem dX1_toldHangOn_4 : decode cX1_toldHangOn 4 = .ok (.getfield 54, 3) := by decide +kernel
theorem dX1_toldHangOn_7 : decode cX1_toldHangOn 7 = .ok (.if_icmp .ge 32, 3) := by decide +kernel
theorem dX1_toldHangOn_10 : decode cX1_toldHangOn 10 = .ok (.aload_n 0, 1) := by decide +kernel
theorem dX1_toldHangOn_11 : decode cX1_toldHangOn 11 = .ok (.getfield 34, 3) := by decide +kernel
theorem dX1_toldHangOn_14 : decode cX1_toldHangOn 14 = .ok (.getfield 58, 3) := by decide +kernel
theorem dX1_toldHangOn_17 : decode cX1_toldHangOn 17 = .ok (.aload_n 0, 1) := by decide +kernel
theorem dX1_toldHangOn_18 : decode cX1_toldHangOn 18 = .ok (.getfield 15, 3) := by decide +kernel
theorem dX1_toldHangOn_21 : decode cX1_toldHangOn 21 = .ok (.iload_n 3, 1) := by decide +kernel
theorem dX1_toldHangOn_22 : decode cX1_toldHangOn 22 = .ok (.iaload, 1) := by decide +kernel
theorem dX1_toldHangOn_23 : decode cX1_toldHangOn 23 = .ok (.laload, 1) := by decide +kernel
theorem dX1_toldHangOn_24 : decode cX1_toldHangOn 24 = .ok (.lload_n 1, 1) := by decide +kernel
theorem dX1_toldHangOn_25 : decode cX1_toldHangOn 25 = .ok (.land, 1) := by decide +kernel
theorem dX1_toldHangOn_26 : decode cX1_toldHangOn 26 = .ok (.lconst 0, 1) := by decide +kernel
theorem dX1_toldHangOn_27 : decode cX1_toldHangOn 27 = .ok (.lcmp, 1) := by decide +kernel
theorem dX1_toldHangOn_28 : decode cX1_toldHangOn 28 = .ok (.ifCond .eq 5, 3) := by decide +kernel
theorem dX1_toldHangOn_31 : decode cX1_toldHangOn 31 = .ok (.iconst 1, 1) := by decide +kernel
theorem dX1_toldHangOn_32 : decode cX1_toldHangOn 32 = .ok (.ireturn, 1) := by decide +kernel
theorem dX1_toldHangOn_33 : decode cX1_toldHangOn 33 = .ok (.iinc 3 1, 3) := by decide +kernel
theorem dX1_toldHangOn_36 : decode cX1_toldHangOn 36 = .ok (.goto (-34), 3) := by decide +kernel
theorem dX1_toldHangOn_39 : decode cX1_toldHangOn 39 = .ok (.iconst 0, 1) := by decide +kernel
theorem dX1_toldHangOn_40 : decode cX1_toldHangOn 40 = .ok (.ireturn, 1) := by decide +kernel
theorem dX1_learn_0 : decode cX1_learn 0 = .ok (.aload_n 0, 1) := by decide +kernel
theorem dX1_learn_1 : decode cX1_learn 1 = .ok (.aload_n 1, 1) := by decide +kernel
theorem dX1_learn_2 : decode cX1_learn 2 = .ok (.getfield 61, 3) := by decide +kernel
theorem dX1_learn_5 : decode cX1_learn 5 = .ok (.iconst 2, 1) := by decide +kernel
theorem dX1_learn_6 : decode cX1_learn 6 = .ok (.invokestatic 66, 3) := by decide +kernel
theorem dX1_learn_9 : decode cX1_learn 9 = .ok (.putfield 72, 3) := by decide +kernel
theorem dX1_learn_12 : decode cX1_learn 12 = .ok (.iconst 0, 1) := by decide +kernel
theorem dX1_learn_13 : decode cX1_learn 13 = .ok (.istore_n 2, 1) := by decide +kernel
theorem dX1_learn_14 : decode cX1_learn 14 = .ok (.iload_n 2, 1) := by decide +kernel
theorem dX1_learn_15 : decode cX1_learn 15 = .ok (.aload_n 0, 1) := by decide +kernel
theorem dX1_learn_16 : decode cX1_learn 16 = .ok (.getfield 72, 3) := by decide +kernel
theorem dX1_learn_19 : decode cX1_learn 19 = .ok (.if_icmp .ge 21, 3) := by decide +kernel
theorem dX1_learn_22 : decode cX1_learn 22 = .ok (.aload_n 0, 1) := by decide +kernel
theorem dX1_learn_23 : decode cX1_learn 23 = .ok (.getfield 9, 3) := by decide +kernel
theorem dX1_learn_26 : decode cX1_learn 26 = .ok (.iload_n 2, 1) := by decide +kernel
theorem dX1_learn_27 : decode cX1_learn 27 = .ok (.aload_n 1, 1) := by decide +kernel
theorem dX1_learn_28 : decode cX1_learn 28 = .ok (.getfield 73, 3) := by decide +kernel
theorem dX1_learn_31 : decode cX1_learn 31 = .ok (.iload_n 2, 1) := by decide +kernel
theorem dX1_learn_32 : decode cX1_learn 32 = .ok (.iaload, 1) := by decide +kernel
theorem dX1_learn_33 : decode cX1_learn 33 = .ok (.iastore, 1) := by decide +kernel
theorem dX1_learn_34 : decode cX1_learn 34 = .ok (.iinc 2 1, 3) := by decide +kernel
theorem dX1_learn_37 : decode cX1_learn 37 = .ok (.goto (-23), 3) := by decide +kernel
theorem dX1_learn_40 : decode cX1_learn 40 = .ok (.iconst 0, 1) := by decide +kernel
theorem dX1_learn_41 : decode cX1_learn 41 = .ok (.istore_n 2, 1) := by decide +kernel
theorem dX1_learn_42 : decode cX1_learn 42 = .ok (.iload_n 2, 1) := by decide +kernel
theorem dX1_learn_43 : decode cX1_learn 43 = .ok (.aload_n 0, 1) := by decide +kernel
theorem dX1_learn_44 : decode cX1_learn 44 = .ok (.getfield 38, 3) := by decide +kernel
theorem dX1_learn_47 : decode cX1_learn 47 = .ok (.getfield 74, 3) := by decide +kernel
theorem dX1_learn_50 : decode cX1_learn 50 = .ok (.if_icmp .ge 47, 3) := by decide +kernel
theorem dX1_learn_53 : decode cX1_learn 53 = .ok (.aload_n 1, 1) := by decide +kernel
theorem dX1_learn_54 : decode cX1_learn 54 = .ok (.iload_n 2, 1) := by decide +kernel
theorem dX1_learn_55 : decode cX1_learn 55 = .ok (.invokevirtual 79, 3) := by decide +kernel
theorem dX1_learn_58 : decode cX1_learn 58 = .ok (.iconst 0, 1) := by decide +kernel
theorem dX1_learn_59 : decode cX1_learn 59 = .ok (.istore_n 3, 1) := by decide +kernel
theorem dX1_learn_60 : decode cX1_learn 60 = .ok (.iload_n 3, 1) := by decide +kernel
theorem dX1_learn_61 : decode cX1_learn 61 = .ok (.iconst 1, 1) := by decide +kernel
theorem dX1_learn_62 : decode cX1_learn 62 = .ok (.aload_n 0, 1) := by decide +kernel
theorem dX1_learn_63 : decode cX1_learn 63 = .ok (.getfield 72, 3) := by decide +kernel
theorem dX1_learn_66 : decode cX1_learn 66 = .ok (.ishl, 1) := by decide +kernel
theorem dX1_learn_67 : decode cX1_learn 67 = .ok (.if_icmp .ge 24, 3) := by decide +kernel
theorem dX1_learn_70 : decode cX1_learn 70 = .ok (.aload_n 0, 1) := by decide +kernel
theorem dX1_learn_71 : decode cX1_learn 71 = .ok (.getfield 18, 3) := by decide +kernel
theorem dX1_learn_74 : decode cX1_learn 74 = .ok (.iconst 4, 1) := by decide +kernel
theorem dX1_learn_75 : decode cX1_learn 75 = .ok (.iload_n 3, 1) := by decide +kernel
theorem dX1_learn_76 : decode cX1_learn 76 = .ok (.imul, 1) := by decide +kernel
theorem dX1_learn_77 : decode cX1_learn 77 = .ok (.iload_n 2, 1) := by decide +kernel
theorem dX1_learn_78 : decode cX1_learn 78 = .ok (.iadd, 1) := by decide +kernel
theorem dX1_learn_79 : decode cX1_learn 79 = .ok (.aload_n 1, 1) := by decide +kernel
theorem dX1_learn_80 : decode cX1_learn 80 = .ok (.iload_n 3, 1) := by decide +kernel
theorem dX1_learn_81 : decode cX1_learn 81 = .ok (.invokevirtual 83, 3) := by decide +kernel
theorem dX1_learn_84 : decode cX1_learn 84 = .ok (.lastore, 1) := by decide +kernel
theorem dX1_learn_85 : decode cX1_learn 85 = .ok (.iinc 3 1, 3) := by decide +kernel
theorem dX1_learn_88 : decode cX1_learn 88 = .ok (.goto (-28), 3) := by decide +kernel
theorem dX1_learn_91 : decode cX1_learn 91 = .ok (.iinc 2 1, 3) := by decide +kernel
theorem dX1_learn_94 : decode cX1_learn 94 = .ok (.goto (-52), 3) := by decide +kernel
theorem dX1_learn_97 : decode cX1_learn 97 = .ok (.return_, 1) := by decide +kernel
theorem dX1_mendsAll_0 : decode cX1_mendsAll 0 = .ok (.iconst 0, 1) := by decide +kernel
theorem dX1_mendsAll_1 : decode cX1_mendsAll 1 = .ok (.istore_n 3, 1) := by decide +kernel
theorem dX1_mendsAll_2 : decode cX1_mendsAll 2 = .ok (.iload_n 3, 1) := by decide +kernel
theorem dX1_mendsAll_3 : decode cX1_mendsAll 3 = .ok (.aload_n 0, 1) := by decide +kernel
theorem dX1_mendsAll_4 : decode cX1_mendsAll 4 = .ok (.getfield 38, 3) := by decide +kernel
theorem dX1_mendsAll_7 : decode cX1_mendsAll 7 = .ok (.getfield 74, 3) := by decide +kernel
theorem dX1_mendsAll_10 : decode cX1_mendsAll 10 = .ok (.if_icmp .ge 116, 3) := by decide +kernel
theorem dX1_mendsAll_13 : decode cX1_mendsAll 13 = .ok (.aload_n 0, 1) := by decide +kernel
theorem dX1_mendsAll_14 : decode cX1_mendsAll 14 = .ok (.getfield 38, 3) := by decide +kernel
theorem dX1_mendsAll_17 : decode cX1_mendsAll 17 = .ok (.getfield 97, 3) := by decide +kernel
theorem dX1_mendsAll_20 : decode cX1_mendsAll 20 = .ok (.iload_n 3, 1) := by decide +kernel
theorem dX1_mendsAll_21 : decode cX1_mendsAll 21 = .ok (.laload, 1) := by decide +kernel
theorem dX1_mendsAll_22 : decode cX1_mendsAll 22 = .ok (.aload_n 0, 1) := by decide +kernel
theorem dX1_mendsAll_23 : decode cX1_mendsAll 23 = .ok (.getfield 18, 3) := by decide +kernel
theorem dX1_mendsAll_26 : decode cX1_mendsAll 26 = .ok (.iconst 4, 1) := by decide +kernel
theorem dX1_mendsAll_27 : decode cX1_mendsAll 27 = .ok (.iload_n 1, 1) := by decide +kernel
theorem dX1_mendsAll_28 : decode cX1_mendsAll 28 = .ok (.imul, 1) := by decide +kernel
theorem dX1_mendsAll_29 : decode cX1_mendsAll 29 = .ok (.iload_n 3, 1) := by decide +kernel
theorem dX1_mendsAll_30 : decode cX1_mendsAll 30 = .ok (.iadd, 1) := by decide +kernel
theorem dX1_mendsAll_31 : decode cX1_mendsAll 31 = .ok (.laload, 1) := by decide +kernel
theorem dX1_mendsAll_32 : decode cX1_mendsAll 32 = .ok (.ldc2_w 100, 3) := by decide +kernel
theorem dX1_mendsAll_35 : decode cX1_mendsAll 35 = .ok (.lxor, 1) := by decide +kernel
theorem dX1_mendsAll_36 : decode cX1_mendsAll 36 = .ok (.land, 1) := by decide +kernel
theorem dX1_mendsAll_37 : decode cX1_mendsAll 37 = .ok (.lstore 4, 2) := by decide +kernel
theorem dX1_mendsAll_39 : decode cX1_mendsAll 39 = .ok (.iconst 0, 1) := by decide +kernel
theorem dX1_mendsAll_40 : decode cX1_mendsAll 40 = .ok (.istore 6, 2) := by decide +kernel
theorem dX1_mendsAll_42 : decode cX1_mendsAll 42 = .ok (.iload 6, 2) := by decide +kernel
theorem dX1_mendsAll_44 : decode cX1_mendsAll 44 = .ok (.aload_n 0, 1) := by decide +kernel
theorem dX1_mendsAll_45 : decode cX1_mendsAll 45 = .ok (.getfield 54, 3) := by decide +kernel
theorem dX1_mendsAll_48 : decode cX1_mendsAll 48 = .ok (.if_icmp .ge 63, 3) := by decide +kernel
theorem dX1_mendsAll_51 : decode cX1_mendsAll 51 = .ok (.lload 4, 2) := by decide +kernel
theorem dX1_mendsAll_53 : decode cX1_mendsAll 53 = .ok (.lconst 0, 1) := by decide +kernel
theorem dX1_mendsAll_54 : decode cX1_mendsAll 54 = .ok (.lcmp, 1) := by decide +kernel
theorem dX1_mendsAll_55 : decode cX1_mendsAll 55 = .ok (.ifCond .eq 56, 3) := by decide +kernel
theorem dX1_mendsAll_58 : decode cX1_mendsAll 58 = .ok (.aload_n 0, 1) := by decide +kernel
theorem dX1_mendsAll_59 : decode cX1_mendsAll 59 = .ok (.getfield 34, 3) := by decide +kernel
theorem dX1_mendsAll_62 : decode cX1_mendsAll 62 = .ok (.getfield 102, 3) := by decide +kernel
theorem dX1_mendsAll_65 : decode cX1_mendsAll 65 = .ok (.iconst 4, 1) := by decide +kernel
theorem dX1_mendsAll_66 : decode cX1_mendsAll 66 = .ok (.aload_n 0, 1) := by decide +kernel
theorem dX1_mendsAll_67 : decode cX1_mendsAll 67 = .ok (.getfield 15, 3) := by decide +kernel
theorem dX1_mendsAll_70 : decode cX1_mendsAll 70 = .ok (.iload 6, 2) := by decide +kernel
theorem dX1_mendsAll_72 : decode cX1_mendsAll 72 = .ok (.iaload, 1) := by decide +kernel
theorem dX1_mendsAll_73 : decode cX1_mendsAll 73 = .ok (.imul, 1) := by decide +kernel
theorem dX1_mendsAll_74 : decode cX1_mendsAll 74 = .ok (.iload_n 3, 1) := by decide +kernel
theorem dX1_mendsAll_75 : decode cX1_mendsAll 75 = .ok (.iadd, 1) := by decide +kernel
theorem dX1_mendsAll_76 : decode cX1_mendsAll 76 = .ok (.laload, 1) := by decide +kernel
theorem dX1_mendsAll_77 : decode cX1_mendsAll 77 = .ok (.lstore 7, 2) := by decide +kernel
theorem dX1_mendsAll_79 : decode cX1_mendsAll 79 = .ok (.lload 4, 2) := by decide +kernel
theorem dX1_mendsAll_81 : decode cX1_mendsAll 81 = .ok (.iload_n 2, 1) := by decide +kernel
theorem dX1_mendsAll_82 : decode cX1_mendsAll 82 = .ok (.iload 6, 2) := by decide +kernel
theorem dX1_mendsAll_84 : decode cX1_mendsAll 84 = .ok (.ishr, 1) := by decide +kernel
theorem dX1_mendsAll_85 : decode cX1_mendsAll 85 = .ok (.iconst 1, 1) := by decide +kernel
theorem dX1_mendsAll_86 : decode cX1_mendsAll 86 = .ok (.iand, 1) := by decide +kernel
theorem dX1_mendsAll_87 : decode cX1_mendsAll 87 = .ok (.iconst 1, 1) := by decide +kernel
theorem dX1_mendsAll_88 : decode cX1_mendsAll 88 = .ok (.if_icmp .ne 8, 3) := by decide +kernel
theorem dX1_mendsAll_91 : decode cX1_mendsAll 91 = .ok (.lload 7, 2) := by decide +kernel
theorem dX1_mendsAll_93 : decode cX1_mendsAll 93 = .ok (.goto 9, 3) := by decide +kernel
theorem dX1_mendsAll_96 : decode cX1_mendsAll 96 = .ok (.lload 7, 2) := by decide +kernel
theorem dX1_mendsAll_98 : decode cX1_mendsAll 98 = .ok (.ldc2_w 100, 3) := by decide +kernel
theorem dX1_mendsAll_101 : decode cX1_mendsAll 101 = .ok (.lxor, 1) := by decide +kernel
theorem dX1_mendsAll_102 : decode cX1_mendsAll 102 = .ok (.land, 1) := by decide +kernel
theorem dX1_mendsAll_103 : decode cX1_mendsAll 103 = .ok (.lstore 4, 2) := by decide +kernel
theorem dX1_mendsAll_105 : decode cX1_mendsAll 105 = .ok (.iinc 6 1, 3) := by decide +kernel
theorem dX1_mendsAll_108 : decode cX1_mendsAll 108 = .ok (.goto (-66), 3) := by decide +kernel
theorem dX1_mendsAll_111 : decode cX1_mendsAll 111 = .ok (.lload 4, 2) := by decide +kernel
theorem dX1_mendsAll_113 : decode cX1_mendsAll 113 = .ok (.lconst 0, 1) := by decide +kernel
theorem dX1_mendsAll_114 : decode cX1_mendsAll 114 = .ok (.lcmp, 1) := by decide +kernel
theorem dX1_mendsAll_115 : decode cX1_mendsAll 115 = .ok (.ifCond .eq 5, 3) := by decide +kernel
theorem dX1_mendsAll_118 : decode cX1_mendsAll 118 = .ok (.iconst 0, 1) := by decide +kernel
theorem dX1_mendsAll_119 : decode cX1_mendsAll 119 = .ok (.ireturn, 1) := by decide +kernel
theorem dX1_mendsAll_120 : decode cX1_mendsAll 120 = .ok (.iinc 3 1, 3) := by decide +kernel
theorem dX1_mendsAll_123 : decode cX1_mendsAll 123 = .ok (.goto (-121), 3) := by decide +kernel
theorem dX1_mendsAll_126 : decode cX1_mendsAll 126 = .ok (.iconst 1, 1) := by decide +kernel
theorem dX1_mendsAll_127 : decode cX1_mendsAll 127 = .ok (.ireturn, 1) := by decide +kernel
theorem dX1_allow_0 : decode cX1_allow 0 = .ok (.aload_n 0, 1) := by decide +kernel
theorem dX1_allow_1 : decode cX1_allow 1 = .ok (.getfield 22, 3) := by decide +kernel
theorem dX1_allow_4 : decode cX1_allow 4 = .ok (.iconst 0, 1) := by decide +kernel
theorem dX1_allow_5 : decode cX1_allow 5 = .ok (.invokestatic 87, 3) := by decide +kernel
theorem dX1_allow_8 : decode cX1_allow 8 = .ok (.iconst 0, 1) := by decide +kernel
theorem dX1_allow_9 : decode cX1_allow 9 = .ok (.istore_n 1, 1) := by decide +kernel
theorem dX1_allow_10 : decode cX1_allow 10 = .ok (.iload_n 1, 1) := by decide +kernel
theorem dX1_allow_11 : decode cX1_allow 11 = .ok (.iconst 1, 1) := by decide +kernel
theorem dX1_allow_12 : decode cX1_allow 12 = .ok (.aload_n 0, 1) := by decide +kernel
theorem dX1_allow_13 : decode cX1_allow 13 = .ok (.getfield 54, 3) := by decide +kernel
theorem dX1_allow_16 : decode cX1_allow 16 = .ok (.ishl, 1) := by decide +kernel
theorem dX1_allow_17 : decode cX1_allow 17 = .ok (.if_icmp .ge 58, 3) := by decide +kernel
theorem dX1_allow_20 : decode cX1_allow 20 = .ok (.iconst 0, 1) := by decide +kernel
theorem dX1_allow_21 : decode cX1_allow 21 = .ok (.istore_n 2, 1) := by decide +kernel
theorem dX1_allow_22 : decode cX1_allow 22 = .ok (.iconst 0, 1) := by decide +kernel
theorem dX1_allow_23 : decode cX1_allow 23 = .ok (.istore_n 3, 1) := by decide +kernel
theorem dX1_allow_24 : decode cX1_allow 24 = .ok (.iload_n 3, 1) := by decide +kernel
theorem dX1_allow_25 : decode cX1_allow 25 = .ok (.iconst 1, 1) := by decide +kernel
theorem dX1_allow_26 : decode cX1_allow 26 = .ok (.aload_n 0, 1) := by decide +kernel
theorem dX1_allow_27 : decode cX1_allow 27 = .ok (.getfield 72, 3) := by decide +kernel
theorem dX1_allow_30 : decode cX1_allow 30 = .ok (.ishl, 1) := by decide +kernel
theorem dX1_allow_31 : decode cX1_allow 31 = .ok (.if_icmp .ge 32, 3) := by decide +kernel
theorem dX1_allow_34 : decode cX1_allow 34 = .ok (.aload_n 0, 1) := by decide +kernel
theorem dX1_allow_35 : decode cX1_allow 35 = .ok (.iload_n 3, 1) := by decide +kernel
theorem dX1_allow_36 : decode cX1_allow 36 = .ok (.iload_n 1, 1) := by decide +kernel
theorem dX1_allow_37 : decode cX1_allow 37 = .ok (.invokevirtual 93, 3) := by decide +kernel
theorem dX1_allow_40 : decode cX1_allow 40 = .ok (.ifCond .eq 17, 3) := by decide +kernel
theorem dX1_allow_43 : decode cX1_allow 43 = .ok (.aload_n 0, 1) := by decide +kernel
theorem dX1_allow_44 : decode cX1_allow 44 = .ok (.getfield 22, 3) := by decide +kernel
theorem dX1_allow_47 : decode cX1_allow 47 = .ok (.iload_n 3, 1) := by decide +kernel
theorem dX1_allow_48 : decode cX1_allow 48 = .ok (.dup2, 1) := by decide +kernel
theorem dX1_allow_49 : decode cX1_allow 49 = .ok (.iaload, 1) := by decide +kernel
theorem dX1_allow_50 : decode cX1_allow 50 = .ok (.iconst 1, 1) := by decide +kernel
theorem dX1_allow_51 : decode cX1_allow 51 = .ok (.iload_n 1, 1) := by decide +kernel
theorem dX1_allow_52 : decode cX1_allow 52 = .ok (.ishl, 1) := by decide +kernel
theorem dX1_allow_53 : decode cX1_allow 53 = .ok (.ior, 1) := by decide +kernel
theorem dX1_allow_54 : decode cX1_allow 54 = .ok (.iastore, 1) := by decide +kernel
theorem dX1_allow_55 : decode cX1_allow 55 = .ok (.iconst 1, 1) := by decide +kernel
theorem dX1_allow_56 : decode cX1_allow 56 = .ok (.istore_n 2, 1) := by decide +kernel
theorem dX1_allow_57 : decode cX1_allow 57 = .ok (.iinc 3 1, 3) := by decide +kernel
theorem dX1_allow_60 : decode cX1_allow 60 = .ok (.goto (-36), 3) := by decide +kernel
theorem dX1_allow_63 : decode cX1_allow 63 = .ok (.iload_n 2, 1) := by decide +kernel
theorem dX1_allow_64 : decode cX1_allow 64 = .ok (.ifCond .ne 5, 3) := by decide +kernel
theorem dX1_allow_67 : decode cX1_allow 67 = .ok (.iconst 0, 1) := by decide +kernel
theorem dX1_allow_68 : decode cX1_allow 68 = .ok (.ireturn, 1) := by decide +kernel
theorem dX1_allow_69 : decode cX1_allow 69 = .ok (.iinc 1 1, 3) := by decide +kernel
theorem dX1_allow_72 : decode cX1_allow 72 = .ok (.goto (-62), 3) := by decide +kernel
theorem dX1_allow_75 : decode cX1_allow 75 = .ok (.iconst 1, 1) := by decide +kernel
theorem dX1_allow_76 : decode cX1_allow 76 = .ok (.ireturn, 1) := by decide +kernel
theorem dX1_patternOf_0 : decode cX1_patternOf 0 = .ok (.iconst 0, 1) := by decide +kernel
theorem dX1_patternOf_1 : decode cX1_patternOf 1 = .ok (.istore_n 2, 1) := by decide +kernel
theorem dX1_patternOf_2 : decode cX1_patternOf 2 = .ok (.iconst 0, 1) := by decide +kernel
theorem dX1_patternOf_3 : decode cX1_patternOf 3 = .ok (.istore_n 3, 1) := by decide +kernel
theorem dX1_patternOf_4 : decode cX1_patternOf 4 = .ok (.iload_n 3, 1) := by decide +kernel
theorem dX1_patternOf_5 : decode cX1_patternOf 5 = .ok (.aload_n 0, 1) := by decide +kernel
theorem dX1_patternOf_6 : decode cX1_patternOf 6 = .ok (.getfield 54, 3) := by decide +kernel
theorem dX1_patternOf_9 : decode cX1_patternOf 9 = .ok (.if_icmp .ge 47, 3) := by decide +kernel
theorem dX1_patternOf_12 : decode cX1_patternOf 12 = .ok (.aload_n 0, 1) := by decide +kernel
theorem dX1_patternOf_13 : decode cX1_patternOf 13 = .ok (.getfield 34, 3) := by decide +kernel
theorem dX1_patternOf_16 : decode cX1_patternOf 16 = .ok (.getfield 102, 3) := by decide +kernel
theorem dX1_patternOf_19 : decode cX1_patternOf 19 = .ok (.iconst 4, 1) := by decide +kernel
theorem dX1_patternOf_20 : decode cX1_patternOf 20 = .ok (.aload_n 0, 1) := by decide +kernel
theorem dX1_patternOf_21 : decode cX1_patternOf 21 = .ok (.getfield 15, 3) := by decide +kernel
theorem dX1_patternOf_24 : decode cX1_patternOf 24 = .ok (.iload_n 3, 1) := by decide +kernel
theorem dX1_patternOf_25 : decode cX1_patternOf 25 = .ok (.iaload, 1) := by decide +kernel
theorem dX1_patternOf_26 : decode cX1_patternOf 26 = .ok (.imul, 1) := by decide +kernel
theorem dX1_patternOf_27 : decode cX1_patternOf 27 = .ok (.iload_n 1, 1) := by decide +kernel
theorem dX1_patternOf_28 : decode cX1_patternOf 28 = .ok (.bipush 64, 2) := by decide +kernel
theorem dX1_patternOf_30 : decode cX1_patternOf 30 = .ok (.idiv, 1) := by decide +kernel
theorem dX1_patternOf_31 : decode cX1_patternOf 31 = .ok (.iadd, 1) := by decide +kernel
theorem dX1_patternOf_32 : decode cX1_patternOf 32 = .ok (.laload, 1) := by decide +kernel
theorem dX1_patternOf_33 : decode cX1_patternOf 33 = .ok (.lstore 4, 2) := by decide +kernel
theorem dX1_patternOf_35 : decode cX1_patternOf 35 = .ok (.iload_n 2, 1) := by decide +kernel
theorem dX1_patternOf_36 : decode cX1_patternOf 36 = .ok (.lload 4, 2) := by decide +kernel
theorem dX1_patternOf_38 : decode cX1_patternOf 38 = .ok (.iload_n 1, 1) := by decide +kernel
theorem dX1_patternOf_39 : decode cX1_patternOf 39 = .ok (.bipush 64, 2) := by decide +kernel
theorem dX1_patternOf_41 : decode cX1_patternOf 41 = .ok (.irem, 1) := by decide +kernel
theorem dX1_patternOf_42 : decode cX1_patternOf 42 = .ok (.lshr, 1) := by decide +kernel
theorem dX1_patternOf_43 : decode cX1_patternOf 43 = .ok (.lconst 1, 1) := by decide +kernel
theorem dX1_patternOf_44 : decode cX1_patternOf 44 = .ok (.land, 1) := by decide +kernel
theorem dX1_patternOf_45 : decode cX1_patternOf 45 = .ok (.l2i, 1) := by decide +kernel
theorem dX1_patternOf_46 : decode cX1_patternOf 46 = .ok (.iload_n 3, 1) := by decide +kernel
theorem dX1_patternOf_47 : decode cX1_patternOf 47 = .ok (.ishl, 1) := by decide +kernel
theorem dX1_patternOf_48 : decode cX1_patternOf 48 = .ok (.ior, 1) := by decide +kernel
theorem dX1_patternOf_49 : decode cX1_patternOf 49 = .ok (.istore_n 2, 1) := by decide +kernel
theorem dX1_patternOf_50 : decode cX1_patternOf 50 = .ok (.iinc 3 1, 3) := by decide +kernel
theorem dX1_patternOf_53 : decode cX1_patternOf 53 = .ok (.goto (-49), 3) := by decide +kernel
theorem dX1_patternOf_56 : decode cX1_patternOf 56 = .ok (.iload_n 2, 1) := by decide +kernel
theorem dX1_patternOf_57 : decode cX1_patternOf 57 = .ok (.ireturn, 1) := by decide +kernel
theorem dX1_mendingSet_0 : decode cX1_mendingSet 0 = .ok (.iconst 0, 1) := by decide +kernel
theorem dX1_mendingSet_1 : decode cX1_mendingSet 1 = .ok (.istore_n 2, 1) := by decide +kernel
theorem dX1_mendingSet_2 : decode cX1_mendingSet 2 = .ok (.iconst 0, 1) := by decide +kernel
theorem dX1_mendingSet_3 : decode cX1_mendingSet 3 = .ok (.istore_n 3, 1) := by decide +kernel
theorem dX1_mendingSet_4 : decode cX1_mendingSet 4 = .ok (.iload_n 3, 1) := by decide +kernel
theorem dX1_mendingSet_5 : decode cX1_mendingSet 5 = .ok (.iconst 1, 1) := by decide +kernel
theorem dX1_mendingSet_6 : decode cX1_mendingSet 6 = .ok (.aload_n 0, 1) := by decide +kernel
theorem dX1_mendingSet_7 : decode cX1_mendingSet 7 = .ok (.getfield 72, 3) := by decide +kernel
theorem dX1_mendingSet_10 : decode cX1_mendingSet 10 = .ok (.ishl, 1) := by decide +kernel
theorem dX1_mendingSet_11 : decode cX1_mendingSet 11 = .ok (.if_icmp .ge 35, 3) := by decide +kernel
theorem dX1_mendingSet_14 : decode cX1_mendingSet 14 = .ok (.iload_n 2, 1) := by decide +kernel
theorem dX1_mendingSet_15 : decode cX1_mendingSet 15 = .ok (.aload_n 0, 1) := by decide +kernel
theorem dX1_mendingSet_16 : decode cX1_mendingSet 16 = .ok (.getfield 18, 3) := by decide +kernel
theorem dX1_mendingSet_19 : decode cX1_mendingSet 19 = .ok (.iconst 4, 1) := by decide +kernel
theorem dX1_mendingSet_20 : decode cX1_mendingSet 20 = .ok (.iload_n 3, 1) := by decide +kernel
theorem dX1_mendingSet_21 : decode cX1_mendingSet 21 = .ok (.imul, 1) := by decide +kernel
theorem dX1_mendingSet_22 : decode cX1_mendingSet 22 = .ok (.iload_n 1, 1) := by decide +kernel
theorem dX1_mendingSet_23 : decode cX1_mendingSet 23 = .ok (.bipush 64, 2) := by decide +kernel
theorem dX1_mendingSet_25 : decode cX1_mendingSet 25 = .ok (.idiv, 1) := by decide +kernel
theorem dX1_mendingSet_26 : decode cX1_mendingSet 26 = .ok (.iadd, 1) := by decide +kernel
theorem dX1_mendingSet_27 : decode cX1_mendingSet 27 = .ok (.laload, 1) := by decide +kernel
theorem dX1_mendingSet_28 : decode cX1_mendingSet 28 = .ok (.iload_n 1, 1) := by decide +kernel
theorem dX1_mendingSet_29 : decode cX1_mendingSet 29 = .ok (.bipush 64, 2) := by decide +kernel
theorem dX1_mendingSet_31 : decode cX1_mendingSet 31 = .ok (.irem, 1) := by decide +kernel
theorem dX1_mendingSet_32 : decode cX1_mendingSet 32 = .ok (.lshr, 1) := by decide +kernel
theorem dX1_mendingSet_33 : decode cX1_mendingSet 33 = .ok (.lconst 1, 1) := by decide +kernel
theorem dX1_mendingSet_34 : decode cX1_mendingSet 34 = .ok (.land, 1) := by decide +kernel
theorem dX1_mendingSet_35 : decode cX1_mendingSet 35 = .ok (.l2i, 1) := by decide +kernel
theorem dX1_mendingSet_36 : decode cX1_mendingSet 36 = .ok (.iload_n 3, 1) := by decide +kernel
theorem dX1_mendingSet_37 : decode cX1_mendingSet 37 = .ok (.ishl, 1) := by decide +kernel
theorem dX1_mendingSet_38 : decode cX1_mendingSet 38 = .ok (.ior, 1) := by decide +kernel
theorem dX1_mendingSet_39 : decode cX1_mendingSet 39 = .ok (.istore_n 2, 1) := by decide +kernel
theorem dX1_mendingSet_40 : decode cX1_mendingSet 40 = .ok (.iinc 3 1, 3) := by decide +kernel
theorem dX1_mendingSet_43 : decode cX1_mendingSet 43 = .ok (.goto (-39), 3) := by decide +kernel
theorem dX1_mendingSet_46 : decode cX1_mendingSet 46 = .ok (.iload_n 2, 1) := by decide +kernel
theorem dX1_mendingSet_47 : decode cX1_mendingSet 47 = .ok (.ireturn, 1) := by decide +kernel
theorem dX1_findClash_0 : decode cX1_findClash 0 = .ok (.aload_n 0, 1) := by decide +kernel
theorem dX1_findClash_1 : decode cX1_findClash 1 = .ok (.getfield 25, 3) := by decide +kernel
theorem dX1_findClash_4 : decode cX1_findClash 4 = .ok (.iconst 1, 1) := by decide +kernel
theorem dX1_findClash_5 : decode cX1_findClash 5 = .ok (.iconst 1, 1) := by decide +kernel
theorem dX1_findClash_6 : decode cX1_findClash 6 = .ok (.aload_n 0, 1) := by decide +kernel
theorem dX1_findClash_7 : decode cX1_findClash 7 = .ok (.getfield 72, 3) := by decide +kernel
theorem dX1_findClash_10 : decode cX1_findClash 10 = .ok (.ishl, 1) := by decide +kernel
theorem dX1_findClash_11 : decode cX1_findClash 11 = .ok (.ishl, 1) := by decide +kernel
theorem dX1_findClash_12 : decode cX1_findClash 12 = .ok (.iconst 1, 1) := by decide +kernel
theorem dX1_findClash_13 : decode cX1_findClash 13 = .ok (.isub, 1) := by decide +kernel
theorem dX1_findClash_14 : decode cX1_findClash 14 = .ok (.invokestatic 87, 3) := by decide +kernel
theorem dX1_findClash_17 : decode cX1_findClash 17 = .ok (.aload_n 0, 1) := by decide +kernel
theorem dX1_findClash_18 : decode cX1_findClash 18 = .ok (.getfield 28, 3) := by decide +kernel
theorem dX1_findClash_21 : decode cX1_findClash 21 = .ok (.iconst (-1), 1) := by decide +kernel
theorem dX1_findClash_22 : decode cX1_findClash 22 = .ok (.invokestatic 87, 3) := by decide +kernel
theorem dX1_findClash_25 : decode cX1_findClash 25 = .ok (.iconst 0, 1) := by decide +kernel
theorem dX1_findClash_26 : decode cX1_findClash 26 = .ok (.istore_n 1, 1) := by decide +kernel
theorem dX1_findClash_27 : decode cX1_findClash 27 = .ok (.iload_n 1, 1) := by decide +kernel
theorem dX1_findClash_28 : decode cX1_findClash 28 = .ok (.aload_n 0, 1) := by decide +kernel
theorem dX1_findClash_29 : decode cX1_findClash 29 = .ok (.getfield 38, 3) := by decide +kernel
theorem dX1_findClash_32 : decode cX1_findClash 32 = .ok (.getfield 105, 3) := by decide +kernel
theorem dX1_findClash_35 : decode cX1_findClash 35 = .ok (.if_icmp .ge 82, 3) := by decide +kernel
theorem dX1_findClash_38 : decode cX1_findClash 38 = .ok (.aload_n 0, 1) := by decide +kernel
theorem dX1_findClash_39 : decode cX1_findClash 39 = .ok (.getfield 38, 3) := by decide +kernel
theorem dX1_findClash_42 : decode cX1_findClash 42 = .ok (.iload_n 1, 1) := by decide +kernel
theorem dX1_findClash_43 : decode cX1_findClash 43 = .ok (.invokevirtual 106, 3) := by decide +kernel
theorem dX1_findClash_46 : decode cX1_findClash 46 = .ok (.ifCond .eq 65, 3) := by decide +kernel
theorem dX1_findClash_49 : decode cX1_findClash 49 = .ok (.aload_n 0, 1) := by decide +kernel
theorem dX1_findClash_50 : decode cX1_findClash 50 = .ok (.iload_n 1, 1) := by decide +kernel
theorem dX1_findClash_51 : decode cX1_findClash 51 = .ok (.invokevirtual 109, 3) := by decide +kernel
theorem dX1_findClash_54 : decode cX1_findClash 54 = .ok (.istore_n 2, 1) := by decide +kernel
theorem dX1_findClash_55 : decode cX1_findClash 55 = .ok (.aload_n 0, 1) := by decide +kernel
theorem dX1_findClash_56 : decode cX1_findClash 56 = .ok (.getfield 28, 3) := by decide +kernel
theorem dX1_findClash_59 : decode cX1_findClash 59 = .ok (.iload_n 2, 1) := by decide +kernel
theorem dX1_findClash_60 : decode cX1_findClash 60 = .ok (.iaload, 1) := by decide +kernel
theorem dX1_findClash_61 : decode cX1_findClash 61 = .ok (.iconst (-1), 1) := by decide +kernel
theorem dX1_findClash_62 : decode cX1_findClash 62 = .ok (.if_icmp .ne 10, 3) := by decide +kernel
theorem dX1_findClash_65 : decode cX1_findClash 65 = .ok (.aload_n 0, 1) := by decide +kernel
theorem dX1_findClash_66 : decode cX1_findClash 66 = .ok (.getfield 28, 3) := by decide +kernel
theorem dX1_findClash_69 : decode cX1_findClash 69 = .ok (.iload_n 2, 1) := by decide +kernel
theorem dX1_findClash_70 : decode cX1_findClash 70 = .ok (.iload_n 1, 1) := by decide +kernel
theorem dX1_findClash_71 : decode cX1_findClash 71 = .ok (.iastore, 1) := by decide +kernel
theorem dX1_findClash_72 : decode cX1_findClash 72 = .ok (.aload_n 0, 1) := by decide +kernel
theorem dX1_findClash_73 : decode cX1_findClash 73 = .ok (.getfield 25, 3) := by decide +kernel
theorem dX1_findClash_76 : decode cX1_findClash 76 = .ok (.iload_n 2, 1) := by decide +kernel
theorem dX1_findClash_77 : decode cX1_findClash 77 = .ok (.dup2, 1) := by decide +kernel
theorem dX1_findClash_78 : decode cX1_findClash 78 = .ok (.iaload, 1) := by decide +kernel
theorem dX1_findClash_79 : decode cX1_findClash 79 = .ok (.aload_n 0, 1) := by decide +kernel
theorem dX1_findClash_80 : decode cX1_findClash 80 = .ok (.iload_n 1, 1) := by decide +kernel
theorem dX1_findClash_81 : decode cX1_findClash 81 = .ok (.invokevirtual 113, 3) := by decide +kernel
theorem dX1_findClash_84 : decode cX1_findClash 84 = .ok (.iand, 1) := by decide +kernel
theorem dX1_findClash_85 : decode cX1_findClash 85 = .ok (.iastore, 1) := by decide +kernel
theorem dX1_findClash_86 : decode cX1_findClash 86 = .ok (.aload_n 0, 1) := by decide +kernel
theorem dX1_findClash_87 : decode cX1_findClash 87 = .ok (.getfield 25, 3) := by decide +kernel
theorem dX1_findClash_90 : decode cX1_findClash 90 = .ok (.iload_n 2, 1) := by decide +kernel
theorem dX1_findClash_91 : decode cX1_findClash 91 = .ok (.iaload, 1) := by decide +kernel
theorem dX1_findClash_92 : decode cX1_findClash 92 = .ok (.ifCond .ne 19, 3) := by decide +kernel
theorem dX1_findClash_95 : decode cX1_findClash 95 = .ok (.aload_n 0, 1) := by decide +kernel
theorem dX1_findClash_96 : decode cX1_findClash 96 = .ok (.aload_n 0, 1) := by decide +kernel
theorem dX1_findClash_97 : decode cX1_findClash 97 = .ok (.getfield 28, 3) := by decide +kernel
theorem dX1_findClash_100 : decode cX1_findClash 100 = .ok (.iload_n 2, 1) := by decide +kernel
theorem dX1_findClash_101 : decode cX1_findClash 101 = .ok (.iaload, 1) := by decide +kernel
theorem dX1_findClash_102 : decode cX1_findClash 102 = .ok (.putfield 116, 3) := by decide +kernel
theorem dX1_findClash_105 : decode cX1_findClash 105 = .ok (.aload_n 0, 1) := by decide +kernel
theorem dX1_findClash_106 : decode cX1_findClash 106 = .ok (.iload_n 1, 1) := by decide +kernel
theorem dX1_findClash_107 : decode cX1_findClash 107 = .ok (.putfield 119, 3) := by decide +kernel
theorem dX1_findClash_110 : decode cX1_findClash 110 = .ok (.return_, 1) := by decide +kernel
theorem dX1_findClash_111 : decode cX1_findClash 111 = .ok (.iinc 1 1, 3) := by decide +kernel
theorem dX1_findClash_114 : decode cX1_findClash 114 = .ok (.goto (-87), 3) := by decide +kernel
theorem dX1_findClash_117 : decode cX1_findClash 117 = .ok (.return_, 1) := by decide +kernel
theorem dX1_cheapest_0 : decode cX1_cheapest 0 = .ok (.iload_n 1, 1) := by decide +kernel
theorem dX1_cheapest_1 : decode cX1_cheapest 1 = .ok (.istore_n 3, 1) := by decide +kernel
theorem dX1_cheapest_2 : decode cX1_cheapest 2 = .ok (.iconst 5, 1) := by decide +kernel
theorem dX1_cheapest_3 : decode cX1_cheapest 3 = .ok (.istore 4, 2) := by decide +kernel
theorem dX1_cheapest_5 : decode cX1_cheapest 5 = .ok (.iload_n 1, 1) := by decide +kernel
theorem dX1_cheapest_6 : decode cX1_cheapest 6 = .ok (.istore 5, 2) := by decide +kernel
theorem dX1_cheapest_8 : decode cX1_cheapest 8 = .ok (.iload 5, 2) := by decide +kernel
theorem dX1_cheapest_10 : decode cX1_cheapest 10 = .ok (.aload_n 0, 1) := by decide +kernel
theorem dX1_cheapest_11 : decode cX1_cheapest 11 = .ok (.getfield 54, 3) := by decide +kernel
theorem dX1_cheapest_14 : decode cX1_cheapest 14 = .ok (.invokestatic 122, 3) := by decide +kernel
theorem dX1_cheapest_17 : decode cX1_cheapest 17 = .ok (.if_icmp .gt 49, 3) := by decide +kernel
theorem dX1_cheapest_20 : decode cX1_cheapest 20 = .ok (.iload 5, 2) := by decide +kernel
theorem dX1_cheapest_22 : decode cX1_cheapest 22 = .ok (.iload_n 1, 1) := by decide +kernel
theorem dX1_cheapest_23 : decode cX1_cheapest 23 = .ok (.iand, 1) := by decide +kernel
theorem dX1_cheapest_24 : decode cX1_cheapest 24 = .ok (.iload_n 1, 1) := by decide +kernel
theorem dX1_cheapest_25 : decode cX1_cheapest 25 = .ok (.if_icmp .ne 35, 3) := by decide +kernel
theorem dX1_cheapest_28 : decode cX1_cheapest 28 = .ok (.iload 5, 2) := by decide +kernel
theorem dX1_cheapest_30 : decode cX1_cheapest 30 = .ok (.iload_n 2, 1) := by decide +kernel
theorem dX1_cheapest_31 : decode cX1_cheapest 31 = .ok (.iand, 1) := by decide +kernel
theorem dX1_cheapest_32 : decode cX1_cheapest 32 = .ok (.ifCond .ne 28, 3) := by decide +kernel
theorem dX1_cheapest_35 : decode cX1_cheapest 35 = .ok (.aload_n 0, 1) := by decide +kernel
theorem dX1_cheapest_36 : decode cX1_cheapest 36 = .ok (.getfield 54, 3) := by decide +kernel
theorem dX1_cheapest_39 : decode cX1_cheapest 39 = .ok (.iload 5, 2) := by decide +kernel
theorem dX1_cheapest_41 : decode cX1_cheapest 41 = .ok (.invokestatic 130, 3) := by decide +kernel
theorem dX1_cheapest_44 : decode cX1_cheapest 44 = .ok (.istore 6, 2) := by decide +kernel
theorem dX1_cheapest_46 : decode cX1_cheapest 46 = .ok (.iload 6, 2) := by decide +kernel
theorem dX1_cheapest_48 : decode cX1_cheapest 48 = .ok (.iload 4, 2) := by decide +kernel
theorem dX1_cheapest_50 : decode cX1_cheapest 50 = .ok (.if_icmp .ge 10, 3) := by decide +kernel
theorem dX1_cheapest_53 : decode cX1_cheapest 53 = .ok (.iload 6, 2) := by decide +kernel
theorem dX1_cheapest_55 : decode cX1_cheapest 55 = .ok (.istore 4, 2) := by decide +kernel
theorem dX1_cheapest_57 : decode cX1_cheapest 57 = .ok (.iload 5, 2) := by decide +kernel
theorem dX1_cheapest_59 : decode cX1_cheapest 59 = .ok (.istore_n 3, 1) := by decide +kernel
theorem dX1_cheapest_60 : decode cX1_cheapest 60 = .ok (.iinc 5 1, 3) := by decide +kernel
theorem dX1_cheapest_63 : decode cX1_cheapest 63 = .ok (.goto (-55), 3) := by decide +kernel
theorem dX1_cheapest_66 : decode cX1_cheapest 66 = .ok (.iload_n 3, 1) := by decide +kernel
theorem dX1_cheapest_67 : decode cX1_cheapest 67 = .ok (.ireturn, 1) := by decide +kernel
theorem dX1_choose_0 : decode cX1_choose 0 = .ok (.aload_n 0, 1) := by decide +kernel
theorem dX1_choose_1 : decode cX1_choose 1 = .ok (.getfield 54, 3) := by decide +kernel
theorem dX1_choose_4 : decode cX1_choose 4 = .ok (.invokestatic 122, 3) := by decide +kernel
theorem dX1_choose_7 : decode cX1_choose 7 = .ok (.istore_n 1, 1) := by decide +kernel
theorem dX1_choose_8 : decode cX1_choose 8 = .ok (.aload_n 0, 1) := by decide +kernel
theorem dX1_choose_9 : decode cX1_choose 9 = .ok (.getfield 72, 3) := by decide +kernel
theorem dX1_choose_12 : decode cX1_choose 12 = .ok (.iconst 1, 1) := by decide +kernel
theorem dX1_choose_13 : decode cX1_choose 13 = .ok (.if_icmp .ne 58, 3) := by decide +kernel
theorem dX1_choose_16 : decode cX1_choose 16 = .ok (.aload_n 0, 1) := by decide +kernel
theorem dX1_choose_17 : decode cX1_choose 17 = .ok (.getfield 31, 3) := by decide +kernel
theorem dX1_choose_20 : decode cX1_choose 20 = .ok (.iconst 0, 1) := by decide +kernel
theorem dX1_choose_21 : decode cX1_choose 21 = .ok (.aload_n 0, 1) := by decide +kernel
theorem dX1_choose_22 : decode cX1_choose 22 = .ok (.iload_n 1, 1) := by decide +kernel
theorem dX1_choose_23 : decode cX1_choose 23 = .ok (.aload_n 0, 1) := by decide +kernel
theorem dX1_choose_24 : decode cX1_choose 24 = .ok (.getfield 22, 3) := by decide +kernel
theorem dX1_choose_27 : decode cX1_choose 27 = .ok (.iconst 0, 1) := by decide +kernel
theorem dX1_choose_28 : decode cX1_choose 28 = .ok (.iaload, 1) := by decide +kernel
theorem dX1_choose_29 : decode cX1_choose 29 = .ok (.iconst (-1), 1) := by decide +kernel
theorem dX1_choose_30 : decode cX1_choose 30 = .ok (.ixor, 1) := by decide +kernel
theorem dX1_choose_31 : decode cX1_choose 31 = .ok (.iand, 1) := by decide +kernel
theorem dX1_choose_32 : decode cX1_choose 32 = .ok (.iload_n 1, 1) := by decide +kernel
theorem dX1_choose_33 : decode cX1_choose 33 = .ok (.aload_n 0, 1) := by decide +kernel
theorem dX1_choose_34 : decode cX1_choose 34 = .ok (.getfield 22, 3) := by decide +kernel
theorem dX1_choose_37 : decode cX1_choose 37 = .ok (.iconst 1, 1) := by decide +kernel
theorem dX1_choose_38 : decode cX1_choose 38 = .ok (.iaload, 1) := by decide +kernel
theorem dX1_choose_39 : decode cX1_choose 39 = .ok (.iconst (-1), 1) := by decide +kernel
theorem dX1_choose_40 : decode cX1_choose 40 = .ok (.ixor, 1) := by decide +kernel
theorem dX1_choose_41 : decode cX1_choose 41 = .ok (.iand, 1) := by decide +kernel
theorem dX1_choose_42 : decode cX1_choose 42 = .ok (.invokevirtual 127, 3) := by decide +kernel
theorem dX1_choose_45 : decode cX1_choose 45 = .ok (.iastore, 1) := by decide +kernel
theorem dX1_choose_46 : decode cX1_choose 46 = .ok (.aload_n 0, 1) := by decide +kernel
theorem dX1_choose_47 : decode cX1_choose 47 = .ok (.getfield 31, 3) := by decide +kernel
theorem dX1_choose_50 : decode cX1_choose 50 = .ok (.iconst 1, 1) := by decide +kernel
theorem dX1_choose_51 : decode cX1_choose 51 = .ok (.iconst 0, 1) := by decide +kernel
theorem dX1_choose_52 : decode cX1_choose 52 = .ok (.iastore, 1) := by decide +kernel
theorem dX1_choose_53 : decode cX1_choose 53 = .ok (.aload_n 0, 1) := by decide +kernel
theorem dX1_choose_54 : decode cX1_choose 54 = .ok (.aload_n 0, 1) := by decide +kernel
theorem dX1_choose_55 : decode cX1_choose 55 = .ok (.getfield 54, 3) := by decide +kernel
theorem dX1_choose_58 : decode cX1_choose 58 = .ok (.aload_n 0, 1) := by decide +kernel
theorem dX1_choose_59 : decode cX1_choose 59 = .ok (.getfield 31, 3) := by decide +kernel
theorem dX1_choose_62 : decode cX1_choose 62 = .ok (.iconst 0, 1) := by decide +kernel
theorem dX1_choose_63 : decode cX1_choose 63 = .ok (.iaload, 1) := by decide +kernel
theorem dX1_choose_64 : decode cX1_choose 64 = .ok (.invokestatic 130, 3) := by decide +kernel
theorem dX1_choose_67 : decode cX1_choose 67 = .ok (.putfield 133, 3) := by decide +kernel
theorem dX1_choose_70 : decode cX1_choose 70 = .ok (.return_, 1) := by decide +kernel
theorem dX1_choose_71 : decode cX1_choose 71 = .ok (.aload_n 0, 1) := by decide +kernel
theorem dX1_choose_72 : decode cX1_choose 72 = .ok (.bipush 9, 2) := by decide +kernel
theorem dX1_choose_74 : decode cX1_choose 74 = .ok (.putfield 133, 3) := by decide +kernel
theorem dX1_choose_77 : decode cX1_choose 77 = .ok (.iconst 0, 1) := by decide +kernel
theorem dX1_choose_78 : decode cX1_choose 78 = .ok (.istore_n 2, 1) := by decide +kernel
theorem dX1_choose_79 : decode cX1_choose 79 = .ok (.iload_n 2, 1) := by decide +kernel
theorem dX1_choose_80 : decode cX1_choose 80 = .ok (.iload_n 1, 1) := by decide +kernel
theorem dX1_choose_81 : decode cX1_choose 81 = .ok (.if_icmp .gt 141, 3) := by decide +kernel
theorem dX1_choose_84 : decode cX1_choose 84 = .ok (.aload_n 0, 1) := by decide +kernel
theorem dX1_choose_85 : decode cX1_choose 85 = .ok (.getfield 54, 3) := by decide +kernel
theorem dX1_choose_88 : decode cX1_choose 88 = .ok (.iload_n 2, 1) := by decide +kernel
theorem dX1_choose_89 : decode cX1_choose 89 = .ok (.invokestatic 130, 3) := by decide +kernel
theorem dX1_choose_92 : decode cX1_choose 92 = .ok (.istore_n 3, 1) := by decide +kernel
theorem dX1_choose_93 : decode cX1_choose 93 = .ok (.iload_n 1, 1) := by decide +kernel
theorem dX1_choose_94 : decode cX1_choose 94 = .ok (.iload_n 2, 1) := by decide +kernel
theorem dX1_choose_95 : decode cX1_choose 95 = .ok (.iconst (-1), 1) := by decide +kernel
theorem dX1_choose_96 : decode cX1_choose 96 = .ok (.ixor, 1) := by decide +kernel
theorem dX1_choose_97 : decode cX1_choose 97 = .ok (.aload_n 0, 1) := by decide +kernel
theorem dX1_choose_98 : decode cX1_choose 98 = .ok (.getfield 22, 3) := by decide +kernel
theorem dX1_choose_101 : decode cX1_choose 101 = .ok (.iconst 0, 1) := by decide +kernel
theorem dX1_choose_102 : decode cX1_choose 102 = .ok (.iaload, 1) := by decide +kernel
theorem dX1_choose_103 : decode cX1_choose 103 = .ok (.iconst (-1), 1) := by decide +kernel
theorem dX1_choose_104 : decode cX1_choose 104 = .ok (.ixor, 1) := by decide +kernel
theorem dX1_choose_105 : decode cX1_choose 105 = .ok (.iand, 1) := by decide +kernel
theorem dX1_choose_106 : decode cX1_choose 106 = .ok (.iload_n 2, 1) := by decide +kernel
theorem dX1_choose_107 : decode cX1_choose 107 = .ok (.aload_n 0, 1) := by decide +kernel
theorem dX1_choose_108 : decode cX1_choose 108 = .ok (.getfield 22, 3) := by decide +kernel
theorem dX1_choose_111 : decode cX1_choose 111 = .ok (.iconst 1, 1) := by decide +kernel
theorem dX1_choose_112 : decode cX1_choose 112 = .ok (.iaload, 1) := by decide +kernel
theorem dX1_choose_113 : decode cX1_choose 113 = .ok (.iconst (-1), 1) := by decide +kernel
theorem dX1_choose_114 : decode cX1_choose 114 = .ok (.ixor, 1) := by decide +kernel
theorem dX1_choose_115 : decode cX1_choose 115 = .ok (.iand, 1) := by decide +kernel
theorem dX1_choose_116 : decode cX1_choose 116 = .ok (.ior, 1) := by decide +kernel
theorem dX1_choose_117 : decode cX1_choose 117 = .ok (.iand, 1) := by decide +kernel
theorem dX1_choose_118 : decode cX1_choose 118 = .ok (.istore 4, 2) := by decide +kernel
theorem dX1_choose_120 : decode cX1_choose 120 = .ok (.iload_n 1, 1) := by decide +kernel
theorem dX1_choose_121 : decode cX1_choose 121 = .ok (.iload_n 2, 1) := by decide +kernel
theorem dX1_choose_122 : decode cX1_choose 122 = .ok (.iconst (-1), 1) := by decide +kernel
theorem dX1_choose_123 : decode cX1_choose 123 = .ok (.ixor, 1) := by decide +kernel
theorem dX1_choose_124 : decode cX1_choose 124 = .ok (.aload_n 0, 1) := by decide +kernel
theorem dX1_choose_125 : decode cX1_choose 125 = .ok (.getfield 22, 3) := by decide +kernel
theorem dX1_choose_128 : decode cX1_choose 128 = .ok (.iconst 2, 1) := by decide +kernel
theorem dX1_choose_129 : decode cX1_choose 129 = .ok (.iaload, 1) := by decide +kernel
theorem dX1_choose_130 : decode cX1_choose 130 = .ok (.iconst (-1), 1) := by decide +kernel
theorem dX1_choose_131 : decode cX1_choose 131 = .ok (.ixor, 1) := by decide +kernel
theorem dX1_choose_132 : decode cX1_choose 132 = .ok (.iand, 1) := by decide +kernel
theorem dX1_choose_133 : decode cX1_choose 133 = .ok (.iload_n 2, 1) := by decide +kernel
theorem dX1_choose_134 : decode cX1_choose 134 = .ok (.aload_n 0, 1) := by decide +kernel
theorem dX1_choose_135 : decode cX1_choose 135 = .ok (.getfield 22, 3) := by decide +kernel
theorem dX1_choose_138 : decode cX1_choose 138 = .ok (.iconst 3, 1) := by decide +kernel
theorem dX1_choose_139 : decode cX1_choose 139 = .ok (.iaload, 1) := by decide +kernel
theorem dX1_choose_140 : decode cX1_choose 140 = .ok (.iconst (-1), 1) := by decide +kernel
theorem dX1_choose_141 : decode cX1_choose 141 = .ok (.ixor, 1) := by decide +kernel
theorem dX1_choose_142 : decode cX1_choose 142 = .ok (.iand, 1) := by decide +kernel
theorem dX1_choose_143 : decode cX1_choose 143 = .ok (.ior, 1) := by decide +kernel
theorem dX1_choose_144 : decode cX1_choose 144 = .ok (.iand, 1) := by decide +kernel
theorem dX1_choose_145 : decode cX1_choose 145 = .ok (.istore 5, 2) := by decide +kernel
theorem dX1_choose_147 : decode cX1_choose 147 = .ok (.iload_n 3, 1) := by decide +kernel
theorem dX1_choose_148 : decode cX1_choose 148 = .ok (.aload_n 0, 1) := by decide +kernel
theorem dX1_choose_149 : decode cX1_choose 149 = .ok (.getfield 133, 3) := by decide +kernel
theorem dX1_choose_152 : decode cX1_choose 152 = .ok (.if_icmp .ge 64, 3) := by decide +kernel
theorem dX1_choose_155 : decode cX1_choose 155 = .ok (.iload 4, 2) := by decide +kernel
theorem dX1_choose_157 : decode cX1_choose 157 = .ok (.iload 5, 2) := by decide +kernel
theorem dX1_choose_159 : decode cX1_choose 159 = .ok (.iand, 1) := by decide +kernel
theorem dX1_choose_160 : decode cX1_choose 160 = .ok (.ifCond .ne 56, 3) := by decide +kernel
theorem dX1_choose_163 : decode cX1_choose 163 = .ok (.aload_n 0, 1) := by decide +kernel
theorem dX1_choose_164 : decode cX1_choose 164 = .ok (.iload 4, 2) := by decide +kernel
theorem dX1_choose_166 : decode cX1_choose 166 = .ok (.iload 5, 2) := by decide +kernel
theorem dX1_choose_168 : decode cX1_choose 168 = .ok (.invokevirtual 127, 3) := by decide +kernel
theorem dX1_choose_171 : decode cX1_choose 171 = .ok (.istore 6, 2) := by decide +kernel
theorem dX1_choose_173 : decode cX1_choose 173 = .ok (.iload_n 3, 1) := by decide +kernel
theorem dX1_choose_174 : decode cX1_choose 174 = .ok (.aload_n 0, 1) := by decide +kernel
theorem dX1_choose_175 : decode cX1_choose 175 = .ok (.getfield 54, 3) := by decide +kernel
theorem dX1_choose_178 : decode cX1_choose 178 = .ok (.iload 6, 2) := by decide +kernel
theorem dX1_choose_180 : decode cX1_choose 180 = .ok (.invokestatic 130, 3) := by decide +kernel
theorem dX1_choose_183 : decode cX1_choose 183 = .ok (.iadd, 1) := by decide +kernel
theorem dX1_choose_184 : decode cX1_choose 184 = .ok (.istore 7, 2) := by decide +kernel
theorem dX1_choose_186 : decode cX1_choose 186 = .ok (.iload 7, 2) := by decide +kernel
theorem dX1_choose_188 : decode cX1_choose 188 = .ok (.aload_n 0, 1) := by decide +kernel
theorem dX1_choose_189 : decode cX1_choose 189 = .ok (.getfield 133, 3) := by decide +kernel
theorem dX1_choose_192 : decode cX1_choose 192 = .ok (.if_icmp .ge 24, 3) := by decide +kernel
theorem dX1_choose_195 : decode cX1_choose 195 = .ok (.aload_n 0, 1) := by decide +kernel
theorem dX1_choose_196 : decode cX1_choose 196 = .ok (.iload 7, 2) := by decide +kernel
theorem dX1_choose_198 : decode cX1_choose 198 = .ok (.putfield 133, 3) := by decide +kernel
theorem dX1_choose_201 : decode cX1_choose 201 = .ok (.aload_n 0, 1) := by decide +kernel
theorem dX1_choose_202 : decode cX1_choose 202 = .ok (.getfield 31, 3) := by decide +kernel
theorem dX1_choose_205 : decode cX1_choose 205 = .ok (.iconst 0, 1) := by decide +kernel
theorem dX1_choose_206 : decode cX1_choose 206 = .ok (.iload_n 2, 1) := by decide +kernel
theorem dX1_choose_207 : decode cX1_choose 207 = .ok (.iastore, 1) := by decide +kernel
theorem dX1_choose_208 : decode cX1_choose 208 = .ok (.aload_n 0, 1) := by decide +kernel
theorem dX1_choose_209 : decode cX1_choose 209 = .ok (.getfield 31, 3) := by decide +kernel
theorem dX1_choose_212 : decode cX1_choose 212 = .ok (.iconst 1, 1) := by decide +kernel
theorem dX1_choose_213 : decode cX1_choose 213 = .ok (.iload 6, 2) := by decide +kernel
theorem dX1_choose_215 : decode cX1_choose 215 = .ok (.iastore, 1) := by decide +kernel
theorem dX1_choose_216 : decode cX1_choose 216 = .ok (.iinc 2 1, 3) := by decide +kernel
theorem dX1_choose_219 : decode cX1_choose 219 = .ok (.goto (-140), 3) := by decide +kernel
theorem dX1_choose_222 : decode cX1_choose 222 = .ok (.return_, 1) := by decide +kernel
def XX1_tell_p135   (s1 : Int) (h : Hp) : OR :=
  hm (wr h 45 5 s1) (fun h4 => zb 1 (some (1, h4)))
def XX1_tell_p85   (l1 l2 l3 : Int) (h : Hp) : OR :=
  inb 0 3 (hm (wr h 47 (0 : Int).toNat l1) (fun h1 => inb 1 3 (hm (wr h1 47 (1 : Int).toNat l2) (fun h2 => inb 2 3 (hm (wr h2 47 (2 : Int).toNat l3) (fun h3 => if l1 = (-1) then XX1_tell_p135 0 h3 else if l2 = (-1) then XX1_tell_p135 1 h3 else if l3 = (-1) then XX1_tell_p135 2 h3 else XX1_tell_p135 3 h3))))))
def XX1_tell_p68   (l1 l2 l3 : Int) (h : Hp) : OR :=
  if l3 = (-1) then XX1_tell_p85 l1 l2 l3 h else if l2 = (-1) then zb 0 (some (0, h)) else if l2 < l3 then XX1_tell_p85 l1 l2 l3 h else zb 0 (some (0, h))
def XX1_tell_p53   (l1 l2 l3 : Int) (h : Hp) : OR :=
  if l2 = (-1) then XX1_tell_p68 l1 l2 l3 h else if l1 = (-1) then zb 0 (some (0, h)) else if l2 ≤ l1 then zb 0 (some (0, h)) else XX1_tell_p68 l1 l2 l3 h
def XX1_tell_p37   (l1 l2 l3 : Int) (h : Hp) : OR :=
  if l3 = (-1) then XX1_tell_p53 l1 l2 l3 h else cal (XX8_isWire 18 l3 h) (fun r5 h6 => if r5 = 0 then zb 0 (some (0, h6)) else XX1_tell_p53 l1 l2 l3 h6)
def XX1_tell_p23   (l1 l2 l3 : Int) (h : Hp) : OR :=
  if l2 = (-1) then XX1_tell_p37 l1 l2 l3 h else cal (XX8_isWire 18 l2 h) (fun r7 h8 => if r7 = 0 then zb 0 (some (0, h8)) else XX1_tell_p37 l1 l2 l3 h8)
def XX1_tell (x0 : Int) (x1 : Int) (x2 : Int) (h : Hp) : OR :=
  if x0 = (-1) then XX1_tell_p23 x0 x1 x2 h else cal (XX8_isWire 18 x0 h) (fun r9 h10 => if r9 = 0 then zb 0 (some (0, h10)) else XX1_tell_p23 x0 x1 x2 h10)
theorem sX1_tell_p135 {Γ : Cx} {w : Wd} (hw : okX w) (g : Gd Γ cX1_tell 5 "GatePatch$Finder" (Option.some Jvm.ClassFile.FieldType.boolean) (rmd 3))   (s1 : Int) (h : Hp) : Sim Γ w 0 (XX1_tell_p135   s1 h) h 135 [] [vI s1, vP 45] := by
  unfold XX1_tell_p135
  refine S_puti g dX1_tell_135 fp_Finder_54 (at_45 hw) rfl (fun h4 => ?_)
  refine S_iconst g dX1_tell_138 ⟨by decide, by decide⟩ ?_
  exact S_zreturn g dX1_tell_139 rfl

theorem sX1_tell_p85 {Γ : Cx} {w : Wd} (hw : okX w) (g : Gd Γ cX1_tell 5 "GatePatch$Finder" (Option.some Jvm.ClassFile.FieldType.boolean) (rmd 3))   (l1 l2 l3 : Int) (h : Hp) : Sim Γ w 0 (XX1_tell_p85  l1 l2 l3  h) h 85 [(0, vP 45), (1, vI l1), (2, vI l2), (3, vI l3)] [] := by
  unfold XX1_tell_p85
  refine S_aload_n (kk := 0) g dX1_tell_85 rfl rfl ?_
  refine S_getr g dX1_tell_86 fl_Finder_15 (at_45 hw) rfl (rc_45_4 hw) ?_
  refine S_iconst g dX1_tell_89 ⟨by decide, by decide⟩ ?_
  refine S_iload_n (kk := 1) g dX1_tell_90 rfl rfl ?_
  refine S_iastore g dX1_tell_91 (at_47 hw) (fun h1 => ?_)
  refine S_aload_n (kk := 0) g dX1_tell_92 rfl rfl ?_
  refine S_getr g dX1_tell_93 fl_Finder_15 (at_45 hw) rfl (rc_45_4 hw) ?_
  refine S_iconst g dX1_tell_96 ⟨by decide, by decide⟩ ?_
  refine S_iload_n (kk := 2) g dX1_tell_97 rfl rfl ?_
  refine S_iastore g dX1_tell_98 (at_47 hw) (fun h2 => ?_)
  refine S_aload_n (kk := 0) g dX1_tell_99 rfl rfl ?_
  refine S_getr g dX1_tell_100 fl_Finder_15 (at_45 hw) rfl (rc_45_4 hw) ?_
  refine S_iconst g dX1_tell_103 ⟨by decide, by decide⟩ ?_
  refine S_iload_n (kk := 3) g dX1_tell_104 rfl rfl ?_
  refine S_iastore g dX1_tell_105 (at_47 hw) (fun h3 => ?_)
  refine S_aload_n (kk := 0) g dX1_tell_106 rfl rfl ?_
  refine S_iload_n (kk := 1) g dX1_tell_107 rfl rfl ?_
  refine S_iconst g dX1_tell_108 ⟨by decide, by decide⟩ ?_
  refine S_icmp_ne (tgt := 116) g dX1_tell_109 (by decide) ?_ ?_
  · refine S_iload_n (kk := 2) g dX1_tell_116 rfl rfl ?_
    refine S_iconst g dX1_tell_117 ⟨by decide, by decide⟩ ?_
    refine S_icmp_ne (tgt := 125) g dX1_tell_118 (by decide) ?_ ?_
    · refine S_iload_n (kk := 3) g dX1_tell_125 rfl rfl ?_
      refine S_iconst g dX1_tell_126 ⟨by decide, by decide⟩ ?_
      refine S_icmp_ne (tgt := 134) g dX1_tell_127 (by decide) ?_ ?_
      · refine S_iconst g dX1_tell_134 ⟨by decide, by decide⟩ ?_
        refine S_sub g [] rfl ?_
        exact sX1_tell_p135 hw g _ _
      · refine S_iconst g dX1_tell_130 ⟨by decide, by decide⟩ ?_
        refine S_goto (tgt := 135) g dX1_tell_131 (by decide) ?_
        refine S_sub g [] rfl ?_
        exact sX1_tell_p135 hw g _ _
    · refine S_iconst g dX1_tell_121 ⟨by decide, by decide⟩ ?_
      refine S_goto (tgt := 135) g dX1_tell_122 (by decide) ?_
      refine S_sub g [] rfl ?_
      exact sX1_tell_p135 hw g _ _
  · refine S_iconst g dX1_tell_112 ⟨by decide, by decide⟩ ?_
    refine S_goto (tgt := 135) g dX1_tell_113 (by decide) ?_
    refine S_sub g [] rfl ?_
    exact sX1_tell_p135 hw g _ _

theorem sX1_tell_p68 {Γ : Cx} {w : Wd} (hw : okX w) (g : Gd Γ cX1_tell 5 "GatePatch$Finder" (Option.some Jvm.ClassFile.FieldType.boolean) (rmd 3))   (l1 l2 l3 : Int) (h : Hp) : Sim Γ w 0 (XX1_tell_p68  l1 l2 l3  h) h 68 [(0, vP 45), (1, vI l1), (2, vI l2), (3, vI l3)] [] := by
  unfold XX1_tell_p68
  refine S_iload_n (kk := 3) g dX1_tell_68 rfl rfl ?_
  refine S_iconst g dX1_tell_69 ⟨by decide, by decide⟩ ?_
  refine S_icmp_eq (tgt := 85) g dX1_tell_70 (by decide) ?_ ?_
  · exact sX1_tell_p85 hw g _ _ _ _
  · refine S_iload_n (kk := 2) g dX1_tell_73 rfl rfl ?_
    refine S_iconst g dX1_tell_74 ⟨by decide, by decide⟩ ?_
    refine S_icmp_eq (tgt := 83) g dX1_tell_75 (by decide) ?_ ?_
    · refine S_iconst g dX1_tell_83 ⟨by decide, by decide⟩ ?_
      exact S_zreturn g dX1_tell_84 rfl
    · refine S_iload_n (kk := 3) g dX1_tell_78 rfl rfl ?_
      refine S_iload_n (kk := 2) g dX1_tell_79 rfl rfl ?_
      refine S_icmp_gt (tgt := 85) g dX1_tell_80 (by decide) ?_ ?_
      · exact sX1_tell_p85 hw g _ _ _ _
      · refine S_iconst g dX1_tell_83 ⟨by decide, by decide⟩ ?_
        exact S_zreturn g dX1_tell_84 rfl

theorem sX1_tell_p53 {Γ : Cx} {w : Wd} (hw : okX w) (g : Gd Γ cX1_tell 5 "GatePatch$Finder" (Option.some Jvm.ClassFile.FieldType.boolean) (rmd 3))   (l1 l2 l3 : Int) (h : Hp) : Sim Γ w 0 (XX1_tell_p53  l1 l2 l3  h) h 53 [(0, vP 45), (1, vI l1), (2, vI l2), (3, vI l3)] [] := by
  unfold XX1_tell_p53
  refine S_iload_n (kk := 2) g dX1_tell_53 rfl rfl ?_
  refine S_iconst g dX1_tell_54 ⟨by decide, by decide⟩ ?_
  refine S_icmp_eq (tgt := 68) g dX1_tell_55 (by decide) ?_ ?_
  · exact sX1_tell_p68 hw g _ _ _ _
  · refine S_iload_n (kk := 1) g dX1_tell_58 rfl rfl ?_
    refine S_iconst g dX1_tell_59 ⟨by decide, by decide⟩ ?_
    refine S_icmp_eq (tgt := 83) g dX1_tell_60 (by decide) ?_ ?_
    · refine S_iconst g dX1_tell_83 ⟨by decide, by decide⟩ ?_
      exact S_zreturn g dX1_tell_84 rfl
    · refine S_iload_n (kk := 2) g dX1_tell_63 rfl rfl ?_
      refine S_iload_n (kk := 1) g dX1_tell_64 rfl rfl ?_
      refine S_icmp_le (tgt := 83) g dX1_tell_65 (by decide) ?_ ?_
      · refine S_iconst g dX1_tell_83 ⟨by decide, by decide⟩ ?_
        exact S_zreturn g dX1_tell_84 rfl
      · exact sX1_tell_p68 hw g _ _ _ _

theorem sX1_tell_p37 {Γ : Cx} {w : Wd} (hw : okX w) (g : Gd Γ cX1_tell 5 "GatePatch$Finder" (Option.some Jvm.ClassFile.FieldType.boolean) (rmd 3))   (l1 l2 l3 : Int) (h : Hp) : Sim Γ w 0 (XX1_tell_p37  l1 l2 l3  h) h 37 [(0, vP 45), (1, vI l1), (2, vI l2), (3, vI l3), (4, vP 18)] [] := by
  unfold XX1_tell_p37
  refine S_iload_n (kk := 3) g dX1_tell_37 rfl rfl ?_
  refine S_iconst g dX1_tell_38 ⟨by decide, by decide⟩ ?_
  refine S_icmp_eq (tgt := 53) g dX1_tell_39 (by decide) ?_ ?_
  · refine S_sub g [0, 1, 2, 3] rfl ?_
    exact sX1_tell_p53 hw g _ _ _ _
  · refine S_aload (kk := 4) g dX1_tell_42 rfl ?_
    refine S_iload_n (kk := 3) g dX1_tell_44 rfl rfl ?_
    refine S_callVi (As := [vI l3]) g dX1_tell_45 (sX8_isWire hw 18 (pl_18 hw) _ _) rfl (at_18 hw) rfl im_X8_isWire se_X8_isWire cw_X8_isWire ml_Finder_48 ini_Plan nd_X8_isWire ⟨by decide, by decide⟩ (Nat.le_of_ble_eq_true rfl) (fun r5 h6 => ?_)
    refine S_if_ne (tgt := 53) g dX1_tell_48 (by decide) ?_ ?_
    · refine S_sub g [0, 1, 2, 3] rfl ?_
      exact sX1_tell_p53 hw g _ _ _ _
    · refine S_iconst g dX1_tell_51 ⟨by decide, by decide⟩ ?_
      exact S_zreturn g dX1_tell_52 rfl

theorem sX1_tell_p23 {Γ : Cx} {w : Wd} (hw : okX w) (g : Gd Γ cX1_tell 5 "GatePatch$Finder" (Option.some Jvm.ClassFile.FieldType.boolean) (rmd 3))   (l1 l2 l3 : Int) (h : Hp) : Sim Γ w 0 (XX1_tell_p23  l1 l2 l3  h) h 23 [(0, vP 45), (1, vI l1), (2, vI l2), (3, vI l3), (4, vP 18)] [] := by
  unfold XX1_tell_p23
  refine S_iload_n (kk := 2) g dX1_tell_23 rfl rfl ?_
  refine S_iconst g dX1_tell_24 ⟨by decide, by decide⟩ ?_
  refine S_icmp_eq (tgt := 37) g dX1_tell_25 (by decide) ?_ ?_
  · exact sX1_tell_p37 hw g _ _ _ _
  · refine S_aload (kk := 4) g dX1_tell_28 rfl ?_
    refine S_iload_n (kk := 2) g dX1_tell_30 rfl rfl ?_
    refine S_callVi (As := [vI l2]) g dX1_tell_31 (sX8_isWire hw 18 (pl_18 hw) _ _) rfl (at_18 hw) rfl im_X8_isWire se_X8_isWire cw_X8_isWire ml_Finder_48 ini_Plan nd_X8_isWire ⟨by decide, by decide⟩ (Nat.le_of_ble_eq_true rfl) (fun r7 h8 => ?_)
    refine S_if_eq (tgt := 51) g dX1_tell_34 (by decide) ?_ ?_
    · refine S_iconst g dX1_tell_51 ⟨by decide, by decide⟩ ?_
      exact S_zreturn g dX1_tell_52 rfl
    · exact sX1_tell_p37 hw g _ _ _ _

theorem sX1_tell {G : GG} {w : Wd} (hw : okX w) (x0 : Int) (x1 : Int) (x2 : Int) (h : Hp) : SC G w yX1_tell (Cond.code yX1_tell cX1_tell 5 (Option.some Jvm.ClassFile.FieldType.boolean)) 3 0 [vP 45, vI x0, vI x1, vI x2] (XX1_tell x0 x1 x2 h) h := by
  refine SC_of (own := "GatePatch$Finder") plain_Finder rfl (Nat.le_of_ble_eq_true rfl) (fun Γ hG g => ?_)
  subst hG
  show Sim Γ w 0 _ h 0 [(0, vP 45), (1, vI x0), (2, vI x1), (3, vI x2)] []
  unfold XX1_tell
  refine S_aload_n (kk := 0) g dX1_tell_0 rfl rfl ?_
  refine S_getr g dX1_tell_1 fl_Finder_34 (at_45 hw) rfl (rc_45_0 hw) ?_
  refine S_getr g dX1_tell_4 fl_Finder_42 (at_17 hw) rfl (rc_17_0 hw) ?_
  refine S_astore g dX1_tell_7 (by decide) rfl ?_
  refine S_iload_n (kk := 2) g dX1_tell_9 rfl rfl ?_
  refine S_iconst g dX1_tell_10 ⟨by decide, by decide⟩ ?_
  refine S_icmp_eq (tgt := 23) g dX1_tell_11 (by decide) ?_ ?_
  · refine S_sub g [1, 2, 3, 4, 0] rfl ?_
    exact sX1_tell_p23 hw g _ _ _ _
  · refine S_aload (kk := 0) g dX1_tell_14 rfl ?_
    refine S_iload_n (kk := 2) g dX1_tell_16 rfl rfl ?_
    refine S_callVi (As := [vI x0]) g dX1_tell_17 (sX8_isWire hw 18 (pl_18 hw) _ _) rfl (at_18 hw) rfl im_X8_isWire se_X8_isWire cw_X8_isWire ml_Finder_48 ini_Plan nd_X8_isWire ⟨by decide, by decide⟩ (Nat.le_of_ble_eq_true rfl) (fun r9 h10 => ?_)
    refine S_if_eq (tgt := 51) g dX1_tell_20 (by decide) ?_ ?_
    · refine S_iconst g dX1_tell_51 ⟨by decide, by decide⟩ ?_
      exact S_zreturn g dX1_tell_52 rfl
    · refine S_sub g [1, 2, 3, 4, 0] rfl ?_
      exact sX1_tell_p23 hw g _ _ _ _

def XX1_toldHangOn_b2   (self2 : Int → Int → Hp → OR) (l1 l3 : Int) (h : Hp) : OR :=
  if (h 45 5) ≤ l3 then zb 0 (some (0, h)) else inb l3 3 (inb (h 47 l3.toNat) 48 (if (jcmp (jand (h 24 (h 47 l3.toNat).toNat) l1) 0) = 0 then chk (l3 + 1) (self2 l1 (l3 + 1) h) else zb 1 (some (1, h))))
def XX1_toldHangOn_L2   (l1 l3 : Int) (h : Hp) : OR := lup2 (XX1_toldHangOn_b2 ) FU l1 l3 h
def XX1_toldHangOn (x0 : Int) (h : Hp) : OR :=
  XX1_toldHangOn_L2 x0 0 h
theorem sX1_toldHangOn_L2 {Γ : Cx} {w : Wd} (hw : okX w) (g : Gd Γ cX1_toldHangOn 4 "GatePatch$Finder" (Option.some Jvm.ClassFile.FieldType.boolean) (rmd 1))   : ∀ (l1 l3 : Int) (h : Hp), Sim Γ w 0 (XX1_toldHangOn_L2  l1 l3 h) h 2 [(0, vP 45), (1, vJ l1), (3, vI l3)] [] := by
  refine S_lup2 (fun l1 l3 => [(0, vP 45), (1, vJ l1), (3, vI l3)]) (fun self2 hs2 l1 l3 h => ?_) FU
  unfold XX1_toldHangOn_b2
  refine S_iload_n (kk := 2) g dX1_toldHangOn_2 rfl rfl ?_
  refine S_aload_n (kk := 0) g dX1_toldHangOn_3 rfl rfl ?_
  refine S_geti g dX1_toldHangOn_4 fl_Finder_54 (at_45 hw) (Or.inl rfl) ?_
  refine S_icmp_ge (tgt := 39) g dX1_toldHangOn_7 (by decide) ?_ ?_
  · refine S_iconst g dX1_toldHangOn_39 ⟨by decide, by decide⟩ ?_
    exact S_zreturn g dX1_toldHangOn_40 rfl
  · refine S_aload_n (kk := 0) g dX1_toldHangOn_10 rfl rfl ?_
    refine S_getr g dX1_toldHangOn_11 fl_Finder_34 (at_45 hw) rfl (rc_45_0 hw) ?_
    refine S_getr g dX1_toldHangOn_14 fl_Finder_58 (at_17 hw) rfl (rc_17_3 hw) ?_
    refine S_aload_n (kk := 0) g dX1_toldHangOn_17 rfl rfl ?_
    refine S_getr g dX1_toldHangOn_18 fl_Finder_15 (at_45 hw) rfl (rc_45_4 hw) ?_
    refine S_iload_n (kk := 2) g dX1_toldHangOn_21 rfl rfl ?_
    refine S_iaload g dX1_toldHangOn_22 (at_47 hw) ?_
    refine S_laload g dX1_toldHangOn_23 (at_24 hw) ?_
    refine S_lload_n (kk := 1) g dX1_toldHangOn_24 rfl rfl ?_
    refine S_land g dX1_toldHangOn_25 ?_
    refine S_lconst (x := 0) g dX1_toldHangOn_26 ⟨by decide, by decide⟩ rfl ?_
    refine S_lcmp g dX1_toldHangOn_27 ?_
    refine S_if_eq (tgt := 33) g dX1_toldHangOn_28 (by decide) ?_ ?_
    · refine S_iinc (kk := 2) g dX1_toldHangOn_33 rfl (by decide) rfl ?_
      refine S_goto (tgt := 2) g dX1_toldHangOn_36 (by decide) ?_
      refine S_sub g [1, 2, 0] rfl ?_
      exact hs2 _ _ _
    · refine S_iconst g dX1_toldHangOn_31 ⟨by decide, by decide⟩ ?_
      exact S_zreturn g dX1_toldHangOn_32 rfl

theorem sX1_toldHangOn {G : GG} {w : Wd} (hw : okX w) (x0 : Int) (h : Hp) : SC G w yX1_toldHangOn (Cond.code yX1_toldHangOn cX1_toldHangOn 4 (Option.some Jvm.ClassFile.FieldType.boolean)) 1 0 [vP 45, vJ x0] (XX1_toldHangOn x0 h) h := by
  refine SC_of (own := "GatePatch$Finder") plain_Finder rfl (Nat.le_of_ble_eq_true rfl) (fun Γ hG g => ?_)
  subst hG
  show Sim Γ w 0 _ h 0 [(0, vP 45), (1, vJ x0)] []
  unfold XX1_toldHangOn
  refine S_iconst g dX1_toldHangOn_0 ⟨by decide, by decide⟩ ?_
  refine S_istore_n g dX1_toldHangOn_1 rfl (by decide) rfl ?_
  refine S_sub g [1, 2, 0] rfl ?_
  exact sX1_toldHangOn_L2 hw g _ _ _

def XX1_learn_b60  (self42 : Int → Hp → OR) (self60 : Int → Int → Hp → OR) (l2 l3 : Int) (h : Hp) : OR :=
  if (ashl 1 (h 45 3)) ≤ l3 then chk (l2 + 1) (self42 (l2 + 1) h) else chk (4 * l3) (chk ((4 * l3) + l2) (cal (XX5_mended l3 h) (fun r4 h5 => inb ((4 * l3) + l2) 16 (hm (wr h5 48 ((4 * l3) + l2).toNat r4) (fun h6 => chk (l3 + 1) (self60 l2 (l3 + 1) h6))))))
def XX1_learn_L60  (self42 : Int → Hp → OR) (l2 l3 : Int) (h : Hp) : OR := lup2 (XX1_learn_b60 self42) FU l2 l3 h
def XX1_learn_b42   (self42 : Int → Hp → OR) (l2 : Int) (h : Hp) : OR :=
  if (h 37 1) ≤ l2 then some (0, h) else cal (XX5_load l2 h) (fun r2 h3 => XX1_learn_L60 self42 l2 0 h3)
def XX1_learn_L42   (l2 : Int) (h : Hp) : OR := lup1 (XX1_learn_b42 ) FU l2 h
def XX1_learn_b14   (self14 : Int → Hp → OR) (l2 : Int) (h : Hp) : OR :=
  if (h 45 3) ≤ l2 then XX1_learn_L42 0 h else inb l2 3 (inb l2 2 (hm (wr h 46 l2.toNat (h 41 l2.toNat)) (fun h7 => chk (l2 + 1) (self14 (l2 + 1) h7))))
def XX1_learn_L14   (l2 : Int) (h : Hp) : OR := lup1 (XX1_learn_b14 ) FU l2 h
def XX1_learn  (h : Hp) : OR :=
  hm (wr h 45 3 (imin (h 40 4) 2)) (fun h1 => XX1_learn_L14 0 h1)
theorem sX1_learn_L60 {Γ : Cx} {w : Wd} (hw : okX w) (g : Gd Γ cX1_learn 4 "GatePatch$Finder" (Option.none : Option Jvm.ClassFile.FieldType) (rmd 4))  (self42 : Int → Hp → OR) (hs42 : ∀ (x0 : Int) (h : Hp), Sim Γ w 3 (self42 x0 h) h 42 [(0, vP 45), (1, vP 40), (2, vI x0)] []) : ∀ (l2 l3 : Int) (h : Hp), Sim Γ w 3 (XX1_learn_L60 self42 l2 l3 h) h 60 [(0, vP 45), (1, vP 40), (2, vI l2), (3, vI l3)] [] := by
  refine S_lup2 (fun l2 l3 => [(0, vP 45), (1, vP 40), (2, vI l2), (3, vI l3)]) (fun self60 hs60 l2 l3 h => ?_) FU
  unfold XX1_learn_b60
  refine S_iload_n (kk := 3) g dX1_learn_60 rfl rfl ?_
  refine S_iconst g dX1_learn_61 ⟨by decide, by decide⟩ ?_
  refine S_aload_n (kk := 0) g dX1_learn_62 rfl rfl ?_
  refine S_geti g dX1_learn_63 fl_Finder_72 (at_45 hw) (Or.inl rfl) ?_
  refine S_ishl g dX1_learn_66 ?_
  refine S_icmp_ge (tgt := 91) g dX1_learn_67 (by decide) ?_ ?_
  · refine S_iinc (kk := 2) g dX1_learn_91 rfl (by decide) rfl ?_
    refine S_goto (tgt := 42) g dX1_learn_94 (by decide) ?_
    refine S_sub g [1, 2, 0] rfl ?_
    exact hs42 _ _
  · refine S_aload_n (kk := 0) g dX1_learn_70 rfl rfl ?_
    refine S_getr g dX1_learn_71 fl_Finder_18 (at_45 hw) rfl (rc_45_6 hw) ?_
    refine S_iconst g dX1_learn_74 ⟨by decide, by decide⟩ ?_
    refine S_iload_n (kk := 3) g dX1_learn_75 rfl rfl ?_
    refine S_imul g dX1_learn_76 ?_
    refine S_iload_n (kk := 2) g dX1_learn_77 rfl rfl ?_
    refine S_iadd g dX1_learn_78 ?_
    refine S_aload_n (kk := 1) g dX1_learn_79 rfl rfl ?_
    refine S_iload_n (kk := 3) g dX1_learn_80 rfl rfl ?_
    refine S_callVj (As := [vI l3]) g dX1_learn_81 (sX5_mended hw _ _) rfl (at_40 hw) rfl im_X5_mended se_X5_mended cw_X5_mended ml_Finder_83 ini_Mender nd_X5_mended ⟨by decide, by decide⟩ (Nat.le_of_ble_eq_true rfl) (fun r4 h5 => ?_)
    refine S_lastore g dX1_learn_84 (at_48 hw) (fun h6 => ?_)
    refine S_iinc (kk := 3) g dX1_learn_85 rfl (by decide) rfl ?_
    refine S_goto (tgt := 60) g dX1_learn_88 (by decide) ?_
    refine S_sub g [1, 2, 3, 0] rfl ?_
    exact hs60 _ _ _

theorem sX1_learn_L42 {Γ : Cx} {w : Wd} (hw : okX w) (g : Gd Γ cX1_learn 4 "GatePatch$Finder" (Option.none : Option Jvm.ClassFile.FieldType) (rmd 4))   : ∀ (l2 : Int) (h : Hp), Sim Γ w 3 (XX1_learn_L42  l2 h) h 42 [(0, vP 45), (1, vP 40), (2, vI l2)] [] := by
  refine S_lup1 (fun l2 => [(0, vP 45), (1, vP 40), (2, vI l2)]) (fun self42 hs42 l2 h => ?_) FU
  unfold XX1_learn_b42
  refine S_iload_n (kk := 2) g dX1_learn_42 rfl rfl ?_
  refine S_aload_n (kk := 0) g dX1_learn_43 rfl rfl ?_
  refine S_getr g dX1_learn_44 fl_Finder_38 (at_45 hw) rfl (rc_45_1 hw) ?_
  refine S_geti g dX1_learn_47 fl_Finder_74 (at_37 hw) (Or.inl rfl) ?_
  refine S_icmp_ge (tgt := 97) g dX1_learn_50 (by decide) ?_ ?_
  · exact S_return g dX1_learn_97 rfl
  · refine S_aload_n (kk := 1) g dX1_learn_53 rfl rfl ?_
    refine S_iload_n (kk := 2) g dX1_learn_54 rfl rfl ?_
    refine S_callVv (As := [vI l2]) g dX1_learn_55 (sX5_load hw _ _) rfl (at_40 hw) rfl im_X5_load se_X5_load cw_X5_load ml_Finder_79 ini_Mender nd_X5_load ⟨by decide, by decide⟩ (Nat.le_of_ble_eq_true rfl) (fun r2 h3 => ?_)
    refine S_iconst g dX1_learn_58 ⟨by decide, by decide⟩ ?_
    refine S_istore_n g dX1_learn_59 rfl (by decide) rfl ?_
    refine S_sub g [1, 2, 3, 0] rfl ?_
    exact sX1_learn_L60 hw g self42 hs42 _ _ _

theorem sX1_learn_L14 {Γ : Cx} {w : Wd} (hw : okX w) (g : Gd Γ cX1_learn 4 "GatePatch$Finder" (Option.none : Option Jvm.ClassFile.FieldType) (rmd 4))   : ∀ (l2 : Int) (h : Hp), Sim Γ w 3 (XX1_learn_L14  l2 h) h 14 [(0, vP 45), (1, vP 40), (2, vI l2)] [] := by
  refine S_lup1 (fun l2 => [(0, vP 45), (1, vP 40), (2, vI l2)]) (fun self14 hs14 l2 h => ?_) FU
  unfold XX1_learn_b14
  refine S_iload_n (kk := 2) g dX1_learn_14 rfl rfl ?_
  refine S_aload_n (kk := 0) g dX1_learn_15 rfl rfl ?_
  refine S_geti g dX1_learn_16 fl_Finder_72 (at_45 hw) (Or.inl rfl) ?_
  refine S_icmp_ge (tgt := 40) g dX1_learn_19 (by decide) ?_ ?_
  · refine S_iconst g dX1_learn_40 ⟨by decide, by decide⟩ ?_
    refine S_istore_n g dX1_learn_41 rfl (by decide) rfl ?_
    refine S_sub g [1, 2, 0] rfl ?_
    exact sX1_learn_L42 hw g _ _
  · refine S_aload_n (kk := 0) g dX1_learn_22 rfl rfl ?_
    refine S_getr g dX1_learn_23 fl_Finder_9 (at_45 hw) rfl (rc_45_2 hw) ?_
    refine S_iload_n (kk := 2) g dX1_learn_26 rfl rfl ?_
    refine S_aload_n (kk := 1) g dX1_learn_27 rfl rfl ?_
    refine S_getr g dX1_learn_28 fl_Finder_73 (at_40 hw) rfl (rc_40_3 hw) ?_
    refine S_iload_n (kk := 2) g dX1_learn_31 rfl rfl ?_
    refine S_iaload g dX1_learn_32 (at_41 hw) ?_
    refine S_iastore g dX1_learn_33 (at_46 hw) (fun h7 => ?_)
    refine S_iinc (kk := 2) g dX1_learn_34 rfl (by decide) rfl ?_
    refine S_goto (tgt := 14) g dX1_learn_37 (by decide) ?_
    refine S_sub g [1, 2, 0] rfl ?_
    exact hs14 _ _

theorem sX1_learn {G : GG} {w : Wd} (hw : okX w)  (h : Hp) : SC G w yX1_learn (Cond.code yX1_learn cX1_learn 4 (Option.none : Option Jvm.ClassFile.FieldType)) 4 3 [vP 45, vP 40] (XX1_learn  h) h := by
  refine SC_of (own := "GatePatch$Finder") plain_Finder rfl (Nat.le_of_ble_eq_true rfl) (fun Γ hG g => ?_)
  subst hG
  show Sim Γ w 3 _ h 0 [(0, vP 45), (1, vP 40)] []
  unfold XX1_learn
  refine S_aload_n (kk := 0) g dX1_learn_0 rfl rfl ?_
  refine S_aload_n (kk := 1) g dX1_learn_1 rfl rfl ?_
  refine S_geti g dX1_learn_2 fl_Finder_61 (at_40 hw) (Or.inl rfl) ?_
  refine S_iconst g dX1_learn_5 ⟨by decide, by decide⟩ ?_
  refine S_mmin g dX1_learn_6 ml_Finder_66 ma_st_min ini_Math ma_cw_min (by decide) (Nat.le_of_ble_eq_true rfl) ?_
  refine S_puti g dX1_learn_9 fp_Finder_72 (at_45 hw) rfl (fun h1 => ?_)
  refine S_iconst g dX1_learn_12 ⟨by decide, by decide⟩ ?_
  refine S_istore_n g dX1_learn_13 rfl (by decide) rfl ?_
  refine S_sub g [1, 2, 0] rfl ?_
  exact sX1_learn_L14 hw g _ _

def XX1_mendsAll_p111  (self2 : Int → Int → Int → Hp → OR) (l1 l2 l3 l4 : Int) (h : Hp) : OR :=
  if (jcmp l4 0) = 0 then chk (l3 + 1) (self2 l1 l2 (l3 + 1) h) else zb 0 (some (0, h))
def XX1_mendsAll_p102  (self2 : Int → Int → Int → Hp → OR) (self42 : Int → Int → Int → Int → Int → Hp → OR) (l1 l2 l3 l6 : Int) (s0 s1 : Int) (h : Hp) : OR :=
  nm (jand s0 s1) (fun v3 => chk (l6 + 1) (self42 l1 l2 l3 v3 (l6 + 1) h))
def XX1_mendsAll_b42  (self2 : Int → Int → Int → Hp → OR) (self42 : Int → Int → Int → Int → Int → Hp → OR) (l1 l2 l3 l4 l6 : Int) (h : Hp) : OR :=
  if (h 45 5) ≤ l6 then XX1_mendsAll_p111 self2 l1 l2 l3 l4 h else if (jcmp l4 0) = 0 then XX1_mendsAll_p111 self2 l1 l2 l3 l4 h else inb l6 3 (chk (4 * (h 47 l6.toNat)) (chk ((4 * (h 47 l6.toNat)) + l3) (inb ((4 * (h 47 l6.toNat)) + l3) 192 (nm (h 25 ((4 * (h 47 l6.toNat)) + l3).toNat) (fun v2 => if (aand (ashr l2 l6) 1) = 1 then XX1_mendsAll_p102 self2 self42 l1 l2 l3 l6 l4 v2 h else XX1_mendsAll_p102 self2 self42 l1 l2 l3 l6 l4 (jxor v2 (-1)) h)))))
def XX1_mendsAll_L42  (self2 : Int → Int → Int → Hp → OR) (l1 l2 l3 l4 l6 : Int) (h : Hp) : OR := lup5 (XX1_mendsAll_b42 self2) FU l1 l2 l3 l4 l6 h
def XX1_mendsAll_b2   (self2 : Int → Int → Int → Hp → OR) (l1 l2 l3 : Int) (h : Hp) : OR :=
  if (h 37 1) ≤ l3 then zb 1 (some (1, h)) else inb l3 4 (chk (4 * l1) (chk ((4 * l1) + l3) (inb ((4 * l1) + l3) 16 (nm (jand (h 39 l3.toNat) (jxor (h 48 ((4 * l1) + l3).toNat) (-1))) (fun v1 => XX1_mendsAll_L42 self2 l1 l2 l3 v1 0 h)))))
def XX1_mendsAll_L2   (l1 l2 l3 : Int) (h : Hp) : OR := lup3 (XX1_mendsAll_b2 ) FU l1 l2 l3 h
def XX1_mendsAll (x0 : Int) (x1 : Int) (h : Hp) : OR :=
  XX1_mendsAll_L2 x0 x1 0 h
theorem sX1_mendsAll_p111 {Γ : Cx} {w : Wd} (hw : okX w) (g : Gd Γ cX1_mendsAll 9 "GatePatch$Finder" (Option.some Jvm.ClassFile.FieldType.boolean) (rmd 1))  (self2 : Int → Int → Int → Hp → OR) (hs2 : ∀ (x0 x1 x2 : Int) (h : Hp), Sim Γ w 0 (self2 x0 x1 x2 h) h 2 [(0, vP 45), (1, vI x0), (2, vI x1), (3, vI x2)] []) (l1 l2 l3 l4 : Int) (h : Hp) : Sim Γ w 0 (XX1_mendsAll_p111 self2 l1 l2 l3 l4  h) h 111 [(0, vP 45), (1, vI l1), (2, vI l2), (3, vI l3), (4, vJ l4)] [] := by
  unfold XX1_mendsAll_p111
  refine S_lload (kk := 4) g dX1_mendsAll_111 rfl ?_
  refine S_lconst (x := 0) g dX1_mendsAll_113 ⟨by decide, by decide⟩ rfl ?_
  refine S_lcmp g dX1_mendsAll_114 ?_
  refine S_if_eq (tgt := 120) g dX1_mendsAll_115 (by decide) ?_ ?_
  · refine S_iinc (kk := 3) g dX1_mendsAll_120 rfl (by decide) rfl ?_
    refine S_goto (tgt := 2) g dX1_mendsAll_123 (by decide) ?_
    refine S_sub g [1, 2, 3, 0] rfl ?_
    exact hs2 _ _ _ _
  · refine S_iconst g dX1_mendsAll_118 ⟨by decide, by decide⟩ ?_
    exact S_zreturn g dX1_mendsAll_119 rfl

theorem sX1_mendsAll_p102 {Γ : Cx} {w : Wd} (hw : okX w) (g : Gd Γ cX1_mendsAll 9 "GatePatch$Finder" (Option.some Jvm.ClassFile.FieldType.boolean) (rmd 1))  (self2 : Int → Int → Int → Hp → OR) (hs2 : ∀ (x0 x1 x2 : Int) (h : Hp), Sim Γ w 0 (self2 x0 x1 x2 h) h 2 [(0, vP 45), (1, vI x0), (2, vI x1), (3, vI x2)] []) (self42 : Int → Int → Int → Int → Int → Hp → OR) (hs42 : ∀ (x0 x1 x2 x3 x4 : Int) (h : Hp), Sim Γ w 0 (self42 x0 x1 x2 x3 x4 h) h 42 [(0, vP 45), (1, vI x0), (2, vI x1), (3, vI x2), (4, vJ x3), (6, vI x4)] []) (l1 l2 l3 l6 : Int) (s0 s1 : Int) (h : Hp) : Sim Γ w 0 (XX1_mendsAll_p102 self2 self42 l1 l2 l3 l6 s0 s1 h) h 102 [(0, vP 45), (1, vI l1), (2, vI l2), (3, vI l3), (6, vI l6)] [vJ s1, vJ s0] := by
  unfold XX1_mendsAll_p102
  refine S_land g dX1_mendsAll_102 ?_
  refine S_nmJ (fun v3 => ?_)
  refine S_lstore g dX1_mendsAll_103 (by decide) rfl ?_
  refine S_iinc (kk := 5) g dX1_mendsAll_105 rfl (by decide) rfl ?_
  refine S_goto (tgt := 42) g dX1_mendsAll_108 (by decide) ?_
  refine S_sub g [2, 3, 4, 5, 1, 0] rfl ?_
  exact hs42 _ _ _ _ _ _

theorem sX1_mendsAll_L42 {Γ : Cx} {w : Wd} (hw : okX w) (g : Gd Γ cX1_mendsAll 9 "GatePatch$Finder" (Option.some Jvm.ClassFile.FieldType.boolean) (rmd 1))  (self2 : Int → Int → Int → Hp → OR) (hs2 : ∀ (x0 x1 x2 : Int) (h : Hp), Sim Γ w 0 (self2 x0 x1 x2 h) h 2 [(0, vP 45), (1, vI x0), (2, vI x1), (3, vI x2)] []) : ∀ (l1 l2 l3 l4 l6 : Int) (h : Hp), Sim Γ w 0 (XX1_mendsAll_L42 self2 l1 l2 l3 l4 l6 h) h 42 [(0, vP 45), (1, vI l1), (2, vI l2), (3, vI l3), (4, vJ l4), (6, vI l6)] [] := by
  refine S_lup5 (fun l1 l2 l3 l4 l6 => [(0, vP 45), (1, vI l1), (2, vI l2), (3, vI l3), (4, vJ l4), (6, vI l6)]) (fun self42 hs42 l1 l2 l3 l4 l6 h => ?_) FU
  unfold XX1_mendsAll_b42
  refine S_iload (kk := 5) g dX1_mendsAll_42 rfl ?_
  refine S_aload_n (kk := 0) g dX1_mendsAll_44 rfl rfl ?_
  refine S_geti g dX1_mendsAll_45 fl_Finder_54 (at_45 hw) (Or.inl rfl) ?_
  refine S_icmp_ge (tgt := 111) g dX1_mendsAll_48 (by decide) ?_ ?_
  · refine S_sub g [0, 1, 2, 3, 4] rfl ?_
    exact sX1_mendsAll_p111 hw g self2 hs2 _ _ _ _ _
  · refine S_lload (kk := 4) g dX1_mendsAll_51 rfl ?_
    refine S_lconst (x := 0) g dX1_mendsAll_53 ⟨by decide, by decide⟩ rfl ?_
    refine S_lcmp g dX1_mendsAll_54 ?_
    refine S_if_eq (tgt := 111) g dX1_mendsAll_55 (by decide) ?_ ?_
    · refine S_sub g [0, 1, 2, 3, 4] rfl ?_
      exact sX1_mendsAll_p111 hw g self2 hs2 _ _ _ _ _
    · refine S_aload_n (kk := 0) g dX1_mendsAll_58 rfl rfl ?_
      refine S_getr g dX1_mendsAll_59 fl_Finder_34 (at_45 hw) rfl (rc_45_0 hw) ?_
      refine S_getr g dX1_mendsAll_62 fl_Finder_102 (at_17 hw) rfl (rc_17_4 hw) ?_
      refine S_iconst g dX1_mendsAll_65 ⟨by decide, by decide⟩ ?_
      refine S_aload_n (kk := 0) g dX1_mendsAll_66 rfl rfl ?_
      refine S_getr g dX1_mendsAll_67 fl_Finder_15 (at_45 hw) rfl (rc_45_4 hw) ?_
      refine S_iload (kk := 5) g dX1_mendsAll_70 rfl ?_
      refine S_iaload g dX1_mendsAll_72 (at_47 hw) ?_
      refine S_imul g dX1_mendsAll_73 ?_
      refine S_iload_n (kk := 3) g dX1_mendsAll_74 rfl rfl ?_
      refine S_iadd g dX1_mendsAll_75 ?_
      refine S_laload g dX1_mendsAll_76 (at_25 hw) ?_
      refine S_nmJ (fun v2 => ?_)
      refine S_lstore g dX1_mendsAll_77 (by decide) rfl ?_
      refine S_lload (kk := 5) g dX1_mendsAll_79 rfl ?_
      refine S_iload_n (kk := 3) g dX1_mendsAll_81 rfl rfl ?_
      refine S_iload (kk := 6) g dX1_mendsAll_82 rfl ?_
      refine S_ishr g dX1_mendsAll_84 ?_
      refine S_iconst g dX1_mendsAll_85 ⟨by decide, by decide⟩ ?_
      refine S_iand g dX1_mendsAll_86 ?_
      refine S_iconst g dX1_mendsAll_87 ⟨by decide, by decide⟩ ?_
      refine S_icmp_ne (tgt := 96) g dX1_mendsAll_88 (by decide) ?_ ?_
      · refine S_lload (kk := 0) g dX1_mendsAll_96 rfl ?_
        refine S_ldc2 g dX1_mendsAll_98 ⟨by decide, by decide⟩ k_Finder_100 ?_
        refine S_lxor g dX1_mendsAll_101 ?_
        refine S_sub g [1, 2, 3, 4, 6] rfl ?_
        exact sX1_mendsAll_p102 hw g self2 hs2 self42 hs42 _ _ _ _ _ _ _
      · refine S_lload (kk := 0) g dX1_mendsAll_91 rfl ?_
        refine S_goto (tgt := 102) g dX1_mendsAll_93 (by decide) ?_
        refine S_sub g [1, 2, 3, 4, 6] rfl ?_
        exact sX1_mendsAll_p102 hw g self2 hs2 self42 hs42 _ _ _ _ _ _ _

theorem sX1_mendsAll_L2 {Γ : Cx} {w : Wd} (hw : okX w) (g : Gd Γ cX1_mendsAll 9 "GatePatch$Finder" (Option.some Jvm.ClassFile.FieldType.boolean) (rmd 1))   : ∀ (l1 l2 l3 : Int) (h : Hp), Sim Γ w 0 (XX1_mendsAll_L2  l1 l2 l3 h) h 2 [(0, vP 45), (1, vI l1), (2, vI l2), (3, vI l3)] [] := by
  refine S_lup3 (fun l1 l2 l3 => [(0, vP 45), (1, vI l1), (2, vI l2), (3, vI l3)]) (fun self2 hs2 l1 l2 l3 h => ?_) FU
  unfold XX1_mendsAll_b2
  refine S_iload_n (kk := 3) g dX1_mendsAll_2 rfl rfl ?_
  refine S_aload_n (kk := 0) g dX1_mendsAll_3 rfl rfl ?_
  refine S_getr g dX1_mendsAll_4 fl_Finder_38 (at_45 hw) rfl (rc_45_1 hw) ?_
  refine S_geti g dX1_mendsAll_7 fl_Finder_74 (at_37 hw) (Or.inl rfl) ?_
  refine S_icmp_ge (tgt := 126) g dX1_mendsAll_10 (by decide) ?_ ?_
  · refine S_iconst g dX1_mendsAll_126 ⟨by decide, by decide⟩ ?_
    exact S_zreturn g dX1_mendsAll_127 rfl
  · refine S_aload_n (kk := 0) g dX1_mendsAll_13 rfl rfl ?_
    refine S_getr g dX1_mendsAll_14 fl_Finder_38 (at_45 hw) rfl (rc_45_1 hw) ?_
    refine S_getr g dX1_mendsAll_17 fl_Finder_97 (at_37 hw) rfl (rc_37_3 hw) ?_
    refine S_iload_n (kk := 3) g dX1_mendsAll_20 rfl rfl ?_
    refine S_laload g dX1_mendsAll_21 (at_39 hw) ?_
    refine S_aload_n (kk := 0) g dX1_mendsAll_22 rfl rfl ?_
    refine S_getr g dX1_mendsAll_23 fl_Finder_18 (at_45 hw) rfl (rc_45_6 hw) ?_
    refine S_iconst g dX1_mendsAll_26 ⟨by decide, by decide⟩ ?_
    refine S_iload_n (kk := 1) g dX1_mendsAll_27 rfl rfl ?_
    refine S_imul g dX1_mendsAll_28 ?_
    refine S_iload_n (kk := 3) g dX1_mendsAll_29 rfl rfl ?_
    refine S_iadd g dX1_mendsAll_30 ?_
    refine S_laload g dX1_mendsAll_31 (at_48 hw) ?_
    refine S_ldc2 g dX1_mendsAll_32 ⟨by decide, by decide⟩ k_Finder_100 ?_
    refine S_lxor g dX1_mendsAll_35 ?_
    refine S_land g dX1_mendsAll_36 ?_
    refine S_nmJ (fun v1 => ?_)
    refine S_lstore g dX1_mendsAll_37 (by decide) rfl ?_
    refine S_iconst g dX1_mendsAll_39 ⟨by decide, by decide⟩ ?_
    refine S_istore g dX1_mendsAll_40 (by decide) rfl ?_
    refine S_sub g [2, 3, 4, 5, 1, 0] rfl ?_
    exact sX1_mendsAll_L42 hw g self2 hs2 _ _ _ _ _ _

theorem sX1_mendsAll {G : GG} {w : Wd} (hw : okX w) (x0 : Int) (x1 : Int) (h : Hp) : SC G w yX1_mendsAll (Cond.code yX1_mendsAll cX1_mendsAll 9 (Option.some Jvm.ClassFile.FieldType.boolean)) 1 0 [vP 45, vI x0, vI x1] (XX1_mendsAll x0 x1 h) h := by
  refine SC_of (own := "GatePatch$Finder") plain_Finder rfl (Nat.le_of_ble_eq_true rfl) (fun Γ hG g => ?_)
  subst hG
  show Sim Γ w 0 _ h 0 [(0, vP 45), (1, vI x0), (2, vI x1)] []
  unfold XX1_mendsAll
  refine S_iconst g dX1_mendsAll_0 ⟨by decide, by decide⟩ ?_
  refine S_istore_n g dX1_mendsAll_1 rfl (by decide) rfl ?_
  refine S_sub g [1, 2, 3, 0] rfl ?_
  exact sX1_mendsAll_L2 hw g _ _ _ _

def XX1_allow_p57  (self10 : Int → Hp → OR) (self24 : Int → Int → Int → Hp → OR) (l1 l2 l3 : Int) (h : Hp) : OR :=
  chk (l3 + 1) (self24 l1 l2 (l3 + 1) h)
def XX1_allow_b24  (self10 : Int → Hp → OR) (self24 : Int → Int → Int → Hp → OR) (l1 l2 l3 : Int) (h : Hp) : OR :=
  if (ashl 1 (h 45 3)) ≤ l3 then if l2 = 0 then zb 0 (some (0, h)) else chk (l1 + 1) (self10 (l1 + 1) h) else cal (XX1_mendsAll l3 l1 h) (fun r3 h4 => if r3 = 0 then XX1_allow_p57 self10 self24 l1 l2 l3 h4 else inb l3 4 (inb l3 4 (hm (wr h4 49 l3.toNat (aor (h4 49 l3.toNat) (ashl 1 l1))) (fun h5 => XX1_allow_p57 self10 self24 l1 1 l3 h5))))
def XX1_allow_L24  (self10 : Int → Hp → OR) (l1 l2 l3 : Int) (h : Hp) : OR := lup3 (XX1_allow_b24 self10) FU l1 l2 l3 h
def XX1_allow_b10   (self10 : Int → Hp → OR) (l1 : Int) (h : Hp) : OR :=
  if (ashl 1 (h 45 5)) ≤ l1 then zb 1 (some (1, h)) else XX1_allow_L24 self10 l1 0 0 h
def XX1_allow_L10   (l1 : Int) (h : Hp) : OR := lup1 (XX1_allow_b10 ) FU l1 h
def XX1_allow  (h : Hp) : OR :=
  cal (XJ7_fill_53178 49 4 0 h) (fun r1 h2 => XX1_allow_L10 0 h2)
theorem sX1_allow_p57 {Γ : Cx} {w : Wd} (hw : okX w) (g : Gd Γ cX1_allow 4 "GatePatch$Finder" (Option.some Jvm.ClassFile.FieldType.boolean) (rmd 2))  (self10 : Int → Hp → OR) (hs10 : ∀ (x0 : Int) (h : Hp), Sim Γ w 0 (self10 x0 h) h 10 [(0, vP 45), (1, vI x0)] []) (self24 : Int → Int → Int → Hp → OR) (hs24 : ∀ (x0 x1 x2 : Int) (h : Hp), Sim Γ w 0 (self24 x0 x1 x2 h) h 24 [(0, vP 45), (1, vI x0), (2, vI x1), (3, vI x2)] []) (l1 l2 l3 : Int) (h : Hp) : Sim Γ w 0 (XX1_allow_p57 self10 self24 l1 l2 l3  h) h 57 [(0, vP 45), (1, vI l1), (2, vI l2), (3, vI l3)] [] := by
  unfold XX1_allow_p57
  refine S_iinc (kk := 3) g dX1_allow_57 rfl (by decide) rfl ?_
  refine S_goto (tgt := 24) g dX1_allow_60 (by decide) ?_
  refine S_sub g [1, 2, 3, 0] rfl ?_
  exact hs24 _ _ _ _

theorem sX1_allow_L24 {Γ : Cx} {w : Wd} (hw : okX w) (g : Gd Γ cX1_allow 4 "GatePatch$Finder" (Option.some Jvm.ClassFile.FieldType.boolean) (rmd 2))  (self10 : Int → Hp → OR) (hs10 : ∀ (x0 : Int) (h : Hp), Sim Γ w 0 (self10 x0 h) h 10 [(0, vP 45), (1, vI x0)] []) : ∀ (l1 l2 l3 : Int) (h : Hp), Sim Γ w 0 (XX1_allow_L24 self10 l1 l2 l3 h) h 24 [(0, vP 45), (1, vI l1), (2, vI l2), (3, vI l3)] [] := by
  refine S_lup3 (fun l1 l2 l3 => [(0, vP 45), (1, vI l1), (2, vI l2), (3, vI l3)]) (fun self24 hs24 l1 l2 l3 h => ?_) FU
  unfold XX1_allow_b24
  refine S_iload_n (kk := 3) g dX1_allow_24 rfl rfl ?_
  refine S_iconst g dX1_allow_25 ⟨by decide, by decide⟩ ?_
  refine S_aload_n (kk := 0) g dX1_allow_26 rfl rfl ?_
  refine S_geti g dX1_allow_27 fl_Finder_72 (at_45 hw) (Or.inl rfl) ?_
  refine S_ishl g dX1_allow_30 ?_
  refine S_icmp_ge (tgt := 63) g dX1_allow_31 (by decide) ?_ ?_
  · refine S_iload_n (kk := 2) g dX1_allow_63 rfl rfl ?_
    refine S_if_ne (tgt := 69) g dX1_allow_64 (by decide) ?_ ?_
    · refine S_iinc (kk := 1) g dX1_allow_69 rfl (by decide) rfl ?_
      refine S_goto (tgt := 10) g dX1_allow_72 (by decide) ?_
      refine S_sub g [1, 0] rfl ?_
      exact hs10 _ _
    · refine S_iconst g dX1_allow_67 ⟨by decide, by decide⟩ ?_
      exact S_zreturn g dX1_allow_68 rfl
  · refine S_aload_n (kk := 0) g dX1_allow_34 rfl rfl ?_
    refine S_iload_n (kk := 3) g dX1_allow_35 rfl rfl ?_
    refine S_iload_n (kk := 1) g dX1_allow_36 rfl rfl ?_
    refine S_callVi (As := [vI l3, vI l1]) g dX1_allow_37 (sX1_mendsAll hw _ _ _) rfl (at_45 hw) rfl im_X1_mendsAll se_X1_mendsAll cw_X1_mendsAll ml_Finder_93 ini_Finder nd_X1_mendsAll ⟨by decide, by decide⟩ (Nat.le_of_ble_eq_true rfl) (fun r3 h4 => ?_)
    refine S_if_eq (tgt := 57) g dX1_allow_40 (by decide) ?_ ?_
    · exact sX1_allow_p57 hw g self10 hs10 self24 hs24 _ _ _ _
    · refine S_aload_n (kk := 0) g dX1_allow_43 rfl rfl ?_
      refine S_getr g dX1_allow_44 fl_Finder_22 (at_45 hw) rfl (rc_45_7 hw) ?_
      refine S_iload_n (kk := 3) g dX1_allow_47 rfl rfl ?_
      refine S_dup2 g dX1_allow_48 rfl rfl ?_
      refine S_iaload g dX1_allow_49 (at_49 hw) ?_
      refine S_iconst g dX1_allow_50 ⟨by decide, by decide⟩ ?_
      refine S_iload_n (kk := 1) g dX1_allow_51 rfl rfl ?_
      refine S_ishl g dX1_allow_52 ?_
      refine S_ior g dX1_allow_53 ?_
      refine S_iastore g dX1_allow_54 (at_49 hw) (fun h5 => ?_)
      refine S_iconst g dX1_allow_55 ⟨by decide, by decide⟩ ?_
      refine S_istore_n g dX1_allow_56 rfl (by decide) rfl ?_
      refine S_sub g [1, 2, 0, 3] rfl ?_
      exact sX1_allow_p57 hw g self10 hs10 self24 hs24 _ _ _ _

theorem sX1_allow_L10 {Γ : Cx} {w : Wd} (hw : okX w) (g : Gd Γ cX1_allow 4 "GatePatch$Finder" (Option.some Jvm.ClassFile.FieldType.boolean) (rmd 2))   : ∀ (l1 : Int) (h : Hp), Sim Γ w 0 (XX1_allow_L10  l1 h) h 10 [(0, vP 45), (1, vI l1)] [] := by
  refine S_lup1 (fun l1 => [(0, vP 45), (1, vI l1)]) (fun self10 hs10 l1 h => ?_) FU
  unfold XX1_allow_b10
  refine S_iload_n (kk := 1) g dX1_allow_10 rfl rfl ?_
  refine S_iconst g dX1_allow_11 ⟨by decide, by decide⟩ ?_
  refine S_aload_n (kk := 0) g dX1_allow_12 rfl rfl ?_
  refine S_geti g dX1_allow_13 fl_Finder_54 (at_45 hw) (Or.inl rfl) ?_
  refine S_ishl g dX1_allow_16 ?_
  refine S_icmp_ge (tgt := 75) g dX1_allow_17 (by decide) ?_ ?_
  · refine S_iconst g dX1_allow_75 ⟨by decide, by decide⟩ ?_
    exact S_zreturn g dX1_allow_76 rfl
  · refine S_iconst g dX1_allow_20 ⟨by decide, by decide⟩ ?_
    refine S_istore_n g dX1_allow_21 rfl (by decide) rfl ?_
    refine S_iconst g dX1_allow_22 ⟨by decide, by decide⟩ ?_
    refine S_istore_n g dX1_allow_23 rfl (by decide) rfl ?_
    refine S_sub g [2, 3, 1, 0] rfl ?_
    exact sX1_allow_L24 hw g self10 hs10 _ _ _ _

theorem sX1_allow {G : GG} {w : Wd} (hw : okX w)  (h : Hp) : SC G w yX1_allow (Cond.code yX1_allow cX1_allow 4 (Option.some Jvm.ClassFile.FieldType.boolean)) 2 0 [vP 45] (XX1_allow  h) h := by
  refine SC_of (own := "GatePatch$Finder") plain_Finder rfl (Nat.le_of_ble_eq_true rfl) (fun Γ hG g => ?_)
  subst hG
  show Sim Γ w 0 _ h 0 [(0, vP 45)] []
  unfold XX1_allow
  refine S_aload_n (kk := 0) g dX1_allow_0 rfl rfl ?_
  refine S_getr g dX1_allow_1 fl_Finder_22 (at_45 hw) rfl (rc_45_7 hw) ?_
  refine S_iconst g dX1_allow_4 ⟨by decide, by decide⟩ ?_
  refine S_callSv (As := [vP 49, vI 0]) g dX1_allow_5 (sJ7_fill_53178 49 4 (at_49 hw) ⟨by decide, by decide⟩ _ _) rfl st_J7_fill_53178 cw_J7_fill_53178 ml_Finder_87 ini_Arr nd_J7_fill_53178 ⟨by decide, by decide⟩ (Nat.le_of_ble_eq_true rfl) (fun r1 h2 => ?_)
  refine S_iconst g dX1_allow_8 ⟨by decide, by decide⟩ ?_
  refine S_istore_n g dX1_allow_9 rfl (by decide) rfl ?_
  refine S_sub g [1, 0] rfl ?_
  exact sX1_allow_L10 hw g _ _

def XX1_patternOf_b4   (self4 : Int → Int → Int → Hp → OR) (l1 l2 l3 : Int) (h : Hp) : OR :=
  if (h 45 5) ≤ l3 then some (l2, h) else inb l3 3 (chk (4 * (h 47 l3.toNat)) (chk (l1.tdiv 64) (chk ((4 * (h 47 l3.toNat)) + (l1.tdiv 64)) (inb ((4 * (h 47 l3.toNat)) + (l1.tdiv 64)) 192 (nm (h 25 ((4 * (h 47 l3.toNat)) + (l1.tdiv 64)).toNat) (fun v1 => chk (l1 - l1.tdiv 64 * 64) (nm (aor l2 (ashl (al2i (jand (jshr v1 (l1 - l1.tdiv 64 * 64)) 1)) l3)) (fun v2 => chk (l3 + 1) (self4 l1 v2 (l3 + 1) h)))))))))
def XX1_patternOf_L4   (l1 l2 l3 : Int) (h : Hp) : OR := lup3 (XX1_patternOf_b4 ) FU l1 l2 l3 h
def XX1_patternOf (x0 : Int) (h : Hp) : OR :=
  XX1_patternOf_L4 x0 0 0 h
theorem sX1_patternOf_L4 {Γ : Cx} {w : Wd} (hw : okX w) (g : Gd Γ cX1_patternOf 6 "GatePatch$Finder" (Option.some Jvm.ClassFile.FieldType.int) (rmd 1))   : ∀ (l1 l2 l3 : Int) (h : Hp), Sim Γ w 0 (XX1_patternOf_L4  l1 l2 l3 h) h 4 [(0, vP 45), (1, vI l1), (2, vI l2), (3, vI l3)] [] := by
  refine S_lup3 (fun l1 l2 l3 => [(0, vP 45), (1, vI l1), (2, vI l2), (3, vI l3)]) (fun self4 hs4 l1 l2 l3 h => ?_) FU
  unfold XX1_patternOf_b4
  refine S_iload_n (kk := 3) g dX1_patternOf_4 rfl rfl ?_
  refine S_aload_n (kk := 0) g dX1_patternOf_5 rfl rfl ?_
  refine S_geti g dX1_patternOf_6 fl_Finder_54 (at_45 hw) (Or.inl rfl) ?_
  refine S_icmp_ge (tgt := 56) g dX1_patternOf_9 (by decide) ?_ ?_
  · refine S_iload_n (kk := 2) g dX1_patternOf_56 rfl rfl ?_
    exact S_ireturn g dX1_patternOf_57 rfl
  · refine S_aload_n (kk := 0) g dX1_patternOf_12 rfl rfl ?_
    refine S_getr g dX1_patternOf_13 fl_Finder_34 (at_45 hw) rfl (rc_45_0 hw) ?_
    refine S_getr g dX1_patternOf_16 fl_Finder_102 (at_17 hw) rfl (rc_17_4 hw) ?_
    refine S_iconst g dX1_patternOf_19 ⟨by decide, by decide⟩ ?_
    refine S_aload_n (kk := 0) g dX1_patternOf_20 rfl rfl ?_
    refine S_getr g dX1_patternOf_21 fl_Finder_15 (at_45 hw) rfl (rc_45_4 hw) ?_
    refine S_iload_n (kk := 3) g dX1_patternOf_24 rfl rfl ?_
    refine S_iaload g dX1_patternOf_25 (at_47 hw) ?_
    refine S_imul g dX1_patternOf_26 ?_
    refine S_iload_n (kk := 1) g dX1_patternOf_27 rfl rfl ?_
    refine S_bipush g dX1_patternOf_28 ⟨by decide, by decide⟩ rfl ?_
    refine S_idiv g dX1_patternOf_30 (by decide) ?_
    refine S_iadd g dX1_patternOf_31 ?_
    refine S_laload g dX1_patternOf_32 (at_25 hw) ?_
    refine S_nmJ (fun v1 => ?_)
    refine S_lstore g dX1_patternOf_33 (by decide) rfl ?_
    refine S_iload_n (kk := 3) g dX1_patternOf_35 rfl rfl ?_
    refine S_lload (kk := 0) g dX1_patternOf_36 rfl ?_
    refine S_iload_n (kk := 2) g dX1_patternOf_38 rfl rfl ?_
    refine S_bipush g dX1_patternOf_39 ⟨by decide, by decide⟩ rfl ?_
    refine S_irem g dX1_patternOf_41 (by decide) ?_
    refine S_lshr g dX1_patternOf_42 ?_
    refine S_lconst (x := 1) g dX1_patternOf_43 ⟨by decide, by decide⟩ rfl ?_
    refine S_land g dX1_patternOf_44 ?_
    refine S_l2i g dX1_patternOf_45 ?_
    refine S_iload_n (kk := 4) g dX1_patternOf_46 rfl rfl ?_
    refine S_ishl g dX1_patternOf_47 ?_
    refine S_ior g dX1_patternOf_48 ?_
    refine S_nmI (fun v2 => ?_)
    refine S_istore_n g dX1_patternOf_49 rfl (by decide) rfl ?_
    refine S_iinc (kk := 4) g dX1_patternOf_50 rfl (by decide) rfl ?_
    refine S_goto (tgt := 4) g dX1_patternOf_53 (by decide) ?_
    refine S_sub g [3, 4, 1, 0] rfl ?_
    exact hs4 _ _ _ _

theorem sX1_patternOf {G : GG} {w : Wd} (hw : okX w) (x0 : Int) (h : Hp) : SC G w yX1_patternOf (Cond.code yX1_patternOf cX1_patternOf 6 (Option.some Jvm.ClassFile.FieldType.int)) 1 0 [vP 45, vI x0] (XX1_patternOf x0 h) h := by
  refine SC_of (own := "GatePatch$Finder") plain_Finder rfl (Nat.le_of_ble_eq_true rfl) (fun Γ hG g => ?_)
  subst hG
  show Sim Γ w 0 _ h 0 [(0, vP 45), (1, vI x0)] []
  unfold XX1_patternOf
  refine S_iconst g dX1_patternOf_0 ⟨by decide, by decide⟩ ?_
  refine S_istore_n g dX1_patternOf_1 rfl (by decide) rfl ?_
  refine S_iconst g dX1_patternOf_2 ⟨by decide, by decide⟩ ?_
  refine S_istore_n g dX1_patternOf_3 rfl (by decide) rfl ?_
  refine S_sub g [2, 3, 1, 0] rfl ?_
  exact sX1_patternOf_L4 hw g _ _ _ _

def XX1_mendingSet_b4   (self4 : Int → Int → Int → Hp → OR) (l1 l2 l3 : Int) (h : Hp) : OR :=
  if (ashl 1 (h 45 3)) ≤ l3 then some (l2, h) else chk (4 * l3) (chk (l1.tdiv 64) (chk ((4 * l3) + (l1.tdiv 64)) (inb ((4 * l3) + (l1.tdiv 64)) 16 (chk (l1 - l1.tdiv 64 * 64) (nm (aor l2 (ashl (al2i (jand (jshr (h 48 ((4 * l3) + (l1.tdiv 64)).toNat) (l1 - l1.tdiv 64 * 64)) 1)) l3)) (fun v1 => chk (l3 + 1) (self4 l1 v1 (l3 + 1) h)))))))
def XX1_mendingSet_L4   (l1 l2 l3 : Int) (h : Hp) : OR := lup3 (XX1_mendingSet_b4 ) FU l1 l2 l3 h
def XX1_mendingSet (x0 : Int) (h : Hp) : OR :=
  XX1_mendingSet_L4 x0 0 0 h
theorem sX1_mendingSet_L4 {Γ : Cx} {w : Wd} (hw : okX w) (g : Gd Γ cX1_mendingSet 4 "GatePatch$Finder" (Option.some Jvm.ClassFile.FieldType.int) (rmd 1))   : ∀ (l1 l2 l3 : Int) (h : Hp), Sim Γ w 0 (XX1_mendingSet_L4  l1 l2 l3 h) h 4 [(0, vP 45), (1, vI l1), (2, vI l2), (3, vI l3)] [] := by
  refine S_lup3 (fun l1 l2 l3 => [(0, vP 45), (1, vI l1), (2, vI l2), (3, vI l3)]) (fun self4 hs4 l1 l2 l3 h => ?_) FU
  unfold XX1_mendingSet_b4
  refine S_iload_n (kk := 3) g dX1_mendingSet_4 rfl rfl ?_
  refine S_iconst g dX1_mendingSet_5 ⟨by decide, by decide⟩ ?_
  refine S_aload_n (kk := 0) g dX1_mendingSet_6 rfl rfl ?_
  refine S_geti g dX1_mendingSet_7 fl_Finder_72 (at_45 hw) (Or.inl rfl) ?_
  refine S_ishl g dX1_mendingSet_10 ?_
  refine S_icmp_ge (tgt := 46) g dX1_mendingSet_11 (by decide) ?_ ?_
  · refine S_iload_n (kk := 2) g dX1_mendingSet_46 rfl rfl ?_
    exact S_ireturn g dX1_mendingSet_47 rfl
  · refine S_iload_n (kk := 2) g dX1_mendingSet_14 rfl rfl ?_
    refine S_aload_n (kk := 0) g dX1_mendingSet_15 rfl rfl ?_
    refine S_getr g dX1_mendingSet_16 fl_Finder_18 (at_45 hw) rfl (rc_45_6 hw) ?_
    refine S_iconst g dX1_mendingSet_19 ⟨by decide, by decide⟩ ?_
    refine S_iload_n (kk := 3) g dX1_mendingSet_20 rfl rfl ?_
    refine S_imul g dX1_mendingSet_21 ?_
    refine S_iload_n (kk := 1) g dX1_mendingSet_22 rfl rfl ?_
    refine S_bipush g dX1_mendingSet_23 ⟨by decide, by decide⟩ rfl ?_
    refine S_idiv g dX1_mendingSet_25 (by decide) ?_
    refine S_iadd g dX1_mendingSet_26 ?_
    refine S_laload g dX1_mendingSet_27 (at_48 hw) ?_
    refine S_iload_n (kk := 1) g dX1_mendingSet_28 rfl rfl ?_
    refine S_bipush g dX1_mendingSet_29 ⟨by decide, by decide⟩ rfl ?_
    refine S_irem g dX1_mendingSet_31 (by decide) ?_
    refine S_lshr g dX1_mendingSet_32 ?_
    refine S_lconst (x := 1) g dX1_mendingSet_33 ⟨by decide, by decide⟩ rfl ?_
    refine S_land g dX1_mendingSet_34 ?_
    refine S_l2i g dX1_mendingSet_35 ?_
    refine S_iload_n (kk := 3) g dX1_mendingSet_36 rfl rfl ?_
    refine S_ishl g dX1_mendingSet_37 ?_
    refine S_ior g dX1_mendingSet_38 ?_
    refine S_nmI (fun v1 => ?_)
    refine S_istore_n g dX1_mendingSet_39 rfl (by decide) rfl ?_
    refine S_iinc (kk := 3) g dX1_mendingSet_40 rfl (by decide) rfl ?_
    refine S_goto (tgt := 4) g dX1_mendingSet_43 (by decide) ?_
    refine S_sub g [2, 3, 1, 0] rfl ?_
    exact hs4 _ _ _ _

theorem sX1_mendingSet {G : GG} {w : Wd} (hw : okX w) (x0 : Int) (h : Hp) : SC G w yX1_mendingSet (Cond.code yX1_mendingSet cX1_mendingSet 4 (Option.some Jvm.ClassFile.FieldType.int)) 1 0 [vP 45, vI x0] (XX1_mendingSet x0 h) h := by
  refine SC_of (own := "GatePatch$Finder") plain_Finder rfl (Nat.le_of_ble_eq_true rfl) (fun Γ hG g => ?_)
  subst hG
  show Sim Γ w 0 _ h 0 [(0, vP 45), (1, vI x0)] []
  unfold XX1_mendingSet
  refine S_iconst g dX1_mendingSet_0 ⟨by decide, by decide⟩ ?_
  refine S_istore_n g dX1_mendingSet_1 rfl (by decide) rfl ?_
  refine S_iconst g dX1_mendingSet_2 ⟨by decide, by decide⟩ ?_
  refine S_istore_n g dX1_mendingSet_3 rfl (by decide) rfl ?_
  refine S_sub g [2, 3, 1, 0] rfl ?_
  exact sX1_mendingSet_L4 hw g _ _ _ _

def XX1_findClash_p111  (self27 : Int → Hp → OR) (l1 : Int) (h : Hp) : OR :=
  chk (l1 + 1) (self27 (l1 + 1) h)
def XX1_findClash_p72  (self27 : Int → Hp → OR) (l1 l2 : Int) (h : Hp) : OR :=
  inb l2 8 (cal (XX1_mendingSet l1 h) (fun r9 h10 => inb l2 8 (hm (wr h10 50 l2.toNat (aand (h 50 l2.toNat) r9)) (fun h11 => inb l2 8 (if (h11 50 l2.toNat) = 0 then inb l2 8 (hm (wr h11 45 12 (h11 51 l2.toNat)) (fun h12 => hm (wr h12 45 13 l1) (fun h13 => some (0, h13)))) else XX1_findClash_p111 self27 l1 h11)))))
def XX1_findClash_b27   (self27 : Int → Hp → OR) (l1 : Int) (h : Hp) : OR :=
  if (h 37 0) ≤ l1 then some (0, h) else cal (XX0_isLive l1 h) (fun r5 h6 => if r5 = 0 then XX1_findClash_p111 self27 l1 h6 else cal (XX1_patternOf l1 h6) (fun r7 h8 => inb r7 8 (if (h8 51 r7.toNat) = (-1) then inb r7 8 (hm (wr h8 51 r7.toNat l1) (fun h14 => XX1_findClash_p72 self27 l1 r7 h14)) else XX1_findClash_p72 self27 l1 r7 h8)))
def XX1_findClash_L27   (l1 : Int) (h : Hp) : OR := lup1 (XX1_findClash_b27 ) FU l1 h
def XX1_findClash  (h : Hp) : OR :=
  chk ((ashl 1 (ashl 1 (h 45 3))) - 1) (cal (XJ7_fill_53178 50 8 ((ashl 1 (ashl 1 (h 45 3))) - 1) h) (fun r1 h2 => cal (XJ7_fill_53178 51 8 (-1) h2) (fun r3 h4 => XX1_findClash_L27 0 h4)))
theorem sX1_findClash_p111 {Γ : Cx} {w : Wd} (hw : okX w) (g : Gd Γ cX1_findClash 3 "GatePatch$Finder" (Option.none : Option Jvm.ClassFile.FieldType) (rmd 2))  (self27 : Int → Hp → OR) (hs27 : ∀ (x0 : Int) (h : Hp), Sim Γ w 3 (self27 x0 h) h 27 [(0, vP 45), (1, vI x0)] []) (l1 : Int) (h : Hp) : Sim Γ w 3 (XX1_findClash_p111 self27 l1  h) h 111 [(0, vP 45), (1, vI l1)] [] := by
  unfold XX1_findClash_p111
  refine S_iinc (kk := 1) g dX1_findClash_111 rfl (by decide) rfl ?_
  refine S_goto (tgt := 27) g dX1_findClash_114 (by decide) ?_
  refine S_sub g [1, 0] rfl ?_
  exact hs27 _ _

theorem sX1_findClash_p72 {Γ : Cx} {w : Wd} (hw : okX w) (g : Gd Γ cX1_findClash 3 "GatePatch$Finder" (Option.none : Option Jvm.ClassFile.FieldType) (rmd 2))  (self27 : Int → Hp → OR) (hs27 : ∀ (x0 : Int) (h : Hp), Sim Γ w 3 (self27 x0 h) h 27 [(0, vP 45), (1, vI x0)] []) (l1 l2 : Int) (h : Hp) : Sim Γ w 3 (XX1_findClash_p72 self27 l1 l2  h) h 72 [(0, vP 45), (1, vI l1), (2, vI l2)] [] := by
  unfold XX1_findClash_p72
  refine S_aload_n (kk := 0) g dX1_findClash_72 rfl rfl ?_
  refine S_getr g dX1_findClash_73 fl_Finder_25 (at_45 hw) rfl (rc_45_8 hw) ?_
  refine S_iload_n (kk := 2) g dX1_findClash_76 rfl rfl ?_
  refine S_dup2 g dX1_findClash_77 rfl rfl ?_
  refine S_iaload g dX1_findClash_78 (at_50 hw) ?_
  refine S_aload_n (kk := 0) g dX1_findClash_79 rfl rfl ?_
  refine S_iload_n (kk := 1) g dX1_findClash_80 rfl rfl ?_
  refine S_callVi (As := [vI l1]) g dX1_findClash_81 (sX1_mendingSet hw _ _) rfl (at_45 hw) rfl im_X1_mendingSet se_X1_mendingSet cw_X1_mendingSet ml_Finder_113 ini_Finder nd_X1_mendingSet ⟨by decide, by decide⟩ (Nat.le_of_ble_eq_true rfl) (fun r9 h10 => ?_)
  refine S_iand g dX1_findClash_84 ?_
  refine S_iastore g dX1_findClash_85 (at_50 hw) (fun h11 => ?_)
  refine S_aload_n (kk := 0) g dX1_findClash_86 rfl rfl ?_
  refine S_getr g dX1_findClash_87 fl_Finder_25 (at_45 hw) rfl (rc_45_8 hw) ?_
  refine S_iload_n (kk := 2) g dX1_findClash_90 rfl rfl ?_
  refine S_iaload g dX1_findClash_91 (at_50 hw) ?_
  refine S_if_ne (tgt := 111) g dX1_findClash_92 (by decide) ?_ ?_
  · refine S_sub g [0, 1] rfl ?_
    exact sX1_findClash_p111 hw g self27 hs27 _ _
  · refine S_aload_n (kk := 0) g dX1_findClash_95 rfl rfl ?_
    refine S_aload_n (kk := 0) g dX1_findClash_96 rfl rfl ?_
    refine S_getr g dX1_findClash_97 fl_Finder_28 (at_45 hw) rfl (rc_45_9 hw) ?_
    refine S_iload_n (kk := 2) g dX1_findClash_100 rfl rfl ?_
    refine S_iaload g dX1_findClash_101 (at_51 hw) ?_
    refine S_puti g dX1_findClash_102 fp_Finder_116 (at_45 hw) rfl (fun h12 => ?_)
    refine S_aload_n (kk := 0) g dX1_findClash_105 rfl rfl ?_
    refine S_iload_n (kk := 1) g dX1_findClash_106 rfl rfl ?_
    refine S_puti g dX1_findClash_107 fp_Finder_119 (at_45 hw) rfl (fun h13 => ?_)
    exact S_return g dX1_findClash_110 rfl

theorem sX1_findClash_L27 {Γ : Cx} {w : Wd} (hw : okX w) (g : Gd Γ cX1_findClash 3 "GatePatch$Finder" (Option.none : Option Jvm.ClassFile.FieldType) (rmd 2))   : ∀ (l1 : Int) (h : Hp), Sim Γ w 3 (XX1_findClash_L27  l1 h) h 27 [(0, vP 45), (1, vI l1)] [] := by
  refine S_lup1 (fun l1 => [(0, vP 45), (1, vI l1)]) (fun self27 hs27 l1 h => ?_) FU
  unfold XX1_findClash_b27
  refine S_iload_n (kk := 1) g dX1_findClash_27 rfl rfl ?_
  refine S_aload_n (kk := 0) g dX1_findClash_28 rfl rfl ?_
  refine S_getr g dX1_findClash_29 fl_Finder_38 (at_45 hw) rfl (rc_45_1 hw) ?_
  refine S_geti g dX1_findClash_32 fl_Finder_105 (at_37 hw) (Or.inl rfl) ?_
  refine S_icmp_ge (tgt := 117) g dX1_findClash_35 (by decide) ?_ ?_
  · exact S_return g dX1_findClash_117 rfl
  · refine S_aload_n (kk := 0) g dX1_findClash_38 rfl rfl ?_
    refine S_getr g dX1_findClash_39 fl_Finder_38 (at_45 hw) rfl (rc_45_1 hw) ?_
    refine S_iload_n (kk := 1) g dX1_findClash_42 rfl rfl ?_
    refine S_callVi (As := [vI l1]) g dX1_findClash_43 (sX0_isLive hw _ _) rfl (at_37 hw) rfl im_X0_isLive se_X0_isLive cw_X0_isLive ml_Finder_106 ini_Cases nd_X0_isLive ⟨by decide, by decide⟩ (Nat.le_of_ble_eq_true rfl) (fun r5 h6 => ?_)
    refine S_if_eq (tgt := 111) g dX1_findClash_46 (by decide) ?_ ?_
    · exact sX1_findClash_p111 hw g self27 hs27 _ _
    · refine S_aload_n (kk := 0) g dX1_findClash_49 rfl rfl ?_
      refine S_iload_n (kk := 1) g dX1_findClash_50 rfl rfl ?_
      refine S_callVi (As := [vI l1]) g dX1_findClash_51 (sX1_patternOf hw _ _) rfl (at_45 hw) rfl im_X1_patternOf se_X1_patternOf cw_X1_patternOf ml_Finder_109 ini_Finder nd_X1_patternOf ⟨by decide, by decide⟩ (Nat.le_of_ble_eq_true rfl) (fun r7 h8 => ?_)
      refine S_istore_n g dX1_findClash_54 rfl (by decide) rfl ?_
      refine S_aload_n (kk := 1) g dX1_findClash_55 rfl rfl ?_
      refine S_getr g dX1_findClash_56 fl_Finder_28 (at_45 hw) rfl (rc_45_9 hw) ?_
      refine S_iload_n (kk := 0) g dX1_findClash_59 rfl rfl ?_
      refine S_iaload g dX1_findClash_60 (at_51 hw) ?_
      refine S_iconst g dX1_findClash_61 ⟨by decide, by decide⟩ ?_
      refine S_icmp_ne (tgt := 72) g dX1_findClash_62 (by decide) ?_ ?_
      · refine S_sub g [1, 2, 0] rfl ?_
        exact sX1_findClash_p72 hw g self27 hs27 _ _ _
      · refine S_aload_n (kk := 1) g dX1_findClash_65 rfl rfl ?_
        refine S_getr g dX1_findClash_66 fl_Finder_28 (at_45 hw) rfl (rc_45_9 hw) ?_
        refine S_iload_n (kk := 0) g dX1_findClash_69 rfl rfl ?_
        refine S_iload_n (kk := 2) g dX1_findClash_70 rfl rfl ?_
        refine S_iastore g dX1_findClash_71 (at_51 hw) (fun h14 => ?_)
        refine S_sub g [1, 2, 0] rfl ?_
        exact sX1_findClash_p72 hw g self27 hs27 _ _ _

theorem sX1_findClash {G : GG} {w : Wd} (hw : okX w)  (h : Hp) : SC G w yX1_findClash (Cond.code yX1_findClash cX1_findClash 3 (Option.none : Option Jvm.ClassFile.FieldType)) 2 3 [vP 45] (XX1_findClash  h) h := by
  refine SC_of (own := "GatePatch$Finder") plain_Finder rfl (Nat.le_of_ble_eq_true rfl) (fun Γ hG g => ?_)
  subst hG
  show Sim Γ w 3 _ h 0 [(0, vP 45)] []
  unfold XX1_findClash
  refine S_aload_n (kk := 0) g dX1_findClash_0 rfl rfl ?_
  refine S_getr g dX1_findClash_1 fl_Finder_25 (at_45 hw) rfl (rc_45_8 hw) ?_
  refine S_iconst g dX1_findClash_4 ⟨by decide, by decide⟩ ?_
  refine S_iconst g dX1_findClash_5 ⟨by decide, by decide⟩ ?_
  refine S_aload_n (kk := 0) g dX1_findClash_6 rfl rfl ?_
  refine S_geti g dX1_findClash_7 fl_Finder_72 (at_45 hw) (Or.inl rfl) ?_
  refine S_ishl g dX1_findClash_10 ?_
  refine S_ishl g dX1_findClash_11 ?_
  refine S_iconst g dX1_findClash_12 ⟨by decide, by decide⟩ ?_
  refine S_isub g dX1_findClash_13 ?_
  refine S_callSv (As := [vP 50, vI ((ashl 1 (ashl 1 (h 45 3))) - 1)]) g dX1_findClash_14 (sJ7_fill_53178 50 8 (at_50 hw) ⟨by decide, by decide⟩ _ _) rfl st_J7_fill_53178 cw_J7_fill_53178 ml_Finder_87 ini_Arr nd_J7_fill_53178 ⟨by decide, by decide⟩ (Nat.le_of_ble_eq_true rfl) (fun r1 h2 => ?_)
  refine S_aload_n (kk := 0) g dX1_findClash_17 rfl rfl ?_
  refine S_getr g dX1_findClash_18 fl_Finder_28 (at_45 hw) rfl (rc_45_9 hw) ?_
  refine S_iconst g dX1_findClash_21 ⟨by decide, by decide⟩ ?_
  refine S_callSv (As := [vP 51, vI (-1)]) g dX1_findClash_22 (sJ7_fill_53178 51 8 (at_51 hw) ⟨by decide, by decide⟩ _ _) rfl st_J7_fill_53178 cw_J7_fill_53178 ml_Finder_87 ini_Arr nd_J7_fill_53178 ⟨by decide, by decide⟩ (Nat.le_of_ble_eq_true rfl) (fun r3 h4 => ?_)
  refine S_iconst g dX1_findClash_25 ⟨by decide, by decide⟩ ?_
  refine S_istore_n g dX1_findClash_26 rfl (by decide) rfl ?_
  refine S_sub g [1, 0] rfl ?_
  exact sX1_findClash_L27 hw g _ _

def XX1_cheapest_p60  (self8 : Int → Int → Int → Int → Int → Hp → OR) (l1 l2 l3 l4 l5 : Int) (h : Hp) : OR :=
  chk (l5 + 1) (self8 l1 l2 l3 l4 (l5 + 1) h)
def XX1_cheapest_b8   (self8 : Int → Int → Int → Int → Int → Hp → OR) (l1 l2 l3 l4 l5 : Int) (h : Hp) : OR :=
  cal (XX2_ones (h 45 5) h) (fun r1 h2 => if r1 < l5 then some (l3, h2) else if (aand l5 l1) = l1 then if (aand l5 l2) = 0 then cal (XX2_price (h2 45 5) l5 h2) (fun r3 h4 => if l4 ≤ r3 then XX1_cheapest_p60 self8 l1 l2 l3 l4 l5 h4 else XX1_cheapest_p60 self8 l1 l2 l5 r3 l5 h4) else XX1_cheapest_p60 self8 l1 l2 l3 l4 l5 h2 else XX1_cheapest_p60 self8 l1 l2 l3 l4 l5 h2)
def XX1_cheapest_L8   (l1 l2 l3 l4 l5 : Int) (h : Hp) : OR := lup5 (XX1_cheapest_b8 ) FU l1 l2 l3 l4 l5 h
def XX1_cheapest (x0 : Int) (x1 : Int) (h : Hp) : OR :=
  XX1_cheapest_L8 x0 x1 x0 5 x0 h
theorem sX1_cheapest_p60 {Γ : Cx} {w : Wd} (hw : okX w) (g : Gd Γ cX1_cheapest 7 "GatePatch$Finder" (Option.some Jvm.ClassFile.FieldType.int) (rmd 2))  (self8 : Int → Int → Int → Int → Int → Hp → OR) (hs8 : ∀ (x0 x1 x2 x3 x4 : Int) (h : Hp), Sim Γ w 0 (self8 x0 x1 x2 x3 x4 h) h 8 [(0, vP 45), (1, vI x0), (2, vI x1), (3, vI x2), (4, vI x3), (5, vI x4)] []) (l1 l2 l3 l4 l5 : Int) (h : Hp) : Sim Γ w 0 (XX1_cheapest_p60 self8 l1 l2 l3 l4 l5  h) h 60 [(0, vP 45), (1, vI l1), (2, vI l2), (3, vI l3), (4, vI l4), (5, vI l5)] [] := by
  unfold XX1_cheapest_p60
  refine S_iinc (kk := 5) g dX1_cheapest_60 rfl (by decide) rfl ?_
  refine S_goto (tgt := 8) g dX1_cheapest_63 (by decide) ?_
  refine S_sub g [1, 2, 3, 4, 5, 0] rfl ?_
  exact hs8 _ _ _ _ _ _

theorem sX1_cheapest_L8 {Γ : Cx} {w : Wd} (hw : okX w) (g : Gd Γ cX1_cheapest 7 "GatePatch$Finder" (Option.some Jvm.ClassFile.FieldType.int) (rmd 2))   : ∀ (l1 l2 l3 l4 l5 : Int) (h : Hp), Sim Γ w 0 (XX1_cheapest_L8  l1 l2 l3 l4 l5 h) h 8 [(0, vP 45), (1, vI l1), (2, vI l2), (3, vI l3), (4, vI l4), (5, vI l5)] [] := by
  refine S_lup5 (fun l1 l2 l3 l4 l5 => [(0, vP 45), (1, vI l1), (2, vI l2), (3, vI l3), (4, vI l4), (5, vI l5)]) (fun self8 hs8 l1 l2 l3 l4 l5 h => ?_) FU
  unfold XX1_cheapest_b8
  refine S_iload (kk := 5) g dX1_cheapest_8 rfl ?_
  refine S_aload_n (kk := 0) g dX1_cheapest_10 rfl rfl ?_
  refine S_geti g dX1_cheapest_11 fl_Finder_54 (at_45 hw) (Or.inl rfl) ?_
  refine S_callSi (As := [vI (h 45 5)]) g dX1_cheapest_14 (sX2_ones hw _ _) rfl st_X2_ones cw_X2_ones ml_Finder_122 ini_Fns nd_X2_ones ⟨by decide, by decide⟩ (Nat.le_of_ble_eq_true rfl) (fun r1 h2 => ?_)
  refine S_icmp_gt (tgt := 66) g dX1_cheapest_17 (by decide) ?_ ?_
  · refine S_iload_n (kk := 3) g dX1_cheapest_66 rfl rfl ?_
    exact S_ireturn g dX1_cheapest_67 rfl
  · refine S_iload (kk := 5) g dX1_cheapest_20 rfl ?_
    refine S_iload_n (kk := 1) g dX1_cheapest_22 rfl rfl ?_
    refine S_iand g dX1_cheapest_23 ?_
    refine S_iload_n (kk := 1) g dX1_cheapest_24 rfl rfl ?_
    refine S_icmp_ne (tgt := 60) g dX1_cheapest_25 (by decide) ?_ ?_
    · exact sX1_cheapest_p60 hw g self8 hs8 _ _ _ _ _ _
    · refine S_iload (kk := 5) g dX1_cheapest_28 rfl ?_
      refine S_iload_n (kk := 2) g dX1_cheapest_30 rfl rfl ?_
      refine S_iand g dX1_cheapest_31 ?_
      refine S_if_ne (tgt := 60) g dX1_cheapest_32 (by decide) ?_ ?_
      · exact sX1_cheapest_p60 hw g self8 hs8 _ _ _ _ _ _
      · refine S_aload_n (kk := 0) g dX1_cheapest_35 rfl rfl ?_
        refine S_geti g dX1_cheapest_36 fl_Finder_54 (at_45 hw) (Or.inl rfl) ?_
        refine S_iload (kk := 5) g dX1_cheapest_39 rfl ?_
        refine S_callSi (As := [vI (h2 45 5), vI l5]) g dX1_cheapest_41 (sX2_price hw _ _ _) rfl st_X2_price cw_X2_price ml_Finder_130 ini_Fns nd_X2_price ⟨by decide, by decide⟩ (Nat.le_of_ble_eq_true rfl) (fun r3 h4 => ?_)
        refine S_istore g dX1_cheapest_44 (by decide) rfl ?_
        refine S_iload (kk := 0) g dX1_cheapest_46 rfl ?_
        refine S_iload (kk := 5) g dX1_cheapest_48 rfl ?_
        refine S_icmp_ge (tgt := 60) g dX1_cheapest_50 (by decide) ?_ ?_
        · refine S_sub g [1, 2, 3, 4, 5, 6] rfl ?_
          exact sX1_cheapest_p60 hw g self8 hs8 _ _ _ _ _ _
        · refine S_iload (kk := 0) g dX1_cheapest_53 rfl ?_
          refine S_istore g dX1_cheapest_55 (by decide) rfl ?_
          refine S_iload (kk := 6) g dX1_cheapest_57 rfl ?_
          refine S_istore_n g dX1_cheapest_59 rfl (by decide) rfl ?_
          refine S_sub g [3, 4, 5, 0, 1, 6] rfl ?_
          exact sX1_cheapest_p60 hw g self8 hs8 _ _ _ _ _ _

theorem sX1_cheapest {G : GG} {w : Wd} (hw : okX w) (x0 : Int) (x1 : Int) (h : Hp) : SC G w yX1_cheapest (Cond.code yX1_cheapest cX1_cheapest 7 (Option.some Jvm.ClassFile.FieldType.int)) 2 0 [vP 45, vI x0, vI x1] (XX1_cheapest x0 x1 h) h := by
  refine SC_of (own := "GatePatch$Finder") plain_Finder rfl (Nat.le_of_ble_eq_true rfl) (fun Γ hG g => ?_)
  subst hG
  show Sim Γ w 0 _ h 0 [(0, vP 45), (1, vI x0), (2, vI x1)] []
  unfold XX1_cheapest
  refine S_iload_n (kk := 1) g dX1_cheapest_0 rfl rfl ?_
  refine S_istore_n g dX1_cheapest_1 rfl (by decide) rfl ?_
  refine S_iconst g dX1_cheapest_2 ⟨by decide, by decide⟩ ?_
  refine S_istore g dX1_cheapest_3 (by decide) rfl ?_
  refine S_iload_n (kk := 3) g dX1_cheapest_5 rfl rfl ?_
  refine S_istore g dX1_cheapest_6 (by decide) rfl ?_
  refine S_sub g [3, 4, 5, 2, 1, 0] rfl ?_
  exact sX1_cheapest_L8 hw g _ _ _ _ _ _

def XX1_choose_p216  (self79 : Int → Int → Hp → OR) (l1 l2 : Int) (h : Hp) : OR :=
  chk (l2 + 1) (self79 l1 (l2 + 1) h)
def XX1_choose_b79   (self79 : Int → Int → Hp → OR) (l1 l2 : Int) (h : Hp) : OR :=
  if l1 < l2 then some (0, h) else cal (XX2_price (h 45 5) l2 h) (fun r4 h5 => inb 0 4 (inb 1 4 (nm (aand l1 (aor (aand (axor l2 (-1)) (axor (h5 49 (0 : Int).toNat) (-1))) (aand l2 (axor (h5 49 (1 : Int).toNat) (-1))))) (fun v6 => inb 2 4 (inb 3 4 (nm (aand l1 (aor (aand (axor l2 (-1)) (axor (h5 49 (2 : Int).toNat) (-1))) (aand l2 (axor (h5 49 (3 : Int).toNat) (-1))))) (fun v7 => if (h5 45 11) ≤ r4 then XX1_choose_p216 self79 l1 l2 h5 else if (aand v6 v7) = 0 then cal (XX1_cheapest v6 v7 h5) (fun r8 h9 => cal (XX2_price (h9 45 5) r8 h9) (fun r10 h11 => chk (r4 + r10) (nm (r4 + r10) (fun v12 => if (h11 45 11) ≤ v12 then XX1_choose_p216 self79 l1 l2 h11 else hm (wr h11 45 11 v12) (fun h13 => inb 0 2 (hm (wr h13 52 (0 : Int).toNat l2) (fun h14 => inb 1 2 (hm (wr h14 52 (1 : Int).toNat r8) (fun h15 => XX1_choose_p216 self79 l1 l2 h15))))))))) else XX1_choose_p216 self79 l1 l2 h5)))))))
def XX1_choose_L79   (l1 l2 : Int) (h : Hp) : OR := lup2 (XX1_choose_b79 ) FU l1 l2 h
def XX1_choose  (h : Hp) : OR :=
  cal (XX2_ones (h 45 5) h) (fun r1 h2 => if (h2 45 3) = 1 then inb 0 4 (inb 1 4 (cal (XX1_cheapest (aand r1 (axor (h2 49 (0 : Int).toNat) (-1))) (aand r1 (axor (h2 49 (1 : Int).toNat) (-1))) h2) (fun r16 h17 => inb 0 2 (hm (wr h17 52 (0 : Int).toNat r16) (fun h18 => inb 1 2 (hm (wr h18 52 (1 : Int).toNat 0) (fun h19 => inb 0 2 (cal (XX2_price (h19 45 5) (h19 52 (0 : Int).toNat) h19) (fun r20 h21 => hm (wr h21 45 11 r20) (fun h22 => some (0, h22))))))))))) else hm (wr h2 45 11 9) (fun h3 => XX1_choose_L79 r1 0 h3))
theorem sX1_choose_p216 {Γ : Cx} {w : Wd} (hw : okX w) (g : Gd Γ cX1_choose 8 "GatePatch$Finder" (Option.none : Option Jvm.ClassFile.FieldType) (rmd 3))  (self79 : Int → Int → Hp → OR) (hs79 : ∀ (x0 x1 : Int) (h : Hp), Sim Γ w 3 (self79 x0 x1 h) h 79 [(0, vP 45), (1, vI x0), (2, vI x1)] []) (l1 l2 : Int) (h : Hp) : Sim Γ w 3 (XX1_choose_p216 self79 l1 l2  h) h 216 [(0, vP 45), (1, vI l1), (2, vI l2)] [] := by
  unfold XX1_choose_p216
  refine S_iinc (kk := 2) g dX1_choose_216 rfl (by decide) rfl ?_
  refine S_goto (tgt := 79) g dX1_choose_219 (by decide) ?_
  refine S_sub g [1, 2, 0] rfl ?_
  exact hs79 _ _ _

theorem sX1_choose_L79 {Γ : Cx} {w : Wd} (hw : okX w) (g : Gd Γ cX1_choose 8 "GatePatch$Finder" (Option.none : Option Jvm.ClassFile.FieldType) (rmd 3))   : ∀ (l1 l2 : Int) (h : Hp), Sim Γ w 3 (XX1_choose_L79  l1 l2 h) h 79 [(0, vP 45), (1, vI l1), (2, vI l2)] [] := by
  refine S_lup2 (fun l1 l2 => [(0, vP 45), (1, vI l1), (2, vI l2)]) (fun self79 hs79 l1 l2 h => ?_) FU
  unfold XX1_choose_b79
  refine S_iload_n (kk := 2) g dX1_choose_79 rfl rfl ?_
  refine S_iload_n (kk := 1) g dX1_choose_80 rfl rfl ?_
  refine S_icmp_gt (tgt := 222) g dX1_choose_81 (by decide) ?_ ?_
  · exact S_return g dX1_choose_222 rfl
  · refine S_aload_n (kk := 0) g dX1_choose_84 rfl rfl ?_
    refine S_geti g dX1_choose_85 fl_Finder_54 (at_45 hw) (Or.inl rfl) ?_
    refine S_iload_n (kk := 2) g dX1_choose_88 rfl rfl ?_
    refine S_callSi (As := [vI (h 45 5), vI l2]) g dX1_choose_89 (sX2_price hw _ _ _) rfl st_X2_price cw_X2_price ml_Finder_130 ini_Fns nd_X2_price ⟨by decide, by decide⟩ (Nat.le_of_ble_eq_true rfl) (fun r4 h5 => ?_)
    refine S_istore_n g dX1_choose_92 rfl (by decide) rfl ?_
    refine S_iload_n (kk := 2) g dX1_choose_93 rfl rfl ?_
    refine S_iload_n (kk := 3) g dX1_choose_94 rfl rfl ?_
    refine S_iconst g dX1_choose_95 ⟨by decide, by decide⟩ ?_
    refine S_ixor g dX1_choose_96 ?_
    refine S_aload_n (kk := 1) g dX1_choose_97 rfl rfl ?_
    refine S_getr g dX1_choose_98 fl_Finder_22 (at_45 hw) rfl (rc_45_7 hw) ?_
    refine S_iconst g dX1_choose_101 ⟨by decide, by decide⟩ ?_
    refine S_iaload g dX1_choose_102 (at_49 hw) ?_
    refine S_iconst g dX1_choose_103 ⟨by decide, by decide⟩ ?_
    refine S_ixor g dX1_choose_104 ?_
    refine S_iand g dX1_choose_105 ?_
    refine S_iload_n (kk := 3) g dX1_choose_106 rfl rfl ?_
    refine S_aload_n (kk := 1) g dX1_choose_107 rfl rfl ?_
    refine S_getr g dX1_choose_108 fl_Finder_22 (at_45 hw) rfl (rc_45_7 hw) ?_
    refine S_iconst g dX1_choose_111 ⟨by decide, by decide⟩ ?_
    refine S_iaload g dX1_choose_112 (at_49 hw) ?_
    refine S_iconst g dX1_choose_113 ⟨by decide, by decide⟩ ?_
    refine S_ixor g dX1_choose_114 ?_
    refine S_iand g dX1_choose_115 ?_
    refine S_ior g dX1_choose_116 ?_
    refine S_iand g dX1_choose_117 ?_
    refine S_nmI (fun v6 => ?_)
    refine S_istore g dX1_choose_118 (by decide) rfl ?_
    refine S_iload_n (kk := 3) g dX1_choose_120 rfl rfl ?_
    refine S_iload_n (kk := 4) g dX1_choose_121 rfl rfl ?_
    refine S_iconst g dX1_choose_122 ⟨by decide, by decide⟩ ?_
    refine S_ixor g dX1_choose_123 ?_
    refine S_aload_n (kk := 2) g dX1_choose_124 rfl rfl ?_
    refine S_getr g dX1_choose_125 fl_Finder_22 (at_45 hw) rfl (rc_45_7 hw) ?_
    refine S_iconst g dX1_choose_128 ⟨by decide, by decide⟩ ?_
    refine S_iaload g dX1_choose_129 (at_49 hw) ?_
    refine S_iconst g dX1_choose_130 ⟨by decide, by decide⟩ ?_
    refine S_ixor g dX1_choose_131 ?_
    refine S_iand g dX1_choose_132 ?_
    refine S_iload_n (kk := 4) g dX1_choose_133 rfl rfl ?_
    refine S_aload_n (kk := 2) g dX1_choose_134 rfl rfl ?_
    refine S_getr g dX1_choose_135 fl_Finder_22 (at_45 hw) rfl (rc_45_7 hw) ?_
    refine S_iconst g dX1_choose_138 ⟨by decide, by decide⟩ ?_
    refine S_iaload g dX1_choose_139 (at_49 hw) ?_
    refine S_iconst g dX1_choose_140 ⟨by decide, by decide⟩ ?_
    refine S_ixor g dX1_choose_141 ?_
    refine S_iand g dX1_choose_142 ?_
    refine S_ior g dX1_choose_143 ?_
    refine S_iand g dX1_choose_144 ?_
    refine S_nmI (fun v7 => ?_)
    refine S_istore g dX1_choose_145 (by decide) rfl ?_
    refine S_iload_n (kk := 2) g dX1_choose_147 rfl rfl ?_
    refine S_aload_n (kk := 3) g dX1_choose_148 rfl rfl ?_
    refine S_geti g dX1_choose_149 fl_Finder_133 (at_45 hw) (Or.inl rfl) ?_
    refine S_icmp_ge (tgt := 216) g dX1_choose_152 (by decide) ?_ ?_
    · refine S_sub g [3, 4, 5] rfl ?_
      exact sX1_choose_p216 hw g self79 hs79 _ _ _
    · refine S_iload (kk := 1) g dX1_choose_155 rfl ?_
      refine S_iload (kk := 0) g dX1_choose_157 rfl ?_
      refine S_iand g dX1_choose_159 ?_
      refine S_if_ne (tgt := 216) g dX1_choose_160 (by decide) ?_ ?_
      · refine S_sub g [3, 4, 5] rfl ?_
        exact sX1_choose_p216 hw g self79 hs79 _ _ _
      · refine S_aload_n (kk := 3) g dX1_choose_163 rfl rfl ?_
        refine S_iload (kk := 1) g dX1_choose_164 rfl ?_
        refine S_iload (kk := 0) g dX1_choose_166 rfl ?_
        refine S_callVi (As := [vI v6, vI v7]) g dX1_choose_168 (sX1_cheapest hw _ _ _) rfl (at_45 hw) rfl im_X1_cheapest se_X1_cheapest cw_X1_cheapest ml_Finder_127 ini_Finder nd_X1_cheapest ⟨by decide, by decide⟩ (Nat.le_of_ble_eq_true rfl) (fun r8 h9 => ?_)
        refine S_istore g dX1_choose_171 (by decide) rfl ?_
        refine S_iload_n (kk := 3) g dX1_choose_173 rfl rfl ?_
        refine S_aload_n (kk := 4) g dX1_choose_174 rfl rfl ?_
        refine S_geti g dX1_choose_175 fl_Finder_54 (at_45 hw) (Or.inl rfl) ?_
        refine S_iload (kk := 0) g dX1_choose_178 rfl ?_
        refine S_callSi (As := [vI (h9 45 5), vI r8]) g dX1_choose_180 (sX2_price hw _ _ _) rfl st_X2_price cw_X2_price ml_Finder_130 ini_Fns nd_X2_price ⟨by decide, by decide⟩ (Nat.le_of_ble_eq_true rfl) (fun r10 h11 => ?_)
        refine S_iadd g dX1_choose_183 ?_
        refine S_nmI (fun v12 => ?_)
        refine S_istore g dX1_choose_184 (by decide) rfl ?_
        refine S_iload (kk := 0) g dX1_choose_186 rfl ?_
        refine S_aload_n (kk := 5) g dX1_choose_188 rfl rfl ?_
        refine S_geti g dX1_choose_189 fl_Finder_133 (at_45 hw) (Or.inl rfl) ?_
        refine S_icmp_ge (tgt := 216) g dX1_choose_192 (by decide) ?_ ?_
        · refine S_sub g [5, 6, 7] rfl ?_
          exact sX1_choose_p216 hw g self79 hs79 _ _ _
        · refine S_aload_n (kk := 5) g dX1_choose_195 rfl rfl ?_
          refine S_iload (kk := 0) g dX1_choose_196 rfl ?_
          refine S_puti g dX1_choose_198 fp_Finder_133 (at_45 hw) rfl (fun h13 => ?_)
          refine S_aload_n (kk := 5) g dX1_choose_201 rfl rfl ?_
          refine S_getr g dX1_choose_202 fl_Finder_31 (at_45 hw) rfl (rc_45_10 hw) ?_
          refine S_iconst g dX1_choose_205 ⟨by decide, by decide⟩ ?_
          refine S_iload_n (kk := 7) g dX1_choose_206 rfl rfl ?_
          refine S_iastore g dX1_choose_207 (at_52 hw) (fun h14 => ?_)
          refine S_aload_n (kk := 5) g dX1_choose_208 rfl rfl ?_
          refine S_getr g dX1_choose_209 fl_Finder_31 (at_45 hw) rfl (rc_45_10 hw) ?_
          refine S_iconst g dX1_choose_212 ⟨by decide, by decide⟩ ?_
          refine S_iload (kk := 1) g dX1_choose_213 rfl ?_
          refine S_iastore g dX1_choose_215 (at_52 hw) (fun h15 => ?_)
          refine S_sub g [5, 6, 7] rfl ?_
          exact sX1_choose_p216 hw g self79 hs79 _ _ _

theorem sX1_choose {G : GG} {w : Wd} (hw : okX w)  (h : Hp) : SC G w yX1_choose (Cond.code yX1_choose cX1_choose 8 (Option.none : Option Jvm.ClassFile.FieldType)) 3 3 [vP 45] (XX1_choose  h) h := by
  refine SC_of (own := "GatePatch$Finder") plain_Finder rfl (Nat.le_of_ble_eq_true rfl) (fun Γ hG g => ?_)
  subst hG
  show Sim Γ w 3 _ h 0 [(0, vP 45)] []
  unfold XX1_choose
  refine S_aload_n (kk := 0) g dX1_choose_0 rfl rfl ?_
  refine S_geti g dX1_choose_1 fl_Finder_54 (at_45 hw) (Or.inl rfl) ?_
  refine S_callSi (As := [vI (h 45 5)]) g dX1_choose_4 (sX2_ones hw _ _) rfl st_X2_ones cw_X2_ones ml_Finder_122 ini_Fns nd_X2_ones ⟨by decide, by decide⟩ (Nat.le_of_ble_eq_true rfl) (fun r1 h2 => ?_)
  refine S_istore_n g dX1_choose_7 rfl (by decide) rfl ?_
  refine S_aload_n (kk := 1) g dX1_choose_8 rfl rfl ?_
  refine S_geti g dX1_choose_9 fl_Finder_72 (at_45 hw) (Or.inl rfl) ?_
  refine S_iconst g dX1_choose_12 ⟨by decide, by decide⟩ ?_
  refine S_icmp_ne (tgt := 71) g dX1_choose_13 (by decide) ?_ ?_
  · refine S_aload_n (kk := 1) g dX1_choose_71 rfl rfl ?_
    refine S_bipush g dX1_choose_72 ⟨by decide, by decide⟩ rfl ?_
    refine S_puti g dX1_choose_74 fp_Finder_133 (at_45 hw) rfl (fun h3 => ?_)
    refine S_iconst g dX1_choose_77 ⟨by decide, by decide⟩ ?_
    refine S_istore_n g dX1_choose_78 rfl (by decide) rfl ?_
    refine S_sub g [2, 1, 0] rfl ?_
    exact sX1_choose_L79 hw g _ _ _
  · refine S_aload_n (kk := 1) g dX1_choose_16 rfl rfl ?_
    refine S_getr g dX1_choose_17 fl_Finder_31 (at_45 hw) rfl (rc_45_10 hw) ?_
    refine S_iconst g dX1_choose_20 ⟨by decide, by decide⟩ ?_
    refine S_aload_n (kk := 1) g dX1_choose_21 rfl rfl ?_
    refine S_iload_n (kk := 0) g dX1_choose_22 rfl rfl ?_
    refine S_aload_n (kk := 1) g dX1_choose_23 rfl rfl ?_
    refine S_getr g dX1_choose_24 fl_Finder_22 (at_45 hw) rfl (rc_45_7 hw) ?_
    refine S_iconst g dX1_choose_27 ⟨by decide, by decide⟩ ?_
    refine S_iaload g dX1_choose_28 (at_49 hw) ?_
    refine S_iconst g dX1_choose_29 ⟨by decide, by decide⟩ ?_
    refine S_ixor g dX1_choose_30 ?_
    refine S_iand g dX1_choose_31 ?_
    refine S_iload_n (kk := 0) g dX1_choose_32 rfl rfl ?_
    refine S_aload_n (kk := 1) g dX1_choose_33 rfl rfl ?_
    refine S_getr g dX1_choose_34 fl_Finder_22 (at_45 hw) rfl (rc_45_7 hw) ?_
    refine S_iconst g dX1_choose_37 ⟨by decide, by decide⟩ ?_
    refine S_iaload g dX1_choose_38 (at_49 hw) ?_
    refine S_iconst g dX1_choose_39 ⟨by decide, by decide⟩ ?_
    refine S_ixor g dX1_choose_40 ?_
    refine S_iand g dX1_choose_41 ?_
    refine S_callVi (As := [vI (aand r1 (axor (h2 49 (0 : Int).toNat) (-1))), vI (aand r1 (axor (h2 49 (1 : Int).toNat) (-1)))]) g dX1_choose_42 (sX1_cheapest hw _ _ _) rfl (at_45 hw) rfl im_X1_cheapest se_X1_cheapest cw_X1_cheapest ml_Finder_127 ini_Finder nd_X1_cheapest ⟨by decide, by decide⟩ (Nat.le_of_ble_eq_true rfl) (fun r16 h17 => ?_)
    refine S_iastore g dX1_choose_45 (at_52 hw) (fun h18 => ?_)
    refine S_aload_n (kk := 1) g dX1_choose_46 rfl rfl ?_
    refine S_getr g dX1_choose_47 fl_Finder_31 (at_45 hw) rfl (rc_45_10 hw) ?_
    refine S_iconst g dX1_choose_50 ⟨by decide, by decide⟩ ?_
    refine S_iconst g dX1_choose_51 ⟨by decide, by decide⟩ ?_
    refine S_iastore g dX1_choose_52 (at_52 hw) (fun h19 => ?_)
    refine S_aload_n (kk := 1) g dX1_choose_53 rfl rfl ?_
    refine S_aload_n (kk := 1) g dX1_choose_54 rfl rfl ?_
    refine S_geti g dX1_choose_55 fl_Finder_54 (at_45 hw) (Or.inl rfl) ?_
    refine S_aload_n (kk := 1) g dX1_choose_58 rfl rfl ?_
    refine S_getr g dX1_choose_59 fl_Finder_31 (at_45 hw) rfl (rc_45_10 hw) ?_
    refine S_iconst g dX1_choose_62 ⟨by decide, by decide⟩ ?_
    refine S_iaload g dX1_choose_63 (at_52 hw) ?_
    refine S_callSi (As := [vI (h19 45 5), vI (h19 52 (0 : Int).toNat)]) g dX1_choose_64 (sX2_price hw _ _ _) rfl st_X2_price cw_X2_price ml_Finder_130 ini_Fns nd_X2_price ⟨by decide, by decide⟩ (Nat.le_of_ble_eq_true rfl) (fun r20 h21 => ?_)
    refine S_puti g dX1_choose_67 fp_Finder_133 (at_45 hw) rfl (fun h22 => ?_)
    exact S_return g dX1_choose_70 rfl

