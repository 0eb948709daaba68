abbrev cX12_node : ByteArray := prog_14_method_77_code
def yX12_node : MethodName := ⟨"GatePatchModel", "node", "(II)I"⟩
abbrev cX12_isPlace : ByteArray := prog_14_method_78_code
def yX12_isPlace : MethodName := ⟨"GatePatchModel", "isPlace", "(II)Z"⟩
abbrev cX12_site : ByteArray := prog_14_method_79_code
def yX12_site : MethodName := ⟨"GatePatchModel", "site", "(III)I"⟩
abbrev cX12_spare : ByteArray := prog_14_method_80_code
def yX12_spare : MethodName := ⟨"GatePatchModel", "spare", "(III)I"⟩
abbrev cX12_apart : ByteArray := prog_14_method_81_code
def yX12_apart : MethodName := ⟨"GatePatchModel", "apart", "(II)I"⟩
abbrev cX12_far : ByteArray := prog_14_method_82_code
def yX12_far : MethodName := ⟨"GatePatchModel", "far", "(II)I"⟩
abbrev cX12_lengthOf : ByteArray := prog_14_method_83_code
def yX12_lengthOf : MethodName := ⟨"GatePatchModel", "lengthOf", "(II)I"⟩
abbrev cX12_bits : ByteArray := prog_14_method_84_code
def yX12_bits : MethodName := ⟨"GatePatchModel", "bits", "(I)I"⟩
abbrev cX12_canBe : ByteArray := prog_14_method_85_code
def yX12_canBe : MethodName := ⟨"GatePatchModel", "canBe", "(III)Z"⟩
abbrev cX12_place : ByteArray := prog_14_method_86_code
def yX12_place : MethodName := ⟨"GatePatchModel", "place", "()I"⟩
abbrev cX12_used : ByteArray := prog_14_method_87_code
def yX12_used : MethodName := ⟨"GatePatchModel", "used", "(I)I"⟩
abbrev cX12_delay : ByteArray := prog_14_method_88_code
def yX12_delay : MethodName := ⟨"GatePatchModel", "delay", "(II)I"⟩
abbrev cX12_arrivals : ByteArray := prog_14_method_89_code
def yX12_arrivals : MethodName := ⟨"GatePatchModel", "arrivals", "(I)V"⟩
abbrev cX12_arrive : ByteArray := prog_14_method_90_code
def yX12_arrive : MethodName := ⟨"GatePatchModel", "arrive", "(II)I"⟩
abbrev cX12_late : ByteArray := prog_14_method_91_code
def yX12_late : MethodName := ⟨"GatePatchModel", "late", "(I)I"⟩
abbrev cX12_stores : ByteArray := prog_14_method_92_code
def yX12_stores : MethodName := ⟨"GatePatchModel", "stores", "(I)V"⟩
abbrev cX12_brings : ByteArray := prog_14_method_93_code
def yX12_brings : MethodName := ⟨"GatePatchModel", "brings", "(I)V"⟩
abbrev cX12_moves : ByteArray := prog_14_method_94_code
def yX12_moves : MethodName := ⟨"GatePatchModel", "moves", "(II)V"⟩
abbrev cX12_leafOf : ByteArray := prog_14_method_95_code
def yX12_leafOf : MethodName := ⟨"GatePatchModel", "leafOf", "(I)I"⟩
abbrev cX12_partWire : ByteArray := prog_14_method_96_code
def yX12_partWire : MethodName := ⟨"GatePatchModel", "partWire", "(I)I"⟩
abbrev cX12_adds : ByteArray := prog_14_method_97_code
def yX12_adds : MethodName := ⟨"GatePatchModel", "adds", "(IIIII)I"⟩
abbrev cX12_comes : ByteArray := prog_14_method_98_code
def yX12_comes : MethodName := ⟨"GatePatchModel", "comes", "(I)I"⟩
abbrev cX12_changes : ByteArray := prog_14_method_99_code
def yX12_changes : MethodName := ⟨"GatePatchModel", "changes", "(III)V"⟩
abbrev cX12_turns : ByteArray := prog_14_method_100_code
def yX12_turns : MethodName := ⟨"GatePatchModel", "turns", "(II)V"⟩
abbrev cX12_shown : ByteArray := prog_14_method_101_code
def yX12_shown : MethodName := ⟨"GatePatchModel", "shown", "(I)I"⟩
abbrev cX12_apply : ByteArray := prog_14_method_102_code
def yX12_apply : MethodName := ⟨"GatePatchModel", "apply", "()I"⟩
abbrev cX12_undo : ByteArray := prog_14_method_103_code
def yX12_undo : MethodName := ⟨"GatePatchModel", "undo", "()I"⟩
abbrev cX12_change : ByteArray := prog_14_method_104_code
def yX12_change : MethodName := ⟨"GatePatchModel", "change", "(II)I"⟩
abbrev cX12_test : ByteArray := prog_14_method_105_code
def yX12_test : MethodName := ⟨"GatePatchModel", "test", "(I)I"⟩
abbrev cX12_idle : ByteArray := prog_14_method_106_code
def yX12_idle : MethodName := ⟨"GatePatchModel", "idle", "(I)I"⟩
abbrev cX12_tape : ByteArray := prog_14_method_107_code
def yX12_tape : MethodName := ⟨"GatePatchModel", "tape", "(III)I"⟩
abbrev cX12_image : ByteArray := prog_14_method_108_code
def yX12_image : MethodName := ⟨"GatePatchModel", "image", "(I)I"⟩
abbrev cX12_back : ByteArray := prog_14_method_109_code
def yX12_back : MethodName := ⟨"GatePatchModel", "back", "(I)I"⟩
abbrev cX12_toss : ByteArray := prog_14_method_110_code
def yX12_toss : MethodName := ⟨"GatePatchModel", "toss", "(I)I"⟩
abbrev cX12_clear : ByteArray := prog_14_method_111_code
def yX12_clear : MethodName := ⟨"GatePatchModel", "clear", "(I)I"⟩
abbrev cX12_narrowed : ByteArray := prog_14_method_112_code
def yX12_narrowed : MethodName := ⟨"GatePatchModel", "narrowed", "(IJ)J"⟩
abbrev cX12_put : ByteArray := prog_14_method_113_code
def yX12_put : MethodName := ⟨"GatePatchModel", "put", "(IIJ)I"⟩
abbrev cX12_at : ByteArray := prog_14_method_114_code
def yX12_at : MethodName := ⟨"GatePatchModel", "at", "(II)J"⟩
abbrev cX12_copy : ByteArray := prog_14_method_115_code
def yX12_copy : MethodName := ⟨"GatePatchModel", "copy", "(IIIII)I"⟩
abbrev cX12_count : ByteArray := prog_14_method_116_code
def yX12_count : MethodName := ⟨"GatePatchModel", "count", "(I)I"⟩
theorem ml_Mod_433 : Cond.methodLink "GatePatchModel" 433 yX12_isPlace ∈ tblG := mem_t 1883 (by decide +kernel) rfl
theorem st_X12_isPlace : Cond.static yX12_isPlace ∈ tblG := mem_t 1884 (by decide +kernel) rfl
theorem cw_X12_isPlace : Cond.code yX12_isPlace cX12_isPlace 2 (Option.some Jvm.ClassFile.FieldType.boolean) ∈ tblG := mem_t 1885 (by decide +kernel) rfl
theorem nd_X12_isPlace : yX12_isPlace.cls ≠ "java/lang/invoke/MethodHandle" ∧ yX12_isPlace.cls ≠ "java/lang/invoke/VarHandle" ∧ (parseMethodDescriptor yX12_isPlace.desc).map (fun d => d.parameters.length) = some 2 := by decide +kernel
theorem fl_Mod_223 : FL "GatePatchModel" 223 11 12 := ⟨R_Mod, T_Mod, 82, ty_Mod, ci_Mod, by decide, mem_t 1346 (by decide +kernel) rfl⟩
theorem fl_Mod_42 : FL "GatePatchModel" 42 11 13 := ⟨R_Mod, T_Mod, 82, ty_Mod, ci_Mod, by decide, mem_t 1347 (by decide +kernel) rfl⟩
theorem fl_Mod_45 : FL "GatePatchModel" 45 11 14 := ⟨R_Mod, T_Mod, 82, ty_Mod, ci_Mod, by decide, mem_t 1348 (by decide +kernel) rfl⟩
theorem fl_Mod_48 : FL "GatePatchModel" 48 11 15 := ⟨R_Mod, T_Mod, 82, ty_Mod, ci_Mod, by decide, mem_t 1349 (by decide +kernel) rfl⟩
theorem fl_Mod_51 : FL "GatePatchModel" 51 11 16 := ⟨R_Mod, T_Mod, 82, ty_Mod, ci_Mod, by decide, mem_t 1350 (by decide +kernel) rfl⟩
theorem ml_Mod_436 : Cond.methodLink "GatePatchModel" 436 yX12_apart ∈ tblG := mem_t 1909 (by decide +kernel) rfl
theorem st_X12_apart : Cond.static yX12_apart ∈ tblG := mem_t 1910 (by decide +kernel) rfl
theorem cw_X12_apart : Cond.code yX12_apart cX12_apart 2 (Option.some Jvm.ClassFile.FieldType.int) ∈ tblG := mem_t 1911 (by decide +kernel) rfl
theorem nd_X12_apart : yX12_apart.cls ≠ "java/lang/invoke/MethodHandle" ∧ yX12_apart.cls ≠ "java/lang/invoke/VarHandle" ∧ (parseMethodDescriptor yX12_apart.desc).map (fun d => d.parameters.length) = some 2 := by decide +kernel
theorem ml_Mod_439 : Cond.methodLink "GatePatchModel" 439 yX12_far ∈ tblG := mem_t 1905 (by decide +kernel) rfl
theorem im_X12_far : Cond.instanceMethod yX12_far ∈ tblG := mem_t 1907 (by decide +kernel) rfl
theorem se_X12_far : Cond.selects "GatePatchModel" yX12_far yX12_far ∈ tblG := mem_s 82 (by decide +kernel) rfl
theorem cw_X12_far : Cond.code yX12_far cX12_far 3 (Option.some Jvm.ClassFile.FieldType.int) ∈ tblG := mem_t 1908 (by decide +kernel) rfl
theorem nd_X12_far : yX12_far.cls ≠ "java/lang/invoke/MethodHandle" ∧ yX12_far.cls ≠ "java/lang/invoke/VarHandle" ∧ (parseMethodDescriptor yX12_far.desc).map (fun d => d.parameters.length) = some 2 := by decide +kernel
theorem fl_Mod_187 : FL "GatePatchModel" 187 11 77 := ⟨R_Mod, T_Mod, 82, ty_Mod, ci_Mod, by decide, mem_t 1411 (by decide +kernel) rfl⟩
theorem ml_Mod_445 : Cond.methodLink "GatePatchModel" 445 yX12_canBe ∈ tblG := mem_t 1897 (by decide +kernel) rfl
theorem im_X12_canBe : Cond.instanceMethod yX12_canBe ∈ tblG := mem_t 1899 (by decide +kernel) rfl
theorem se_X12_canBe : Cond.selects "GatePatchModel" yX12_canBe yX12_canBe ∈ tblG := mem_s 80 (by decide +kernel) rfl
theorem cw_X12_canBe : Cond.code yX12_canBe cX12_canBe 4 (Option.some Jvm.ClassFile.FieldType.boolean) ∈ tblG := mem_t 1900 (by decide +kernel) rfl
theorem nd_X12_canBe : yX12_canBe.cls ≠ "java/lang/invoke/MethodHandle" ∧ yX12_canBe.cls ≠ "java/lang/invoke/VarHandle" ∧ (parseMethodDescriptor yX12_canBe.desc).map (fun d => d.parameters.length) = some 3 := by decide +kernel
theorem ml_Mod_448 : Cond.methodLink "GatePatchModel" 448 yX12_lengthOf ∈ tblG := mem_t 1901 (by decide +kernel) rfl
theorem im_X12_lengthOf : Cond.instanceMethod yX12_lengthOf ∈ tblG := mem_t 1903 (by decide +kernel) rfl
theorem se_X12_lengthOf : Cond.selects "GatePatchModel" yX12_lengthOf yX12_lengthOf ∈ tblG := mem_s 81 (by decide +kernel) rfl
theorem cw_X12_lengthOf : Cond.code yX12_lengthOf cX12_lengthOf 4 (Option.some Jvm.ClassFile.FieldType.int) ∈ tblG := mem_t 1904 (by decide +kernel) rfl
theorem nd_X12_lengthOf : yX12_lengthOf.cls ≠ "java/lang/invoke/MethodHandle" ∧ yX12_lengthOf.cls ≠ "java/lang/invoke/VarHandle" ∧ (parseMethodDescriptor yX12_lengthOf.desc).map (fun d => d.parameters.length) = some 2 := by decide +kernel
theorem ml_Mod_442 : Cond.methodLink "GatePatchModel" 442 yX12_bits ∈ tblG := mem_t 1894 (by decide +kernel) rfl
theorem st_X12_bits : Cond.static yX12_bits ∈ tblG := mem_t 1895 (by decide +kernel) rfl
theorem cw_X12_bits : Cond.code yX12_bits cX12_bits 3 (Option.some Jvm.ClassFile.FieldType.int) ∈ tblG := mem_t 1896 (by decide +kernel) rfl
theorem nd_X12_bits : yX12_bits.cls ≠ "java/lang/invoke/MethodHandle" ∧ yX12_bits.cls ≠ "java/lang/invoke/VarHandle" ∧ (parseMethodDescriptor yX12_bits.desc).map (fun d => d.parameters.length) = some 1 := by decide +kernel
theorem fl_Mod_190 : FL "GatePatchModel" 190 11 78 := ⟨R_Mod, T_Mod, 82, ty_Mod, ci_Mod, by decide, mem_t 1412 (by decide +kernel) rfl⟩
theorem ml_Mod_451 : Cond.methodLink "GatePatchModel" 451 yX12_arrivals ∈ tblG := mem_t 1924 (by decide +kernel) rfl
theorem im_X12_arrivals : Cond.instanceMethod yX12_arrivals ∈ tblG := mem_t 1926 (by decide +kernel) rfl
theorem se_X12_arrivals : Cond.selects "GatePatchModel" yX12_arrivals yX12_arrivals ∈ tblG := mem_s 83 (by decide +kernel) rfl
theorem cw_X12_arrivals : Cond.code yX12_arrivals cX12_arrivals 7 (Option.none : Option Jvm.ClassFile.FieldType) ∈ tblG := mem_t 1927 (by decide +kernel) rfl
theorem nd_X12_arrivals : yX12_arrivals.cls ≠ "java/lang/invoke/MethodHandle" ∧ yX12_arrivals.cls ≠ "java/lang/invoke/VarHandle" ∧ (parseMethodDescriptor yX12_arrivals.desc).map (fun d => d.parameters.length) = some 1 := by decide +kernel
theorem fl_Mod_115 : FL "GatePatchModel" 115 11 46 := ⟨R_Mod, T_Mod, 82, ty_Mod, ci_Mod, by decide, mem_t 1380 (by decide +kernel) rfl⟩
theorem fl_Mod_118 : FL "GatePatchModel" 118 11 47 := ⟨R_Mod, T_Mod, 82, ty_Mod, ci_Mod, by decide, mem_t 1381 (by decide +kernel) rfl⟩
theorem fl_Mod_121 : FL "GatePatchModel" 121 11 48 := ⟨R_Mod, T_Mod, 82, ty_Mod, ci_Mod, by decide, mem_t 1382 (by decide +kernel) rfl⟩
theorem fl_Mod_124 : FL "GatePatchModel" 124 11 49 := ⟨R_Mod, T_Mod, 82, ty_Mod, ci_Mod, by decide, mem_t 1383 (by decide +kernel) rfl⟩
theorem fl_Mod_145 : FL "GatePatchModel" 145 11 56 := ⟨R_Mod, T_Mod, 82, ty_Mod, ci_Mod, by decide, mem_t 1390 (by decide +kernel) rfl⟩
theorem fl_Mod_136 : FL "GatePatchModel" 136 11 53 := ⟨R_Mod, T_Mod, 82, ty_Mod, ci_Mod, by decide, mem_t 1387 (by decide +kernel) rfl⟩
theorem fl_Mod_133 : FL "GatePatchModel" 133 11 52 := ⟨R_Mod, T_Mod, 82, ty_Mod, ci_Mod, by decide, mem_t 1386 (by decide +kernel) rfl⟩
theorem fl_Mod_127 : FL "GatePatchModel" 127 11 50 := ⟨R_Mod, T_Mod, 82, ty_Mod, ci_Mod, by decide, mem_t 1384 (by decide +kernel) rfl⟩
theorem fl_Mod_139 : FL "GatePatchModel" 139 11 54 := ⟨R_Mod, T_Mod, 82, ty_Mod, ci_Mod, by decide, mem_t 1388 (by decide +kernel) rfl⟩
theorem fl_Mod_142 : FL "GatePatchModel" 142 11 55 := ⟨R_Mod, T_Mod, 82, ty_Mod, ci_Mod, by decide, mem_t 1389 (by decide +kernel) rfl⟩
theorem fl_Mod_130 : FL "GatePatchModel" 130 11 51 := ⟨R_Mod, T_Mod, 82, ty_Mod, ci_Mod, by decide, mem_t 1385 (by decide +kernel) rfl⟩
theorem fl_Mod_193 : FL "GatePatchModel" 193 11 79 := ⟨R_Mod, T_Mod, 82, ty_Mod, ci_Mod, by decide, mem_t 1413 (by decide +kernel) rfl⟩
theorem ml_Mod_454 : Cond.methodLink "GatePatchModel" 454 yX12_leafOf ∈ tblG := mem_t 1936 (by decide +kernel) rfl
theorem im_X12_leafOf : Cond.instanceMethod yX12_leafOf ∈ tblG := mem_t 1938 (by decide +kernel) rfl
theorem se_X12_leafOf : Cond.selects "GatePatchModel" yX12_leafOf yX12_leafOf ∈ tblG := mem_s 84 (by decide +kernel) rfl
theorem cw_X12_leafOf : Cond.code yX12_leafOf cX12_leafOf 4 (Option.some Jvm.ClassFile.FieldType.int) ∈ tblG := mem_t 1939 (by decide +kernel) rfl
theorem nd_X12_leafOf : yX12_leafOf.cls ≠ "java/lang/invoke/MethodHandle" ∧ yX12_leafOf.cls ≠ "java/lang/invoke/VarHandle" ∧ (parseMethodDescriptor yX12_leafOf.desc).map (fun d => d.parameters.length) = some 1 := by decide +kernel
theorem ml_Mod_461 : Cond.methodLink "GatePatchModel" 461 yX12_partWire ∈ tblG := mem_t 1960 (by decide +kernel) rfl
theorem im_X12_partWire : Cond.instanceMethod yX12_partWire ∈ tblG := mem_t 1962 (by decide +kernel) rfl
theorem se_X12_partWire : Cond.selects "GatePatchModel" yX12_partWire yX12_partWire ∈ tblG := mem_s 90 (by decide +kernel) rfl
theorem cw_X12_partWire : Cond.code yX12_partWire cX12_partWire 2 (Option.some Jvm.ClassFile.FieldType.int) ∈ tblG := mem_t 1963 (by decide +kernel) rfl
theorem nd_X12_partWire : yX12_partWire.cls ≠ "java/lang/invoke/MethodHandle" ∧ yX12_partWire.cls ≠ "java/lang/invoke/VarHandle" ∧ (parseMethodDescriptor yX12_partWire.desc).map (fun d => d.parameters.length) = some 1 := by decide +kernel
theorem ml_Mod_457 : Cond.methodLink "GatePatchModel" 457 yX12_adds ∈ tblG := mem_t 1956 (by decide +kernel) rfl
theorem im_X12_adds : Cond.instanceMethod yX12_adds ∈ tblG := mem_t 1958 (by decide +kernel) rfl
theorem se_X12_adds : Cond.selects "GatePatchModel" yX12_adds yX12_adds ∈ tblG := mem_s 89 (by decide +kernel) rfl
theorem cw_X12_adds : Cond.code yX12_adds cX12_adds 7 (Option.some Jvm.ClassFile.FieldType.int) ∈ tblG := mem_t 1959 (by decide +kernel) rfl
theorem nd_X12_adds : yX12_adds.cls ≠ "java/lang/invoke/MethodHandle" ∧ yX12_adds.cls ≠ "java/lang/invoke/VarHandle" ∧ (parseMethodDescriptor yX12_adds.desc).map (fun d => d.parameters.length) = some 5 := by decide +kernel
theorem fl_Mod_93 : FL "GatePatchModel" 93 11 39 := ⟨R_Mod, T_Mod, 82, ty_Mod, ci_Mod, by decide, mem_t 1373 (by decide +kernel) rfl⟩
theorem fl_Mod_236 : FL "GatePatchModel" 236 11 37 := ⟨R_Mod, T_Mod, 82, ty_Mod, ci_Mod, by decide, mem_t 1371 (by decide +kernel) rfl⟩
theorem fl_Mod_96 : FL "GatePatchModel" 96 11 40 := ⟨R_Mod, T_Mod, 82, ty_Mod, ci_Mod, by decide, mem_t 1374 (by decide +kernel) rfl⟩
theorem fl_Mod_99 : FL "GatePatchModel" 99 11 41 := ⟨R_Mod, T_Mod, 82, ty_Mod, ci_Mod, by decide, mem_t 1375 (by decide +kernel) rfl⟩
theorem ml_Mod_464 : Cond.methodLink "GatePatchModel" 464 yX12_changes ∈ tblG := mem_t 1968 (by decide +kernel) rfl
theorem im_X12_changes : Cond.instanceMethod yX12_changes ∈ tblG := mem_t 1970 (by decide +kernel) rfl
theorem se_X12_changes : Cond.selects "GatePatchModel" yX12_changes yX12_changes ∈ tblG := mem_s 92 (by decide +kernel) rfl
theorem cw_X12_changes : Cond.code yX12_changes cX12_changes 4 (Option.none : Option Jvm.ClassFile.FieldType) ∈ tblG := mem_t 1971 (by decide +kernel) rfl
theorem nd_X12_changes : yX12_changes.cls ≠ "java/lang/invoke/MethodHandle" ∧ yX12_changes.cls ≠ "java/lang/invoke/VarHandle" ∧ (parseMethodDescriptor yX12_changes.desc).map (fun d => d.parameters.length) = some 3 := by decide +kernel
theorem ml_Mod_470 : Cond.methodLink "GatePatchModel" 470 yX12_stores ∈ tblG := mem_t 1944 (by decide +kernel) rfl
theorem im_X12_stores : Cond.instanceMethod yX12_stores ∈ tblG := mem_t 1946 (by decide +kernel) rfl
theorem se_X12_stores : Cond.selects "GatePatchModel" yX12_stores yX12_stores ∈ tblG := mem_s 86 (by decide +kernel) rfl
theorem cw_X12_stores : Cond.code yX12_stores cX12_stores 4 (Option.none : Option Jvm.ClassFile.FieldType) ∈ tblG := mem_t 1947 (by decide +kernel) rfl
theorem nd_X12_stores : yX12_stores.cls ≠ "java/lang/invoke/MethodHandle" ∧ yX12_stores.cls ≠ "java/lang/invoke/VarHandle" ∧ (parseMethodDescriptor yX12_stores.desc).map (fun d => d.parameters.length) = some 1 := by decide +kernel
theorem ml_Mod_475 : Cond.methodLink "GatePatchModel" 475 yX12_comes ∈ tblG := mem_t 1952 (by decide +kernel) rfl
theorem im_X12_comes : Cond.instanceMethod yX12_comes ∈ tblG := mem_t 1954 (by decide +kernel) rfl
theorem se_X12_comes : Cond.selects "GatePatchModel" yX12_comes yX12_comes ∈ tblG := mem_s 88 (by decide +kernel) rfl
theorem cw_X12_comes : Cond.code yX12_comes cX12_comes 6 (Option.some Jvm.ClassFile.FieldType.int) ∈ tblG := mem_t 1955 (by decide +kernel) rfl
theorem nd_X12_comes : yX12_comes.cls ≠ "java/lang/invoke/MethodHandle" ∧ yX12_comes.cls ≠ "java/lang/invoke/VarHandle" ∧ (parseMethodDescriptor yX12_comes.desc).map (fun d => d.parameters.length) = some 1 := by decide +kernel
theorem ml_Mod_478 : Cond.methodLink "GatePatchModel" 478 yX12_turns ∈ tblG := mem_t 1964 (by decide +kernel) rfl
theorem im_X12_turns : Cond.instanceMethod yX12_turns ∈ tblG := mem_t 1966 (by decide +kernel) rfl
theorem se_X12_turns : Cond.selects "GatePatchModel" yX12_turns yX12_turns ∈ tblG := mem_s 91 (by decide +kernel) rfl
theorem cw_X12_turns : Cond.code yX12_turns cX12_turns 5 (Option.none : Option Jvm.ClassFile.FieldType) ∈ tblG := mem_t 1967 (by decide +kernel) rfl
theorem nd_X12_turns : yX12_turns.cls ≠ "java/lang/invoke/MethodHandle" ∧ yX12_turns.cls ≠ "java/lang/invoke/VarHandle" ∧ (parseMethodDescriptor yX12_turns.desc).map (fun d => d.parameters.length) = some 2 := by decide +kernel
theorem ml_Mod_472 : Cond.methodLink "GatePatchModel" 472 yX12_shown ∈ tblG := mem_t 1948 (by decide +kernel) rfl
theorem im_X12_shown : Cond.instanceMethod yX12_shown ∈ tblG := mem_t 1950 (by decide +kernel) rfl
theorem se_X12_shown : Cond.selects "GatePatchModel" yX12_shown yX12_shown ∈ tblG := mem_s 87 (by decide +kernel) rfl
theorem cw_X12_shown : Cond.code yX12_shown cX12_shown 4 (Option.some Jvm.ClassFile.FieldType.int) ∈ tblG := mem_t 1951 (by decide +kernel) rfl
theorem nd_X12_shown : yX12_shown.cls ≠ "java/lang/invoke/MethodHandle" ∧ yX12_shown.cls ≠ "java/lang/invoke/VarHandle" ∧ (parseMethodDescriptor yX12_shown.desc).map (fun d => d.parameters.length) = some 1 := by decide +kernel
theorem fl_Mod_196 : FL "GatePatchModel" 196 11 80 := ⟨R_Mod, T_Mod, 82, ty_Mod, ci_Mod, by decide, mem_t 1414 (by decide +kernel) rfl⟩
theorem fl_Mod_102 : FL "GatePatchModel" 102 11 42 := ⟨R_Mod, T_Mod, 82, ty_Mod, ci_Mod, by decide, mem_t 1376 (by decide +kernel) rfl⟩
theorem fl_Mod_239 : FL "GatePatchModel" 239 11 38 := ⟨R_Mod, T_Mod, 82, ty_Mod, ci_Mod, by decide, mem_t 1372 (by decide +kernel) rfl⟩
theorem ml_Mod_467 : Cond.methodLink "GatePatchModel" 467 yX12_moves ∈ tblG := mem_t 1940 (by decide +kernel) rfl
theorem im_X12_moves : Cond.instanceMethod yX12_moves ∈ tblG := mem_t 1942 (by decide +kernel) rfl
theorem se_X12_moves : Cond.selects "GatePatchModel" yX12_moves yX12_moves ∈ tblG := mem_s 85 (by decide +kernel) rfl
theorem cw_X12_moves : Cond.code yX12_moves cX12_moves 5 (Option.none : Option Jvm.ClassFile.FieldType) ∈ tblG := mem_t 1943 (by decide +kernel) rfl
theorem nd_X12_moves : yX12_moves.cls ≠ "java/lang/invoke/MethodHandle" ∧ yX12_moves.cls ≠ "java/lang/invoke/VarHandle" ∧ (parseMethodDescriptor yX12_moves.desc).map (fun d => d.parameters.length) = some 2 := by decide +kernel
theorem ml_Mod_481 : Cond.methodLink "GatePatchModel" 481 yX12_brings ∈ tblG := mem_t 1976 (by decide +kernel) rfl
theorem im_X12_brings : Cond.instanceMethod yX12_brings ∈ tblG := mem_t 1978 (by decide +kernel) rfl
theorem se_X12_brings : Cond.selects "GatePatchModel" yX12_brings yX12_brings ∈ tblG := mem_s 93 (by decide +kernel) rfl
theorem cw_X12_brings : Cond.code yX12_brings cX12_brings 4 (Option.none : Option Jvm.ClassFile.FieldType) ∈ tblG := mem_t 1979 (by decide +kernel) rfl
theorem nd_X12_brings : yX12_brings.cls ≠ "java/lang/invoke/MethodHandle" ∧ yX12_brings.cls ≠ "java/lang/invoke/VarHandle" ∧ (parseMethodDescriptor yX12_brings.desc).map (fun d => d.parameters.length) = some 1 := by decide +kernel
theorem ml_Mod_484 : Cond.methodLink "GatePatchModel" 484 yX12_narrowed ∈ tblG := mem_t 2016 (by decide +kernel) rfl
theorem st_X12_narrowed : Cond.static yX12_narrowed ∈ tblG := mem_t 2017 (by decide +kernel) rfl
theorem cw_X12_narrowed : Cond.code yX12_narrowed cX12_narrowed 3 (Option.some Jvm.ClassFile.FieldType.long) ∈ tblG := mem_t 2018 (by decide +kernel) rfl
theorem nd_X12_narrowed : yX12_narrowed.cls ≠ "java/lang/invoke/MethodHandle" ∧ yX12_narrowed.cls ≠ "java/lang/invoke/VarHandle" ∧ (parseMethodDescriptor yX12_narrowed.desc).map (fun d => d.parameters.length) = some 2 := by decide +kernel
theorem fl_Mod_199 : FL "GatePatchModel" 199 11 81 := ⟨R_Mod, T_Mod, 82, ty_Mod, ci_Mod, by decide, mem_t 1415 (by decide +kernel) rfl⟩
theorem dX12_node_0 : decode cX12_node 0 = .ok (.aload_n 0, 1) := by decide +kernel
theorem dX12_node_1 : decode cX12_node 1 = .ok (.getfield 229, 3) := by decide +kernel
theorem dX12_node_4 : decode cX12_node 4 = .ok (.ifCond .eq 17, 3) := by decide +kernel
theorem dX12_node_7 : decode cX12_node 7 = .ok (.iload_n 1, 1) := by decide +kernel
theorem dX12_node_8 : decode cX12_node 8 = .ok (.iconst 0, 1) := by decide +kernel
theorem dX12_node_9 : decode cX12_node 9 = .ok (.aload_n 0, 1) := by decide +kernel
theorem dX12_node_10 : decode cX12_node 10 = .ok (.getfield 381, 3) := by decide +kernel
theorem dX12_node_13 : decode cX12_node 13 = .ok (.iconst 1, 1) := by decide +kernel
theorem dX12_node_14 : decode cX12_node 14 = .ok (.isub, 1) := by decide +kernel
theorem dX12_node_15 : decode cX12_node 15 = .ok (.invokestatic 212, 3) := by decide +kernel
theorem dX12_node_18 : decode cX12_node 18 = .ok (.ifCond .ne 5, 3) := by decide +kernel
theorem dX12_node_21 : decode cX12_node 21 = .ok (.iconst (-1), 1) := by decide +kernel
theorem dX12_node_22 : decode cX12_node 22 = .ok (.ireturn, 1) := by decide +kernel
theorem dX12_node_23 : decode cX12_node 23 = .ok (.iload_n 2, 1) := by decide +kernel
theorem dX12_node_24 : decode cX12_node 24 = .ok (.tableswitch 71 0 4 #[36, 43, 50, 57, 64], 36) := by decide +kernel
theorem dX12_node_60 : decode cX12_node 60 = .ok (.aload_n 0, 1) := by decide +kernel
theorem dX12_node_61 : decode cX12_node 61 = .ok (.getfield 78, 3) := by decide +kernel
theorem dX12_node_64 : decode cX12_node 64 = .ok (.iload_n 1, 1) := by decide +kernel
theorem dX12_node_65 : decode cX12_node 65 = .ok (.iaload, 1) := by decide +kernel
theorem dX12_node_66 : decode cX12_node 66 = .ok (.ireturn, 1) := by decide +kernel
theorem dX12_node_67 : decode cX12_node 67 = .ok (.aload_n 0, 1) := by decide +kernel
theorem dX12_node_68 : decode cX12_node 68 = .ok (.getfield 81, 3) := by decide +kernel
theorem dX12_node_71 : decode cX12_node 71 = .ok (.iload_n 1, 1) := by decide +kernel
theorem dX12_node_72 : decode cX12_node 72 = .ok (.iaload, 1) := by decide +kernel
theorem dX12_node_73 : decode cX12_node 73 = .ok (.ireturn, 1) := by decide +kernel
theorem dX12_node_74 : decode cX12_node 74 = .ok (.aload_n 0, 1) := by decide +kernel
theorem dX12_node_75 : decode cX12_node 75 = .ok (.getfield 84, 3) := by decide +kernel
theorem dX12_node_78 : decode cX12_node 78 = .ok (.iload_n 1, 1) := by decide +kernel
theorem dX12_node_79 : decode cX12_node 79 = .ok (.iaload, 1) := by decide +kernel
theorem dX12_node_80 : decode cX12_node 80 = .ok (.ireturn, 1) := by decide +kernel
theorem dX12_node_81 : decode cX12_node 81 = .ok (.aload_n 0, 1) := by decide +kernel
theorem dX12_node_82 : decode cX12_node 82 = .ok (.getfield 87, 3) := by decide +kernel
theorem dX12_node_85 : decode cX12_node 85 = .ok (.iload_n 1, 1) := by decide +kernel
theorem dX12_node_86 : decode cX12_node 86 = .ok (.iaload, 1) := by decide +kernel
theorem dX12_node_87 : decode cX12_node 87 = .ok (.ireturn, 1) := by decide +kernel
theorem dX12_node_88 : decode cX12_node 88 = .ok (.aload_n 0, 1) := by decide +kernel
theorem dX12_node_89 : decode cX12_node 89 = .ok (.getfield 90, 3) := by decide +kernel
theorem dX12_node_92 : decode cX12_node 92 = .ok (.iload_n 1, 1) := by decide +kernel
theorem dX12_node_93 : decode cX12_node 93 = .ok (.iaload, 1) := by decide +kernel
theorem dX12_node_94 : decode cX12_node 94 = .ok (.ireturn, 1) := by decide +kernel
theorem dX12_node_95 : decode cX12_node 95 = .ok (.iconst (-1), 1) := by decide +kernel
theorem dX12_node_96 : decode cX12_node 96 = .ok (.ireturn, 1) := by decide +kernel
theorem dX12_isPlace_0 : decode cX12_isPlace 0 = .ok (.iload_n 0, 1) := by decide +kernel
theorem dX12_isPlace_1 : decode cX12_isPlace 1 = .ok (.iconst 0, 1) := by decide +kernel
theorem dX12_isPlace_2 : decode cX12_isPlace 2 = .ok (.bipush 31, 2) := by decide +kernel
theorem dX12_isPlace_4 : decode cX12_isPlace 4 = .ok (.invokestatic 212, 3) := by decide +kernel
theorem dX12_isPlace_7 : decode cX12_isPlace 7 = .ok (.ifCond .eq 17, 3) := by decide +kernel
theorem dX12_isPlace_10 : decode cX12_isPlace 10 = .ok (.iload_n 1, 1) := by decide +kernel
theorem dX12_isPlace_11 : decode cX12_isPlace 11 = .ok (.iconst 0, 1) := by decide +kernel
theorem dX12_isPlace_12 : decode cX12_isPlace 12 = .ok (.bipush 31, 2) := by decide +kernel
theorem dX12_isPlace_14 : decode cX12_isPlace 14 = .ok (.invokestatic 212, 3) := by decide +kernel
theorem dX12_isPlace_17 : decode cX12_isPlace 17 = .ok (.ifCond .eq 7, 3) := by decide +kernel
theorem dX12_isPlace_20 : decode cX12_isPlace 20 = .ok (.iconst 1, 1) := by decide +kernel
theorem dX12_isPlace_21 : decode cX12_isPlace 21 = .ok (.goto 4, 3) := by decide +kernel
theorem dX12_isPlace_24 : decode cX12_isPlace 24 = .ok (.iconst 0, 1) := by decide +kernel
theorem dX12_isPlace_25 : decode cX12_isPlace 25 = .ok (.ireturn, 1) := by decide +kernel
theorem dX12_site_0 : decode cX12_site 0 = .ok (.aload_n 0, 1) := by decide +kernel
theorem dX12_site_1 : decode cX12_site 1 = .ok (.iconst 0, 1) := by decide +kernel
theorem dX12_site_2 : decode cX12_site 2 = .ok (.iload_n 1, 1) := by decide +kernel
theorem dX12_site_3 : decode cX12_site 3 = .ok (.invokevirtual 245, 3) := by decide +kernel
theorem dX12_site_6 : decode cX12_site 6 = .ok (.ifCond .eq 11, 3) := by decide +kernel
theorem dX12_site_9 : decode cX12_site 9 = .ok (.iload_n 2, 1) := by decide +kernel
theorem dX12_site_10 : decode cX12_site 10 = .ok (.iload_n 3, 1) := by decide +kernel
theorem dX12_site_11 : decode cX12_site 11 = .ok (.invokestatic 433, 3) := by decide +kernel
theorem dX12_site_14 : decode cX12_site 14 = .ok (.ifCond .ne 5, 3) := by decide +kernel
theorem dX12_site_17 : decode cX12_site 17 = .ok (.iconst (-1), 1) := by decide +kernel
theorem dX12_site_18 : decode cX12_site 18 = .ok (.ireturn, 1) := by decide +kernel
theorem dX12_site_19 : decode cX12_site 19 = .ok (.bipush 32, 2) := by decide +kernel
theorem dX12_site_21 : decode cX12_site 21 = .ok (.aload_n 0, 1) := by decide +kernel
theorem dX12_site_22 : decode cX12_site 22 = .ok (.getfield 39, 3) := by decide +kernel
theorem dX12_site_25 : decode cX12_site 25 = .ok (.iload_n 1, 1) := by decide +kernel
theorem dX12_site_26 : decode cX12_site 26 = .ok (.iaload, 1) := by decide +kernel
theorem dX12_site_27 : decode cX12_site 27 = .ok (.imul, 1) := by decide +kernel
theorem dX12_site_28 : decode cX12_site 28 = .ok (.aload_n 0, 1) := by decide +kernel
theorem dX12_site_29 : decode cX12_site 29 = .ok (.getfield 36, 3) := by decide +kernel
theorem dX12_site_32 : decode cX12_site 32 = .ok (.iload_n 1, 1) := by decide +kernel
theorem dX12_site_33 : decode cX12_site 33 = .ok (.iaload, 1) := by decide +kernel
theorem dX12_site_34 : decode cX12_site 34 = .ok (.iadd, 1) := by decide +kernel
theorem dX12_site_35 : decode cX12_site 35 = .ok (.istore 4, 2) := by decide +kernel
theorem dX12_site_37 : decode cX12_site 37 = .ok (.aload_n 0, 1) := by decide +kernel
theorem dX12_site_38 : decode cX12_site 38 = .ok (.getfield 36, 3) := by decide +kernel
theorem dX12_site_41 : decode cX12_site 41 = .ok (.iload_n 1, 1) := by decide +kernel
theorem dX12_site_42 : decode cX12_site 42 = .ok (.iload_n 2, 1) := by decide +kernel
theorem dX12_site_43 : decode cX12_site 43 = .ok (.iastore, 1) := by decide +kernel
theorem dX12_site_44 : decode cX12_site 44 = .ok (.aload_n 0, 1) := by decide +kernel
theorem dX12_site_45 : decode cX12_site 45 = .ok (.getfield 39, 3) := by decide +kernel
theorem dX12_site_48 : decode cX12_site 48 = .ok (.iload_n 1, 1) := by decide +kernel
theorem dX12_site_49 : decode cX12_site 49 = .ok (.iload_n 3, 1) := by decide +kernel
theorem dX12_site_50 : decode cX12_site 50 = .ok (.iastore, 1) := by decide +kernel
theorem dX12_site_51 : decode cX12_site 51 = .ok (.aload_n 0, 1) := by decide +kernel
theorem dX12_site_52 : decode cX12_site 52 = .ok (.iconst 0, 1) := by decide +kernel
theorem dX12_site_53 : decode cX12_site 53 = .ok (.invokevirtual 264, 3) := by decide +kernel
theorem dX12_site_56 : decode cX12_site 56 = .ok (.iload 4, 2) := by decide +kernel
theorem dX12_site_58 : decode cX12_site 58 = .ok (.ireturn, 1) := by decide +kernel
theorem dX12_spare_0 : decode cX12_spare 0 = .ok (.iload_n 1, 1) := by decide +kernel
theorem dX12_spare_1 : decode cX12_spare 1 = .ok (.iconst 0, 1) := by decide +kernel
theorem dX12_spare_2 : decode cX12_spare 2 = .ok (.iconst 5, 1) := by decide +kernel
theorem dX12_spare_3 : decode cX12_spare 3 = .ok (.invokestatic 212, 3) := by decide +kernel
theorem dX12_spare_6 : decode cX12_spare 6 = .ok (.ifCond .eq 11, 3) := by decide +kernel
theorem dX12_spare_9 : decode cX12_spare 9 = .ok (.iload_n 2, 1) := by decide +kernel
theorem dX12_spare_10 : decode cX12_spare 10 = .ok (.iload_n 3, 1) := by decide +kernel
theorem dX12_spare_11 : decode cX12_spare 11 = .ok (.invokestatic 433, 3) := by decide +kernel
theorem dX12_spare_14 : decode cX12_spare 14 = .ok (.ifCond .ne 5, 3) := by decide +kernel
theorem dX12_spare_17 : decode cX12_spare 17 = .ok (.iconst (-1), 1) := by decide +kernel
theorem dX12_spare_18 : decode cX12_spare 18 = .ok (.ireturn, 1) := by decide +kernel
theorem dX12_spare_19 : decode cX12_spare 19 = .ok (.aload_n 0, 1) := by decide +kernel
theorem dX12_spare_20 : decode cX12_spare 20 = .ok (.getfield 223, 3) := by decide +kernel
theorem dX12_spare_23 : decode cX12_spare 23 = .ok (.bipush 12, 2) := by decide +kernel
theorem dX12_spare_25 : decode cX12_spare 25 = .ok (.if_icmp .ne 6, 3) := by decide +kernel
theorem dX12_spare_28 : decode cX12_spare 28 = .ok (.bipush (-3), 2) := by decide +kernel
theorem dX12_spare_30 : decode cX12_spare 30 = .ok (.ireturn, 1) := by decide +kernel
theorem dX12_spare_31 : decode cX12_spare 31 = .ok (.aload_n 0, 1) := by decide +kernel
theorem dX12_spare_32 : decode cX12_spare 32 = .ok (.getfield 42, 3) := by decide +kernel
theorem dX12_spare_35 : decode cX12_spare 35 = .ok (.aload_n 0, 1) := by decide +kernel
theorem dX12_spare_36 : decode cX12_spare 36 = .ok (.getfield 223, 3) := by decide +kernel
theorem dX12_spare_39 : decode cX12_spare 39 = .ok (.iload_n 1, 1) := by decide +kernel
theorem dX12_spare_40 : decode cX12_spare 40 = .ok (.iastore, 1) := by decide +kernel
theorem dX12_spare_41 : decode cX12_spare 41 = .ok (.aload_n 0, 1) := by decide +kernel
theorem dX12_spare_42 : decode cX12_spare 42 = .ok (.getfield 45, 3) := by decide +kernel
theorem dX12_spare_45 : decode cX12_spare 45 = .ok (.aload_n 0, 1) := by decide +kernel
theorem dX12_spare_46 : decode cX12_spare 46 = .ok (.getfield 223, 3) := by decide +kernel
theorem dX12_spare_49 : decode cX12_spare 49 = .ok (.iload_n 2, 1) := by decide +kernel
theorem dX12_spare_50 : decode cX12_spare 50 = .ok (.iastore, 1) := by decide +kernel
theorem dX12_spare_51 : decode cX12_spare 51 = .ok (.aload_n 0, 1) := by decide +kernel
theorem dX12_spare_52 : decode cX12_spare 52 = .ok (.getfield 48, 3) := by decide +kernel
theorem dX12_spare_55 : decode cX12_spare 55 = .ok (.aload_n 0, 1) := by decide +kernel
theorem dX12_spare_56 : decode cX12_spare 56 = .ok (.getfield 223, 3) := by decide +kernel
theorem dX12_spare_59 : decode cX12_spare 59 = .ok (.iload_n 3, 1) := by decide +kernel
theorem dX12_spare_60 : decode cX12_spare 60 = .ok (.iastore, 1) := by decide +kernel
theorem dX12_spare_61 : decode cX12_spare 61 = .ok (.aload_n 0, 1) := by decide +kernel
theorem dX12_spare_62 : decode cX12_spare 62 = .ok (.getfield 51, 3) := by decide +kernel
theorem dX12_spare_65 : decode cX12_spare 65 = .ok (.aload_n 0, 1) := by decide +kernel
theorem dX12_spare_66 : decode cX12_spare 66 = .ok (.getfield 223, 3) := by decide +kernel
theorem dX12_spare_69 : decode cX12_spare 69 = .ok (.iconst 0, 1) := by decide +kernel
theorem dX12_spare_70 : decode cX12_spare 70 = .ok (.bastore, 1) := by decide +kernel
theorem dX12_spare_71 : decode cX12_spare 71 = .ok (.aload_n 0, 1) := by decide +kernel
theorem dX12_spare_72 : decode cX12_spare 72 = .ok (.dup, 1) := by decide +kernel
theorem dX12_spare_73 : decode cX12_spare 73 = .ok (.getfield 223, 3) := by decide +kernel
theorem dX12_spare_76 : decode cX12_spare 76 = .ok (.iconst 1, 1) := by decide +kernel
theorem dX12_spare_77 : decode cX12_spare 77 = .ok (.iadd, 1) := by decide +kernel
theorem dX12_spare_78 : decode cX12_spare 78 = .ok (.putfield 223, 3) := by decide +kernel
theorem dX12_spare_81 : decode cX12_spare 81 = .ok (.aload_n 0, 1) := by decide +kernel
theorem dX12_spare_82 : decode cX12_spare 82 = .ok (.iconst 0, 1) := by decide +kernel
theorem dX12_spare_83 : decode cX12_spare 83 = .ok (.invokevirtual 264, 3) := by decide +kernel
theorem dX12_spare_86 : decode cX12_spare 86 = .ok (.aload_n 0, 1) := by decide +kernel
theorem dX12_spare_87 : decode cX12_spare 87 = .ok (.getfield 223, 3) := by decide +kernel
theorem dX12_spare_90 : decode cX12_spare 90 = .ok (.iconst 1, 1) := by decide +kernel
theorem dX12_spare_91 : decode cX12_spare 91 = .ok (.isub, 1) := by decide +kernel
theorem dX12_spare_92 : decode cX12_spare 92 = .ok (.ireturn, 1) := by decide +kernel
theorem dX12_apart_0 : decode cX12_apart 0 = .ok (.iload_n 0, 1) := by decide +kernel
theorem dX12_apart_1 : decode cX12_apart 1 = .ok (.iload_n 1, 1) := by decide +kernel
theorem dX12_apart_2 : decode cX12_apart 2 = .ok (.if_icmp .ge 9, 3) := by decide +kernel
theorem dX12_apart_5 : decode cX12_apart 5 = .ok (.iload_n 1, 1) := by decide +kernel
theorem dX12_apart_6 : decode cX12_apart 6 = .ok (.iload_n 0, 1) := by decide +kernel
theorem dX12_apart_7 : decode cX12_apart 7 = .ok (.isub, 1) := by decide +kernel
theorem dX12_apart_8 : decode cX12_apart 8 = .ok (.goto 6, 3) := by decide +kernel
theorem dX12_apart_11 : decode cX12_apart 11 = .ok (.iload_n 0, 1) := by decide +kernel
theorem dX12_apart_12 : decode cX12_apart 12 = .ok (.iload_n 1, 1) := by decide +kernel
theorem dX12_apart_13 : decode cX12_apart 13 = .ok (.isub, 1) := by decide +kernel
theorem dX12_apart_14 : decode cX12_apart 14 = .ok (.ireturn, 1) := by decide +kernel
theorem dX12_far_0 : decode cX12_far 0 = .ok (.aload_n 0, 1) := by decide +kernel
theorem dX12_far_1 : decode cX12_far 1 = .ok (.getfield 45, 3) := by decide +kernel
theorem dX12_far_4 : decode cX12_far 4 = .ok (.iload_n 1, 1) := by decide +kernel
theorem dX12_far_5 : decode cX12_far 5 = .ok (.iaload, 1) := by decide +kernel
theorem dX12_far_6 : decode cX12_far 6 = .ok (.aload_n 0, 1) := by decide +kernel
theorem dX12_far_7 : decode cX12_far 7 = .ok (.getfield 36, 3) := by decide +kernel
theorem dX12_far_10 : decode cX12_far 10 = .ok (.iload_n 2, 1) := by decide +kernel
theorem dX12_far_11 : decode cX12_far 11 = .ok (.iaload, 1) := by decide +kernel
theorem dX12_far_12 : decode cX12_far 12 = .ok (.invokestatic 436, 3) := by decide +kernel
theorem dX12_far_15 : decode cX12_far 15 = .ok (.aload_n 0, 1) := by decide +kernel
theorem dX12_far_16 : decode cX12_far 16 = .ok (.getfield 48, 3) := by decide +kernel
theorem dX12_far_19 : decode cX12_far 19 = .ok (.iload_n 1, 1) := by decide +kernel
theorem dX12_far_20 : decode cX12_far 20 = .ok (.iaload, 1) := by decide +kernel
theorem dX12_far_21 : decode cX12_far 21 = .ok (.aload_n 0, 1) := by decide +kernel
theorem dX12_far_22 : decode cX12_far 22 = .ok (.getfield 39, 3) := by decide +kernel
theorem dX12_far_25 : decode cX12_far 25 = .ok (.iload_n 2, 1) := by decide +kernel
theorem dX12_far_26 : decode cX12_far 26 = .ok (.iaload, 1) := by decide +kernel
theorem dX12_far_27 : decode cX12_far 27 = .ok (.invokestatic 436, 3) := by decide +kernel
theorem dX12_far_30 : decode cX12_far 30 = .ok (.iadd, 1) := by decide +kernel
theorem dX12_far_31 : decode cX12_far 31 = .ok (.ireturn, 1) := by decide +kernel
theorem dX12_lengthOf_0 : decode cX12_lengthOf 0 = .ok (.aload_n 0, 1) := by decide +kernel
theorem dX12_lengthOf_1 : decode cX12_lengthOf 1 = .ok (.iload_n 2, 1) := by decide +kernel
theorem dX12_lengthOf_2 : decode cX12_lengthOf 2 = .ok (.aload_n 0, 1) := by decide +kernel
theorem dX12_lengthOf_3 : decode cX12_lengthOf 3 = .ok (.getfield 69, 3) := by decide +kernel
theorem dX12_lengthOf_6 : decode cX12_lengthOf 6 = .ok (.aload_n 0, 1) := by decide +kernel
theorem dX12_lengthOf_7 : decode cX12_lengthOf 7 = .ok (.getfield 87, 3) := by decide +kernel
theorem dX12_lengthOf_10 : decode cX12_lengthOf 10 = .ok (.iload_n 1, 1) := by decide +kernel
theorem dX12_lengthOf_11 : decode cX12_lengthOf 11 = .ok (.iaload, 1) := by decide +kernel
theorem dX12_lengthOf_12 : decode cX12_lengthOf 12 = .ok (.iaload, 1) := by decide +kernel
theorem dX12_lengthOf_13 : decode cX12_lengthOf 13 = .ok (.invokevirtual 439, 3) := by decide +kernel
theorem dX12_lengthOf_16 : decode cX12_lengthOf 16 = .ok (.istore_n 3, 1) := by decide +kernel
theorem dX12_lengthOf_17 : decode cX12_lengthOf 17 = .ok (.iload_n 3, 1) := by decide +kernel
theorem dX12_lengthOf_18 : decode cX12_lengthOf 18 = .ok (.aload_n 0, 1) := by decide +kernel
theorem dX12_lengthOf_19 : decode cX12_lengthOf 19 = .ok (.getfield 81, 3) := by decide +kernel
theorem dX12_lengthOf_22 : decode cX12_lengthOf 22 = .ok (.iload_n 1, 1) := by decide +kernel
theorem dX12_lengthOf_23 : decode cX12_lengthOf 23 = .ok (.iaload, 1) := by decide +kernel
theorem dX12_lengthOf_24 : decode cX12_lengthOf 24 = .ok (.bipush 100, 2) := by decide +kernel
theorem dX12_lengthOf_26 : decode cX12_lengthOf 26 = .ok (.bipush 102, 2) := by decide +kernel
theorem dX12_lengthOf_28 : decode cX12_lengthOf 28 = .ok (.invokestatic 212, 3) := by decide +kernel
theorem dX12_lengthOf_31 : decode cX12_lengthOf 31 = .ok (.ifCond .eq 25, 3) := by decide +kernel
theorem dX12_lengthOf_34 : decode cX12_lengthOf 34 = .ok (.aload_n 0, 1) := by decide +kernel
theorem dX12_lengthOf_35 : decode cX12_lengthOf 35 = .ok (.iload_n 2, 1) := by decide +kernel
theorem dX12_lengthOf_36 : decode cX12_lengthOf 36 = .ok (.aload_n 0, 1) := by decide +kernel
theorem dX12_lengthOf_37 : decode cX12_lengthOf 37 = .ok (.getfield 72, 3) := by decide +kernel
theorem dX12_lengthOf_40 : decode cX12_lengthOf 40 = .ok (.aload_n 0, 1) := by decide +kernel
theorem dX12_lengthOf_41 : decode cX12_lengthOf 41 = .ok (.getfield 81, 3) := by decide +kernel
theorem dX12_lengthOf_44 : decode cX12_lengthOf 44 = .ok (.iload_n 1, 1) := by decide +kernel
theorem dX12_lengthOf_45 : decode cX12_lengthOf 45 = .ok (.iaload, 1) := by decide +kernel
theorem dX12_lengthOf_46 : decode cX12_lengthOf 46 = .ok (.bipush 100, 2) := by decide +kernel
theorem dX12_lengthOf_48 : decode cX12_lengthOf 48 = .ok (.isub, 1) := by decide +kernel
theorem dX12_lengthOf_49 : decode cX12_lengthOf 49 = .ok (.iaload, 1) := by decide +kernel
theorem dX12_lengthOf_50 : decode cX12_lengthOf 50 = .ok (.invokevirtual 439, 3) := by decide +kernel
theorem dX12_lengthOf_53 : decode cX12_lengthOf 53 = .ok (.goto 4, 3) := by decide +kernel
theorem dX12_lengthOf_56 : decode cX12_lengthOf 56 = .ok (.iconst 0, 1) := by decide +kernel
theorem dX12_lengthOf_57 : decode cX12_lengthOf 57 = .ok (.iadd, 1) := by decide +kernel
theorem dX12_lengthOf_58 : decode cX12_lengthOf 58 = .ok (.istore_n 3, 1) := by decide +kernel
theorem dX12_lengthOf_59 : decode cX12_lengthOf 59 = .ok (.iload_n 3, 1) := by decide +kernel
theorem dX12_lengthOf_60 : decode cX12_lengthOf 60 = .ok (.aload_n 0, 1) := by decide +kernel
theorem dX12_lengthOf_61 : decode cX12_lengthOf 61 = .ok (.getfield 84, 3) := by decide +kernel
theorem dX12_lengthOf_64 : decode cX12_lengthOf 64 = .ok (.iload_n 1, 1) := by decide +kernel
theorem dX12_lengthOf_65 : decode cX12_lengthOf 65 = .ok (.iaload, 1) := by decide +kernel
theorem dX12_lengthOf_66 : decode cX12_lengthOf 66 = .ok (.bipush 100, 2) := by decide +kernel
theorem dX12_lengthOf_68 : decode cX12_lengthOf 68 = .ok (.bipush 102, 2) := by decide +kernel
theorem dX12_lengthOf_70 : decode cX12_lengthOf 70 = .ok (.invokestatic 212, 3) := by decide +kernel
theorem dX12_lengthOf_73 : decode cX12_lengthOf 73 = .ok (.ifCond .eq 25, 3) := by decide +kernel
theorem dX12_lengthOf_76 : decode cX12_lengthOf 76 = .ok (.aload_n 0, 1) := by decide +kernel
theorem dX12_lengthOf_77 : decode cX12_lengthOf 77 = .ok (.iload_n 2, 1) := by decide +kernel
theorem dX12_lengthOf_78 : decode cX12_lengthOf 78 = .ok (.aload_n 0, 1) := by decide +kernel
theorem dX12_lengthOf_79 : decode cX12_lengthOf 79 = .ok (.getfield 72, 3) := by decide +kernel
theorem dX12_lengthOf_82 : decode cX12_lengthOf 82 = .ok (.aload_n 0, 1) := by decide +kernel
theorem dX12_lengthOf_83 : decode cX12_lengthOf 83 = .ok (.getfield 84, 3) := by decide +kernel
theorem dX12_lengthOf_86 : decode cX12_lengthOf 86 = .ok (.iload_n 1, 1) := by decide +kernel
theorem dX12_lengthOf_87 : decode cX12_lengthOf 87 = .ok (.iaload, 1) := by decide +kernel
theorem dX12_lengthOf_88 : decode cX12_lengthOf 88 = .ok (.bipush 100, 2) := by decide +kernel
theorem dX12_lengthOf_90 : decode cX12_lengthOf 90 = .ok (.isub, 1) := by decide +kernel
theorem dX12_lengthOf_91 : decode cX12_lengthOf 91 = .ok (.iaload, 1) := by decide +kernel
theorem dX12_lengthOf_92 : decode cX12_lengthOf 92 = .ok (.invokevirtual 439, 3) := by decide +kernel
theorem dX12_lengthOf_95 : decode cX12_lengthOf 95 = .ok (.goto 4, 3) := by decide +kernel
theorem dX12_lengthOf_98 : decode cX12_lengthOf 98 = .ok (.iconst 0, 1) := by decide +kernel
theorem dX12_lengthOf_99 : decode cX12_lengthOf 99 = .ok (.iadd, 1) := by decide +kernel
theorem dX12_lengthOf_100 : decode cX12_lengthOf 100 = .ok (.ireturn, 1) := by decide +kernel
theorem dX12_bits_0 : decode cX12_bits 0 = .ok (.iconst 0, 1) := by decide +kernel
theorem dX12_bits_1 : decode cX12_bits 1 = .ok (.istore_n 1, 1) := by decide +kernel
theorem dX12_bits_2 : decode cX12_bits 2 = .ok (.iconst 0, 1) := by decide +kernel
theorem dX12_bits_3 : decode cX12_bits 3 = .ok (.istore_n 2, 1) := by decide +kernel
theorem dX12_bits_4 : decode cX12_bits 4 = .ok (.iload_n 2, 1) := by decide +kernel
theorem dX12_bits_5 : decode cX12_bits 5 = .ok (.bipush 12, 2) := by decide +kernel
theorem dX12_bits_7 : decode cX12_bits 7 = .ok (.if_icmp .ge 17, 3) := by decide +kernel
theorem dX12_bits_10 : decode cX12_bits 10 = .ok (.iload_n 1, 1) := by decide +kernel
theorem dX12_bits_11 : decode cX12_bits 11 = .ok (.iload_n 0, 1) := by decide +kernel
theorem dX12_bits_12 : decode cX12_bits 12 = .ok (.iload_n 2, 1) := by decide +kernel
theorem dX12_bits_13 : decode cX12_bits 13 = .ok (.ishr, 1) := by decide +kernel
theorem dX12_bits_14 : decode cX12_bits 14 = .ok (.iconst 1, 1) := by decide +kernel
theorem dX12_bits_15 : decode cX12_bits 15 = .ok (.iand, 1) := by decide +kernel
theorem dX12_bits_16 : decode cX12_bits 16 = .ok (.iadd, 1) := by decide +kernel
theorem dX12_bits_17 : decode cX12_bits 17 = .ok (.istore_n 1, 1) := by decide +kernel
theorem dX12_bits_18 : decode cX12_bits 18 = .ok (.iinc 2 1, 3) := by decide +kernel
theorem dX12_bits_21 : decode cX12_bits 21 = .ok (.goto (-17), 3) := by decide +kernel
theorem dX12_bits_24 : decode cX12_bits 24 = .ok (.iload_n 1, 1) := by decide +kernel
theorem dX12_bits_25 : decode cX12_bits 25 = .ok (.ireturn, 1) := by decide +kernel
theorem dX12_canBe_0 : decode cX12_canBe 0 = .ok (.iload_n 3, 1) := by decide +kernel
theorem dX12_canBe_1 : decode cX12_canBe 1 = .ok (.iload_n 2, 1) := by decide +kernel
theorem dX12_canBe_2 : decode cX12_canBe 2 = .ok (.ishr, 1) := by decide +kernel
theorem dX12_canBe_3 : decode cX12_canBe 3 = .ok (.iconst 1, 1) := by decide +kernel
theorem dX12_canBe_4 : decode cX12_canBe 4 = .ok (.iand, 1) := by decide +kernel
theorem dX12_canBe_5 : decode cX12_canBe 5 = .ok (.ifCond .ne 31, 3) := by decide +kernel
theorem dX12_canBe_8 : decode cX12_canBe 8 = .ok (.aload_n 0, 1) := by decide +kernel
theorem dX12_canBe_9 : decode cX12_canBe 9 = .ok (.getfield 51, 3) := by decide +kernel
theorem dX12_canBe_12 : decode cX12_canBe 12 = .ok (.iload_n 2, 1) := by decide +kernel
theorem dX12_canBe_13 : decode cX12_canBe 13 = .ok (.baload, 1) := by decide +kernel
theorem dX12_canBe_14 : decode cX12_canBe 14 = .ok (.ifCond .ne 22, 3) := by decide +kernel
theorem dX12_canBe_17 : decode cX12_canBe 17 = .ok (.aload_n 0, 1) := by decide +kernel
theorem dX12_canBe_18 : decode cX12_canBe 18 = .ok (.getfield 42, 3) := by decide +kernel
theorem dX12_canBe_21 : decode cX12_canBe 21 = .ok (.iload_n 2, 1) := by decide +kernel
theorem dX12_canBe_22 : decode cX12_canBe 22 = .ok (.iaload, 1) := by decide +kernel
theorem dX12_canBe_23 : decode cX12_canBe 23 = .ok (.aload_n 0, 1) := by decide +kernel
theorem dX12_canBe_24 : decode cX12_canBe 24 = .ok (.getfield 78, 3) := by decide +kernel
theorem dX12_canBe_27 : decode cX12_canBe 27 = .ok (.iload_n 1, 1) := by decide +kernel
theorem dX12_canBe_28 : decode cX12_canBe 28 = .ok (.iaload, 1) := by decide +kernel
theorem dX12_canBe_29 : decode cX12_canBe 29 = .ok (.if_icmp .ne 7, 3) := by decide +kernel
theorem dX12_canBe_32 : decode cX12_canBe 32 = .ok (.iconst 1, 1) := by decide +kernel
theorem dX12_canBe_33 : decode cX12_canBe 33 = .ok (.goto 4, 3) := by decide +kernel
theorem dX12_canBe_36 : decode cX12_canBe 36 = .ok (.iconst 0, 1) := by decide +kernel
theorem dX12_canBe_37 : decode cX12_canBe 37 = .ok (.ireturn, 1) := by decide +kernel
theorem dX12_place_0 : decode cX12_place 0 = .ok (.aload_n 0, 1) := by decide +kernel
theorem dX12_place_1 : decode cX12_place 1 = .ok (.getfield 229, 3) := by decide +kernel
theorem dX12_place_4 : decode cX12_place 4 = .ok (.ifCond .ne 5, 3) := by decide +kernel
theorem dX12_place_7 : decode cX12_place 7 = .ok (.iconst (-1), 1) := by decide +kernel
theorem dX12_place_8 : decode cX12_place 8 = .ok (.ireturn, 1) := by decide +kernel
theorem dX12_place_9 : decode cX12_place 9 = .ok (.aload_n 0, 1) := by decide +kernel
theorem dX12_place_10 : decode cX12_place 10 = .ok (.getfield 381, 3) := by decide +kernel
theorem dX12_place_13 : decode cX12_place 13 = .ok (.aload_n 0, 1) := by decide +kernel
theorem dX12_place_14 : decode cX12_place 14 = .ok (.getfield 223, 3) := by decide +kernel
theorem dX12_place_17 : decode cX12_place 17 = .ok (.if_icmp .le 6, 3) := by decide +kernel
theorem dX12_place_20 : decode cX12_place 20 = .ok (.bipush (-5), 2) := by decide +kernel
theorem dX12_place_22 : decode cX12_place 22 = .ok (.ireturn, 1) := by decide +kernel
theorem dX12_place_23 : decode cX12_place 23 = .ok (.iconst 1, 1) := by decide +kernel
theorem dX12_place_24 : decode cX12_place 24 = .ok (.aload_n 0, 1) := by decide +kernel
theorem dX12_place_25 : decode cX12_place 25 = .ok (.getfield 223, 3) := by decide +kernel
theorem dX12_place_28 : decode cX12_place 28 = .ok (.ishl, 1) := by decide +kernel
theorem dX12_place_29 : decode cX12_place 29 = .ok (.iconst 1, 1) := by decide +kernel
theorem dX12_place_30 : decode cX12_place 30 = .ok (.isub, 1) := by decide +kernel
theorem dX12_place_31 : decode cX12_place 31 = .ok (.istore_n 1, 1) := by decide +kernel
theorem dX12_place_32 : decode cX12_place 32 = .ok (.iload_n 1, 1) := by decide +kernel
theorem dX12_place_33 : decode cX12_place 33 = .ok (.ifCond .lt 138, 3) := by decide +kernel
theorem dX12_place_36 : decode cX12_place 36 = .ok (.iload_n 1, 1) := by decide +kernel
theorem dX12_place_37 : decode cX12_place 37 = .ok (.invokestatic 442, 3) := by decide +kernel
theorem dX12_place_40 : decode cX12_place 40 = .ok (.istore_n 2, 1) := by decide +kernel
theorem dX12_place_41 : decode cX12_place 41 = .ok (.aload_n 0, 1) := by decide +kernel
theorem dX12_place_42 : decode cX12_place 42 = .ok (.getfield 187, 3) := by decide +kernel
theorem dX12_place_45 : decode cX12_place 45 = .ok (.iload_n 1, 1) := by decide +kernel
theorem dX12_place_46 : decode cX12_place 46 = .ok (.iload_n 2, 1) := by decide +kernel
theorem dX12_place_47 : decode cX12_place 47 = .ok (.aload_n 0, 1) := by decide +kernel
theorem dX12_place_48 : decode cX12_place 48 = .ok (.getfield 381, 3) := by decide +kernel
theorem dX12_place_51 : decode cX12_place 51 = .ok (.if_icmp .ne 7, 3) := by decide +kernel
theorem dX12_place_54 : decode cX12_place 54 = .ok (.iconst 0, 1) := by decide +kernel
theorem dX12_place_55 : decode cX12_place 55 = .ok (.goto 4, 3) := by decide +kernel
theorem dX12_place_58 : decode cX12_place 58 = .ok (.iconst (-1), 1) := by decide +kernel
theorem dX12_place_59 : decode cX12_place 59 = .ok (.iastore, 1) := by decide +kernel
theorem dX12_place_60 : decode cX12_place 60 = .ok (.iconst 0, 1) := by decide +kernel
theorem dX12_place_61 : decode cX12_place 61 = .ok (.istore_n 3, 1) := by decide +kernel
theorem dX12_place_62 : decode cX12_place 62 = .ok (.iload_n 3, 1) := by decide +kernel
theorem dX12_place_63 : decode cX12_place 63 = .ok (.aload_n 0, 1) := by decide +kernel
theorem dX12_place_64 : decode cX12_place 64 = .ok (.getfield 223, 3) := by decide +kernel
theorem dX12_place_67 : decode cX12_place 67 = .ok (.if_icmp .ge 98, 3) := by decide +kernel
theorem dX12_place_70 : decode cX12_place 70 = .ok (.iload_n 2, 1) := by decide +kernel
theorem dX12_place_71 : decode cX12_place 71 = .ok (.aload_n 0, 1) := by decide +kernel
theorem dX12_place_72 : decode cX12_place 72 = .ok (.getfield 381, 3) := by decide +kernel
theorem dX12_place_75 : decode cX12_place 75 = .ok (.if_icmp .ge 90, 3) := by decide +kernel
theorem dX12_place_78 : decode cX12_place 78 = .ok (.aload_n 0, 1) := by decide +kernel
theorem dX12_place_79 : decode cX12_place 79 = .ok (.iload_n 2, 1) := by decide +kernel
theorem dX12_place_80 : decode cX12_place 80 = .ok (.iload_n 3, 1) := by decide +kernel
theorem dX12_place_81 : decode cX12_place 81 = .ok (.iload_n 1, 1) := by decide +kernel
theorem dX12_place_82 : decode cX12_place 82 = .ok (.invokevirtual 445, 3) := by decide +kernel
theorem dX12_place_85 : decode cX12_place 85 = .ok (.ifCond .eq 74, 3) := by decide +kernel
theorem dX12_place_88 : decode cX12_place 88 = .ok (.aload_n 0, 1) := by decide +kernel
theorem dX12_place_89 : decode cX12_place 89 = .ok (.getfield 187, 3) := by decide +kernel
theorem dX12_place_92 : decode cX12_place 92 = .ok (.iload_n 1, 1) := by decide +kernel
theorem dX12_place_93 : decode cX12_place 93 = .ok (.iconst 1, 1) := by decide +kernel
theorem dX12_place_94 : decode cX12_place 94 = .ok (.iload_n 3, 1) := by decide +kernel
theorem dX12_place_95 : decode cX12_place 95 = .ok (.ishl, 1) := by decide +kernel
theorem dX12_place_96 : decode cX12_place 96 = .ok (.ior, 1) := by decide +kernel
theorem dX12_place_97 : decode cX12_place 97 = .ok (.iaload, 1) := by decide +kernel
theorem dX12_place_98 : decode cX12_place 98 = .ok (.iconst (-1), 1) := by decide +kernel
theorem dX12_place_99 : decode cX12_place 99 = .ok (.if_icmp .eq 60, 3) := by decide +kernel
theorem dX12_place_102 : decode cX12_place 102 = .ok (.aload_n 0, 1) := by decide +kernel
theorem dX12_place_103 : decode cX12_place 103 = .ok (.iload_n 2, 1) := by decide +kernel
theorem dX12_place_104 : decode cX12_place 104 = .ok (.iload_n 3, 1) := by decide +kernel
theorem dX12_place_105 : decode cX12_place 105 = .ok (.invokevirtual 448, 3) := by decide +kernel
theorem dX12_place_108 : decode cX12_place 108 = .ok (.aload_n 0, 1) := by decide +kernel
theorem dX12_place_109 : decode cX12_place 109 = .ok (.getfield 187, 3) := by decide +kernel
theorem dX12_place_112 : decode cX12_place 112 = .ok (.iload_n 1, 1) := by decide +kernel
theorem dX12_place_113 : decode cX12_place 113 = .ok (.iconst 1, 1) := by decide +kernel
theorem dX12_place_114 : decode cX12_place 114 = .ok (.iload_n 3, 1) := by decide +kernel
theorem dX12_place_115 : decode cX12_place 115 = .ok (.ishl, 1) := by decide +kernel
theorem dX12_place_116 : decode cX12_place 116 = .ok (.ior, 1) := by decide +kernel
theorem dX12_place_117 : decode cX12_place 117 = .ok (.iaload, 1) := by decide +kernel
theorem dX12_place_118 : decode cX12_place 118 = .ok (.iadd, 1) := by decide +kernel
theorem dX12_place_119 : decode cX12_place 119 = .ok (.istore 4, 2) := by decide +kernel
theorem dX12_place_121 : decode cX12_place 121 = .ok (.aload_n 0, 1) := by decide +kernel
theorem dX12_place_122 : decode cX12_place 122 = .ok (.getfield 187, 3) := by decide +kernel
theorem dX12_place_125 : decode cX12_place 125 = .ok (.iload_n 1, 1) := by decide +kernel
theorem dX12_place_126 : decode cX12_place 126 = .ok (.aload_n 0, 1) := by decide +kernel
theorem dX12_place_127 : decode cX12_place 127 = .ok (.getfield 187, 3) := by decide +kernel
theorem dX12_place_130 : decode cX12_place 130 = .ok (.iload_n 1, 1) := by decide +kernel
theorem dX12_place_131 : decode cX12_place 131 = .ok (.iaload, 1) := by decide +kernel
theorem dX12_place_132 : decode cX12_place 132 = .ok (.iconst (-1), 1) := by decide +kernel
theorem dX12_place_133 : decode cX12_place 133 = .ok (.if_icmp .eq 14, 3) := by decide +kernel
theorem dX12_place_136 : decode cX12_place 136 = .ok (.iload 4, 2) := by decide +kernel
theorem dX12_place_138 : decode cX12_place 138 = .ok (.aload_n 0, 1) := by decide +kernel
theorem dX12_place_139 : decode cX12_place 139 = .ok (.getfield 187, 3) := by decide +kernel
theorem dX12_place_142 : decode cX12_place 142 = .ok (.iload_n 1, 1) := by decide +kernel
theorem dX12_place_143 : decode cX12_place 143 = .ok (.iaload, 1) := by decide +kernel
theorem dX12_place_144 : decode cX12_place 144 = .ok (.if_icmp .ge 8, 3) := by decide +kernel
theorem dX12_place_147 : decode cX12_place 147 = .ok (.iload 4, 2) := by decide +kernel
theorem dX12_place_149 : decode cX12_place 149 = .ok (.goto 9, 3) := by decide +kernel
theorem dX12_place_152 : decode cX12_place 152 = .ok (.aload_n 0, 1) := by decide +kernel
theorem dX12_place_153 : decode cX12_place 153 = .ok (.getfield 187, 3) := by decide +kernel
theorem dX12_place_156 : decode cX12_place 156 = .ok (.iload_n 1, 1) := by decide +kernel
theorem dX12_place_157 : decode cX12_place 157 = .ok (.iaload, 1) := by decide +kernel
theorem dX12_place_158 : decode cX12_place 158 = .ok (.iastore, 1) := by decide +kernel
theorem dX12_place_159 : decode cX12_place 159 = .ok (.iinc 3 1, 3) := by decide +kernel
theorem dX12_place_162 : decode cX12_place 162 = .ok (.goto (-100), 3) := by decide +kernel
theorem dX12_place_165 : decode cX12_place 165 = .ok (.iinc 1 (-1), 3) := by decide +kernel
theorem dX12_place_168 : decode cX12_place 168 = .ok (.goto (-136), 3) := by decide +kernel
theorem dX12_place_171 : decode cX12_place 171 = .ok (.aload_n 0, 1) := by decide +kernel
theorem dX12_place_172 : decode cX12_place 172 = .ok (.getfield 187, 3) := by decide +kernel
theorem dX12_place_175 : decode cX12_place 175 = .ok (.iconst 0, 1) := by decide +kernel
theorem dX12_place_176 : decode cX12_place 176 = .ok (.iaload, 1) := by decide +kernel
theorem dX12_place_177 : decode cX12_place 177 = .ok (.iconst (-1), 1) := by decide +kernel
theorem dX12_place_178 : decode cX12_place 178 = .ok (.if_icmp .ne 6, 3) := by decide +kernel
theorem dX12_place_181 : decode cX12_place 181 = .ok (.bipush (-5), 2) := by decide +kernel
theorem dX12_place_183 : decode cX12_place 183 = .ok (.ireturn, 1) := by decide +kernel
theorem dX12_place_184 : decode cX12_place 184 = .ok (.iconst 0, 1) := by decide +kernel
theorem dX12_place_185 : decode cX12_place 185 = .ok (.istore_n 1, 1) := by decide +kernel
theorem dX12_place_186 : decode cX12_place 186 = .ok (.iconst 0, 1) := by decide +kernel
theorem dX12_place_187 : decode cX12_place 187 = .ok (.istore_n 2, 1) := by decide +kernel
theorem dX12_place_188 : decode cX12_place 188 = .ok (.iload_n 2, 1) := by decide +kernel
theorem dX12_place_189 : decode cX12_place 189 = .ok (.aload_n 0, 1) := by decide +kernel
theorem dX12_place_190 : decode cX12_place 190 = .ok (.getfield 381, 3) := by decide +kernel
theorem dX12_place_193 : decode cX12_place 193 = .ok (.if_icmp .ge 80, 3) := by decide +kernel
theorem dX12_place_196 : decode cX12_place 196 = .ok (.iconst 0, 1) := by decide +kernel
theorem dX12_place_197 : decode cX12_place 197 = .ok (.istore_n 3, 1) := by decide +kernel
theorem dX12_place_198 : decode cX12_place 198 = .ok (.aload_n 0, 1) := by decide +kernel
theorem dX12_place_199 : decode cX12_place 199 = .ok (.iload_n 2, 1) := by decide +kernel
theorem dX12_place_200 : decode cX12_place 200 = .ok (.iload_n 3, 1) := by decide +kernel
theorem dX12_place_201 : decode cX12_place 201 = .ok (.iload_n 1, 1) := by decide +kernel
theorem dX12_place_202 : decode cX12_place 202 = .ok (.invokevirtual 445, 3) := by decide +kernel
theorem dX12_place_205 : decode cX12_place 205 = .ok (.ifCond .eq 43, 3) := by decide +kernel
theorem dX12_place_208 : decode cX12_place 208 = .ok (.aload_n 0, 1) := by decide +kernel
theorem dX12_place_209 : decode cX12_place 209 = .ok (.getfield 187, 3) := by decide +kernel
theorem dX12_place_212 : decode cX12_place 212 = .ok (.iload_n 1, 1) := by decide +kernel
theorem dX12_place_213 : decode cX12_place 213 = .ok (.iconst 1, 1) := by decide +kernel
theorem dX12_place_214 : decode cX12_place 214 = .ok (.iload_n 3, 1) := by decide +kernel
theorem dX12_place_215 : decode cX12_place 215 = .ok (.ishl, 1) := by decide +kernel
theorem dX12_place_216 : decode cX12_place 216 = .ok (.ior, 1) := by decide +kernel
theorem dX12_place_217 : decode cX12_place 217 = .ok (.iaload, 1) := by decide +kernel
theorem dX12_place_218 : decode cX12_place 218 = .ok (.iconst (-1), 1) := by decide +kernel
theorem dX12_place_219 : decode cX12_place 219 = .ok (.if_icmp .eq 29, 3) := by decide +kernel
theorem dX12_place_222 : decode cX12_place 222 = .ok (.aload_n 0, 1) := by decide +kernel
theorem dX12_place_223 : decode cX12_place 223 = .ok (.iload_n 2, 1) := by decide +kernel
theorem dX12_place_224 : decode cX12_place 224 = .ok (.iload_n 3, 1) := by decide +kernel
theorem dX12_place_225 : decode cX12_place 225 = .ok (.invokevirtual 448, 3) := by decide +kernel
theorem dX12_place_228 : decode cX12_place 228 = .ok (.aload_n 0, 1) := by decide +kernel
theorem dX12_place_229 : decode cX12_place 229 = .ok (.getfield 187, 3) := by decide +kernel
theorem dX12_place_232 : decode cX12_place 232 = .ok (.iload_n 1, 1) := by decide +kernel
theorem dX12_place_233 : decode cX12_place 233 = .ok (.iconst 1, 1) := by decide +kernel
theorem dX12_place_234 : decode cX12_place 234 = .ok (.iload_n 3, 1) := by decide +kernel
theorem dX12_place_235 : decode cX12_place 235 = .ok (.ishl, 1) := by decide +kernel
theorem dX12_place_236 : decode cX12_place 236 = .ok (.ior, 1) := by decide +kernel
theorem dX12_place_237 : decode cX12_place 237 = .ok (.iaload, 1) := by decide +kernel
theorem dX12_place_238 : decode cX12_place 238 = .ok (.iadd, 1) := by decide +kernel
theorem dX12_place_239 : decode cX12_place 239 = .ok (.aload_n 0, 1) := by decide +kernel
theorem dX12_place_240 : decode cX12_place 240 = .ok (.getfield 187, 3) := by decide +kernel
theorem dX12_place_243 : decode cX12_place 243 = .ok (.iload_n 1, 1) := by decide +kernel
theorem dX12_place_244 : decode cX12_place 244 = .ok (.iaload, 1) := by decide +kernel
theorem dX12_place_245 : decode cX12_place 245 = .ok (.if_icmp .eq 9, 3) := by decide +kernel
theorem dX12_place_248 : decode cX12_place 248 = .ok (.iinc 3 1, 3) := by decide +kernel
theorem dX12_place_251 : decode cX12_place 251 = .ok (.goto (-53), 3) := by decide +kernel
theorem dX12_place_254 : decode cX12_place 254 = .ok (.aload_n 0, 1) := by decide +kernel
theorem dX12_place_255 : decode cX12_place 255 = .ok (.getfield 90, 3) := by decide +kernel
theorem dX12_place_258 : decode cX12_place 258 = .ok (.iload_n 2, 1) := by decide +kernel
theorem dX12_place_259 : decode cX12_place 259 = .ok (.iload_n 3, 1) := by decide +kernel
theorem dX12_place_260 : decode cX12_place 260 = .ok (.iastore, 1) := by decide +kernel
theorem dX12_place_261 : decode cX12_place 261 = .ok (.iload_n 1, 1) := by decide +kernel
theorem dX12_place_262 : decode cX12_place 262 = .ok (.iconst 1, 1) := by decide +kernel
theorem dX12_place_263 : decode cX12_place 263 = .ok (.iload_n 3, 1) := by decide +kernel
theorem dX12_place_264 : decode cX12_place 264 = .ok (.ishl, 1) := by decide +kernel
theorem dX12_place_265 : decode cX12_place 265 = .ok (.ior, 1) := by decide +kernel
theorem dX12_place_266 : decode cX12_place 266 = .ok (.istore_n 1, 1) := by decide +kernel
theorem dX12_place_267 : decode cX12_place 267 = .ok (.iinc 2 1, 3) := by decide +kernel
theorem dX12_place_270 : decode cX12_place 270 = .ok (.goto (-82), 3) := by decide +kernel
theorem dX12_place_273 : decode cX12_place 273 = .ok (.aload_n 0, 1) := by decide +kernel
theorem dX12_place_274 : decode cX12_place 274 = .ok (.iconst 1, 1) := by decide +kernel
theorem dX12_place_275 : decode cX12_place 275 = .ok (.putfield 405, 3) := by decide +kernel
theorem dX12_place_278 : decode cX12_place 278 = .ok (.aload_n 0, 1) := by decide +kernel
theorem dX12_place_279 : decode cX12_place 279 = .ok (.getfield 187, 3) := by decide +kernel
theorem dX12_place_282 : decode cX12_place 282 = .ok (.iconst 0, 1) := by decide +kernel
theorem dX12_place_283 : decode cX12_place 283 = .ok (.iaload, 1) := by decide +kernel
theorem dX12_place_284 : decode cX12_place 284 = .ok (.ireturn, 1) := by decide +kernel
theorem dX12_used_0 : decode cX12_used 0 = .ok (.iload_n 1, 1) := by decide +kernel
theorem dX12_used_1 : decode cX12_used 1 = .ok (.iconst 0, 1) := by decide +kernel
theorem dX12_used_2 : decode cX12_used 2 = .ok (.aload_n 0, 1) := by decide +kernel
theorem dX12_used_3 : decode cX12_used 3 = .ok (.getfield 223, 3) := by decide +kernel
theorem dX12_used_6 : decode cX12_used 6 = .ok (.iconst 1, 1) := by decide +kernel
theorem dX12_used_7 : decode cX12_used 7 = .ok (.isub, 1) := by decide +kernel
theorem dX12_used_8 : decode cX12_used 8 = .ok (.invokestatic 212, 3) := by decide +kernel
theorem dX12_used_11 : decode cX12_used 11 = .ok (.ifCond .ne 7, 3) := by decide +kernel
theorem dX12_used_14 : decode cX12_used 14 = .ok (.iconst (-1), 1) := by decide +kernel
theorem dX12_used_15 : decode cX12_used 15 = .ok (.goto 17, 3) := by decide +kernel
theorem dX12_used_18 : decode cX12_used 18 = .ok (.aload_n 0, 1) := by decide +kernel
theorem dX12_used_19 : decode cX12_used 19 = .ok (.getfield 51, 3) := by decide +kernel
theorem dX12_used_22 : decode cX12_used 22 = .ok (.iload_n 1, 1) := by decide +kernel
theorem dX12_used_23 : decode cX12_used 23 = .ok (.baload, 1) := by decide +kernel
theorem dX12_used_24 : decode cX12_used 24 = .ok (.ifCond .eq 7, 3) := by decide +kernel
theorem dX12_used_27 : decode cX12_used 27 = .ok (.iconst 1, 1) := by decide +kernel
theorem dX12_used_28 : decode cX12_used 28 = .ok (.goto 4, 3) := by decide +kernel
theorem dX12_used_31 : decode cX12_used 31 = .ok (.iconst 0, 1) := by decide +kernel
theorem dX12_used_32 : decode cX12_used 32 = .ok (.ireturn, 1) := by decide +kernel
theorem dX12_delay_0 : decode cX12_delay 0 = .ok (.iload_n 1, 1) := by decide +kernel
theorem dX12_delay_1 : decode cX12_delay 1 = .ok (.iconst 0, 1) := by decide +kernel
theorem dX12_delay_2 : decode cX12_delay 2 = .ok (.bipush 8, 2) := by decide +kernel
theorem dX12_delay_4 : decode cX12_delay 4 = .ok (.invokestatic 212, 3) := by decide +kernel
theorem dX12_delay_7 : decode cX12_delay 7 = .ok (.ifCond .eq 13, 3) := by decide +kernel
theorem dX12_delay_10 : decode cX12_delay 10 = .ok (.iload_n 2, 1) := by decide +kernel
theorem dX12_delay_11 : decode cX12_delay 11 = .ok (.iconst 0, 1) := by decide +kernel
theorem dX12_delay_12 : decode cX12_delay 12 = .ok (.bipush 9, 2) := by decide +kernel
theorem dX12_delay_14 : decode cX12_delay 14 = .ok (.invokestatic 212, 3) := by decide +kernel
theorem dX12_delay_17 : decode cX12_delay 17 = .ok (.ifCond .ne 5, 3) := by decide +kernel
theorem dX12_delay_20 : decode cX12_delay 20 = .ok (.iconst (-1), 1) := by decide +kernel
theorem dX12_delay_21 : decode cX12_delay 21 = .ok (.ireturn, 1) := by decide +kernel
theorem dX12_delay_22 : decode cX12_delay 22 = .ok (.aload_n 0, 1) := by decide +kernel
theorem dX12_delay_23 : decode cX12_delay 23 = .ok (.getfield 54, 3) := by decide +kernel
theorem dX12_delay_26 : decode cX12_delay 26 = .ok (.iload_n 1, 1) := by decide +kernel
theorem dX12_delay_27 : decode cX12_delay 27 = .ok (.iaload, 1) := by decide +kernel
theorem dX12_delay_28 : decode cX12_delay 28 = .ok (.istore_n 3, 1) := by decide +kernel
theorem dX12_delay_29 : decode cX12_delay 29 = .ok (.aload_n 0, 1) := by decide +kernel
theorem dX12_delay_30 : decode cX12_delay 30 = .ok (.getfield 54, 3) := by decide +kernel
theorem dX12_delay_33 : decode cX12_delay 33 = .ok (.iload_n 1, 1) := by decide +kernel
theorem dX12_delay_34 : decode cX12_delay 34 = .ok (.iload_n 2, 1) := by decide +kernel
theorem dX12_delay_35 : decode cX12_delay 35 = .ok (.iastore, 1) := by decide +kernel
theorem dX12_delay_36 : decode cX12_delay 36 = .ok (.iload_n 3, 1) := by decide +kernel
theorem dX12_delay_37 : decode cX12_delay 37 = .ok (.ireturn, 1) := by decide +kernel
theorem dX12_arrivals_0 : decode cX12_arrivals 0 = .ok (.aload_n 0, 1) := by decide +kernel
theorem dX12_arrivals_1 : decode cX12_arrivals 1 = .ok (.iload_n 1, 1) := by decide +kernel
theorem dX12_arrivals_2 : decode cX12_arrivals 2 = .ok (.invokevirtual 287, 3) := by decide +kernel
theorem dX12_arrivals_5 : decode cX12_arrivals 5 = .ok (.iconst 0, 1) := by decide +kernel
theorem dX12_arrivals_6 : decode cX12_arrivals 6 = .ok (.istore_n 2, 1) := by decide +kernel
theorem dX12_arrivals_7 : decode cX12_arrivals 7 = .ok (.iload_n 2, 1) := by decide +kernel
theorem dX12_arrivals_8 : decode cX12_arrivals 8 = .ok (.aload_n 0, 1) := by decide +kernel
theorem dX12_arrivals_9 : decode cX12_arrivals 9 = .ok (.invokevirtual 208, 3) := by decide +kernel
theorem dX12_arrivals_12 : decode cX12_arrivals 12 = .ok (.if_icmp .ge 16, 3) := by decide +kernel
theorem dX12_arrivals_15 : decode cX12_arrivals 15 = .ok (.aload_n 0, 1) := by decide +kernel
theorem dX12_arrivals_16 : decode cX12_arrivals 16 = .ok (.getfield 190, 3) := by decide +kernel
theorem dX12_arrivals_19 : decode cX12_arrivals 19 = .ok (.iload_n 2, 1) := by decide +kernel
theorem dX12_arrivals_20 : decode cX12_arrivals 20 = .ok (.iconst 0, 1) := by decide +kernel
theorem dX12_arrivals_21 : decode cX12_arrivals 21 = .ok (.iastore, 1) := by decide +kernel
theorem dX12_arrivals_22 : decode cX12_arrivals 22 = .ok (.iinc 2 1, 3) := by decide +kernel
theorem dX12_arrivals_25 : decode cX12_arrivals 25 = .ok (.goto (-18), 3) := by decide +kernel
theorem dX12_arrivals_28 : decode cX12_arrivals 28 = .ok (.iconst 0, 1) := by decide +kernel
theorem dX12_arrivals_29 : decode cX12_arrivals 29 = .ok (.istore_n 2, 1) := by decide +kernel
theorem dX12_arrivals_30 : decode cX12_arrivals 30 = .ok (.iload_n 2, 1) := by decide +kernel
theorem dX12_arrivals_31 : decode cX12_arrivals 31 = .ok (.aload_n 0, 1) := by decide +kernel
theorem dX12_arrivals_32 : decode cX12_arrivals 32 = .ok (.getfield 16, 3) := by decide +kernel
theorem dX12_arrivals_35 : decode cX12_arrivals 35 = .ok (.iload_n 1, 1) := by decide +kernel
theorem dX12_arrivals_36 : decode cX12_arrivals 36 = .ok (.iaload, 1) := by decide +kernel
theorem dX12_arrivals_37 : decode cX12_arrivals 37 = .ok (.if_icmp .ge 123, 3) := by decide +kernel
theorem dX12_arrivals_40 : decode cX12_arrivals 40 = .ok (.aload_n 0, 1) := by decide +kernel
theorem dX12_arrivals_41 : decode cX12_arrivals 41 = .ok (.getfield 151, 3) := by decide +kernel
theorem dX12_arrivals_44 : decode cX12_arrivals 44 = .ok (.bipush 40, 2) := by decide +kernel
theorem dX12_arrivals_46 : decode cX12_arrivals 46 = .ok (.iload_n 1, 1) := by decide +kernel
theorem dX12_arrivals_47 : decode cX12_arrivals 47 = .ok (.imul, 1) := by decide +kernel
theorem dX12_arrivals_48 : decode cX12_arrivals 48 = .ok (.iload_n 2, 1) := by decide +kernel
theorem dX12_arrivals_49 : decode cX12_arrivals 49 = .ok (.iadd, 1) := by decide +kernel
theorem dX12_arrivals_50 : decode cX12_arrivals 50 = .ok (.iaload, 1) := by decide +kernel
theorem dX12_arrivals_51 : decode cX12_arrivals 51 = .ok (.istore_n 3, 1) := by decide +kernel
theorem dX12_arrivals_52 : decode cX12_arrivals 52 = .ok (.bipush 48, 2) := by decide +kernel
theorem dX12_arrivals_54 : decode cX12_arrivals 54 = .ok (.iload_n 1, 1) := by decide +kernel
theorem dX12_arrivals_55 : decode cX12_arrivals 55 = .ok (.imul, 1) := by decide +kernel
theorem dX12_arrivals_56 : decode cX12_arrivals 56 = .ok (.iload_n 3, 1) := by decide +kernel
theorem dX12_arrivals_57 : decode cX12_arrivals 57 = .ok (.iadd, 1) := by decide +kernel
theorem dX12_arrivals_58 : decode cX12_arrivals 58 = .ok (.istore 4, 2) := by decide +kernel
theorem dX12_arrivals_60 : decode cX12_arrivals 60 = .ok (.iconst 0, 1) := by decide +kernel
theorem dX12_arrivals_61 : decode cX12_arrivals 61 = .ok (.istore 5, 2) := by decide +kernel
theorem dX12_arrivals_63 : decode cX12_arrivals 63 = .ok (.iconst 0, 1) := by decide +kernel
theorem dX12_arrivals_64 : decode cX12_arrivals 64 = .ok (.istore 6, 2) := by decide +kernel
theorem dX12_arrivals_66 : decode cX12_arrivals 66 = .ok (.iload 6, 2) := by decide +kernel
theorem dX12_arrivals_68 : decode cX12_arrivals 68 = .ok (.aload_n 0, 1) := by decide +kernel
theorem dX12_arrivals_69 : decode cX12_arrivals 69 = .ok (.getfield 20, 3) := by decide +kernel
theorem dX12_arrivals_72 : decode cX12_arrivals 72 = .ok (.iload 4, 2) := by decide +kernel
theorem dX12_arrivals_74 : decode cX12_arrivals 74 = .ok (.iaload, 1) := by decide +kernel
theorem dX12_arrivals_75 : decode cX12_arrivals 75 = .ok (.invokestatic 253, 3) := by decide +kernel
theorem dX12_arrivals_78 : decode cX12_arrivals 78 = .ok (.if_icmp .ge 55, 3) := by decide +kernel
theorem dX12_arrivals_81 : decode cX12_arrivals 81 = .ok (.aload_n 0, 1) := by decide +kernel
theorem dX12_arrivals_82 : decode cX12_arrivals 82 = .ok (.getfield 190, 3) := by decide +kernel
theorem dX12_arrivals_85 : decode cX12_arrivals 85 = .ok (.aload_n 0, 1) := by decide +kernel
theorem dX12_arrivals_86 : decode cX12_arrivals 86 = .ok (.getfield 23, 3) := by decide +kernel
theorem dX12_arrivals_89 : decode cX12_arrivals 89 = .ok (.iconst 3, 1) := by decide +kernel
theorem dX12_arrivals_90 : decode cX12_arrivals 90 = .ok (.iload 4, 2) := by decide +kernel
theorem dX12_arrivals_92 : decode cX12_arrivals 92 = .ok (.imul, 1) := by decide +kernel
theorem dX12_arrivals_93 : decode cX12_arrivals 93 = .ok (.iload 6, 2) := by decide +kernel
theorem dX12_arrivals_95 : decode cX12_arrivals 95 = .ok (.iadd, 1) := by decide +kernel
theorem dX12_arrivals_96 : decode cX12_arrivals 96 = .ok (.iaload, 1) := by decide +kernel
theorem dX12_arrivals_97 : decode cX12_arrivals 97 = .ok (.iaload, 1) := by decide +kernel
theorem dX12_arrivals_98 : decode cX12_arrivals 98 = .ok (.iload 5, 2) := by decide +kernel
theorem dX12_arrivals_100 : decode cX12_arrivals 100 = .ok (.if_icmp .le 23, 3) := by decide +kernel
theorem dX12_arrivals_103 : decode cX12_arrivals 103 = .ok (.aload_n 0, 1) := by decide +kernel
theorem dX12_arrivals_104 : decode cX12_arrivals 104 = .ok (.getfield 190, 3) := by decide +kernel
theorem dX12_arrivals_107 : decode cX12_arrivals 107 = .ok (.aload_n 0, 1) := by decide +kernel
theorem dX12_arrivals_108 : decode cX12_arrivals 108 = .ok (.getfield 23, 3) := by decide +kernel
theorem dX12_arrivals_111 : decode cX12_arrivals 111 = .ok (.iconst 3, 1) := by decide +kernel
theorem dX12_arrivals_112 : decode cX12_arrivals 112 = .ok (.iload 4, 2) := by decide +kernel
theorem dX12_arrivals_114 : decode cX12_arrivals 114 = .ok (.imul, 1) := by decide +kernel
theorem dX12_arrivals_115 : decode cX12_arrivals 115 = .ok (.iload 6, 2) := by decide +kernel
theorem dX12_arrivals_117 : decode cX12_arrivals 117 = .ok (.iadd, 1) := by decide +kernel
theorem dX12_arrivals_118 : decode cX12_arrivals 118 = .ok (.iaload, 1) := by decide +kernel
theorem dX12_arrivals_119 : decode cX12_arrivals 119 = .ok (.iaload, 1) := by decide +kernel
theorem dX12_arrivals_120 : decode cX12_arrivals 120 = .ok (.goto 5, 3) := by decide +kernel
theorem dX12_arrivals_123 : decode cX12_arrivals 123 = .ok (.iload 5, 2) := by decide +kernel
theorem dX12_arrivals_125 : decode cX12_arrivals 125 = .ok (.istore 5, 2) := by decide +kernel
theorem dX12_arrivals_127 : decode cX12_arrivals 127 = .ok (.iinc 6 1, 3) := by decide +kernel
theorem dX12_arrivals_130 : decode cX12_arrivals 130 = .ok (.goto (-64), 3) := by decide +kernel
theorem dX12_arrivals_133 : decode cX12_arrivals 133 = .ok (.aload_n 0, 1) := by decide +kernel
theorem dX12_arrivals_134 : decode cX12_arrivals 134 = .ok (.getfield 190, 3) := by decide +kernel
theorem dX12_arrivals_137 : decode cX12_arrivals 137 = .ok (.iload_n 3, 1) := by decide +kernel
theorem dX12_arrivals_138 : decode cX12_arrivals 138 = .ok (.iload 5, 2) := by decide +kernel
theorem dX12_arrivals_140 : decode cX12_arrivals 140 = .ok (.aload_n 0, 1) := by decide +kernel
theorem dX12_arrivals_141 : decode cX12_arrivals 141 = .ok (.getfield 54, 3) := by decide +kernel
theorem dX12_arrivals_144 : decode cX12_arrivals 144 = .ok (.aload_n 0, 1) := by decide +kernel
theorem dX12_arrivals_145 : decode cX12_arrivals 145 = .ok (.getfield 20, 3) := by decide +kernel
theorem dX12_arrivals_148 : decode cX12_arrivals 148 = .ok (.iload 4, 2) := by decide +kernel
theorem dX12_arrivals_150 : decode cX12_arrivals 150 = .ok (.iaload, 1) := by decide +kernel
theorem dX12_arrivals_151 : decode cX12_arrivals 151 = .ok (.iaload, 1) := by decide +kernel
theorem dX12_arrivals_152 : decode cX12_arrivals 152 = .ok (.iadd, 1) := by decide +kernel
theorem dX12_arrivals_153 : decode cX12_arrivals 153 = .ok (.iastore, 1) := by decide +kernel
theorem dX12_arrivals_154 : decode cX12_arrivals 154 = .ok (.iinc 2 1, 3) := by decide +kernel
theorem dX12_arrivals_157 : decode cX12_arrivals 157 = .ok (.goto (-127), 3) := by decide +kernel
theorem dX12_arrivals_160 : decode cX12_arrivals 160 = .ok (.return_, 1) := by decide +kernel
theorem dX12_arrive_0 : decode cX12_arrive 0 = .ok (.iload_n 1, 1) := by decide +kernel
theorem dX12_arrive_1 : decode cX12_arrive 1 = .ok (.invokestatic 249, 3) := by decide +kernel
theorem dX12_arrive_4 : decode cX12_arrive 4 = .ok (.ifCond .eq 12, 3) := by decide +kernel
theorem dX12_arrive_7 : decode cX12_arrive 7 = .ok (.aload_n 0, 1) := by decide +kernel
theorem dX12_arrive_8 : decode cX12_arrive 8 = .ok (.iload_n 1, 1) := by decide +kernel
theorem dX12_arrive_9 : decode cX12_arrive 9 = .ok (.iload_n 2, 1) := by decide +kernel
theorem dX12_arrive_10 : decode cX12_arrive 10 = .ok (.invokevirtual 245, 3) := by decide +kernel
theorem dX12_arrive_13 : decode cX12_arrive 13 = .ok (.ifCond .ne 5, 3) := by decide +kernel
theorem dX12_arrive_16 : decode cX12_arrive 16 = .ok (.iconst (-1), 1) := by decide +kernel
theorem dX12_arrive_17 : decode cX12_arrive 17 = .ok (.ireturn, 1) := by decide +kernel
theorem dX12_arrive_18 : decode cX12_arrive 18 = .ok (.aload_n 0, 1) := by decide +kernel
theorem dX12_arrive_19 : decode cX12_arrive 19 = .ok (.iload_n 1, 1) := by decide +kernel
theorem dX12_arrive_20 : decode cX12_arrive 20 = .ok (.invokevirtual 451, 3) := by decide +kernel
theorem dX12_arrive_23 : decode cX12_arrive 23 = .ok (.aload_n 0, 1) := by decide +kernel
theorem dX12_arrive_24 : decode cX12_arrive 24 = .ok (.getfield 190, 3) := by decide +kernel
theorem dX12_arrive_27 : decode cX12_arrive 27 = .ok (.iload_n 2, 1) := by decide +kernel
theorem dX12_arrive_28 : decode cX12_arrive 28 = .ok (.iaload, 1) := by decide +kernel
theorem dX12_arrive_29 : decode cX12_arrive 29 = .ok (.ireturn, 1) := by decide +kernel
theorem dX12_late_0 : decode cX12_late 0 = .ok (.iload_n 1, 1) := by decide +kernel
theorem dX12_late_1 : decode cX12_late 1 = .ok (.ifCond .ge 5, 3) := by decide +kernel
theorem dX12_late_4 : decode cX12_late 4 = .ok (.iconst (-1), 1) := by decide +kernel
theorem dX12_late_5 : decode cX12_late 5 = .ok (.ireturn, 1) := by decide +kernel
theorem dX12_late_6 : decode cX12_late 6 = .ok (.aload_n 0, 1) := by decide +kernel
theorem dX12_late_7 : decode cX12_late 7 = .ok (.iconst 0, 1) := by decide +kernel
theorem dX12_late_8 : decode cX12_late 8 = .ok (.invokevirtual 451, 3) := by decide +kernel
theorem dX12_late_11 : decode cX12_late 11 = .ok (.iconst 0, 1) := by decide +kernel
theorem dX12_late_12 : decode cX12_late 12 = .ok (.istore_n 2, 1) := by decide +kernel
theorem dX12_late_13 : decode cX12_late 13 = .ok (.iconst 0, 1) := by decide +kernel
theorem dX12_late_14 : decode cX12_late 14 = .ok (.istore_n 3, 1) := by decide +kernel
theorem dX12_late_15 : decode cX12_late 15 = .ok (.iload_n 3, 1) := by decide +kernel
theorem dX12_late_16 : decode cX12_late 16 = .ok (.aload_n 0, 1) := by decide +kernel
theorem dX12_late_17 : decode cX12_late 17 = .ok (.invokevirtual 316, 3) := by decide +kernel
theorem dX12_late_20 : decode cX12_late 20 = .ok (.if_icmp .ge 32, 3) := by decide +kernel
theorem dX12_late_23 : decode cX12_late 23 = .ok (.iload_n 2, 1) := by decide +kernel
theorem dX12_late_24 : decode cX12_late 24 = .ok (.aload_n 0, 1) := by decide +kernel
theorem dX12_late_25 : decode cX12_late 25 = .ok (.getfield 190, 3) := by decide +kernel
theorem dX12_late_28 : decode cX12_late 28 = .ok (.aload_n 0, 1) := by decide +kernel
theorem dX12_late_29 : decode cX12_late 29 = .ok (.iconst 0, 1) := by decide +kernel
theorem dX12_late_30 : decode cX12_late 30 = .ok (.iload_n 3, 1) := by decide +kernel
theorem dX12_late_31 : decode cX12_late 31 = .ok (.invokevirtual 319, 3) := by decide +kernel
theorem dX12_late_34 : decode cX12_late 34 = .ok (.iaload, 1) := by decide +kernel
theorem dX12_late_35 : decode cX12_late 35 = .ok (.iload_n 1, 1) := by decide +kernel
theorem dX12_late_36 : decode cX12_late 36 = .ok (.if_icmp .le 7, 3) := by decide +kernel
theorem dX12_late_39 : decode cX12_late 39 = .ok (.iconst 1, 1) := by decide +kernel
theorem dX12_late_40 : decode cX12_late 40 = .ok (.goto 4, 3) := by decide +kernel
theorem dX12_late_43 : decode cX12_late 43 = .ok (.iconst 0, 1) := by decide +kernel
theorem dX12_late_44 : decode cX12_late 44 = .ok (.iadd, 1) := by decide +kernel
theorem dX12_late_45 : decode cX12_late 45 = .ok (.istore_n 2, 1) := by decide +kernel
theorem dX12_late_46 : decode cX12_late 46 = .ok (.iinc 3 1, 3) := by decide +kernel
theorem dX12_late_49 : decode cX12_late 49 = .ok (.goto (-34), 3) := by decide +kernel
theorem dX12_late_52 : decode cX12_late 52 = .ok (.iload_n 2, 1) := by decide +kernel
theorem dX12_late_53 : decode cX12_late 53 = .ok (.ireturn, 1) := by decide +kernel
theorem dX12_stores_0 : decode cX12_stores 0 = .ok (.aload_n 0, 1) := by decide +kernel
theorem dX12_stores_1 : decode cX12_stores 1 = .ok (.getfield 115, 3) := by decide +kernel
theorem dX12_stores_4 : decode cX12_stores 4 = .ok (.iload_n 1, 1) := by decide +kernel
theorem dX12_stores_5 : decode cX12_stores 5 = .ok (.aload_n 0, 1) := by decide +kernel
theorem dX12_stores_6 : decode cX12_stores 6 = .ok (.getfield 7, 3) := by decide +kernel
theorem dX12_stores_9 : decode cX12_stores 9 = .ok (.iastore, 1) := by decide +kernel
theorem dX12_stores_10 : decode cX12_stores 10 = .ok (.aload_n 0, 1) := by decide +kernel
theorem dX12_stores_11 : decode cX12_stores 11 = .ok (.getfield 118, 3) := by decide +kernel
theorem dX12_stores_14 : decode cX12_stores 14 = .ok (.iload_n 1, 1) := by decide +kernel
theorem dX12_stores_15 : decode cX12_stores 15 = .ok (.aload_n 0, 1) := by decide +kernel
theorem dX12_stores_16 : decode cX12_stores 16 = .ok (.getfield 205, 3) := by decide +kernel
theorem dX12_stores_19 : decode cX12_stores 19 = .ok (.iastore, 1) := by decide +kernel
theorem dX12_stores_20 : decode cX12_stores 20 = .ok (.aload_n 0, 1) := by decide +kernel
theorem dX12_stores_21 : decode cX12_stores 21 = .ok (.getfield 121, 3) := by decide +kernel
theorem dX12_stores_24 : decode cX12_stores 24 = .ok (.iload_n 1, 1) := by decide +kernel
theorem dX12_stores_25 : decode cX12_stores 25 = .ok (.aload_n 0, 1) := by decide +kernel
theorem dX12_stores_26 : decode cX12_stores 26 = .ok (.getfield 13, 3) := by decide +kernel
theorem dX12_stores_29 : decode cX12_stores 29 = .ok (.iastore, 1) := by decide +kernel
theorem dX12_stores_30 : decode cX12_stores 30 = .ok (.aload_n 0, 1) := by decide +kernel
theorem dX12_stores_31 : decode cX12_stores 31 = .ok (.getfield 124, 3) := by decide +kernel
theorem dX12_stores_34 : decode cX12_stores 34 = .ok (.iload_n 1, 1) := by decide +kernel
theorem dX12_stores_35 : decode cX12_stores 35 = .ok (.aload_n 0, 1) := by decide +kernel
theorem dX12_stores_36 : decode cX12_stores 36 = .ok (.getfield 16, 3) := by decide +kernel
theorem dX12_stores_39 : decode cX12_stores 39 = .ok (.iconst 0, 1) := by decide +kernel
theorem dX12_stores_40 : decode cX12_stores 40 = .ok (.iaload, 1) := by decide +kernel
theorem dX12_stores_41 : decode cX12_stores 41 = .ok (.iastore, 1) := by decide +kernel
theorem dX12_stores_42 : decode cX12_stores 42 = .ok (.iconst 0, 1) := by decide +kernel
theorem dX12_stores_43 : decode cX12_stores 43 = .ok (.istore_n 2, 1) := by decide +kernel
theorem dX12_stores_44 : decode cX12_stores 44 = .ok (.iload_n 2, 1) := by decide +kernel
theorem dX12_stores_45 : decode cX12_stores 45 = .ok (.bipush 48, 2) := by decide +kernel
theorem dX12_stores_47 : decode cX12_stores 47 = .ok (.if_icmp .ge 98, 3) := by decide +kernel
theorem dX12_stores_50 : decode cX12_stores 50 = .ok (.aload_n 0, 1) := by decide +kernel
theorem dX12_stores_51 : decode cX12_stores 51 = .ok (.getfield 127, 3) := by decide +kernel
theorem dX12_stores_54 : decode cX12_stores 54 = .ok (.bipush 48, 2) := by decide +kernel
theorem dX12_stores_56 : decode cX12_stores 56 = .ok (.iload_n 1, 1) := by decide +kernel
theorem dX12_stores_57 : decode cX12_stores 57 = .ok (.imul, 1) := by decide +kernel
theorem dX12_stores_58 : decode cX12_stores 58 = .ok (.iload_n 2, 1) := by decide +kernel
theorem dX12_stores_59 : decode cX12_stores 59 = .ok (.iadd, 1) := by decide +kernel
theorem dX12_stores_60 : decode cX12_stores 60 = .ok (.aload_n 0, 1) := by decide +kernel
theorem dX12_stores_61 : decode cX12_stores 61 = .ok (.getfield 20, 3) := by decide +kernel
theorem dX12_stores_64 : decode cX12_stores 64 = .ok (.iload_n 2, 1) := by decide +kernel
theorem dX12_stores_65 : decode cX12_stores 65 = .ok (.iaload, 1) := by decide +kernel
theorem dX12_stores_66 : decode cX12_stores 66 = .ok (.iastore, 1) := by decide +kernel
theorem dX12_stores_67 : decode cX12_stores 67 = .ok (.aload_n 0, 1) := by decide +kernel
theorem dX12_stores_68 : decode cX12_stores 68 = .ok (.getfield 139, 3) := by decide +kernel
theorem dX12_stores_71 : decode cX12_stores 71 = .ok (.bipush 48, 2) := by decide +kernel
theorem dX12_stores_73 : decode cX12_stores 73 = .ok (.iload_n 1, 1) := by decide +kernel
theorem dX12_stores_74 : decode cX12_stores 74 = .ok (.imul, 1) := by decide +kernel
theorem dX12_stores_75 : decode cX12_stores 75 = .ok (.iload_n 2, 1) := by decide +kernel
theorem dX12_stores_76 : decode cX12_stores 76 = .ok (.iadd, 1) := by decide +kernel
theorem dX12_stores_77 : decode cX12_stores 77 = .ok (.aload_n 0, 1) := by decide +kernel
theorem dX12_stores_78 : decode cX12_stores 78 = .ok (.getfield 36, 3) := by decide +kernel
theorem dX12_stores_81 : decode cX12_stores 81 = .ok (.iload_n 2, 1) := by decide +kernel
theorem dX12_stores_82 : decode cX12_stores 82 = .ok (.iaload, 1) := by decide +kernel
theorem dX12_stores_83 : decode cX12_stores 83 = .ok (.iastore, 1) := by decide +kernel
theorem dX12_stores_84 : decode cX12_stores 84 = .ok (.aload_n 0, 1) := by decide +kernel
theorem dX12_stores_85 : decode cX12_stores 85 = .ok (.getfield 142, 3) := by decide +kernel
theorem dX12_stores_88 : decode cX12_stores 88 = .ok (.bipush 48, 2) := by decide +kernel
theorem dX12_stores_90 : decode cX12_stores 90 = .ok (.iload_n 1, 1) := by decide +kernel
theorem dX12_stores_91 : decode cX12_stores 91 = .ok (.imul, 1) := by decide +kernel
theorem dX12_stores_92 : decode cX12_stores 92 = .ok (.iload_n 2, 1) := by decide +kernel
theorem dX12_stores_93 : decode cX12_stores 93 = .ok (.iadd, 1) := by decide +kernel
theorem dX12_stores_94 : decode cX12_stores 94 = .ok (.aload_n 0, 1) := by decide +kernel
theorem dX12_stores_95 : decode cX12_stores 95 = .ok (.getfield 39, 3) := by decide +kernel
theorem dX12_stores_98 : decode cX12_stores 98 = .ok (.iload_n 2, 1) := by decide +kernel
theorem dX12_stores_99 : decode cX12_stores 99 = .ok (.iaload, 1) := by decide +kernel
theorem dX12_stores_100 : decode cX12_stores 100 = .ok (.iastore, 1) := by decide +kernel
theorem dX12_stores_101 : decode cX12_stores 101 = .ok (.iconst 0, 1) := by decide +kernel
theorem dX12_stores_102 : decode cX12_stores 102 = .ok (.istore_n 3, 1) := by decide +kernel
theorem dX12_stores_103 : decode cX12_stores 103 = .ok (.iload_n 3, 1) := by decide +kernel
theorem dX12_stores_104 : decode cX12_stores 104 = .ok (.iconst 3, 1) := by decide +kernel
theorem dX12_stores_105 : decode cX12_stores 105 = .ok (.if_icmp .ge 34, 3) := by decide +kernel
theorem dX12_stores_108 : decode cX12_stores 108 = .ok (.aload_n 0, 1) := by decide +kernel
theorem dX12_stores_109 : decode cX12_stores 109 = .ok (.getfield 130, 3) := by decide +kernel
theorem dX12_stores_112 : decode cX12_stores 112 = .ok (.iconst 3, 1) := by decide +kernel
theorem dX12_stores_113 : decode cX12_stores 113 = .ok (.bipush 48, 2) := by decide +kernel
theorem dX12_stores_115 : decode cX12_stores 115 = .ok (.iload_n 1, 1) := by decide +kernel
theorem dX12_stores_116 : decode cX12_stores 116 = .ok (.imul, 1) := by decide +kernel
theorem dX12_stores_117 : decode cX12_stores 117 = .ok (.iload_n 2, 1) := by decide +kernel
theorem dX12_stores_118 : decode cX12_stores 118 = .ok (.iadd, 1) := by decide +kernel
theorem dX12_stores_119 : decode cX12_stores 119 = .ok (.imul, 1) := by decide +kernel
theorem dX12_stores_120 : decode cX12_stores 120 = .ok (.iload_n 3, 1) := by decide +kernel
theorem dX12_stores_121 : decode cX12_stores 121 = .ok (.iadd, 1) := by decide +kernel
theorem dX12_stores_122 : decode cX12_stores 122 = .ok (.aload_n 0, 1) := by decide +kernel
theorem dX12_stores_123 : decode cX12_stores 123 = .ok (.getfield 23, 3) := by decide +kernel
theorem dX12_stores_126 : decode cX12_stores 126 = .ok (.iconst 3, 1) := by decide +kernel
theorem dX12_stores_127 : decode cX12_stores 127 = .ok (.iload_n 2, 1) := by decide +kernel
theorem dX12_stores_128 : decode cX12_stores 128 = .ok (.imul, 1) := by decide +kernel
theorem dX12_stores_129 : decode cX12_stores 129 = .ok (.iload_n 3, 1) := by decide +kernel
theorem dX12_stores_130 : decode cX12_stores 130 = .ok (.iadd, 1) := by decide +kernel
theorem dX12_stores_131 : decode cX12_stores 131 = .ok (.iaload, 1) := by decide +kernel
theorem dX12_stores_132 : decode cX12_stores 132 = .ok (.iastore, 1) := by decide +kernel
theorem dX12_stores_133 : decode cX12_stores 133 = .ok (.iinc 3 1, 3) := by decide +kernel
theorem dX12_stores_136 : decode cX12_stores 136 = .ok (.goto (-33), 3) := by decide +kernel
theorem dX12_stores_139 : decode cX12_stores 139 = .ok (.iinc 2 1, 3) := by decide +kernel
theorem dX12_stores_142 : decode cX12_stores 142 = .ok (.goto (-98), 3) := by decide +kernel
theorem dX12_stores_145 : decode cX12_stores 145 = .ok (.iconst 0, 1) := by decide +kernel
theorem dX12_stores_146 : decode cX12_stores 146 = .ok (.istore_n 2, 1) := by decide +kernel
theorem dX12_stores_147 : decode cX12_stores 147 = .ok (.iload_n 2, 1) := by decide +kernel
theorem dX12_stores_148 : decode cX12_stores 148 = .ok (.iconst 4, 1) := by decide +kernel
theorem dX12_stores_149 : decode cX12_stores 149 = .ok (.if_icmp .ge 25, 3) := by decide +kernel
theorem dX12_stores_152 : decode cX12_stores 152 = .ok (.aload_n 0, 1) := by decide +kernel
theorem dX12_stores_153 : decode cX12_stores 153 = .ok (.getfield 133, 3) := by decide +kernel
theorem dX12_stores_156 : decode cX12_stores 156 = .ok (.iconst 4, 1) := by decide +kernel
theorem dX12_stores_157 : decode cX12_stores 157 = .ok (.iload_n 1, 1) := by decide +kernel
theorem dX12_stores_158 : decode cX12_stores 158 = .ok (.imul, 1) := by decide +kernel
theorem dX12_stores_159 : decode cX12_stores 159 = .ok (.iload_n 2, 1) := by decide +kernel
theorem dX12_stores_160 : decode cX12_stores 160 = .ok (.iadd, 1) := by decide +kernel
theorem dX12_stores_161 : decode cX12_stores 161 = .ok (.aload_n 0, 1) := by decide +kernel
theorem dX12_stores_162 : decode cX12_stores 162 = .ok (.getfield 26, 3) := by decide +kernel
theorem dX12_stores_165 : decode cX12_stores 165 = .ok (.iload_n 2, 1) := by decide +kernel
theorem dX12_stores_166 : decode cX12_stores 166 = .ok (.iaload, 1) := by decide +kernel
theorem dX12_stores_167 : decode cX12_stores 167 = .ok (.iastore, 1) := by decide +kernel
theorem dX12_stores_168 : decode cX12_stores 168 = .ok (.iinc 2 1, 3) := by decide +kernel
theorem dX12_stores_171 : decode cX12_stores 171 = .ok (.goto (-24), 3) := by decide +kernel
theorem dX12_stores_174 : decode cX12_stores 174 = .ok (.iconst 0, 1) := by decide +kernel
theorem dX12_stores_175 : decode cX12_stores 175 = .ok (.istore_n 2, 1) := by decide +kernel
theorem dX12_stores_176 : decode cX12_stores 176 = .ok (.iload_n 2, 1) := by decide +kernel
theorem dX12_stores_177 : decode cX12_stores 177 = .ok (.iconst 2, 1) := by decide +kernel
theorem dX12_stores_178 : decode cX12_stores 178 = .ok (.if_icmp .ge 25, 3) := by decide +kernel
theorem dX12_stores_181 : decode cX12_stores 181 = .ok (.aload_n 0, 1) := by decide +kernel
theorem dX12_stores_182 : decode cX12_stores 182 = .ok (.getfield 136, 3) := by decide +kernel
theorem dX12_stores_185 : decode cX12_stores 185 = .ok (.iconst 2, 1) := by decide +kernel
theorem dX12_stores_186 : decode cX12_stores 186 = .ok (.iload_n 1, 1) := by decide +kernel
theorem dX12_stores_187 : decode cX12_stores 187 = .ok (.imul, 1) := by decide +kernel
theorem dX12_stores_188 : decode cX12_stores 188 = .ok (.iload_n 2, 1) := by decide +kernel
theorem dX12_stores_189 : decode cX12_stores 189 = .ok (.iadd, 1) := by decide +kernel
theorem dX12_stores_190 : decode cX12_stores 190 = .ok (.aload_n 0, 1) := by decide +kernel
theorem dX12_stores_191 : decode cX12_stores 191 = .ok (.getfield 29, 3) := by decide +kernel
theorem dX12_stores_194 : decode cX12_stores 194 = .ok (.iload_n 2, 1) := by decide +kernel
theorem dX12_stores_195 : decode cX12_stores 195 = .ok (.iaload, 1) := by decide +kernel
theorem dX12_stores_196 : decode cX12_stores 196 = .ok (.iastore, 1) := by decide +kernel
theorem dX12_stores_197 : decode cX12_stores 197 = .ok (.iinc 2 1, 3) := by decide +kernel
theorem dX12_stores_200 : decode cX12_stores 200 = .ok (.goto (-24), 3) := by decide +kernel
theorem dX12_stores_203 : decode cX12_stores 203 = .ok (.iconst 0, 1) := by decide +kernel
theorem dX12_stores_204 : decode cX12_stores 204 = .ok (.istore_n 2, 1) := by decide +kernel
theorem dX12_stores_205 : decode cX12_stores 205 = .ok (.iload_n 2, 1) := by decide +kernel
theorem dX12_stores_206 : decode cX12_stores 206 = .ok (.bipush 12, 2) := by decide +kernel
theorem dX12_stores_208 : decode cX12_stores 208 = .ok (.if_icmp .ge 26, 3) := by decide +kernel
theorem dX12_stores_211 : decode cX12_stores 211 = .ok (.aload_n 0, 1) := by decide +kernel
theorem dX12_stores_212 : decode cX12_stores 212 = .ok (.getfield 145, 3) := by decide +kernel
theorem dX12_stores_215 : decode cX12_stores 215 = .ok (.bipush 12, 2) := by decide +kernel
theorem dX12_stores_217 : decode cX12_stores 217 = .ok (.iload_n 1, 1) := by decide +kernel
theorem dX12_stores_218 : decode cX12_stores 218 = .ok (.imul, 1) := by decide +kernel
theorem dX12_stores_219 : decode cX12_stores 219 = .ok (.iload_n 2, 1) := by decide +kernel
theorem dX12_stores_220 : decode cX12_stores 220 = .ok (.iadd, 1) := by decide +kernel
theorem dX12_stores_221 : decode cX12_stores 221 = .ok (.aload_n 0, 1) := by decide +kernel
theorem dX12_stores_222 : decode cX12_stores 222 = .ok (.getfield 51, 3) := by decide +kernel
theorem dX12_stores_225 : decode cX12_stores 225 = .ok (.iload_n 2, 1) := by decide +kernel
theorem dX12_stores_226 : decode cX12_stores 226 = .ok (.baload, 1) := by decide +kernel
theorem dX12_stores_227 : decode cX12_stores 227 = .ok (.bastore, 1) := by decide +kernel
theorem dX12_stores_228 : decode cX12_stores 228 = .ok (.iinc 2 1, 3) := by decide +kernel
theorem dX12_stores_231 : decode cX12_stores 231 = .ok (.goto (-26), 3) := by decide +kernel
theorem dX12_stores_234 : decode cX12_stores 234 = .ok (.return_, 1) := by decide +kernel
theorem dX12_brings_0 : decode cX12_brings 0 = .ok (.aload_n 0, 1) := by decide +kernel
theorem dX12_brings_1 : decode cX12_brings 1 = .ok (.getfield 16, 3) := by decide +kernel
theorem dX12_brings_4 : decode cX12_brings 4 = .ok (.iconst 0, 1) := by decide +kernel
theorem dX12_brings_5 : decode cX12_brings 5 = .ok (.aload_n 0, 1) := by decide +kernel
theorem dX12_brings_6 : decode cX12_brings 6 = .ok (.getfield 124, 3) := by decide +kernel
theorem dX12_brings_9 : decode cX12_brings 9 = .ok (.iload_n 1, 1) := by decide +kernel
theorem dX12_brings_10 : decode cX12_brings 10 = .ok (.iaload, 1) := by decide +kernel
theorem dX12_brings_11 : decode cX12_brings 11 = .ok (.iastore, 1) := by decide +kernel
theorem dX12_brings_12 : decode cX12_brings 12 = .ok (.iconst 0, 1) := by decide +kernel
theorem dX12_brings_13 : decode cX12_brings 13 = .ok (.istore_n 2, 1) := by decide +kernel
theorem dX12_brings_14 : decode cX12_brings 14 = .ok (.iload_n 2, 1) := by decide +kernel
theorem dX12_brings_15 : decode cX12_brings 15 = .ok (.bipush 48, 2) := by decide +kernel
theorem dX12_brings_17 : decode cX12_brings 17 = .ok (.if_icmp .ge 123, 3) := by decide +kernel
theorem dX12_brings_20 : decode cX12_brings 20 = .ok (.aload_n 0, 1) := by decide +kernel
theorem dX12_brings_21 : decode cX12_brings 21 = .ok (.getfield 20, 3) := by decide +kernel
theorem dX12_brings_24 : decode cX12_brings 24 = .ok (.iload_n 2, 1) := by decide +kernel
theorem dX12_brings_25 : decode cX12_brings 25 = .ok (.aload_n 0, 1) := by decide +kernel
theorem dX12_brings_26 : decode cX12_brings 26 = .ok (.getfield 127, 3) := by decide +kernel
theorem dX12_brings_29 : decode cX12_brings 29 = .ok (.bipush 48, 2) := by decide +kernel
theorem dX12_brings_31 : decode cX12_brings 31 = .ok (.iload_n 1, 1) := by decide +kernel
theorem dX12_brings_32 : decode cX12_brings 32 = .ok (.imul, 1) := by decide +kernel
theorem dX12_brings_33 : decode cX12_brings 33 = .ok (.iload_n 2, 1) := by decide +kernel
theorem dX12_brings_34 : decode cX12_brings 34 = .ok (.iadd, 1) := by decide +kernel
theorem dX12_brings_35 : decode cX12_brings 35 = .ok (.iaload, 1) := by decide +kernel
theorem dX12_brings_36 : decode cX12_brings 36 = .ok (.iastore, 1) := by decide +kernel
theorem dX12_brings_37 : decode cX12_brings 37 = .ok (.aload_n 0, 1) := by decide +kernel
theorem dX12_brings_38 : decode cX12_brings 38 = .ok (.getfield 36, 3) := by decide +kernel
theorem dX12_brings_41 : decode cX12_brings 41 = .ok (.iload_n 2, 1) := by decide +kernel
theorem dX12_brings_42 : decode cX12_brings 42 = .ok (.aload_n 0, 1) := by decide +kernel
theorem dX12_brings_43 : decode cX12_brings 43 = .ok (.getfield 139, 3) := by decide +kernel
theorem dX12_brings_46 : decode cX12_brings 46 = .ok (.bipush 48, 2) := by decide +kernel
theorem dX12_brings_48 : decode cX12_brings 48 = .ok (.iload_n 1, 1) := by decide +kernel
theorem dX12_brings_49 : decode cX12_brings 49 = .ok (.imul, 1) := by decide +kernel
theorem dX12_brings_50 : decode cX12_brings 50 = .ok (.iload_n 2, 1) := by decide +kernel
theorem dX12_brings_51 : decode cX12_brings 51 = .ok (.iadd, 1) := by decide +kernel
theorem dX12_brings_52 : decode cX12_brings 52 = .ok (.iaload, 1) := by decide +kernel
theorem dX12_brings_53 : decode cX12_brings 53 = .ok (.iastore, 1) := by decide +kernel
theorem dX12_brings_54 : decode cX12_brings 54 = .ok (.aload_n 0, 1) := by decide +kernel
theorem dX12_brings_55 : decode cX12_brings 55 = .ok (.getfield 39, 3) := by decide +kernel
theorem dX12_brings_58 : decode cX12_brings 58 = .ok (.iload_n 2, 1) := by decide +kernel
theorem dX12_brings_59 : decode cX12_brings 59 = .ok (.aload_n 0, 1) := by decide +kernel
theorem dX12_brings_60 : decode cX12_brings 60 = .ok (.getfield 142, 3) := by decide +kernel
theorem dX12_brings_63 : decode cX12_brings 63 = .ok (.bipush 48, 2) := by decide +kernel
theorem dX12_brings_65 : decode cX12_brings 65 = .ok (.iload_n 1, 1) := by decide +kernel
theorem dX12_brings_66 : decode cX12_brings 66 = .ok (.imul, 1) := by decide +kernel
theorem dX12_brings_67 : decode cX12_brings 67 = .ok (.iload_n 2, 1) := by decide +kernel
theorem dX12_brings_68 : decode cX12_brings 68 = .ok (.iadd, 1) := by decide +kernel
theorem dX12_brings_69 : decode cX12_brings 69 = .ok (.iaload, 1) := by decide +kernel
theorem dX12_brings_70 : decode cX12_brings 70 = .ok (.iastore, 1) := by decide +kernel
theorem dX12_brings_71 : decode cX12_brings 71 = .ok (.aload_n 0, 1) := by decide +kernel
theorem dX12_brings_72 : decode cX12_brings 72 = .ok (.getfield 57, 3) := by decide +kernel
theorem dX12_brings_75 : decode cX12_brings 75 = .ok (.iload_n 2, 1) := by decide +kernel
theorem dX12_brings_76 : decode cX12_brings 76 = .ok (.iload_n 2, 1) := by decide +kernel
theorem dX12_brings_77 : decode cX12_brings 77 = .ok (.aload_n 0, 1) := by decide +kernel
theorem dX12_brings_78 : decode cX12_brings 78 = .ok (.iconst 0, 1) := by decide +kernel
theorem dX12_brings_79 : decode cX12_brings 79 = .ok (.invokevirtual 216, 3) := by decide +kernel
theorem dX12_brings_82 : decode cX12_brings 82 = .ok (.if_icmp .ge 12, 3) := by decide +kernel
theorem dX12_brings_85 : decode cX12_brings 85 = .ok (.aload_n 0, 1) := by decide +kernel
theorem dX12_brings_86 : decode cX12_brings 86 = .ok (.getfield 57, 3) := by decide +kernel
theorem dX12_brings_89 : decode cX12_brings 89 = .ok (.iload_n 2, 1) := by decide +kernel
theorem dX12_brings_90 : decode cX12_brings 90 = .ok (.iaload, 1) := by decide +kernel
theorem dX12_brings_91 : decode cX12_brings 91 = .ok (.goto 4, 3) := by decide +kernel
theorem dX12_brings_94 : decode cX12_brings 94 = .ok (.iconst (-1), 1) := by decide +kernel
theorem dX12_brings_95 : decode cX12_brings 95 = .ok (.iastore, 1) := by decide +kernel
theorem dX12_brings_96 : decode cX12_brings 96 = .ok (.iconst 0, 1) := by decide +kernel
theorem dX12_brings_97 : decode cX12_brings 97 = .ok (.istore_n 3, 1) := by decide +kernel
theorem dX12_brings_98 : decode cX12_brings 98 = .ok (.iload_n 3, 1) := by decide +kernel
theorem dX12_brings_99 : decode cX12_brings 99 = .ok (.iconst 3, 1) := by decide +kernel
theorem dX12_brings_100 : decode cX12_brings 100 = .ok (.if_icmp .ge 34, 3) := by decide +kernel
theorem dX12_brings_103 : decode cX12_brings 103 = .ok (.aload_n 0, 1) := by decide +kernel
theorem dX12_brings_104 : decode cX12_brings 104 = .ok (.getfield 23, 3) := by decide +kernel
theorem dX12_brings_107 : decode cX12_brings 107 = .ok (.iconst 3, 1) := by decide +kernel
theorem dX12_brings_108 : decode cX12_brings 108 = .ok (.iload_n 2, 1) := by decide +kernel
theorem dX12_brings_109 : decode cX12_brings 109 = .ok (.imul, 1) := by decide +kernel
theorem dX12_brings_110 : decode cX12_brings 110 = .ok (.iload_n 3, 1) := by decide +kernel
theorem dX12_brings_111 : decode cX12_brings 111 = .ok (.iadd, 1) := by decide +kernel
theorem dX12_brings_112 : decode cX12_brings 112 = .ok (.aload_n 0, 1) := by decide +kernel
theorem dX12_brings_113 : decode cX12_brings 113 = .ok (.getfield 130, 3) := by decide +kernel
theorem dX12_brings_116 : decode cX12_brings 116 = .ok (.iconst 3, 1) := by decide +kernel
theorem dX12_brings_117 : decode cX12_brings 117 = .ok (.bipush 48, 2) := by decide +kernel
theorem dX12_brings_119 : decode cX12_brings 119 = .ok (.iload_n 1, 1) := by decide +kernel
theorem dX12_brings_120 : decode cX12_brings 120 = .ok (.imul, 1) := by decide +kernel
theorem dX12_brings_121 : decode cX12_brings 121 = .ok (.iload_n 2, 1) := by decide +kernel
theorem dX12_brings_122 : decode cX12_brings 122 = .ok (.iadd, 1) := by decide +kernel
theorem dX12_brings_123 : decode cX12_brings 123 = .ok (.imul, 1) := by decide +kernel
theorem dX12_brings_124 : decode cX12_brings 124 = .ok (.iload_n 3, 1) := by decide +kernel
theorem dX12_brings_125 : decode cX12_brings 125 = .ok (.iadd, 1) := by decide +kernel
theorem dX12_brings_126 : decode cX12_brings 126 = .ok (.iaload, 1) := by decide +kernel
theorem dX12_brings_127 : decode cX12_brings 127 = .ok (.iastore, 1) := by decide +kernel
theorem dX12_brings_128 : decode cX12_brings 128 = .ok (.iinc 3 1, 3) := by decide +kernel
theorem dX12_brings_131 : decode cX12_brings 131 = .ok (.goto (-33), 3) := by decide +kernel
theorem dX12_brings_134 : decode cX12_brings 134 = .ok (.iinc 2 1, 3) := by decide +kernel
theorem dX12_brings_137 : decode cX12_brings 137 = .ok (.goto (-123), 3) := by decide +kernel
theorem dX12_brings_140 : decode cX12_brings 140 = .ok (.iconst 0, 1) := by decide +kernel
theorem dX12_brings_141 : decode cX12_brings 141 = .ok (.istore_n 2, 1) := by decide +kernel
theorem dX12_brings_142 : decode cX12_brings 142 = .ok (.iload_n 2, 1) := by decide +kernel
theorem dX12_brings_143 : decode cX12_brings 143 = .ok (.iconst 4, 1) := by decide +kernel
theorem dX12_brings_144 : decode cX12_brings 144 = .ok (.if_icmp .ge 25, 3) := by decide +kernel
theorem dX12_brings_147 : decode cX12_brings 147 = .ok (.aload_n 0, 1) := by decide +kernel
theorem dX12_brings_148 : decode cX12_brings 148 = .ok (.getfield 26, 3) := by decide +kernel
theorem dX12_brings_151 : decode cX12_brings 151 = .ok (.iload_n 2, 1) := by decide +kernel
theorem dX12_brings_152 : decode cX12_brings 152 = .ok (.aload_n 0, 1) := by decide +kernel
theorem dX12_brings_153 : decode cX12_brings 153 = .ok (.getfield 133, 3) := by decide +kernel
theorem dX12_brings_156 : decode cX12_brings 156 = .ok (.iconst 4, 1) := by decide +kernel
theorem dX12_brings_157 : decode cX12_brings 157 = .ok (.iload_n 1, 1) := by decide +kernel
theorem dX12_brings_158 : decode cX12_brings 158 = .ok (.imul, 1) := by decide +kernel
theorem dX12_brings_159 : decode cX12_brings 159 = .ok (.iload_n 2, 1) := by decide +kernel
theorem dX12_brings_160 : decode cX12_brings 160 = .ok (.iadd, 1) := by decide +kernel
theorem dX12_brings_161 : decode cX12_brings 161 = .ok (.iaload, 1) := by decide +kernel
theorem dX12_brings_162 : decode cX12_brings 162 = .ok (.iastore, 1) := by decide +kernel
theorem dX12_brings_163 : decode cX12_brings 163 = .ok (.iinc 2 1, 3) := by decide +kernel
theorem dX12_brings_166 : decode cX12_brings 166 = .ok (.goto (-24), 3) := by decide +kernel
theorem dX12_brings_169 : decode cX12_brings 169 = .ok (.iconst 0, 1) := by decide +kernel
theorem dX12_brings_170 : decode cX12_brings 170 = .ok (.istore_n 2, 1) := by decide +kernel
theorem dX12_brings_171 : decode cX12_brings 171 = .ok (.iload_n 2, 1) := by decide +kernel
theorem dX12_brings_172 : decode cX12_brings 172 = .ok (.iconst 2, 1) := by decide +kernel
theorem dX12_brings_173 : decode cX12_brings 173 = .ok (.if_icmp .ge 25, 3) := by decide +kernel
theorem dX12_brings_176 : decode cX12_brings 176 = .ok (.aload_n 0, 1) := by decide +kernel
theorem dX12_brings_177 : decode cX12_brings 177 = .ok (.getfield 29, 3) := by decide +kernel
theorem dX12_brings_180 : decode cX12_brings 180 = .ok (.iload_n 2, 1) := by decide +kernel
theorem dX12_brings_181 : decode cX12_brings 181 = .ok (.aload_n 0, 1) := by decide +kernel
theorem dX12_brings_182 : decode cX12_brings 182 = .ok (.getfield 136, 3) := by decide +kernel
theorem dX12_brings_185 : decode cX12_brings 185 = .ok (.iconst 2, 1) := by decide +kernel
theorem dX12_brings_186 : decode cX12_brings 186 = .ok (.iload_n 1, 1) := by decide +kernel
theorem dX12_brings_187 : decode cX12_brings 187 = .ok (.imul, 1) := by decide +kernel
theorem dX12_brings_188 : decode cX12_brings 188 = .ok (.iload_n 2, 1) := by decide +kernel
theorem dX12_brings_189 : decode cX12_brings 189 = .ok (.iadd, 1) := by decide +kernel
theorem dX12_brings_190 : decode cX12_brings 190 = .ok (.iaload, 1) := by decide +kernel
theorem dX12_brings_191 : decode cX12_brings 191 = .ok (.iastore, 1) := by decide +kernel
theorem dX12_brings_192 : decode cX12_brings 192 = .ok (.iinc 2 1, 3) := by decide +kernel
theorem dX12_brings_195 : decode cX12_brings 195 = .ok (.goto (-24), 3) := by decide +kernel
theorem dX12_brings_198 : decode cX12_brings 198 = .ok (.aload_n 0, 1) := by decide +kernel
theorem dX12_brings_199 : decode cX12_brings 199 = .ok (.iconst 0, 1) := by decide +kernel
theorem dX12_brings_200 : decode cX12_brings 200 = .ok (.putfield 229, 3) := by decide +kernel
theorem dX12_brings_203 : decode cX12_brings 203 = .ok (.return_, 1) := by decide +kernel
theorem dX12_moves_0 : decode cX12_moves 0 = .ok (.aload_n 0, 1) := by decide +kernel
theorem dX12_moves_1 : decode cX12_moves 1 = .ok (.getfield 115, 3) := by decide +kernel
theorem dX12_moves_4 : decode cX12_moves 4 = .ok (.iload_n 2, 1) := by decide +kernel
theorem dX12_moves_5 : decode cX12_moves 5 = .ok (.aload_n 0, 1) := by decide +kernel
theorem dX12_moves_6 : decode cX12_moves 6 = .ok (.getfield 115, 3) := by decide +kernel
theorem dX12_moves_9 : decode cX12_moves 9 = .ok (.iload_n 1, 1) := by decide +kernel
theorem dX12_moves_10 : decode cX12_moves 10 = .ok (.iaload, 1) := by decide +kernel
theorem dX12_moves_11 : decode cX12_moves 11 = .ok (.iastore, 1) := by decide +kernel
theorem dX12_moves_12 : decode cX12_moves 12 = .ok (.aload_n 0, 1) := by decide +kernel
theorem dX12_moves_13 : decode cX12_moves 13 = .ok (.getfield 118, 3) := by decide +kernel
theorem dX12_moves_16 : decode cX12_moves 16 = .ok (.iload_n 2, 1) := by decide +kernel
theorem dX12_moves_17 : decode cX12_moves 17 = .ok (.aload_n 0, 1) := by decide +kernel
theorem dX12_moves_18 : decode cX12_moves 18 = .ok (.getfield 118, 3) := by decide +kernel
theorem dX12_moves_21 : decode cX12_moves 21 = .ok (.iload_n 1, 1) := by decide +kernel
theorem dX12_moves_22 : decode cX12_moves 22 = .ok (.iaload, 1) := by decide +kernel
theorem dX12_moves_23 : decode cX12_moves 23 = .ok (.iastore, 1) := by decide +kernel
theorem dX12_moves_24 : decode cX12_moves 24 = .ok (.aload_n 0, 1) := by decide +kernel
theorem dX12_moves_25 : decode cX12_moves 25 = .ok (.getfield 121, 3) := by decide +kernel
theorem dX12_moves_28 : decode cX12_moves 28 = .ok (.iload_n 2, 1) := by decide +kernel
theorem dX12_moves_29 : decode cX12_moves 29 = .ok (.aload_n 0, 1) := by decide +kernel
theorem dX12_moves_30 : decode cX12_moves 30 = .ok (.getfield 121, 3) := by decide +kernel
theorem dX12_moves_33 : decode cX12_moves 33 = .ok (.iload_n 1, 1) := by decide +kernel
theorem dX12_moves_34 : decode cX12_moves 34 = .ok (.iaload, 1) := by decide +kernel
theorem dX12_moves_35 : decode cX12_moves 35 = .ok (.iastore, 1) := by decide +kernel
theorem dX12_moves_36 : decode cX12_moves 36 = .ok (.aload_n 0, 1) := by decide +kernel
theorem dX12_moves_37 : decode cX12_moves 37 = .ok (.getfield 124, 3) := by decide +kernel
theorem dX12_moves_40 : decode cX12_moves 40 = .ok (.iload_n 2, 1) := by decide +kernel
theorem dX12_moves_41 : decode cX12_moves 41 = .ok (.aload_n 0, 1) := by decide +kernel
theorem dX12_moves_42 : decode cX12_moves 42 = .ok (.getfield 124, 3) := by decide +kernel
theorem dX12_moves_45 : decode cX12_moves 45 = .ok (.iload_n 1, 1) := by decide +kernel
theorem dX12_moves_46 : decode cX12_moves 46 = .ok (.iaload, 1) := by decide +kernel
theorem dX12_moves_47 : decode cX12_moves 47 = .ok (.iastore, 1) := by decide +kernel
theorem dX12_moves_48 : decode cX12_moves 48 = .ok (.iconst 0, 1) := by decide +kernel
theorem dX12_moves_49 : decode cX12_moves 49 = .ok (.istore_n 3, 1) := by decide +kernel
theorem dX12_moves_50 : decode cX12_moves 50 = .ok (.iload_n 3, 1) := by decide +kernel
theorem dX12_moves_51 : decode cX12_moves 51 = .ok (.bipush 48, 2) := by decide +kernel
theorem dX12_moves_53 : decode cX12_moves 53 = .ok (.if_icmp .ge 122, 3) := by decide +kernel
theorem dX12_moves_56 : decode cX12_moves 56 = .ok (.aload_n 0, 1) := by decide +kernel
theorem dX12_moves_57 : decode cX12_moves 57 = .ok (.getfield 127, 3) := by decide +kernel
theorem dX12_moves_60 : decode cX12_moves 60 = .ok (.bipush 48, 2) := by decide +kernel
theorem dX12_moves_62 : decode cX12_moves 62 = .ok (.iload_n 2, 1) := by decide +kernel
theorem dX12_moves_63 : decode cX12_moves 63 = .ok (.imul, 1) := by decide +kernel
theorem dX12_moves_64 : decode cX12_moves 64 = .ok (.iload_n 3, 1) := by decide +kernel
theorem dX12_moves_65 : decode cX12_moves 65 = .ok (.iadd, 1) := by decide +kernel
theorem dX12_moves_66 : decode cX12_moves 66 = .ok (.aload_n 0, 1) := by decide +kernel
theorem dX12_moves_67 : decode cX12_moves 67 = .ok (.getfield 127, 3) := by decide +kernel
theorem dX12_moves_70 : decode cX12_moves 70 = .ok (.bipush 48, 2) := by decide +kernel
theorem dX12_moves_72 : decode cX12_moves 72 = .ok (.iload_n 1, 1) := by decide +kernel
theorem dX12_moves_73 : decode cX12_moves 73 = .ok (.imul, 1) := by decide +kernel
theorem dX12_moves_74 : decode cX12_moves 74 = .ok (.iload_n 3, 1) := by decide +kernel
theorem dX12_moves_75 : decode cX12_moves 75 = .ok (.iadd, 1) := by decide +kernel
theorem dX12_moves_76 : decode cX12_moves 76 = .ok (.iaload, 1) := by decide +kernel
theorem dX12_moves_77 : decode cX12_moves 77 = .ok (.iastore, 1) := by decide +kernel
theorem dX12_moves_78 : decode cX12_moves 78 = .ok (.aload_n 0, 1) := by decide +kernel
theorem dX12_moves_79 : decode cX12_moves 79 = .ok (.getfield 139, 3) := by decide +kernel
theorem dX12_moves_82 : decode cX12_moves 82 = .ok (.bipush 48, 2) := by decide +kernel
theorem dX12_moves_84 : decode cX12_moves 84 = .ok (.iload_n 2, 1) := by decide +kernel
theorem dX12_moves_85 : decode cX12_moves 85 = .ok (.imul, 1) := by decide +kernel
theorem dX12_moves_86 : decode cX12_moves 86 = .ok (.iload_n 3, 1) := by decide +kernel
theorem dX12_moves_87 : decode cX12_moves 87 = .ok (.iadd, 1) := by decide +kernel
theorem dX12_moves_88 : decode cX12_moves 88 = .ok (.aload_n 0, 1) := by decide +kernel
theorem dX12_moves_89 : decode cX12_moves 89 = .ok (.getfield 139, 3) := by decide +kernel
theorem dX12_moves_92 : decode cX12_moves 92 = .ok (.bipush 48, 2) := by decide +kernel
theorem dX12_moves_94 : decode cX12_moves 94 = .ok (.iload_n 1, 1) := by decide +kernel
theorem dX12_moves_95 : decode cX12_moves 95 = .ok (.imul, 1) := by decide +kernel
theorem dX12_moves_96 : decode cX12_moves 96 = .ok (.iload_n 3, 1) := by decide +kernel
theorem dX12_moves_97 : decode cX12_moves 97 = .ok (.iadd, 1) := by decide +kernel
theorem dX12_moves_98 : decode cX12_moves 98 = .ok (.iaload, 1) := by decide +kernel
theorem dX12_moves_99 : decode cX12_moves 99 = .ok (.iastore, 1) := by decide +kernel
theorem dX12_moves_100 : decode cX12_moves 100 = .ok (.aload_n 0, 1) := by decide +kernel
theorem dX12_moves_101 : decode cX12_moves 101 = .ok (.getfield 142, 3) := by decide +kernel
theorem dX12_moves_104 : decode cX12_moves 104 = .ok (.bipush 48, 2) := by decide +kernel
theorem dX12_moves_106 : decode cX12_moves 106 = .ok (.iload_n 2, 1) := by decide +kernel
theorem dX12_moves_107 : decode cX12_moves 107 = .ok (.imul, 1) := by decide +kernel
theorem dX12_moves_108 : decode cX12_moves 108 = .ok (.iload_n 3, 1) := by decide +kernel
theorem dX12_moves_109 : decode cX12_moves 109 = .ok (.iadd, 1) := by decide +kernel
theorem dX12_moves_110 : decode cX12_moves 110 = .ok (.aload_n 0, 1) := by decide +kernel
theorem dX12_moves_111 : decode cX12_moves 111 = .ok (.getfield 142, 3) := by decide +kernel
theorem dX12_moves_114 : decode cX12_moves 114 = .ok (.bipush 48, 2) := by decide +kernel
theorem dX12_moves_116 : decode cX12_moves 116 = .ok (.iload_n 1, 1) := by decide +kernel
theorem dX12_moves_117 : decode cX12_moves 117 = .ok (.imul, 1) := by decide +kernel
theorem dX12_moves_118 : decode cX12_moves 118 = .ok (.iload_n 3, 1) := by decide +kernel
theorem dX12_moves_119 : decode cX12_moves 119 = .ok (.iadd, 1) := by decide +kernel
theorem dX12_moves_120 : decode cX12_moves 120 = .ok (.iaload, 1) := by decide +kernel
theorem dX12_moves_121 : decode cX12_moves 121 = .ok (.iastore, 1) := by decide +kernel
theorem dX12_moves_122 : decode cX12_moves 122 = .ok (.iconst 0, 1) := by decide +kernel
theorem dX12_moves_123 : decode cX12_moves 123 = .ok (.istore 4, 2) := by decide +kernel
theorem dX12_moves_125 : decode cX12_moves 125 = .ok (.iload 4, 2) := by decide +kernel
theorem dX12_moves_127 : decode cX12_moves 127 = .ok (.iconst 3, 1) := by decide +kernel
theorem dX12_moves_128 : decode cX12_moves 128 = .ok (.if_icmp .ge 41, 3) := by decide +kernel
theorem dX12_moves_131 : decode cX12_moves 131 = .ok (.aload_n 0, 1) := by decide +kernel
theorem dX12_moves_132 : decode cX12_moves 132 = .ok (.getfield 130, 3) := by decide +kernel
theorem dX12_moves_135 : decode cX12_moves 135 = .ok (.iconst 3, 1) := by decide +kernel
theorem dX12_moves_136 : decode cX12_moves 136 = .ok (.bipush 48, 2) := by decide +kernel
theorem dX12_moves_138 : decode cX12_moves 138 = .ok (.iload_n 2, 1) := by decide +kernel
theorem dX12_moves_139 : decode cX12_moves 139 = .ok (.imul, 1) := by decide +kernel
theorem dX12_moves_140 : decode cX12_moves 140 = .ok (.iload_n 3, 1) := by decide +kernel
theorem dX12_moves_141 : decode cX12_moves 141 = .ok (.iadd, 1) := by decide +kernel
theorem dX12_moves_142 : decode cX12_moves 142 = .ok (.imul, 1) := by decide +kernel
theorem dX12_moves_143 : decode cX12_moves 143 = .ok (.iload 4, 2) := by decide +kernel
theorem dX12_moves_145 : decode cX12_moves 145 = .ok (.iadd, 1) := by decide +kernel
theorem dX12_moves_146 : decode cX12_moves 146 = .ok (.aload_n 0, 1) := by decide +kernel
theorem dX12_moves_147 : decode cX12_moves 147 = .ok (.getfield 130, 3) := by decide +kernel
theorem dX12_moves_150 : decode cX12_moves 150 = .ok (.iconst 3, 1) := by decide +kernel
theorem dX12_moves_151 : decode cX12_moves 151 = .ok (.bipush 48, 2) := by decide +kernel
theorem dX12_moves_153 : decode cX12_moves 153 = .ok (.iload_n 1, 1) := by decide +kernel
theorem dX12_moves_154 : decode cX12_moves 154 = .ok (.imul, 1) := by decide +kernel
theorem dX12_moves_155 : decode cX12_moves 155 = .ok (.iload_n 3, 1) := by decide +kernel
theorem dX12_moves_156 : decode cX12_moves 156 = .ok (.iadd, 1) := by decide +kernel
theorem dX12_moves_157 : decode cX12_moves 157 = .ok (.imul, 1) := by decide +kernel
theorem dX12_moves_158 : decode cX12_moves 158 = .ok (.iload 4, 2) := by decide +kernel
theorem dX12_moves_160 : decode cX12_moves 160 = .ok (.iadd, 1) := by decide +kernel
theorem dX12_moves_161 : decode cX12_moves 161 = .ok (.iaload, 1) := by decide +kernel
theorem dX12_moves_162 : decode cX12_moves 162 = .ok (.iastore, 1) := by decide +kernel
theorem dX12_moves_163 : decode cX12_moves 163 = .ok (.iinc 4 1, 3) := by decide +kernel
theorem dX12_moves_166 : decode cX12_moves 166 = .ok (.goto (-41), 3) := by decide +kernel
theorem dX12_moves_169 : decode cX12_moves 169 = .ok (.iinc 3 1, 3) := by decide +kernel
theorem dX12_moves_172 : decode cX12_moves 172 = .ok (.goto (-122), 3) := by decide +kernel
theorem dX12_moves_175 : decode cX12_moves 175 = .ok (.iconst 0, 1) := by decide +kernel
theorem dX12_moves_176 : decode cX12_moves 176 = .ok (.istore_n 3, 1) := by decide +kernel
theorem dX12_moves_177 : decode cX12_moves 177 = .ok (.iload_n 3, 1) := by decide +kernel
theorem dX12_moves_178 : decode cX12_moves 178 = .ok (.iconst 4, 1) := by decide +kernel
theorem dX12_moves_179 : decode cX12_moves 179 = .ok (.if_icmp .ge 29, 3) := by decide +kernel
theorem dX12_moves_182 : decode cX12_moves 182 = .ok (.aload_n 0, 1) := by decide +kernel
theorem dX12_moves_183 : decode cX12_moves 183 = .ok (.getfield 133, 3) := by decide +kernel
theorem dX12_moves_186 : decode cX12_moves 186 = .ok (.iconst 4, 1) := by decide +kernel
theorem dX12_moves_187 : decode cX12_moves 187 = .ok (.iload_n 2, 1) := by decide +kernel
theorem dX12_moves_188 : decode cX12_moves 188 = .ok (.imul, 1) := by decide +kernel
theorem dX12_moves_189 : decode cX12_moves 189 = .ok (.iload_n 3, 1) := by decide +kernel
theorem dX12_moves_190 : decode cX12_moves 190 = .ok (.iadd, 1) := by decide +kernel
theorem dX12_moves_191 : decode cX12_moves 191 = .ok (.aload_n 0, 1) := by decide +kernel
theorem dX12_moves_192 : decode cX12_moves 192 = .ok (.getfield 133, 3) := by decide +kernel
theorem dX12_moves_195 : decode cX12_moves 195 = .ok (.iconst 4, 1) := by decide +kernel
theorem dX12_moves_196 : decode cX12_moves 196 = .ok (.iload_n 1, 1) := by decide +kernel
theorem dX12_moves_197 : decode cX12_moves 197 = .ok (.imul, 1) := by decide +kernel
theorem dX12_moves_198 : decode cX12_moves 198 = .ok (.iload_n 3, 1) := by decide +kernel
theorem dX12_moves_199 : decode cX12_moves 199 = .ok (.iadd, 1) := by decide +kernel
theorem dX12_moves_200 : decode cX12_moves 200 = .ok (.iaload, 1) := by decide +kernel
theorem dX12_moves_201 : decode cX12_moves 201 = .ok (.iastore, 1) := by decide +kernel
theorem dX12_moves_202 : decode cX12_moves 202 = .ok (.iinc 3 1, 3) := by decide +kernel
theorem dX12_moves_205 : decode cX12_moves 205 = .ok (.goto (-28), 3) := by decide +kernel
theorem dX12_moves_208 : decode cX12_moves 208 = .ok (.iconst 0, 1) := by decide +kernel
theorem dX12_moves_209 : decode cX12_moves 209 = .ok (.istore_n 3, 1) := by decide +kernel
theorem dX12_moves_210 : decode cX12_moves 210 = .ok (.iload_n 3, 1) := by decide +kernel
theorem dX12_moves_211 : decode cX12_moves 211 = .ok (.iconst 2, 1) := by decide +kernel
theorem dX12_moves_212 : decode cX12_moves 212 = .ok (.if_icmp .ge 29, 3) := by decide +kernel
theorem dX12_moves_215 : decode cX12_moves 215 = .ok (.aload_n 0, 1) := by decide +kernel
theorem dX12_moves_216 : decode cX12_moves 216 = .ok (.getfield 136, 3) := by decide +kernel
theorem dX12_moves_219 : decode cX12_moves 219 = .ok (.iconst 2, 1) := by decide +kernel
theorem dX12_moves_220 : decode cX12_moves 220 = .ok (.iload_n 2, 1) := by decide +kernel
theorem dX12_moves_221 : decode cX12_moves 221 = .ok (.imul, 1) := by decide +kernel
theorem dX12_moves_222 : decode cX12_moves 222 = .ok (.iload_n 3, 1) := by decide +kernel
theorem dX12_moves_223 : decode cX12_moves 223 = .ok (.iadd, 1) := by decide +kernel
theorem dX12_moves_224 : decode cX12_moves 224 = .ok (.aload_n 0, 1) := by decide +kernel
theorem dX12_moves_225 : decode cX12_moves 225 = .ok (.getfield 136, 3) := by decide +kernel
theorem dX12_moves_228 : decode cX12_moves 228 = .ok (.iconst 2, 1) := by decide +kernel
theorem dX12_moves_229 : decode cX12_moves 229 = .ok (.iload_n 1, 1) := by decide +kernel
theorem dX12_moves_230 : decode cX12_moves 230 = .ok (.imul, 1) := by decide +kernel
theorem dX12_moves_231 : decode cX12_moves 231 = .ok (.iload_n 3, 1) := by decide +kernel
theorem dX12_moves_232 : decode cX12_moves 232 = .ok (.iadd, 1) := by decide +kernel
theorem dX12_moves_233 : decode cX12_moves 233 = .ok (.iaload, 1) := by decide +kernel
theorem dX12_moves_234 : decode cX12_moves 234 = .ok (.iastore, 1) := by decide +kernel
theorem dX12_moves_235 : decode cX12_moves 235 = .ok (.iinc 3 1, 3) := by decide +kernel
theorem dX12_moves_238 : decode cX12_moves 238 = .ok (.goto (-28), 3) := by decide +kernel
theorem dX12_moves_241 : decode cX12_moves 241 = .ok (.iconst 0, 1) := by decide +kernel
theorem dX12_moves_242 : decode cX12_moves 242 = .ok (.istore_n 3, 1) := by decide +kernel
theorem dX12_moves_243 : decode cX12_moves 243 = .ok (.iload_n 3, 1) := by decide +kernel
theorem dX12_moves_244 : decode cX12_moves 244 = .ok (.bipush 12, 2) := by decide +kernel
theorem dX12_moves_246 : decode cX12_moves 246 = .ok (.if_icmp .ge 31, 3) := by decide +kernel
theorem dX12_moves_249 : decode cX12_moves 249 = .ok (.aload_n 0, 1) := by decide +kernel
theorem dX12_moves_250 : decode cX12_moves 250 = .ok (.getfield 145, 3) := by decide +kernel
theorem dX12_moves_253 : decode cX12_moves 253 = .ok (.bipush 12, 2) := by decide +kernel
theorem dX12_moves_255 : decode cX12_moves 255 = .ok (.iload_n 2, 1) := by decide +kernel
theorem dX12_moves_256 : decode cX12_moves 256 = .ok (.imul, 1) := by decide +kernel
theorem dX12_moves_257 : decode cX12_moves 257 = .ok (.iload_n 3, 1) := by decide +kernel
theorem dX12_moves_258 : decode cX12_moves 258 = .ok (.iadd, 1) := by decide +kernel
theorem dX12_moves_259 : decode cX12_moves 259 = .ok (.aload_n 0, 1) := by decide +kernel
theorem dX12_moves_260 : decode cX12_moves 260 = .ok (.getfield 145, 3) := by decide +kernel
theorem dX12_moves_263 : decode cX12_moves 263 = .ok (.bipush 12, 2) := by decide +kernel
theorem dX12_moves_265 : decode cX12_moves 265 = .ok (.iload_n 1, 1) := by decide +kernel
theorem dX12_moves_266 : decode cX12_moves 266 = .ok (.imul, 1) := by decide +kernel
theorem dX12_moves_267 : decode cX12_moves 267 = .ok (.iload_n 3, 1) := by decide +kernel
theorem dX12_moves_268 : decode cX12_moves 268 = .ok (.iadd, 1) := by decide +kernel
theorem dX12_moves_269 : decode cX12_moves 269 = .ok (.baload, 1) := by decide +kernel
theorem dX12_moves_270 : decode cX12_moves 270 = .ok (.bastore, 1) := by decide +kernel
theorem dX12_moves_271 : decode cX12_moves 271 = .ok (.iinc 3 1, 3) := by decide +kernel
theorem dX12_moves_274 : decode cX12_moves 274 = .ok (.goto (-31), 3) := by decide +kernel
theorem dX12_moves_277 : decode cX12_moves 277 = .ok (.return_, 1) := by decide +kernel
theorem dX12_leafOf_0 : decode cX12_leafOf 0 = .ok (.aload_n 0, 1) := by decide +kernel
theorem dX12_leafOf_1 : decode cX12_leafOf 1 = .ok (.getfield 411, 3) := by decide +kernel
theorem dX12_leafOf_4 : decode cX12_leafOf 4 = .ok (.invokestatic 359, 3) := by decide +kernel
theorem dX12_leafOf_7 : decode cX12_leafOf 7 = .ok (.iconst 1, 1) := by decide +kernel
theorem dX12_leafOf_8 : decode cX12_leafOf 8 = .ok (.isub, 1) := by decide +kernel
theorem dX12_leafOf_9 : decode cX12_leafOf 9 = .ok (.istore_n 2, 1) := by decide +kernel
theorem dX12_leafOf_10 : decode cX12_leafOf 10 = .ok (.iconst 0, 1) := by decide +kernel
theorem dX12_leafOf_11 : decode cX12_leafOf 11 = .ok (.istore_n 3, 1) := by decide +kernel
theorem dX12_leafOf_12 : decode cX12_leafOf 12 = .ok (.iload_n 3, 1) := by decide +kernel
theorem dX12_leafOf_13 : decode cX12_leafOf 13 = .ok (.aload_n 0, 1) := by decide +kernel
theorem dX12_leafOf_14 : decode cX12_leafOf 14 = .ok (.getfield 411, 3) := by decide +kernel
theorem dX12_leafOf_17 : decode cX12_leafOf 17 = .ok (.if_icmp .ge 26, 3) := by decide +kernel
theorem dX12_leafOf_20 : decode cX12_leafOf 20 = .ok (.aload_n 0, 1) := by decide +kernel
theorem dX12_leafOf_21 : decode cX12_leafOf 21 = .ok (.getfield 411, 3) := by decide +kernel
theorem dX12_leafOf_24 : decode cX12_leafOf 24 = .ok (.iload_n 3, 1) := by decide +kernel
theorem dX12_leafOf_25 : decode cX12_leafOf 25 = .ok (.invokestatic 362, 3) := by decide +kernel
theorem dX12_leafOf_28 : decode cX12_leafOf 28 = .ok (.iload_n 1, 1) := by decide +kernel
theorem dX12_leafOf_29 : decode cX12_leafOf 29 = .ok (.if_icmp .ne 8, 3) := by decide +kernel
theorem dX12_leafOf_32 : decode cX12_leafOf 32 = .ok (.bipush 100, 2) := by decide +kernel
theorem dX12_leafOf_34 : decode cX12_leafOf 34 = .ok (.iload_n 3, 1) := by decide +kernel
theorem dX12_leafOf_35 : decode cX12_leafOf 35 = .ok (.iadd, 1) := by decide +kernel
theorem dX12_leafOf_36 : decode cX12_leafOf 36 = .ok (.ireturn, 1) := by decide +kernel
theorem dX12_leafOf_37 : decode cX12_leafOf 37 = .ok (.iinc 3 1, 3) := by decide +kernel
theorem dX12_leafOf_40 : decode cX12_leafOf 40 = .ok (.goto (-28), 3) := by decide +kernel
theorem dX12_leafOf_43 : decode cX12_leafOf 43 = .ok (.iload_n 1, 1) := by decide +kernel
theorem dX12_leafOf_44 : decode cX12_leafOf 44 = .ok (.ifCond .ne 9, 3) := by decide +kernel
theorem dX12_leafOf_47 : decode cX12_leafOf 47 = .ok (.sipush 200, 3) := by decide +kernel
theorem dX12_leafOf_50 : decode cX12_leafOf 50 = .ok (.goto 15, 3) := by decide +kernel
theorem dX12_leafOf_53 : decode cX12_leafOf 53 = .ok (.iload_n 1, 1) := by decide +kernel
theorem dX12_leafOf_54 : decode cX12_leafOf 54 = .ok (.iload_n 2, 1) := by decide +kernel
theorem dX12_leafOf_55 : decode cX12_leafOf 55 = .ok (.if_icmp .ne 9, 3) := by decide +kernel
theorem dX12_leafOf_58 : decode cX12_leafOf 58 = .ok (.sipush 201, 3) := by decide +kernel
theorem dX12_leafOf_61 : decode cX12_leafOf 61 = .ok (.goto 4, 3) := by decide +kernel
theorem dX12_leafOf_64 : decode cX12_leafOf 64 = .ok (.iconst (-1), 1) := by decide +kernel
theorem dX12_leafOf_65 : decode cX12_leafOf 65 = .ok (.ireturn, 1) := by decide +kernel
theorem dX12_partWire_0 : decode cX12_partWire 0 = .ok (.iload_n 1, 1) := by decide +kernel
theorem dX12_partWire_1 : decode cX12_partWire 1 = .ok (.bipush (-2), 2) := by decide +kernel
theorem dX12_partWire_3 : decode cX12_partWire 3 = .ok (.if_icmp .ne 7, 3) := by decide +kernel
theorem dX12_partWire_6 : decode cX12_partWire 6 = .ok (.iconst (-1), 1) := by decide +kernel
theorem dX12_partWire_7 : decode cX12_partWire 7 = .ok (.goto 27, 3) := by decide +kernel
theorem dX12_partWire_10 : decode cX12_partWire 10 = .ok (.iload_n 1, 1) := by decide +kernel
theorem dX12_partWire_11 : decode cX12_partWire 11 = .ok (.bipush 100, 2) := by decide +kernel
theorem dX12_partWire_13 : decode cX12_partWire 13 = .ok (.if_icmp .lt 15, 3) := by decide +kernel
theorem dX12_partWire_16 : decode cX12_partWire 16 = .ok (.aload_n 0, 1) := by decide +kernel
theorem dX12_partWire_17 : decode cX12_partWire 17 = .ok (.getfield 72, 3) := by decide +kernel
theorem dX12_partWire_20 : decode cX12_partWire 20 = .ok (.iload_n 1, 1) := by decide +kernel
theorem dX12_partWire_21 : decode cX12_partWire 21 = .ok (.bipush 100, 2) := by decide +kernel
theorem dX12_partWire_23 : decode cX12_partWire 23 = .ok (.isub, 1) := by decide +kernel
theorem dX12_partWire_24 : decode cX12_partWire 24 = .ok (.iaload, 1) := by decide +kernel
theorem dX12_partWire_25 : decode cX12_partWire 25 = .ok (.goto 9, 3) := by decide +kernel
theorem dX12_partWire_28 : decode cX12_partWire 28 = .ok (.aload_n 0, 1) := by decide +kernel
theorem dX12_partWire_29 : decode cX12_partWire 29 = .ok (.getfield 193, 3) := by decide +kernel
theorem dX12_partWire_32 : decode cX12_partWire 32 = .ok (.iload_n 1, 1) := by decide +kernel
theorem dX12_partWire_33 : decode cX12_partWire 33 = .ok (.iaload, 1) := by decide +kernel
theorem dX12_partWire_34 : decode cX12_partWire 34 = .ok (.ireturn, 1) := by decide +kernel
theorem dX12_adds_0 : decode cX12_adds 0 = .ok (.aload_n 0, 1) := by decide +kernel
theorem dX12_adds_1 : decode cX12_adds 1 = .ok (.iconst 0, 1) := by decide +kernel
theorem dX12_adds_2 : decode cX12_adds 2 = .ok (.iload_n 1, 1) := by decide +kernel
theorem dX12_adds_3 : decode cX12_adds 3 = .ok (.iload_n 2, 1) := by decide +kernel
theorem dX12_adds_4 : decode cX12_adds 4 = .ok (.iload_n 3, 1) := by decide +kernel
theorem dX12_adds_5 : decode cX12_adds 5 = .ok (.iconst (-1), 1) := by decide +kernel
theorem dX12_adds_6 : decode cX12_adds 6 = .ok (.invokevirtual 260, 3) := by decide +kernel
theorem dX12_adds_9 : decode cX12_adds 9 = .ok (.aload_n 0, 1) := by decide +kernel
theorem dX12_adds_10 : decode cX12_adds 10 = .ok (.iconst 0, 1) := by decide +kernel
theorem dX12_adds_11 : decode cX12_adds 11 = .ok (.invokevirtual 216, 3) := by decide +kernel
theorem dX12_adds_14 : decode cX12_adds 14 = .ok (.iconst 1, 1) := by decide +kernel
theorem dX12_adds_15 : decode cX12_adds 15 = .ok (.isub, 1) := by decide +kernel
theorem dX12_adds_16 : decode cX12_adds 16 = .ok (.istore 6, 2) := by decide +kernel
theorem dX12_adds_18 : decode cX12_adds 18 = .ok (.aload_n 0, 1) := by decide +kernel
theorem dX12_adds_19 : decode cX12_adds 19 = .ok (.getfield 36, 3) := by decide +kernel
theorem dX12_adds_22 : decode cX12_adds 22 = .ok (.iload 6, 2) := by decide +kernel
theorem dX12_adds_24 : decode cX12_adds 24 = .ok (.iload 4, 2) := by decide +kernel
theorem dX12_adds_26 : decode cX12_adds 26 = .ok (.iastore, 1) := by decide +kernel
theorem dX12_adds_27 : decode cX12_adds 27 = .ok (.aload_n 0, 1) := by decide +kernel
theorem dX12_adds_28 : decode cX12_adds 28 = .ok (.getfield 39, 3) := by decide +kernel
theorem dX12_adds_31 : decode cX12_adds 31 = .ok (.iload 6, 2) := by decide +kernel
theorem dX12_adds_33 : decode cX12_adds 33 = .ok (.iload 5, 2) := by decide +kernel
theorem dX12_adds_35 : decode cX12_adds 35 = .ok (.iastore, 1) := by decide +kernel
theorem dX12_adds_36 : decode cX12_adds 36 = .ok (.iload 6, 2) := by decide +kernel
theorem dX12_adds_38 : decode cX12_adds 38 = .ok (.ireturn, 1) := by decide +kernel
theorem dX12_comes_0 : decode cX12_comes 0 = .ok (.aload_n 0, 1) := by decide +kernel
theorem dX12_comes_1 : decode cX12_comes 1 = .ok (.aload_n 0, 1) := by decide +kernel
theorem dX12_comes_2 : decode cX12_comes 2 = .ok (.getfield 75, 3) := by decide +kernel
theorem dX12_comes_5 : decode cX12_comes 5 = .ok (.iload_n 1, 1) := by decide +kernel
theorem dX12_comes_6 : decode cX12_comes 6 = .ok (.iaload, 1) := by decide +kernel
theorem dX12_comes_7 : decode cX12_comes 7 = .ok (.invokevirtual 454, 3) := by decide +kernel
theorem dX12_comes_10 : decode cX12_comes 10 = .ok (.istore_n 2, 1) := by decide +kernel
theorem dX12_comes_11 : decode cX12_comes 11 = .ok (.iload_n 2, 1) := by decide +kernel
theorem dX12_comes_12 : decode cX12_comes 12 = .ok (.bipush 100, 2) := by decide +kernel
theorem dX12_comes_14 : decode cX12_comes 14 = .ok (.bipush 102, 2) := by decide +kernel
theorem dX12_comes_16 : decode cX12_comes 16 = .ok (.invokestatic 212, 3) := by decide +kernel
theorem dX12_comes_19 : decode cX12_comes 19 = .ok (.ifCond .eq 13, 3) := by decide +kernel
theorem dX12_comes_22 : decode cX12_comes 22 = .ok (.aload_n 0, 1) := by decide +kernel
theorem dX12_comes_23 : decode cX12_comes 23 = .ok (.getfield 72, 3) := by decide +kernel
theorem dX12_comes_26 : decode cX12_comes 26 = .ok (.iload_n 2, 1) := by decide +kernel
theorem dX12_comes_27 : decode cX12_comes 27 = .ok (.bipush 100, 2) := by decide +kernel
theorem dX12_comes_29 : decode cX12_comes 29 = .ok (.isub, 1) := by decide +kernel
theorem dX12_comes_30 : decode cX12_comes 30 = .ok (.iaload, 1) := by decide +kernel
theorem dX12_comes_31 : decode cX12_comes 31 = .ok (.ireturn, 1) := by decide +kernel
theorem dX12_comes_32 : decode cX12_comes 32 = .ok (.iload_n 2, 1) := by decide +kernel
theorem dX12_comes_33 : decode cX12_comes 33 = .ok (.iconst (-1), 1) := by decide +kernel
theorem dX12_comes_34 : decode cX12_comes 34 = .ok (.if_icmp .eq 46, 3) := by decide +kernel
theorem dX12_comes_37 : decode cX12_comes 37 = .ok (.aload_n 0, 1) := by decide +kernel
theorem dX12_comes_38 : decode cX12_comes 38 = .ok (.iload_n 2, 1) := by decide +kernel
theorem dX12_comes_39 : decode cX12_comes 39 = .ok (.sipush 200, 3) := by decide +kernel
theorem dX12_comes_42 : decode cX12_comes 42 = .ok (.if_icmp .ne 8, 3) := by decide +kernel
theorem dX12_comes_45 : decode cX12_comes 45 = .ok (.bipush 7, 2) := by decide +kernel
theorem dX12_comes_47 : decode cX12_comes 47 = .ok (.goto 5, 3) := by decide +kernel
theorem dX12_comes_50 : decode cX12_comes 50 = .ok (.bipush 8, 2) := by decide +kernel
theorem dX12_comes_52 : decode cX12_comes 52 = .ok (.iconst (-1), 1) := by decide +kernel
theorem dX12_comes_53 : decode cX12_comes 53 = .ok (.iconst (-1), 1) := by decide +kernel
theorem dX12_comes_54 : decode cX12_comes 54 = .ok (.aload_n 0, 1) := by decide +kernel
theorem dX12_comes_55 : decode cX12_comes 55 = .ok (.getfield 36, 3) := by decide +kernel
theorem dX12_comes_58 : decode cX12_comes 58 = .ok (.aload_n 0, 1) := by decide +kernel
theorem dX12_comes_59 : decode cX12_comes 59 = .ok (.getfield 69, 3) := by decide +kernel
theorem dX12_comes_62 : decode cX12_comes 62 = .ok (.iload_n 1, 1) := by decide +kernel
theorem dX12_comes_63 : decode cX12_comes 63 = .ok (.iaload, 1) := by decide +kernel
theorem dX12_comes_64 : decode cX12_comes 64 = .ok (.iaload, 1) := by decide +kernel
theorem dX12_comes_65 : decode cX12_comes 65 = .ok (.aload_n 0, 1) := by decide +kernel
theorem dX12_comes_66 : decode cX12_comes 66 = .ok (.getfield 39, 3) := by decide +kernel
theorem dX12_comes_69 : decode cX12_comes 69 = .ok (.aload_n 0, 1) := by decide +kernel
theorem dX12_comes_70 : decode cX12_comes 70 = .ok (.getfield 69, 3) := by decide +kernel
theorem dX12_comes_73 : decode cX12_comes 73 = .ok (.iload_n 1, 1) := by decide +kernel
theorem dX12_comes_74 : decode cX12_comes 74 = .ok (.iaload, 1) := by decide +kernel
theorem dX12_comes_75 : decode cX12_comes 75 = .ok (.iaload, 1) := by decide +kernel
theorem dX12_comes_76 : decode cX12_comes 76 = .ok (.invokevirtual 457, 3) := by decide +kernel
theorem dX12_comes_79 : decode cX12_comes 79 = .ok (.ireturn, 1) := by decide +kernel
theorem dX12_comes_80 : decode cX12_comes 80 = .ok (.iconst (-1), 1) := by decide +kernel
theorem dX12_comes_81 : decode cX12_comes 81 = .ok (.istore_n 3, 1) := by decide +kernel
theorem dX12_comes_82 : decode cX12_comes 82 = .ok (.iconst 0, 1) := by decide +kernel
theorem dX12_comes_83 : decode cX12_comes 83 = .ok (.istore 4, 2) := by decide +kernel
theorem dX12_comes_85 : decode cX12_comes 85 = .ok (.iload 4, 2) := by decide +kernel
theorem dX12_comes_87 : decode cX12_comes 87 = .ok (.aload_n 0, 1) := by decide +kernel
theorem dX12_comes_88 : decode cX12_comes 88 = .ok (.getfield 381, 3) := by decide +kernel
theorem dX12_comes_91 : decode cX12_comes 91 = .ok (.if_icmp .ge 150, 3) := by decide +kernel
theorem dX12_comes_94 : decode cX12_comes 94 = .ok (.aload_n 0, 1) := by decide +kernel
theorem dX12_comes_95 : decode cX12_comes 95 = .ok (.getfield 87, 3) := by decide +kernel
theorem dX12_comes_98 : decode cX12_comes 98 = .ok (.iload 4, 2) := by decide +kernel
theorem dX12_comes_100 : decode cX12_comes 100 = .ok (.iaload, 1) := by decide +kernel
theorem dX12_comes_101 : decode cX12_comes 101 = .ok (.iload_n 1, 1) := by decide +kernel
theorem dX12_comes_102 : decode cX12_comes 102 = .ok (.if_icmp .ne 133, 3) := by decide +kernel
theorem dX12_comes_105 : decode cX12_comes 105 = .ok (.aload_n 0, 1) := by decide +kernel
theorem dX12_comes_106 : decode cX12_comes 106 = .ok (.getfield 405, 3) := by decide +kernel
theorem dX12_comes_109 : decode cX12_comes 109 = .ok (.ifCond .eq 13, 3) := by decide +kernel
theorem dX12_comes_112 : decode cX12_comes 112 = .ok (.aload_n 0, 1) := by decide +kernel
theorem dX12_comes_113 : decode cX12_comes 113 = .ok (.getfield 90, 3) := by decide +kernel
theorem dX12_comes_116 : decode cX12_comes 116 = .ok (.iload 4, 2) := by decide +kernel
theorem dX12_comes_118 : decode cX12_comes 118 = .ok (.iaload, 1) := by decide +kernel
theorem dX12_comes_119 : decode cX12_comes 119 = .ok (.goto 4, 3) := by decide +kernel
theorem dX12_comes_122 : decode cX12_comes 122 = .ok (.iconst (-1), 1) := by decide +kernel
theorem dX12_comes_123 : decode cX12_comes 123 = .ok (.istore 5, 2) := by decide +kernel
theorem dX12_comes_125 : decode cX12_comes 125 = .ok (.aload_n 0, 1) := by decide +kernel
theorem dX12_comes_126 : decode cX12_comes 126 = .ok (.aload_n 0, 1) := by decide +kernel
theorem dX12_comes_127 : decode cX12_comes 127 = .ok (.getfield 78, 3) := by decide +kernel
theorem dX12_comes_130 : decode cX12_comes 130 = .ok (.iload 4, 2) := by decide +kernel
theorem dX12_comes_132 : decode cX12_comes 132 = .ok (.iaload, 1) := by decide +kernel
theorem dX12_comes_133 : decode cX12_comes 133 = .ok (.aload_n 0, 1) := by decide +kernel
theorem dX12_comes_134 : decode cX12_comes 134 = .ok (.aload_n 0, 1) := by decide +kernel
theorem dX12_comes_135 : decode cX12_comes 135 = .ok (.getfield 81, 3) := by decide +kernel
theorem dX12_comes_138 : decode cX12_comes 138 = .ok (.iload 4, 2) := by decide +kernel
theorem dX12_comes_140 : decode cX12_comes 140 = .ok (.iaload, 1) := by decide +kernel
theorem dX12_comes_141 : decode cX12_comes 141 = .ok (.invokevirtual 461, 3) := by decide +kernel
theorem dX12_comes_144 : decode cX12_comes 144 = .ok (.aload_n 0, 1) := by decide +kernel
theorem dX12_comes_145 : decode cX12_comes 145 = .ok (.aload_n 0, 1) := by decide +kernel
theorem dX12_comes_146 : decode cX12_comes 146 = .ok (.getfield 84, 3) := by decide +kernel
theorem dX12_comes_149 : decode cX12_comes 149 = .ok (.iload 4, 2) := by decide +kernel
theorem dX12_comes_151 : decode cX12_comes 151 = .ok (.iaload, 1) := by decide +kernel
theorem dX12_comes_152 : decode cX12_comes 152 = .ok (.invokevirtual 461, 3) := by decide +kernel
theorem dX12_comes_155 : decode cX12_comes 155 = .ok (.iload 5, 2) := by decide +kernel
theorem dX12_comes_157 : decode cX12_comes 157 = .ok (.iconst (-1), 1) := by decide +kernel
theorem dX12_comes_158 : decode cX12_comes 158 = .ok (.if_icmp .ne 17, 3) := by decide +kernel
theorem dX12_comes_161 : decode cX12_comes 161 = .ok (.aload_n 0, 1) := by decide +kernel
theorem dX12_comes_162 : decode cX12_comes 162 = .ok (.getfield 36, 3) := by decide +kernel
theorem dX12_comes_165 : decode cX12_comes 165 = .ok (.aload_n 0, 1) := by decide +kernel
theorem dX12_comes_166 : decode cX12_comes 166 = .ok (.getfield 69, 3) := by decide +kernel
theorem dX12_comes_169 : decode cX12_comes 169 = .ok (.iload_n 1, 1) := by decide +kernel
theorem dX12_comes_170 : decode cX12_comes 170 = .ok (.iaload, 1) := by decide +kernel
theorem dX12_comes_171 : decode cX12_comes 171 = .ok (.iaload, 1) := by decide +kernel
theorem dX12_comes_172 : decode cX12_comes 172 = .ok (.goto 10, 3) := by decide +kernel
theorem dX12_comes_175 : decode cX12_comes 175 = .ok (.aload_n 0, 1) := by decide +kernel
theorem dX12_comes_176 : decode cX12_comes 176 = .ok (.getfield 45, 3) := by decide +kernel
theorem dX12_comes_179 : decode cX12_comes 179 = .ok (.iload 5, 2) := by decide +kernel
theorem dX12_comes_181 : decode cX12_comes 181 = .ok (.iaload, 1) := by decide +kernel
theorem dX12_comes_182 : decode cX12_comes 182 = .ok (.iload 5, 2) := by decide +kernel
theorem dX12_comes_184 : decode cX12_comes 184 = .ok (.iconst (-1), 1) := by decide +kernel
theorem dX12_comes_185 : decode cX12_comes 185 = .ok (.if_icmp .ne 17, 3) := by decide +kernel
theorem dX12_comes_188 : decode cX12_comes 188 = .ok (.aload_n 0, 1) := by decide +kernel
theorem dX12_comes_189 : decode cX12_comes 189 = .ok (.getfield 39, 3) := by decide +kernel
theorem dX12_comes_192 : decode cX12_comes 192 = .ok (.aload_n 0, 1) := by decide +kernel
theorem dX12_comes_193 : decode cX12_comes 193 = .ok (.getfield 69, 3) := by decide +kernel
theorem dX12_comes_196 : decode cX12_comes 196 = .ok (.iload_n 1, 1) := by decide +kernel
theorem dX12_comes_197 : decode cX12_comes 197 = .ok (.iaload, 1) := by decide +kernel
theorem dX12_comes_198 : decode cX12_comes 198 = .ok (.iaload, 1) := by decide +kernel
theorem dX12_comes_199 : decode cX12_comes 199 = .ok (.goto 10, 3) := by decide +kernel
theorem dX12_comes_202 : decode cX12_comes 202 = .ok (.aload_n 0, 1) := by decide +kernel
theorem dX12_comes_203 : decode cX12_comes 203 = .ok (.getfield 48, 3) := by decide +kernel
theorem dX12_comes_206 : decode cX12_comes 206 = .ok (.iload 5, 2) := by decide +kernel
theorem dX12_comes_208 : decode cX12_comes 208 = .ok (.iaload, 1) := by decide +kernel
theorem dX12_comes_209 : decode cX12_comes 209 = .ok (.invokevirtual 457, 3) := by decide +kernel
theorem dX12_comes_212 : decode cX12_comes 212 = .ok (.istore_n 3, 1) := by decide +kernel
theorem dX12_comes_213 : decode cX12_comes 213 = .ok (.aload_n 0, 1) := by decide +kernel
theorem dX12_comes_214 : decode cX12_comes 214 = .ok (.getfield 193, 3) := by decide +kernel
theorem dX12_comes_217 : decode cX12_comes 217 = .ok (.iload 4, 2) := by decide +kernel
theorem dX12_comes_219 : decode cX12_comes 219 = .ok (.iload_n 3, 1) := by decide +kernel
theorem dX12_comes_220 : decode cX12_comes 220 = .ok (.iastore, 1) := by decide +kernel
theorem dX12_comes_221 : decode cX12_comes 221 = .ok (.iload 5, 2) := by decide +kernel
theorem dX12_comes_223 : decode cX12_comes 223 = .ok (.iconst (-1), 1) := by decide +kernel
theorem dX12_comes_224 : decode cX12_comes 224 = .ok (.if_icmp .eq 11, 3) := by decide +kernel
theorem dX12_comes_227 : decode cX12_comes 227 = .ok (.aload_n 0, 1) := by decide +kernel
theorem dX12_comes_228 : decode cX12_comes 228 = .ok (.getfield 51, 3) := by decide +kernel
theorem dX12_comes_231 : decode cX12_comes 231 = .ok (.iload 5, 2) := by decide +kernel
theorem dX12_comes_233 : decode cX12_comes 233 = .ok (.iconst 1, 1) := by decide +kernel
theorem dX12_comes_234 : decode cX12_comes 234 = .ok (.bastore, 1) := by decide +kernel
theorem dX12_comes_235 : decode cX12_comes 235 = .ok (.iinc 4 1, 3) := by decide +kernel
theorem dX12_comes_238 : decode cX12_comes 238 = .ok (.goto (-153), 3) := by decide +kernel
theorem dX12_comes_241 : decode cX12_comes 241 = .ok (.iload_n 3, 1) := by decide +kernel
theorem dX12_comes_242 : decode cX12_comes 242 = .ok (.ireturn, 1) := by decide +kernel
theorem dX12_changes_0 : decode cX12_changes 0 = .ok (.aload_n 0, 1) := by decide +kernel
theorem dX12_changes_1 : decode cX12_changes 1 = .ok (.getfield 93, 3) := by decide +kernel
theorem dX12_changes_4 : decode cX12_changes 4 = .ok (.aload_n 0, 1) := by decide +kernel
theorem dX12_changes_5 : decode cX12_changes 5 = .ok (.getfield 236, 3) := by decide +kernel
theorem dX12_changes_8 : decode cX12_changes 8 = .ok (.iload_n 1, 1) := by decide +kernel
theorem dX12_changes_9 : decode cX12_changes 9 = .ok (.iastore, 1) := by decide +kernel
theorem dX12_changes_10 : decode cX12_changes 10 = .ok (.aload_n 0, 1) := by decide +kernel
theorem dX12_changes_11 : decode cX12_changes 11 = .ok (.getfield 96, 3) := by decide +kernel
theorem dX12_changes_14 : decode cX12_changes 14 = .ok (.aload_n 0, 1) := by decide +kernel
theorem dX12_changes_15 : decode cX12_changes 15 = .ok (.getfield 236, 3) := by decide +kernel
theorem dX12_changes_18 : decode cX12_changes 18 = .ok (.iload_n 2, 1) := by decide +kernel
theorem dX12_changes_19 : decode cX12_changes 19 = .ok (.iastore, 1) := by decide +kernel
theorem dX12_changes_20 : decode cX12_changes 20 = .ok (.aload_n 0, 1) := by decide +kernel
theorem dX12_changes_21 : decode cX12_changes 21 = .ok (.getfield 99, 3) := by decide +kernel
theorem dX12_changes_24 : decode cX12_changes 24 = .ok (.aload_n 0, 1) := by decide +kernel
theorem dX12_changes_25 : decode cX12_changes 25 = .ok (.getfield 236, 3) := by decide +kernel
theorem dX12_changes_28 : decode cX12_changes 28 = .ok (.iload_n 3, 1) := by decide +kernel
theorem dX12_changes_29 : decode cX12_changes 29 = .ok (.iastore, 1) := by decide +kernel
theorem dX12_changes_30 : decode cX12_changes 30 = .ok (.aload_n 0, 1) := by decide +kernel
theorem dX12_changes_31 : decode cX12_changes 31 = .ok (.dup, 1) := by decide +kernel
theorem dX12_changes_32 : decode cX12_changes 32 = .ok (.getfield 236, 3) := by decide +kernel
theorem dX12_changes_35 : decode cX12_changes 35 = .ok (.iconst 1, 1) := by decide +kernel
theorem dX12_changes_36 : decode cX12_changes 36 = .ok (.iadd, 1) := by decide +kernel
theorem dX12_changes_37 : decode cX12_changes 37 = .ok (.putfield 236, 3) := by decide +kernel
theorem dX12_changes_40 : decode cX12_changes 40 = .ok (.return_, 1) := by decide +kernel
theorem dX12_turns_0 : decode cX12_turns 0 = .ok (.aload_n 0, 1) := by decide +kernel
theorem dX12_turns_1 : decode cX12_turns 1 = .ok (.invokevirtual 208, 3) := by decide +kernel
theorem dX12_turns_4 : decode cX12_turns 4 = .ok (.istore_n 3, 1) := by decide +kernel
theorem dX12_turns_5 : decode cX12_turns 5 = .ok (.iload_n 3, 1) := by decide +kernel
theorem dX12_turns_6 : decode cX12_turns 6 = .ok (.aload_n 0, 1) := by decide +kernel
theorem dX12_turns_7 : decode cX12_turns 7 = .ok (.iconst 0, 1) := by decide +kernel
theorem dX12_turns_8 : decode cX12_turns 8 = .ok (.invokevirtual 216, 3) := by decide +kernel
theorem dX12_turns_11 : decode cX12_turns 11 = .ok (.if_icmp .ge 67, 3) := by decide +kernel
theorem dX12_turns_14 : decode cX12_turns 14 = .ok (.iconst 0, 1) := by decide +kernel
theorem dX12_turns_15 : decode cX12_turns 15 = .ok (.istore 4, 2) := by decide +kernel
theorem dX12_turns_17 : decode cX12_turns 17 = .ok (.iload 4, 2) := by decide +kernel
theorem dX12_turns_19 : decode cX12_turns 19 = .ok (.aload_n 0, 1) := by decide +kernel
theorem dX12_turns_20 : decode cX12_turns 20 = .ok (.getfield 20, 3) := by decide +kernel
theorem dX12_turns_23 : decode cX12_turns 23 = .ok (.iload_n 3, 1) := by decide +kernel
theorem dX12_turns_24 : decode cX12_turns 24 = .ok (.iaload, 1) := by decide +kernel
theorem dX12_turns_25 : decode cX12_turns 25 = .ok (.invokestatic 253, 3) := by decide +kernel
theorem dX12_turns_28 : decode cX12_turns 28 = .ok (.if_icmp .ge 44, 3) := by decide +kernel
theorem dX12_turns_31 : decode cX12_turns 31 = .ok (.aload_n 0, 1) := by decide +kernel
theorem dX12_turns_32 : decode cX12_turns 32 = .ok (.getfield 23, 3) := by decide +kernel
theorem dX12_turns_35 : decode cX12_turns 35 = .ok (.iconst 3, 1) := by decide +kernel
theorem dX12_turns_36 : decode cX12_turns 36 = .ok (.iload_n 3, 1) := by decide +kernel
theorem dX12_turns_37 : decode cX12_turns 37 = .ok (.imul, 1) := by decide +kernel
theorem dX12_turns_38 : decode cX12_turns 38 = .ok (.iload 4, 2) := by decide +kernel
theorem dX12_turns_40 : decode cX12_turns 40 = .ok (.iadd, 1) := by decide +kernel
theorem dX12_turns_41 : decode cX12_turns 41 = .ok (.iaload, 1) := by decide +kernel
theorem dX12_turns_42 : decode cX12_turns 42 = .ok (.iload_n 1, 1) := by decide +kernel
theorem dX12_turns_43 : decode cX12_turns 43 = .ok (.if_icmp .ne 23, 3) := by decide +kernel
theorem dX12_turns_46 : decode cX12_turns 46 = .ok (.aload_n 0, 1) := by decide +kernel
theorem dX12_turns_47 : decode cX12_turns 47 = .ok (.getfield 23, 3) := by decide +kernel
theorem dX12_turns_50 : decode cX12_turns 50 = .ok (.iconst 3, 1) := by decide +kernel
theorem dX12_turns_51 : decode cX12_turns 51 = .ok (.iload_n 3, 1) := by decide +kernel
theorem dX12_turns_52 : decode cX12_turns 52 = .ok (.imul, 1) := by decide +kernel
theorem dX12_turns_53 : decode cX12_turns 53 = .ok (.iload 4, 2) := by decide +kernel
theorem dX12_turns_55 : decode cX12_turns 55 = .ok (.iadd, 1) := by decide +kernel
theorem dX12_turns_56 : decode cX12_turns 56 = .ok (.iload_n 2, 1) := by decide +kernel
theorem dX12_turns_57 : decode cX12_turns 57 = .ok (.iastore, 1) := by decide +kernel
theorem dX12_turns_58 : decode cX12_turns 58 = .ok (.aload_n 0, 1) := by decide +kernel
theorem dX12_turns_59 : decode cX12_turns 59 = .ok (.iconst 0, 1) := by decide +kernel
theorem dX12_turns_60 : decode cX12_turns 60 = .ok (.iload_n 3, 1) := by decide +kernel
theorem dX12_turns_61 : decode cX12_turns 61 = .ok (.iload 4, 2) := by decide +kernel
theorem dX12_turns_63 : decode cX12_turns 63 = .ok (.invokevirtual 464, 3) := by decide +kernel
theorem dX12_turns_66 : decode cX12_turns 66 = .ok (.iinc 4 1, 3) := by decide +kernel
theorem dX12_turns_69 : decode cX12_turns 69 = .ok (.goto (-52), 3) := by decide +kernel
theorem dX12_turns_72 : decode cX12_turns 72 = .ok (.iinc 3 1, 3) := by decide +kernel
theorem dX12_turns_75 : decode cX12_turns 75 = .ok (.goto (-70), 3) := by decide +kernel
theorem dX12_turns_78 : decode cX12_turns 78 = .ok (.iconst 0, 1) := by decide +kernel
theorem dX12_turns_79 : decode cX12_turns 79 = .ok (.istore_n 3, 1) := by decide +kernel
theorem dX12_turns_80 : decode cX12_turns 80 = .ok (.iload_n 3, 1) := by decide +kernel
theorem dX12_turns_81 : decode cX12_turns 81 = .ok (.aload_n 0, 1) := by decide +kernel
theorem dX12_turns_82 : decode cX12_turns 82 = .ok (.getfield 13, 3) := by decide +kernel
theorem dX12_turns_85 : decode cX12_turns 85 = .ok (.if_icmp .ge 33, 3) := by decide +kernel
theorem dX12_turns_88 : decode cX12_turns 88 = .ok (.aload_n 0, 1) := by decide +kernel
theorem dX12_turns_89 : decode cX12_turns 89 = .ok (.getfield 26, 3) := by decide +kernel
theorem dX12_turns_92 : decode cX12_turns 92 = .ok (.iload_n 3, 1) := by decide +kernel
theorem dX12_turns_93 : decode cX12_turns 93 = .ok (.iaload, 1) := by decide +kernel
theorem dX12_turns_94 : decode cX12_turns 94 = .ok (.iload_n 1, 1) := by decide +kernel
theorem dX12_turns_95 : decode cX12_turns 95 = .ok (.if_icmp .ne 17, 3) := by decide +kernel
theorem dX12_turns_98 : decode cX12_turns 98 = .ok (.aload_n 0, 1) := by decide +kernel
theorem dX12_turns_99 : decode cX12_turns 99 = .ok (.getfield 26, 3) := by decide +kernel
theorem dX12_turns_102 : decode cX12_turns 102 = .ok (.iload_n 3, 1) := by decide +kernel
theorem dX12_turns_103 : decode cX12_turns 103 = .ok (.iload_n 2, 1) := by decide +kernel
theorem dX12_turns_104 : decode cX12_turns 104 = .ok (.iastore, 1) := by decide +kernel
theorem dX12_turns_105 : decode cX12_turns 105 = .ok (.aload_n 0, 1) := by decide +kernel
theorem dX12_turns_106 : decode cX12_turns 106 = .ok (.iconst 1, 1) := by decide +kernel
theorem dX12_turns_107 : decode cX12_turns 107 = .ok (.iload_n 3, 1) := by decide +kernel
theorem dX12_turns_108 : decode cX12_turns 108 = .ok (.iconst 0, 1) := by decide +kernel
theorem dX12_turns_109 : decode cX12_turns 109 = .ok (.invokevirtual 464, 3) := by decide +kernel
theorem dX12_turns_112 : decode cX12_turns 112 = .ok (.iinc 3 1, 3) := by decide +kernel
theorem dX12_turns_115 : decode cX12_turns 115 = .ok (.goto (-35), 3) := by decide +kernel
theorem dX12_turns_118 : decode cX12_turns 118 = .ok (.iconst 0, 1) := by decide +kernel
theorem dX12_turns_119 : decode cX12_turns 119 = .ok (.istore_n 3, 1) := by decide +kernel
theorem dX12_turns_120 : decode cX12_turns 120 = .ok (.iload_n 3, 1) := by decide +kernel
theorem dX12_turns_121 : decode cX12_turns 121 = .ok (.aload_n 0, 1) := by decide +kernel
theorem dX12_turns_122 : decode cX12_turns 122 = .ok (.getfield 205, 3) := by decide +kernel
theorem dX12_turns_125 : decode cX12_turns 125 = .ok (.if_icmp .ge 33, 3) := by decide +kernel
theorem dX12_turns_128 : decode cX12_turns 128 = .ok (.aload_n 0, 1) := by decide +kernel
theorem dX12_turns_129 : decode cX12_turns 129 = .ok (.getfield 29, 3) := by decide +kernel
theorem dX12_turns_132 : decode cX12_turns 132 = .ok (.iload_n 3, 1) := by decide +kernel
theorem dX12_turns_133 : decode cX12_turns 133 = .ok (.iaload, 1) := by decide +kernel
theorem dX12_turns_134 : decode cX12_turns 134 = .ok (.iload_n 1, 1) := by decide +kernel
theorem dX12_turns_135 : decode cX12_turns 135 = .ok (.if_icmp .ne 17, 3) := by decide +kernel
theorem dX12_turns_138 : decode cX12_turns 138 = .ok (.aload_n 0, 1) := by decide +kernel
theorem dX12_turns_139 : decode cX12_turns 139 = .ok (.getfield 29, 3) := by decide +kernel
theorem dX12_turns_142 : decode cX12_turns 142 = .ok (.iload_n 3, 1) := by decide +kernel
theorem dX12_turns_143 : decode cX12_turns 143 = .ok (.iload_n 2, 1) := by decide +kernel
theorem dX12_turns_144 : decode cX12_turns 144 = .ok (.iastore, 1) := by decide +kernel
theorem dX12_turns_145 : decode cX12_turns 145 = .ok (.aload_n 0, 1) := by decide +kernel
theorem dX12_turns_146 : decode cX12_turns 146 = .ok (.iconst 2, 1) := by decide +kernel
theorem dX12_turns_147 : decode cX12_turns 147 = .ok (.iload_n 3, 1) := by decide +kernel
theorem dX12_turns_148 : decode cX12_turns 148 = .ok (.iconst 0, 1) := by decide +kernel
theorem dX12_turns_149 : decode cX12_turns 149 = .ok (.invokevirtual 464, 3) := by decide +kernel
theorem dX12_turns_152 : decode cX12_turns 152 = .ok (.iinc 3 1, 3) := by decide +kernel
theorem dX12_turns_155 : decode cX12_turns 155 = .ok (.goto (-35), 3) := by decide +kernel
theorem dX12_turns_158 : decode cX12_turns 158 = .ok (.return_, 1) := by decide +kernel
theorem dX12_shown_0 : decode cX12_shown 0 = .ok (.iconst 0, 1) := by decide +kernel
theorem dX12_shown_1 : decode cX12_shown 1 = .ok (.istore_n 2, 1) := by decide +kernel
theorem dX12_shown_2 : decode cX12_shown 2 = .ok (.iconst 0, 1) := by decide +kernel
theorem dX12_shown_3 : decode cX12_shown 3 = .ok (.istore_n 3, 1) := by decide +kernel
theorem dX12_shown_4 : decode cX12_shown 4 = .ok (.iload_n 3, 1) := by decide +kernel
theorem dX12_shown_5 : decode cX12_shown 5 = .ok (.aload_n 0, 1) := by decide +kernel
theorem dX12_shown_6 : decode cX12_shown 6 = .ok (.invokevirtual 316, 3) := by decide +kernel
theorem dX12_shown_9 : decode cX12_shown 9 = .ok (.if_icmp .ge 34, 3) := by decide +kernel
theorem dX12_shown_12 : decode cX12_shown 12 = .ok (.iload_n 2, 1) := by decide +kernel
theorem dX12_shown_13 : decode cX12_shown 13 = .ok (.aload_n 0, 1) := by decide +kernel
theorem dX12_shown_14 : decode cX12_shown 14 = .ok (.iconst 0, 1) := by decide +kernel
theorem dX12_shown_15 : decode cX12_shown 15 = .ok (.aload_n 0, 1) := by decide +kernel
theorem dX12_shown_16 : decode cX12_shown 16 = .ok (.iconst 0, 1) := by decide +kernel
theorem dX12_shown_17 : decode cX12_shown 17 = .ok (.iload_n 3, 1) := by decide +kernel
theorem dX12_shown_18 : decode cX12_shown 18 = .ok (.invokevirtual 319, 3) := by decide +kernel
theorem dX12_shown_21 : decode cX12_shown 21 = .ok (.iload_n 1, 1) := by decide +kernel
theorem dX12_shown_22 : decode cX12_shown 22 = .ok (.invokevirtual 313, 3) := by decide +kernel
theorem dX12_shown_25 : decode cX12_shown 25 = .ok (.ifCond .eq 9, 3) := by decide +kernel
theorem dX12_shown_28 : decode cX12_shown 28 = .ok (.iconst 1, 1) := by decide +kernel
theorem dX12_shown_29 : decode cX12_shown 29 = .ok (.iload_n 3, 1) := by decide +kernel
theorem dX12_shown_30 : decode cX12_shown 30 = .ok (.ishl, 1) := by decide +kernel
theorem dX12_shown_31 : decode cX12_shown 31 = .ok (.goto 4, 3) := by decide +kernel
theorem dX12_shown_34 : decode cX12_shown 34 = .ok (.iconst 0, 1) := by decide +kernel
theorem dX12_shown_35 : decode cX12_shown 35 = .ok (.ior, 1) := by decide +kernel
theorem dX12_shown_36 : decode cX12_shown 36 = .ok (.istore_n 2, 1) := by decide +kernel
theorem dX12_shown_37 : decode cX12_shown 37 = .ok (.iinc 3 1, 3) := by decide +kernel
theorem dX12_shown_40 : decode cX12_shown 40 = .ok (.goto (-36), 3) := by decide +kernel
theorem dX12_shown_43 : decode cX12_shown 43 = .ok (.iload_n 2, 1) := by decide +kernel
theorem dX12_shown_44 : decode cX12_shown 44 = .ok (.ireturn, 1) := by decide +kernel
theorem dX12_apply_0 : decode cX12_apply 0 = .ok (.aload_n 0, 1) := by decide +kernel
theorem dX12_apply_1 : decode cX12_apply 1 = .ok (.getfield 229, 3) := by decide +kernel
theorem dX12_apply_4 : decode cX12_apply 4 = .ok (.ifCond .ne 5, 3) := by decide +kernel
theorem dX12_apply_7 : decode cX12_apply 7 = .ok (.iconst (-1), 1) := by decide +kernel
theorem dX12_apply_8 : decode cX12_apply 8 = .ok (.ireturn, 1) := by decide +kernel
theorem dX12_apply_9 : decode cX12_apply 9 = .ok (.aload_n 0, 1) := by decide +kernel
theorem dX12_apply_10 : decode cX12_apply 10 = .ok (.getfield 381, 3) := by decide +kernel
theorem dX12_apply_13 : decode cX12_apply 13 = .ok (.istore_n 1, 1) := by decide +kernel
theorem dX12_apply_14 : decode cX12_apply 14 = .ok (.iconst 0, 1) := by decide +kernel
theorem dX12_apply_15 : decode cX12_apply 15 = .ok (.istore_n 2, 1) := by decide +kernel
theorem dX12_apply_16 : decode cX12_apply 16 = .ok (.iload_n 2, 1) := by decide +kernel
theorem dX12_apply_17 : decode cX12_apply 17 = .ok (.aload_n 0, 1) := by decide +kernel
theorem dX12_apply_18 : decode cX12_apply 18 = .ok (.getfield 408, 3) := by decide +kernel
theorem dX12_apply_21 : decode cX12_apply 21 = .ok (.if_icmp .ge 33, 3) := by decide +kernel
theorem dX12_apply_24 : decode cX12_apply 24 = .ok (.iload_n 1, 1) := by decide +kernel
theorem dX12_apply_25 : decode cX12_apply 25 = .ok (.aload_n 0, 1) := by decide +kernel
theorem dX12_apply_26 : decode cX12_apply 26 = .ok (.aload_n 0, 1) := by decide +kernel
theorem dX12_apply_27 : decode cX12_apply 27 = .ok (.getfield 75, 3) := by decide +kernel
theorem dX12_apply_30 : decode cX12_apply 30 = .ok (.iload_n 2, 1) := by decide +kernel
theorem dX12_apply_31 : decode cX12_apply 31 = .ok (.iaload, 1) := by decide +kernel
theorem dX12_apply_32 : decode cX12_apply 32 = .ok (.invokevirtual 454, 3) := by decide +kernel
theorem dX12_apply_35 : decode cX12_apply 35 = .ok (.sipush 200, 3) := by decide +kernel
theorem dX12_apply_38 : decode cX12_apply 38 = .ok (.if_icmp .lt 7, 3) := by decide +kernel
theorem dX12_apply_41 : decode cX12_apply 41 = .ok (.iconst 1, 1) := by decide +kernel
theorem dX12_apply_42 : decode cX12_apply 42 = .ok (.goto 4, 3) := by decide +kernel
theorem dX12_apply_45 : decode cX12_apply 45 = .ok (.iconst 0, 1) := by decide +kernel
theorem dX12_apply_46 : decode cX12_apply 46 = .ok (.iadd, 1) := by decide +kernel
theorem dX12_apply_47 : decode cX12_apply 47 = .ok (.istore_n 1, 1) := by decide +kernel
theorem dX12_apply_48 : decode cX12_apply 48 = .ok (.iinc 2 1, 3) := by decide +kernel
theorem dX12_apply_51 : decode cX12_apply 51 = .ok (.goto (-35), 3) := by decide +kernel
theorem dX12_apply_54 : decode cX12_apply 54 = .ok (.aload_n 0, 1) := by decide +kernel
theorem dX12_apply_55 : decode cX12_apply 55 = .ok (.getfield 16, 3) := by decide +kernel
theorem dX12_apply_58 : decode cX12_apply 58 = .ok (.iconst 0, 1) := by decide +kernel
theorem dX12_apply_59 : decode cX12_apply 59 = .ok (.iaload, 1) := by decide +kernel
theorem dX12_apply_60 : decode cX12_apply 60 = .ok (.iload_n 1, 1) := by decide +kernel
theorem dX12_apply_61 : decode cX12_apply 61 = .ok (.iadd, 1) := by decide +kernel
theorem dX12_apply_62 : decode cX12_apply 62 = .ok (.bipush 40, 2) := by decide +kernel
theorem dX12_apply_64 : decode cX12_apply 64 = .ok (.if_icmp .le 6, 3) := by decide +kernel
theorem dX12_apply_67 : decode cX12_apply 67 = .ok (.bipush (-3), 2) := by decide +kernel
theorem dX12_apply_69 : decode cX12_apply 69 = .ok (.ireturn, 1) := by decide +kernel
theorem dX12_apply_70 : decode cX12_apply 70 = .ok (.aload_n 0, 1) := by decide +kernel
theorem dX12_apply_71 : decode cX12_apply 71 = .ok (.getfield 233, 3) := by decide +kernel
theorem dX12_apply_74 : decode cX12_apply 74 = .ok (.iconst 4, 1) := by decide +kernel
theorem dX12_apply_75 : decode cX12_apply 75 = .ok (.if_icmp .ne 40, 3) := by decide +kernel
theorem dX12_apply_78 : decode cX12_apply 78 = .ok (.iconst 1, 1) := by decide +kernel
theorem dX12_apply_79 : decode cX12_apply 79 = .ok (.istore_n 2, 1) := by decide +kernel
theorem dX12_apply_80 : decode cX12_apply 80 = .ok (.iload_n 2, 1) := by decide +kernel
theorem dX12_apply_81 : decode cX12_apply 81 = .ok (.iconst 4, 1) := by decide +kernel
theorem dX12_apply_82 : decode cX12_apply 82 = .ok (.if_icmp .ge 23, 3) := by decide +kernel
theorem dX12_apply_85 : decode cX12_apply 85 = .ok (.aload_n 0, 1) := by decide +kernel
theorem dX12_apply_86 : decode cX12_apply 86 = .ok (.bipush 6, 2) := by decide +kernel
theorem dX12_apply_88 : decode cX12_apply 88 = .ok (.iload_n 2, 1) := by decide +kernel
theorem dX12_apply_89 : decode cX12_apply 89 = .ok (.iadd, 1) := by decide +kernel
theorem dX12_apply_90 : decode cX12_apply 90 = .ok (.bipush 6, 2) := by decide +kernel
theorem dX12_apply_92 : decode cX12_apply 92 = .ok (.iload_n 2, 1) := by decide +kernel
theorem dX12_apply_93 : decode cX12_apply 93 = .ok (.iadd, 1) := by decide +kernel
theorem dX12_apply_94 : decode cX12_apply 94 = .ok (.iconst 1, 1) := by decide +kernel
theorem dX12_apply_95 : decode cX12_apply 95 = .ok (.isub, 1) := by decide +kernel
theorem dX12_apply_96 : decode cX12_apply 96 = .ok (.invokevirtual 467, 3) := by decide +kernel
theorem dX12_apply_99 : decode cX12_apply 99 = .ok (.iinc 2 1, 3) := by decide +kernel
theorem dX12_apply_102 : decode cX12_apply 102 = .ok (.goto (-22), 3) := by decide +kernel
theorem dX12_apply_105 : decode cX12_apply 105 = .ok (.aload_n 0, 1) := by decide +kernel
theorem dX12_apply_106 : decode cX12_apply 106 = .ok (.dup, 1) := by decide +kernel
theorem dX12_apply_107 : decode cX12_apply 107 = .ok (.getfield 233, 3) := by decide +kernel
theorem dX12_apply_110 : decode cX12_apply 110 = .ok (.iconst 1, 1) := by decide +kernel
theorem dX12_apply_111 : decode cX12_apply 111 = .ok (.isub, 1) := by decide +kernel
theorem dX12_apply_112 : decode cX12_apply 112 = .ok (.putfield 233, 3) := by decide +kernel
theorem dX12_apply_115 : decode cX12_apply 115 = .ok (.aload_n 0, 1) := by decide +kernel
theorem dX12_apply_116 : decode cX12_apply 116 = .ok (.bipush 6, 2) := by decide +kernel
theorem dX12_apply_118 : decode cX12_apply 118 = .ok (.aload_n 0, 1) := by decide +kernel
theorem dX12_apply_119 : decode cX12_apply 119 = .ok (.getfield 233, 3) := by decide +kernel
theorem dX12_apply_122 : decode cX12_apply 122 = .ok (.iadd, 1) := by decide +kernel
theorem dX12_apply_123 : decode cX12_apply 123 = .ok (.invokevirtual 470, 3) := by decide +kernel
theorem dX12_apply_126 : decode cX12_apply 126 = .ok (.aload_n 0, 1) := by decide +kernel
theorem dX12_apply_127 : decode cX12_apply 127 = .ok (.dup, 1) := by decide +kernel
theorem dX12_apply_128 : decode cX12_apply 128 = .ok (.getfield 233, 3) := by decide +kernel
theorem dX12_apply_131 : decode cX12_apply 131 = .ok (.iconst 1, 1) := by decide +kernel
theorem dX12_apply_132 : decode cX12_apply 132 = .ok (.iadd, 1) := by decide +kernel
theorem dX12_apply_133 : decode cX12_apply 133 = .ok (.putfield 233, 3) := by decide +kernel
theorem dX12_apply_136 : decode cX12_apply 136 = .ok (.aload_n 0, 1) := by decide +kernel
theorem dX12_apply_137 : decode cX12_apply 137 = .ok (.iconst 0, 1) := by decide +kernel
theorem dX12_apply_138 : decode cX12_apply 138 = .ok (.invokevirtual 310, 3) := by decide +kernel
theorem dX12_apply_141 : decode cX12_apply 141 = .ok (.iconst 0, 1) := by decide +kernel
theorem dX12_apply_142 : decode cX12_apply 142 = .ok (.istore_n 2, 1) := by decide +kernel
theorem dX12_apply_143 : decode cX12_apply 143 = .ok (.iload_n 2, 1) := by decide +kernel
theorem dX12_apply_144 : decode cX12_apply 144 = .ok (.aload_n 0, 1) := by decide +kernel
theorem dX12_apply_145 : decode cX12_apply 145 = .ok (.invokevirtual 242, 3) := by decide +kernel
theorem dX12_apply_148 : decode cX12_apply 148 = .ok (.if_icmp .ge 20, 3) := by decide +kernel
theorem dX12_apply_151 : decode cX12_apply 151 = .ok (.aload_n 0, 1) := by decide +kernel
theorem dX12_apply_152 : decode cX12_apply 152 = .ok (.getfield 196, 3) := by decide +kernel
theorem dX12_apply_155 : decode cX12_apply 155 = .ok (.iload_n 2, 1) := by decide +kernel
theorem dX12_apply_156 : decode cX12_apply 156 = .ok (.aload_n 0, 1) := by decide +kernel
theorem dX12_apply_157 : decode cX12_apply 157 = .ok (.iload_n 2, 1) := by decide +kernel
theorem dX12_apply_158 : decode cX12_apply 158 = .ok (.invokevirtual 472, 3) := by decide +kernel
theorem dX12_apply_161 : decode cX12_apply 161 = .ok (.iastore, 1) := by decide +kernel
theorem dX12_apply_162 : decode cX12_apply 162 = .ok (.iinc 2 1, 3) := by decide +kernel
theorem dX12_apply_165 : decode cX12_apply 165 = .ok (.goto (-22), 3) := by decide +kernel
theorem dX12_apply_168 : decode cX12_apply 168 = .ok (.aload_n 0, 1) := by decide +kernel
theorem dX12_apply_169 : decode cX12_apply 169 = .ok (.iconst 0, 1) := by decide +kernel
theorem dX12_apply_170 : decode cX12_apply 170 = .ok (.putfield 236, 3) := by decide +kernel
theorem dX12_apply_173 : decode cX12_apply 173 = .ok (.aload_n 0, 1) := by decide +kernel
theorem dX12_apply_174 : decode cX12_apply 174 = .ok (.iconst 0, 1) := by decide +kernel
theorem dX12_apply_175 : decode cX12_apply 175 = .ok (.putfield 239, 3) := by decide +kernel
theorem dX12_apply_178 : decode cX12_apply 178 = .ok (.aload_n 0, 1) := by decide +kernel
theorem dX12_apply_179 : decode cX12_apply 179 = .ok (.iconst 0, 1) := by decide +kernel
theorem dX12_apply_180 : decode cX12_apply 180 = .ok (.invokevirtual 475, 3) := by decide +kernel
theorem dX12_apply_183 : decode cX12_apply 183 = .ok (.istore_n 2, 1) := by decide +kernel
theorem dX12_apply_184 : decode cX12_apply 184 = .ok (.aload_n 0, 1) := by decide +kernel
theorem dX12_apply_185 : decode cX12_apply 185 = .ok (.getfield 408, 3) := by decide +kernel
theorem dX12_apply_188 : decode cX12_apply 188 = .ok (.iconst 1, 1) := by decide +kernel
theorem dX12_apply_189 : decode cX12_apply 189 = .ok (.if_icmp .le 11, 3) := by decide +kernel
theorem dX12_apply_192 : decode cX12_apply 192 = .ok (.aload_n 0, 1) := by decide +kernel
theorem dX12_apply_193 : decode cX12_apply 193 = .ok (.iconst 1, 1) := by decide +kernel
theorem dX12_apply_194 : decode cX12_apply 194 = .ok (.invokevirtual 475, 3) := by decide +kernel
theorem dX12_apply_197 : decode cX12_apply 197 = .ok (.goto 4, 3) := by decide +kernel
theorem dX12_apply_200 : decode cX12_apply 200 = .ok (.iconst (-1), 1) := by decide +kernel
theorem dX12_apply_201 : decode cX12_apply 201 = .ok (.istore_n 3, 1) := by decide +kernel
theorem dX12_apply_202 : decode cX12_apply 202 = .ok (.aload_n 0, 1) := by decide +kernel
theorem dX12_apply_203 : decode cX12_apply 203 = .ok (.aload_n 0, 1) := by decide +kernel
theorem dX12_apply_204 : decode cX12_apply 204 = .ok (.getfield 69, 3) := by decide +kernel
theorem dX12_apply_207 : decode cX12_apply 207 = .ok (.iconst 0, 1) := by decide +kernel
theorem dX12_apply_208 : decode cX12_apply 208 = .ok (.iaload, 1) := by decide +kernel
theorem dX12_apply_209 : decode cX12_apply 209 = .ok (.iload_n 2, 1) := by decide +kernel
theorem dX12_apply_210 : decode cX12_apply 210 = .ok (.invokevirtual 478, 3) := by decide +kernel
theorem dX12_apply_213 : decode cX12_apply 213 = .ok (.aload_n 0, 1) := by decide +kernel
theorem dX12_apply_214 : decode cX12_apply 214 = .ok (.getfield 408, 3) := by decide +kernel
theorem dX12_apply_217 : decode cX12_apply 217 = .ok (.iconst 1, 1) := by decide +kernel
theorem dX12_apply_218 : decode cX12_apply 218 = .ok (.if_icmp .le 14, 3) := by decide +kernel
theorem dX12_apply_221 : decode cX12_apply 221 = .ok (.aload_n 0, 1) := by decide +kernel
theorem dX12_apply_222 : decode cX12_apply 222 = .ok (.aload_n 0, 1) := by decide +kernel
theorem dX12_apply_223 : decode cX12_apply 223 = .ok (.getfield 69, 3) := by decide +kernel
theorem dX12_apply_226 : decode cX12_apply 226 = .ok (.iconst 1, 1) := by decide +kernel
theorem dX12_apply_227 : decode cX12_apply 227 = .ok (.iaload, 1) := by decide +kernel
theorem dX12_apply_228 : decode cX12_apply 228 = .ok (.iload_n 3, 1) := by decide +kernel
theorem dX12_apply_229 : decode cX12_apply 229 = .ok (.invokevirtual 478, 3) := by decide +kernel
theorem dX12_apply_232 : decode cX12_apply 232 = .ok (.aload_n 0, 1) := by decide +kernel
theorem dX12_apply_233 : decode cX12_apply 233 = .ok (.iconst 0, 1) := by decide +kernel
theorem dX12_apply_234 : decode cX12_apply 234 = .ok (.invokevirtual 310, 3) := by decide +kernel
theorem dX12_apply_237 : decode cX12_apply 237 = .ok (.iconst 0, 1) := by decide +kernel
theorem dX12_apply_238 : decode cX12_apply 238 = .ok (.istore 4, 2) := by decide +kernel
theorem dX12_apply_240 : decode cX12_apply 240 = .ok (.iload 4, 2) := by decide +kernel
theorem dX12_apply_242 : decode cX12_apply 242 = .ok (.aload_n 0, 1) := by decide +kernel
theorem dX12_apply_243 : decode cX12_apply 243 = .ok (.invokevirtual 242, 3) := by decide +kernel
theorem dX12_apply_246 : decode cX12_apply 246 = .ok (.if_icmp .ge 56, 3) := by decide +kernel
theorem dX12_apply_249 : decode cX12_apply 249 = .ok (.aload_n 0, 1) := by decide +kernel
theorem dX12_apply_250 : decode cX12_apply 250 = .ok (.getfield 32, 3) := by decide +kernel
theorem dX12_apply_253 : decode cX12_apply 253 = .ok (.iload 4, 2) := by decide +kernel
theorem dX12_apply_255 : decode cX12_apply 255 = .ok (.baload, 1) := by decide +kernel
theorem dX12_apply_256 : decode cX12_apply 256 = .ok (.ifCond .ne 40, 3) := by decide +kernel
theorem dX12_apply_259 : decode cX12_apply 259 = .ok (.aload_n 0, 1) := by decide +kernel
theorem dX12_apply_260 : decode cX12_apply 260 = .ok (.iload 4, 2) := by decide +kernel
theorem dX12_apply_262 : decode cX12_apply 262 = .ok (.invokevirtual 472, 3) := by decide +kernel
theorem dX12_apply_265 : decode cX12_apply 265 = .ok (.aload_n 0, 1) := by decide +kernel
theorem dX12_apply_266 : decode cX12_apply 266 = .ok (.getfield 196, 3) := by decide +kernel
theorem dX12_apply_269 : decode cX12_apply 269 = .ok (.iload 4, 2) := by decide +kernel
theorem dX12_apply_271 : decode cX12_apply 271 = .ok (.iaload, 1) := by decide +kernel
theorem dX12_apply_272 : decode cX12_apply 272 = .ok (.if_icmp .eq 24, 3) := by decide +kernel
theorem dX12_apply_275 : decode cX12_apply 275 = .ok (.aload_n 0, 1) := by decide +kernel
theorem dX12_apply_276 : decode cX12_apply 276 = .ok (.getfield 102, 3) := by decide +kernel
theorem dX12_apply_279 : decode cX12_apply 279 = .ok (.aload_n 0, 1) := by decide +kernel
theorem dX12_apply_280 : decode cX12_apply 280 = .ok (.getfield 239, 3) := by decide +kernel
theorem dX12_apply_283 : decode cX12_apply 283 = .ok (.iload 4, 2) := by decide +kernel
theorem dX12_apply_285 : decode cX12_apply 285 = .ok (.iastore, 1) := by decide +kernel
theorem dX12_apply_286 : decode cX12_apply 286 = .ok (.aload_n 0, 1) := by decide +kernel
theorem dX12_apply_287 : decode cX12_apply 287 = .ok (.dup, 1) := by decide +kernel
theorem dX12_apply_288 : decode cX12_apply 288 = .ok (.getfield 239, 3) := by decide +kernel
theorem dX12_apply_291 : decode cX12_apply 291 = .ok (.iconst 1, 1) := by decide +kernel
theorem dX12_apply_292 : decode cX12_apply 292 = .ok (.iadd, 1) := by decide +kernel
theorem dX12_apply_293 : decode cX12_apply 293 = .ok (.putfield 239, 3) := by decide +kernel
theorem dX12_apply_296 : decode cX12_apply 296 = .ok (.iinc 4 1, 3) := by decide +kernel
theorem dX12_apply_299 : decode cX12_apply 299 = .ok (.goto (-59), 3) := by decide +kernel
theorem dX12_apply_302 : decode cX12_apply 302 = .ok (.aload_n 0, 1) := by decide +kernel
theorem dX12_apply_303 : decode cX12_apply 303 = .ok (.iconst 0, 1) := by decide +kernel
theorem dX12_apply_304 : decode cX12_apply 304 = .ok (.putfield 229, 3) := by decide +kernel
theorem dX12_apply_307 : decode cX12_apply 307 = .ok (.iload_n 1, 1) := by decide +kernel
theorem dX12_apply_308 : decode cX12_apply 308 = .ok (.ireturn, 1) := by decide +kernel
theorem dX12_undo_0 : decode cX12_undo 0 = .ok (.aload_n 0, 1) := by decide +kernel
theorem dX12_undo_1 : decode cX12_undo 1 = .ok (.getfield 233, 3) := by decide +kernel
theorem dX12_undo_4 : decode cX12_undo 4 = .ok (.ifCond .ne 5, 3) := by decide +kernel
theorem dX12_undo_7 : decode cX12_undo 7 = .ok (.iconst (-1), 1) := by decide +kernel
theorem dX12_undo_8 : decode cX12_undo 8 = .ok (.ireturn, 1) := by decide +kernel
theorem dX12_undo_9 : decode cX12_undo 9 = .ok (.aload_n 0, 1) := by decide +kernel
theorem dX12_undo_10 : decode cX12_undo 10 = .ok (.dup, 1) := by decide +kernel
theorem dX12_undo_11 : decode cX12_undo 11 = .ok (.getfield 233, 3) := by decide +kernel
theorem dX12_undo_14 : decode cX12_undo 14 = .ok (.iconst 1, 1) := by decide +kernel
theorem dX12_undo_15 : decode cX12_undo 15 = .ok (.isub, 1) := by decide +kernel
theorem dX12_undo_16 : decode cX12_undo 16 = .ok (.putfield 233, 3) := by decide +kernel
theorem dX12_undo_19 : decode cX12_undo 19 = .ok (.aload_n 0, 1) := by decide +kernel
theorem dX12_undo_20 : decode cX12_undo 20 = .ok (.bipush 6, 2) := by decide +kernel
theorem dX12_undo_22 : decode cX12_undo 22 = .ok (.aload_n 0, 1) := by decide +kernel
theorem dX12_undo_23 : decode cX12_undo 23 = .ok (.getfield 233, 3) := by decide +kernel
theorem dX12_undo_26 : decode cX12_undo 26 = .ok (.iadd, 1) := by decide +kernel
theorem dX12_undo_27 : decode cX12_undo 27 = .ok (.invokevirtual 481, 3) := by decide +kernel
theorem dX12_undo_30 : decode cX12_undo 30 = .ok (.iconst 0, 1) := by decide +kernel
theorem dX12_undo_31 : decode cX12_undo 31 = .ok (.istore_n 1, 1) := by decide +kernel
theorem dX12_undo_32 : decode cX12_undo 32 = .ok (.iload_n 1, 1) := by decide +kernel
theorem dX12_undo_33 : decode cX12_undo 33 = .ok (.bipush 12, 2) := by decide +kernel
theorem dX12_undo_35 : decode cX12_undo 35 = .ok (.if_icmp .ge 32, 3) := by decide +kernel
theorem dX12_undo_38 : decode cX12_undo 38 = .ok (.aload_n 0, 1) := by decide +kernel
theorem dX12_undo_39 : decode cX12_undo 39 = .ok (.getfield 51, 3) := by decide +kernel
theorem dX12_undo_42 : decode cX12_undo 42 = .ok (.iload_n 1, 1) := by decide +kernel
theorem dX12_undo_43 : decode cX12_undo 43 = .ok (.aload_n 0, 1) := by decide +kernel
theorem dX12_undo_44 : decode cX12_undo 44 = .ok (.getfield 145, 3) := by decide +kernel
theorem dX12_undo_47 : decode cX12_undo 47 = .ok (.bipush 12, 2) := by decide +kernel
theorem dX12_undo_49 : decode cX12_undo 49 = .ok (.bipush 6, 2) := by decide +kernel
theorem dX12_undo_51 : decode cX12_undo 51 = .ok (.aload_n 0, 1) := by decide +kernel
theorem dX12_undo_52 : decode cX12_undo 52 = .ok (.getfield 233, 3) := by decide +kernel
theorem dX12_undo_55 : decode cX12_undo 55 = .ok (.iadd, 1) := by decide +kernel
theorem dX12_undo_56 : decode cX12_undo 56 = .ok (.imul, 1) := by decide +kernel
theorem dX12_undo_57 : decode cX12_undo 57 = .ok (.iload_n 1, 1) := by decide +kernel
theorem dX12_undo_58 : decode cX12_undo 58 = .ok (.iadd, 1) := by decide +kernel
theorem dX12_undo_59 : decode cX12_undo 59 = .ok (.baload, 1) := by decide +kernel
theorem dX12_undo_60 : decode cX12_undo 60 = .ok (.bastore, 1) := by decide +kernel
theorem dX12_undo_61 : decode cX12_undo 61 = .ok (.iinc 1 1, 3) := by decide +kernel
theorem dX12_undo_64 : decode cX12_undo 64 = .ok (.goto (-32), 3) := by decide +kernel
theorem dX12_undo_67 : decode cX12_undo 67 = .ok (.aload_n 0, 1) := by decide +kernel
theorem dX12_undo_68 : decode cX12_undo 68 = .ok (.getfield 233, 3) := by decide +kernel
theorem dX12_undo_71 : decode cX12_undo 71 = .ok (.ireturn, 1) := by decide +kernel
theorem dX12_change_0 : decode cX12_change 0 = .ok (.iload_n 1, 1) := by decide +kernel
theorem dX12_change_1 : decode cX12_change 1 = .ok (.iconst 0, 1) := by decide +kernel
theorem dX12_change_2 : decode cX12_change 2 = .ok (.aload_n 0, 1) := by decide +kernel
theorem dX12_change_3 : decode cX12_change 3 = .ok (.getfield 236, 3) := by decide +kernel
theorem dX12_change_6 : decode cX12_change 6 = .ok (.iconst 1, 1) := by decide +kernel
theorem dX12_change_7 : decode cX12_change 7 = .ok (.isub, 1) := by decide +kernel
theorem dX12_change_8 : decode cX12_change 8 = .ok (.invokestatic 212, 3) := by decide +kernel
theorem dX12_change_11 : decode cX12_change 11 = .ok (.ifCond .ne 5, 3) := by decide +kernel
theorem dX12_change_14 : decode cX12_change 14 = .ok (.iconst (-1), 1) := by decide +kernel
theorem dX12_change_15 : decode cX12_change 15 = .ok (.ireturn, 1) := by decide +kernel
theorem dX12_change_16 : decode cX12_change 16 = .ok (.iload_n 2, 1) := by decide +kernel
theorem dX12_change_17 : decode cX12_change 17 = .ok (.ifCond .ne 12, 3) := by decide +kernel
theorem dX12_change_20 : decode cX12_change 20 = .ok (.aload_n 0, 1) := by decide +kernel
theorem dX12_change_21 : decode cX12_change 21 = .ok (.getfield 93, 3) := by decide +kernel
theorem dX12_change_24 : decode cX12_change 24 = .ok (.iload_n 1, 1) := by decide +kernel
theorem dX12_change_25 : decode cX12_change 25 = .ok (.iaload, 1) := by decide +kernel
theorem dX12_change_26 : decode cX12_change 26 = .ok (.goto 32, 3) := by decide +kernel
theorem dX12_change_29 : decode cX12_change 29 = .ok (.iload_n 2, 1) := by decide +kernel
theorem dX12_change_30 : decode cX12_change 30 = .ok (.iconst 1, 1) := by decide +kernel
theorem dX12_change_31 : decode cX12_change 31 = .ok (.if_icmp .ne 12, 3) := by decide +kernel
theorem dX12_change_34 : decode cX12_change 34 = .ok (.aload_n 0, 1) := by decide +kernel
theorem dX12_change_35 : decode cX12_change 35 = .ok (.getfield 96, 3) := by decide +kernel
theorem dX12_change_38 : decode cX12_change 38 = .ok (.iload_n 1, 1) := by decide +kernel
theorem dX12_change_39 : decode cX12_change 39 = .ok (.iaload, 1) := by decide +kernel
theorem dX12_change_40 : decode cX12_change 40 = .ok (.goto 18, 3) := by decide +kernel
theorem dX12_change_43 : decode cX12_change 43 = .ok (.iload_n 2, 1) := by decide +kernel
theorem dX12_change_44 : decode cX12_change 44 = .ok (.iconst 2, 1) := by decide +kernel
theorem dX12_change_45 : decode cX12_change 45 = .ok (.if_icmp .ne 12, 3) := by decide +kernel
theorem dX12_change_48 : decode cX12_change 48 = .ok (.aload_n 0, 1) := by decide +kernel
theorem dX12_change_49 : decode cX12_change 49 = .ok (.getfield 99, 3) := by decide +kernel
theorem dX12_change_52 : decode cX12_change 52 = .ok (.iload_n 1, 1) := by decide +kernel
theorem dX12_change_53 : decode cX12_change 53 = .ok (.iaload, 1) := by decide +kernel
theorem dX12_change_54 : decode cX12_change 54 = .ok (.goto 4, 3) := by decide +kernel
theorem dX12_change_57 : decode cX12_change 57 = .ok (.iconst (-1), 1) := by decide +kernel
theorem dX12_change_58 : decode cX12_change 58 = .ok (.ireturn, 1) := by decide +kernel
theorem dX12_test_0 : decode cX12_test 0 = .ok (.iload_n 1, 1) := by decide +kernel
theorem dX12_test_1 : decode cX12_test 1 = .ok (.iconst 0, 1) := by decide +kernel
theorem dX12_test_2 : decode cX12_test 2 = .ok (.aload_n 0, 1) := by decide +kernel
theorem dX12_test_3 : decode cX12_test 3 = .ok (.getfield 239, 3) := by decide +kernel
theorem dX12_test_6 : decode cX12_test 6 = .ok (.iconst 1, 1) := by decide +kernel
theorem dX12_test_7 : decode cX12_test 7 = .ok (.isub, 1) := by decide +kernel
theorem dX12_test_8 : decode cX12_test 8 = .ok (.invokestatic 212, 3) := by decide +kernel
theorem dX12_test_11 : decode cX12_test 11 = .ok (.ifCond .eq 12, 3) := by decide +kernel
theorem dX12_test_14 : decode cX12_test 14 = .ok (.aload_n 0, 1) := by decide +kernel
theorem dX12_test_15 : decode cX12_test 15 = .ok (.getfield 102, 3) := by decide +kernel
theorem dX12_test_18 : decode cX12_test 18 = .ok (.iload_n 1, 1) := by decide +kernel
theorem dX12_test_19 : decode cX12_test 19 = .ok (.iaload, 1) := by decide +kernel
theorem dX12_test_20 : decode cX12_test 20 = .ok (.goto 4, 3) := by decide +kernel
theorem dX12_test_23 : decode cX12_test 23 = .ok (.iconst (-1), 1) := by decide +kernel
theorem dX12_test_24 : decode cX12_test 24 = .ok (.ireturn, 1) := by decide +kernel
theorem dX12_idle_0 : decode cX12_idle 0 = .ok (.iload_n 1, 1) := by decide +kernel
theorem dX12_idle_1 : decode cX12_idle 1 = .ok (.invokestatic 249, 3) := by decide +kernel
theorem dX12_idle_4 : decode cX12_idle 4 = .ok (.ifCond .ne 5, 3) := by decide +kernel
theorem dX12_idle_7 : decode cX12_idle 7 = .ok (.iconst (-1), 1) := by decide +kernel
theorem dX12_idle_8 : decode cX12_idle 8 = .ok (.ireturn, 1) := by decide +kernel
theorem dX12_idle_9 : decode cX12_idle 9 = .ok (.iconst 0, 1) := by decide +kernel
theorem dX12_idle_10 : decode cX12_idle 10 = .ok (.istore_n 2, 1) := by decide +kernel
theorem dX12_idle_11 : decode cX12_idle 11 = .ok (.aload_n 0, 1) := by decide +kernel
theorem dX12_idle_12 : decode cX12_idle 12 = .ok (.invokevirtual 208, 3) := by decide +kernel
theorem dX12_idle_15 : decode cX12_idle 15 = .ok (.istore_n 3, 1) := by decide +kernel
theorem dX12_idle_16 : decode cX12_idle 16 = .ok (.iload_n 3, 1) := by decide +kernel
theorem dX12_idle_17 : decode cX12_idle 17 = .ok (.aload_n 0, 1) := by decide +kernel
theorem dX12_idle_18 : decode cX12_idle 18 = .ok (.iload_n 1, 1) := by decide +kernel
theorem dX12_idle_19 : decode cX12_idle 19 = .ok (.invokevirtual 216, 3) := by decide +kernel
theorem dX12_idle_22 : decode cX12_idle 22 = .ok (.if_icmp .ge 71, 3) := by decide +kernel
theorem dX12_idle_25 : decode cX12_idle 25 = .ok (.iconst 1, 1) := by decide +kernel
theorem dX12_idle_26 : decode cX12_idle 26 = .ok (.istore 4, 2) := by decide +kernel
theorem dX12_idle_28 : decode cX12_idle 28 = .ok (.iconst 0, 1) := by decide +kernel
theorem dX12_idle_29 : decode cX12_idle 29 = .ok (.istore 5, 2) := by decide +kernel
theorem dX12_idle_31 : decode cX12_idle 31 = .ok (.iload 5, 2) := by decide +kernel
theorem dX12_idle_33 : decode cX12_idle 33 = .ok (.aload_n 0, 1) := by decide +kernel
theorem dX12_idle_34 : decode cX12_idle 34 = .ok (.invokevirtual 316, 3) := by decide +kernel
theorem dX12_idle_37 : decode cX12_idle 37 = .ok (.if_icmp .ge 37, 3) := by decide +kernel
theorem dX12_idle_40 : decode cX12_idle 40 = .ok (.iload 4, 2) := by decide +kernel
theorem dX12_idle_42 : decode cX12_idle 42 = .ok (.ifCond .eq 23, 3) := by decide +kernel
theorem dX12_idle_45 : decode cX12_idle 45 = .ok (.aload_n 0, 1) := by decide +kernel
theorem dX12_idle_46 : decode cX12_idle 46 = .ok (.iload_n 1, 1) := by decide +kernel
theorem dX12_idle_47 : decode cX12_idle 47 = .ok (.aload_n 0, 1) := by decide +kernel
theorem dX12_idle_48 : decode cX12_idle 48 = .ok (.iload_n 1, 1) := by decide +kernel
theorem dX12_idle_49 : decode cX12_idle 49 = .ok (.iload 5, 2) := by decide +kernel
theorem dX12_idle_51 : decode cX12_idle 51 = .ok (.invokevirtual 319, 3) := by decide +kernel
theorem dX12_idle_54 : decode cX12_idle 54 = .ok (.iload_n 3, 1) := by decide +kernel
theorem dX12_idle_55 : decode cX12_idle 55 = .ok (.invokevirtual 271, 3) := by decide +kernel
theorem dX12_idle_58 : decode cX12_idle 58 = .ok (.ifCond .ne 7, 3) := by decide +kernel
theorem dX12_idle_61 : decode cX12_idle 61 = .ok (.iconst 1, 1) := by decide +kernel
theorem dX12_idle_62 : decode cX12_idle 62 = .ok (.goto 4, 3) := by decide +kernel
theorem dX12_idle_65 : decode cX12_idle 65 = .ok (.iconst 0, 1) := by decide +kernel
theorem dX12_idle_66 : decode cX12_idle 66 = .ok (.istore 4, 2) := by decide +kernel
theorem dX12_idle_68 : decode cX12_idle 68 = .ok (.iinc 5 1, 3) := by decide +kernel
theorem dX12_idle_71 : decode cX12_idle 71 = .ok (.goto (-40), 3) := by decide +kernel
theorem dX12_idle_74 : decode cX12_idle 74 = .ok (.iload_n 2, 1) := by decide +kernel
theorem dX12_idle_75 : decode cX12_idle 75 = .ok (.iload 4, 2) := by decide +kernel
theorem dX12_idle_77 : decode cX12_idle 77 = .ok (.ifCond .eq 7, 3) := by decide +kernel
theorem dX12_idle_80 : decode cX12_idle 80 = .ok (.iconst 1, 1) := by decide +kernel
theorem dX12_idle_81 : decode cX12_idle 81 = .ok (.goto 4, 3) := by decide +kernel
theorem dX12_idle_84 : decode cX12_idle 84 = .ok (.iconst 0, 1) := by decide +kernel
theorem dX12_idle_85 : decode cX12_idle 85 = .ok (.iadd, 1) := by decide +kernel
theorem dX12_idle_86 : decode cX12_idle 86 = .ok (.istore_n 2, 1) := by decide +kernel
theorem dX12_idle_87 : decode cX12_idle 87 = .ok (.iinc 3 1, 3) := by decide +kernel
theorem dX12_idle_90 : decode cX12_idle 90 = .ok (.goto (-74), 3) := by decide +kernel
theorem dX12_idle_93 : decode cX12_idle 93 = .ok (.iload_n 2, 1) := by decide +kernel
theorem dX12_idle_94 : decode cX12_idle 94 = .ok (.ireturn, 1) := by decide +kernel
theorem dX12_tape_0 : decode cX12_tape 0 = .ok (.iload_n 1, 1) := by decide +kernel
theorem dX12_tape_1 : decode cX12_tape 1 = .ok (.invokestatic 353, 3) := by decide +kernel
theorem dX12_tape_4 : decode cX12_tape 4 = .ok (.ifCond .eq 19, 3) := by decide +kernel
theorem dX12_tape_7 : decode cX12_tape 7 = .ok (.iload_n 2, 1) := by decide +kernel
theorem dX12_tape_8 : decode cX12_tape 8 = .ok (.iconst 1, 1) := by decide +kernel
theorem dX12_tape_9 : decode cX12_tape 9 = .ok (.iconst 4, 1) := by decide +kernel
theorem dX12_tape_10 : decode cX12_tape 10 = .ok (.invokestatic 212, 3) := by decide +kernel
theorem dX12_tape_13 : decode cX12_tape 13 = .ok (.ifCond .eq 10, 3) := by decide +kernel
theorem dX12_tape_16 : decode cX12_tape 16 = .ok (.iload_n 3, 1) := by decide +kernel
theorem dX12_tape_17 : decode cX12_tape 17 = .ok (.sipush 256, 3) := by decide +kernel
theorem dX12_tape_20 : decode cX12_tape 20 = .ok (.if_icmp .le 5, 3) := by decide +kernel
theorem dX12_tape_23 : decode cX12_tape 23 = .ok (.iconst (-1), 1) := by decide +kernel
theorem dX12_tape_24 : decode cX12_tape 24 = .ok (.ireturn, 1) := by decide +kernel
theorem dX12_tape_25 : decode cX12_tape 25 = .ok (.iload_n 3, 1) := by decide +kernel
theorem dX12_tape_26 : decode cX12_tape 26 = .ok (.ifCond .ge 10, 3) := by decide +kernel
theorem dX12_tape_29 : decode cX12_tape 29 = .ok (.aload_n 0, 1) := by decide +kernel
theorem dX12_tape_30 : decode cX12_tape 30 = .ok (.bipush (-14), 2) := by decide +kernel
theorem dX12_tape_32 : decode cX12_tape 32 = .ok (.invokevirtual 356, 3) := by decide +kernel
theorem dX12_tape_35 : decode cX12_tape 35 = .ok (.ireturn, 1) := by decide +kernel
theorem dX12_tape_36 : decode cX12_tape 36 = .ok (.aload_n 0, 1) := by decide +kernel
theorem dX12_tape_37 : decode cX12_tape 37 = .ok (.getfield 105, 3) := by decide +kernel
theorem dX12_tape_40 : decode cX12_tape 40 = .ok (.iload_n 1, 1) := by decide +kernel
theorem dX12_tape_41 : decode cX12_tape 41 = .ok (.iload_n 2, 1) := by decide +kernel
theorem dX12_tape_42 : decode cX12_tape 42 = .ok (.iastore, 1) := by decide +kernel
theorem dX12_tape_43 : decode cX12_tape 43 = .ok (.aload_n 0, 1) := by decide +kernel
theorem dX12_tape_44 : decode cX12_tape 44 = .ok (.getfield 108, 3) := by decide +kernel
theorem dX12_tape_47 : decode cX12_tape 47 = .ok (.iload_n 1, 1) := by decide +kernel
theorem dX12_tape_48 : decode cX12_tape 48 = .ok (.iload_n 3, 1) := by decide +kernel
theorem dX12_tape_49 : decode cX12_tape 49 = .ok (.iastore, 1) := by decide +kernel
theorem dX12_tape_50 : decode cX12_tape 50 = .ok (.iconst 0, 1) := by decide +kernel
theorem dX12_tape_51 : decode cX12_tape 51 = .ok (.istore 4, 2) := by decide +kernel
theorem dX12_tape_53 : decode cX12_tape 53 = .ok (.iload 4, 2) := by decide +kernel
theorem dX12_tape_55 : decode cX12_tape 55 = .ok (.sipush 256, 3) := by decide +kernel
theorem dX12_tape_58 : decode cX12_tape 58 = .ok (.if_icmp .ge 23, 3) := by decide +kernel
theorem dX12_tape_61 : decode cX12_tape 61 = .ok (.aload_n 0, 1) := by decide +kernel
theorem dX12_tape_62 : decode cX12_tape 62 = .ok (.getfield 111, 3) := by decide +kernel
theorem dX12_tape_65 : decode cX12_tape 65 = .ok (.sipush 256, 3) := by decide +kernel
theorem dX12_tape_68 : decode cX12_tape 68 = .ok (.iload_n 1, 1) := by decide +kernel
theorem dX12_tape_69 : decode cX12_tape 69 = .ok (.imul, 1) := by decide +kernel
theorem dX12_tape_70 : decode cX12_tape 70 = .ok (.iload 4, 2) := by decide +kernel
theorem dX12_tape_72 : decode cX12_tape 72 = .ok (.iadd, 1) := by decide +kernel
theorem dX12_tape_73 : decode cX12_tape 73 = .ok (.lconst 0, 1) := by decide +kernel
theorem dX12_tape_74 : decode cX12_tape 74 = .ok (.lastore, 1) := by decide +kernel
theorem dX12_tape_75 : decode cX12_tape 75 = .ok (.iinc 4 1, 3) := by decide +kernel
theorem dX12_tape_78 : decode cX12_tape 78 = .ok (.goto (-25), 3) := by decide +kernel
theorem dX12_tape_81 : decode cX12_tape 81 = .ok (.iload_n 3, 1) := by decide +kernel
theorem dX12_tape_82 : decode cX12_tape 82 = .ok (.ireturn, 1) := by decide +kernel
theorem dX12_image_0 : decode cX12_image 0 = .ok (.iload_n 1, 1) := by decide +kernel
theorem dX12_image_1 : decode cX12_image 1 = .ok (.invokestatic 353, 3) := by decide +kernel
theorem dX12_image_4 : decode cX12_image 4 = .ok (.ifCond .ne 5, 3) := by decide +kernel
theorem dX12_image_7 : decode cX12_image 7 = .ok (.iconst (-1), 1) := by decide +kernel
theorem dX12_image_8 : decode cX12_image 8 = .ok (.ireturn, 1) := by decide +kernel
theorem dX12_image_9 : decode cX12_image 9 = .ok (.aload_n 0, 1) := by decide +kernel
theorem dX12_image_10 : decode cX12_image 10 = .ok (.getfield 105, 3) := by decide +kernel
theorem dX12_image_13 : decode cX12_image 13 = .ok (.iload_n 1, 1) := by decide +kernel
theorem dX12_image_14 : decode cX12_image 14 = .ok (.iconst 5, 1) := by decide +kernel
theorem dX12_image_15 : decode cX12_image 15 = .ok (.iastore, 1) := by decide +kernel
theorem dX12_image_16 : decode cX12_image 16 = .ok (.aload_n 0, 1) := by decide +kernel
theorem dX12_image_17 : decode cX12_image 17 = .ok (.getfield 108, 3) := by decide +kernel
theorem dX12_image_20 : decode cX12_image 20 = .ok (.iload_n 1, 1) := by decide +kernel
theorem dX12_image_21 : decode cX12_image 21 = .ok (.iconst 0, 1) := by decide +kernel
theorem dX12_image_22 : decode cX12_image 22 = .ok (.iastore, 1) := by decide +kernel
theorem dX12_image_23 : decode cX12_image 23 = .ok (.aload_n 0, 1) := by decide +kernel
theorem dX12_image_24 : decode cX12_image 24 = .ok (.iload_n 1, 1) := by decide +kernel
theorem dX12_image_25 : decode cX12_image 25 = .ok (.invokevirtual 470, 3) := by decide +kernel
theorem dX12_image_28 : decode cX12_image 28 = .ok (.aload_n 0, 1) := by decide +kernel
theorem dX12_image_29 : decode cX12_image 29 = .ok (.getfield 16, 3) := by decide +kernel
theorem dX12_image_32 : decode cX12_image 32 = .ok (.iconst 0, 1) := by decide +kernel
theorem dX12_image_33 : decode cX12_image 33 = .ok (.iaload, 1) := by decide +kernel
theorem dX12_image_34 : decode cX12_image 34 = .ok (.ireturn, 1) := by decide +kernel
theorem dX12_back_0 : decode cX12_back 0 = .ok (.iload_n 1, 1) := by decide +kernel
theorem dX12_back_1 : decode cX12_back 1 = .ok (.invokestatic 353, 3) := by decide +kernel
theorem dX12_back_4 : decode cX12_back 4 = .ok (.ifCond .ne 5, 3) := by decide +kernel
theorem dX12_back_7 : decode cX12_back 7 = .ok (.iconst (-1), 1) := by decide +kernel
theorem dX12_back_8 : decode cX12_back 8 = .ok (.ireturn, 1) := by decide +kernel
theorem dX12_back_9 : decode cX12_back 9 = .ok (.aload_n 0, 1) := by decide +kernel
theorem dX12_back_10 : decode cX12_back 10 = .ok (.getfield 105, 3) := by decide +kernel
theorem dX12_back_13 : decode cX12_back 13 = .ok (.iload_n 1, 1) := by decide +kernel
theorem dX12_back_14 : decode cX12_back 14 = .ok (.iaload, 1) := by decide +kernel
theorem dX12_back_15 : decode cX12_back 15 = .ok (.ifCond .ne 10, 3) := by decide +kernel
theorem dX12_back_18 : decode cX12_back 18 = .ok (.aload_n 0, 1) := by decide +kernel
theorem dX12_back_19 : decode cX12_back 19 = .ok (.bipush (-11), 2) := by decide +kernel
theorem dX12_back_21 : decode cX12_back 21 = .ok (.invokevirtual 356, 3) := by decide +kernel
theorem dX12_back_24 : decode cX12_back 24 = .ok (.ireturn, 1) := by decide +kernel
theorem dX12_back_25 : decode cX12_back 25 = .ok (.aload_n 0, 1) := by decide +kernel
theorem dX12_back_26 : decode cX12_back 26 = .ok (.getfield 105, 3) := by decide +kernel
theorem dX12_back_29 : decode cX12_back 29 = .ok (.iload_n 1, 1) := by decide +kernel
theorem dX12_back_30 : decode cX12_back 30 = .ok (.iaload, 1) := by decide +kernel
theorem dX12_back_31 : decode cX12_back 31 = .ok (.iconst 5, 1) := by decide +kernel
theorem dX12_back_32 : decode cX12_back 32 = .ok (.if_icmp .eq 10, 3) := by decide +kernel
theorem dX12_back_35 : decode cX12_back 35 = .ok (.aload_n 0, 1) := by decide +kernel
theorem dX12_back_36 : decode cX12_back 36 = .ok (.bipush (-12), 2) := by decide +kernel
theorem dX12_back_38 : decode cX12_back 38 = .ok (.invokevirtual 356, 3) := by decide +kernel
theorem dX12_back_41 : decode cX12_back 41 = .ok (.ireturn, 1) := by decide +kernel
theorem dX12_back_42 : decode cX12_back 42 = .ok (.aload_n 0, 1) := by decide +kernel
theorem dX12_back_43 : decode cX12_back 43 = .ok (.getfield 115, 3) := by decide +kernel
theorem dX12_back_46 : decode cX12_back 46 = .ok (.iload_n 1, 1) := by decide +kernel
theorem dX12_back_47 : decode cX12_back 47 = .ok (.iaload, 1) := by decide +kernel
theorem dX12_back_48 : decode cX12_back 48 = .ok (.aload_n 0, 1) := by decide +kernel
theorem dX12_back_49 : decode cX12_back 49 = .ok (.getfield 7, 3) := by decide +kernel
theorem dX12_back_52 : decode cX12_back 52 = .ok (.if_icmp .ne 29, 3) := by decide +kernel
theorem dX12_back_55 : decode cX12_back 55 = .ok (.aload_n 0, 1) := by decide +kernel
theorem dX12_back_56 : decode cX12_back 56 = .ok (.getfield 118, 3) := by decide +kernel
theorem dX12_back_59 : decode cX12_back 59 = .ok (.iload_n 1, 1) := by decide +kernel
theorem dX12_back_60 : decode cX12_back 60 = .ok (.iaload, 1) := by decide +kernel
theorem dX12_back_61 : decode cX12_back 61 = .ok (.aload_n 0, 1) := by decide +kernel
theorem dX12_back_62 : decode cX12_back 62 = .ok (.getfield 205, 3) := by decide +kernel
theorem dX12_back_65 : decode cX12_back 65 = .ok (.if_icmp .ne 16, 3) := by decide +kernel
theorem dX12_back_68 : decode cX12_back 68 = .ok (.aload_n 0, 1) := by decide +kernel
theorem dX12_back_69 : decode cX12_back 69 = .ok (.getfield 121, 3) := by decide +kernel
theorem dX12_back_72 : decode cX12_back 72 = .ok (.iload_n 1, 1) := by decide +kernel
theorem dX12_back_73 : decode cX12_back 73 = .ok (.iaload, 1) := by decide +kernel
theorem dX12_back_74 : decode cX12_back 74 = .ok (.aload_n 0, 1) := by decide +kernel
theorem dX12_back_75 : decode cX12_back 75 = .ok (.getfield 13, 3) := by decide +kernel
theorem dX12_back_78 : decode cX12_back 78 = .ok (.if_icmp .eq 6, 3) := by decide +kernel
theorem dX12_back_81 : decode cX12_back 81 = .ok (.bipush (-4), 2) := by decide +kernel
theorem dX12_back_83 : decode cX12_back 83 = .ok (.ireturn, 1) := by decide +kernel
theorem dX12_back_84 : decode cX12_back 84 = .ok (.aload_n 0, 1) := by decide +kernel
theorem dX12_back_85 : decode cX12_back 85 = .ok (.iload_n 1, 1) := by decide +kernel
theorem dX12_back_86 : decode cX12_back 86 = .ok (.invokevirtual 481, 3) := by decide +kernel
theorem dX12_back_89 : decode cX12_back 89 = .ok (.aload_n 0, 1) := by decide +kernel
theorem dX12_back_90 : decode cX12_back 90 = .ok (.iconst 0, 1) := by decide +kernel
theorem dX12_back_91 : decode cX12_back 91 = .ok (.putfield 233, 3) := by decide +kernel
theorem dX12_back_94 : decode cX12_back 94 = .ok (.aload_n 0, 1) := by decide +kernel
theorem dX12_back_95 : decode cX12_back 95 = .ok (.getfield 16, 3) := by decide +kernel
theorem dX12_back_98 : decode cX12_back 98 = .ok (.iconst 0, 1) := by decide +kernel
theorem dX12_back_99 : decode cX12_back 99 = .ok (.iaload, 1) := by decide +kernel
theorem dX12_back_100 : decode cX12_back 100 = .ok (.ireturn, 1) := by decide +kernel
theorem dX12_toss_0 : decode cX12_toss 0 = .ok (.iload_n 1, 1) := by decide +kernel
theorem dX12_toss_1 : decode cX12_toss 1 = .ok (.invokestatic 353, 3) := by decide +kernel
theorem dX12_toss_4 : decode cX12_toss 4 = .ok (.ifCond .ne 5, 3) := by decide +kernel
theorem dX12_toss_7 : decode cX12_toss 7 = .ok (.iconst (-1), 1) := by decide +kernel
theorem dX12_toss_8 : decode cX12_toss 8 = .ok (.ireturn, 1) := by decide +kernel
theorem dX12_toss_9 : decode cX12_toss 9 = .ok (.aload_n 0, 1) := by decide +kernel
theorem dX12_toss_10 : decode cX12_toss 10 = .ok (.getfield 105, 3) := by decide +kernel
theorem dX12_toss_13 : decode cX12_toss 13 = .ok (.iload_n 1, 1) := by decide +kernel
theorem dX12_toss_14 : decode cX12_toss 14 = .ok (.iaload, 1) := by decide +kernel
theorem dX12_toss_15 : decode cX12_toss 15 = .ok (.ifCond .ne 10, 3) := by decide +kernel
theorem dX12_toss_18 : decode cX12_toss 18 = .ok (.aload_n 0, 1) := by decide +kernel
theorem dX12_toss_19 : decode cX12_toss 19 = .ok (.bipush (-11), 2) := by decide +kernel
theorem dX12_toss_21 : decode cX12_toss 21 = .ok (.invokevirtual 356, 3) := by decide +kernel
theorem dX12_toss_24 : decode cX12_toss 24 = .ok (.ireturn, 1) := by decide +kernel
theorem dX12_toss_25 : decode cX12_toss 25 = .ok (.aload_n 0, 1) := by decide +kernel
theorem dX12_toss_26 : decode cX12_toss 26 = .ok (.getfield 105, 3) := by decide +kernel
theorem dX12_toss_29 : decode cX12_toss 29 = .ok (.iload_n 1, 1) := by decide +kernel
theorem dX12_toss_30 : decode cX12_toss 30 = .ok (.iaload, 1) := by decide +kernel
theorem dX12_toss_31 : decode cX12_toss 31 = .ok (.iconst 5, 1) := by decide +kernel
theorem dX12_toss_32 : decode cX12_toss 32 = .ok (.if_icmp .eq 10, 3) := by decide +kernel
theorem dX12_toss_35 : decode cX12_toss 35 = .ok (.aload_n 0, 1) := by decide +kernel
theorem dX12_toss_36 : decode cX12_toss 36 = .ok (.bipush (-12), 2) := by decide +kernel
theorem dX12_toss_38 : decode cX12_toss 38 = .ok (.invokevirtual 356, 3) := by decide +kernel
theorem dX12_toss_41 : decode cX12_toss 41 = .ok (.ireturn, 1) := by decide +kernel
theorem dX12_toss_42 : decode cX12_toss 42 = .ok (.aload_n 0, 1) := by decide +kernel
theorem dX12_toss_43 : decode cX12_toss 43 = .ok (.getfield 124, 3) := by decide +kernel
theorem dX12_toss_46 : decode cX12_toss 46 = .ok (.iload_n 1, 1) := by decide +kernel
theorem dX12_toss_47 : decode cX12_toss 47 = .ok (.iaload, 1) := by decide +kernel
theorem dX12_toss_48 : decode cX12_toss 48 = .ok (.ifCond .ne 12, 3) := by decide +kernel
theorem dX12_toss_51 : decode cX12_toss 51 = .ok (.aload_n 0, 1) := by decide +kernel
theorem dX12_toss_52 : decode cX12_toss 52 = .ok (.bipush (-15), 2) := by decide +kernel
theorem dX12_toss_54 : decode cX12_toss 54 = .ok (.invokevirtual 356, 3) := by decide +kernel
theorem dX12_toss_57 : decode cX12_toss 57 = .ok (.goto 9, 3) := by decide +kernel
theorem dX12_toss_60 : decode cX12_toss 60 = .ok (.aload_n 0, 1) := by decide +kernel
theorem dX12_toss_61 : decode cX12_toss 61 = .ok (.getfield 124, 3) := by decide +kernel
theorem dX12_toss_64 : decode cX12_toss 64 = .ok (.iload_n 1, 1) := by decide +kernel
theorem dX12_toss_65 : decode cX12_toss 65 = .ok (.iaload, 1) := by decide +kernel
theorem dX12_toss_66 : decode cX12_toss 66 = .ok (.ireturn, 1) := by decide +kernel
theorem dX12_clear_0 : decode cX12_clear 0 = .ok (.iload_n 1, 1) := by decide +kernel
theorem dX12_clear_1 : decode cX12_clear 1 = .ok (.invokestatic 353, 3) := by decide +kernel
theorem dX12_clear_4 : decode cX12_clear 4 = .ok (.ifCond .ne 5, 3) := by decide +kernel
theorem dX12_clear_7 : decode cX12_clear 7 = .ok (.iconst (-1), 1) := by decide +kernel
theorem dX12_clear_8 : decode cX12_clear 8 = .ok (.ireturn, 1) := by decide +kernel
theorem dX12_clear_9 : decode cX12_clear 9 = .ok (.aload_n 0, 1) := by decide +kernel
theorem dX12_clear_10 : decode cX12_clear 10 = .ok (.getfield 105, 3) := by decide +kernel
theorem dX12_clear_13 : decode cX12_clear 13 = .ok (.iload_n 1, 1) := by decide +kernel
theorem dX12_clear_14 : decode cX12_clear 14 = .ok (.iaload, 1) := by decide +kernel
theorem dX12_clear_15 : decode cX12_clear 15 = .ok (.istore_n 2, 1) := by decide +kernel
theorem dX12_clear_16 : decode cX12_clear 16 = .ok (.aload_n 0, 1) := by decide +kernel
theorem dX12_clear_17 : decode cX12_clear 17 = .ok (.getfield 105, 3) := by decide +kernel
theorem dX12_clear_20 : decode cX12_clear 20 = .ok (.iload_n 1, 1) := by decide +kernel
theorem dX12_clear_21 : decode cX12_clear 21 = .ok (.iconst 0, 1) := by decide +kernel
theorem dX12_clear_22 : decode cX12_clear 22 = .ok (.iastore, 1) := by decide +kernel
theorem dX12_clear_23 : decode cX12_clear 23 = .ok (.iload_n 2, 1) := by decide +kernel
theorem dX12_clear_24 : decode cX12_clear 24 = .ok (.ireturn, 1) := by decide +kernel
theorem dX12_narrowed_0 : decode cX12_narrowed 0 = .ok (.iload_n 0, 1) := by decide +kernel
theorem dX12_narrowed_1 : decode cX12_narrowed 1 = .ok (.iconst 1, 1) := by decide +kernel
theorem dX12_narrowed_2 : decode cX12_narrowed 2 = .ok (.if_icmp .ne 10, 3) := by decide +kernel
theorem dX12_narrowed_5 : decode cX12_narrowed 5 = .ok (.lload_n 1, 1) := by decide +kernel
theorem dX12_narrowed_6 : decode cX12_narrowed 6 = .ok (.l2i, 1) := by decide +kernel
theorem dX12_narrowed_7 : decode cX12_narrowed 7 = .ok (.i2b, 1) := by decide +kernel
theorem dX12_narrowed_8 : decode cX12_narrowed 8 = .ok (.i2l, 1) := by decide +kernel
theorem dX12_narrowed_9 : decode cX12_narrowed 9 = .ok (.goto 27, 3) := by decide +kernel
theorem dX12_narrowed_12 : decode cX12_narrowed 12 = .ok (.iload_n 0, 1) := by decide +kernel
theorem dX12_narrowed_13 : decode cX12_narrowed 13 = .ok (.iconst 2, 1) := by decide +kernel
theorem dX12_narrowed_14 : decode cX12_narrowed 14 = .ok (.if_icmp .ne 10, 3) := by decide +kernel
theorem dX12_narrowed_17 : decode cX12_narrowed 17 = .ok (.lload_n 1, 1) := by decide +kernel
theorem dX12_narrowed_18 : decode cX12_narrowed 18 = .ok (.l2i, 1) := by decide +kernel
theorem dX12_narrowed_19 : decode cX12_narrowed 19 = .ok (.i2s, 1) := by decide +kernel
theorem dX12_narrowed_20 : decode cX12_narrowed 20 = .ok (.i2l, 1) := by decide +kernel
theorem dX12_narrowed_21 : decode cX12_narrowed 21 = .ok (.goto 15, 3) := by decide +kernel
theorem dX12_narrowed_24 : decode cX12_narrowed 24 = .ok (.iload_n 0, 1) := by decide +kernel
theorem dX12_narrowed_25 : decode cX12_narrowed 25 = .ok (.iconst 3, 1) := by decide +kernel
theorem dX12_narrowed_26 : decode cX12_narrowed 26 = .ok (.if_icmp .ne 9, 3) := by decide +kernel
theorem dX12_narrowed_29 : decode cX12_narrowed 29 = .ok (.lload_n 1, 1) := by decide +kernel
theorem dX12_narrowed_30 : decode cX12_narrowed 30 = .ok (.l2i, 1) := by decide +kernel
theorem dX12_narrowed_31 : decode cX12_narrowed 31 = .ok (.i2l, 1) := by decide +kernel
theorem dX12_narrowed_32 : decode cX12_narrowed 32 = .ok (.goto 4, 3) := by decide +kernel
theorem dX12_narrowed_35 : decode cX12_narrowed 35 = .ok (.lload_n 1, 1) := by decide +kernel
theorem dX12_narrowed_36 : decode cX12_narrowed 36 = .ok (.lreturn, 1) := by decide +kernel
theorem dX12_put_0 : decode cX12_put 0 = .ok (.iload_n 1, 1) := by decide +kernel
theorem dX12_put_1 : decode cX12_put 1 = .ok (.invokestatic 353, 3) := by decide +kernel
theorem dX12_put_4 : decode cX12_put 4 = .ok (.ifCond .ne 5, 3) := by decide +kernel
theorem dX12_put_7 : decode cX12_put 7 = .ok (.iconst (-1), 1) := by decide +kernel
theorem dX12_put_8 : decode cX12_put 8 = .ok (.ireturn, 1) := by decide +kernel
theorem dX12_put_9 : decode cX12_put 9 = .ok (.aload_n 0, 1) := by decide +kernel
theorem dX12_put_10 : decode cX12_put 10 = .ok (.getfield 105, 3) := by decide +kernel
theorem dX12_put_13 : decode cX12_put 13 = .ok (.iload_n 1, 1) := by decide +kernel
theorem dX12_put_14 : decode cX12_put 14 = .ok (.iaload, 1) := by decide +kernel
theorem dX12_put_15 : decode cX12_put 15 = .ok (.ifCond .ne 10, 3) := by decide +kernel
theorem dX12_put_18 : decode cX12_put 18 = .ok (.aload_n 0, 1) := by decide +kernel
theorem dX12_put_19 : decode cX12_put 19 = .ok (.bipush (-11), 2) := by decide +kernel
theorem dX12_put_21 : decode cX12_put 21 = .ok (.invokevirtual 356, 3) := by decide +kernel
theorem dX12_put_24 : decode cX12_put 24 = .ok (.ireturn, 1) := by decide +kernel
theorem dX12_put_25 : decode cX12_put 25 = .ok (.aload_n 0, 1) := by decide +kernel
theorem dX12_put_26 : decode cX12_put 26 = .ok (.getfield 105, 3) := by decide +kernel
theorem dX12_put_29 : decode cX12_put 29 = .ok (.iload_n 1, 1) := by decide +kernel
theorem dX12_put_30 : decode cX12_put 30 = .ok (.iaload, 1) := by decide +kernel
theorem dX12_put_31 : decode cX12_put 31 = .ok (.iconst 5, 1) := by decide +kernel
theorem dX12_put_32 : decode cX12_put 32 = .ok (.if_icmp .ne 10, 3) := by decide +kernel
theorem dX12_put_35 : decode cX12_put 35 = .ok (.aload_n 0, 1) := by decide +kernel
theorem dX12_put_36 : decode cX12_put 36 = .ok (.bipush (-12), 2) := by decide +kernel
theorem dX12_put_38 : decode cX12_put 38 = .ok (.invokevirtual 356, 3) := by decide +kernel
theorem dX12_put_41 : decode cX12_put 41 = .ok (.ireturn, 1) := by decide +kernel
theorem dX12_put_42 : decode cX12_put 42 = .ok (.iload_n 2, 1) := by decide +kernel
theorem dX12_put_43 : decode cX12_put 43 = .ok (.iconst 0, 1) := by decide +kernel
theorem dX12_put_44 : decode cX12_put 44 = .ok (.aload_n 0, 1) := by decide +kernel
theorem dX12_put_45 : decode cX12_put 45 = .ok (.getfield 108, 3) := by decide +kernel
theorem dX12_put_48 : decode cX12_put 48 = .ok (.iload_n 1, 1) := by decide +kernel
theorem dX12_put_49 : decode cX12_put 49 = .ok (.iaload, 1) := by decide +kernel
theorem dX12_put_50 : decode cX12_put 50 = .ok (.iconst 1, 1) := by decide +kernel
theorem dX12_put_51 : decode cX12_put 51 = .ok (.isub, 1) := by decide +kernel
theorem dX12_put_52 : decode cX12_put 52 = .ok (.invokestatic 212, 3) := by decide +kernel
theorem dX12_put_55 : decode cX12_put 55 = .ok (.ifCond .ne 10, 3) := by decide +kernel
theorem dX12_put_58 : decode cX12_put 58 = .ok (.aload_n 0, 1) := by decide +kernel
theorem dX12_put_59 : decode cX12_put 59 = .ok (.bipush (-13), 2) := by decide +kernel
theorem dX12_put_61 : decode cX12_put 61 = .ok (.invokevirtual 356, 3) := by decide +kernel
theorem dX12_put_64 : decode cX12_put 64 = .ok (.ireturn, 1) := by decide +kernel
theorem dX12_put_65 : decode cX12_put 65 = .ok (.aload_n 0, 1) := by decide +kernel
theorem dX12_put_66 : decode cX12_put 66 = .ok (.getfield 111, 3) := by decide +kernel
theorem dX12_put_69 : decode cX12_put 69 = .ok (.sipush 256, 3) := by decide +kernel
theorem dX12_put_72 : decode cX12_put 72 = .ok (.iload_n 1, 1) := by decide +kernel
theorem dX12_put_73 : decode cX12_put 73 = .ok (.imul, 1) := by decide +kernel
theorem dX12_put_74 : decode cX12_put 74 = .ok (.iload_n 2, 1) := by decide +kernel
theorem dX12_put_75 : decode cX12_put 75 = .ok (.iadd, 1) := by decide +kernel
theorem dX12_put_76 : decode cX12_put 76 = .ok (.aload_n 0, 1) := by decide +kernel
theorem dX12_put_77 : decode cX12_put 77 = .ok (.getfield 105, 3) := by decide +kernel
theorem dX12_put_80 : decode cX12_put 80 = .ok (.iload_n 1, 1) := by decide +kernel
theorem dX12_put_81 : decode cX12_put 81 = .ok (.iaload, 1) := by decide +kernel
theorem dX12_put_82 : decode cX12_put 82 = .ok (.lload_n 3, 1) := by decide +kernel
theorem dX12_put_83 : decode cX12_put 83 = .ok (.invokestatic 484, 3) := by decide +kernel
theorem dX12_put_86 : decode cX12_put 86 = .ok (.lastore, 1) := by decide +kernel
theorem dX12_put_87 : decode cX12_put 87 = .ok (.iconst 1, 1) := by decide +kernel
theorem dX12_put_88 : decode cX12_put 88 = .ok (.ireturn, 1) := by decide +kernel
theorem dX12_at_0 : decode cX12_at 0 = .ok (.aload_n 0, 1) := by decide +kernel
theorem dX12_at_1 : decode cX12_at 1 = .ok (.iload_n 1, 1) := by decide +kernel
theorem dX12_at_2 : decode cX12_at 2 = .ok (.invokestatic 353, 3) := by decide +kernel
theorem dX12_at_5 : decode cX12_at 5 = .ok (.ifCond .ne 7, 3) := by decide +kernel
theorem dX12_at_8 : decode cX12_at 8 = .ok (.iconst 1, 1) := by decide +kernel
theorem dX12_at_9 : decode cX12_at 9 = .ok (.goto 43, 3) := by decide +kernel
theorem dX12_at_12 : decode cX12_at 12 = .ok (.aload_n 0, 1) := by decide +kernel
theorem dX12_at_13 : decode cX12_at 13 = .ok (.getfield 105, 3) := by decide +kernel
theorem dX12_at_16 : decode cX12_at 16 = .ok (.iload_n 1, 1) := by decide +kernel
theorem dX12_at_17 : decode cX12_at 17 = .ok (.iaload, 1) := by decide +kernel
theorem dX12_at_18 : decode cX12_at 18 = .ok (.ifCond .eq 29, 3) := by decide +kernel
theorem dX12_at_21 : decode cX12_at 21 = .ok (.aload_n 0, 1) := by decide +kernel
theorem dX12_at_22 : decode cX12_at 22 = .ok (.getfield 105, 3) := by decide +kernel
theorem dX12_at_25 : decode cX12_at 25 = .ok (.iload_n 1, 1) := by decide +kernel
theorem dX12_at_26 : decode cX12_at 26 = .ok (.iaload, 1) := by decide +kernel
theorem dX12_at_27 : decode cX12_at 27 = .ok (.iconst 5, 1) := by decide +kernel
theorem dX12_at_28 : decode cX12_at 28 = .ok (.if_icmp .eq 19, 3) := by decide +kernel
theorem dX12_at_31 : decode cX12_at 31 = .ok (.iload_n 2, 1) := by decide +kernel
theorem dX12_at_32 : decode cX12_at 32 = .ok (.iconst 0, 1) := by decide +kernel
theorem dX12_at_33 : decode cX12_at 33 = .ok (.aload_n 0, 1) := by decide +kernel
theorem dX12_at_34 : decode cX12_at 34 = .ok (.getfield 108, 3) := by decide +kernel
theorem dX12_at_37 : decode cX12_at 37 = .ok (.iload_n 1, 1) := by decide +kernel
theorem dX12_at_38 : decode cX12_at 38 = .ok (.iaload, 1) := by decide +kernel
theorem dX12_at_39 : decode cX12_at 39 = .ok (.iconst 1, 1) := by decide +kernel
theorem dX12_at_40 : decode cX12_at 40 = .ok (.isub, 1) := by decide +kernel
theorem dX12_at_41 : decode cX12_at 41 = .ok (.invokestatic 212, 3) := by decide +kernel
theorem dX12_at_44 : decode cX12_at 44 = .ok (.ifCond .ne 7, 3) := by decide +kernel
theorem dX12_at_47 : decode cX12_at 47 = .ok (.iconst 2, 1) := by decide +kernel
theorem dX12_at_48 : decode cX12_at 48 = .ok (.goto 4, 3) := by decide +kernel
theorem dX12_at_51 : decode cX12_at 51 = .ok (.iconst 0, 1) := by decide +kernel
theorem dX12_at_52 : decode cX12_at 52 = .ok (.putfield 202, 3) := by decide +kernel
theorem dX12_at_55 : decode cX12_at 55 = .ok (.aload_n 0, 1) := by decide +kernel
theorem dX12_at_56 : decode cX12_at 56 = .ok (.getfield 202, 3) := by decide +kernel
theorem dX12_at_59 : decode cX12_at 59 = .ok (.ifCond .ne 18, 3) := by decide +kernel
theorem dX12_at_62 : decode cX12_at 62 = .ok (.aload_n 0, 1) := by decide +kernel
theorem dX12_at_63 : decode cX12_at 63 = .ok (.getfield 111, 3) := by decide +kernel
theorem dX12_at_66 : decode cX12_at 66 = .ok (.sipush 256, 3) := by decide +kernel
theorem dX12_at_69 : decode cX12_at 69 = .ok (.iload_n 1, 1) := by decide +kernel
theorem dX12_at_70 : decode cX12_at 70 = .ok (.imul, 1) := by decide +kernel
theorem dX12_at_71 : decode cX12_at 71 = .ok (.iload_n 2, 1) := by decide +kernel
theorem dX12_at_72 : decode cX12_at 72 = .ok (.iadd, 1) := by decide +kernel
theorem dX12_at_73 : decode cX12_at 73 = .ok (.laload, 1) := by decide +kernel
theorem dX12_at_74 : decode cX12_at 74 = .ok (.goto 4, 3) := by decide +kernel
theorem dX12_at_77 : decode cX12_at 77 = .ok (.lconst 0, 1) := by decide +kernel
theorem dX12_at_78 : decode cX12_at 78 = .ok (.lreturn, 1) := by decide +kernel
theorem dX12_copy_0 : decode cX12_copy 0 = .ok (.iload_n 1, 1) := by decide +kernel
theorem dX12_copy_1 : decode cX12_copy 1 = .ok (.invokestatic 353, 3) := by decide +kernel
theorem dX12_copy_4 : decode cX12_copy 4 = .ok (.ifCond .eq 10, 3) := by decide +kernel
theorem dX12_copy_7 : decode cX12_copy 7 = .ok (.iload_n 3, 1) := by decide +kernel
theorem dX12_copy_8 : decode cX12_copy 8 = .ok (.invokestatic 353, 3) := by decide +kernel
theorem dX12_copy_11 : decode cX12_copy 11 = .ok (.ifCond .ne 5, 3) := by decide +kernel
theorem dX12_copy_14 : decode cX12_copy 14 = .ok (.iconst (-1), 1) := by decide +kernel
theorem dX12_copy_15 : decode cX12_copy 15 = .ok (.ireturn, 1) := by decide +kernel
theorem dX12_copy_16 : decode cX12_copy 16 = .ok (.aload_n 0, 1) := by decide +kernel
theorem dX12_copy_17 : decode cX12_copy 17 = .ok (.getfield 105, 3) := by decide +kernel
theorem dX12_copy_20 : decode cX12_copy 20 = .ok (.iload_n 1, 1) := by decide +kernel
theorem dX12_copy_21 : decode cX12_copy 21 = .ok (.iaload, 1) := by decide +kernel
theorem dX12_copy_22 : decode cX12_copy 22 = .ok (.ifCond .eq 12, 3) := by decide +kernel
theorem dX12_copy_25 : decode cX12_copy 25 = .ok (.aload_n 0, 1) := by decide +kernel
theorem dX12_copy_26 : decode cX12_copy 26 = .ok (.getfield 105, 3) := by decide +kernel
theorem dX12_copy_29 : decode cX12_copy 29 = .ok (.iload_n 3, 1) := by decide +kernel
theorem dX12_copy_30 : decode cX12_copy 30 = .ok (.iaload, 1) := by decide +kernel
theorem dX12_copy_31 : decode cX12_copy 31 = .ok (.ifCond .ne 10, 3) := by decide +kernel
theorem dX12_copy_34 : decode cX12_copy 34 = .ok (.aload_n 0, 1) := by decide +kernel
theorem dX12_copy_35 : decode cX12_copy 35 = .ok (.bipush (-11), 2) := by decide +kernel
theorem dX12_copy_37 : decode cX12_copy 37 = .ok (.invokevirtual 356, 3) := by decide +kernel
theorem dX12_copy_40 : decode cX12_copy 40 = .ok (.ireturn, 1) := by decide +kernel
theorem dX12_copy_41 : decode cX12_copy 41 = .ok (.aload_n 0, 1) := by decide +kernel
theorem dX12_copy_42 : decode cX12_copy 42 = .ok (.getfield 105, 3) := by decide +kernel
theorem dX12_copy_45 : decode cX12_copy 45 = .ok (.iload_n 1, 1) := by decide +kernel
theorem dX12_copy_46 : decode cX12_copy 46 = .ok (.iaload, 1) := by decide +kernel
theorem dX12_copy_47 : decode cX12_copy 47 = .ok (.iconst 5, 1) := by decide +kernel
theorem dX12_copy_48 : decode cX12_copy 48 = .ok (.if_icmp .eq 18, 3) := by decide +kernel
theorem dX12_copy_51 : decode cX12_copy 51 = .ok (.aload_n 0, 1) := by decide +kernel
theorem dX12_copy_52 : decode cX12_copy 52 = .ok (.getfield 105, 3) := by decide +kernel
theorem dX12_copy_55 : decode cX12_copy 55 = .ok (.iload_n 1, 1) := by decide +kernel
theorem dX12_copy_56 : decode cX12_copy 56 = .ok (.iaload, 1) := by decide +kernel
theorem dX12_copy_57 : decode cX12_copy 57 = .ok (.aload_n 0, 1) := by decide +kernel
theorem dX12_copy_58 : decode cX12_copy 58 = .ok (.getfield 105, 3) := by decide +kernel
theorem dX12_copy_61 : decode cX12_copy 61 = .ok (.iload_n 3, 1) := by decide +kernel
theorem dX12_copy_62 : decode cX12_copy 62 = .ok (.iaload, 1) := by decide +kernel
theorem dX12_copy_63 : decode cX12_copy 63 = .ok (.if_icmp .eq 10, 3) := by decide +kernel
theorem dX12_copy_66 : decode cX12_copy 66 = .ok (.aload_n 0, 1) := by decide +kernel
theorem dX12_copy_67 : decode cX12_copy 67 = .ok (.bipush (-12), 2) := by decide +kernel
theorem dX12_copy_69 : decode cX12_copy 69 = .ok (.invokevirtual 356, 3) := by decide +kernel
theorem dX12_copy_72 : decode cX12_copy 72 = .ok (.ireturn, 1) := by decide +kernel
theorem dX12_copy_73 : decode cX12_copy 73 = .ok (.iload 5, 2) := by decide +kernel
theorem dX12_copy_75 : decode cX12_copy 75 = .ok (.ifCond .lt 39, 3) := by decide +kernel
theorem dX12_copy_78 : decode cX12_copy 78 = .ok (.iload_n 2, 1) := by decide +kernel
theorem dX12_copy_79 : decode cX12_copy 79 = .ok (.ifCond .lt 35, 3) := by decide +kernel
theorem dX12_copy_82 : decode cX12_copy 82 = .ok (.iload 4, 2) := by decide +kernel
theorem dX12_copy_84 : decode cX12_copy 84 = .ok (.ifCond .lt 30, 3) := by decide +kernel
theorem dX12_copy_87 : decode cX12_copy 87 = .ok (.iload 5, 2) := by decide +kernel
theorem dX12_copy_89 : decode cX12_copy 89 = .ok (.aload_n 0, 1) := by decide +kernel
theorem dX12_copy_90 : decode cX12_copy 90 = .ok (.getfield 108, 3) := by decide +kernel
theorem dX12_copy_93 : decode cX12_copy 93 = .ok (.iload_n 1, 1) := by decide +kernel
theorem dX12_copy_94 : decode cX12_copy 94 = .ok (.iaload, 1) := by decide +kernel
theorem dX12_copy_95 : decode cX12_copy 95 = .ok (.iload_n 2, 1) := by decide +kernel
theorem dX12_copy_96 : decode cX12_copy 96 = .ok (.isub, 1) := by decide +kernel
theorem dX12_copy_97 : decode cX12_copy 97 = .ok (.if_icmp .gt 17, 3) := by decide +kernel
theorem dX12_copy_100 : decode cX12_copy 100 = .ok (.iload 5, 2) := by decide +kernel
theorem dX12_copy_102 : decode cX12_copy 102 = .ok (.aload_n 0, 1) := by decide +kernel
theorem dX12_copy_103 : decode cX12_copy 103 = .ok (.getfield 108, 3) := by decide +kernel
theorem dX12_copy_106 : decode cX12_copy 106 = .ok (.iload_n 3, 1) := by decide +kernel
theorem dX12_copy_107 : decode cX12_copy 107 = .ok (.iaload, 1) := by decide +kernel
theorem dX12_copy_108 : decode cX12_copy 108 = .ok (.iload 4, 2) := by decide +kernel
theorem dX12_copy_110 : decode cX12_copy 110 = .ok (.isub, 1) := by decide +kernel
theorem dX12_copy_111 : decode cX12_copy 111 = .ok (.if_icmp .le 10, 3) := by decide +kernel
theorem dX12_copy_114 : decode cX12_copy 114 = .ok (.aload_n 0, 1) := by decide +kernel
theorem dX12_copy_115 : decode cX12_copy 115 = .ok (.bipush (-13), 2) := by decide +kernel
theorem dX12_copy_117 : decode cX12_copy 117 = .ok (.invokevirtual 356, 3) := by decide +kernel
theorem dX12_copy_120 : decode cX12_copy 120 = .ok (.ireturn, 1) := by decide +kernel
theorem dX12_copy_121 : decode cX12_copy 121 = .ok (.iconst 0, 1) := by decide +kernel
theorem dX12_copy_122 : decode cX12_copy 122 = .ok (.istore 6, 2) := by decide +kernel
theorem dX12_copy_124 : decode cX12_copy 124 = .ok (.iload 6, 2) := by decide +kernel
theorem dX12_copy_126 : decode cX12_copy 126 = .ok (.iload 5, 2) := by decide +kernel
theorem dX12_copy_128 : decode cX12_copy 128 = .ok (.if_icmp .ge 31, 3) := by decide +kernel
theorem dX12_copy_131 : decode cX12_copy 131 = .ok (.aload_n 0, 1) := by decide +kernel
theorem dX12_copy_132 : decode cX12_copy 132 = .ok (.getfield 199, 3) := by decide +kernel
theorem dX12_copy_135 : decode cX12_copy 135 = .ok (.iload 6, 2) := by decide +kernel
theorem dX12_copy_137 : decode cX12_copy 137 = .ok (.aload_n 0, 1) := by decide +kernel
theorem dX12_copy_138 : decode cX12_copy 138 = .ok (.getfield 111, 3) := by decide +kernel
theorem dX12_copy_141 : decode cX12_copy 141 = .ok (.sipush 256, 3) := by decide +kernel
theorem dX12_copy_144 : decode cX12_copy 144 = .ok (.iload_n 1, 1) := by decide +kernel
theorem dX12_copy_145 : decode cX12_copy 145 = .ok (.imul, 1) := by decide +kernel
theorem dX12_copy_146 : decode cX12_copy 146 = .ok (.iload_n 2, 1) := by decide +kernel
theorem dX12_copy_147 : decode cX12_copy 147 = .ok (.iadd, 1) := by decide +kernel
theorem dX12_copy_148 : decode cX12_copy 148 = .ok (.iload 6, 2) := by decide +kernel
theorem dX12_copy_150 : decode cX12_copy 150 = .ok (.iadd, 1) := by decide +kernel
theorem dX12_copy_151 : decode cX12_copy 151 = .ok (.laload, 1) := by decide +kernel
theorem dX12_copy_152 : decode cX12_copy 152 = .ok (.lastore, 1) := by decide +kernel
theorem dX12_copy_153 : decode cX12_copy 153 = .ok (.iinc 6 1, 3) := by decide +kernel
theorem dX12_copy_156 : decode cX12_copy 156 = .ok (.goto (-32), 3) := by decide +kernel
theorem dX12_copy_159 : decode cX12_copy 159 = .ok (.iconst 0, 1) := by decide +kernel
theorem dX12_copy_160 : decode cX12_copy 160 = .ok (.istore 6, 2) := by decide +kernel
theorem dX12_copy_162 : decode cX12_copy 162 = .ok (.iload 6, 2) := by decide +kernel
theorem dX12_copy_164 : decode cX12_copy 164 = .ok (.iload 5, 2) := by decide +kernel
theorem dX12_copy_166 : decode cX12_copy 166 = .ok (.if_icmp .ge 32, 3) := by decide +kernel
theorem dX12_copy_169 : decode cX12_copy 169 = .ok (.aload_n 0, 1) := by decide +kernel
theorem dX12_copy_170 : decode cX12_copy 170 = .ok (.getfield 111, 3) := by decide +kernel
theorem dX12_copy_173 : decode cX12_copy 173 = .ok (.sipush 256, 3) := by decide +kernel
theorem dX12_copy_176 : decode cX12_copy 176 = .ok (.iload_n 3, 1) := by decide +kernel
theorem dX12_copy_177 : decode cX12_copy 177 = .ok (.imul, 1) := by decide +kernel
theorem dX12_copy_178 : decode cX12_copy 178 = .ok (.iload 4, 2) := by decide +kernel
theorem dX12_copy_180 : decode cX12_copy 180 = .ok (.iadd, 1) := by decide +kernel
theorem dX12_copy_181 : decode cX12_copy 181 = .ok (.iload 6, 2) := by decide +kernel
theorem dX12_copy_183 : decode cX12_copy 183 = .ok (.iadd, 1) := by decide +kernel
theorem dX12_copy_184 : decode cX12_copy 184 = .ok (.aload_n 0, 1) := by decide +kernel
theorem dX12_copy_185 : decode cX12_copy 185 = .ok (.getfield 199, 3) := by decide +kernel
theorem dX12_copy_188 : decode cX12_copy 188 = .ok (.iload 6, 2) := by decide +kernel
theorem dX12_copy_190 : decode cX12_copy 190 = .ok (.laload, 1) := by decide +kernel
theorem dX12_copy_191 : decode cX12_copy 191 = .ok (.lastore, 1) := by decide +kernel
theorem dX12_copy_192 : decode cX12_copy 192 = .ok (.iinc 6 1, 3) := by decide +kernel
theorem dX12_copy_195 : decode cX12_copy 195 = .ok (.goto (-33), 3) := by decide +kernel
theorem dX12_copy_198 : decode cX12_copy 198 = .ok (.iload 5, 2) := by decide +kernel
theorem dX12_copy_200 : decode cX12_copy 200 = .ok (.ireturn, 1) := by decide +kernel
theorem dX12_count_0 : decode cX12_count 0 = .ok (.iconst 0, 1) := by decide +kernel
theorem dX12_count_1 : decode cX12_count 1 = .ok (.istore_n 2, 1) := by decide +kernel
theorem dX12_count_2 : decode cX12_count 2 = .ok (.iload_n 1, 1) := by decide +kernel
theorem dX12_count_3 : decode cX12_count 3 = .ok (.tableswitch 146 0 10 #[57, 62, 67, 72, 79, 86, 121, 126, 131, 136, 141], 57) := by decide +kernel
theorem dX12_count_60 : decode cX12_count 60 = .ok (.aload_n 0, 1) := by decide +kernel
theorem dX12_count_61 : decode cX12_count 61 = .ok (.getfield 7, 3) := by decide +kernel
theorem dX12_count_64 : decode cX12_count 64 = .ok (.ireturn, 1) := by decide +kernel
theorem dX12_count_65 : decode cX12_count 65 = .ok (.aload_n 0, 1) := by decide +kernel
theorem dX12_count_66 : decode cX12_count 66 = .ok (.getfield 205, 3) := by decide +kernel
theorem dX12_count_69 : decode cX12_count 69 = .ok (.ireturn, 1) := by decide +kernel
theorem dX12_count_70 : decode cX12_count 70 = .ok (.aload_n 0, 1) := by decide +kernel
theorem dX12_count_71 : decode cX12_count 71 = .ok (.getfield 13, 3) := by decide +kernel
theorem dX12_count_74 : decode cX12_count 74 = .ok (.ireturn, 1) := by decide +kernel
theorem dX12_count_75 : decode cX12_count 75 = .ok (.aload_n 0, 1) := by decide +kernel
theorem dX12_count_76 : decode cX12_count 76 = .ok (.getfield 16, 3) := by decide +kernel
theorem dX12_count_79 : decode cX12_count 79 = .ok (.iconst 0, 1) := by decide +kernel
theorem dX12_count_80 : decode cX12_count 80 = .ok (.iaload, 1) := by decide +kernel
theorem dX12_count_81 : decode cX12_count 81 = .ok (.ireturn, 1) := by decide +kernel
theorem dX12_count_82 : decode cX12_count 82 = .ok (.aload_n 0, 1) := by decide +kernel
theorem dX12_count_83 : decode cX12_count 83 = .ok (.getfield 16, 3) := by decide +kernel
theorem dX12_count_86 : decode cX12_count 86 = .ok (.iconst 1, 1) := by decide +kernel
theorem dX12_count_87 : decode cX12_count 87 = .ok (.iaload, 1) := by decide +kernel
theorem dX12_count_88 : decode cX12_count 88 = .ok (.ireturn, 1) := by decide +kernel
theorem dX12_count_89 : decode cX12_count 89 = .ok (.iconst 0, 1) := by decide +kernel
theorem dX12_count_90 : decode cX12_count 90 = .ok (.istore_n 3, 1) := by decide +kernel
theorem dX12_count_91 : decode cX12_count 91 = .ok (.iload_n 3, 1) := by decide +kernel
theorem dX12_count_92 : decode cX12_count 92 = .ok (.aload_n 0, 1) := by decide +kernel
theorem dX12_count_93 : decode cX12_count 93 = .ok (.invokevirtual 242, 3) := by decide +kernel
theorem dX12_count_96 : decode cX12_count 96 = .ok (.if_icmp .ge 26, 3) := by decide +kernel
theorem dX12_count_99 : decode cX12_count 99 = .ok (.iload_n 2, 1) := by decide +kernel
theorem dX12_count_100 : decode cX12_count 100 = .ok (.aload_n 0, 1) := by decide +kernel
theorem dX12_count_101 : decode cX12_count 101 = .ok (.getfield 32, 3) := by decide +kernel
theorem dX12_count_104 : decode cX12_count 104 = .ok (.iload_n 3, 1) := by decide +kernel
theorem dX12_count_105 : decode cX12_count 105 = .ok (.baload, 1) := by decide +kernel
theorem dX12_count_106 : decode cX12_count 106 = .ok (.ifCond .eq 7, 3) := by decide +kernel
theorem dX12_count_109 : decode cX12_count 109 = .ok (.iconst 1, 1) := by decide +kernel
theorem dX12_count_110 : decode cX12_count 110 = .ok (.goto 4, 3) := by decide +kernel
theorem dX12_count_113 : decode cX12_count 113 = .ok (.iconst 0, 1) := by decide +kernel
theorem dX12_count_114 : decode cX12_count 114 = .ok (.iadd, 1) := by decide +kernel
theorem dX12_count_115 : decode cX12_count 115 = .ok (.istore_n 2, 1) := by decide +kernel
theorem dX12_count_116 : decode cX12_count 116 = .ok (.iinc 3 1, 3) := by decide +kernel
theorem dX12_count_119 : decode cX12_count 119 = .ok (.goto (-28), 3) := by decide +kernel
theorem dX12_count_122 : decode cX12_count 122 = .ok (.iload_n 2, 1) := by decide +kernel
theorem dX12_count_123 : decode cX12_count 123 = .ok (.ireturn, 1) := by decide +kernel
theorem dX12_count_124 : decode cX12_count 124 = .ok (.aload_n 0, 1) := by decide +kernel
theorem dX12_count_125 : decode cX12_count 125 = .ok (.getfield 223, 3) := by decide +kernel
theorem dX12_count_128 : decode cX12_count 128 = .ok (.ireturn, 1) := by decide +kernel
theorem dX12_count_129 : decode cX12_count 129 = .ok (.aload_n 0, 1) := by decide +kernel
theorem dX12_count_130 : decode cX12_count 130 = .ok (.getfield 233, 3) := by decide +kernel
theorem dX12_count_133 : decode cX12_count 133 = .ok (.ireturn, 1) := by decide +kernel
theorem dX12_count_134 : decode cX12_count 134 = .ok (.aload_n 0, 1) := by decide +kernel
theorem dX12_count_135 : decode cX12_count 135 = .ok (.getfield 236, 3) := by decide +kernel
theorem dX12_count_138 : decode cX12_count 138 = .ok (.ireturn, 1) := by decide +kernel
theorem dX12_count_139 : decode cX12_count 139 = .ok (.aload_n 0, 1) := by decide +kernel
theorem dX12_count_140 : decode cX12_count 140 = .ok (.getfield 239, 3) := by decide +kernel
theorem dX12_count_143 : decode cX12_count 143 = .ok (.ireturn, 1) := by decide +kernel
theorem dX12_count_144 : decode cX12_count 144 = .ok (.aload_n 0, 1) := by decide +kernel
theorem dX12_count_145 : decode cX12_count 145 = .ok (.getfield 220, 3) := by decide +kernel
theorem dX12_count_148 : decode cX12_count 148 = .ok (.ireturn, 1) := by decide +kernel
theorem dX12_count_149 : decode cX12_count 149 = .ok (.iconst (-1), 1) := by decide +kernel
theorem dX12_count_150 : decode cX12_count 150 = .ok (.ireturn, 1) := by decide +kernel
def XX12_node (x0 : Int) (x1 : Int) (h : Hp) : OR :=
  if (h 143 23) = 0 then some ((-1), h) else chk ((h 143 27) - 1) (cal (XX12_in x0 0 ((h 143 27) - 1) h) (fun r1 h2 => if r1 = 0 then some ((-1), h2) else if x1 = 0 then inb x0 24 (some ((h2 162 x0.toNat), h2)) else if x1 = 1 then inb x0 24 (some ((h2 163 x0.toNat), h2)) else if x1 = 2 then inb x0 24 (some ((h2 164 x0.toNat), h2)) else if x1 = 3 then inb x0 24 (some ((h2 165 x0.toNat), h2)) else if x1 = 4 then inb x0 24 (some ((h2 166 x0.toNat), h2)) else some ((-1), h2)))
theorem sX12_node {G : GG} {w : Wd} (hw : okM w) (x0 : Int) (x1 : Int) (h : Hp) : SC G w yX12_node (Cond.code yX12_node cX12_node 3 (Option.some Jvm.ClassFile.FieldType.int)) 2 0 [vP 143, vI x0, vI x1] (XX12_node x0 x1 h) h := by
  refine SC_of (own := "GatePatchModel") plain_Mod rfl (Nat.le_of_ble_eq_true rfl) (fun Γ hG g => ?_)
  subst hG
  show Sim Γ w 0 _ h 0 [(0, vP 143), (1, vI x0), (2, vI x1)] []
  unfold XX12_node
  refine S_aload_n (kk := 0) g dX12_node_0 rfl rfl ?_
  refine S_geti g dX12_node_1 fl_Mod_229 (at_143 hw) (Or.inr rfl) ?_
  refine S_if_eq (tgt := 21) g dX12_node_4 (by decide) ?_ ?_
  · refine S_iconst g dX12_node_21 ⟨by decide, by decide⟩ ?_
    exact S_ireturn g dX12_node_22 rfl
  · refine S_iload_n (kk := 1) g dX12_node_7 rfl rfl ?_
    refine S_iconst g dX12_node_8 ⟨by decide, by decide⟩ ?_
    refine S_aload_n (kk := 0) g dX12_node_9 rfl rfl ?_
    refine S_geti g dX12_node_10 fl_Mod_381 (at_143 hw) (Or.inl rfl) ?_
    refine S_iconst g dX12_node_13 ⟨by decide, by decide⟩ ?_
    refine S_isub g dX12_node_14 ?_
    refine S_callSi (As := [vI x0, vI 0, vI ((h 143 27) - 1)]) g dX12_node_15 (sX12_in hw _ _ _ _) rfl st_X12_in cw_X12_in ml_Mod_212 ini_Mod nd_X12_in ⟨by decide, by decide⟩ (Nat.le_of_ble_eq_true rfl) (fun r1 h2 => ?_)
    refine S_if_ne (tgt := 23) g dX12_node_18 (by decide) ?_ ?_
    · refine S_iload_n (kk := 2) g dX12_node_23 rfl rfl ?_
      refine S_ite (fun c3 => ?_) (fun c3 => ?_)
      · refine S_tabIn (tgt := 60) g dX12_node_24 0 c3 (by decide) (by decide) rfl (by decide) ?_
        refine S_aload_n (kk := 0) g dX12_node_60 rfl rfl ?_
        refine S_getr g dX12_node_61 fl_Mod_78 (at_143 hw) rfl (rc_143_31 hw) ?_
        refine S_iload_n (kk := 1) g dX12_node_64 rfl rfl ?_
        refine S_iaload g dX12_node_65 (at_162 hw) ?_
        exact S_ireturn g dX12_node_66 rfl
      · skip
        refine S_ite (fun c4 => ?_) (fun c4 => ?_)
        · refine S_tabIn (tgt := 67) g dX12_node_24 1 c4 (by decide) (by decide) rfl (by decide) ?_
          refine S_aload_n (kk := 0) g dX12_node_67 rfl rfl ?_
          refine S_getr g dX12_node_68 fl_Mod_81 (at_143 hw) rfl (rc_143_32 hw) ?_
          refine S_iload_n (kk := 1) g dX12_node_71 rfl rfl ?_
          refine S_iaload g dX12_node_72 (at_163 hw) ?_
          exact S_ireturn g dX12_node_73 rfl
        · skip
          refine S_ite (fun c5 => ?_) (fun c5 => ?_)
          · refine S_tabIn (tgt := 74) g dX12_node_24 2 c5 (by decide) (by decide) rfl (by decide) ?_
            refine S_aload_n (kk := 0) g dX12_node_74 rfl rfl ?_
            refine S_getr g dX12_node_75 fl_Mod_84 (at_143 hw) rfl (rc_143_33 hw) ?_
            refine S_iload_n (kk := 1) g dX12_node_78 rfl rfl ?_
            refine S_iaload g dX12_node_79 (at_164 hw) ?_
            exact S_ireturn g dX12_node_80 rfl
          · skip
            refine S_ite (fun c6 => ?_) (fun c6 => ?_)
            · refine S_tabIn (tgt := 81) g dX12_node_24 3 c6 (by decide) (by decide) rfl (by decide) ?_
              refine S_aload_n (kk := 0) g dX12_node_81 rfl rfl ?_
              refine S_getr g dX12_node_82 fl_Mod_87 (at_143 hw) rfl (rc_143_34 hw) ?_
              refine S_iload_n (kk := 1) g dX12_node_85 rfl rfl ?_
              refine S_iaload g dX12_node_86 (at_165 hw) ?_
              exact S_ireturn g dX12_node_87 rfl
            · skip
              refine S_ite (fun c7 => ?_) (fun c7 => ?_)
              · refine S_tabIn (tgt := 88) g dX12_node_24 4 c7 (by decide) (by decide) rfl (by decide) ?_
                refine S_aload_n (kk := 0) g dX12_node_88 rfl rfl ?_
                refine S_getr g dX12_node_89 fl_Mod_90 (at_143 hw) rfl (rc_143_35 hw) ?_
                refine S_iload_n (kk := 1) g dX12_node_92 rfl rfl ?_
                refine S_iaload g dX12_node_93 (at_166 hw) ?_
                exact S_ireturn g dX12_node_94 rfl
              · skip
                refine S_tabOut (tgt := 95) g dX12_node_24 (by omega) (by decide) ?_
                refine S_iconst g dX12_node_95 ⟨by decide, by decide⟩ ?_
                exact S_ireturn g dX12_node_96 rfl
    · refine S_iconst g dX12_node_21 ⟨by decide, by decide⟩ ?_
      exact S_ireturn g dX12_node_22 rfl

def XX12_isPlace (x0 : Int) (x1 : Int) (h : Hp) : OR :=
  cal (XX12_in x0 0 31 h) (fun r1 h2 => if r1 = 0 then zb 0 (some (0, h2)) else cal (XX12_in x1 0 31 h2) (fun r3 h4 => if r3 = 0 then zb 0 (some (0, h4)) else zb 1 (some (1, h4))))
theorem sX12_isPlace {G : GG} {w : Wd} (hw : okM w) (x0 : Int) (x1 : Int) (h : Hp) : SC G w yX12_isPlace (Cond.code yX12_isPlace cX12_isPlace 2 (Option.some Jvm.ClassFile.FieldType.boolean)) 2 0 [vI x0, vI x1] (XX12_isPlace x0 x1 h) h := by
  refine SC_of (own := "GatePatchModel") plain_Mod rfl (Nat.le_of_ble_eq_true rfl) (fun Γ hG g => ?_)
  subst hG
  show Sim Γ w 0 _ h 0 [(0, vI x0), (1, vI x1)] []
  unfold XX12_isPlace
  refine S_iload_n (kk := 0) g dX12_isPlace_0 rfl rfl ?_
  refine S_iconst g dX12_isPlace_1 ⟨by decide, by decide⟩ ?_
  refine S_bipush g dX12_isPlace_2 ⟨by decide, by decide⟩ rfl ?_
  refine S_callSi (As := [vI x0, vI 0, vI 31]) g dX12_isPlace_4 (sX12_in hw _ _ _ _) rfl st_X12_in cw_X12_in ml_Mod_212 ini_Mod nd_X12_in ⟨by decide, by decide⟩ (Nat.le_of_ble_eq_true rfl) (fun r1 h2 => ?_)
  refine S_if_eq (tgt := 24) g dX12_isPlace_7 (by decide) ?_ ?_
  · refine S_iconst g dX12_isPlace_24 ⟨by decide, by decide⟩ ?_
    exact S_zreturn g dX12_isPlace_25 rfl
  · refine S_iload_n (kk := 1) g dX12_isPlace_10 rfl rfl ?_
    refine S_iconst g dX12_isPlace_11 ⟨by decide, by decide⟩ ?_
    refine S_bipush g dX12_isPlace_12 ⟨by decide, by decide⟩ rfl ?_
    refine S_callSi (As := [vI x1, vI 0, vI 31]) g dX12_isPlace_14 (sX12_in hw _ _ _ _) rfl st_X12_in cw_X12_in ml_Mod_212 ini_Mod nd_X12_in ⟨by decide, by decide⟩ (Nat.le_of_ble_eq_true rfl) (fun r3 h4 => ?_)
    refine S_if_eq (tgt := 24) g dX12_isPlace_17 (by decide) ?_ ?_
    · refine S_iconst g dX12_isPlace_24 ⟨by decide, by decide⟩ ?_
      exact S_zreturn g dX12_isPlace_25 rfl
    · refine S_iconst g dX12_isPlace_20 ⟨by decide, by decide⟩ ?_
      refine S_goto (tgt := 25) g dX12_isPlace_21 (by decide) ?_
      exact S_zreturn g dX12_isPlace_25 rfl

def XX12_site (x0 : Int) (x1 : Int) (x2 : Int) (h : Hp) : OR :=
  cal (XX12_isWire 0 x0 h) (fun r1 h2 => if r1 = 0 then some ((-1), h2) else cal (XX12_isPlace x1 x2 h2) (fun r3 h4 => if r3 = 0 then some ((-1), h4) else inb x0 48 (chk (32 * (h4 151 x0.toNat)) (inb x0 48 (chk ((32 * (h4 151 x0.toNat)) + (h4 150 x0.toNat)) (nm ((32 * (h4 151 x0.toNat)) + (h4 150 x0.toNat)) (fun v5 => inb x0 48 (hm (wr h4 150 x0.toNat x1) (fun h6 => inb x0 48 (hm (wr h6 151 x0.toNat x2) (fun h7 => cal (XX12_changed 0 h7) (fun r8 h9 => some (v5, h9)))))))))))))
theorem sX12_site {G : GG} {w : Wd} (hw : okM w) (x0 : Int) (x1 : Int) (x2 : Int) (h : Hp) : SC G w yX12_site (Cond.code yX12_site cX12_site 5 (Option.some Jvm.ClassFile.FieldType.int)) 4 0 [vP 143, vI x0, vI x1, vI x2] (XX12_site x0 x1 x2 h) h := by
  refine SC_of (own := "GatePatchModel") plain_Mod rfl (Nat.le_of_ble_eq_true rfl) (fun Γ hG g => ?_)
  subst hG
  show Sim Γ w 0 _ h 0 [(0, vP 143), (1, vI x0), (2, vI x1), (3, vI x2)] []
  unfold XX12_site
  refine S_aload_n (kk := 0) g dX12_site_0 rfl rfl ?_
  refine S_iconst g dX12_site_1 ⟨by decide, by decide⟩ ?_
  refine S_iload_n (kk := 1) g dX12_site_2 rfl rfl ?_
  refine S_callVi (As := [vI 0, vI x0]) g dX12_site_3 (sX12_isWire hw _ _ _) rfl (at_143 hw) rfl im_X12_isWire se_X12_isWire cw_X12_isWire ml_Mod_245 ini_Mod nd_X12_isWire ⟨by decide, by decide⟩ (Nat.le_of_ble_eq_true rfl) (fun r1 h2 => ?_)
  refine S_if_eq (tgt := 17) g dX12_site_6 (by decide) ?_ ?_
  · refine S_iconst g dX12_site_17 ⟨by decide, by decide⟩ ?_
    exact S_ireturn g dX12_site_18 rfl
  · refine S_iload_n (kk := 2) g dX12_site_9 rfl rfl ?_
    refine S_iload_n (kk := 3) g dX12_site_10 rfl rfl ?_
    refine S_callSi (As := [vI x1, vI x2]) g dX12_site_11 (sX12_isPlace hw _ _ _) rfl st_X12_isPlace cw_X12_isPlace ml_Mod_433 ini_Mod nd_X12_isPlace ⟨by decide, by decide⟩ (Nat.le_of_ble_eq_true rfl) (fun r3 h4 => ?_)
    refine S_if_ne (tgt := 19) g dX12_site_14 (by decide) ?_ ?_
    · refine S_bipush g dX12_site_19 ⟨by decide, by decide⟩ rfl ?_
      refine S_aload_n (kk := 0) g dX12_site_21 rfl rfl ?_
      refine S_getr g dX12_site_22 fl_Mod_39 (at_143 hw) rfl (rc_143_11 hw) ?_
      refine S_iload_n (kk := 1) g dX12_site_25 rfl rfl ?_
      refine S_iaload g dX12_site_26 (at_151 hw) ?_
      refine S_imul g dX12_site_27 ?_
      refine S_aload_n (kk := 0) g dX12_site_28 rfl rfl ?_
      refine S_getr g dX12_site_29 fl_Mod_36 (at_143 hw) rfl (rc_143_10 hw) ?_
      refine S_iload_n (kk := 1) g dX12_site_32 rfl rfl ?_
      refine S_iaload g dX12_site_33 (at_150 hw) ?_
      refine S_iadd g dX12_site_34 ?_
      refine S_nmI (fun v5 => ?_)
      refine S_istore g dX12_site_35 (by decide) rfl ?_
      refine S_aload_n (kk := 1) g dX12_site_37 rfl rfl ?_
      refine S_getr g dX12_site_38 fl_Mod_36 (at_143 hw) rfl (rc_143_10 hw) ?_
      refine S_iload_n (kk := 2) g dX12_site_41 rfl rfl ?_
      refine S_iload_n (kk := 3) g dX12_site_42 rfl rfl ?_
      refine S_iastore g dX12_site_43 (at_150 hw) (fun h6 => ?_)
      refine S_aload_n (kk := 1) g dX12_site_44 rfl rfl ?_
      refine S_getr g dX12_site_45 fl_Mod_39 (at_143 hw) rfl (rc_143_11 hw) ?_
      refine S_iload_n (kk := 2) g dX12_site_48 rfl rfl ?_
      refine S_iload_n (kk := 4) g dX12_site_49 rfl rfl ?_
      refine S_iastore g dX12_site_50 (at_151 hw) (fun h7 => ?_)
      refine S_aload_n (kk := 1) g dX12_site_51 rfl rfl ?_
      refine S_iconst g dX12_site_52 ⟨by decide, by decide⟩ ?_
      refine S_callVv (As := [vI 0]) g dX12_site_53 (sX12_changed hw _ _) rfl (at_143 hw) rfl im_X12_changed se_X12_changed cw_X12_changed ml_Mod_264 ini_Mod nd_X12_changed ⟨by decide, by decide⟩ (Nat.le_of_ble_eq_true rfl) (fun r8 h9 => ?_)
      refine S_iload (kk := 0) g dX12_site_56 rfl ?_
      exact S_ireturn g dX12_site_58 rfl
    · refine S_iconst g dX12_site_17 ⟨by decide, by decide⟩ ?_
      exact S_ireturn g dX12_site_18 rfl

def XX12_spare (x0 : Int) (x1 : Int) (x2 : Int) (h : Hp) : OR :=
  cal (XX12_in x0 0 5 h) (fun r1 h2 => if r1 = 0 then some ((-1), h2) else cal (XX12_isPlace x1 x2 h2) (fun r3 h4 => if r3 = 0 then some ((-1), h4) else if (h4 143 12) = 12 then some ((-3), h4) else inb (h4 143 12) 12 (hm (wr h4 152 (h4 143 12).toNat x0) (fun h5 => inb (h5 143 12) 12 (hm (wr h5 153 (h5 143 12).toNat x1) (fun h6 => inb (h6 143 12) 12 (hm (wr h6 154 (h6 143 12).toNat x2) (fun h7 => inb (h7 143 12) 12 (zb 0 (hm (wr h7 155 (h7 143 12).toNat 0) (fun h8 => chk ((h8 143 12) + 1) (hm (wr h8 143 12 ((h8 143 12) + 1)) (fun h9 => cal (XX12_changed 0 h9) (fun r10 h11 => chk ((h11 143 12) - 1) (some (((h11 143 12) - 1), h11))))))))))))))))
theorem sX12_spare {G : GG} {w : Wd} (hw : okM w) (x0 : Int) (x1 : Int) (x2 : Int) (h : Hp) : SC G w yX12_spare (Cond.code yX12_spare cX12_spare 4 (Option.some Jvm.ClassFile.FieldType.int)) 3 0 [vP 143, vI x0, vI x1, vI x2] (XX12_spare x0 x1 x2 h) h := by
  refine SC_of (own := "GatePatchModel") plain_Mod rfl (Nat.le_of_ble_eq_true rfl) (fun Γ hG g => ?_)
  subst hG
  show Sim Γ w 0 _ h 0 [(0, vP 143), (1, vI x0), (2, vI x1), (3, vI x2)] []
  unfold XX12_spare
  refine S_iload_n (kk := 1) g dX12_spare_0 rfl rfl ?_
  refine S_iconst g dX12_spare_1 ⟨by decide, by decide⟩ ?_
  refine S_iconst g dX12_spare_2 ⟨by decide, by decide⟩ ?_
  refine S_callSi (As := [vI x0, vI 0, vI 5]) g dX12_spare_3 (sX12_in hw _ _ _ _) rfl st_X12_in cw_X12_in ml_Mod_212 ini_Mod nd_X12_in ⟨by decide, by decide⟩ (Nat.le_of_ble_eq_true rfl) (fun r1 h2 => ?_)
  refine S_if_eq (tgt := 17) g dX12_spare_6 (by decide) ?_ ?_
  · refine S_iconst g dX12_spare_17 ⟨by decide, by decide⟩ ?_
    exact S_ireturn g dX12_spare_18 rfl
  · refine S_iload_n (kk := 2) g dX12_spare_9 rfl rfl ?_
    refine S_iload_n (kk := 3) g dX12_spare_10 rfl rfl ?_
    refine S_callSi (As := [vI x1, vI x2]) g dX12_spare_11 (sX12_isPlace hw _ _ _) rfl st_X12_isPlace cw_X12_isPlace ml_Mod_433 ini_Mod nd_X12_isPlace ⟨by decide, by decide⟩ (Nat.le_of_ble_eq_true rfl) (fun r3 h4 => ?_)
    refine S_if_ne (tgt := 19) g dX12_spare_14 (by decide) ?_ ?_
    · refine S_aload_n (kk := 0) g dX12_spare_19 rfl rfl ?_
      refine S_geti g dX12_spare_20 fl_Mod_223 (at_143 hw) (Or.inl rfl) ?_
      refine S_bipush g dX12_spare_23 ⟨by decide, by decide⟩ rfl ?_
      refine S_icmp_ne (tgt := 31) g dX12_spare_25 (by decide) ?_ ?_
      · refine S_aload_n (kk := 0) g dX12_spare_31 rfl rfl ?_
        refine S_getr g dX12_spare_32 fl_Mod_42 (at_143 hw) rfl (rc_143_13 hw) ?_
        refine S_aload_n (kk := 0) g dX12_spare_35 rfl rfl ?_
        refine S_geti g dX12_spare_36 fl_Mod_223 (at_143 hw) (Or.inl rfl) ?_
        refine S_iload_n (kk := 1) g dX12_spare_39 rfl rfl ?_
        refine S_iastore g dX12_spare_40 (at_152 hw) (fun h5 => ?_)
        refine S_aload_n (kk := 0) g dX12_spare_41 rfl rfl ?_
        refine S_getr g dX12_spare_42 fl_Mod_45 (at_143 hw) rfl (rc_143_14 hw) ?_
        refine S_aload_n (kk := 0) g dX12_spare_45 rfl rfl ?_
        refine S_geti g dX12_spare_46 fl_Mod_223 (at_143 hw) (Or.inl rfl) ?_
        refine S_iload_n (kk := 2) g dX12_spare_49 rfl rfl ?_
        refine S_iastore g dX12_spare_50 (at_153 hw) (fun h6 => ?_)
        refine S_aload_n (kk := 0) g dX12_spare_51 rfl rfl ?_
        refine S_getr g dX12_spare_52 fl_Mod_48 (at_143 hw) rfl (rc_143_15 hw) ?_
        refine S_aload_n (kk := 0) g dX12_spare_55 rfl rfl ?_
        refine S_geti g dX12_spare_56 fl_Mod_223 (at_143 hw) (Or.inl rfl) ?_
        refine S_iload_n (kk := 3) g dX12_spare_59 rfl rfl ?_
        refine S_iastore g dX12_spare_60 (at_154 hw) (fun h7 => ?_)
        refine S_aload_n (kk := 0) g dX12_spare_61 rfl rfl ?_
        refine S_getr g dX12_spare_62 fl_Mod_51 (at_143 hw) rfl (rc_143_16 hw) ?_
        refine S_aload_n (kk := 0) g dX12_spare_65 rfl rfl ?_
        refine S_geti g dX12_spare_66 fl_Mod_223 (at_143 hw) (Or.inl rfl) ?_
        refine S_iconst g dX12_spare_69 ⟨by decide, by decide⟩ ?_
        refine S_zastore g dX12_spare_70 (at_155 hw) (fun h8 => ?_)
        refine S_aload_n (kk := 0) g dX12_spare_71 rfl rfl ?_
        refine S_dup g dX12_spare_72 rfl ?_
        refine S_geti g dX12_spare_73 fl_Mod_223 (at_143 hw) (Or.inl rfl) ?_
        refine S_iconst g dX12_spare_76 ⟨by decide, by decide⟩ ?_
        refine S_iadd g dX12_spare_77 ?_
        refine S_puti g dX12_spare_78 fp_Mod_223 (at_143 hw) rfl (fun h9 => ?_)
        refine S_aload_n (kk := 0) g dX12_spare_81 rfl rfl ?_
        refine S_iconst g dX12_spare_82 ⟨by decide, by decide⟩ ?_
        refine S_callVv (As := [vI 0]) g dX12_spare_83 (sX12_changed hw _ _) rfl (at_143 hw) rfl im_X12_changed se_X12_changed cw_X12_changed ml_Mod_264 ini_Mod nd_X12_changed ⟨by decide, by decide⟩ (Nat.le_of_ble_eq_true rfl) (fun r10 h11 => ?_)
        refine S_aload_n (kk := 0) g dX12_spare_86 rfl rfl ?_
        refine S_geti g dX12_spare_87 fl_Mod_223 (at_143 hw) (Or.inl rfl) ?_
        refine S_iconst g dX12_spare_90 ⟨by decide, by decide⟩ ?_
        refine S_isub g dX12_spare_91 ?_
        exact S_ireturn g dX12_spare_92 rfl
      · refine S_bipush g dX12_spare_28 ⟨by decide, by decide⟩ rfl ?_
        exact S_ireturn g dX12_spare_30 rfl
    · refine S_iconst g dX12_spare_17 ⟨by decide, by decide⟩ ?_
      exact S_ireturn g dX12_spare_18 rfl

def XX12_apart (x0 : Int) (x1 : Int) (h : Hp) : OR :=
  if x1 ≤ x0 then chk (x0 - x1) (some ((x0 - x1), h)) else chk (x1 - x0) (some ((x1 - x0), h))
theorem sX12_apart {G : GG} {w : Wd} (hw : okM w) (x0 : Int) (x1 : Int) (h : Hp) : SC G w yX12_apart (Cond.code yX12_apart cX12_apart 2 (Option.some Jvm.ClassFile.FieldType.int)) 1 0 [vI x0, vI x1] (XX12_apart x0 x1 h) h := by
  refine SC_of (own := "GatePatchModel") plain_Mod rfl (Nat.le_of_ble_eq_true rfl) (fun Γ hG g => ?_)
  subst hG
  show Sim Γ w 0 _ h 0 [(0, vI x0), (1, vI x1)] []
  unfold XX12_apart
  refine S_iload_n (kk := 0) g dX12_apart_0 rfl rfl ?_
  refine S_iload_n (kk := 1) g dX12_apart_1 rfl rfl ?_
  refine S_icmp_ge (tgt := 11) g dX12_apart_2 (by decide) ?_ ?_
  · refine S_iload_n (kk := 0) g dX12_apart_11 rfl rfl ?_
    refine S_iload_n (kk := 1) g dX12_apart_12 rfl rfl ?_
    refine S_isub g dX12_apart_13 ?_
    exact S_ireturn g dX12_apart_14 rfl
  · refine S_iload_n (kk := 1) g dX12_apart_5 rfl rfl ?_
    refine S_iload_n (kk := 0) g dX12_apart_6 rfl rfl ?_
    refine S_isub g dX12_apart_7 ?_
    refine S_goto (tgt := 14) g dX12_apart_8 (by decide) ?_
    exact S_ireturn g dX12_apart_14 rfl

def XX12_far (x0 : Int) (x1 : Int) (h : Hp) : OR :=
  inb x0 12 (inb x1 48 (cal (XX12_apart (h 153 x0.toNat) (h 150 x1.toNat) h) (fun r1 h2 => inb x0 12 (inb x1 48 (cal (XX12_apart (h2 154 x0.toNat) (h2 151 x1.toNat) h2) (fun r3 h4 => chk (r1 + r3) (some ((r1 + r3), h4))))))))
theorem sX12_far {G : GG} {w : Wd} (hw : okM w) (x0 : Int) (x1 : Int) (h : Hp) : SC G w yX12_far (Cond.code yX12_far cX12_far 3 (Option.some Jvm.ClassFile.FieldType.int)) 2 0 [vP 143, vI x0, vI x1] (XX12_far x0 x1 h) h := by
  refine SC_of (own := "GatePatchModel") plain_Mod rfl (Nat.le_of_ble_eq_true rfl) (fun Γ hG g => ?_)
  subst hG
  show Sim Γ w 0 _ h 0 [(0, vP 143), (1, vI x0), (2, vI x1)] []
  unfold XX12_far
  refine S_aload_n (kk := 0) g dX12_far_0 rfl rfl ?_
  refine S_getr g dX12_far_1 fl_Mod_45 (at_143 hw) rfl (rc_143_14 hw) ?_
  refine S_iload_n (kk := 1) g dX12_far_4 rfl rfl ?_
  refine S_iaload g dX12_far_5 (at_153 hw) ?_
  refine S_aload_n (kk := 0) g dX12_far_6 rfl rfl ?_
  refine S_getr g dX12_far_7 fl_Mod_36 (at_143 hw) rfl (rc_143_10 hw) ?_
  refine S_iload_n (kk := 2) g dX12_far_10 rfl rfl ?_
  refine S_iaload g dX12_far_11 (at_150 hw) ?_
  refine S_callSi (As := [vI (h 153 x0.toNat), vI (h 150 x1.toNat)]) g dX12_far_12 (sX12_apart hw _ _ _) rfl st_X12_apart cw_X12_apart ml_Mod_436 ini_Mod nd_X12_apart ⟨by decide, by decide⟩ (Nat.le_of_ble_eq_true rfl) (fun r1 h2 => ?_)
  refine S_aload_n (kk := 0) g dX12_far_15 rfl rfl ?_
  refine S_getr g dX12_far_16 fl_Mod_48 (at_143 hw) rfl (rc_143_15 hw) ?_
  refine S_iload_n (kk := 1) g dX12_far_19 rfl rfl ?_
  refine S_iaload g dX12_far_20 (at_154 hw) ?_
  refine S_aload_n (kk := 0) g dX12_far_21 rfl rfl ?_
  refine S_getr g dX12_far_22 fl_Mod_39 (at_143 hw) rfl (rc_143_11 hw) ?_
  refine S_iload_n (kk := 2) g dX12_far_25 rfl rfl ?_
  refine S_iaload g dX12_far_26 (at_151 hw) ?_
  refine S_callSi (As := [vI (h2 154 x0.toNat), vI (h2 151 x1.toNat)]) g dX12_far_27 (sX12_apart hw _ _ _) rfl st_X12_apart cw_X12_apart ml_Mod_436 ini_Mod nd_X12_apart ⟨by decide, by decide⟩ (Nat.le_of_ble_eq_true rfl) (fun r3 h4 => ?_)
  refine S_iadd g dX12_far_30 ?_
  exact S_ireturn g dX12_far_31 rfl

def XX12_lengthOf_p57   (l1 l2 : Int) (s0 s1 : Int) (h : Hp) : OR :=
  chk (s0 + s1) (nm (s0 + s1) (fun v5 => inb l1 24 (cal (XX12_in (h 164 l1.toNat) 100 102 h) (fun r6 h7 => if r6 = 0 then chk (v5 + 0) (some ((v5 + 0), h7)) else inb l1 24 (chk ((h7 164 l1.toNat) - 100) (inb ((h7 164 l1.toNat) - 100) 3 (cal (XX12_far l2 (h7 160 ((h7 164 l1.toNat) - 100).toNat) h7) (fun r8 h9 => chk (v5 + r8) (some ((v5 + r8), h9))))))))))
def XX12_lengthOf (x0 : Int) (x1 : Int) (h : Hp) : OR :=
  inb x0 24 (inb (h 165 x0.toNat) 2 (cal (XX12_far x1 (h 159 (h 165 x0.toNat).toNat) h) (fun r1 h2 => inb x0 24 (cal (XX12_in (h2 163 x0.toNat) 100 102 h2) (fun r3 h4 => if r3 = 0 then XX12_lengthOf_p57 x0 x1 r1 0 h4 else inb x0 24 (chk ((h4 163 x0.toNat) - 100) (inb ((h4 163 x0.toNat) - 100) 3 (cal (XX12_far x1 (h4 160 ((h4 163 x0.toNat) - 100).toNat) h4) (fun r10 h11 => XX12_lengthOf_p57 x0 x1 r1 r10 h11)))))))))
theorem sX12_lengthOf_p57 {Γ : Cx} {w : Wd} (hw : okM w) (g : Gd Γ cX12_lengthOf 4 "GatePatchModel" (Option.some Jvm.ClassFile.FieldType.int) (rmd 3))   (l1 l2 : Int) (s0 s1 : Int) (h : Hp) : Sim Γ w 0 (XX12_lengthOf_p57  l1 l2 s0 s1 h) h 57 [(0, vP 143), (1, vI l1), (2, vI l2)] [vI s1, vI s0] := by
  unfold XX12_lengthOf_p57
  refine S_iadd g dX12_lengthOf_57 ?_
  refine S_nmI (fun v5 => ?_)
  refine S_istore_n g dX12_lengthOf_58 rfl (by decide) rfl ?_
  refine S_iload_n (kk := 0) g dX12_lengthOf_59 rfl rfl ?_
  refine S_aload_n (kk := 1) g dX12_lengthOf_60 rfl rfl ?_
  refine S_getr g dX12_lengthOf_61 fl_Mod_84 (at_143 hw) rfl (rc_143_33 hw) ?_
  refine S_iload_n (kk := 2) g dX12_lengthOf_64 rfl rfl ?_
  refine S_iaload g dX12_lengthOf_65 (at_164 hw) ?_
  refine S_bipush g dX12_lengthOf_66 ⟨by decide, by decide⟩ rfl ?_
  refine S_bipush g dX12_lengthOf_68 ⟨by decide, by decide⟩ rfl ?_
  refine S_callSi (As := [vI (h 164 l1.toNat), vI 100, vI 102]) g dX12_lengthOf_70 (sX12_in hw _ _ _ _) rfl st_X12_in cw_X12_in ml_Mod_212 ini_Mod nd_X12_in ⟨by decide, by decide⟩ (Nat.le_of_ble_eq_true rfl) (fun r6 h7 => ?_)
  refine S_if_eq (tgt := 98) g dX12_lengthOf_73 (by decide) ?_ ?_
  · refine S_iconst g dX12_lengthOf_98 ⟨by decide, by decide⟩ ?_
    refine S_iadd g dX12_lengthOf_99 ?_
    exact S_ireturn g dX12_lengthOf_100 rfl
  · refine S_aload_n (kk := 1) g dX12_lengthOf_76 rfl rfl ?_
    refine S_iload_n (kk := 3) g dX12_lengthOf_77 rfl rfl ?_
    refine S_aload_n (kk := 1) g dX12_lengthOf_78 rfl rfl ?_
    refine S_getr g dX12_lengthOf_79 fl_Mod_72 (at_143 hw) rfl (rc_143_29 hw) ?_
    refine S_aload_n (kk := 1) g dX12_lengthOf_82 rfl rfl ?_
    refine S_getr g dX12_lengthOf_83 fl_Mod_84 (at_143 hw) rfl (rc_143_33 hw) ?_
    refine S_iload_n (kk := 2) g dX12_lengthOf_86 rfl rfl ?_
    refine S_iaload g dX12_lengthOf_87 (at_164 hw) ?_
    refine S_bipush g dX12_lengthOf_88 ⟨by decide, by decide⟩ rfl ?_
    refine S_isub g dX12_lengthOf_90 ?_
    refine S_iaload g dX12_lengthOf_91 (at_160 hw) ?_
    refine S_callVi (As := [vI l2, vI (h7 160 ((h7 164 l1.toNat) - 100).toNat)]) g dX12_lengthOf_92 (sX12_far hw _ _ _) rfl (at_143 hw) rfl im_X12_far se_X12_far cw_X12_far ml_Mod_439 ini_Mod nd_X12_far ⟨by decide, by decide⟩ (Nat.le_of_ble_eq_true rfl) (fun r8 h9 => ?_)
    refine S_goto (tgt := 99) g dX12_lengthOf_95 (by decide) ?_
    refine S_iadd g dX12_lengthOf_99 ?_
    exact S_ireturn g dX12_lengthOf_100 rfl

theorem sX12_lengthOf {G : GG} {w : Wd} (hw : okM w) (x0 : Int) (x1 : Int) (h : Hp) : SC G w yX12_lengthOf (Cond.code yX12_lengthOf cX12_lengthOf 4 (Option.some Jvm.ClassFile.FieldType.int)) 3 0 [vP 143, vI x0, vI x1] (XX12_lengthOf x0 x1 h) h := by
  refine SC_of (own := "GatePatchModel") plain_Mod rfl (Nat.le_of_ble_eq_true rfl) (fun Γ hG g => ?_)
  subst hG
  show Sim Γ w 0 _ h 0 [(0, vP 143), (1, vI x0), (2, vI x1)] []
  unfold XX12_lengthOf
  refine S_aload_n (kk := 0) g dX12_lengthOf_0 rfl rfl ?_
  refine S_iload_n (kk := 2) g dX12_lengthOf_1 rfl rfl ?_
  refine S_aload_n (kk := 0) g dX12_lengthOf_2 rfl rfl ?_
  refine S_getr g dX12_lengthOf_3 fl_Mod_69 (at_143 hw) rfl (rc_143_28 hw) ?_
  refine S_aload_n (kk := 0) g dX12_lengthOf_6 rfl rfl ?_
  refine S_getr g dX12_lengthOf_7 fl_Mod_87 (at_143 hw) rfl (rc_143_34 hw) ?_
  refine S_iload_n (kk := 1) g dX12_lengthOf_10 rfl rfl ?_
  refine S_iaload g dX12_lengthOf_11 (at_165 hw) ?_
  refine S_iaload g dX12_lengthOf_12 (at_159 hw) ?_
  refine S_callVi (As := [vI x1, vI (h 159 (h 165 x0.toNat).toNat)]) g dX12_lengthOf_13 (sX12_far hw _ _ _) rfl (at_143 hw) rfl im_X12_far se_X12_far cw_X12_far ml_Mod_439 ini_Mod nd_X12_far ⟨by decide, by decide⟩ (Nat.le_of_ble_eq_true rfl) (fun r1 h2 => ?_)
  refine S_istore_n g dX12_lengthOf_16 rfl (by decide) rfl ?_
  refine S_iload_n (kk := 0) g dX12_lengthOf_17 rfl rfl ?_
  refine S_aload_n (kk := 1) g dX12_lengthOf_18 rfl rfl ?_
  refine S_getr g dX12_lengthOf_19 fl_Mod_81 (at_143 hw) rfl (rc_143_32 hw) ?_
  refine S_iload_n (kk := 2) g dX12_lengthOf_22 rfl rfl ?_
  refine S_iaload g dX12_lengthOf_23 (at_163 hw) ?_
  refine S_bipush g dX12_lengthOf_24 ⟨by decide, by decide⟩ rfl ?_
  refine S_bipush g dX12_lengthOf_26 ⟨by decide, by decide⟩ rfl ?_
  refine S_callSi (As := [vI (h2 163 x0.toNat), vI 100, vI 102]) g dX12_lengthOf_28 (sX12_in hw _ _ _ _) rfl st_X12_in cw_X12_in ml_Mod_212 ini_Mod nd_X12_in ⟨by decide, by decide⟩ (Nat.le_of_ble_eq_true rfl) (fun r3 h4 => ?_)
  refine S_if_eq (tgt := 56) g dX12_lengthOf_31 (by decide) ?_ ?_
  · refine S_iconst g dX12_lengthOf_56 ⟨by decide, by decide⟩ ?_
    refine S_sub g [1, 2, 3] rfl ?_
    exact sX12_lengthOf_p57 hw g _ _ _ _ _
  · refine S_aload_n (kk := 1) g dX12_lengthOf_34 rfl rfl ?_
    refine S_iload_n (kk := 3) g dX12_lengthOf_35 rfl rfl ?_
    refine S_aload_n (kk := 1) g dX12_lengthOf_36 rfl rfl ?_
    refine S_getr g dX12_lengthOf_37 fl_Mod_72 (at_143 hw) rfl (rc_143_29 hw) ?_
    refine S_aload_n (kk := 1) g dX12_lengthOf_40 rfl rfl ?_
    refine S_getr g dX12_lengthOf_41 fl_Mod_81 (at_143 hw) rfl (rc_143_32 hw) ?_
    refine S_iload_n (kk := 2) g dX12_lengthOf_44 rfl rfl ?_
    refine S_iaload g dX12_lengthOf_45 (at_163 hw) ?_
    refine S_bipush g dX12_lengthOf_46 ⟨by decide, by decide⟩ rfl ?_
    refine S_isub g dX12_lengthOf_48 ?_
    refine S_iaload g dX12_lengthOf_49 (at_160 hw) ?_
    refine S_callVi (As := [vI x1, vI (h4 160 ((h4 163 x0.toNat) - 100).toNat)]) g dX12_lengthOf_50 (sX12_far hw _ _ _) rfl (at_143 hw) rfl im_X12_far se_X12_far cw_X12_far ml_Mod_439 ini_Mod nd_X12_far ⟨by decide, by decide⟩ (Nat.le_of_ble_eq_true rfl) (fun r10 h11 => ?_)
    refine S_goto (tgt := 57) g dX12_lengthOf_53 (by decide) ?_
    refine S_sub g [1, 2, 3] rfl ?_
    exact sX12_lengthOf_p57 hw g _ _ _ _ _

def XX12_bits_b4   (self4 : Int → Int → Int → Hp → OR) (l0 l1 l2 : Int) (h : Hp) : OR :=
  if 12 ≤ l2 then some (l1, h) else chk (l1 + (aand (ashr l0 l2) 1)) (nm (l1 + (aand (ashr l0 l2) 1)) (fun v1 => chk (l2 + 1) (self4 l0 v1 (l2 + 1) h)))
def XX12_bits_L4   (l0 l1 l2 : Int) (h : Hp) : OR := lup3 (XX12_bits_b4 ) FU l0 l1 l2 h
def XX12_bits (x0 : Int) (h : Hp) : OR :=
  XX12_bits_L4 x0 0 0 h
theorem sX12_bits_L4 {Γ : Cx} {w : Wd} (hw : okM w) (g : Gd Γ cX12_bits 3 "GatePatchModel" (Option.some Jvm.ClassFile.FieldType.int) (rmd 1))   : ∀ (l0 l1 l2 : Int) (h : Hp), Sim Γ w 0 (XX12_bits_L4  l0 l1 l2 h) h 4 [(0, vI l0), (1, vI l1), (2, vI l2)] [] := by
  refine S_lup3 (fun l0 l1 l2 => [(0, vI l0), (1, vI l1), (2, vI l2)]) (fun self4 hs4 l0 l1 l2 h => ?_) FU
  unfold XX12_bits_b4
  refine S_iload_n (kk := 2) g dX12_bits_4 rfl rfl ?_
  refine S_bipush g dX12_bits_5 ⟨by decide, by decide⟩ rfl ?_
  refine S_icmp_ge (tgt := 24) g dX12_bits_7 (by decide) ?_ ?_
  · refine S_iload_n (kk := 1) g dX12_bits_24 rfl rfl ?_
    exact S_ireturn g dX12_bits_25 rfl
  · refine S_iload_n (kk := 1) g dX12_bits_10 rfl rfl ?_
    refine S_iload_n (kk := 0) g dX12_bits_11 rfl rfl ?_
    refine S_iload_n (kk := 2) g dX12_bits_12 rfl rfl ?_
    refine S_ishr g dX12_bits_13 ?_
    refine S_iconst g dX12_bits_14 ⟨by decide, by decide⟩ ?_
    refine S_iand g dX12_bits_15 ?_
    refine S_iadd g dX12_bits_16 ?_
    refine S_nmI (fun v1 => ?_)
    refine S_istore_n g dX12_bits_17 rfl (by decide) rfl ?_
    refine S_iinc (kk := 2) g dX12_bits_18 rfl (by decide) rfl ?_
    refine S_goto (tgt := 4) g dX12_bits_21 (by decide) ?_
    refine S_sub g [2, 1, 0] rfl ?_
    exact hs4 _ _ _ _

theorem sX12_bits {G : GG} {w : Wd} (hw : okM w) (x0 : Int) (h : Hp) : SC G w yX12_bits (Cond.code yX12_bits cX12_bits 3 (Option.some Jvm.ClassFile.FieldType.int)) 1 0 [vI x0] (XX12_bits x0 h) h := by
  refine SC_of (own := "GatePatchModel") plain_Mod rfl (Nat.le_of_ble_eq_true rfl) (fun Γ hG g => ?_)
  subst hG
  show Sim Γ w 0 _ h 0 [(0, vI x0)] []
  unfold XX12_bits
  refine S_iconst g dX12_bits_0 ⟨by decide, by decide⟩ ?_
  refine S_istore_n g dX12_bits_1 rfl (by decide) rfl ?_
  refine S_iconst g dX12_bits_2 ⟨by decide, by decide⟩ ?_
  refine S_istore_n g dX12_bits_3 rfl (by decide) rfl ?_
  refine S_sub g [2, 1, 0] rfl ?_
  exact sX12_bits_L4 hw g _ _ _ _

def XX12_canBe (x0 : Int) (x1 : Int) (x2 : Int) (h : Hp) : OR :=
  if (aand (ashr x2 x1) 1) = 0 then inb x1 12 (if (h 155 x1.toNat) = 0 then inb x1 12 (inb x0 24 (if (h 152 x1.toNat) = (h 162 x0.toNat) then zb 1 (some (1, h)) else zb 0 (some (0, h)))) else zb 0 (some (0, h))) else zb 0 (some (0, h))
theorem sX12_canBe {G : GG} {w : Wd} (hw : okM w) (x0 : Int) (x1 : Int) (x2 : Int) (h : Hp) : SC G w yX12_canBe (Cond.code yX12_canBe cX12_canBe 4 (Option.some Jvm.ClassFile.FieldType.boolean)) 1 0 [vP 143, vI x0, vI x1, vI x2] (XX12_canBe x0 x1 x2 h) h := by
  refine SC_of (own := "GatePatchModel") plain_Mod rfl (Nat.le_of_ble_eq_true rfl) (fun Γ hG g => ?_)
  subst hG
  show Sim Γ w 0 _ h 0 [(0, vP 143), (1, vI x0), (2, vI x1), (3, vI x2)] []
  unfold XX12_canBe
  refine S_iload_n (kk := 3) g dX12_canBe_0 rfl rfl ?_
  refine S_iload_n (kk := 2) g dX12_canBe_1 rfl rfl ?_
  refine S_ishr g dX12_canBe_2 ?_
  refine S_iconst g dX12_canBe_3 ⟨by decide, by decide⟩ ?_
  refine S_iand g dX12_canBe_4 ?_
  refine S_if_ne (tgt := 36) g dX12_canBe_5 (by decide) ?_ ?_
  · refine S_iconst g dX12_canBe_36 ⟨by decide, by decide⟩ ?_
    exact S_zreturn g dX12_canBe_37 rfl
  · refine S_aload_n (kk := 0) g dX12_canBe_8 rfl rfl ?_
    refine S_getr g dX12_canBe_9 fl_Mod_51 (at_143 hw) rfl (rc_143_16 hw) ?_
    refine S_iload_n (kk := 2) g dX12_canBe_12 rfl rfl ?_
    refine S_zaload g dX12_canBe_13 (at_155 hw) ?_
    refine S_if_ne (tgt := 36) g dX12_canBe_14 (by decide) ?_ ?_
    · refine S_iconst g dX12_canBe_36 ⟨by decide, by decide⟩ ?_
      exact S_zreturn g dX12_canBe_37 rfl
    · refine S_aload_n (kk := 0) g dX12_canBe_17 rfl rfl ?_
      refine S_getr g dX12_canBe_18 fl_Mod_42 (at_143 hw) rfl (rc_143_13 hw) ?_
      refine S_iload_n (kk := 2) g dX12_canBe_21 rfl rfl ?_
      refine S_iaload g dX12_canBe_22 (at_152 hw) ?_
      refine S_aload_n (kk := 0) g dX12_canBe_23 rfl rfl ?_
      refine S_getr g dX12_canBe_24 fl_Mod_78 (at_143 hw) rfl (rc_143_31 hw) ?_
      refine S_iload_n (kk := 1) g dX12_canBe_27 rfl rfl ?_
      refine S_iaload g dX12_canBe_28 (at_162 hw) ?_
      refine S_icmp_ne (tgt := 36) g dX12_canBe_29 (by decide) ?_ ?_
      · refine S_iconst g dX12_canBe_36 ⟨by decide, by decide⟩ ?_
        exact S_zreturn g dX12_canBe_37 rfl
      · refine S_iconst g dX12_canBe_32 ⟨by decide, by decide⟩ ?_
        refine S_goto (tgt := 37) g dX12_canBe_33 (by decide) ?_
        exact S_zreturn g dX12_canBe_37 rfl

def XX12_place_p248  (self188 : Int → Int → Hp → OR) (self198 : Int → Int → Int → Hp → OR) (l1 l2 l3 : Int) (h : Hp) : OR :=
  chk (l3 + 1) (self198 l1 l2 (l3 + 1) h)
def XX12_place_b198  (self188 : Int → Int → Hp → OR) (self198 : Int → Int → Int → Hp → OR) (l1 l2 l3 : Int) (h : Hp) : OR :=
  cal (XX12_canBe l2 l3 l1 h) (fun r3 h4 => if r3 = 0 then XX12_place_p248 self188 self198 l1 l2 l3 h4 else inb (aor l1 (ashl 1 l3)) 4096 (if (h4 198 (aor l1 (ashl 1 l3)).toNat) = (-1) then XX12_place_p248 self188 self198 l1 l2 l3 h4 else cal (XX12_lengthOf l2 l3 h4) (fun r5 h6 => inb (aor l1 (ashl 1 l3)) 4096 (chk (r5 + (h6 198 (aor l1 (ashl 1 l3)).toNat)) (inb l1 4096 (if (r5 + (h6 198 (aor l1 (ashl 1 l3)).toNat)) = (h6 198 l1.toNat) then inb l2 24 (hm (wr h6 166 l2.toNat l3) (fun h7 => nm (aor l1 (ashl 1 l3)) (fun v8 => chk (l2 + 1) (self188 v8 (l2 + 1) h7)))) else XX12_place_p248 self188 self198 l1 l2 l3 h6))))))
def XX12_place_L198  (self188 : Int → Int → Hp → OR) (l1 l2 l3 : Int) (h : Hp) : OR := lup3 (XX12_place_b198 self188) FU l1 l2 l3 h
def XX12_place_b188   (self188 : Int → Int → Hp → OR) (l1 l2 : Int) (h : Hp) : OR :=
  if (h 143 27) ≤ l2 then zb 1 (hm (wr h 143 24 1) (fun h2 => inb 0 4096 (some ((h2 198 (0 : Int).toNat), h2)))) else XX12_place_L198 self188 l1 l2 0 h
def XX12_place_L188   (l1 l2 : Int) (h : Hp) : OR := lup2 (XX12_place_b188 ) FU l1 l2 h
def XX12_place_p165  (self32 : Int → Hp → OR) (l1 : Int) (h : Hp) : OR :=
  chk (l1 + (-1)) (self32 (l1 + (-1)) h)
def XX12_place_p159  (self32 : Int → Hp → OR) (self62 : Int → Int → Int → Hp → OR) (l1 l2 l3 : Int) (h : Hp) : OR :=
  chk (l3 + 1) (self62 l1 l2 (l3 + 1) h)
def XX12_place_p158  (self32 : Int → Hp → OR) (self62 : Int → Int → Int → Hp → OR) (l1 l2 l3 : Int) (s1 s2 : Int) (h : Hp) : OR :=
  inb s1 4096 (hm (wr h 198 s1.toNat s2) (fun h17 => XX12_place_p159 self32 self62 l1 l2 l3 h17))
def XX12_place_p147  (self32 : Int → Hp → OR) (self62 : Int → Int → Int → Hp → OR) (l1 l2 l3 l4 : Int) (s1 : Int) (h : Hp) : OR :=
  XX12_place_p158 self32 self62 l1 l2 l3 s1 l4 h
def XX12_place_b62  (self32 : Int → Hp → OR) (self62 : Int → Int → Int → Hp → OR) (l1 l2 l3 : Int) (h : Hp) : OR :=
  if (h 143 12) ≤ l3 then XX12_place_p165 self32 l1 h else if (h 143 27) ≤ l2 then XX12_place_p165 self32 l1 h else cal (XX12_canBe l2 l3 l1 h) (fun r12 h13 => if r12 = 0 then XX12_place_p159 self32 self62 l1 l2 l3 h13 else inb (aor l1 (ashl 1 l3)) 4096 (if (h13 198 (aor l1 (ashl 1 l3)).toNat) = (-1) then XX12_place_p159 self32 self62 l1 l2 l3 h13 else cal (XX12_lengthOf l2 l3 h13) (fun r14 h15 => inb (aor l1 (ashl 1 l3)) 4096 (chk (r14 + (h15 198 (aor l1 (ashl 1 l3)).toNat)) (nm (r14 + (h15 198 (aor l1 (ashl 1 l3)).toNat)) (fun v16 => inb l1 4096 (if (h15 198 l1.toNat) = (-1) then XX12_place_p147 self32 self62 l1 l2 l3 v16 l1 h15 else inb l1 4096 (if (h15 198 l1.toNat) ≤ v16 then inb l1 4096 (XX12_place_p158 self32 self62 l1 l2 l3 l1 (h15 198 l1.toNat) h15) else XX12_place_p147 self32 self62 l1 l2 l3 v16 l1 h15))))))))
def XX12_place_L62  (self32 : Int → Hp → OR) (l1 l2 l3 : Int) (h : Hp) : OR := lup3 (XX12_place_b62 self32) FU l1 l2 l3 h
def XX12_place_p59  (self32 : Int → Hp → OR) (l1 l2 : Int) (s1 s2 : Int) (h : Hp) : OR :=
  inb s1 4096 (hm (wr h 198 s1.toNat s2) (fun h11 => XX12_place_L62 self32 l1 l2 0 h11))
def XX12_place_b32   (self32 : Int → Hp → OR) (l1 : Int) (h : Hp) : OR :=
  if l1 < 0 then inb 0 4096 (if (h 198 (0 : Int).toNat) = (-1) then some ((-5), h) else XX12_place_L188 0 0 h) else cal (XX12_bits l1 h) (fun r9 h10 => if r9 = (h10 143 27) then XX12_place_p59 self32 l1 r9 l1 0 h10 else XX12_place_p59 self32 l1 r9 l1 (-1) h10)
def XX12_place_L32   (l1 : Int) (h : Hp) : OR := lup1 (XX12_place_b32 ) FU l1 h
def XX12_place  (h : Hp) : OR :=
  if (h 143 23) = 0 then some ((-1), h) else if (h 143 27) ≤ (h 143 12) then chk ((ashl 1 (h 143 12)) - 1) (nm ((ashl 1 (h 143 12)) - 1) (fun v1 => XX12_place_L32 v1 h)) else some ((-5), h)
theorem sX12_place_p248 {Γ : Cx} {w : Wd} (hw : okM w) (g : Gd Γ cX12_place 5 "GatePatchModel" (Option.some Jvm.ClassFile.FieldType.int) (rmd 4))  (self188 : Int → Int → Hp → OR) (hs188 : ∀ (x0 x1 : Int) (h : Hp), Sim Γ w 0 (self188 x0 x1 h) h 188 [(0, vP 143), (1, vI x0), (2, vI x1)] []) (self198 : Int → Int → Int → Hp → OR) (hs198 : ∀ (x0 x1 x2 : Int) (h : Hp), Sim Γ w 0 (self198 x0 x1 x2 h) h 198 [(0, vP 143), (1, vI x0), (2, vI x1), (3, vI x2)] []) (l1 l2 l3 : Int) (h : Hp) : Sim Γ w 0 (XX12_place_p248 self188 self198 l1 l2 l3  h) h 248 [(0, vP 143), (1, vI l1), (2, vI l2), (3, vI l3)] [] := by
  unfold XX12_place_p248
  refine S_iinc (kk := 3) g dX12_place_248 rfl (by decide) rfl ?_
  refine S_goto (tgt := 198) g dX12_place_251 (by decide) ?_
  refine S_sub g [1, 2, 3, 0] rfl ?_
  exact hs198 _ _ _ _

theorem sX12_place_L198 {Γ : Cx} {w : Wd} (hw : okM w) (g : Gd Γ cX12_place 5 "GatePatchModel" (Option.some Jvm.ClassFile.FieldType.int) (rmd 4))  (self188 : Int → Int → Hp → OR) (hs188 : ∀ (x0 x1 : Int) (h : Hp), Sim Γ w 0 (self188 x0 x1 h) h 188 [(0, vP 143), (1, vI x0), (2, vI x1)] []) : ∀ (l1 l2 l3 : Int) (h : Hp), Sim Γ w 0 (XX12_place_L198 self188 l1 l2 l3 h) h 198 [(0, vP 143), (1, vI l1), (2, vI l2), (3, vI l3)] [] := by
  refine S_lup3 (fun l1 l2 l3 => [(0, vP 143), (1, vI l1), (2, vI l2), (3, vI l3)]) (fun self198 hs198 l1 l2 l3 h => ?_) FU
  unfold XX12_place_b198
  refine S_aload_n (kk := 0) g dX12_place_198 rfl rfl ?_
  refine S_iload_n (kk := 2) g dX12_place_199 rfl rfl ?_
  refine S_iload_n (kk := 3) g dX12_place_200 rfl rfl ?_
  refine S_iload_n (kk := 1) g dX12_place_201 rfl rfl ?_
  refine S_callVi (As := [vI l2, vI l3, vI l1]) g dX12_place_202 (sX12_canBe hw _ _ _ _) rfl (at_143 hw) rfl im_X12_canBe se_X12_canBe cw_X12_canBe ml_Mod_445 ini_Mod nd_X12_canBe ⟨by decide, by decide⟩ (Nat.le_of_ble_eq_true rfl) (fun r3 h4 => ?_)
  refine S_if_eq (tgt := 248) g dX12_place_205 (by decide) ?_ ?_
  · exact sX12_place_p248 hw g self188 hs188 self198 hs198 _ _ _ _
  · refine S_aload_n (kk := 0) g dX12_place_208 rfl rfl ?_
    refine S_getr g dX12_place_209 fl_Mod_187 (at_143 hw) rfl (rc_143_77 hw) ?_
    refine S_iload_n (kk := 1) g dX12_place_212 rfl rfl ?_
    refine S_iconst g dX12_place_213 ⟨by decide, by decide⟩ ?_
    refine S_iload_n (kk := 3) g dX12_place_214 rfl rfl ?_
    refine S_ishl g dX12_place_215 ?_
    refine S_ior g dX12_place_216 ?_
    refine S_iaload g dX12_place_217 (at_198 hw) ?_
    refine S_iconst g dX12_place_218 ⟨by decide, by decide⟩ ?_
    refine S_icmp_eq (tgt := 248) g dX12_place_219 (by decide) ?_ ?_
    · exact sX12_place_p248 hw g self188 hs188 self198 hs198 _ _ _ _
    · refine S_aload_n (kk := 0) g dX12_place_222 rfl rfl ?_
      refine S_iload_n (kk := 2) g dX12_place_223 rfl rfl ?_
      refine S_iload_n (kk := 3) g dX12_place_224 rfl rfl ?_
      refine S_callVi (As := [vI l2, vI l3]) g dX12_place_225 (sX12_lengthOf hw _ _ _) rfl (at_143 hw) rfl im_X12_lengthOf se_X12_lengthOf cw_X12_lengthOf ml_Mod_448 ini_Mod nd_X12_lengthOf ⟨by decide, by decide⟩ (Nat.le_of_ble_eq_true rfl) (fun r5 h6 => ?_)
      refine S_aload_n (kk := 0) g dX12_place_228 rfl rfl ?_
      refine S_getr g dX12_place_229 fl_Mod_187 (at_143 hw) rfl (rc_143_77 hw) ?_
      refine S_iload_n (kk := 1) g dX12_place_232 rfl rfl ?_
      refine S_iconst g dX12_place_233 ⟨by decide, by decide⟩ ?_
      refine S_iload_n (kk := 3) g dX12_place_234 rfl rfl ?_
      refine S_ishl g dX12_place_235 ?_
      refine S_ior g dX12_place_236 ?_
      refine S_iaload g dX12_place_237 (at_198 hw) ?_
      refine S_iadd g dX12_place_238 ?_
      refine S_aload_n (kk := 0) g dX12_place_239 rfl rfl ?_
      refine S_getr g dX12_place_240 fl_Mod_187 (at_143 hw) rfl (rc_143_77 hw) ?_
      refine S_iload_n (kk := 1) g dX12_place_243 rfl rfl ?_
      refine S_iaload g dX12_place_244 (at_198 hw) ?_
      refine S_icmp_eq (tgt := 254) g dX12_place_245 (by decide) ?_ ?_
      · refine S_aload_n (kk := 0) g dX12_place_254 rfl rfl ?_
        refine S_getr g dX12_place_255 fl_Mod_90 (at_143 hw) rfl (rc_143_35 hw) ?_
        refine S_iload_n (kk := 2) g dX12_place_258 rfl rfl ?_
        refine S_iload_n (kk := 3) g dX12_place_259 rfl rfl ?_
        refine S_iastore g dX12_place_260 (at_166 hw) (fun h7 => ?_)
        refine S_iload_n (kk := 1) g dX12_place_261 rfl rfl ?_
        refine S_iconst g dX12_place_262 ⟨by decide, by decide⟩ ?_
        refine S_iload_n (kk := 3) g dX12_place_263 rfl rfl ?_
        refine S_ishl g dX12_place_264 ?_
        refine S_ior g dX12_place_265 ?_
        refine S_nmI (fun v8 => ?_)
        refine S_istore_n g dX12_place_266 rfl (by decide) rfl ?_
        refine S_iinc (kk := 2) g dX12_place_267 rfl (by decide) rfl ?_
        refine S_goto (tgt := 188) g dX12_place_270 (by decide) ?_
        refine S_sub g [2, 1, 0] rfl ?_
        exact hs188 _ _ _
      · exact sX12_place_p248 hw g self188 hs188 self198 hs198 _ _ _ _

theorem sX12_place_L188 {Γ : Cx} {w : Wd} (hw : okM w) (g : Gd Γ cX12_place 5 "GatePatchModel" (Option.some Jvm.ClassFile.FieldType.int) (rmd 4))   : ∀ (l1 l2 : Int) (h : Hp), Sim Γ w 0 (XX12_place_L188  l1 l2 h) h 188 [(0, vP 143), (1, vI l1), (2, vI l2)] [] := by
  refine S_lup2 (fun l1 l2 => [(0, vP 143), (1, vI l1), (2, vI l2)]) (fun self188 hs188 l1 l2 h => ?_) FU
  unfold XX12_place_b188
  refine S_iload_n (kk := 2) g dX12_place_188 rfl rfl ?_
  refine S_aload_n (kk := 0) g dX12_place_189 rfl rfl ?_
  refine S_geti g dX12_place_190 fl_Mod_381 (at_143 hw) (Or.inl rfl) ?_
  refine S_icmp_ge (tgt := 273) g dX12_place_193 (by decide) ?_ ?_
  · refine S_aload_n (kk := 0) g dX12_place_273 rfl rfl ?_
    refine S_iconst g dX12_place_274 ⟨by decide, by decide⟩ ?_
    refine S_putz g dX12_place_275 fp_Mod_405 (at_143 hw) rfl (fun h2 => ?_)
    refine S_aload_n (kk := 0) g dX12_place_278 rfl rfl ?_
    refine S_getr g dX12_place_279 fl_Mod_187 (at_143 hw) rfl (rc_143_77 hw) ?_
    refine S_iconst g dX12_place_282 ⟨by decide, by decide⟩ ?_
    refine S_iaload g dX12_place_283 (at_198 hw) ?_
    exact S_ireturn g dX12_place_284 rfl
  · refine S_iconst g dX12_place_196 ⟨by decide, by decide⟩ ?_
    refine S_istore_n g dX12_place_197 rfl (by decide) rfl ?_
    refine S_sub g [1, 2, 3, 0] rfl ?_
    exact sX12_place_L198 hw g self188 hs188 _ _ _ _

theorem sX12_place_p165 {Γ : Cx} {w : Wd} (hw : okM w) (g : Gd Γ cX12_place 5 "GatePatchModel" (Option.some Jvm.ClassFile.FieldType.int) (rmd 4))  (self32 : Int → Hp → OR) (hs32 : ∀ (x0 : Int) (h : Hp), Sim Γ w 0 (self32 x0 h) h 32 [(0, vP 143), (1, vI x0)] []) (l1 : Int) (h : Hp) : Sim Γ w 0 (XX12_place_p165 self32 l1  h) h 165 [(0, vP 143), (1, vI l1)] [] := by
  unfold XX12_place_p165
  refine S_iinc (kk := 1) g dX12_place_165 rfl (by decide) rfl ?_
  refine S_goto (tgt := 32) g dX12_place_168 (by decide) ?_
  refine S_sub g [1, 0] rfl ?_
  exact hs32 _ _

theorem sX12_place_p159 {Γ : Cx} {w : Wd} (hw : okM w) (g : Gd Γ cX12_place 5 "GatePatchModel" (Option.some Jvm.ClassFile.FieldType.int) (rmd 4))  (self32 : Int → Hp → OR) (hs32 : ∀ (x0 : Int) (h : Hp), Sim Γ w 0 (self32 x0 h) h 32 [(0, vP 143), (1, vI x0)] []) (self62 : Int → Int → Int → Hp → OR) (hs62 : ∀ (x0 x1 x2 : Int) (h : Hp), Sim Γ w 0 (self62 x0 x1 x2 h) h 62 [(0, vP 143), (1, vI x0), (2, vI x1), (3, vI x2)] []) (l1 l2 l3 : Int) (h : Hp) : Sim Γ w 0 (XX12_place_p159 self32 self62 l1 l2 l3  h) h 159 [(0, vP 143), (1, vI l1), (2, vI l2), (3, vI l3)] [] := by
  unfold XX12_place_p159
  refine S_iinc (kk := 3) g dX12_place_159 rfl (by decide) rfl ?_
  refine S_goto (tgt := 62) g dX12_place_162 (by decide) ?_
  refine S_sub g [1, 2, 3, 0] rfl ?_
  exact hs62 _ _ _ _

theorem sX12_place_p158 {Γ : Cx} {w : Wd} (hw : okM w) (g : Gd Γ cX12_place 5 "GatePatchModel" (Option.some Jvm.ClassFile.FieldType.int) (rmd 4))  (self32 : Int → Hp → OR) (hs32 : ∀ (x0 : Int) (h : Hp), Sim Γ w 0 (self32 x0 h) h 32 [(0, vP 143), (1, vI x0)] []) (self62 : Int → Int → Int → Hp → OR) (hs62 : ∀ (x0 x1 x2 : Int) (h : Hp), Sim Γ w 0 (self62 x0 x1 x2 h) h 62 [(0, vP 143), (1, vI x0), (2, vI x1), (3, vI x2)] []) (l1 l2 l3 : Int) (s1 s2 : Int) (h : Hp) : Sim Γ w 0 (XX12_place_p158 self32 self62 l1 l2 l3 s1 s2 h) h 158 [(0, vP 143), (1, vI l1), (2, vI l2), (3, vI l3)] [vI s2, vI s1, vP 198] := by
  unfold XX12_place_p158
  refine S_iastore g dX12_place_158 (at_198 hw) (fun h17 => ?_)
  exact sX12_place_p159 hw g self32 hs32 self62 hs62 _ _ _ _

theorem sX12_place_p147 {Γ : Cx} {w : Wd} (hw : okM w) (g : Gd Γ cX12_place 5 "GatePatchModel" (Option.some Jvm.ClassFile.FieldType.int) (rmd 4))  (self32 : Int → Hp → OR) (hs32 : ∀ (x0 : Int) (h : Hp), Sim Γ w 0 (self32 x0 h) h 32 [(0, vP 143), (1, vI x0)] []) (self62 : Int → Int → Int → Hp → OR) (hs62 : ∀ (x0 x1 x2 : Int) (h : Hp), Sim Γ w 0 (self62 x0 x1 x2 h) h 62 [(0, vP 143), (1, vI x0), (2, vI x1), (3, vI x2)] []) (l1 l2 l3 l4 : Int) (s1 : Int) (h : Hp) : Sim Γ w 0 (XX12_place_p147 self32 self62 l1 l2 l3 l4 s1 h) h 147 [(0, vP 143), (1, vI l1), (2, vI l2), (3, vI l3), (4, vI l4)] [vI s1, vP 198] := by
  unfold XX12_place_p147
  refine S_iload (kk := 4) g dX12_place_147 rfl ?_
  refine S_goto (tgt := 158) g dX12_place_149 (by decide) ?_
  refine S_sub g [0, 1, 2, 3] rfl ?_
  exact sX12_place_p158 hw g self32 hs32 self62 hs62 _ _ _ _ _ _

theorem sX12_place_L62 {Γ : Cx} {w : Wd} (hw : okM w) (g : Gd Γ cX12_place 5 "GatePatchModel" (Option.some Jvm.ClassFile.FieldType.int) (rmd 4))  (self32 : Int → Hp → OR) (hs32 : ∀ (x0 : Int) (h : Hp), Sim Γ w 0 (self32 x0 h) h 32 [(0, vP 143), (1, vI x0)] []) : ∀ (l1 l2 l3 : Int) (h : Hp), Sim Γ w 0 (XX12_place_L62 self32 l1 l2 l3 h) h 62 [(0, vP 143), (1, vI l1), (2, vI l2), (3, vI l3)] [] := by
  refine S_lup3 (fun l1 l2 l3 => [(0, vP 143), (1, vI l1), (2, vI l2), (3, vI l3)]) (fun self62 hs62 l1 l2 l3 h => ?_) FU
  unfold XX12_place_b62
  refine S_iload_n (kk := 3) g dX12_place_62 rfl rfl ?_
  refine S_aload_n (kk := 0) g dX12_place_63 rfl rfl ?_
  refine S_geti g dX12_place_64 fl_Mod_223 (at_143 hw) (Or.inl rfl) ?_
  refine S_icmp_ge (tgt := 165) g dX12_place_67 (by decide) ?_ ?_
  · refine S_sub g [0, 1] rfl ?_
    exact sX12_place_p165 hw g self32 hs32 _ _
  · refine S_iload_n (kk := 2) g dX12_place_70 rfl rfl ?_
    refine S_aload_n (kk := 0) g dX12_place_71 rfl rfl ?_
    refine S_geti g dX12_place_72 fl_Mod_381 (at_143 hw) (Or.inl rfl) ?_
    refine S_icmp_ge (tgt := 165) g dX12_place_75 (by decide) ?_ ?_
    · refine S_sub g [0, 1] rfl ?_
      exact sX12_place_p165 hw g self32 hs32 _ _
    · refine S_aload_n (kk := 0) g dX12_place_78 rfl rfl ?_
      refine S_iload_n (kk := 2) g dX12_place_79 rfl rfl ?_
      refine S_iload_n (kk := 3) g dX12_place_80 rfl rfl ?_
      refine S_iload_n (kk := 1) g dX12_place_81 rfl rfl ?_
      refine S_callVi (As := [vI l2, vI l3, vI l1]) g dX12_place_82 (sX12_canBe hw _ _ _ _) rfl (at_143 hw) rfl im_X12_canBe se_X12_canBe cw_X12_canBe ml_Mod_445 ini_Mod nd_X12_canBe ⟨by decide, by decide⟩ (Nat.le_of_ble_eq_true rfl) (fun r12 h13 => ?_)
      refine S_if_eq (tgt := 159) g dX12_place_85 (by decide) ?_ ?_
      · exact sX12_place_p159 hw g self32 hs32 self62 hs62 _ _ _ _
      · refine S_aload_n (kk := 0) g dX12_place_88 rfl rfl ?_
        refine S_getr g dX12_place_89 fl_Mod_187 (at_143 hw) rfl (rc_143_77 hw) ?_
        refine S_iload_n (kk := 1) g dX12_place_92 rfl rfl ?_
        refine S_iconst g dX12_place_93 ⟨by decide, by decide⟩ ?_
        refine S_iload_n (kk := 3) g dX12_place_94 rfl rfl ?_
        refine S_ishl g dX12_place_95 ?_
        refine S_ior g dX12_place_96 ?_
        refine S_iaload g dX12_place_97 (at_198 hw) ?_
        refine S_iconst g dX12_place_98 ⟨by decide, by decide⟩ ?_
        refine S_icmp_eq (tgt := 159) g dX12_place_99 (by decide) ?_ ?_
        · exact sX12_place_p159 hw g self32 hs32 self62 hs62 _ _ _ _
        · refine S_aload_n (kk := 0) g dX12_place_102 rfl rfl ?_
          refine S_iload_n (kk := 2) g dX12_place_103 rfl rfl ?_
          refine S_iload_n (kk := 3) g dX12_place_104 rfl rfl ?_
          refine S_callVi (As := [vI l2, vI l3]) g dX12_place_105 (sX12_lengthOf hw _ _ _) rfl (at_143 hw) rfl im_X12_lengthOf se_X12_lengthOf cw_X12_lengthOf ml_Mod_448 ini_Mod nd_X12_lengthOf ⟨by decide, by decide⟩ (Nat.le_of_ble_eq_true rfl) (fun r14 h15 => ?_)
          refine S_aload_n (kk := 0) g dX12_place_108 rfl rfl ?_
          refine S_getr g dX12_place_109 fl_Mod_187 (at_143 hw) rfl (rc_143_77 hw) ?_
          refine S_iload_n (kk := 1) g dX12_place_112 rfl rfl ?_
          refine S_iconst g dX12_place_113 ⟨by decide, by decide⟩ ?_
          refine S_iload_n (kk := 3) g dX12_place_114 rfl rfl ?_
          refine S_ishl g dX12_place_115 ?_
          refine S_ior g dX12_place_116 ?_
          refine S_iaload g dX12_place_117 (at_198 hw) ?_
          refine S_iadd g dX12_place_118 ?_
          refine S_nmI (fun v16 => ?_)
          refine S_istore g dX12_place_119 (by decide) rfl ?_
          refine S_aload_n (kk := 1) g dX12_place_121 rfl rfl ?_
          refine S_getr g dX12_place_122 fl_Mod_187 (at_143 hw) rfl (rc_143_77 hw) ?_
          refine S_iload_n (kk := 2) g dX12_place_125 rfl rfl ?_
          refine S_aload_n (kk := 1) g dX12_place_126 rfl rfl ?_
          refine S_getr g dX12_place_127 fl_Mod_187 (at_143 hw) rfl (rc_143_77 hw) ?_
          refine S_iload_n (kk := 2) g dX12_place_130 rfl rfl ?_
          refine S_iaload g dX12_place_131 (at_198 hw) ?_
          refine S_iconst g dX12_place_132 ⟨by decide, by decide⟩ ?_
          refine S_icmp_eq (tgt := 147) g dX12_place_133 (by decide) ?_ ?_
          · refine S_sub g [1, 2, 3, 4, 0] rfl ?_
            exact sX12_place_p147 hw g self32 hs32 self62 hs62 _ _ _ _ _ _
          · refine S_iload (kk := 0) g dX12_place_136 rfl ?_
            refine S_aload_n (kk := 1) g dX12_place_138 rfl rfl ?_
            refine S_getr g dX12_place_139 fl_Mod_187 (at_143 hw) rfl (rc_143_77 hw) ?_
            refine S_iload_n (kk := 2) g dX12_place_142 rfl rfl ?_
            refine S_iaload g dX12_place_143 (at_198 hw) ?_
            refine S_icmp_ge (tgt := 152) g dX12_place_144 (by decide) ?_ ?_
            · refine S_aload_n (kk := 1) g dX12_place_152 rfl rfl ?_
              refine S_getr g dX12_place_153 fl_Mod_187 (at_143 hw) rfl (rc_143_77 hw) ?_
              refine S_iload_n (kk := 2) g dX12_place_156 rfl rfl ?_
              refine S_iaload g dX12_place_157 (at_198 hw) ?_
              refine S_sub g [1, 2, 3, 4] rfl ?_
              exact sX12_place_p158 hw g self32 hs32 self62 hs62 _ _ _ _ _ _
            · refine S_sub g [1, 2, 3, 4, 0] rfl ?_
              exact sX12_place_p147 hw g self32 hs32 self62 hs62 _ _ _ _ _ _

theorem sX12_place_p59 {Γ : Cx} {w : Wd} (hw : okM w) (g : Gd Γ cX12_place 5 "GatePatchModel" (Option.some Jvm.ClassFile.FieldType.int) (rmd 4))  (self32 : Int → Hp → OR) (hs32 : ∀ (x0 : Int) (h : Hp), Sim Γ w 0 (self32 x0 h) h 32 [(0, vP 143), (1, vI x0)] []) (l1 l2 : Int) (s1 s2 : Int) (h : Hp) : Sim Γ w 0 (XX12_place_p59 self32 l1 l2 s1 s2 h) h 59 [(0, vP 143), (1, vI l1), (2, vI l2)] [vI s2, vI s1, vP 198] := by
  unfold XX12_place_p59
  refine S_iastore g dX12_place_59 (at_198 hw) (fun h11 => ?_)
  refine S_iconst g dX12_place_60 ⟨by decide, by decide⟩ ?_
  refine S_istore_n g dX12_place_61 rfl (by decide) rfl ?_
  refine S_sub g [1, 2, 3, 0] rfl ?_
  exact sX12_place_L62 hw g self32 hs32 _ _ _ _

theorem sX12_place_L32 {Γ : Cx} {w : Wd} (hw : okM w) (g : Gd Γ cX12_place 5 "GatePatchModel" (Option.some Jvm.ClassFile.FieldType.int) (rmd 4))   : ∀ (l1 : Int) (h : Hp), Sim Γ w 0 (XX12_place_L32  l1 h) h 32 [(0, vP 143), (1, vI l1)] [] := by
  refine S_lup1 (fun l1 => [(0, vP 143), (1, vI l1)]) (fun self32 hs32 l1 h => ?_) FU
  unfold XX12_place_b32
  refine S_iload_n (kk := 1) g dX12_place_32 rfl rfl ?_
  refine S_if_lt (tgt := 171) g dX12_place_33 (by decide) ?_ ?_
  · refine S_aload_n (kk := 0) g dX12_place_171 rfl rfl ?_
    refine S_getr g dX12_place_172 fl_Mod_187 (at_143 hw) rfl (rc_143_77 hw) ?_
    refine S_iconst g dX12_place_175 ⟨by decide, by decide⟩ ?_
    refine S_iaload g dX12_place_176 (at_198 hw) ?_
    refine S_iconst g dX12_place_177 ⟨by decide, by decide⟩ ?_
    refine S_icmp_ne (tgt := 184) g dX12_place_178 (by decide) ?_ ?_
    · refine S_iconst g dX12_place_184 ⟨by decide, by decide⟩ ?_
      refine S_istore_n g dX12_place_185 rfl (by decide) rfl ?_
      refine S_iconst g dX12_place_186 ⟨by decide, by decide⟩ ?_
      refine S_istore_n g dX12_place_187 rfl (by decide) rfl ?_
      refine S_sub g [2, 1, 0] rfl ?_
      exact sX12_place_L188 hw g _ _ _
    · refine S_bipush g dX12_place_181 ⟨by decide, by decide⟩ rfl ?_
      exact S_ireturn g dX12_place_183 rfl
  · refine S_iload_n (kk := 1) g dX12_place_36 rfl rfl ?_
    refine S_callSi (As := [vI l1]) g dX12_place_37 (sX12_bits hw _ _) rfl st_X12_bits cw_X12_bits ml_Mod_442 ini_Mod nd_X12_bits ⟨by decide, by decide⟩ (Nat.le_of_ble_eq_true rfl) (fun r9 h10 => ?_)
    refine S_istore_n g dX12_place_40 rfl (by decide) rfl ?_
    refine S_aload_n (kk := 1) g dX12_place_41 rfl rfl ?_
    refine S_getr g dX12_place_42 fl_Mod_187 (at_143 hw) rfl (rc_143_77 hw) ?_
    refine S_iload_n (kk := 2) g dX12_place_45 rfl rfl ?_
    refine S_iload_n (kk := 0) g dX12_place_46 rfl rfl ?_
    refine S_aload_n (kk := 1) g dX12_place_47 rfl rfl ?_
    refine S_geti g dX12_place_48 fl_Mod_381 (at_143 hw) (Or.inl rfl) ?_
    refine S_icmp_ne (tgt := 58) g dX12_place_51 (by decide) ?_ ?_
    · refine S_iconst g dX12_place_58 ⟨by decide, by decide⟩ ?_
      refine S_sub g [1, 2, 0] rfl ?_
      exact sX12_place_p59 hw g self32 hs32 _ _ _ _ _
    · refine S_iconst g dX12_place_54 ⟨by decide, by decide⟩ ?_
      refine S_goto (tgt := 59) g dX12_place_55 (by decide) ?_
      refine S_sub g [1, 2, 0] rfl ?_
      exact sX12_place_p59 hw g self32 hs32 _ _ _ _ _

theorem sX12_place {G : GG} {w : Wd} (hw : okM w)  (h : Hp) : SC G w yX12_place (Cond.code yX12_place cX12_place 5 (Option.some Jvm.ClassFile.FieldType.int)) 4 0 [vP 143] (XX12_place  h) h := by
  refine SC_of (own := "GatePatchModel") plain_Mod rfl (Nat.le_of_ble_eq_true rfl) (fun Γ hG g => ?_)
  subst hG
  show Sim Γ w 0 _ h 0 [(0, vP 143)] []
  unfold XX12_place
  refine S_aload_n (kk := 0) g dX12_place_0 rfl rfl ?_
  refine S_geti g dX12_place_1 fl_Mod_229 (at_143 hw) (Or.inr rfl) ?_
  refine S_if_ne (tgt := 9) g dX12_place_4 (by decide) ?_ ?_
  · refine S_aload_n (kk := 0) g dX12_place_9 rfl rfl ?_
    refine S_geti g dX12_place_10 fl_Mod_381 (at_143 hw) (Or.inl rfl) ?_
    refine S_aload_n (kk := 0) g dX12_place_13 rfl rfl ?_
    refine S_geti g dX12_place_14 fl_Mod_223 (at_143 hw) (Or.inl rfl) ?_
    refine S_icmp_le (tgt := 23) g dX12_place_17 (by decide) ?_ ?_
    · refine S_iconst g dX12_place_23 ⟨by decide, by decide⟩ ?_
      refine S_aload_n (kk := 0) g dX12_place_24 rfl rfl ?_
      refine S_geti g dX12_place_25 fl_Mod_223 (at_143 hw) (Or.inl rfl) ?_
      refine S_ishl g dX12_place_28 ?_
      refine S_iconst g dX12_place_29 ⟨by decide, by decide⟩ ?_
      refine S_isub g dX12_place_30 ?_
      refine S_nmI (fun v1 => ?_)
      refine S_istore_n g dX12_place_31 rfl (by decide) rfl ?_
      refine S_sub g [1, 0] rfl ?_
      exact sX12_place_L32 hw g _ _
    · refine S_bipush g dX12_place_20 ⟨by decide, by decide⟩ rfl ?_
      exact S_ireturn g dX12_place_22 rfl
  · refine S_iconst g dX12_place_7 ⟨by decide, by decide⟩ ?_
    exact S_ireturn g dX12_place_8 rfl

def XX12_used (x0 : Int) (h : Hp) : OR :=
  chk ((h 143 12) - 1) (cal (XX12_in x0 0 ((h 143 12) - 1) h) (fun r1 h2 => if r1 = 0 then some ((-1), h2) else inb x0 12 (if (h2 155 x0.toNat) = 0 then some (0, h2) else some (1, h2))))
theorem sX12_used {G : GG} {w : Wd} (hw : okM w) (x0 : Int) (h : Hp) : SC G w yX12_used (Cond.code yX12_used cX12_used 2 (Option.some Jvm.ClassFile.FieldType.int)) 2 0 [vP 143, vI x0] (XX12_used x0 h) h := by
  refine SC_of (own := "GatePatchModel") plain_Mod rfl (Nat.le_of_ble_eq_true rfl) (fun Γ hG g => ?_)
  subst hG
  show Sim Γ w 0 _ h 0 [(0, vP 143), (1, vI x0)] []
  unfold XX12_used
  refine S_iload_n (kk := 1) g dX12_used_0 rfl rfl ?_
  refine S_iconst g dX12_used_1 ⟨by decide, by decide⟩ ?_
  refine S_aload_n (kk := 0) g dX12_used_2 rfl rfl ?_
  refine S_geti g dX12_used_3 fl_Mod_223 (at_143 hw) (Or.inl rfl) ?_
  refine S_iconst g dX12_used_6 ⟨by decide, by decide⟩ ?_
  refine S_isub g dX12_used_7 ?_
  refine S_callSi (As := [vI x0, vI 0, vI ((h 143 12) - 1)]) g dX12_used_8 (sX12_in hw _ _ _ _) rfl st_X12_in cw_X12_in ml_Mod_212 ini_Mod nd_X12_in ⟨by decide, by decide⟩ (Nat.le_of_ble_eq_true rfl) (fun r1 h2 => ?_)
  refine S_if_ne (tgt := 18) g dX12_used_11 (by decide) ?_ ?_
  · refine S_aload_n (kk := 0) g dX12_used_18 rfl rfl ?_
    refine S_getr g dX12_used_19 fl_Mod_51 (at_143 hw) rfl (rc_143_16 hw) ?_
    refine S_iload_n (kk := 1) g dX12_used_22 rfl rfl ?_
    refine S_zaload g dX12_used_23 (at_155 hw) ?_
    refine S_if_eq (tgt := 31) g dX12_used_24 (by decide) ?_ ?_
    · refine S_iconst g dX12_used_31 ⟨by decide, by decide⟩ ?_
      exact S_ireturn g dX12_used_32 rfl
    · refine S_iconst g dX12_used_27 ⟨by decide, by decide⟩ ?_
      refine S_goto (tgt := 32) g dX12_used_28 (by decide) ?_
      exact S_ireturn g dX12_used_32 rfl
  · refine S_iconst g dX12_used_14 ⟨by decide, by decide⟩ ?_
    refine S_goto (tgt := 32) g dX12_used_15 (by decide) ?_
    exact S_ireturn g dX12_used_32 rfl

def XX12_delay (x0 : Int) (x1 : Int) (h : Hp) : OR :=
  cal (XX12_in x0 0 8 h) (fun r1 h2 => if r1 = 0 then some ((-1), h2) else cal (XX12_in x1 0 9 h2) (fun r3 h4 => if r3 = 0 then some ((-1), h4) else inb x0 9 (nm (h4 156 x0.toNat) (fun v5 => inb x0 9 (hm (wr h4 156 x0.toNat x1) (fun h6 => some (v5, h6)))))))
theorem sX12_delay {G : GG} {w : Wd} (hw : okM w) (x0 : Int) (x1 : Int) (h : Hp) : SC G w yX12_delay (Cond.code yX12_delay cX12_delay 4 (Option.some Jvm.ClassFile.FieldType.int)) 2 0 [vP 143, vI x0, vI x1] (XX12_delay x0 x1 h) h := by
  refine SC_of (own := "GatePatchModel") plain_Mod rfl (Nat.le_of_ble_eq_true rfl) (fun Γ hG g => ?_)
  subst hG
  show Sim Γ w 0 _ h 0 [(0, vP 143), (1, vI x0), (2, vI x1)] []
  unfold XX12_delay
  refine S_iload_n (kk := 1) g dX12_delay_0 rfl rfl ?_
  refine S_iconst g dX12_delay_1 ⟨by decide, by decide⟩ ?_
  refine S_bipush g dX12_delay_2 ⟨by decide, by decide⟩ rfl ?_
  refine S_callSi (As := [vI x0, vI 0, vI 8]) g dX12_delay_4 (sX12_in hw _ _ _ _) rfl st_X12_in cw_X12_in ml_Mod_212 ini_Mod nd_X12_in ⟨by decide, by decide⟩ (Nat.le_of_ble_eq_true rfl) (fun r1 h2 => ?_)
  refine S_if_eq (tgt := 20) g dX12_delay_7 (by decide) ?_ ?_
  · refine S_iconst g dX12_delay_20 ⟨by decide, by decide⟩ ?_
    exact S_ireturn g dX12_delay_21 rfl
  · refine S_iload_n (kk := 2) g dX12_delay_10 rfl rfl ?_
    refine S_iconst g dX12_delay_11 ⟨by decide, by decide⟩ ?_
    refine S_bipush g dX12_delay_12 ⟨by decide, by decide⟩ rfl ?_
    refine S_callSi (As := [vI x1, vI 0, vI 9]) g dX12_delay_14 (sX12_in hw _ _ _ _) rfl st_X12_in cw_X12_in ml_Mod_212 ini_Mod nd_X12_in ⟨by decide, by decide⟩ (Nat.le_of_ble_eq_true rfl) (fun r3 h4 => ?_)
    refine S_if_ne (tgt := 22) g dX12_delay_17 (by decide) ?_ ?_
    · refine S_aload_n (kk := 0) g dX12_delay_22 rfl rfl ?_
      refine S_getr g dX12_delay_23 fl_Mod_54 (at_143 hw) rfl (rc_143_17 hw) ?_
      refine S_iload_n (kk := 1) g dX12_delay_26 rfl rfl ?_
      refine S_iaload g dX12_delay_27 (at_156 hw) ?_
      refine S_nmI (fun v5 => ?_)
      refine S_istore_n g dX12_delay_28 rfl (by decide) rfl ?_
      refine S_aload_n (kk := 1) g dX12_delay_29 rfl rfl ?_
      refine S_getr g dX12_delay_30 fl_Mod_54 (at_143 hw) rfl (rc_143_17 hw) ?_
      refine S_iload_n (kk := 2) g dX12_delay_33 rfl rfl ?_
      refine S_iload_n (kk := 3) g dX12_delay_34 rfl rfl ?_
      refine S_iastore g dX12_delay_35 (at_156 hw) (fun h6 => ?_)
      refine S_iload_n (kk := 0) g dX12_delay_36 rfl rfl ?_
      exact S_ireturn g dX12_delay_37 rfl
    · refine S_iconst g dX12_delay_20 ⟨by decide, by decide⟩ ?_
      exact S_ireturn g dX12_delay_21 rfl

def XX12_arrivals_p125  (self30 : Int → Int → Hp → OR) (self66 : Int → Int → Int → Int → Int → Int → Hp → OR) (l1 l2 l3 l4 l6 : Int) (s0 : Int) (h : Hp) : OR :=
  chk (l6 + 1) (self66 l1 l2 l3 l4 s0 (l6 + 1) h)
def XX12_arrivals_b66  (self30 : Int → Int → Hp → OR) (self66 : Int → Int → Int → Int → Int → Int → Hp → OR) (l1 l2 l3 l4 l5 l6 : Int) (h : Hp) : OR :=
  inb l4 96 (cal (XX12_pinsOf (h 145 l4.toNat) h) (fun r7 h8 => if r7 ≤ l6 then inb l4 96 (inb (h8 145 l4.toNat) 9 (chk (l5 + (h8 156 (h8 145 l4.toNat).toNat)) (inb l3 48 (hm (wr h8 199 l3.toNat (l5 + (h8 156 (h8 145 l4.toNat).toNat))) (fun h9 => chk (l2 + 1) (self30 l1 (l2 + 1) h9)))))) else chk (3 * l4) (chk ((3 * l4) + l6) (inb ((3 * l4) + l6) 288 (inb (h8 146 ((3 * l4) + l6).toNat) 48 (if (h8 199 (h8 146 ((3 * l4) + l6).toNat).toNat) ≤ l5 then XX12_arrivals_p125 self30 self66 l1 l2 l3 l4 l6 l5 h8 else chk (3 * l4) (chk ((3 * l4) + l6) (inb ((3 * l4) + l6) 288 (inb (h8 146 ((3 * l4) + l6).toNat) 48 (XX12_arrivals_p125 self30 self66 l1 l2 l3 l4 l6 (h8 199 (h8 146 ((3 * l4) + l6).toNat).toNat) h8))))))))))
def XX12_arrivals_L66  (self30 : Int → Int → Hp → OR) (l1 l2 l3 l4 l5 l6 : Int) (h : Hp) : OR := lup6 (XX12_arrivals_b66 self30) FU l1 l2 l3 l4 l5 l6 h
def XX12_arrivals_b30   (self30 : Int → Int → Hp → OR) (l1 l2 : Int) (h : Hp) : OR :=
  inb l1 2 (if (h 144 l1.toNat) ≤ l2 then some (0, h) else chk (40 * l1) (chk ((40 * l1) + l2) (inb ((40 * l1) + l2) 80 (nm (h 186 ((40 * l1) + l2).toNat) (fun v5 => chk (48 * l1) (chk ((48 * l1) + v5) (nm ((48 * l1) + v5) (fun v6 => XX12_arrivals_L66 self30 l1 l2 v5 v6 0 0 h))))))))
def XX12_arrivals_L30   (l1 l2 : Int) (h : Hp) : OR := lup2 (XX12_arrivals_b30 ) FU l1 l2 h
def XX12_arrivals_b7   (self7 : Int → Int → Hp → OR) (l1 l2 : Int) (h : Hp) : OR :=
  cal (XX12_begun h) (fun r3 h4 => if r3 ≤ l2 then XX12_arrivals_L30 l1 0 h4 else inb l2 48 (hm (wr h4 199 l2.toNat 0) (fun h10 => chk (l2 + 1) (self7 l1 (l2 + 1) h10))))
def XX12_arrivals_L7   (l1 l2 : Int) (h : Hp) : OR := lup2 (XX12_arrivals_b7 ) FU l1 l2 h
def XX12_arrivals (x0 : Int) (h : Hp) : OR :=
  cal (XX12_sorts x0 h) (fun r1 h2 => XX12_arrivals_L7 x0 0 h2)
theorem sX12_arrivals_p125 {Γ : Cx} {w : Wd} (hw : okM w) (g : Gd Γ cX12_arrivals 7 "GatePatchModel" (Option.none : Option Jvm.ClassFile.FieldType) (rmd 4))  (self30 : Int → Int → Hp → OR) (hs30 : ∀ (x0 x1 : Int) (h : Hp), Sim Γ w 3 (self30 x0 x1 h) h 30 [(0, vP 143), (1, vI x0), (2, vI x1)] []) (self66 : Int → Int → Int → Int → Int → Int → Hp → OR) (hs66 : ∀ (x0 x1 x2 x3 x4 x5 : Int) (h : Hp), Sim Γ w 3 (self66 x0 x1 x2 x3 x4 x5 h) h 66 [(0, vP 143), (1, vI x0), (2, vI x1), (3, vI x2), (4, vI x3), (5, vI x4), (6, vI x5)] []) (l1 l2 l3 l4 l6 : Int) (s0 : Int) (h : Hp) : Sim Γ w 3 (XX12_arrivals_p125 self30 self66 l1 l2 l3 l4 l6 s0 h) h 125 [(0, vP 143), (1, vI l1), (2, vI l2), (3, vI l3), (4, vI l4), (6, vI l6)] [vI s0] := by
  unfold XX12_arrivals_p125
  refine S_istore g dX12_arrivals_125 (by decide) rfl ?_
  refine S_iinc (kk := 6) g dX12_arrivals_127 rfl (by decide) rfl ?_
  refine S_goto (tgt := 66) g dX12_arrivals_130 (by decide) ?_
  refine S_sub g [2, 3, 4, 5, 6, 1, 0] rfl ?_
  exact hs66 _ _ _ _ _ _ _

theorem sX12_arrivals_L66 {Γ : Cx} {w : Wd} (hw : okM w) (g : Gd Γ cX12_arrivals 7 "GatePatchModel" (Option.none : Option Jvm.ClassFile.FieldType) (rmd 4))  (self30 : Int → Int → Hp → OR) (hs30 : ∀ (x0 x1 : Int) (h : Hp), Sim Γ w 3 (self30 x0 x1 h) h 30 [(0, vP 143), (1, vI x0), (2, vI x1)] []) : ∀ (l1 l2 l3 l4 l5 l6 : Int) (h : Hp), Sim Γ w 3 (XX12_arrivals_L66 self30 l1 l2 l3 l4 l5 l6 h) h 66 [(0, vP 143), (1, vI l1), (2, vI l2), (3, vI l3), (4, vI l4), (5, vI l5), (6, vI l6)] [] := by
  refine S_lup6 (fun l1 l2 l3 l4 l5 l6 => [(0, vP 143), (1, vI l1), (2, vI l2), (3, vI l3), (4, vI l4), (5, vI l5), (6, vI l6)]) (fun self66 hs66 l1 l2 l3 l4 l5 l6 h => ?_) FU
  unfold XX12_arrivals_b66
  refine S_iload (kk := 6) g dX12_arrivals_66 rfl ?_
  refine S_aload_n (kk := 0) g dX12_arrivals_68 rfl rfl ?_
  refine S_getr g dX12_arrivals_69 fl_Mod_20 (at_143 hw) rfl (rc_143_5 hw) ?_
  refine S_iload (kk := 4) g dX12_arrivals_72 rfl ?_
  refine S_iaload g dX12_arrivals_74 (at_145 hw) ?_
  refine S_callSi (As := [vI (h 145 l4.toNat)]) g dX12_arrivals_75 (sX12_pinsOf hw _ _) rfl st_X12_pinsOf cw_X12_pinsOf ml_Mod_253 ini_Mod nd_X12_pinsOf ⟨by decide, by decide⟩ (Nat.le_of_ble_eq_true rfl) (fun r7 h8 => ?_)
  refine S_icmp_ge (tgt := 133) g dX12_arrivals_78 (by decide) ?_ ?_
  · refine S_aload_n (kk := 0) g dX12_arrivals_133 rfl rfl ?_
    refine S_getr g dX12_arrivals_134 fl_Mod_190 (at_143 hw) rfl (rc_143_78 hw) ?_
    refine S_iload_n (kk := 3) g dX12_arrivals_137 rfl rfl ?_
    refine S_iload (kk := 5) g dX12_arrivals_138 rfl ?_
    refine S_aload_n (kk := 0) g dX12_arrivals_140 rfl rfl ?_
    refine S_getr g dX12_arrivals_141 fl_Mod_54 (at_143 hw) rfl (rc_143_17 hw) ?_
    refine S_aload_n (kk := 0) g dX12_arrivals_144 rfl rfl ?_
    refine S_getr g dX12_arrivals_145 fl_Mod_20 (at_143 hw) rfl (rc_143_5 hw) ?_
    refine S_iload (kk := 4) g dX12_arrivals_148 rfl ?_
    refine S_iaload g dX12_arrivals_150 (at_145 hw) ?_
    refine S_iaload g dX12_arrivals_151 (at_156 hw) ?_
    refine S_iadd g dX12_arrivals_152 ?_
    refine S_iastore g dX12_arrivals_153 (at_199 hw) (fun h9 => ?_)
    refine S_iinc (kk := 2) g dX12_arrivals_154 rfl (by decide) rfl ?_
    refine S_goto (tgt := 30) g dX12_arrivals_157 (by decide) ?_
    refine S_sub g [1, 2, 0] rfl ?_
    exact hs30 _ _ _
  · refine S_aload_n (kk := 0) g dX12_arrivals_81 rfl rfl ?_
    refine S_getr g dX12_arrivals_82 fl_Mod_190 (at_143 hw) rfl (rc_143_78 hw) ?_
    refine S_aload_n (kk := 0) g dX12_arrivals_85 rfl rfl ?_
    refine S_getr g dX12_arrivals_86 fl_Mod_23 (at_143 hw) rfl (rc_143_6 hw) ?_
    refine S_iconst g dX12_arrivals_89 ⟨by decide, by decide⟩ ?_
    refine S_iload (kk := 4) g dX12_arrivals_90 rfl ?_
    refine S_imul g dX12_arrivals_92 ?_
    refine S_iload (kk := 6) g dX12_arrivals_93 rfl ?_
    refine S_iadd g dX12_arrivals_95 ?_
    refine S_iaload g dX12_arrivals_96 (at_146 hw) ?_
    refine S_iaload g dX12_arrivals_97 (at_199 hw) ?_
    refine S_iload (kk := 5) g dX12_arrivals_98 rfl ?_
    refine S_icmp_le (tgt := 123) g dX12_arrivals_100 (by decide) ?_ ?_
    · refine S_iload (kk := 5) g dX12_arrivals_123 rfl ?_
      refine S_sub g [0, 1, 2, 3, 4, 6] rfl ?_
      exact sX12_arrivals_p125 hw g self30 hs30 self66 hs66 _ _ _ _ _ _ _
    · refine S_aload_n (kk := 0) g dX12_arrivals_103 rfl rfl ?_
      refine S_getr g dX12_arrivals_104 fl_Mod_190 (at_143 hw) rfl (rc_143_78 hw) ?_
      refine S_aload_n (kk := 0) g dX12_arrivals_107 rfl rfl ?_
      refine S_getr g dX12_arrivals_108 fl_Mod_23 (at_143 hw) rfl (rc_143_6 hw) ?_
      refine S_iconst g dX12_arrivals_111 ⟨by decide, by decide⟩ ?_
      refine S_iload (kk := 4) g dX12_arrivals_112 rfl ?_
      refine S_imul g dX12_arrivals_114 ?_
      refine S_iload (kk := 6) g dX12_arrivals_115 rfl ?_
      refine S_iadd g dX12_arrivals_117 ?_
      refine S_iaload g dX12_arrivals_118 (at_146 hw) ?_
      refine S_iaload g dX12_arrivals_119 (at_199 hw) ?_
      refine S_goto (tgt := 125) g dX12_arrivals_120 (by decide) ?_
      refine S_sub g [0, 1, 2, 3, 4, 6] rfl ?_
      exact sX12_arrivals_p125 hw g self30 hs30 self66 hs66 _ _ _ _ _ _ _

theorem sX12_arrivals_L30 {Γ : Cx} {w : Wd} (hw : okM w) (g : Gd Γ cX12_arrivals 7 "GatePatchModel" (Option.none : Option Jvm.ClassFile.FieldType) (rmd 4))   : ∀ (l1 l2 : Int) (h : Hp), Sim Γ w 3 (XX12_arrivals_L30  l1 l2 h) h 30 [(0, vP 143), (1, vI l1), (2, vI l2)] [] := by
  refine S_lup2 (fun l1 l2 => [(0, vP 143), (1, vI l1), (2, vI l2)]) (fun self30 hs30 l1 l2 h => ?_) FU
  unfold XX12_arrivals_b30
  refine S_iload_n (kk := 2) g dX12_arrivals_30 rfl rfl ?_
  refine S_aload_n (kk := 0) g dX12_arrivals_31 rfl rfl ?_
  refine S_getr g dX12_arrivals_32 fl_Mod_16 (at_143 hw) rfl (rc_143_4 hw) ?_
  refine S_iload_n (kk := 1) g dX12_arrivals_35 rfl rfl ?_
  refine S_iaload g dX12_arrivals_36 (at_144 hw) ?_
  refine S_icmp_ge (tgt := 160) g dX12_arrivals_37 (by decide) ?_ ?_
  · exact S_return g dX12_arrivals_160 rfl
  · refine S_aload_n (kk := 0) g dX12_arrivals_40 rfl rfl ?_
    refine S_getr g dX12_arrivals_41 fl_Mod_151 (at_143 hw) rfl (rc_143_59 hw) ?_
    refine S_bipush g dX12_arrivals_44 ⟨by decide, by decide⟩ rfl ?_
    refine S_iload_n (kk := 1) g dX12_arrivals_46 rfl rfl ?_
    refine S_imul g dX12_arrivals_47 ?_
    refine S_iload_n (kk := 2) g dX12_arrivals_48 rfl rfl ?_
    refine S_iadd g dX12_arrivals_49 ?_
    refine S_iaload g dX12_arrivals_50 (at_186 hw) ?_
    refine S_nmI (fun v5 => ?_)
    refine S_istore_n g dX12_arrivals_51 rfl (by decide) rfl ?_
    refine S_bipush g dX12_arrivals_52 ⟨by decide, by decide⟩ rfl ?_
    refine S_iload_n (kk := 2) g dX12_arrivals_54 rfl rfl ?_
    refine S_imul g dX12_arrivals_55 ?_
    refine S_iload_n (kk := 0) g dX12_arrivals_56 rfl rfl ?_
    refine S_iadd g dX12_arrivals_57 ?_
    refine S_nmI (fun v6 => ?_)
    refine S_istore g dX12_arrivals_58 (by decide) rfl ?_
    refine S_iconst g dX12_arrivals_60 ⟨by decide, by decide⟩ ?_
    refine S_istore g dX12_arrivals_61 (by decide) rfl ?_
    refine S_iconst g dX12_arrivals_63 ⟨by decide, by decide⟩ ?_
    refine S_istore g dX12_arrivals_64 (by decide) rfl ?_
    refine S_sub g [4, 5, 6, 3, 2, 1, 0] rfl ?_
    exact sX12_arrivals_L66 hw g self30 hs30 _ _ _ _ _ _ _

theorem sX12_arrivals_L7 {Γ : Cx} {w : Wd} (hw : okM w) (g : Gd Γ cX12_arrivals 7 "GatePatchModel" (Option.none : Option Jvm.ClassFile.FieldType) (rmd 4))   : ∀ (l1 l2 : Int) (h : Hp), Sim Γ w 3 (XX12_arrivals_L7  l1 l2 h) h 7 [(0, vP 143), (1, vI l1), (2, vI l2)] [] := by
  refine S_lup2 (fun l1 l2 => [(0, vP 143), (1, vI l1), (2, vI l2)]) (fun self7 hs7 l1 l2 h => ?_) FU
  unfold XX12_arrivals_b7
  refine S_iload_n (kk := 2) g dX12_arrivals_7 rfl rfl ?_
  refine S_aload_n (kk := 0) g dX12_arrivals_8 rfl rfl ?_
  refine S_callVi (As := []) g dX12_arrivals_9 (sX12_begun hw  _) rfl (at_143 hw) rfl im_X12_begun se_X12_begun cw_X12_begun ml_Mod_208 ini_Mod nd_X12_begun ⟨by decide, by decide⟩ (Nat.le_of_ble_eq_true rfl) (fun r3 h4 => ?_)
  refine S_icmp_ge (tgt := 28) g dX12_arrivals_12 (by decide) ?_ ?_
  · refine S_iconst g dX12_arrivals_28 ⟨by decide, by decide⟩ ?_
    refine S_istore_n g dX12_arrivals_29 rfl (by decide) rfl ?_
    refine S_sub g [1, 2, 0] rfl ?_
    exact sX12_arrivals_L30 hw g _ _ _
  · refine S_aload_n (kk := 0) g dX12_arrivals_15 rfl rfl ?_
    refine S_getr g dX12_arrivals_16 fl_Mod_190 (at_143 hw) rfl (rc_143_78 hw) ?_
    refine S_iload_n (kk := 2) g dX12_arrivals_19 rfl rfl ?_
    refine S_iconst g dX12_arrivals_20 ⟨by decide, by decide⟩ ?_
    refine S_iastore g dX12_arrivals_21 (at_199 hw) (fun h10 => ?_)
    refine S_iinc (kk := 2) g dX12_arrivals_22 rfl (by decide) rfl ?_
    refine S_goto (tgt := 7) g dX12_arrivals_25 (by decide) ?_
    refine S_sub g [1, 2, 0] rfl ?_
    exact hs7 _ _ _

theorem sX12_arrivals {G : GG} {w : Wd} (hw : okM w) (x0 : Int) (h : Hp) : SC G w yX12_arrivals (Cond.code yX12_arrivals cX12_arrivals 7 (Option.none : Option Jvm.ClassFile.FieldType)) 4 3 [vP 143, vI x0] (XX12_arrivals x0 h) h := by
  refine SC_of (own := "GatePatchModel") plain_Mod rfl (Nat.le_of_ble_eq_true rfl) (fun Γ hG g => ?_)
  subst hG
  show Sim Γ w 3 _ h 0 [(0, vP 143), (1, vI x0)] []
  unfold XX12_arrivals
  refine S_aload_n (kk := 0) g dX12_arrivals_0 rfl rfl ?_
  refine S_iload_n (kk := 1) g dX12_arrivals_1 rfl rfl ?_
  refine S_callVv (As := [vI x0]) g dX12_arrivals_2 (sX12_sorts hw _ _) rfl (at_143 hw) rfl im_X12_sorts se_X12_sorts cw_X12_sorts ml_Mod_287 ini_Mod nd_X12_sorts ⟨by decide, by decide⟩ (Nat.le_of_ble_eq_true rfl) (fun r1 h2 => ?_)
  refine S_iconst g dX12_arrivals_5 ⟨by decide, by decide⟩ ?_
  refine S_istore_n g dX12_arrivals_6 rfl (by decide) rfl ?_
  refine S_sub g [1, 2, 0] rfl ?_
  exact sX12_arrivals_L7 hw g _ _ _

def XX12_arrive (x0 : Int) (x1 : Int) (h : Hp) : OR :=
  cal (XX12_isNet x0 h) (fun r1 h2 => if r1 = 0 then some ((-1), h2) else cal (XX12_isWire x0 x1 h2) (fun r3 h4 => if r3 = 0 then some ((-1), h4) else cal (XX12_arrivals x0 h4) (fun r5 h6 => inb x1 48 (some ((h6 199 x1.toNat), h6)))))
theorem sX12_arrive {G : GG} {w : Wd} (hw : okM w) (x0 : Int) (x1 : Int) (h : Hp) : SC G w yX12_arrive (Cond.code yX12_arrive cX12_arrive 3 (Option.some Jvm.ClassFile.FieldType.int)) 5 0 [vP 143, vI x0, vI x1] (XX12_arrive x0 x1 h) h := by
  refine SC_of (own := "GatePatchModel") plain_Mod rfl (Nat.le_of_ble_eq_true rfl) (fun Γ hG g => ?_)
  subst hG
  show Sim Γ w 0 _ h 0 [(0, vP 143), (1, vI x0), (2, vI x1)] []
  unfold XX12_arrive
  refine S_iload_n (kk := 1) g dX12_arrive_0 rfl rfl ?_
  refine S_callSi (As := [vI x0]) g dX12_arrive_1 (sX12_isNet hw _ _) rfl st_X12_isNet cw_X12_isNet ml_Mod_249 ini_Mod nd_X12_isNet ⟨by decide, by decide⟩ (Nat.le_of_ble_eq_true rfl) (fun r1 h2 => ?_)
  refine S_if_eq (tgt := 16) g dX12_arrive_4 (by decide) ?_ ?_
  · refine S_iconst g dX12_arrive_16 ⟨by decide, by decide⟩ ?_
    exact S_ireturn g dX12_arrive_17 rfl
  · refine S_aload_n (kk := 0) g dX12_arrive_7 rfl rfl ?_
    refine S_iload_n (kk := 1) g dX12_arrive_8 rfl rfl ?_
    refine S_iload_n (kk := 2) g dX12_arrive_9 rfl rfl ?_
    refine S_callVi (As := [vI x0, vI x1]) g dX12_arrive_10 (sX12_isWire hw _ _ _) rfl (at_143 hw) rfl im_X12_isWire se_X12_isWire cw_X12_isWire ml_Mod_245 ini_Mod nd_X12_isWire ⟨by decide, by decide⟩ (Nat.le_of_ble_eq_true rfl) (fun r3 h4 => ?_)
    refine S_if_ne (tgt := 18) g dX12_arrive_13 (by decide) ?_ ?_
    · refine S_aload_n (kk := 0) g dX12_arrive_18 rfl rfl ?_
      refine S_iload_n (kk := 1) g dX12_arrive_19 rfl rfl ?_
      refine S_callVv (As := [vI x0]) g dX12_arrive_20 (sX12_arrivals hw _ _) rfl (at_143 hw) rfl im_X12_arrivals se_X12_arrivals cw_X12_arrivals ml_Mod_451 ini_Mod nd_X12_arrivals ⟨by decide, by decide⟩ (Nat.le_of_ble_eq_true rfl) (fun r5 h6 => ?_)
      refine S_aload_n (kk := 0) g dX12_arrive_23 rfl rfl ?_
      refine S_getr g dX12_arrive_24 fl_Mod_190 (at_143 hw) rfl (rc_143_78 hw) ?_
      refine S_iload_n (kk := 2) g dX12_arrive_27 rfl rfl ?_
      refine S_iaload g dX12_arrive_28 (at_199 hw) ?_
      exact S_ireturn g dX12_arrive_29 rfl
    · refine S_iconst g dX12_arrive_16 ⟨by decide, by decide⟩ ?_
      exact S_ireturn g dX12_arrive_17 rfl

def XX12_late_p44  (self15 : Int → Int → Int → Hp → OR) (l1 l3 : Int) (s0 s1 : Int) (h : Hp) : OR :=
  chk (s0 + s1) (nm (s0 + s1) (fun v7 => chk (l3 + 1) (self15 l1 v7 (l3 + 1) h)))
def XX12_late_b15   (self15 : Int → Int → Int → Hp → OR) (l1 l2 l3 : Int) (h : Hp) : OR :=
  cal (XX12_observed h) (fun r3 h4 => if r3 ≤ l3 then some (l2, h4) else cal (XX12_seen 0 l3 h4) (fun r5 h6 => inb r5 48 (if (h6 199 r5.toNat) ≤ l1 then XX12_late_p44 self15 l1 l3 l2 0 h6 else XX12_late_p44 self15 l1 l3 l2 1 h6)))
def XX12_late_L15   (l1 l2 l3 : Int) (h : Hp) : OR := lup3 (XX12_late_b15 ) FU l1 l2 l3 h
def XX12_late (x0 : Int) (h : Hp) : OR :=
  if 0 ≤ x0 then cal (XX12_arrivals 0 h) (fun r1 h2 => XX12_late_L15 x0 0 0 h2) else some ((-1), h)
theorem sX12_late_p44 {Γ : Cx} {w : Wd} (hw : okM w) (g : Gd Γ cX12_late 4 "GatePatchModel" (Option.some Jvm.ClassFile.FieldType.int) (rmd 5))  (self15 : Int → Int → Int → Hp → OR) (hs15 : ∀ (x0 x1 x2 : Int) (h : Hp), Sim Γ w 0 (self15 x0 x1 x2 h) h 15 [(0, vP 143), (1, vI x0), (2, vI x1), (3, vI x2)] []) (l1 l3 : Int) (s0 s1 : Int) (h : Hp) : Sim Γ w 0 (XX12_late_p44 self15 l1 l3 s0 s1 h) h 44 [(0, vP 143), (1, vI l1), (3, vI l3)] [vI s1, vI s0] := by
  unfold XX12_late_p44
  refine S_iadd g dX12_late_44 ?_
  refine S_nmI (fun v7 => ?_)
  refine S_istore_n g dX12_late_45 rfl (by decide) rfl ?_
  refine S_iinc (kk := 3) g dX12_late_46 rfl (by decide) rfl ?_
  refine S_goto (tgt := 15) g dX12_late_49 (by decide) ?_
  refine S_sub g [2, 3, 1, 0] rfl ?_
  exact hs15 _ _ _ _

theorem sX12_late_L15 {Γ : Cx} {w : Wd} (hw : okM w) (g : Gd Γ cX12_late 4 "GatePatchModel" (Option.some Jvm.ClassFile.FieldType.int) (rmd 5))   : ∀ (l1 l2 l3 : Int) (h : Hp), Sim Γ w 0 (XX12_late_L15  l1 l2 l3 h) h 15 [(0, vP 143), (1, vI l1), (2, vI l2), (3, vI l3)] [] := by
  refine S_lup3 (fun l1 l2 l3 => [(0, vP 143), (1, vI l1), (2, vI l2), (3, vI l3)]) (fun self15 hs15 l1 l2 l3 h => ?_) FU
  unfold XX12_late_b15
  refine S_iload_n (kk := 3) g dX12_late_15 rfl rfl ?_
  refine S_aload_n (kk := 0) g dX12_late_16 rfl rfl ?_
  refine S_callVi (As := []) g dX12_late_17 (sX12_observed hw  _) rfl (at_143 hw) rfl im_X12_observed se_X12_observed cw_X12_observed ml_Mod_316 ini_Mod nd_X12_observed ⟨by decide, by decide⟩ (Nat.le_of_ble_eq_true rfl) (fun r3 h4 => ?_)
  refine S_icmp_ge (tgt := 52) g dX12_late_20 (by decide) ?_ ?_
  · refine S_iload_n (kk := 2) g dX12_late_52 rfl rfl ?_
    exact S_ireturn g dX12_late_53 rfl
  · refine S_iload_n (kk := 2) g dX12_late_23 rfl rfl ?_
    refine S_aload_n (kk := 0) g dX12_late_24 rfl rfl ?_
    refine S_getr g dX12_late_25 fl_Mod_190 (at_143 hw) rfl (rc_143_78 hw) ?_
    refine S_aload_n (kk := 0) g dX12_late_28 rfl rfl ?_
    refine S_iconst g dX12_late_29 ⟨by decide, by decide⟩ ?_
    refine S_iload_n (kk := 3) g dX12_late_30 rfl rfl ?_
    refine S_callVi (As := [vI 0, vI l3]) g dX12_late_31 (sX12_seen hw _ _ _) rfl (at_143 hw) rfl im_X12_seen se_X12_seen cw_X12_seen ml_Mod_319 ini_Mod nd_X12_seen ⟨by decide, by decide⟩ (Nat.le_of_ble_eq_true rfl) (fun r5 h6 => ?_)
    refine S_iaload g dX12_late_34 (at_199 hw) ?_
    refine S_iload_n (kk := 1) g dX12_late_35 rfl rfl ?_
    refine S_icmp_le (tgt := 43) g dX12_late_36 (by decide) ?_ ?_
    · refine S_iconst g dX12_late_43 ⟨by decide, by decide⟩ ?_
      refine S_sub g [0, 1, 3] rfl ?_
      exact sX12_late_p44 hw g self15 hs15 _ _ _ _ _
    · refine S_iconst g dX12_late_39 ⟨by decide, by decide⟩ ?_
      refine S_goto (tgt := 44) g dX12_late_40 (by decide) ?_
      refine S_sub g [0, 1, 3] rfl ?_
      exact sX12_late_p44 hw g self15 hs15 _ _ _ _ _

theorem sX12_late {G : GG} {w : Wd} (hw : okM w) (x0 : Int) (h : Hp) : SC G w yX12_late (Cond.code yX12_late cX12_late 4 (Option.some Jvm.ClassFile.FieldType.int)) 5 0 [vP 143, vI x0] (XX12_late x0 h) h := by
  refine SC_of (own := "GatePatchModel") plain_Mod rfl (Nat.le_of_ble_eq_true rfl) (fun Γ hG g => ?_)
  subst hG
  show Sim Γ w 0 _ h 0 [(0, vP 143), (1, vI x0)] []
  unfold XX12_late
  refine S_iload_n (kk := 1) g dX12_late_0 rfl rfl ?_
  refine S_if_ge (tgt := 6) g dX12_late_1 (by decide) ?_ ?_
  · refine S_aload_n (kk := 0) g dX12_late_6 rfl rfl ?_
    refine S_iconst g dX12_late_7 ⟨by decide, by decide⟩ ?_
    refine S_callVv (As := [vI 0]) g dX12_late_8 (sX12_arrivals hw _ _) rfl (at_143 hw) rfl im_X12_arrivals se_X12_arrivals cw_X12_arrivals ml_Mod_451 ini_Mod nd_X12_arrivals ⟨by decide, by decide⟩ (Nat.le_of_ble_eq_true rfl) (fun r1 h2 => ?_)
    refine S_iconst g dX12_late_11 ⟨by decide, by decide⟩ ?_
    refine S_istore_n g dX12_late_12 rfl (by decide) rfl ?_
    refine S_iconst g dX12_late_13 ⟨by decide, by decide⟩ ?_
    refine S_istore_n g dX12_late_14 rfl (by decide) rfl ?_
    refine S_sub g [2, 3, 1, 0] rfl ?_
    exact sX12_late_L15 hw g _ _ _ _
  · refine S_iconst g dX12_late_4 ⟨by decide, by decide⟩ ?_
    exact S_ireturn g dX12_late_5 rfl

def XX12_stores_b205   (self205 : Int → Int → Hp → OR) (l1 l2 : Int) (h : Hp) : OR :=
  if 12 ≤ l2 then some (0, h) else chk (12 * l1) (chk ((12 * l1) + l2) (inb l2 12 (inb ((12 * l1) + l2) 120 (zb (h 155 l2.toNat) (hm (wr h 184 ((12 * l1) + l2).toNat (h 155 l2.toNat)) (fun h5 => chk (l2 + 1) (self205 l1 (l2 + 1) h5)))))))
def XX12_stores_L205   (l1 l2 : Int) (h : Hp) : OR := lup2 (XX12_stores_b205 ) FU l1 l2 h
def XX12_stores_b176   (self176 : Int → Int → Hp → OR) (l1 l2 : Int) (h : Hp) : OR :=
  if 2 ≤ l2 then XX12_stores_L205 l1 0 h else chk (2 * l1) (chk ((2 * l1) + l2) (inb l2 4 (inb ((2 * l1) + l2) 20 (hm (wr h 181 ((2 * l1) + l2).toNat (h 148 l2.toNat)) (fun h6 => chk (l2 + 1) (self176 l1 (l2 + 1) h6))))))
def XX12_stores_L176   (l1 l2 : Int) (h : Hp) : OR := lup2 (XX12_stores_b176 ) FU l1 l2 h
def XX12_stores_b147   (self147 : Int → Int → Hp → OR) (l1 l2 : Int) (h : Hp) : OR :=
  if 4 ≤ l2 then XX12_stores_L176 l1 0 h else chk (4 * l1) (chk ((4 * l1) + l2) (inb l2 8 (inb ((4 * l1) + l2) 40 (hm (wr h 180 ((4 * l1) + l2).toNat (h 147 l2.toNat)) (fun h7 => chk (l2 + 1) (self147 l1 (l2 + 1) h7))))))
def XX12_stores_L147   (l1 l2 : Int) (h : Hp) : OR := lup2 (XX12_stores_b147 ) FU l1 l2 h
def XX12_stores_b103  (self44 : Int → Int → Hp → OR) (self103 : Int → Int → Int → Hp → OR) (l1 l2 l3 : Int) (h : Hp) : OR :=
  if 3 ≤ l3 then chk (l2 + 1) (self44 l1 (l2 + 1) h) else chk (48 * l1) (chk ((48 * l1) + l2) (chk (3 * ((48 * l1) + l2)) (chk ((3 * ((48 * l1) + l2)) + l3) (chk (3 * l2) (chk ((3 * l2) + l3) (inb ((3 * l2) + l3) 288 (inb ((3 * ((48 * l1) + l2)) + l3) 1440 (hm (wr h 179 ((3 * ((48 * l1) + l2)) + l3).toNat (h 146 ((3 * l2) + l3).toNat)) (fun h11 => chk (l3 + 1) (self103 l1 l2 (l3 + 1) h11))))))))))
def XX12_stores_L103  (self44 : Int → Int → Hp → OR) (l1 l2 l3 : Int) (h : Hp) : OR := lup3 (XX12_stores_b103 self44) FU l1 l2 l3 h
def XX12_stores_b44   (self44 : Int → Int → Hp → OR) (l1 l2 : Int) (h : Hp) : OR :=
  if 48 ≤ l2 then XX12_stores_L147 l1 0 h else chk (48 * l1) (chk ((48 * l1) + l2) (inb l2 96 (inb ((48 * l1) + l2) 480 (hm (wr h 178 ((48 * l1) + l2).toNat (h 145 l2.toNat)) (fun h8 => chk (48 * l1) (chk ((48 * l1) + l2) (inb l2 48 (inb ((48 * l1) + l2) 480 (hm (wr h8 182 ((48 * l1) + l2).toNat (h8 150 l2.toNat)) (fun h9 => chk (48 * l1) (chk ((48 * l1) + l2) (inb l2 48 (inb ((48 * l1) + l2) 480 (hm (wr h9 183 ((48 * l1) + l2).toNat (h9 151 l2.toNat)) (fun h10 => XX12_stores_L103 self44 l1 l2 0 h10)))))))))))))))
def XX12_stores_L44   (l1 l2 : Int) (h : Hp) : OR := lup2 (XX12_stores_b44 ) FU l1 l2 h
def XX12_stores (x0 : Int) (h : Hp) : OR :=
  inb x0 10 (hm (wr h 174 x0.toNat (h 143 1)) (fun h1 => inb x0 10 (hm (wr h1 175 x0.toNat (h1 143 2)) (fun h2 => inb x0 10 (hm (wr h2 176 x0.toNat (h2 143 3)) (fun h3 => inb 0 2 (inb x0 10 (hm (wr h3 177 x0.toNat (h3 144 (0 : Int).toNat)) (fun h4 => XX12_stores_L44 x0 0 h4)))))))))
theorem sX12_stores_L205 {Γ : Cx} {w : Wd} (hw : okM w) (g : Gd Γ cX12_stores 4 "GatePatchModel" (Option.none : Option Jvm.ClassFile.FieldType) (rmd 1))   : ∀ (l1 l2 : Int) (h : Hp), Sim Γ w 3 (XX12_stores_L205  l1 l2 h) h 205 [(0, vP 143), (1, vI l1), (2, vI l2)] [] := by
  refine S_lup2 (fun l1 l2 => [(0, vP 143), (1, vI l1), (2, vI l2)]) (fun self205 hs205 l1 l2 h => ?_) FU
  unfold XX12_stores_b205
  refine S_iload_n (kk := 2) g dX12_stores_205 rfl rfl ?_
  refine S_bipush g dX12_stores_206 ⟨by decide, by decide⟩ rfl ?_
  refine S_icmp_ge (tgt := 234) g dX12_stores_208 (by decide) ?_ ?_
  · exact S_return g dX12_stores_234 rfl
  · refine S_aload_n (kk := 0) g dX12_stores_211 rfl rfl ?_
    refine S_getr g dX12_stores_212 fl_Mod_145 (at_143 hw) rfl (rc_143_56 hw) ?_
    refine S_bipush g dX12_stores_215 ⟨by decide, by decide⟩ rfl ?_
    refine S_iload_n (kk := 1) g dX12_stores_217 rfl rfl ?_
    refine S_imul g dX12_stores_218 ?_
    refine S_iload_n (kk := 2) g dX12_stores_219 rfl rfl ?_
    refine S_iadd g dX12_stores_220 ?_
    refine S_aload_n (kk := 0) g dX12_stores_221 rfl rfl ?_
    refine S_getr g dX12_stores_222 fl_Mod_51 (at_143 hw) rfl (rc_143_16 hw) ?_
    refine S_iload_n (kk := 2) g dX12_stores_225 rfl rfl ?_
    refine S_zaload g dX12_stores_226 (at_155 hw) ?_
    refine S_zastore g dX12_stores_227 (at_184 hw) (fun h5 => ?_)
    refine S_iinc (kk := 2) g dX12_stores_228 rfl (by decide) rfl ?_
    refine S_goto (tgt := 205) g dX12_stores_231 (by decide) ?_
    refine S_sub g [1, 2, 0] rfl ?_
    exact hs205 _ _ _

theorem sX12_stores_L176 {Γ : Cx} {w : Wd} (hw : okM w) (g : Gd Γ cX12_stores 4 "GatePatchModel" (Option.none : Option Jvm.ClassFile.FieldType) (rmd 1))   : ∀ (l1 l2 : Int) (h : Hp), Sim Γ w 3 (XX12_stores_L176  l1 l2 h) h 176 [(0, vP 143), (1, vI l1), (2, vI l2)] [] := by
  refine S_lup2 (fun l1 l2 => [(0, vP 143), (1, vI l1), (2, vI l2)]) (fun self176 hs176 l1 l2 h => ?_) FU
  unfold XX12_stores_b176
  refine S_iload_n (kk := 2) g dX12_stores_176 rfl rfl ?_
  refine S_iconst g dX12_stores_177 ⟨by decide, by decide⟩ ?_
  refine S_icmp_ge (tgt := 203) g dX12_stores_178 (by decide) ?_ ?_
  · refine S_iconst g dX12_stores_203 ⟨by decide, by decide⟩ ?_
    refine S_istore_n g dX12_stores_204 rfl (by decide) rfl ?_
    refine S_sub g [1, 2, 0] rfl ?_
    exact sX12_stores_L205 hw g _ _ _
  · refine S_aload_n (kk := 0) g dX12_stores_181 rfl rfl ?_
    refine S_getr g dX12_stores_182 fl_Mod_136 (at_143 hw) rfl (rc_143_53 hw) ?_
    refine S_iconst g dX12_stores_185 ⟨by decide, by decide⟩ ?_
    refine S_iload_n (kk := 1) g dX12_stores_186 rfl rfl ?_
    refine S_imul g dX12_stores_187 ?_
    refine S_iload_n (kk := 2) g dX12_stores_188 rfl rfl ?_
    refine S_iadd g dX12_stores_189 ?_
    refine S_aload_n (kk := 0) g dX12_stores_190 rfl rfl ?_
    refine S_getr g dX12_stores_191 fl_Mod_29 (at_143 hw) rfl (rc_143_8 hw) ?_
    refine S_iload_n (kk := 2) g dX12_stores_194 rfl rfl ?_
    refine S_iaload g dX12_stores_195 (at_148 hw) ?_
    refine S_iastore g dX12_stores_196 (at_181 hw) (fun h6 => ?_)
    refine S_iinc (kk := 2) g dX12_stores_197 rfl (by decide) rfl ?_
    refine S_goto (tgt := 176) g dX12_stores_200 (by decide) ?_
    refine S_sub g [1, 2, 0] rfl ?_
    exact hs176 _ _ _

theorem sX12_stores_L147 {Γ : Cx} {w : Wd} (hw : okM w) (g : Gd Γ cX12_stores 4 "GatePatchModel" (Option.none : Option Jvm.ClassFile.FieldType) (rmd 1))   : ∀ (l1 l2 : Int) (h : Hp), Sim Γ w 3 (XX12_stores_L147  l1 l2 h) h 147 [(0, vP 143), (1, vI l1), (2, vI l2)] [] := by
  refine S_lup2 (fun l1 l2 => [(0, vP 143), (1, vI l1), (2, vI l2)]) (fun self147 hs147 l1 l2 h => ?_) FU
  unfold XX12_stores_b147
  refine S_iload_n (kk := 2) g dX12_stores_147 rfl rfl ?_
  refine S_iconst g dX12_stores_148 ⟨by decide, by decide⟩ ?_
  refine S_icmp_ge (tgt := 174) g dX12_stores_149 (by decide) ?_ ?_
  · refine S_iconst g dX12_stores_174 ⟨by decide, by decide⟩ ?_
    refine S_istore_n g dX12_stores_175 rfl (by decide) rfl ?_
    refine S_sub g [1, 2, 0] rfl ?_
    exact sX12_stores_L176 hw g _ _ _
  · refine S_aload_n (kk := 0) g dX12_stores_152 rfl rfl ?_
    refine S_getr g dX12_stores_153 fl_Mod_133 (at_143 hw) rfl (rc_143_52 hw) ?_
    refine S_iconst g dX12_stores_156 ⟨by decide, by decide⟩ ?_
    refine S_iload_n (kk := 1) g dX12_stores_157 rfl rfl ?_
    refine S_imul g dX12_stores_158 ?_
    refine S_iload_n (kk := 2) g dX12_stores_159 rfl rfl ?_
    refine S_iadd g dX12_stores_160 ?_
    refine S_aload_n (kk := 0) g dX12_stores_161 rfl rfl ?_
    refine S_getr g dX12_stores_162 fl_Mod_26 (at_143 hw) rfl (rc_143_7 hw) ?_
    refine S_iload_n (kk := 2) g dX12_stores_165 rfl rfl ?_
    refine S_iaload g dX12_stores_166 (at_147 hw) ?_
    refine S_iastore g dX12_stores_167 (at_180 hw) (fun h7 => ?_)
    refine S_iinc (kk := 2) g dX12_stores_168 rfl (by decide) rfl ?_
    refine S_goto (tgt := 147) g dX12_stores_171 (by decide) ?_
    refine S_sub g [1, 2, 0] rfl ?_
    exact hs147 _ _ _

theorem sX12_stores_L103 {Γ : Cx} {w : Wd} (hw : okM w) (g : Gd Γ cX12_stores 4 "GatePatchModel" (Option.none : Option Jvm.ClassFile.FieldType) (rmd 1))  (self44 : Int → Int → Hp → OR) (hs44 : ∀ (x0 x1 : Int) (h : Hp), Sim Γ w 3 (self44 x0 x1 h) h 44 [(0, vP 143), (1, vI x0), (2, vI x1)] []) : ∀ (l1 l2 l3 : Int) (h : Hp), Sim Γ w 3 (XX12_stores_L103 self44 l1 l2 l3 h) h 103 [(0, vP 143), (1, vI l1), (2, vI l2), (3, vI l3)] [] := by
  refine S_lup3 (fun l1 l2 l3 => [(0, vP 143), (1, vI l1), (2, vI l2), (3, vI l3)]) (fun self103 hs103 l1 l2 l3 h => ?_) FU
  unfold XX12_stores_b103
  refine S_iload_n (kk := 3) g dX12_stores_103 rfl rfl ?_
  refine S_iconst g dX12_stores_104 ⟨by decide, by decide⟩ ?_
  refine S_icmp_ge (tgt := 139) g dX12_stores_105 (by decide) ?_ ?_
  · refine S_iinc (kk := 2) g dX12_stores_139 rfl (by decide) rfl ?_
    refine S_goto (tgt := 44) g dX12_stores_142 (by decide) ?_
    refine S_sub g [1, 2, 0] rfl ?_
    exact hs44 _ _ _
  · refine S_aload_n (kk := 0) g dX12_stores_108 rfl rfl ?_
    refine S_getr g dX12_stores_109 fl_Mod_130 (at_143 hw) rfl (rc_143_51 hw) ?_
    refine S_iconst g dX12_stores_112 ⟨by decide, by decide⟩ ?_
    refine S_bipush g dX12_stores_113 ⟨by decide, by decide⟩ rfl ?_
    refine S_iload_n (kk := 1) g dX12_stores_115 rfl rfl ?_
    refine S_imul g dX12_stores_116 ?_
    refine S_iload_n (kk := 2) g dX12_stores_117 rfl rfl ?_
    refine S_iadd g dX12_stores_118 ?_
    refine S_imul g dX12_stores_119 ?_
    refine S_iload_n (kk := 3) g dX12_stores_120 rfl rfl ?_
    refine S_iadd g dX12_stores_121 ?_
    refine S_aload_n (kk := 0) g dX12_stores_122 rfl rfl ?_
    refine S_getr g dX12_stores_123 fl_Mod_23 (at_143 hw) rfl (rc_143_6 hw) ?_
    refine S_iconst g dX12_stores_126 ⟨by decide, by decide⟩ ?_
    refine S_iload_n (kk := 2) g dX12_stores_127 rfl rfl ?_
    refine S_imul g dX12_stores_128 ?_
    refine S_iload_n (kk := 3) g dX12_stores_129 rfl rfl ?_
    refine S_iadd g dX12_stores_130 ?_
    refine S_iaload g dX12_stores_131 (at_146 hw) ?_
    refine S_iastore g dX12_stores_132 (at_179 hw) (fun h11 => ?_)
    refine S_iinc (kk := 3) g dX12_stores_133 rfl (by decide) rfl ?_
    refine S_goto (tgt := 103) g dX12_stores_136 (by decide) ?_
    refine S_sub g [1, 2, 3, 0] rfl ?_
    exact hs103 _ _ _ _

theorem sX12_stores_L44 {Γ : Cx} {w : Wd} (hw : okM w) (g : Gd Γ cX12_stores 4 "GatePatchModel" (Option.none : Option Jvm.ClassFile.FieldType) (rmd 1))   : ∀ (l1 l2 : Int) (h : Hp), Sim Γ w 3 (XX12_stores_L44  l1 l2 h) h 44 [(0, vP 143), (1, vI l1), (2, vI l2)] [] := by
  refine S_lup2 (fun l1 l2 => [(0, vP 143), (1, vI l1), (2, vI l2)]) (fun self44 hs44 l1 l2 h => ?_) FU
  unfold XX12_stores_b44
  refine S_iload_n (kk := 2) g dX12_stores_44 rfl rfl ?_
  refine S_bipush g dX12_stores_45 ⟨by decide, by decide⟩ rfl ?_
  refine S_icmp_ge (tgt := 145) g dX12_stores_47 (by decide) ?_ ?_
  · refine S_iconst g dX12_stores_145 ⟨by decide, by decide⟩ ?_
    refine S_istore_n g dX12_stores_146 rfl (by decide) rfl ?_
    refine S_sub g [1, 2, 0] rfl ?_
    exact sX12_stores_L147 hw g _ _ _
  · refine S_aload_n (kk := 0) g dX12_stores_50 rfl rfl ?_
    refine S_getr g dX12_stores_51 fl_Mod_127 (at_143 hw) rfl (rc_143_50 hw) ?_
    refine S_bipush g dX12_stores_54 ⟨by decide, by decide⟩ rfl ?_
    refine S_iload_n (kk := 1) g dX12_stores_56 rfl rfl ?_
    refine S_imul g dX12_stores_57 ?_
    refine S_iload_n (kk := 2) g dX12_stores_58 rfl rfl ?_
    refine S_iadd g dX12_stores_59 ?_
    refine S_aload_n (kk := 0) g dX12_stores_60 rfl rfl ?_
    refine S_getr g dX12_stores_61 fl_Mod_20 (at_143 hw) rfl (rc_143_5 hw) ?_
    refine S_iload_n (kk := 2) g dX12_stores_64 rfl rfl ?_
    refine S_iaload g dX12_stores_65 (at_145 hw) ?_
    refine S_iastore g dX12_stores_66 (at_178 hw) (fun h8 => ?_)
    refine S_aload_n (kk := 0) g dX12_stores_67 rfl rfl ?_
    refine S_getr g dX12_stores_68 fl_Mod_139 (at_143 hw) rfl (rc_143_54 hw) ?_
    refine S_bipush g dX12_stores_71 ⟨by decide, by decide⟩ rfl ?_
    refine S_iload_n (kk := 1) g dX12_stores_73 rfl rfl ?_
    refine S_imul g dX12_stores_74 ?_
    refine S_iload_n (kk := 2) g dX12_stores_75 rfl rfl ?_
    refine S_iadd g dX12_stores_76 ?_
    refine S_aload_n (kk := 0) g dX12_stores_77 rfl rfl ?_
    refine S_getr g dX12_stores_78 fl_Mod_36 (at_143 hw) rfl (rc_143_10 hw) ?_
    refine S_iload_n (kk := 2) g dX12_stores_81 rfl rfl ?_
    refine S_iaload g dX12_stores_82 (at_150 hw) ?_
    refine S_iastore g dX12_stores_83 (at_182 hw) (fun h9 => ?_)
    refine S_aload_n (kk := 0) g dX12_stores_84 rfl rfl ?_
    refine S_getr g dX12_stores_85 fl_Mod_142 (at_143 hw) rfl (rc_143_55 hw) ?_
    refine S_bipush g dX12_stores_88 ⟨by decide, by decide⟩ rfl ?_
    refine S_iload_n (kk := 1) g dX12_stores_90 rfl rfl ?_
    refine S_imul g dX12_stores_91 ?_
    refine S_iload_n (kk := 2) g dX12_stores_92 rfl rfl ?_
    refine S_iadd g dX12_stores_93 ?_
    refine S_aload_n (kk := 0) g dX12_stores_94 rfl rfl ?_
    refine S_getr g dX12_stores_95 fl_Mod_39 (at_143 hw) rfl (rc_143_11 hw) ?_
    refine S_iload_n (kk := 2) g dX12_stores_98 rfl rfl ?_
    refine S_iaload g dX12_stores_99 (at_151 hw) ?_
    refine S_iastore g dX12_stores_100 (at_183 hw) (fun h10 => ?_)
    refine S_iconst g dX12_stores_101 ⟨by decide, by decide⟩ ?_
    refine S_istore_n g dX12_stores_102 rfl (by decide) rfl ?_
    refine S_sub g [1, 2, 3, 0] rfl ?_
    exact sX12_stores_L103 hw g self44 hs44 _ _ _ _

theorem sX12_stores {G : GG} {w : Wd} (hw : okM w) (x0 : Int) (h : Hp) : SC G w yX12_stores (Cond.code yX12_stores cX12_stores 4 (Option.none : Option Jvm.ClassFile.FieldType)) 1 3 [vP 143, vI x0] (XX12_stores x0 h) h := by
  refine SC_of (own := "GatePatchModel") plain_Mod rfl (Nat.le_of_ble_eq_true rfl) (fun Γ hG g => ?_)
  subst hG
  show Sim Γ w 3 _ h 0 [(0, vP 143), (1, vI x0)] []
  unfold XX12_stores
  refine S_aload_n (kk := 0) g dX12_stores_0 rfl rfl ?_
  refine S_getr g dX12_stores_1 fl_Mod_115 (at_143 hw) rfl (rc_143_46 hw) ?_
  refine S_iload_n (kk := 1) g dX12_stores_4 rfl rfl ?_
  refine S_aload_n (kk := 0) g dX12_stores_5 rfl rfl ?_
  refine S_geti g dX12_stores_6 fl_Mod_7 (at_143 hw) (Or.inl rfl) ?_
  refine S_iastore g dX12_stores_9 (at_174 hw) (fun h1 => ?_)
  refine S_aload_n (kk := 0) g dX12_stores_10 rfl rfl ?_
  refine S_getr g dX12_stores_11 fl_Mod_118 (at_143 hw) rfl (rc_143_47 hw) ?_
  refine S_iload_n (kk := 1) g dX12_stores_14 rfl rfl ?_
  refine S_aload_n (kk := 0) g dX12_stores_15 rfl rfl ?_
  refine S_geti g dX12_stores_16 fl_Mod_205 (at_143 hw) (Or.inl rfl) ?_
  refine S_iastore g dX12_stores_19 (at_175 hw) (fun h2 => ?_)
  refine S_aload_n (kk := 0) g dX12_stores_20 rfl rfl ?_
  refine S_getr g dX12_stores_21 fl_Mod_121 (at_143 hw) rfl (rc_143_48 hw) ?_
  refine S_iload_n (kk := 1) g dX12_stores_24 rfl rfl ?_
  refine S_aload_n (kk := 0) g dX12_stores_25 rfl rfl ?_
  refine S_geti g dX12_stores_26 fl_Mod_13 (at_143 hw) (Or.inl rfl) ?_
  refine S_iastore g dX12_stores_29 (at_176 hw) (fun h3 => ?_)
  refine S_aload_n (kk := 0) g dX12_stores_30 rfl rfl ?_
  refine S_getr g dX12_stores_31 fl_Mod_124 (at_143 hw) rfl (rc_143_49 hw) ?_
  refine S_iload_n (kk := 1) g dX12_stores_34 rfl rfl ?_
  refine S_aload_n (kk := 0) g dX12_stores_35 rfl rfl ?_
  refine S_getr g dX12_stores_36 fl_Mod_16 (at_143 hw) rfl (rc_143_4 hw) ?_
  refine S_iconst g dX12_stores_39 ⟨by decide, by decide⟩ ?_
  refine S_iaload g dX12_stores_40 (at_144 hw) ?_
  refine S_iastore g dX12_stores_41 (at_177 hw) (fun h4 => ?_)
  refine S_iconst g dX12_stores_42 ⟨by decide, by decide⟩ ?_
  refine S_istore_n g dX12_stores_43 rfl (by decide) rfl ?_
  refine S_sub g [1, 2, 0] rfl ?_
  exact sX12_stores_L44 hw g _ _ _

def XX12_brings_b171   (self171 : Int → Int → Hp → OR) (l1 l2 : Int) (h : Hp) : OR :=
  if 2 ≤ l2 then zb 0 (hm (wr h 143 23 0) (fun h2 => some (0, h2))) else chk (2 * l1) (chk ((2 * l1) + l2) (inb ((2 * l1) + l2) 20 (inb l2 4 (hm (wr h 148 l2.toNat (h 181 ((2 * l1) + l2).toNat)) (fun h3 => chk (l2 + 1) (self171 l1 (l2 + 1) h3))))))
def XX12_brings_L171   (l1 l2 : Int) (h : Hp) : OR := lup2 (XX12_brings_b171 ) FU l1 l2 h
def XX12_brings_b142   (self142 : Int → Int → Hp → OR) (l1 l2 : Int) (h : Hp) : OR :=
  if 4 ≤ l2 then XX12_brings_L171 l1 0 h else chk (4 * l1) (chk ((4 * l1) + l2) (inb ((4 * l1) + l2) 40 (inb l2 8 (hm (wr h 147 l2.toNat (h 180 ((4 * l1) + l2).toNat)) (fun h4 => chk (l2 + 1) (self142 l1 (l2 + 1) h4))))))
def XX12_brings_L142   (l1 l2 : Int) (h : Hp) : OR := lup2 (XX12_brings_b142 ) FU l1 l2 h
def XX12_brings_b98  (self14 : Int → Int → Hp → OR) (self98 : Int → Int → Int → Hp → OR) (l1 l2 l3 : Int) (h : Hp) : OR :=
  if 3 ≤ l3 then chk (l2 + 1) (self14 l1 (l2 + 1) h) else chk (3 * l2) (chk ((3 * l2) + l3) (chk (48 * l1) (chk ((48 * l1) + l2) (chk (3 * ((48 * l1) + l2)) (chk ((3 * ((48 * l1) + l2)) + l3) (inb ((3 * ((48 * l1) + l2)) + l3) 1440 (inb ((3 * l2) + l3) 288 (hm (wr h 146 ((3 * l2) + l3).toNat (h 179 ((3 * ((48 * l1) + l2)) + l3).toNat)) (fun h11 => chk (l3 + 1) (self98 l1 l2 (l3 + 1) h11))))))))))
def XX12_brings_L98  (self14 : Int → Int → Hp → OR) (l1 l2 l3 : Int) (h : Hp) : OR := lup3 (XX12_brings_b98 self14) FU l1 l2 l3 h
def XX12_brings_p95  (self14 : Int → Int → Hp → OR) (l1 l2 : Int) (s1 s2 : Int) (h : Hp) : OR :=
  inb s1 48 (hm (wr h 157 s1.toNat s2) (fun h10 => XX12_brings_L98 self14 l1 l2 0 h10))
def XX12_brings_b14   (self14 : Int → Int → Hp → OR) (l1 l2 : Int) (h : Hp) : OR :=
  if 48 ≤ l2 then XX12_brings_L142 l1 0 h else chk (48 * l1) (chk ((48 * l1) + l2) (inb ((48 * l1) + l2) 480 (inb l2 96 (hm (wr h 145 l2.toNat (h 178 ((48 * l1) + l2).toNat)) (fun h5 => chk (48 * l1) (chk ((48 * l1) + l2) (inb ((48 * l1) + l2) 480 (inb l2 48 (hm (wr h5 150 l2.toNat (h5 182 ((48 * l1) + l2).toNat)) (fun h6 => chk (48 * l1) (chk ((48 * l1) + l2) (inb ((48 * l1) + l2) 480 (inb l2 48 (hm (wr h6 151 l2.toNat (h6 183 ((48 * l1) + l2).toNat)) (fun h7 => cal (XX12_wires 0 h7) (fun r8 h9 => if r8 ≤ l2 then XX12_brings_p95 self14 l1 l2 l2 (-1) h9 else inb l2 48 (XX12_brings_p95 self14 l1 l2 l2 (h9 157 l2.toNat) h9)))))))))))))))))
def XX12_brings_L14   (l1 l2 : Int) (h : Hp) : OR := lup2 (XX12_brings_b14 ) FU l1 l2 h
def XX12_brings (x0 : Int) (h : Hp) : OR :=
  inb x0 10 (inb 0 2 (hm (wr h 144 (0 : Int).toNat (h 177 x0.toNat)) (fun h1 => XX12_brings_L14 x0 0 h1)))
theorem sX12_brings_L171 {Γ : Cx} {w : Wd} (hw : okM w) (g : Gd Γ cX12_brings 4 "GatePatchModel" (Option.none : Option Jvm.ClassFile.FieldType) (rmd 3))   : ∀ (l1 l2 : Int) (h : Hp), Sim Γ w 3 (XX12_brings_L171  l1 l2 h) h 171 [(0, vP 143), (1, vI l1), (2, vI l2)] [] := by
  refine S_lup2 (fun l1 l2 => [(0, vP 143), (1, vI l1), (2, vI l2)]) (fun self171 hs171 l1 l2 h => ?_) FU
  unfold XX12_brings_b171
  refine S_iload_n (kk := 2) g dX12_brings_171 rfl rfl ?_
  refine S_iconst g dX12_brings_172 ⟨by decide, by decide⟩ ?_
  refine S_icmp_ge (tgt := 198) g dX12_brings_173 (by decide) ?_ ?_
  · refine S_aload_n (kk := 0) g dX12_brings_198 rfl rfl ?_
    refine S_iconst g dX12_brings_199 ⟨by decide, by decide⟩ ?_
    refine S_putz g dX12_brings_200 fp_Mod_229 (at_143 hw) rfl (fun h2 => ?_)
    exact S_return g dX12_brings_203 rfl
  · refine S_aload_n (kk := 0) g dX12_brings_176 rfl rfl ?_
    refine S_getr g dX12_brings_177 fl_Mod_29 (at_143 hw) rfl (rc_143_8 hw) ?_
    refine S_iload_n (kk := 2) g dX12_brings_180 rfl rfl ?_
    refine S_aload_n (kk := 0) g dX12_brings_181 rfl rfl ?_
    refine S_getr g dX12_brings_182 fl_Mod_136 (at_143 hw) rfl (rc_143_53 hw) ?_
    refine S_iconst g dX12_brings_185 ⟨by decide, by decide⟩ ?_
    refine S_iload_n (kk := 1) g dX12_brings_186 rfl rfl ?_
    refine S_imul g dX12_brings_187 ?_
    refine S_iload_n (kk := 2) g dX12_brings_188 rfl rfl ?_
    refine S_iadd g dX12_brings_189 ?_
    refine S_iaload g dX12_brings_190 (at_181 hw) ?_
    refine S_iastore g dX12_brings_191 (at_148 hw) (fun h3 => ?_)
    refine S_iinc (kk := 2) g dX12_brings_192 rfl (by decide) rfl ?_
    refine S_goto (tgt := 171) g dX12_brings_195 (by decide) ?_
    refine S_sub g [1, 2, 0] rfl ?_
    exact hs171 _ _ _

theorem sX12_brings_L142 {Γ : Cx} {w : Wd} (hw : okM w) (g : Gd Γ cX12_brings 4 "GatePatchModel" (Option.none : Option Jvm.ClassFile.FieldType) (rmd 3))   : ∀ (l1 l2 : Int) (h : Hp), Sim Γ w 3 (XX12_brings_L142  l1 l2 h) h 142 [(0, vP 143), (1, vI l1), (2, vI l2)] [] := by
  refine S_lup2 (fun l1 l2 => [(0, vP 143), (1, vI l1), (2, vI l2)]) (fun self142 hs142 l1 l2 h => ?_) FU
  unfold XX12_brings_b142
  refine S_iload_n (kk := 2) g dX12_brings_142 rfl rfl ?_
  refine S_iconst g dX12_brings_143 ⟨by decide, by decide⟩ ?_
  refine S_icmp_ge (tgt := 169) g dX12_brings_144 (by decide) ?_ ?_
  · refine S_iconst g dX12_brings_169 ⟨by decide, by decide⟩ ?_
    refine S_istore_n g dX12_brings_170 rfl (by decide) rfl ?_
    refine S_sub g [1, 2, 0] rfl ?_
    exact sX12_brings_L171 hw g _ _ _
  · refine S_aload_n (kk := 0) g dX12_brings_147 rfl rfl ?_
    refine S_getr g dX12_brings_148 fl_Mod_26 (at_143 hw) rfl (rc_143_7 hw) ?_
    refine S_iload_n (kk := 2) g dX12_brings_151 rfl rfl ?_
    refine S_aload_n (kk := 0) g dX12_brings_152 rfl rfl ?_
    refine S_getr g dX12_brings_153 fl_Mod_133 (at_143 hw) rfl (rc_143_52 hw) ?_
    refine S_iconst g dX12_brings_156 ⟨by decide, by decide⟩ ?_
    refine S_iload_n (kk := 1) g dX12_brings_157 rfl rfl ?_
    refine S_imul g dX12_brings_158 ?_
    refine S_iload_n (kk := 2) g dX12_brings_159 rfl rfl ?_
    refine S_iadd g dX12_brings_160 ?_
    refine S_iaload g dX12_brings_161 (at_180 hw) ?_
    refine S_iastore g dX12_brings_162 (at_147 hw) (fun h4 => ?_)
    refine S_iinc (kk := 2) g dX12_brings_163 rfl (by decide) rfl ?_
    refine S_goto (tgt := 142) g dX12_brings_166 (by decide) ?_
    refine S_sub g [1, 2, 0] rfl ?_
    exact hs142 _ _ _

theorem sX12_brings_L98 {Γ : Cx} {w : Wd} (hw : okM w) (g : Gd Γ cX12_brings 4 "GatePatchModel" (Option.none : Option Jvm.ClassFile.FieldType) (rmd 3))  (self14 : Int → Int → Hp → OR) (hs14 : ∀ (x0 x1 : Int) (h : Hp), Sim Γ w 3 (self14 x0 x1 h) h 14 [(0, vP 143), (1, vI x0), (2, vI x1)] []) : ∀ (l1 l2 l3 : Int) (h : Hp), Sim Γ w 3 (XX12_brings_L98 self14 l1 l2 l3 h) h 98 [(0, vP 143), (1, vI l1), (2, vI l2), (3, vI l3)] [] := by
  refine S_lup3 (fun l1 l2 l3 => [(0, vP 143), (1, vI l1), (2, vI l2), (3, vI l3)]) (fun self98 hs98 l1 l2 l3 h => ?_) FU
  unfold XX12_brings_b98
  refine S_iload_n (kk := 3) g dX12_brings_98 rfl rfl ?_
  refine S_iconst g dX12_brings_99 ⟨by decide, by decide⟩ ?_
  refine S_icmp_ge (tgt := 134) g dX12_brings_100 (by decide) ?_ ?_
  · refine S_iinc (kk := 2) g dX12_brings_134 rfl (by decide) rfl ?_
    refine S_goto (tgt := 14) g dX12_brings_137 (by decide) ?_
    refine S_sub g [1, 2, 0] rfl ?_
    exact hs14 _ _ _
  · refine S_aload_n (kk := 0) g dX12_brings_103 rfl rfl ?_
    refine S_getr g dX12_brings_104 fl_Mod_23 (at_143 hw) rfl (rc_143_6 hw) ?_
    refine S_iconst g dX12_brings_107 ⟨by decide, by decide⟩ ?_
    refine S_iload_n (kk := 2) g dX12_brings_108 rfl rfl ?_
    refine S_imul g dX12_brings_109 ?_
    refine S_iload_n (kk := 3) g dX12_brings_110 rfl rfl ?_
    refine S_iadd g dX12_brings_111 ?_
    refine S_aload_n (kk := 0) g dX12_brings_112 rfl rfl ?_
    refine S_getr g dX12_brings_113 fl_Mod_130 (at_143 hw) rfl (rc_143_51 hw) ?_
    refine S_iconst g dX12_brings_116 ⟨by decide, by decide⟩ ?_
    refine S_bipush g dX12_brings_117 ⟨by decide, by decide⟩ rfl ?_
    refine S_iload_n (kk := 1) g dX12_brings_119 rfl rfl ?_
    refine S_imul g dX12_brings_120 ?_
    refine S_iload_n (kk := 2) g dX12_brings_121 rfl rfl ?_
    refine S_iadd g dX12_brings_122 ?_
    refine S_imul g dX12_brings_123 ?_
    refine S_iload_n (kk := 3) g dX12_brings_124 rfl rfl ?_
    refine S_iadd g dX12_brings_125 ?_
    refine S_iaload g dX12_brings_126 (at_179 hw) ?_
    refine S_iastore g dX12_brings_127 (at_146 hw) (fun h11 => ?_)
    refine S_iinc (kk := 3) g dX12_brings_128 rfl (by decide) rfl ?_
    refine S_goto (tgt := 98) g dX12_brings_131 (by decide) ?_
    refine S_sub g [1, 2, 3, 0] rfl ?_
    exact hs98 _ _ _ _

theorem sX12_brings_p95 {Γ : Cx} {w : Wd} (hw : okM w) (g : Gd Γ cX12_brings 4 "GatePatchModel" (Option.none : Option Jvm.ClassFile.FieldType) (rmd 3))  (self14 : Int → Int → Hp → OR) (hs14 : ∀ (x0 x1 : Int) (h : Hp), Sim Γ w 3 (self14 x0 x1 h) h 14 [(0, vP 143), (1, vI x0), (2, vI x1)] []) (l1 l2 : Int) (s1 s2 : Int) (h : Hp) : Sim Γ w 3 (XX12_brings_p95 self14 l1 l2 s1 s2 h) h 95 [(0, vP 143), (1, vI l1), (2, vI l2)] [vI s2, vI s1, vP 157] := by
  unfold XX12_brings_p95
  refine S_iastore g dX12_brings_95 (at_157 hw) (fun h10 => ?_)
  refine S_iconst g dX12_brings_96 ⟨by decide, by decide⟩ ?_
  refine S_istore_n g dX12_brings_97 rfl (by decide) rfl ?_
  refine S_sub g [1, 2, 3, 0] rfl ?_
  exact sX12_brings_L98 hw g self14 hs14 _ _ _ _

theorem sX12_brings_L14 {Γ : Cx} {w : Wd} (hw : okM w) (g : Gd Γ cX12_brings 4 "GatePatchModel" (Option.none : Option Jvm.ClassFile.FieldType) (rmd 3))   : ∀ (l1 l2 : Int) (h : Hp), Sim Γ w 3 (XX12_brings_L14  l1 l2 h) h 14 [(0, vP 143), (1, vI l1), (2, vI l2)] [] := by
  refine S_lup2 (fun l1 l2 => [(0, vP 143), (1, vI l1), (2, vI l2)]) (fun self14 hs14 l1 l2 h => ?_) FU
  unfold XX12_brings_b14
  refine S_iload_n (kk := 2) g dX12_brings_14 rfl rfl ?_
  refine S_bipush g dX12_brings_15 ⟨by decide, by decide⟩ rfl ?_
  refine S_icmp_ge (tgt := 140) g dX12_brings_17 (by decide) ?_ ?_
  · refine S_iconst g dX12_brings_140 ⟨by decide, by decide⟩ ?_
    refine S_istore_n g dX12_brings_141 rfl (by decide) rfl ?_
    refine S_sub g [1, 2, 0] rfl ?_
    exact sX12_brings_L142 hw g _ _ _
  · refine S_aload_n (kk := 0) g dX12_brings_20 rfl rfl ?_
    refine S_getr g dX12_brings_21 fl_Mod_20 (at_143 hw) rfl (rc_143_5 hw) ?_
    refine S_iload_n (kk := 2) g dX12_brings_24 rfl rfl ?_
    refine S_aload_n (kk := 0) g dX12_brings_25 rfl rfl ?_
    refine S_getr g dX12_brings_26 fl_Mod_127 (at_143 hw) rfl (rc_143_50 hw) ?_
    refine S_bipush g dX12_brings_29 ⟨by decide, by decide⟩ rfl ?_
    refine S_iload_n (kk := 1) g dX12_brings_31 rfl rfl ?_
    refine S_imul g dX12_brings_32 ?_
    refine S_iload_n (kk := 2) g dX12_brings_33 rfl rfl ?_
    refine S_iadd g dX12_brings_34 ?_
    refine S_iaload g dX12_brings_35 (at_178 hw) ?_
    refine S_iastore g dX12_brings_36 (at_145 hw) (fun h5 => ?_)
    refine S_aload_n (kk := 0) g dX12_brings_37 rfl rfl ?_
    refine S_getr g dX12_brings_38 fl_Mod_36 (at_143 hw) rfl (rc_143_10 hw) ?_
    refine S_iload_n (kk := 2) g dX12_brings_41 rfl rfl ?_
    refine S_aload_n (kk := 0) g dX12_brings_42 rfl rfl ?_
    refine S_getr g dX12_brings_43 fl_Mod_139 (at_143 hw) rfl (rc_143_54 hw) ?_
    refine S_bipush g dX12_brings_46 ⟨by decide, by decide⟩ rfl ?_
    refine S_iload_n (kk := 1) g dX12_brings_48 rfl rfl ?_
    refine S_imul g dX12_brings_49 ?_
    refine S_iload_n (kk := 2) g dX12_brings_50 rfl rfl ?_
    refine S_iadd g dX12_brings_51 ?_
    refine S_iaload g dX12_brings_52 (at_182 hw) ?_
    refine S_iastore g dX12_brings_53 (at_150 hw) (fun h6 => ?_)
    refine S_aload_n (kk := 0) g dX12_brings_54 rfl rfl ?_
    refine S_getr g dX12_brings_55 fl_Mod_39 (at_143 hw) rfl (rc_143_11 hw) ?_
    refine S_iload_n (kk := 2) g dX12_brings_58 rfl rfl ?_
    refine S_aload_n (kk := 0) g dX12_brings_59 rfl rfl ?_
    refine S_getr g dX12_brings_60 fl_Mod_142 (at_143 hw) rfl (rc_143_55 hw) ?_
    refine S_bipush g dX12_brings_63 ⟨by decide, by decide⟩ rfl ?_
    refine S_iload_n (kk := 1) g dX12_brings_65 rfl rfl ?_
    refine S_imul g dX12_brings_66 ?_
    refine S_iload_n (kk := 2) g dX12_brings_67 rfl rfl ?_
    refine S_iadd g dX12_brings_68 ?_
    refine S_iaload g dX12_brings_69 (at_183 hw) ?_
    refine S_iastore g dX12_brings_70 (at_151 hw) (fun h7 => ?_)
    refine S_aload_n (kk := 0) g dX12_brings_71 rfl rfl ?_
    refine S_getr g dX12_brings_72 fl_Mod_57 (at_143 hw) rfl (rc_143_18 hw) ?_
    refine S_iload_n (kk := 2) g dX12_brings_75 rfl rfl ?_
    refine S_iload_n (kk := 2) g dX12_brings_76 rfl rfl ?_
    refine S_aload_n (kk := 0) g dX12_brings_77 rfl rfl ?_
    refine S_iconst g dX12_brings_78 ⟨by decide, by decide⟩ ?_
    refine S_callVi (As := [vI 0]) g dX12_brings_79 (sX12_wires hw _ _) rfl (at_143 hw) rfl im_X12_wires se_X12_wires cw_X12_wires ml_Mod_216 ini_Mod nd_X12_wires ⟨by decide, by decide⟩ (Nat.le_of_ble_eq_true rfl) (fun r8 h9 => ?_)
    refine S_icmp_ge (tgt := 94) g dX12_brings_82 (by decide) ?_ ?_
    · refine S_iconst g dX12_brings_94 ⟨by decide, by decide⟩ ?_
      exact sX12_brings_p95 hw g self14 hs14 _ _ _ _ _
    · refine S_aload_n (kk := 0) g dX12_brings_85 rfl rfl ?_
      refine S_getr g dX12_brings_86 fl_Mod_57 (at_143 hw) rfl (rc_143_18 hw) ?_
      refine S_iload_n (kk := 2) g dX12_brings_89 rfl rfl ?_
      refine S_iaload g dX12_brings_90 (at_157 hw) ?_
      refine S_goto (tgt := 95) g dX12_brings_91 (by decide) ?_
      exact sX12_brings_p95 hw g self14 hs14 _ _ _ _ _

theorem sX12_brings {G : GG} {w : Wd} (hw : okM w) (x0 : Int) (h : Hp) : SC G w yX12_brings (Cond.code yX12_brings cX12_brings 4 (Option.none : Option Jvm.ClassFile.FieldType)) 3 3 [vP 143, vI x0] (XX12_brings x0 h) h := by
  refine SC_of (own := "GatePatchModel") plain_Mod rfl (Nat.le_of_ble_eq_true rfl) (fun Γ hG g => ?_)
  subst hG
  show Sim Γ w 3 _ h 0 [(0, vP 143), (1, vI x0)] []
  unfold XX12_brings
  refine S_aload_n (kk := 0) g dX12_brings_0 rfl rfl ?_
  refine S_getr g dX12_brings_1 fl_Mod_16 (at_143 hw) rfl (rc_143_4 hw) ?_
  refine S_iconst g dX12_brings_4 ⟨by decide, by decide⟩ ?_
  refine S_aload_n (kk := 0) g dX12_brings_5 rfl rfl ?_
  refine S_getr g dX12_brings_6 fl_Mod_124 (at_143 hw) rfl (rc_143_49 hw) ?_
  refine S_iload_n (kk := 1) g dX12_brings_9 rfl rfl ?_
  refine S_iaload g dX12_brings_10 (at_177 hw) ?_
  refine S_iastore g dX12_brings_11 (at_144 hw) (fun h1 => ?_)
  refine S_iconst g dX12_brings_12 ⟨by decide, by decide⟩ ?_
  refine S_istore_n g dX12_brings_13 rfl (by decide) rfl ?_
  refine S_sub g [1, 2, 0] rfl ?_
  exact sX12_brings_L14 hw g _ _ _

def XX12_moves_b243   (self243 : Int → Int → Int → Hp → OR) (l1 l2 l3 : Int) (h : Hp) : OR :=
  if 12 ≤ l3 then some (0, h) else chk (12 * l2) (chk ((12 * l2) + l3) (chk (12 * l1) (chk ((12 * l1) + l3) (inb ((12 * l1) + l3) 120 (inb ((12 * l2) + l3) 120 (zb (h 184 ((12 * l1) + l3).toNat) (hm (wr h 184 ((12 * l2) + l3).toNat (h 184 ((12 * l1) + l3).toNat)) (fun h5 => chk (l3 + 1) (self243 l1 l2 (l3 + 1) h5)))))))))
def XX12_moves_L243   (l1 l2 l3 : Int) (h : Hp) : OR := lup3 (XX12_moves_b243 ) FU l1 l2 l3 h
def XX12_moves_b210   (self210 : Int → Int → Int → Hp → OR) (l1 l2 l3 : Int) (h : Hp) : OR :=
  if 2 ≤ l3 then XX12_moves_L243 l1 l2 0 h else chk (2 * l2) (chk ((2 * l2) + l3) (chk (2 * l1) (chk ((2 * l1) + l3) (inb ((2 * l1) + l3) 20 (inb ((2 * l2) + l3) 20 (hm (wr h 181 ((2 * l2) + l3).toNat (h 181 ((2 * l1) + l3).toNat)) (fun h6 => chk (l3 + 1) (self210 l1 l2 (l3 + 1) h6))))))))
def XX12_moves_L210   (l1 l2 l3 : Int) (h : Hp) : OR := lup3 (XX12_moves_b210 ) FU l1 l2 l3 h
def XX12_moves_b177   (self177 : Int → Int → Int → Hp → OR) (l1 l2 l3 : Int) (h : Hp) : OR :=
  if 4 ≤ l3 then XX12_moves_L210 l1 l2 0 h else chk (4 * l2) (chk ((4 * l2) + l3) (chk (4 * l1) (chk ((4 * l1) + l3) (inb ((4 * l1) + l3) 40 (inb ((4 * l2) + l3) 40 (hm (wr h 180 ((4 * l2) + l3).toNat (h 180 ((4 * l1) + l3).toNat)) (fun h7 => chk (l3 + 1) (self177 l1 l2 (l3 + 1) h7))))))))
def XX12_moves_L177   (l1 l2 l3 : Int) (h : Hp) : OR := lup3 (XX12_moves_b177 ) FU l1 l2 l3 h
def XX12_moves_b125  (self50 : Int → Int → Int → Hp → OR) (self125 : Int → Int → Int → Int → Hp → OR) (l1 l2 l3 l4 : Int) (h : Hp) : OR :=
  if 3 ≤ l4 then chk (l3 + 1) (self50 l1 l2 (l3 + 1) h) else chk (48 * l2) (chk ((48 * l2) + l3) (chk (3 * ((48 * l2) + l3)) (chk ((3 * ((48 * l2) + l3)) + l4) (chk (48 * l1) (chk ((48 * l1) + l3) (chk (3 * ((48 * l1) + l3)) (chk ((3 * ((48 * l1) + l3)) + l4) (inb ((3 * ((48 * l1) + l3)) + l4) 1440 (inb ((3 * ((48 * l2) + l3)) + l4) 1440 (hm (wr h 179 ((3 * ((48 * l2) + l3)) + l4).toNat (h 179 ((3 * ((48 * l1) + l3)) + l4).toNat)) (fun h11 => chk (l4 + 1) (self125 l1 l2 l3 (l4 + 1) h11))))))))))))
def XX12_moves_L125  (self50 : Int → Int → Int → Hp → OR) (l1 l2 l3 l4 : Int) (h : Hp) : OR := lup4 (XX12_moves_b125 self50) FU l1 l2 l3 l4 h
def XX12_moves_b50   (self50 : Int → Int → Int → Hp → OR) (l1 l2 l3 : Int) (h : Hp) : OR :=
  if 48 ≤ l3 then XX12_moves_L177 l1 l2 0 h else chk (48 * l2) (chk ((48 * l2) + l3) (chk (48 * l1) (chk ((48 * l1) + l3) (inb ((48 * l1) + l3) 480 (inb ((48 * l2) + l3) 480 (hm (wr h 178 ((48 * l2) + l3).toNat (h 178 ((48 * l1) + l3).toNat)) (fun h8 => chk (48 * l2) (chk ((48 * l2) + l3) (chk (48 * l1) (chk ((48 * l1) + l3) (inb ((48 * l1) + l3) 480 (inb ((48 * l2) + l3) 480 (hm (wr h8 182 ((48 * l2) + l3).toNat (h8 182 ((48 * l1) + l3).toNat)) (fun h9 => chk (48 * l2) (chk ((48 * l2) + l3) (chk (48 * l1) (chk ((48 * l1) + l3) (inb ((48 * l1) + l3) 480 (inb ((48 * l2) + l3) 480 (hm (wr h9 183 ((48 * l2) + l3).toNat (h9 183 ((48 * l1) + l3).toNat)) (fun h10 => XX12_moves_L125 self50 l1 l2 l3 0 h10)))))))))))))))))))))
def XX12_moves_L50   (l1 l2 l3 : Int) (h : Hp) : OR := lup3 (XX12_moves_b50 ) FU l1 l2 l3 h
def XX12_moves (x0 : Int) (x1 : Int) (h : Hp) : OR :=
  inb x0 10 (inb x1 10 (hm (wr h 174 x1.toNat (h 174 x0.toNat)) (fun h1 => inb x0 10 (inb x1 10 (hm (wr h1 175 x1.toNat (h1 175 x0.toNat)) (fun h2 => inb x0 10 (inb x1 10 (hm (wr h2 176 x1.toNat (h2 176 x0.toNat)) (fun h3 => inb x0 10 (inb x1 10 (hm (wr h3 177 x1.toNat (h3 177 x0.toNat)) (fun h4 => XX12_moves_L50 x0 x1 0 h4))))))))))))
theorem sX12_moves_L243 {Γ : Cx} {w : Wd} (hw : okM w) (g : Gd Γ cX12_moves 5 "GatePatchModel" (Option.none : Option Jvm.ClassFile.FieldType) (rmd 1))   : ∀ (l1 l2 l3 : Int) (h : Hp), Sim Γ w 3 (XX12_moves_L243  l1 l2 l3 h) h 243 [(0, vP 143), (1, vI l1), (2, vI l2), (3, vI l3)] [] := by
  refine S_lup3 (fun l1 l2 l3 => [(0, vP 143), (1, vI l1), (2, vI l2), (3, vI l3)]) (fun self243 hs243 l1 l2 l3 h => ?_) FU
  unfold XX12_moves_b243
  refine S_iload_n (kk := 3) g dX12_moves_243 rfl rfl ?_
  refine S_bipush g dX12_moves_244 ⟨by decide, by decide⟩ rfl ?_
  refine S_icmp_ge (tgt := 277) g dX12_moves_246 (by decide) ?_ ?_
  · exact S_return g dX12_moves_277 rfl
  · refine S_aload_n (kk := 0) g dX12_moves_249 rfl rfl ?_
    refine S_getr g dX12_moves_250 fl_Mod_145 (at_143 hw) rfl (rc_143_56 hw) ?_
    refine S_bipush g dX12_moves_253 ⟨by decide, by decide⟩ rfl ?_
    refine S_iload_n (kk := 2) g dX12_moves_255 rfl rfl ?_
    refine S_imul g dX12_moves_256 ?_
    refine S_iload_n (kk := 3) g dX12_moves_257 rfl rfl ?_
    refine S_iadd g dX12_moves_258 ?_
    refine S_aload_n (kk := 0) g dX12_moves_259 rfl rfl ?_
    refine S_getr g dX12_moves_260 fl_Mod_145 (at_143 hw) rfl (rc_143_56 hw) ?_
    refine S_bipush g dX12_moves_263 ⟨by decide, by decide⟩ rfl ?_
    refine S_iload_n (kk := 1) g dX12_moves_265 rfl rfl ?_
    refine S_imul g dX12_moves_266 ?_
    refine S_iload_n (kk := 3) g dX12_moves_267 rfl rfl ?_
    refine S_iadd g dX12_moves_268 ?_
    refine S_zaload g dX12_moves_269 (at_184 hw) ?_
    refine S_zastore g dX12_moves_270 (at_184 hw) (fun h5 => ?_)
    refine S_iinc (kk := 3) g dX12_moves_271 rfl (by decide) rfl ?_
    refine S_goto (tgt := 243) g dX12_moves_274 (by decide) ?_
    refine S_sub g [1, 2, 3, 0] rfl ?_
    exact hs243 _ _ _ _

theorem sX12_moves_L210 {Γ : Cx} {w : Wd} (hw : okM w) (g : Gd Γ cX12_moves 5 "GatePatchModel" (Option.none : Option Jvm.ClassFile.FieldType) (rmd 1))   : ∀ (l1 l2 l3 : Int) (h : Hp), Sim Γ w 3 (XX12_moves_L210  l1 l2 l3 h) h 210 [(0, vP 143), (1, vI l1), (2, vI l2), (3, vI l3)] [] := by
  refine S_lup3 (fun l1 l2 l3 => [(0, vP 143), (1, vI l1), (2, vI l2), (3, vI l3)]) (fun self210 hs210 l1 l2 l3 h => ?_) FU
  unfold XX12_moves_b210
  refine S_iload_n (kk := 3) g dX12_moves_210 rfl rfl ?_
  refine S_iconst g dX12_moves_211 ⟨by decide, by decide⟩ ?_
  refine S_icmp_ge (tgt := 241) g dX12_moves_212 (by decide) ?_ ?_
  · refine S_iconst g dX12_moves_241 ⟨by decide, by decide⟩ ?_
    refine S_istore_n g dX12_moves_242 rfl (by decide) rfl ?_
    refine S_sub g [1, 2, 3, 0] rfl ?_
    exact sX12_moves_L243 hw g _ _ _ _
  · refine S_aload_n (kk := 0) g dX12_moves_215 rfl rfl ?_
    refine S_getr g dX12_moves_216 fl_Mod_136 (at_143 hw) rfl (rc_143_53 hw) ?_
    refine S_iconst g dX12_moves_219 ⟨by decide, by decide⟩ ?_
    refine S_iload_n (kk := 2) g dX12_moves_220 rfl rfl ?_
    refine S_imul g dX12_moves_221 ?_
    refine S_iload_n (kk := 3) g dX12_moves_222 rfl rfl ?_
    refine S_iadd g dX12_moves_223 ?_
    refine S_aload_n (kk := 0) g dX12_moves_224 rfl rfl ?_
    refine S_getr g dX12_moves_225 fl_Mod_136 (at_143 hw) rfl (rc_143_53 hw) ?_
    refine S_iconst g dX12_moves_228 ⟨by decide, by decide⟩ ?_
    refine S_iload_n (kk := 1) g dX12_moves_229 rfl rfl ?_
    refine S_imul g dX12_moves_230 ?_
    refine S_iload_n (kk := 3) g dX12_moves_231 rfl rfl ?_
    refine S_iadd g dX12_moves_232 ?_
    refine S_iaload g dX12_moves_233 (at_181 hw) ?_
    refine S_iastore g dX12_moves_234 (at_181 hw) (fun h6 => ?_)
    refine S_iinc (kk := 3) g dX12_moves_235 rfl (by decide) rfl ?_
    refine S_goto (tgt := 210) g dX12_moves_238 (by decide) ?_
    refine S_sub g [1, 2, 3, 0] rfl ?_
    exact hs210 _ _ _ _

theorem sX12_moves_L177 {Γ : Cx} {w : Wd} (hw : okM w) (g : Gd Γ cX12_moves 5 "GatePatchModel" (Option.none : Option Jvm.ClassFile.FieldType) (rmd 1))   : ∀ (l1 l2 l3 : Int) (h : Hp), Sim Γ w 3 (XX12_moves_L177  l1 l2 l3 h) h 177 [(0, vP 143), (1, vI l1), (2, vI l2), (3, vI l3)] [] := by
  refine S_lup3 (fun l1 l2 l3 => [(0, vP 143), (1, vI l1), (2, vI l2), (3, vI l3)]) (fun self177 hs177 l1 l2 l3 h => ?_) FU
  unfold XX12_moves_b177
  refine S_iload_n (kk := 3) g dX12_moves_177 rfl rfl ?_
  refine S_iconst g dX12_moves_178 ⟨by decide, by decide⟩ ?_
  refine S_icmp_ge (tgt := 208) g dX12_moves_179 (by decide) ?_ ?_
  · refine S_iconst g dX12_moves_208 ⟨by decide, by decide⟩ ?_
    refine S_istore_n g dX12_moves_209 rfl (by decide) rfl ?_
    refine S_sub g [1, 2, 3, 0] rfl ?_
    exact sX12_moves_L210 hw g _ _ _ _
  · refine S_aload_n (kk := 0) g dX12_moves_182 rfl rfl ?_
    refine S_getr g dX12_moves_183 fl_Mod_133 (at_143 hw) rfl (rc_143_52 hw) ?_
    refine S_iconst g dX12_moves_186 ⟨by decide, by decide⟩ ?_
    refine S_iload_n (kk := 2) g dX12_moves_187 rfl rfl ?_
    refine S_imul g dX12_moves_188 ?_
    refine S_iload_n (kk := 3) g dX12_moves_189 rfl rfl ?_
    refine S_iadd g dX12_moves_190 ?_
    refine S_aload_n (kk := 0) g dX12_moves_191 rfl rfl ?_
    refine S_getr g dX12_moves_192 fl_Mod_133 (at_143 hw) rfl (rc_143_52 hw) ?_
    refine S_iconst g dX12_moves_195 ⟨by decide, by decide⟩ ?_
    refine S_iload_n (kk := 1) g dX12_moves_196 rfl rfl ?_
    refine S_imul g dX12_moves_197 ?_
    refine S_iload_n (kk := 3) g dX12_moves_198 rfl rfl ?_
    refine S_iadd g dX12_moves_199 ?_
    refine S_iaload g dX12_moves_200 (at_180 hw) ?_
    refine S_iastore g dX12_moves_201 (at_180 hw) (fun h7 => ?_)
    refine S_iinc (kk := 3) g dX12_moves_202 rfl (by decide) rfl ?_
    refine S_goto (tgt := 177) g dX12_moves_205 (by decide) ?_
    refine S_sub g [1, 2, 3, 0] rfl ?_
    exact hs177 _ _ _ _

theorem sX12_moves_L125 {Γ : Cx} {w : Wd} (hw : okM w) (g : Gd Γ cX12_moves 5 "GatePatchModel" (Option.none : Option Jvm.ClassFile.FieldType) (rmd 1))  (self50 : Int → Int → Int → Hp → OR) (hs50 : ∀ (x0 x1 x2 : Int) (h : Hp), Sim Γ w 3 (self50 x0 x1 x2 h) h 50 [(0, vP 143), (1, vI x0), (2, vI x1), (3, vI x2)] []) : ∀ (l1 l2 l3 l4 : Int) (h : Hp), Sim Γ w 3 (XX12_moves_L125 self50 l1 l2 l3 l4 h) h 125 [(0, vP 143), (1, vI l1), (2, vI l2), (3, vI l3), (4, vI l4)] [] := by
  refine S_lup4 (fun l1 l2 l3 l4 => [(0, vP 143), (1, vI l1), (2, vI l2), (3, vI l3), (4, vI l4)]) (fun self125 hs125 l1 l2 l3 l4 h => ?_) FU
  unfold XX12_moves_b125
  refine S_iload (kk := 4) g dX12_moves_125 rfl ?_
  refine S_iconst g dX12_moves_127 ⟨by decide, by decide⟩ ?_
  refine S_icmp_ge (tgt := 169) g dX12_moves_128 (by decide) ?_ ?_
  · refine S_iinc (kk := 3) g dX12_moves_169 rfl (by decide) rfl ?_
    refine S_goto (tgt := 50) g dX12_moves_172 (by decide) ?_
    refine S_sub g [1, 2, 3, 0] rfl ?_
    exact hs50 _ _ _ _
  · refine S_aload_n (kk := 0) g dX12_moves_131 rfl rfl ?_
    refine S_getr g dX12_moves_132 fl_Mod_130 (at_143 hw) rfl (rc_143_51 hw) ?_
    refine S_iconst g dX12_moves_135 ⟨by decide, by decide⟩ ?_
    refine S_bipush g dX12_moves_136 ⟨by decide, by decide⟩ rfl ?_
    refine S_iload_n (kk := 2) g dX12_moves_138 rfl rfl ?_
    refine S_imul g dX12_moves_139 ?_
    refine S_iload_n (kk := 3) g dX12_moves_140 rfl rfl ?_
    refine S_iadd g dX12_moves_141 ?_
    refine S_imul g dX12_moves_142 ?_
    refine S_iload (kk := 4) g dX12_moves_143 rfl ?_
    refine S_iadd g dX12_moves_145 ?_
    refine S_aload_n (kk := 0) g dX12_moves_146 rfl rfl ?_
    refine S_getr g dX12_moves_147 fl_Mod_130 (at_143 hw) rfl (rc_143_51 hw) ?_
    refine S_iconst g dX12_moves_150 ⟨by decide, by decide⟩ ?_
    refine S_bipush g dX12_moves_151 ⟨by decide, by decide⟩ rfl ?_
    refine S_iload_n (kk := 1) g dX12_moves_153 rfl rfl ?_
    refine S_imul g dX12_moves_154 ?_
    refine S_iload_n (kk := 3) g dX12_moves_155 rfl rfl ?_
    refine S_iadd g dX12_moves_156 ?_
    refine S_imul g dX12_moves_157 ?_
    refine S_iload (kk := 4) g dX12_moves_158 rfl ?_
    refine S_iadd g dX12_moves_160 ?_
    refine S_iaload g dX12_moves_161 (at_179 hw) ?_
    refine S_iastore g dX12_moves_162 (at_179 hw) (fun h11 => ?_)
    refine S_iinc (kk := 4) g dX12_moves_163 rfl (by decide) rfl ?_
    refine S_goto (tgt := 125) g dX12_moves_166 (by decide) ?_
    refine S_sub g [1, 2, 3, 4, 0] rfl ?_
    exact hs125 _ _ _ _ _

theorem sX12_moves_L50 {Γ : Cx} {w : Wd} (hw : okM w) (g : Gd Γ cX12_moves 5 "GatePatchModel" (Option.none : Option Jvm.ClassFile.FieldType) (rmd 1))   : ∀ (l1 l2 l3 : Int) (h : Hp), Sim Γ w 3 (XX12_moves_L50  l1 l2 l3 h) h 50 [(0, vP 143), (1, vI l1), (2, vI l2), (3, vI l3)] [] := by
  refine S_lup3 (fun l1 l2 l3 => [(0, vP 143), (1, vI l1), (2, vI l2), (3, vI l3)]) (fun self50 hs50 l1 l2 l3 h => ?_) FU
  unfold XX12_moves_b50
  refine S_iload_n (kk := 3) g dX12_moves_50 rfl rfl ?_
  refine S_bipush g dX12_moves_51 ⟨by decide, by decide⟩ rfl ?_
  refine S_icmp_ge (tgt := 175) g dX12_moves_53 (by decide) ?_ ?_
  · refine S_iconst g dX12_moves_175 ⟨by decide, by decide⟩ ?_
    refine S_istore_n g dX12_moves_176 rfl (by decide) rfl ?_
    refine S_sub g [1, 2, 3, 0] rfl ?_
    exact sX12_moves_L177 hw g _ _ _ _
  · refine S_aload_n (kk := 0) g dX12_moves_56 rfl rfl ?_
    refine S_getr g dX12_moves_57 fl_Mod_127 (at_143 hw) rfl (rc_143_50 hw) ?_
    refine S_bipush g dX12_moves_60 ⟨by decide, by decide⟩ rfl ?_
    refine S_iload_n (kk := 2) g dX12_moves_62 rfl rfl ?_
    refine S_imul g dX12_moves_63 ?_
    refine S_iload_n (kk := 3) g dX12_moves_64 rfl rfl ?_
    refine S_iadd g dX12_moves_65 ?_
    refine S_aload_n (kk := 0) g dX12_moves_66 rfl rfl ?_
    refine S_getr g dX12_moves_67 fl_Mod_127 (at_143 hw) rfl (rc_143_50 hw) ?_
    refine S_bipush g dX12_moves_70 ⟨by decide, by decide⟩ rfl ?_
    refine S_iload_n (kk := 1) g dX12_moves_72 rfl rfl ?_
    refine S_imul g dX12_moves_73 ?_
    refine S_iload_n (kk := 3) g dX12_moves_74 rfl rfl ?_
    refine S_iadd g dX12_moves_75 ?_
    refine S_iaload g dX12_moves_76 (at_178 hw) ?_
    refine S_iastore g dX12_moves_77 (at_178 hw) (fun h8 => ?_)
    refine S_aload_n (kk := 0) g dX12_moves_78 rfl rfl ?_
    refine S_getr g dX12_moves_79 fl_Mod_139 (at_143 hw) rfl (rc_143_54 hw) ?_
    refine S_bipush g dX12_moves_82 ⟨by decide, by decide⟩ rfl ?_
    refine S_iload_n (kk := 2) g dX12_moves_84 rfl rfl ?_
    refine S_imul g dX12_moves_85 ?_
    refine S_iload_n (kk := 3) g dX12_moves_86 rfl rfl ?_
    refine S_iadd g dX12_moves_87 ?_
    refine S_aload_n (kk := 0) g dX12_moves_88 rfl rfl ?_
    refine S_getr g dX12_moves_89 fl_Mod_139 (at_143 hw) rfl (rc_143_54 hw) ?_
    refine S_bipush g dX12_moves_92 ⟨by decide, by decide⟩ rfl ?_
    refine S_iload_n (kk := 1) g dX12_moves_94 rfl rfl ?_
    refine S_imul g dX12_moves_95 ?_
    refine S_iload_n (kk := 3) g dX12_moves_96 rfl rfl ?_
    refine S_iadd g dX12_moves_97 ?_
    refine S_iaload g dX12_moves_98 (at_182 hw) ?_
    refine S_iastore g dX12_moves_99 (at_182 hw) (fun h9 => ?_)
    refine S_aload_n (kk := 0) g dX12_moves_100 rfl rfl ?_
    refine S_getr g dX12_moves_101 fl_Mod_142 (at_143 hw) rfl (rc_143_55 hw) ?_
    refine S_bipush g dX12_moves_104 ⟨by decide, by decide⟩ rfl ?_
    refine S_iload_n (kk := 2) g dX12_moves_106 rfl rfl ?_
    refine S_imul g dX12_moves_107 ?_
    refine S_iload_n (kk := 3) g dX12_moves_108 rfl rfl ?_
    refine S_iadd g dX12_moves_109 ?_
    refine S_aload_n (kk := 0) g dX12_moves_110 rfl rfl ?_
    refine S_getr g dX12_moves_111 fl_Mod_142 (at_143 hw) rfl (rc_143_55 hw) ?_
    refine S_bipush g dX12_moves_114 ⟨by decide, by decide⟩ rfl ?_
    refine S_iload_n (kk := 1) g dX12_moves_116 rfl rfl ?_
    refine S_imul g dX12_moves_117 ?_
    refine S_iload_n (kk := 3) g dX12_moves_118 rfl rfl ?_
    refine S_iadd g dX12_moves_119 ?_
    refine S_iaload g dX12_moves_120 (at_183 hw) ?_
    refine S_iastore g dX12_moves_121 (at_183 hw) (fun h10 => ?_)
    refine S_iconst g dX12_moves_122 ⟨by decide, by decide⟩ ?_
    refine S_istore g dX12_moves_123 (by decide) rfl ?_
    refine S_sub g [1, 2, 3, 4, 0] rfl ?_
    exact sX12_moves_L125 hw g self50 hs50 _ _ _ _ _

theorem sX12_moves {G : GG} {w : Wd} (hw : okM w) (x0 : Int) (x1 : Int) (h : Hp) : SC G w yX12_moves (Cond.code yX12_moves cX12_moves 5 (Option.none : Option Jvm.ClassFile.FieldType)) 1 3 [vP 143, vI x0, vI x1] (XX12_moves x0 x1 h) h := by
  refine SC_of (own := "GatePatchModel") plain_Mod rfl (Nat.le_of_ble_eq_true rfl) (fun Γ hG g => ?_)
  subst hG
  show Sim Γ w 3 _ h 0 [(0, vP 143), (1, vI x0), (2, vI x1)] []
  unfold XX12_moves
  refine S_aload_n (kk := 0) g dX12_moves_0 rfl rfl ?_
  refine S_getr g dX12_moves_1 fl_Mod_115 (at_143 hw) rfl (rc_143_46 hw) ?_
  refine S_iload_n (kk := 2) g dX12_moves_4 rfl rfl ?_
  refine S_aload_n (kk := 0) g dX12_moves_5 rfl rfl ?_
  refine S_getr g dX12_moves_6 fl_Mod_115 (at_143 hw) rfl (rc_143_46 hw) ?_
  refine S_iload_n (kk := 1) g dX12_moves_9 rfl rfl ?_
  refine S_iaload g dX12_moves_10 (at_174 hw) ?_
  refine S_iastore g dX12_moves_11 (at_174 hw) (fun h1 => ?_)
  refine S_aload_n (kk := 0) g dX12_moves_12 rfl rfl ?_
  refine S_getr g dX12_moves_13 fl_Mod_118 (at_143 hw) rfl (rc_143_47 hw) ?_
  refine S_iload_n (kk := 2) g dX12_moves_16 rfl rfl ?_
  refine S_aload_n (kk := 0) g dX12_moves_17 rfl rfl ?_
  refine S_getr g dX12_moves_18 fl_Mod_118 (at_143 hw) rfl (rc_143_47 hw) ?_
  refine S_iload_n (kk := 1) g dX12_moves_21 rfl rfl ?_
  refine S_iaload g dX12_moves_22 (at_175 hw) ?_
  refine S_iastore g dX12_moves_23 (at_175 hw) (fun h2 => ?_)
  refine S_aload_n (kk := 0) g dX12_moves_24 rfl rfl ?_
  refine S_getr g dX12_moves_25 fl_Mod_121 (at_143 hw) rfl (rc_143_48 hw) ?_
  refine S_iload_n (kk := 2) g dX12_moves_28 rfl rfl ?_
  refine S_aload_n (kk := 0) g dX12_moves_29 rfl rfl ?_
  refine S_getr g dX12_moves_30 fl_Mod_121 (at_143 hw) rfl (rc_143_48 hw) ?_
  refine S_iload_n (kk := 1) g dX12_moves_33 rfl rfl ?_
  refine S_iaload g dX12_moves_34 (at_176 hw) ?_
  refine S_iastore g dX12_moves_35 (at_176 hw) (fun h3 => ?_)
  refine S_aload_n (kk := 0) g dX12_moves_36 rfl rfl ?_
  refine S_getr g dX12_moves_37 fl_Mod_124 (at_143 hw) rfl (rc_143_49 hw) ?_
  refine S_iload_n (kk := 2) g dX12_moves_40 rfl rfl ?_
  refine S_aload_n (kk := 0) g dX12_moves_41 rfl rfl ?_
  refine S_getr g dX12_moves_42 fl_Mod_124 (at_143 hw) rfl (rc_143_49 hw) ?_
  refine S_iload_n (kk := 1) g dX12_moves_45 rfl rfl ?_
  refine S_iaload g dX12_moves_46 (at_177 hw) ?_
  refine S_iastore g dX12_moves_47 (at_177 hw) (fun h4 => ?_)
  refine S_iconst g dX12_moves_48 ⟨by decide, by decide⟩ ?_
  refine S_istore_n g dX12_moves_49 rfl (by decide) rfl ?_
  refine S_sub g [1, 2, 3, 0] rfl ?_
  exact sX12_moves_L50 hw g _ _ _ _

def XX12_leafOf_b12   (self12 : Int → Int → Int → Hp → OR) (l1 l2 l3 : Int) (h : Hp) : OR :=
  if (h 143 26) ≤ l3 then if l1 = 0 then some (200, h) else if l1 = l2 then some (201, h) else some ((-1), h) else cal (XX12_projection (h 143 26) l3 h) (fun r4 h5 => if r4 = l1 then chk (100 + l3) (some ((100 + l3), h5)) else chk (l3 + 1) (self12 l1 l2 (l3 + 1) h5))
def XX12_leafOf_L12   (l1 l2 l3 : Int) (h : Hp) : OR := lup3 (XX12_leafOf_b12 ) FU l1 l2 l3 h
def XX12_leafOf (x0 : Int) (h : Hp) : OR :=
  cal (XX12_functions (h 143 26) h) (fun r1 h2 => chk (r1 - 1) (nm (r1 - 1) (fun v3 => XX12_leafOf_L12 x0 v3 0 h2)))
theorem sX12_leafOf_L12 {Γ : Cx} {w : Wd} (hw : okM w) (g : Gd Γ cX12_leafOf 4 "GatePatchModel" (Option.some Jvm.ClassFile.FieldType.int) (rmd 2))   : ∀ (l1 l2 l3 : Int) (h : Hp), Sim Γ w 0 (XX12_leafOf_L12  l1 l2 l3 h) h 12 [(0, vP 143), (1, vI l1), (2, vI l2), (3, vI l3)] [] := by
  refine S_lup3 (fun l1 l2 l3 => [(0, vP 143), (1, vI l1), (2, vI l2), (3, vI l3)]) (fun self12 hs12 l1 l2 l3 h => ?_) FU
  unfold XX12_leafOf_b12
  refine S_iload_n (kk := 3) g dX12_leafOf_12 rfl rfl ?_
  refine S_aload_n (kk := 0) g dX12_leafOf_13 rfl rfl ?_
  refine S_geti g dX12_leafOf_14 fl_Mod_411 (at_143 hw) (Or.inl rfl) ?_
  refine S_icmp_ge (tgt := 43) g dX12_leafOf_17 (by decide) ?_ ?_
  · refine S_iload_n (kk := 1) g dX12_leafOf_43 rfl rfl ?_
    refine S_if_ne (tgt := 53) g dX12_leafOf_44 (by decide) ?_ ?_
    · refine S_iload_n (kk := 1) g dX12_leafOf_53 rfl rfl ?_
      refine S_iload_n (kk := 2) g dX12_leafOf_54 rfl rfl ?_
      refine S_icmp_ne (tgt := 64) g dX12_leafOf_55 (by decide) ?_ ?_
      · refine S_iconst g dX12_leafOf_64 ⟨by decide, by decide⟩ ?_
        exact S_ireturn g dX12_leafOf_65 rfl
      · refine S_sipush g dX12_leafOf_58 ⟨by decide, by decide⟩ rfl ?_
        refine S_goto (tgt := 65) g dX12_leafOf_61 (by decide) ?_
        exact S_ireturn g dX12_leafOf_65 rfl
    · refine S_sipush g dX12_leafOf_47 ⟨by decide, by decide⟩ rfl ?_
      refine S_goto (tgt := 65) g dX12_leafOf_50 (by decide) ?_
      exact S_ireturn g dX12_leafOf_65 rfl
  · refine S_aload_n (kk := 0) g dX12_leafOf_20 rfl rfl ?_
    refine S_geti g dX12_leafOf_21 fl_Mod_411 (at_143 hw) (Or.inl rfl) ?_
    refine S_iload_n (kk := 3) g dX12_leafOf_24 rfl rfl ?_
    refine S_callSi (As := [vI (h 143 26), vI l3]) g dX12_leafOf_25 (sX12_projection hw _ _ _) rfl st_X12_projection cw_X12_projection ml_Mod_362 ini_Mod nd_X12_projection ⟨by decide, by decide⟩ (Nat.le_of_ble_eq_true rfl) (fun r4 h5 => ?_)
    refine S_iload_n (kk := 1) g dX12_leafOf_28 rfl rfl ?_
    refine S_icmp_ne (tgt := 37) g dX12_leafOf_29 (by decide) ?_ ?_
    · refine S_iinc (kk := 3) g dX12_leafOf_37 rfl (by decide) rfl ?_
      refine S_goto (tgt := 12) g dX12_leafOf_40 (by decide) ?_
      refine S_sub g [1, 2, 3, 0] rfl ?_
      exact hs12 _ _ _ _
    · refine S_bipush g dX12_leafOf_32 ⟨by decide, by decide⟩ rfl ?_
      refine S_iload_n (kk := 3) g dX12_leafOf_34 rfl rfl ?_
      refine S_iadd g dX12_leafOf_35 ?_
      exact S_ireturn g dX12_leafOf_36 rfl

theorem sX12_leafOf {G : GG} {w : Wd} (hw : okM w) (x0 : Int) (h : Hp) : SC G w yX12_leafOf (Cond.code yX12_leafOf cX12_leafOf 4 (Option.some Jvm.ClassFile.FieldType.int)) 2 0 [vP 143, vI x0] (XX12_leafOf x0 h) h := by
  refine SC_of (own := "GatePatchModel") plain_Mod rfl (Nat.le_of_ble_eq_true rfl) (fun Γ hG g => ?_)
  subst hG
  show Sim Γ w 0 _ h 0 [(0, vP 143), (1, vI x0)] []
  unfold XX12_leafOf
  refine S_aload_n (kk := 0) g dX12_leafOf_0 rfl rfl ?_
  refine S_geti g dX12_leafOf_1 fl_Mod_411 (at_143 hw) (Or.inl rfl) ?_
  refine S_callSi (As := [vI (h 143 26)]) g dX12_leafOf_4 (sX12_functions hw _ _) rfl st_X12_functions cw_X12_functions ml_Mod_359 ini_Mod nd_X12_functions ⟨by decide, by decide⟩ (Nat.le_of_ble_eq_true rfl) (fun r1 h2 => ?_)
  refine S_iconst g dX12_leafOf_7 ⟨by decide, by decide⟩ ?_
  refine S_isub g dX12_leafOf_8 ?_
  refine S_nmI (fun v3 => ?_)
  refine S_istore_n g dX12_leafOf_9 rfl (by decide) rfl ?_
  refine S_iconst g dX12_leafOf_10 ⟨by decide, by decide⟩ ?_
  refine S_istore_n g dX12_leafOf_11 rfl (by decide) rfl ?_
  refine S_sub g [2, 3, 1, 0] rfl ?_
  exact sX12_leafOf_L12 hw g _ _ _ _

def XX12_partWire (x0 : Int) (h : Hp) : OR :=
  if x0 = (-2) then some ((-1), h) else if x0 < 100 then inb x0 24 (some ((h 200 x0.toNat), h)) else chk (x0 - 100) (inb (x0 - 100) 3 (some ((h 160 (x0 - 100).toNat), h)))
theorem sX12_partWire {G : GG} {w : Wd} (hw : okM w) (x0 : Int) (h : Hp) : SC G w yX12_partWire (Cond.code yX12_partWire cX12_partWire 2 (Option.some Jvm.ClassFile.FieldType.int)) 1 0 [vP 143, vI x0] (XX12_partWire x0 h) h := by
  refine SC_of (own := "GatePatchModel") plain_Mod rfl (Nat.le_of_ble_eq_true rfl) (fun Γ hG g => ?_)
  subst hG
  show Sim Γ w 0 _ h 0 [(0, vP 143), (1, vI x0)] []
  unfold XX12_partWire
  refine S_iload_n (kk := 1) g dX12_partWire_0 rfl rfl ?_
  refine S_bipush g dX12_partWire_1 ⟨by decide, by decide⟩ rfl ?_
  refine S_icmp_ne (tgt := 10) g dX12_partWire_3 (by decide) ?_ ?_
  · refine S_iload_n (kk := 1) g dX12_partWire_10 rfl rfl ?_
    refine S_bipush g dX12_partWire_11 ⟨by decide, by decide⟩ rfl ?_
    refine S_icmp_lt (tgt := 28) g dX12_partWire_13 (by decide) ?_ ?_
    · refine S_aload_n (kk := 0) g dX12_partWire_28 rfl rfl ?_
      refine S_getr g dX12_partWire_29 fl_Mod_193 (at_143 hw) rfl (rc_143_79 hw) ?_
      refine S_iload_n (kk := 1) g dX12_partWire_32 rfl rfl ?_
      refine S_iaload g dX12_partWire_33 (at_200 hw) ?_
      exact S_ireturn g dX12_partWire_34 rfl
    · refine S_aload_n (kk := 0) g dX12_partWire_16 rfl rfl ?_
      refine S_getr g dX12_partWire_17 fl_Mod_72 (at_143 hw) rfl (rc_143_29 hw) ?_
      refine S_iload_n (kk := 1) g dX12_partWire_20 rfl rfl ?_
      refine S_bipush g dX12_partWire_21 ⟨by decide, by decide⟩ rfl ?_
      refine S_isub g dX12_partWire_23 ?_
      refine S_iaload g dX12_partWire_24 (at_160 hw) ?_
      refine S_goto (tgt := 34) g dX12_partWire_25 (by decide) ?_
      exact S_ireturn g dX12_partWire_34 rfl
  · refine S_iconst g dX12_partWire_6 ⟨by decide, by decide⟩ ?_
    refine S_goto (tgt := 34) g dX12_partWire_7 (by decide) ?_
    exact S_ireturn g dX12_partWire_34 rfl

def XX12_adds (x0 : Int) (x1 : Int) (x2 : Int) (x3 : Int) (x4 : Int) (h : Hp) : OR :=
  cal (XX12_makes 0 x0 x1 x2 (-1) h) (fun r1 h2 => cal (XX12_wires 0 h2) (fun r3 h4 => chk (r3 - 1) (nm (r3 - 1) (fun v5 => inb v5 48 (hm (wr h4 150 v5.toNat x3) (fun h6 => inb v5 48 (hm (wr h6 151 v5.toNat x4) (fun h7 => some (v5, h7)))))))))
theorem sX12_adds {G : GG} {w : Wd} (hw : okM w) (x0 : Int) (x1 : Int) (x2 : Int) (x3 : Int) (x4 : Int) (h : Hp) : SC G w yX12_adds (Cond.code yX12_adds cX12_adds 7 (Option.some Jvm.ClassFile.FieldType.int)) 4 0 [vP 143, vI x0, vI x1, vI x2, vI x3, vI x4] (XX12_adds x0 x1 x2 x3 x4 h) h := by
  refine SC_of (own := "GatePatchModel") plain_Mod rfl (Nat.le_of_ble_eq_true rfl) (fun Γ hG g => ?_)
  subst hG
  show Sim Γ w 0 _ h 0 [(0, vP 143), (1, vI x0), (2, vI x1), (3, vI x2), (4, vI x3), (5, vI x4)] []
  unfold XX12_adds
  refine S_aload_n (kk := 0) g dX12_adds_0 rfl rfl ?_
  refine S_iconst g dX12_adds_1 ⟨by decide, by decide⟩ ?_
  refine S_iload_n (kk := 1) g dX12_adds_2 rfl rfl ?_
  refine S_iload_n (kk := 2) g dX12_adds_3 rfl rfl ?_
  refine S_iload_n (kk := 3) g dX12_adds_4 rfl rfl ?_
  refine S_iconst g dX12_adds_5 ⟨by decide, by decide⟩ ?_
  refine S_callVv (As := [vI 0, vI x0, vI x1, vI x2, vI (-1)]) g dX12_adds_6 (sX12_makes hw _ _ _ _ _ _) rfl (at_143 hw) rfl im_X12_makes se_X12_makes cw_X12_makes ml_Mod_260 ini_Mod nd_X12_makes ⟨by decide, by decide⟩ (Nat.le_of_ble_eq_true rfl) (fun r1 h2 => ?_)
  refine S_aload_n (kk := 0) g dX12_adds_9 rfl rfl ?_
  refine S_iconst g dX12_adds_10 ⟨by decide, by decide⟩ ?_
  refine S_callVi (As := [vI 0]) g dX12_adds_11 (sX12_wires hw _ _) rfl (at_143 hw) rfl im_X12_wires se_X12_wires cw_X12_wires ml_Mod_216 ini_Mod nd_X12_wires ⟨by decide, by decide⟩ (Nat.le_of_ble_eq_true rfl) (fun r3 h4 => ?_)
  refine S_iconst g dX12_adds_14 ⟨by decide, by decide⟩ ?_
  refine S_isub g dX12_adds_15 ?_
  refine S_nmI (fun v5 => ?_)
  refine S_istore g dX12_adds_16 (by decide) rfl ?_
  refine S_aload_n (kk := 1) g dX12_adds_18 rfl rfl ?_
  refine S_getr g dX12_adds_19 fl_Mod_36 (at_143 hw) rfl (rc_143_10 hw) ?_
  refine S_iload (kk := 0) g dX12_adds_22 rfl ?_
  refine S_iload (kk := 5) g dX12_adds_24 rfl ?_
  refine S_iastore g dX12_adds_26 (at_150 hw) (fun h6 => ?_)
  refine S_aload_n (kk := 1) g dX12_adds_27 rfl rfl ?_
  refine S_getr g dX12_adds_28 fl_Mod_39 (at_143 hw) rfl (rc_143_11 hw) ?_
  refine S_iload (kk := 0) g dX12_adds_31 rfl ?_
  refine S_iload (kk := 6) g dX12_adds_33 rfl ?_
  refine S_iastore g dX12_adds_35 (at_151 hw) (fun h7 => ?_)
  refine S_iload (kk := 0) g dX12_adds_36 rfl ?_
  exact S_ireturn g dX12_adds_38 rfl

def XX12_comes_p235  (self85 : Int → Int → Int → Hp → OR) (l1 l3 l4 : Int) (h : Hp) : OR :=
  chk (l4 + 1) (self85 l1 l3 (l4 + 1) h)
def XX12_comes_p209  (self85 : Int → Int → Int → Hp → OR) (l1 l4 l5 : Int) (s1 s2 s3 s4 s5 : Int) (h : Hp) : OR :=
  cal (XX12_adds s1 s2 s3 s4 s5 h) (fun r9 h10 => inb l4 24 (hm (wr h10 200 l4.toNat r9) (fun h11 => if l5 = (-1) then XX12_comes_p235 self85 l1 r9 l4 h11 else inb l5 12 (zb 1 (hm (wr h11 155 l5.toNat 1) (fun h12 => XX12_comes_p235 self85 l1 r9 l4 h12))))))
def XX12_comes_p182  (self85 : Int → Int → Int → Hp → OR) (l1 l4 l5 : Int) (s1 s2 s3 s4 : Int) (h : Hp) : OR :=
  if l5 = (-1) then inb l1 2 (inb (h 159 l1.toNat) 48 (XX12_comes_p209 self85 l1 l4 l5 s1 s2 s3 s4 (h 151 (h 159 l1.toNat).toNat) h)) else inb l5 12 (XX12_comes_p209 self85 l1 l4 l5 s1 s2 s3 s4 (h 154 l5.toNat) h)
def XX12_comes_p123  (self85 : Int → Int → Int → Hp → OR) (l1 l4 : Int) (s0 : Int) (h : Hp) : OR :=
  inb l4 24 (inb l4 24 (cal (XX12_partWire (h 163 l4.toNat) h) (fun r5 h6 => inb l4 24 (cal (XX12_partWire (h6 164 l4.toNat) h6) (fun r7 h8 => if s0 = (-1) then inb l1 2 (inb (h8 159 l1.toNat) 48 (XX12_comes_p182 self85 l1 l4 s0 (h 162 l4.toNat) r5 r7 (h8 150 (h8 159 l1.toNat).toNat) h8)) else inb s0 12 (XX12_comes_p182 self85 l1 l4 s0 (h 162 l4.toNat) r5 r7 (h8 153 s0.toNat) h8))))))
def XX12_comes_b85   (self85 : Int → Int → Int → Hp → OR) (l1 l3 l4 : Int) (h : Hp) : OR :=
  if (h 143 27) ≤ l4 then some (l3, h) else inb l4 24 (if (h 165 l4.toNat) = l1 then if (h 143 24) = 0 then XX12_comes_p123 self85 l1 l4 (-1) h else inb l4 24 (XX12_comes_p123 self85 l1 l4 (h 166 l4.toNat) h) else XX12_comes_p235 self85 l1 l3 l4 h)
def XX12_comes_L85   (l1 l3 l4 : Int) (h : Hp) : OR := lup3 (XX12_comes_b85 ) FU l1 l3 l4 h
def XX12_comes_p52   (l1 : Int) (s1 : Int) (h : Hp) : OR :=
  inb l1 2 (inb (h 159 l1.toNat) 48 (inb l1 2 (inb (h 159 l1.toNat) 48 (cal (XX12_adds s1 (-1) (-1) (h 150 (h 159 l1.toNat).toNat) (h 151 (h 159 l1.toNat).toNat) h) (fun r13 h14 => some (r13, h14))))))
def XX12_comes (x0 : Int) (h : Hp) : OR :=
  inb x0 2 (cal (XX12_leafOf (h 161 x0.toNat) h) (fun r1 h2 => cal (XX12_in r1 100 102 h2) (fun r3 h4 => if r3 = 0 then if r1 = (-1) then XX12_comes_L85 x0 (-1) 0 h4 else if r1 = 200 then XX12_comes_p52 x0 7 h4 else XX12_comes_p52 x0 8 h4 else chk (r1 - 100) (inb (r1 - 100) 3 (some ((h4 160 (r1 - 100).toNat), h4))))))
theorem sX12_comes_p235 {Γ : Cx} {w : Wd} (hw : okM w) (g : Gd Γ cX12_comes 6 "GatePatchModel" (Option.some Jvm.ClassFile.FieldType.int) (rmd 5))  (self85 : Int → Int → Int → Hp → OR) (hs85 : ∀ (x0 x1 x2 : Int) (h : Hp), Sim Γ w 0 (self85 x0 x1 x2 h) h 85 [(0, vP 143), (1, vI x0), (3, vI x1), (4, vI x2)] []) (l1 l3 l4 : Int) (h : Hp) : Sim Γ w 0 (XX12_comes_p235 self85 l1 l3 l4  h) h 235 [(0, vP 143), (1, vI l1), (3, vI l3), (4, vI l4)] [] := by
  unfold XX12_comes_p235
  refine S_iinc (kk := 3) g dX12_comes_235 rfl (by decide) rfl ?_
  refine S_goto (tgt := 85) g dX12_comes_238 (by decide) ?_
  refine S_sub g [1, 2, 3, 0] rfl ?_
  exact hs85 _ _ _ _

theorem sX12_comes_p209 {Γ : Cx} {w : Wd} (hw : okM w) (g : Gd Γ cX12_comes 6 "GatePatchModel" (Option.some Jvm.ClassFile.FieldType.int) (rmd 5))  (self85 : Int → Int → Int → Hp → OR) (hs85 : ∀ (x0 x1 x2 : Int) (h : Hp), Sim Γ w 0 (self85 x0 x1 x2 h) h 85 [(0, vP 143), (1, vI x0), (3, vI x1), (4, vI x2)] []) (l1 l4 l5 : Int) (s1 s2 s3 s4 s5 : Int) (h : Hp) : Sim Γ w 0 (XX12_comes_p209 self85 l1 l4 l5 s1 s2 s3 s4 s5 h) h 209 [(0, vP 143), (1, vI l1), (4, vI l4), (5, vI l5)] [vI s5, vI s4, vI s3, vI s2, vI s1, vP 143] := by
  unfold XX12_comes_p209
  refine S_callVi (As := [vI s1, vI s2, vI s3, vI s4, vI s5]) g dX12_comes_209 (sX12_adds hw _ _ _ _ _ _) rfl (at_143 hw) rfl im_X12_adds se_X12_adds cw_X12_adds ml_Mod_457 ini_Mod nd_X12_adds ⟨by decide, by decide⟩ (Nat.le_of_ble_eq_true rfl) (fun r9 h10 => ?_)
  refine S_istore_n g dX12_comes_212 rfl (by decide) rfl ?_
  refine S_aload_n (kk := 1) g dX12_comes_213 rfl rfl ?_
  refine S_getr g dX12_comes_214 fl_Mod_193 (at_143 hw) rfl (rc_143_79 hw) ?_
  refine S_iload (kk := 3) g dX12_comes_217 rfl ?_
  refine S_iload_n (kk := 0) g dX12_comes_219 rfl rfl ?_
  refine S_iastore g dX12_comes_220 (at_200 hw) (fun h11 => ?_)
  refine S_iload (kk := 4) g dX12_comes_221 rfl ?_
  refine S_iconst g dX12_comes_223 ⟨by decide, by decide⟩ ?_
  refine S_icmp_eq (tgt := 235) g dX12_comes_224 (by decide) ?_ ?_
  · refine S_sub g [1, 2, 0, 3] rfl ?_
    exact sX12_comes_p235 hw g self85 hs85 _ _ _ _
  · refine S_aload_n (kk := 1) g dX12_comes_227 rfl rfl ?_
    refine S_getr g dX12_comes_228 fl_Mod_51 (at_143 hw) rfl (rc_143_16 hw) ?_
    refine S_iload (kk := 4) g dX12_comes_231 rfl ?_
    refine S_iconst g dX12_comes_233 ⟨by decide, by decide⟩ ?_
    refine S_zastore g dX12_comes_234 (at_155 hw) (fun h12 => ?_)
    refine S_sub g [1, 2, 0, 3] rfl ?_
    exact sX12_comes_p235 hw g self85 hs85 _ _ _ _

theorem sX12_comes_p182 {Γ : Cx} {w : Wd} (hw : okM w) (g : Gd Γ cX12_comes 6 "GatePatchModel" (Option.some Jvm.ClassFile.FieldType.int) (rmd 5))  (self85 : Int → Int → Int → Hp → OR) (hs85 : ∀ (x0 x1 x2 : Int) (h : Hp), Sim Γ w 0 (self85 x0 x1 x2 h) h 85 [(0, vP 143), (1, vI x0), (3, vI x1), (4, vI x2)] []) (l1 l4 l5 : Int) (s1 s2 s3 s4 : Int) (h : Hp) : Sim Γ w 0 (XX12_comes_p182 self85 l1 l4 l5 s1 s2 s3 s4 h) h 182 [(0, vP 143), (1, vI l1), (4, vI l4), (5, vI l5)] [vI s4, vI s3, vI s2, vI s1, vP 143] := by
  unfold XX12_comes_p182
  refine S_iload (kk := 3) g dX12_comes_182 rfl ?_
  refine S_iconst g dX12_comes_184 ⟨by decide, by decide⟩ ?_
  refine S_icmp_ne (tgt := 202) g dX12_comes_185 (by decide) ?_ ?_
  · refine S_aload_n (kk := 0) g dX12_comes_202 rfl rfl ?_
    refine S_getr g dX12_comes_203 fl_Mod_48 (at_143 hw) rfl (rc_143_15 hw) ?_
    refine S_iload (kk := 3) g dX12_comes_206 rfl ?_
    refine S_iaload g dX12_comes_208 (at_154 hw) ?_
    exact sX12_comes_p209 hw g self85 hs85 _ _ _ _ _ _ _ _ _
  · refine S_aload_n (kk := 0) g dX12_comes_188 rfl rfl ?_
    refine S_getr g dX12_comes_189 fl_Mod_39 (at_143 hw) rfl (rc_143_11 hw) ?_
    refine S_aload_n (kk := 0) g dX12_comes_192 rfl rfl ?_
    refine S_getr g dX12_comes_193 fl_Mod_69 (at_143 hw) rfl (rc_143_28 hw) ?_
    refine S_iload_n (kk := 1) g dX12_comes_196 rfl rfl ?_
    refine S_iaload g dX12_comes_197 (at_159 hw) ?_
    refine S_iaload g dX12_comes_198 (at_151 hw) ?_
    refine S_goto (tgt := 209) g dX12_comes_199 (by decide) ?_
    exact sX12_comes_p209 hw g self85 hs85 _ _ _ _ _ _ _ _ _

theorem sX12_comes_p123 {Γ : Cx} {w : Wd} (hw : okM w) (g : Gd Γ cX12_comes 6 "GatePatchModel" (Option.some Jvm.ClassFile.FieldType.int) (rmd 5))  (self85 : Int → Int → Int → Hp → OR) (hs85 : ∀ (x0 x1 x2 : Int) (h : Hp), Sim Γ w 0 (self85 x0 x1 x2 h) h 85 [(0, vP 143), (1, vI x0), (3, vI x1), (4, vI x2)] []) (l1 l4 : Int) (s0 : Int) (h : Hp) : Sim Γ w 0 (XX12_comes_p123 self85 l1 l4 s0 h) h 123 [(0, vP 143), (1, vI l1), (4, vI l4)] [vI s0] := by
  unfold XX12_comes_p123
  refine S_istore g dX12_comes_123 (by decide) rfl ?_
  refine S_aload_n (kk := 1) g dX12_comes_125 rfl rfl ?_
  refine S_aload_n (kk := 1) g dX12_comes_126 rfl rfl ?_
  refine S_getr g dX12_comes_127 fl_Mod_78 (at_143 hw) rfl (rc_143_31 hw) ?_
  refine S_iload (kk := 3) g dX12_comes_130 rfl ?_
  refine S_iaload g dX12_comes_132 (at_162 hw) ?_
  refine S_aload_n (kk := 1) g dX12_comes_133 rfl rfl ?_
  refine S_aload_n (kk := 1) g dX12_comes_134 rfl rfl ?_
  refine S_getr g dX12_comes_135 fl_Mod_81 (at_143 hw) rfl (rc_143_32 hw) ?_
  refine S_iload (kk := 3) g dX12_comes_138 rfl ?_
  refine S_iaload g dX12_comes_140 (at_163 hw) ?_
  refine S_callVi (As := [vI (h 163 l4.toNat)]) g dX12_comes_141 (sX12_partWire hw _ _) rfl (at_143 hw) rfl im_X12_partWire se_X12_partWire cw_X12_partWire ml_Mod_461 ini_Mod nd_X12_partWire ⟨by decide, by decide⟩ (Nat.le_of_ble_eq_true rfl) (fun r5 h6 => ?_)
  refine S_aload_n (kk := 1) g dX12_comes_144 rfl rfl ?_
  refine S_aload_n (kk := 1) g dX12_comes_145 rfl rfl ?_
  refine S_getr g dX12_comes_146 fl_Mod_84 (at_143 hw) rfl (rc_143_33 hw) ?_
  refine S_iload (kk := 3) g dX12_comes_149 rfl ?_
  refine S_iaload g dX12_comes_151 (at_164 hw) ?_
  refine S_callVi (As := [vI (h6 164 l4.toNat)]) g dX12_comes_152 (sX12_partWire hw _ _) rfl (at_143 hw) rfl im_X12_partWire se_X12_partWire cw_X12_partWire ml_Mod_461 ini_Mod nd_X12_partWire ⟨by decide, by decide⟩ (Nat.le_of_ble_eq_true rfl) (fun r7 h8 => ?_)
  refine S_iload (kk := 0) g dX12_comes_155 rfl ?_
  refine S_iconst g dX12_comes_157 ⟨by decide, by decide⟩ ?_
  refine S_icmp_ne (tgt := 175) g dX12_comes_158 (by decide) ?_ ?_
  · refine S_aload_n (kk := 1) g dX12_comes_175 rfl rfl ?_
    refine S_getr g dX12_comes_176 fl_Mod_45 (at_143 hw) rfl (rc_143_14 hw) ?_
    refine S_iload (kk := 0) g dX12_comes_179 rfl ?_
    refine S_iaload g dX12_comes_181 (at_153 hw) ?_
    refine S_sub g [1, 2, 3, 0] rfl ?_
    exact sX12_comes_p182 hw g self85 hs85 _ _ _ _ _ _ _ _
  · refine S_aload_n (kk := 1) g dX12_comes_161 rfl rfl ?_
    refine S_getr g dX12_comes_162 fl_Mod_36 (at_143 hw) rfl (rc_143_10 hw) ?_
    refine S_aload_n (kk := 1) g dX12_comes_165 rfl rfl ?_
    refine S_getr g dX12_comes_166 fl_Mod_69 (at_143 hw) rfl (rc_143_28 hw) ?_
    refine S_iload_n (kk := 2) g dX12_comes_169 rfl rfl ?_
    refine S_iaload g dX12_comes_170 (at_159 hw) ?_
    refine S_iaload g dX12_comes_171 (at_150 hw) ?_
    refine S_goto (tgt := 182) g dX12_comes_172 (by decide) ?_
    refine S_sub g [1, 2, 3, 0] rfl ?_
    exact sX12_comes_p182 hw g self85 hs85 _ _ _ _ _ _ _ _

theorem sX12_comes_L85 {Γ : Cx} {w : Wd} (hw : okM w) (g : Gd Γ cX12_comes 6 "GatePatchModel" (Option.some Jvm.ClassFile.FieldType.int) (rmd 5))   : ∀ (l1 l3 l4 : Int) (h : Hp), Sim Γ w 0 (XX12_comes_L85  l1 l3 l4 h) h 85 [(0, vP 143), (1, vI l1), (3, vI l3), (4, vI l4)] [] := by
  refine S_lup3 (fun l1 l3 l4 => [(0, vP 143), (1, vI l1), (3, vI l3), (4, vI l4)]) (fun self85 hs85 l1 l3 l4 h => ?_) FU
  unfold XX12_comes_b85
  refine S_iload (kk := 3) g dX12_comes_85 rfl ?_
  refine S_aload_n (kk := 0) g dX12_comes_87 rfl rfl ?_
  refine S_geti g dX12_comes_88 fl_Mod_381 (at_143 hw) (Or.inl rfl) ?_
  refine S_icmp_ge (tgt := 241) g dX12_comes_91 (by decide) ?_ ?_
  · refine S_iload_n (kk := 2) g dX12_comes_241 rfl rfl ?_
    exact S_ireturn g dX12_comes_242 rfl
  · refine S_aload_n (kk := 0) g dX12_comes_94 rfl rfl ?_
    refine S_getr g dX12_comes_95 fl_Mod_87 (at_143 hw) rfl (rc_143_34 hw) ?_
    refine S_iload (kk := 3) g dX12_comes_98 rfl ?_
    refine S_iaload g dX12_comes_100 (at_165 hw) ?_
    refine S_iload_n (kk := 1) g dX12_comes_101 rfl rfl ?_
    refine S_icmp_ne (tgt := 235) g dX12_comes_102 (by decide) ?_ ?_
    · exact sX12_comes_p235 hw g self85 hs85 _ _ _ _
    · refine S_aload_n (kk := 0) g dX12_comes_105 rfl rfl ?_
      refine S_geti g dX12_comes_106 fl_Mod_405 (at_143 hw) (Or.inr rfl) ?_
      refine S_if_eq (tgt := 122) g dX12_comes_109 (by decide) ?_ ?_
      · refine S_iconst g dX12_comes_122 ⟨by decide, by decide⟩ ?_
        refine S_sub g [0, 1, 3] rfl ?_
        exact sX12_comes_p123 hw g self85 hs85 _ _ _ _
      · refine S_aload_n (kk := 0) g dX12_comes_112 rfl rfl ?_
        refine S_getr g dX12_comes_113 fl_Mod_90 (at_143 hw) rfl (rc_143_35 hw) ?_
        refine S_iload (kk := 3) g dX12_comes_116 rfl ?_
        refine S_iaload g dX12_comes_118 (at_166 hw) ?_
        refine S_goto (tgt := 123) g dX12_comes_119 (by decide) ?_
        refine S_sub g [0, 1, 3] rfl ?_
        exact sX12_comes_p123 hw g self85 hs85 _ _ _ _

theorem sX12_comes_p52 {Γ : Cx} {w : Wd} (hw : okM w) (g : Gd Γ cX12_comes 6 "GatePatchModel" (Option.some Jvm.ClassFile.FieldType.int) (rmd 5))   (l1 : Int) (s1 : Int) (h : Hp) : Sim Γ w 0 (XX12_comes_p52  l1 s1 h) h 52 [(0, vP 143), (1, vI l1)] [vI s1, vP 143] := by
  unfold XX12_comes_p52
  refine S_iconst g dX12_comes_52 ⟨by decide, by decide⟩ ?_
  refine S_iconst g dX12_comes_53 ⟨by decide, by decide⟩ ?_
  refine S_aload_n (kk := 0) g dX12_comes_54 rfl rfl ?_
  refine S_getr g dX12_comes_55 fl_Mod_36 (at_143 hw) rfl (rc_143_10 hw) ?_
  refine S_aload_n (kk := 0) g dX12_comes_58 rfl rfl ?_
  refine S_getr g dX12_comes_59 fl_Mod_69 (at_143 hw) rfl (rc_143_28 hw) ?_
  refine S_iload_n (kk := 1) g dX12_comes_62 rfl rfl ?_
  refine S_iaload g dX12_comes_63 (at_159 hw) ?_
  refine S_iaload g dX12_comes_64 (at_150 hw) ?_
  refine S_aload_n (kk := 0) g dX12_comes_65 rfl rfl ?_
  refine S_getr g dX12_comes_66 fl_Mod_39 (at_143 hw) rfl (rc_143_11 hw) ?_
  refine S_aload_n (kk := 0) g dX12_comes_69 rfl rfl ?_
  refine S_getr g dX12_comes_70 fl_Mod_69 (at_143 hw) rfl (rc_143_28 hw) ?_
  refine S_iload_n (kk := 1) g dX12_comes_73 rfl rfl ?_
  refine S_iaload g dX12_comes_74 (at_159 hw) ?_
  refine S_iaload g dX12_comes_75 (at_151 hw) ?_
  refine S_callVi (As := [vI s1, vI (-1), vI (-1), vI (h 150 (h 159 l1.toNat).toNat), vI (h 151 (h 159 l1.toNat).toNat)]) g dX12_comes_76 (sX12_adds hw _ _ _ _ _ _) rfl (at_143 hw) rfl im_X12_adds se_X12_adds cw_X12_adds ml_Mod_457 ini_Mod nd_X12_adds ⟨by decide, by decide⟩ (Nat.le_of_ble_eq_true rfl) (fun r13 h14 => ?_)
  exact S_ireturn g dX12_comes_79 rfl

theorem sX12_comes {G : GG} {w : Wd} (hw : okM w) (x0 : Int) (h : Hp) : SC G w yX12_comes (Cond.code yX12_comes cX12_comes 6 (Option.some Jvm.ClassFile.FieldType.int)) 5 0 [vP 143, vI x0] (XX12_comes x0 h) h := by
  refine SC_of (own := "GatePatchModel") plain_Mod rfl (Nat.le_of_ble_eq_true rfl) (fun Γ hG g => ?_)
  subst hG
  show Sim Γ w 0 _ h 0 [(0, vP 143), (1, vI x0)] []
  unfold XX12_comes
  refine S_aload_n (kk := 0) g dX12_comes_0 rfl rfl ?_
  refine S_aload_n (kk := 0) g dX12_comes_1 rfl rfl ?_
  refine S_getr g dX12_comes_2 fl_Mod_75 (at_143 hw) rfl (rc_143_30 hw) ?_
  refine S_iload_n (kk := 1) g dX12_comes_5 rfl rfl ?_
  refine S_iaload g dX12_comes_6 (at_161 hw) ?_
  refine S_callVi (As := [vI (h 161 x0.toNat)]) g dX12_comes_7 (sX12_leafOf hw _ _) rfl (at_143 hw) rfl im_X12_leafOf se_X12_leafOf cw_X12_leafOf ml_Mod_454 ini_Mod nd_X12_leafOf ⟨by decide, by decide⟩ (Nat.le_of_ble_eq_true rfl) (fun r1 h2 => ?_)
  refine S_istore_n g dX12_comes_10 rfl (by decide) rfl ?_
  refine S_iload_n (kk := 0) g dX12_comes_11 rfl rfl ?_
  refine S_bipush g dX12_comes_12 ⟨by decide, by decide⟩ rfl ?_
  refine S_bipush g dX12_comes_14 ⟨by decide, by decide⟩ rfl ?_
  refine S_callSi (As := [vI r1, vI 100, vI 102]) g dX12_comes_16 (sX12_in hw _ _ _ _) rfl st_X12_in cw_X12_in ml_Mod_212 ini_Mod nd_X12_in ⟨by decide, by decide⟩ (Nat.le_of_ble_eq_true rfl) (fun r3 h4 => ?_)
  refine S_if_eq (tgt := 32) g dX12_comes_19 (by decide) ?_ ?_
  · refine S_iload_n (kk := 0) g dX12_comes_32 rfl rfl ?_
    refine S_iconst g dX12_comes_33 ⟨by decide, by decide⟩ ?_
    refine S_icmp_eq (tgt := 80) g dX12_comes_34 (by decide) ?_ ?_
    · refine S_iconst g dX12_comes_80 ⟨by decide, by decide⟩ ?_
      refine S_istore_n g dX12_comes_81 rfl (by decide) rfl ?_
      refine S_iconst g dX12_comes_82 ⟨by decide, by decide⟩ ?_
      refine S_istore g dX12_comes_83 (by decide) rfl ?_
      refine S_sub g [3, 4, 1, 0] rfl ?_
      exact sX12_comes_L85 hw g _ _ _ _
    · refine S_aload_n (kk := 1) g dX12_comes_37 rfl rfl ?_
      refine S_iload_n (kk := 0) g dX12_comes_38 rfl rfl ?_
      refine S_sipush g dX12_comes_39 ⟨by decide, by decide⟩ rfl ?_
      refine S_icmp_ne (tgt := 50) g dX12_comes_42 (by decide) ?_ ?_
      · refine S_bipush g dX12_comes_50 ⟨by decide, by decide⟩ rfl ?_
        refine S_sub g [1, 2] rfl ?_
        exact sX12_comes_p52 hw g _ _ _
      · refine S_bipush g dX12_comes_45 ⟨by decide, by decide⟩ rfl ?_
        refine S_goto (tgt := 52) g dX12_comes_47 (by decide) ?_
        refine S_sub g [1, 2] rfl ?_
        exact sX12_comes_p52 hw g _ _ _
  · refine S_aload_n (kk := 1) g dX12_comes_22 rfl rfl ?_
    refine S_getr g dX12_comes_23 fl_Mod_72 (at_143 hw) rfl (rc_143_29 hw) ?_
    refine S_iload_n (kk := 0) g dX12_comes_26 rfl rfl ?_
    refine S_bipush g dX12_comes_27 ⟨by decide, by decide⟩ rfl ?_
    refine S_isub g dX12_comes_29 ?_
    refine S_iaload g dX12_comes_30 (at_160 hw) ?_
    exact S_ireturn g dX12_comes_31 rfl

def XX12_changes (x0 : Int) (x1 : Int) (x2 : Int) (h : Hp) : OR :=
  inb (h 143 37) 200 (hm (wr h 167 (h 143 37).toNat x0) (fun h1 => inb (h1 143 37) 200 (hm (wr h1 168 (h1 143 37).toNat x1) (fun h2 => inb (h2 143 37) 200 (hm (wr h2 169 (h2 143 37).toNat x2) (fun h3 => chk ((h3 143 37) + 1) (hm (wr h3 143 37 ((h3 143 37) + 1)) (fun h4 => some (0, h4)))))))))
theorem sX12_changes {G : GG} {w : Wd} (hw : okM w) (x0 : Int) (x1 : Int) (x2 : Int) (h : Hp) : SC G w yX12_changes (Cond.code yX12_changes cX12_changes 4 (Option.none : Option Jvm.ClassFile.FieldType)) 1 3 [vP 143, vI x0, vI x1, vI x2] (XX12_changes x0 x1 x2 h) h := by
  refine SC_of (own := "GatePatchModel") plain_Mod rfl (Nat.le_of_ble_eq_true rfl) (fun Γ hG g => ?_)
  subst hG
  show Sim Γ w 3 _ h 0 [(0, vP 143), (1, vI x0), (2, vI x1), (3, vI x2)] []
  unfold XX12_changes
  refine S_aload_n (kk := 0) g dX12_changes_0 rfl rfl ?_
  refine S_getr g dX12_changes_1 fl_Mod_93 (at_143 hw) rfl (rc_143_39 hw) ?_
  refine S_aload_n (kk := 0) g dX12_changes_4 rfl rfl ?_
  refine S_geti g dX12_changes_5 fl_Mod_236 (at_143 hw) (Or.inl rfl) ?_
  refine S_iload_n (kk := 1) g dX12_changes_8 rfl rfl ?_
  refine S_iastore g dX12_changes_9 (at_167 hw) (fun h1 => ?_)
  refine S_aload_n (kk := 0) g dX12_changes_10 rfl rfl ?_
  refine S_getr g dX12_changes_11 fl_Mod_96 (at_143 hw) rfl (rc_143_40 hw) ?_
  refine S_aload_n (kk := 0) g dX12_changes_14 rfl rfl ?_
  refine S_geti g dX12_changes_15 fl_Mod_236 (at_143 hw) (Or.inl rfl) ?_
  refine S_iload_n (kk := 2) g dX12_changes_18 rfl rfl ?_
  refine S_iastore g dX12_changes_19 (at_168 hw) (fun h2 => ?_)
  refine S_aload_n (kk := 0) g dX12_changes_20 rfl rfl ?_
  refine S_getr g dX12_changes_21 fl_Mod_99 (at_143 hw) rfl (rc_143_41 hw) ?_
  refine S_aload_n (kk := 0) g dX12_changes_24 rfl rfl ?_
  refine S_geti g dX12_changes_25 fl_Mod_236 (at_143 hw) (Or.inl rfl) ?_
  refine S_iload_n (kk := 3) g dX12_changes_28 rfl rfl ?_
  refine S_iastore g dX12_changes_29 (at_169 hw) (fun h3 => ?_)
  refine S_aload_n (kk := 0) g dX12_changes_30 rfl rfl ?_
  refine S_dup g dX12_changes_31 rfl ?_
  refine S_geti g dX12_changes_32 fl_Mod_236 (at_143 hw) (Or.inl rfl) ?_
  refine S_iconst g dX12_changes_35 ⟨by decide, by decide⟩ ?_
  refine S_iadd g dX12_changes_36 ?_
  refine S_puti g dX12_changes_37 fp_Mod_236 (at_143 hw) rfl (fun h4 => ?_)
  exact S_return g dX12_changes_40 rfl

def XX12_turns_p152  (self120 : Int → Int → Int → Hp → OR) (l1 l2 l3 : Int) (h : Hp) : OR :=
  chk (l3 + 1) (self120 l1 l2 (l3 + 1) h)
def XX12_turns_b120   (self120 : Int → Int → Int → Hp → OR) (l1 l2 l3 : Int) (h : Hp) : OR :=
  if (h 143 2) ≤ l3 then some (0, h) else inb l3 4 (if (h 148 l3.toNat) = l1 then inb l3 4 (hm (wr h 148 l3.toNat l2) (fun h5 => cal (XX12_changes 2 l3 0 h5) (fun r6 h7 => XX12_turns_p152 self120 l1 l2 l3 h7))) else XX12_turns_p152 self120 l1 l2 l3 h)
def XX12_turns_L120   (l1 l2 l3 : Int) (h : Hp) : OR := lup3 (XX12_turns_b120 ) FU l1 l2 l3 h
def XX12_turns_p112  (self80 : Int → Int → Int → Hp → OR) (l1 l2 l3 : Int) (h : Hp) : OR :=
  chk (l3 + 1) (self80 l1 l2 (l3 + 1) h)
def XX12_turns_b80   (self80 : Int → Int → Int → Hp → OR) (l1 l2 l3 : Int) (h : Hp) : OR :=
  if (h 143 3) ≤ l3 then XX12_turns_L120 l1 l2 0 h else inb l3 8 (if (h 147 l3.toNat) = l1 then inb l3 8 (hm (wr h 147 l3.toNat l2) (fun h8 => cal (XX12_changes 1 l3 0 h8) (fun r9 h10 => XX12_turns_p112 self80 l1 l2 l3 h10))) else XX12_turns_p112 self80 l1 l2 l3 h)
def XX12_turns_L80   (l1 l2 l3 : Int) (h : Hp) : OR := lup3 (XX12_turns_b80 ) FU l1 l2 l3 h
def XX12_turns_p66  (self5 : Int → Int → Int → Hp → OR) (self17 : Int → Int → Int → Int → Hp → OR) (l1 l2 l3 l4 : Int) (h : Hp) : OR :=
  chk (l4 + 1) (self17 l1 l2 l3 (l4 + 1) h)
def XX12_turns_b17  (self5 : Int → Int → Int → Hp → OR) (self17 : Int → Int → Int → Int → Hp → OR) (l1 l2 l3 l4 : Int) (h : Hp) : OR :=
  inb l3 96 (cal (XX12_pinsOf (h 145 l3.toNat) h) (fun r11 h12 => if r11 ≤ l4 then chk (l3 + 1) (self5 l1 l2 (l3 + 1) h12) else chk (3 * l3) (chk ((3 * l3) + l4) (inb ((3 * l3) + l4) 288 (if (h12 146 ((3 * l3) + l4).toNat) = l1 then chk (3 * l3) (chk ((3 * l3) + l4) (inb ((3 * l3) + l4) 288 (hm (wr h12 146 ((3 * l3) + l4).toNat l2) (fun h13 => cal (XX12_changes 0 l3 l4 h13) (fun r14 h15 => XX12_turns_p66 self5 self17 l1 l2 l3 l4 h15))))) else XX12_turns_p66 self5 self17 l1 l2 l3 l4 h12)))))
def XX12_turns_L17  (self5 : Int → Int → Int → Hp → OR) (l1 l2 l3 l4 : Int) (h : Hp) : OR := lup4 (XX12_turns_b17 self5) FU l1 l2 l3 l4 h
def XX12_turns_b5   (self5 : Int → Int → Int → Hp → OR) (l1 l2 l3 : Int) (h : Hp) : OR :=
  cal (XX12_wires 0 h) (fun r3 h4 => if r3 ≤ l3 then XX12_turns_L80 l1 l2 0 h4 else XX12_turns_L17 self5 l1 l2 l3 0 h4)
def XX12_turns_L5   (l1 l2 l3 : Int) (h : Hp) : OR := lup3 (XX12_turns_b5 ) FU l1 l2 l3 h
def XX12_turns (x0 : Int) (x1 : Int) (h : Hp) : OR :=
  cal (XX12_begun h) (fun r1 h2 => XX12_turns_L5 x0 x1 r1 h2)
theorem sX12_turns_p152 {Γ : Cx} {w : Wd} (hw : okM w) (g : Gd Γ cX12_turns 5 "GatePatchModel" (Option.none : Option Jvm.ClassFile.FieldType) (rmd 3))  (self120 : Int → Int → Int → Hp → OR) (hs120 : ∀ (x0 x1 x2 : Int) (h : Hp), Sim Γ w 3 (self120 x0 x1 x2 h) h 120 [(0, vP 143), (1, vI x0), (2, vI x1), (3, vI x2)] []) (l1 l2 l3 : Int) (h : Hp) : Sim Γ w 3 (XX12_turns_p152 self120 l1 l2 l3  h) h 152 [(0, vP 143), (1, vI l1), (2, vI l2), (3, vI l3)] [] := by
  unfold XX12_turns_p152
  refine S_iinc (kk := 3) g dX12_turns_152 rfl (by decide) rfl ?_
  refine S_goto (tgt := 120) g dX12_turns_155 (by decide) ?_
  refine S_sub g [1, 2, 3, 0] rfl ?_
  exact hs120 _ _ _ _

theorem sX12_turns_L120 {Γ : Cx} {w : Wd} (hw : okM w) (g : Gd Γ cX12_turns 5 "GatePatchModel" (Option.none : Option Jvm.ClassFile.FieldType) (rmd 3))   : ∀ (l1 l2 l3 : Int) (h : Hp), Sim Γ w 3 (XX12_turns_L120  l1 l2 l3 h) h 120 [(0, vP 143), (1, vI l1), (2, vI l2), (3, vI l3)] [] := by
  refine S_lup3 (fun l1 l2 l3 => [(0, vP 143), (1, vI l1), (2, vI l2), (3, vI l3)]) (fun self120 hs120 l1 l2 l3 h => ?_) FU
  unfold XX12_turns_b120
  refine S_iload_n (kk := 3) g dX12_turns_120 rfl rfl ?_
  refine S_aload_n (kk := 0) g dX12_turns_121 rfl rfl ?_
  refine S_geti g dX12_turns_122 fl_Mod_205 (at_143 hw) (Or.inl rfl) ?_
  refine S_icmp_ge (tgt := 158) g dX12_turns_125 (by decide) ?_ ?_
  · exact S_return g dX12_turns_158 rfl
  · refine S_aload_n (kk := 0) g dX12_turns_128 rfl rfl ?_
    refine S_getr g dX12_turns_129 fl_Mod_29 (at_143 hw) rfl (rc_143_8 hw) ?_
    refine S_iload_n (kk := 3) g dX12_turns_132 rfl rfl ?_
    refine S_iaload g dX12_turns_133 (at_148 hw) ?_
    refine S_iload_n (kk := 1) g dX12_turns_134 rfl rfl ?_
    refine S_icmp_ne (tgt := 152) g dX12_turns_135 (by decide) ?_ ?_
    · exact sX12_turns_p152 hw g self120 hs120 _ _ _ _
    · refine S_aload_n (kk := 0) g dX12_turns_138 rfl rfl ?_
      refine S_getr g dX12_turns_139 fl_Mod_29 (at_143 hw) rfl (rc_143_8 hw) ?_
      refine S_iload_n (kk := 3) g dX12_turns_142 rfl rfl ?_
      refine S_iload_n (kk := 2) g dX12_turns_143 rfl rfl ?_
      refine S_iastore g dX12_turns_144 (at_148 hw) (fun h5 => ?_)
      refine S_aload_n (kk := 0) g dX12_turns_145 rfl rfl ?_
      refine S_iconst g dX12_turns_146 ⟨by decide, by decide⟩ ?_
      refine S_iload_n (kk := 3) g dX12_turns_147 rfl rfl ?_
      refine S_iconst g dX12_turns_148 ⟨by decide, by decide⟩ ?_
      refine S_callVv (As := [vI 2, vI l3, vI 0]) g dX12_turns_149 (sX12_changes hw _ _ _ _) rfl (at_143 hw) rfl im_X12_changes se_X12_changes cw_X12_changes ml_Mod_464 ini_Mod nd_X12_changes ⟨by decide, by decide⟩ (Nat.le_of_ble_eq_true rfl) (fun r6 h7 => ?_)
      exact sX12_turns_p152 hw g self120 hs120 _ _ _ _

theorem sX12_turns_p112 {Γ : Cx} {w : Wd} (hw : okM w) (g : Gd Γ cX12_turns 5 "GatePatchModel" (Option.none : Option Jvm.ClassFile.FieldType) (rmd 3))  (self80 : Int → Int → Int → Hp → OR) (hs80 : ∀ (x0 x1 x2 : Int) (h : Hp), Sim Γ w 3 (self80 x0 x1 x2 h) h 80 [(0, vP 143), (1, vI x0), (2, vI x1), (3, vI x2)] []) (l1 l2 l3 : Int) (h : Hp) : Sim Γ w 3 (XX12_turns_p112 self80 l1 l2 l3  h) h 112 [(0, vP 143), (1, vI l1), (2, vI l2), (3, vI l3)] [] := by
  unfold XX12_turns_p112
  refine S_iinc (kk := 3) g dX12_turns_112 rfl (by decide) rfl ?_
  refine S_goto (tgt := 80) g dX12_turns_115 (by decide) ?_
  refine S_sub g [1, 2, 3, 0] rfl ?_
  exact hs80 _ _ _ _

theorem sX12_turns_L80 {Γ : Cx} {w : Wd} (hw : okM w) (g : Gd Γ cX12_turns 5 "GatePatchModel" (Option.none : Option Jvm.ClassFile.FieldType) (rmd 3))   : ∀ (l1 l2 l3 : Int) (h : Hp), Sim Γ w 3 (XX12_turns_L80  l1 l2 l3 h) h 80 [(0, vP 143), (1, vI l1), (2, vI l2), (3, vI l3)] [] := by
  refine S_lup3 (fun l1 l2 l3 => [(0, vP 143), (1, vI l1), (2, vI l2), (3, vI l3)]) (fun self80 hs80 l1 l2 l3 h => ?_) FU
  unfold XX12_turns_b80
  refine S_iload_n (kk := 3) g dX12_turns_80 rfl rfl ?_
  refine S_aload_n (kk := 0) g dX12_turns_81 rfl rfl ?_
  refine S_geti g dX12_turns_82 fl_Mod_13 (at_143 hw) (Or.inl rfl) ?_
  refine S_icmp_ge (tgt := 118) g dX12_turns_85 (by decide) ?_ ?_
  · refine S_iconst g dX12_turns_118 ⟨by decide, by decide⟩ ?_
    refine S_istore_n g dX12_turns_119 rfl (by decide) rfl ?_
    refine S_sub g [1, 2, 3, 0] rfl ?_
    exact sX12_turns_L120 hw g _ _ _ _
  · refine S_aload_n (kk := 0) g dX12_turns_88 rfl rfl ?_
    refine S_getr g dX12_turns_89 fl_Mod_26 (at_143 hw) rfl (rc_143_7 hw) ?_
    refine S_iload_n (kk := 3) g dX12_turns_92 rfl rfl ?_
    refine S_iaload g dX12_turns_93 (at_147 hw) ?_
    refine S_iload_n (kk := 1) g dX12_turns_94 rfl rfl ?_
    refine S_icmp_ne (tgt := 112) g dX12_turns_95 (by decide) ?_ ?_
    · exact sX12_turns_p112 hw g self80 hs80 _ _ _ _
    · refine S_aload_n (kk := 0) g dX12_turns_98 rfl rfl ?_
      refine S_getr g dX12_turns_99 fl_Mod_26 (at_143 hw) rfl (rc_143_7 hw) ?_
      refine S_iload_n (kk := 3) g dX12_turns_102 rfl rfl ?_
      refine S_iload_n (kk := 2) g dX12_turns_103 rfl rfl ?_
      refine S_iastore g dX12_turns_104 (at_147 hw) (fun h8 => ?_)
      refine S_aload_n (kk := 0) g dX12_turns_105 rfl rfl ?_
      refine S_iconst g dX12_turns_106 ⟨by decide, by decide⟩ ?_
      refine S_iload_n (kk := 3) g dX12_turns_107 rfl rfl ?_
      refine S_iconst g dX12_turns_108 ⟨by decide, by decide⟩ ?_
      refine S_callVv (As := [vI 1, vI l3, vI 0]) g dX12_turns_109 (sX12_changes hw _ _ _ _) rfl (at_143 hw) rfl im_X12_changes se_X12_changes cw_X12_changes ml_Mod_464 ini_Mod nd_X12_changes ⟨by decide, by decide⟩ (Nat.le_of_ble_eq_true rfl) (fun r9 h10 => ?_)
      exact sX12_turns_p112 hw g self80 hs80 _ _ _ _

theorem sX12_turns_p66 {Γ : Cx} {w : Wd} (hw : okM w) (g : Gd Γ cX12_turns 5 "GatePatchModel" (Option.none : Option Jvm.ClassFile.FieldType) (rmd 3))  (self5 : Int → Int → Int → Hp → OR) (hs5 : ∀ (x0 x1 x2 : Int) (h : Hp), Sim Γ w 3 (self5 x0 x1 x2 h) h 5 [(0, vP 143), (1, vI x0), (2, vI x1), (3, vI x2)] []) (self17 : Int → Int → Int → Int → Hp → OR) (hs17 : ∀ (x0 x1 x2 x3 : Int) (h : Hp), Sim Γ w 3 (self17 x0 x1 x2 x3 h) h 17 [(0, vP 143), (1, vI x0), (2, vI x1), (3, vI x2), (4, vI x3)] []) (l1 l2 l3 l4 : Int) (h : Hp) : Sim Γ w 3 (XX12_turns_p66 self5 self17 l1 l2 l3 l4  h) h 66 [(0, vP 143), (1, vI l1), (2, vI l2), (3, vI l3), (4, vI l4)] [] := by
  unfold XX12_turns_p66
  refine S_iinc (kk := 4) g dX12_turns_66 rfl (by decide) rfl ?_
  refine S_goto (tgt := 17) g dX12_turns_69 (by decide) ?_
  refine S_sub g [1, 2, 3, 4, 0] rfl ?_
  exact hs17 _ _ _ _ _

theorem sX12_turns_L17 {Γ : Cx} {w : Wd} (hw : okM w) (g : Gd Γ cX12_turns 5 "GatePatchModel" (Option.none : Option Jvm.ClassFile.FieldType) (rmd 3))  (self5 : Int → Int → Int → Hp → OR) (hs5 : ∀ (x0 x1 x2 : Int) (h : Hp), Sim Γ w 3 (self5 x0 x1 x2 h) h 5 [(0, vP 143), (1, vI x0), (2, vI x1), (3, vI x2)] []) : ∀ (l1 l2 l3 l4 : Int) (h : Hp), Sim Γ w 3 (XX12_turns_L17 self5 l1 l2 l3 l4 h) h 17 [(0, vP 143), (1, vI l1), (2, vI l2), (3, vI l3), (4, vI l4)] [] := by
  refine S_lup4 (fun l1 l2 l3 l4 => [(0, vP 143), (1, vI l1), (2, vI l2), (3, vI l3), (4, vI l4)]) (fun self17 hs17 l1 l2 l3 l4 h => ?_) FU
  unfold XX12_turns_b17
  refine S_iload (kk := 4) g dX12_turns_17 rfl ?_
  refine S_aload_n (kk := 0) g dX12_turns_19 rfl rfl ?_
  refine S_getr g dX12_turns_20 fl_Mod_20 (at_143 hw) rfl (rc_143_5 hw) ?_
  refine S_iload_n (kk := 3) g dX12_turns_23 rfl rfl ?_
  refine S_iaload g dX12_turns_24 (at_145 hw) ?_
  refine S_callSi (As := [vI (h 145 l3.toNat)]) g dX12_turns_25 (sX12_pinsOf hw _ _) rfl st_X12_pinsOf cw_X12_pinsOf ml_Mod_253 ini_Mod nd_X12_pinsOf ⟨by decide, by decide⟩ (Nat.le_of_ble_eq_true rfl) (fun r11 h12 => ?_)
  refine S_icmp_ge (tgt := 72) g dX12_turns_28 (by decide) ?_ ?_
  · refine S_iinc (kk := 3) g dX12_turns_72 rfl (by decide) rfl ?_
    refine S_goto (tgt := 5) g dX12_turns_75 (by decide) ?_
    refine S_sub g [1, 2, 3, 0] rfl ?_
    exact hs5 _ _ _ _
  · refine S_aload_n (kk := 0) g dX12_turns_31 rfl rfl ?_
    refine S_getr g dX12_turns_32 fl_Mod_23 (at_143 hw) rfl (rc_143_6 hw) ?_
    refine S_iconst g dX12_turns_35 ⟨by decide, by decide⟩ ?_
    refine S_iload_n (kk := 3) g dX12_turns_36 rfl rfl ?_
    refine S_imul g dX12_turns_37 ?_
    refine S_iload (kk := 4) g dX12_turns_38 rfl ?_
    refine S_iadd g dX12_turns_40 ?_
    refine S_iaload g dX12_turns_41 (at_146 hw) ?_
    refine S_iload_n (kk := 1) g dX12_turns_42 rfl rfl ?_
    refine S_icmp_ne (tgt := 66) g dX12_turns_43 (by decide) ?_ ?_
    · exact sX12_turns_p66 hw g self5 hs5 self17 hs17 _ _ _ _ _
    · refine S_aload_n (kk := 0) g dX12_turns_46 rfl rfl ?_
      refine S_getr g dX12_turns_47 fl_Mod_23 (at_143 hw) rfl (rc_143_6 hw) ?_
      refine S_iconst g dX12_turns_50 ⟨by decide, by decide⟩ ?_
      refine S_iload_n (kk := 3) g dX12_turns_51 rfl rfl ?_
      refine S_imul g dX12_turns_52 ?_
      refine S_iload (kk := 4) g dX12_turns_53 rfl ?_
      refine S_iadd g dX12_turns_55 ?_
      refine S_iload_n (kk := 2) g dX12_turns_56 rfl rfl ?_
      refine S_iastore g dX12_turns_57 (at_146 hw) (fun h13 => ?_)
      refine S_aload_n (kk := 0) g dX12_turns_58 rfl rfl ?_
      refine S_iconst g dX12_turns_59 ⟨by decide, by decide⟩ ?_
      refine S_iload_n (kk := 3) g dX12_turns_60 rfl rfl ?_
      refine S_iload (kk := 4) g dX12_turns_61 rfl ?_
      refine S_callVv (As := [vI 0, vI l3, vI l4]) g dX12_turns_63 (sX12_changes hw _ _ _ _) rfl (at_143 hw) rfl im_X12_changes se_X12_changes cw_X12_changes ml_Mod_464 ini_Mod nd_X12_changes ⟨by decide, by decide⟩ (Nat.le_of_ble_eq_true rfl) (fun r14 h15 => ?_)
      exact sX12_turns_p66 hw g self5 hs5 self17 hs17 _ _ _ _ _

theorem sX12_turns_L5 {Γ : Cx} {w : Wd} (hw : okM w) (g : Gd Γ cX12_turns 5 "GatePatchModel" (Option.none : Option Jvm.ClassFile.FieldType) (rmd 3))   : ∀ (l1 l2 l3 : Int) (h : Hp), Sim Γ w 3 (XX12_turns_L5  l1 l2 l3 h) h 5 [(0, vP 143), (1, vI l1), (2, vI l2), (3, vI l3)] [] := by
  refine S_lup3 (fun l1 l2 l3 => [(0, vP 143), (1, vI l1), (2, vI l2), (3, vI l3)]) (fun self5 hs5 l1 l2 l3 h => ?_) FU
  unfold XX12_turns_b5
  refine S_iload_n (kk := 3) g dX12_turns_5 rfl rfl ?_
  refine S_aload_n (kk := 0) g dX12_turns_6 rfl rfl ?_
  refine S_iconst g dX12_turns_7 ⟨by decide, by decide⟩ ?_
  refine S_callVi (As := [vI 0]) g dX12_turns_8 (sX12_wires hw _ _) rfl (at_143 hw) rfl im_X12_wires se_X12_wires cw_X12_wires ml_Mod_216 ini_Mod nd_X12_wires ⟨by decide, by decide⟩ (Nat.le_of_ble_eq_true rfl) (fun r3 h4 => ?_)
  refine S_icmp_ge (tgt := 78) g dX12_turns_11 (by decide) ?_ ?_
  · refine S_iconst g dX12_turns_78 ⟨by decide, by decide⟩ ?_
    refine S_istore_n g dX12_turns_79 rfl (by decide) rfl ?_
    refine S_sub g [1, 2, 3, 0] rfl ?_
    exact sX12_turns_L80 hw g _ _ _ _
  · refine S_iconst g dX12_turns_14 ⟨by decide, by decide⟩ ?_
    refine S_istore g dX12_turns_15 (by decide) rfl ?_
    refine S_sub g [1, 2, 3, 4, 0] rfl ?_
    exact sX12_turns_L17 hw g self5 hs5 _ _ _ _ _

theorem sX12_turns {G : GG} {w : Wd} (hw : okM w) (x0 : Int) (x1 : Int) (h : Hp) : SC G w yX12_turns (Cond.code yX12_turns cX12_turns 5 (Option.none : Option Jvm.ClassFile.FieldType)) 3 3 [vP 143, vI x0, vI x1] (XX12_turns x0 x1 h) h := by
  refine SC_of (own := "GatePatchModel") plain_Mod rfl (Nat.le_of_ble_eq_true rfl) (fun Γ hG g => ?_)
  subst hG
  show Sim Γ w 3 _ h 0 [(0, vP 143), (1, vI x0), (2, vI x1)] []
  unfold XX12_turns
  refine S_aload_n (kk := 0) g dX12_turns_0 rfl rfl ?_
  refine S_callVi (As := []) g dX12_turns_1 (sX12_begun hw  _) rfl (at_143 hw) rfl im_X12_begun se_X12_begun cw_X12_begun ml_Mod_208 ini_Mod nd_X12_begun ⟨by decide, by decide⟩ (Nat.le_of_ble_eq_true rfl) (fun r1 h2 => ?_)
  refine S_istore_n g dX12_turns_4 rfl (by decide) rfl ?_
  refine S_sub g [1, 2, 3, 0] rfl ?_
  exact sX12_turns_L5 hw g _ _ _ _

def XX12_shown_p35  (self4 : Int → Int → Int → Hp → OR) (l1 l3 : Int) (s0 s1 : Int) (h : Hp) : OR :=
  nm (aor s0 s1) (fun v7 => chk (l3 + 1) (self4 l1 v7 (l3 + 1) h))
def XX12_shown_b4   (self4 : Int → Int → Int → Hp → OR) (l1 l2 l3 : Int) (h : Hp) : OR :=
  cal (XX12_observed h) (fun r1 h2 => if r1 ≤ l3 then some (l2, h2) else cal (XX12_seen 0 l3 h2) (fun r3 h4 => cal (XX12_isAt 0 r3 l1 h4) (fun r5 h6 => if r5 = 0 then XX12_shown_p35 self4 l1 l3 l2 0 h6 else XX12_shown_p35 self4 l1 l3 l2 (ashl 1 l3) h6)))
def XX12_shown_L4   (l1 l2 l3 : Int) (h : Hp) : OR := lup3 (XX12_shown_b4 ) FU l1 l2 l3 h
def XX12_shown (x0 : Int) (h : Hp) : OR :=
  XX12_shown_L4 x0 0 0 h
theorem sX12_shown_p35 {Γ : Cx} {w : Wd} (hw : okM w) (g : Gd Γ cX12_shown 4 "GatePatchModel" (Option.some Jvm.ClassFile.FieldType.int) (rmd 2))  (self4 : Int → Int → Int → Hp → OR) (hs4 : ∀ (x0 x1 x2 : Int) (h : Hp), Sim Γ w 0 (self4 x0 x1 x2 h) h 4 [(0, vP 143), (1, vI x0), (2, vI x1), (3, vI x2)] []) (l1 l3 : Int) (s0 s1 : Int) (h : Hp) : Sim Γ w 0 (XX12_shown_p35 self4 l1 l3 s0 s1 h) h 35 [(0, vP 143), (1, vI l1), (3, vI l3)] [vI s1, vI s0] := by
  unfold XX12_shown_p35
  refine S_ior g dX12_shown_35 ?_
  refine S_nmI (fun v7 => ?_)
  refine S_istore_n g dX12_shown_36 rfl (by decide) rfl ?_
  refine S_iinc (kk := 3) g dX12_shown_37 rfl (by decide) rfl ?_
  refine S_goto (tgt := 4) g dX12_shown_40 (by decide) ?_
  refine S_sub g [2, 3, 1, 0] rfl ?_
  exact hs4 _ _ _ _

theorem sX12_shown_L4 {Γ : Cx} {w : Wd} (hw : okM w) (g : Gd Γ cX12_shown 4 "GatePatchModel" (Option.some Jvm.ClassFile.FieldType.int) (rmd 2))   : ∀ (l1 l2 l3 : Int) (h : Hp), Sim Γ w 0 (XX12_shown_L4  l1 l2 l3 h) h 4 [(0, vP 143), (1, vI l1), (2, vI l2), (3, vI l3)] [] := by
  refine S_lup3 (fun l1 l2 l3 => [(0, vP 143), (1, vI l1), (2, vI l2), (3, vI l3)]) (fun self4 hs4 l1 l2 l3 h => ?_) FU
  unfold XX12_shown_b4
  refine S_iload_n (kk := 3) g dX12_shown_4 rfl rfl ?_
  refine S_aload_n (kk := 0) g dX12_shown_5 rfl rfl ?_
  refine S_callVi (As := []) g dX12_shown_6 (sX12_observed hw  _) rfl (at_143 hw) rfl im_X12_observed se_X12_observed cw_X12_observed ml_Mod_316 ini_Mod nd_X12_observed ⟨by decide, by decide⟩ (Nat.le_of_ble_eq_true rfl) (fun r1 h2 => ?_)
  refine S_icmp_ge (tgt := 43) g dX12_shown_9 (by decide) ?_ ?_
  · refine S_iload_n (kk := 2) g dX12_shown_43 rfl rfl ?_
    exact S_ireturn g dX12_shown_44 rfl
  · refine S_iload_n (kk := 2) g dX12_shown_12 rfl rfl ?_
    refine S_aload_n (kk := 0) g dX12_shown_13 rfl rfl ?_
    refine S_iconst g dX12_shown_14 ⟨by decide, by decide⟩ ?_
    refine S_aload_n (kk := 0) g dX12_shown_15 rfl rfl ?_
    refine S_iconst g dX12_shown_16 ⟨by decide, by decide⟩ ?_
    refine S_iload_n (kk := 3) g dX12_shown_17 rfl rfl ?_
    refine S_callVi (As := [vI 0, vI l3]) g dX12_shown_18 (sX12_seen hw _ _ _) rfl (at_143 hw) rfl im_X12_seen se_X12_seen cw_X12_seen ml_Mod_319 ini_Mod nd_X12_seen ⟨by decide, by decide⟩ (Nat.le_of_ble_eq_true rfl) (fun r3 h4 => ?_)
    refine S_iload_n (kk := 1) g dX12_shown_21 rfl rfl ?_
    refine S_callVi (As := [vI 0, vI r3, vI l1]) g dX12_shown_22 (sX12_isAt hw _ _ _ _) rfl (at_143 hw) rfl im_X12_isAt se_X12_isAt cw_X12_isAt ml_Mod_313 ini_Mod nd_X12_isAt ⟨by decide, by decide⟩ (Nat.le_of_ble_eq_true rfl) (fun r5 h6 => ?_)
    refine S_if_eq (tgt := 34) g dX12_shown_25 (by decide) ?_ ?_
    · refine S_iconst g dX12_shown_34 ⟨by decide, by decide⟩ ?_
      refine S_sub g [0, 1, 3] rfl ?_
      exact sX12_shown_p35 hw g self4 hs4 _ _ _ _ _
    · refine S_iconst g dX12_shown_28 ⟨by decide, by decide⟩ ?_
      refine S_iload_n (kk := 3) g dX12_shown_29 rfl rfl ?_
      refine S_ishl g dX12_shown_30 ?_
      refine S_goto (tgt := 35) g dX12_shown_31 (by decide) ?_
      refine S_sub g [0, 1, 3] rfl ?_
      exact sX12_shown_p35 hw g self4 hs4 _ _ _ _ _

theorem sX12_shown {G : GG} {w : Wd} (hw : okM w) (x0 : Int) (h : Hp) : SC G w yX12_shown (Cond.code yX12_shown cX12_shown 4 (Option.some Jvm.ClassFile.FieldType.int)) 2 0 [vP 143, vI x0] (XX12_shown x0 h) h := by
  refine SC_of (own := "GatePatchModel") plain_Mod rfl (Nat.le_of_ble_eq_true rfl) (fun Γ hG g => ?_)
  subst hG
  show Sim Γ w 0 _ h 0 [(0, vP 143), (1, vI x0)] []
  unfold XX12_shown
  refine S_iconst g dX12_shown_0 ⟨by decide, by decide⟩ ?_
  refine S_istore_n g dX12_shown_1 rfl (by decide) rfl ?_
  refine S_iconst g dX12_shown_2 ⟨by decide, by decide⟩ ?_
  refine S_istore_n g dX12_shown_3 rfl (by decide) rfl ?_
  refine S_sub g [2, 3, 1, 0] rfl ?_
  exact sX12_shown_L4 hw g _ _ _ _

def XX12_apply_p296  (self240 : Int → Int → Hp → OR) (l1 l4 : Int) (h : Hp) : OR :=
  chk (l4 + 1) (self240 l1 (l4 + 1) h)
def XX12_apply_b240   (self240 : Int → Int → Hp → OR) (l1 l4 : Int) (h : Hp) : OR :=
  cal (XX12_cases h) (fun r17 h18 => if r17 ≤ l4 then zb 0 (hm (wr h18 143 23 0) (fun h19 => some (l1, h19))) else inb l4 256 (if (h18 149 l4.toNat) = 0 then cal (XX12_shown l4 h18) (fun r20 h21 => inb l4 256 (if r20 = (h21 201 l4.toNat) then XX12_apply_p296 self240 l1 l4 h21 else inb (h21 143 38) 256 (hm (wr h21 170 (h21 143 38).toNat l4) (fun h22 => chk ((h22 143 38) + 1) (hm (wr h22 143 38 ((h22 143 38) + 1)) (fun h23 => XX12_apply_p296 self240 l1 l4 h23)))))) else XX12_apply_p296 self240 l1 l4 h18))
def XX12_apply_L240   (l1 l4 : Int) (h : Hp) : OR := lup2 (XX12_apply_b240 ) FU l1 l4 h
def XX12_apply_p232   (l1 : Int) (h : Hp) : OR :=
  cal (XX12_knows 0 h) (fun r15 h16 => XX12_apply_L240 l1 0 h16)
def XX12_apply_p201   (l1 l2 : Int) (s0 : Int) (h : Hp) : OR :=
  inb 0 2 (cal (XX12_turns (h 159 (0 : Int).toNat) l2 h) (fun r13 h14 => if (h14 143 25) ≤ 1 then XX12_apply_p232 l1 h14 else inb 1 2 (cal (XX12_turns (h14 159 (1 : Int).toNat) s0 h14) (fun r24 h25 => XX12_apply_p232 l1 h25))))
def XX12_apply_b143   (self143 : Int → Int → Hp → OR) (l1 l2 : Int) (h : Hp) : OR :=
  cal (XX12_cases h) (fun r7 h8 => if r7 ≤ l2 then hm (wr h8 143 37 0) (fun h9 => hm (wr h9 143 38 0) (fun h10 => cal (XX12_comes 0 h10) (fun r11 h12 => if (h12 143 25) ≤ 1 then XX12_apply_p201 l1 r11 (-1) h12 else cal (XX12_comes 1 h12) (fun r26 h27 => XX12_apply_p201 l1 r11 r26 h27)))) else cal (XX12_shown l2 h8) (fun r28 h29 => inb l2 256 (hm (wr h29 201 l2.toNat r28) (fun h30 => chk (l2 + 1) (self143 l1 (l2 + 1) h30)))))
def XX12_apply_L143   (l1 l2 : Int) (h : Hp) : OR := lup2 (XX12_apply_b143 ) FU l1 l2 h
def XX12_apply_p115   (l1 : Int) (h : Hp) : OR :=
  chk (6 + (h 143 36)) (cal (XX12_stores (6 + (h 143 36)) h) (fun r2 h3 => chk ((h3 143 36) + 1) (hm (wr h3 143 36 ((h3 143 36) + 1)) (fun h4 => cal (XX12_knows 0 h4) (fun r5 h6 => XX12_apply_L143 l1 0 h6)))))
def XX12_apply_b80   (self80 : Int → Int → Hp → OR) (l1 l2 : Int) (h : Hp) : OR :=
  if 4 ≤ l2 then chk ((h 143 36) - 1) (hm (wr h 143 36 ((h 143 36) - 1)) (fun h31 => XX12_apply_p115 l1 h31)) else chk (6 + l2) (chk (6 + l2) (chk ((6 + l2) - 1) (cal (XX12_moves (6 + l2) ((6 + l2) - 1) h) (fun r32 h33 => chk (l2 + 1) (self80 l1 (l2 + 1) h33)))))
def XX12_apply_L80   (l1 l2 : Int) (h : Hp) : OR := lup2 (XX12_apply_b80 ) FU l1 l2 h
def XX12_apply_p46  (self16 : Int → Int → Hp → OR) (l2 : Int) (s0 s1 : Int) (h : Hp) : OR :=
  chk (s0 + s1) (nm (s0 + s1) (fun v36 => chk (l2 + 1) (self16 v36 (l2 + 1) h)))
def XX12_apply_b16   (self16 : Int → Int → Hp → OR) (l1 l2 : Int) (h : Hp) : OR :=
  if (h 143 25) ≤ l2 then inb 0 2 (chk ((h 144 (0 : Int).toNat) + l1) (if ((h 144 (0 : Int).toNat) + l1) ≤ 40 then if (h 143 36) = 4 then XX12_apply_L80 l1 1 h else XX12_apply_p115 l1 h else some ((-3), h))) else inb l2 2 (cal (XX12_leafOf (h 161 l2.toNat) h) (fun r34 h35 => if r34 < 200 then XX12_apply_p46 self16 l2 l1 0 h35 else XX12_apply_p46 self16 l2 l1 1 h35))
def XX12_apply_L16   (l1 l2 : Int) (h : Hp) : OR := lup2 (XX12_apply_b16 ) FU l1 l2 h
def XX12_apply  (h : Hp) : OR :=
  if (h 143 23) = 0 then some ((-1), h) else nm (h 143 27) (fun v1 => XX12_apply_L16 v1 0 h)
theorem sX12_apply_p296 {Γ : Cx} {w : Wd} (hw : okM w) (g : Gd Γ cX12_apply 5 "GatePatchModel" (Option.some Jvm.ClassFile.FieldType.int) (rmd 6))  (self240 : Int → Int → Hp → OR) (hs240 : ∀ (x0 x1 : Int) (h : Hp), Sim Γ w 0 (self240 x0 x1 h) h 240 [(0, vP 143), (1, vI x0), (4, vI x1)] []) (l1 l4 : Int) (h : Hp) : Sim Γ w 0 (XX12_apply_p296 self240 l1 l4  h) h 296 [(0, vP 143), (1, vI l1), (4, vI l4)] [] := by
  unfold XX12_apply_p296
  refine S_iinc (kk := 2) g dX12_apply_296 rfl (by decide) rfl ?_
  refine S_goto (tgt := 240) g dX12_apply_299 (by decide) ?_
  refine S_sub g [1, 2, 0] rfl ?_
  exact hs240 _ _ _

theorem sX12_apply_L240 {Γ : Cx} {w : Wd} (hw : okM w) (g : Gd Γ cX12_apply 5 "GatePatchModel" (Option.some Jvm.ClassFile.FieldType.int) (rmd 6))   : ∀ (l1 l4 : Int) (h : Hp), Sim Γ w 0 (XX12_apply_L240  l1 l4 h) h 240 [(0, vP 143), (1, vI l1), (4, vI l4)] [] := by
  refine S_lup2 (fun l1 l4 => [(0, vP 143), (1, vI l1), (4, vI l4)]) (fun self240 hs240 l1 l4 h => ?_) FU
  unfold XX12_apply_b240
  refine S_iload (kk := 2) g dX12_apply_240 rfl ?_
  refine S_aload_n (kk := 0) g dX12_apply_242 rfl rfl ?_
  refine S_callVi (As := []) g dX12_apply_243 (sX12_cases hw  _) rfl (at_143 hw) rfl im_X12_cases se_X12_cases cw_X12_cases ml_Mod_242 ini_Mod nd_X12_cases ⟨by decide, by decide⟩ (Nat.le_of_ble_eq_true rfl) (fun r17 h18 => ?_)
  refine S_icmp_ge (tgt := 302) g dX12_apply_246 (by decide) ?_ ?_
  · refine S_aload_n (kk := 0) g dX12_apply_302 rfl rfl ?_
    refine S_iconst g dX12_apply_303 ⟨by decide, by decide⟩ ?_
    refine S_putz g dX12_apply_304 fp_Mod_229 (at_143 hw) rfl (fun h19 => ?_)
    refine S_iload_n (kk := 1) g dX12_apply_307 rfl rfl ?_
    exact S_ireturn g dX12_apply_308 rfl
  · refine S_aload_n (kk := 0) g dX12_apply_249 rfl rfl ?_
    refine S_getr g dX12_apply_250 fl_Mod_32 (at_143 hw) rfl (rc_143_9 hw) ?_
    refine S_iload (kk := 2) g dX12_apply_253 rfl ?_
    refine S_zaload g dX12_apply_255 (at_149 hw) ?_
    refine S_if_ne (tgt := 296) g dX12_apply_256 (by decide) ?_ ?_
    · exact sX12_apply_p296 hw g self240 hs240 _ _ _
    · refine S_aload_n (kk := 0) g dX12_apply_259 rfl rfl ?_
      refine S_iload (kk := 2) g dX12_apply_260 rfl ?_
      refine S_callVi (As := [vI l4]) g dX12_apply_262 (sX12_shown hw _ _) rfl (at_143 hw) rfl im_X12_shown se_X12_shown cw_X12_shown ml_Mod_472 ini_Mod nd_X12_shown ⟨by decide, by decide⟩ (Nat.le_of_ble_eq_true rfl) (fun r20 h21 => ?_)
      refine S_aload_n (kk := 0) g dX12_apply_265 rfl rfl ?_
      refine S_getr g dX12_apply_266 fl_Mod_196 (at_143 hw) rfl (rc_143_80 hw) ?_
      refine S_iload (kk := 2) g dX12_apply_269 rfl ?_
      refine S_iaload g dX12_apply_271 (at_201 hw) ?_
      refine S_icmp_eq (tgt := 296) g dX12_apply_272 (by decide) ?_ ?_
      · exact sX12_apply_p296 hw g self240 hs240 _ _ _
      · refine S_aload_n (kk := 0) g dX12_apply_275 rfl rfl ?_
        refine S_getr g dX12_apply_276 fl_Mod_102 (at_143 hw) rfl (rc_143_42 hw) ?_
        refine S_aload_n (kk := 0) g dX12_apply_279 rfl rfl ?_
        refine S_geti g dX12_apply_280 fl_Mod_239 (at_143 hw) (Or.inl rfl) ?_
        refine S_iload (kk := 2) g dX12_apply_283 rfl ?_
        refine S_iastore g dX12_apply_285 (at_170 hw) (fun h22 => ?_)
        refine S_aload_n (kk := 0) g dX12_apply_286 rfl rfl ?_
        refine S_dup g dX12_apply_287 rfl ?_
        refine S_geti g dX12_apply_288 fl_Mod_239 (at_143 hw) (Or.inl rfl) ?_
        refine S_iconst g dX12_apply_291 ⟨by decide, by decide⟩ ?_
        refine S_iadd g dX12_apply_292 ?_
        refine S_puti g dX12_apply_293 fp_Mod_239 (at_143 hw) rfl (fun h23 => ?_)
        exact sX12_apply_p296 hw g self240 hs240 _ _ _

theorem sX12_apply_p232 {Γ : Cx} {w : Wd} (hw : okM w) (g : Gd Γ cX12_apply 5 "GatePatchModel" (Option.some Jvm.ClassFile.FieldType.int) (rmd 6))   (l1 : Int) (h : Hp) : Sim Γ w 0 (XX12_apply_p232  l1  h) h 232 [(0, vP 143), (1, vI l1)] [] := by
  unfold XX12_apply_p232
  refine S_aload_n (kk := 0) g dX12_apply_232 rfl rfl ?_
  refine S_iconst g dX12_apply_233 ⟨by decide, by decide⟩ ?_
  refine S_callVv (As := [vI 0]) g dX12_apply_234 (sX12_knows hw _ _) rfl (at_143 hw) rfl im_X12_knows se_X12_knows cw_X12_knows ml_Mod_310 ini_Mod nd_X12_knows ⟨by decide, by decide⟩ (Nat.le_of_ble_eq_true rfl) (fun r15 h16 => ?_)
  refine S_iconst g dX12_apply_237 ⟨by decide, by decide⟩ ?_
  refine S_istore g dX12_apply_238 (by decide) rfl ?_
  refine S_sub g [1, 2, 0] rfl ?_
  exact sX12_apply_L240 hw g _ _ _

theorem sX12_apply_p201 {Γ : Cx} {w : Wd} (hw : okM w) (g : Gd Γ cX12_apply 5 "GatePatchModel" (Option.some Jvm.ClassFile.FieldType.int) (rmd 6))   (l1 l2 : Int) (s0 : Int) (h : Hp) : Sim Γ w 0 (XX12_apply_p201  l1 l2 s0 h) h 201 [(0, vP 143), (1, vI l1), (2, vI l2)] [vI s0] := by
  unfold XX12_apply_p201
  refine S_istore_n g dX12_apply_201 rfl (by decide) rfl ?_
  refine S_aload_n (kk := 1) g dX12_apply_202 rfl rfl ?_
  refine S_aload_n (kk := 1) g dX12_apply_203 rfl rfl ?_
  refine S_getr g dX12_apply_204 fl_Mod_69 (at_143 hw) rfl (rc_143_28 hw) ?_
  refine S_iconst g dX12_apply_207 ⟨by decide, by decide⟩ ?_
  refine S_iaload g dX12_apply_208 (at_159 hw) ?_
  refine S_iload_n (kk := 3) g dX12_apply_209 rfl rfl ?_
  refine S_callVv (As := [vI (h 159 (0 : Int).toNat), vI l2]) g dX12_apply_210 (sX12_turns hw _ _ _) rfl (at_143 hw) rfl im_X12_turns se_X12_turns cw_X12_turns ml_Mod_478 ini_Mod nd_X12_turns ⟨by decide, by decide⟩ (Nat.le_of_ble_eq_true rfl) (fun r13 h14 => ?_)
  refine S_aload_n (kk := 1) g dX12_apply_213 rfl rfl ?_
  refine S_geti g dX12_apply_214 fl_Mod_408 (at_143 hw) (Or.inl rfl) ?_
  refine S_iconst g dX12_apply_217 ⟨by decide, by decide⟩ ?_
  refine S_icmp_le (tgt := 232) g dX12_apply_218 (by decide) ?_ ?_
  · refine S_sub g [1, 2] rfl ?_
    exact sX12_apply_p232 hw g _ _
  · refine S_aload_n (kk := 1) g dX12_apply_221 rfl rfl ?_
    refine S_aload_n (kk := 1) g dX12_apply_222 rfl rfl ?_
    refine S_getr g dX12_apply_223 fl_Mod_69 (at_143 hw) rfl (rc_143_28 hw) ?_
    refine S_iconst g dX12_apply_226 ⟨by decide, by decide⟩ ?_
    refine S_iaload g dX12_apply_227 (at_159 hw) ?_
    refine S_iload_n (kk := 0) g dX12_apply_228 rfl rfl ?_
    refine S_callVv (As := [vI (h14 159 (1 : Int).toNat), vI s0]) g dX12_apply_229 (sX12_turns hw _ _ _) rfl (at_143 hw) rfl im_X12_turns se_X12_turns cw_X12_turns ml_Mod_478 ini_Mod nd_X12_turns ⟨by decide, by decide⟩ (Nat.le_of_ble_eq_true rfl) (fun r24 h25 => ?_)
    refine S_sub g [1, 2] rfl ?_
    exact sX12_apply_p232 hw g _ _

theorem sX12_apply_L143 {Γ : Cx} {w : Wd} (hw : okM w) (g : Gd Γ cX12_apply 5 "GatePatchModel" (Option.some Jvm.ClassFile.FieldType.int) (rmd 6))   : ∀ (l1 l2 : Int) (h : Hp), Sim Γ w 0 (XX12_apply_L143  l1 l2 h) h 143 [(0, vP 143), (1, vI l1), (2, vI l2)] [] := by
  refine S_lup2 (fun l1 l2 => [(0, vP 143), (1, vI l1), (2, vI l2)]) (fun self143 hs143 l1 l2 h => ?_) FU
  unfold XX12_apply_b143
  refine S_iload_n (kk := 2) g dX12_apply_143 rfl rfl ?_
  refine S_aload_n (kk := 0) g dX12_apply_144 rfl rfl ?_
  refine S_callVi (As := []) g dX12_apply_145 (sX12_cases hw  _) rfl (at_143 hw) rfl im_X12_cases se_X12_cases cw_X12_cases ml_Mod_242 ini_Mod nd_X12_cases ⟨by decide, by decide⟩ (Nat.le_of_ble_eq_true rfl) (fun r7 h8 => ?_)
  refine S_icmp_ge (tgt := 168) g dX12_apply_148 (by decide) ?_ ?_
  · refine S_aload_n (kk := 0) g dX12_apply_168 rfl rfl ?_
    refine S_iconst g dX12_apply_169 ⟨by decide, by decide⟩ ?_
    refine S_puti g dX12_apply_170 fp_Mod_236 (at_143 hw) rfl (fun h9 => ?_)
    refine S_aload_n (kk := 0) g dX12_apply_173 rfl rfl ?_
    refine S_iconst g dX12_apply_174 ⟨by decide, by decide⟩ ?_
    refine S_puti g dX12_apply_175 fp_Mod_239 (at_143 hw) rfl (fun h10 => ?_)
    refine S_aload_n (kk := 0) g dX12_apply_178 rfl rfl ?_
    refine S_iconst g dX12_apply_179 ⟨by decide, by decide⟩ ?_
    refine S_callVi (As := [vI 0]) g dX12_apply_180 (sX12_comes hw _ _) rfl (at_143 hw) rfl im_X12_comes se_X12_comes cw_X12_comes ml_Mod_475 ini_Mod nd_X12_comes ⟨by decide, by decide⟩ (Nat.le_of_ble_eq_true rfl) (fun r11 h12 => ?_)
    refine S_istore_n g dX12_apply_183 rfl (by decide) rfl ?_
    refine S_aload_n (kk := 1) g dX12_apply_184 rfl rfl ?_
    refine S_geti g dX12_apply_185 fl_Mod_408 (at_143 hw) (Or.inl rfl) ?_
    refine S_iconst g dX12_apply_188 ⟨by decide, by decide⟩ ?_
    refine S_icmp_le (tgt := 200) g dX12_apply_189 (by decide) ?_ ?_
    · refine S_iconst g dX12_apply_200 ⟨by decide, by decide⟩ ?_
      refine S_sub g [1, 2, 0] rfl ?_
      exact sX12_apply_p201 hw g _ _ _ _
    · refine S_aload_n (kk := 1) g dX12_apply_192 rfl rfl ?_
      refine S_iconst g dX12_apply_193 ⟨by decide, by decide⟩ ?_
      refine S_callVi (As := [vI 1]) g dX12_apply_194 (sX12_comes hw _ _) rfl (at_143 hw) rfl im_X12_comes se_X12_comes cw_X12_comes ml_Mod_475 ini_Mod nd_X12_comes ⟨by decide, by decide⟩ (Nat.le_of_ble_eq_true rfl) (fun r26 h27 => ?_)
      refine S_goto (tgt := 201) g dX12_apply_197 (by decide) ?_
      refine S_sub g [1, 2, 0] rfl ?_
      exact sX12_apply_p201 hw g _ _ _ _
  · refine S_aload_n (kk := 0) g dX12_apply_151 rfl rfl ?_
    refine S_getr g dX12_apply_152 fl_Mod_196 (at_143 hw) rfl (rc_143_80 hw) ?_
    refine S_iload_n (kk := 2) g dX12_apply_155 rfl rfl ?_
    refine S_aload_n (kk := 0) g dX12_apply_156 rfl rfl ?_
    refine S_iload_n (kk := 2) g dX12_apply_157 rfl rfl ?_
    refine S_callVi (As := [vI l2]) g dX12_apply_158 (sX12_shown hw _ _) rfl (at_143 hw) rfl im_X12_shown se_X12_shown cw_X12_shown ml_Mod_472 ini_Mod nd_X12_shown ⟨by decide, by decide⟩ (Nat.le_of_ble_eq_true rfl) (fun r28 h29 => ?_)
    refine S_iastore g dX12_apply_161 (at_201 hw) (fun h30 => ?_)
    refine S_iinc (kk := 2) g dX12_apply_162 rfl (by decide) rfl ?_
    refine S_goto (tgt := 143) g dX12_apply_165 (by decide) ?_
    refine S_sub g [1, 2, 0] rfl ?_
    exact hs143 _ _ _

theorem sX12_apply_p115 {Γ : Cx} {w : Wd} (hw : okM w) (g : Gd Γ cX12_apply 5 "GatePatchModel" (Option.some Jvm.ClassFile.FieldType.int) (rmd 6))   (l1 : Int) (h : Hp) : Sim Γ w 0 (XX12_apply_p115  l1  h) h 115 [(0, vP 143), (1, vI l1)] [] := by
  unfold XX12_apply_p115
  refine S_aload_n (kk := 0) g dX12_apply_115 rfl rfl ?_
  refine S_bipush g dX12_apply_116 ⟨by decide, by decide⟩ rfl ?_
  refine S_aload_n (kk := 0) g dX12_apply_118 rfl rfl ?_
  refine S_geti g dX12_apply_119 fl_Mod_233 (at_143 hw) (Or.inl rfl) ?_
  refine S_iadd g dX12_apply_122 ?_
  refine S_callVv (As := [vI (6 + (h 143 36))]) g dX12_apply_123 (sX12_stores hw _ _) rfl (at_143 hw) rfl im_X12_stores se_X12_stores cw_X12_stores ml_Mod_470 ini_Mod nd_X12_stores ⟨by decide, by decide⟩ (Nat.le_of_ble_eq_true rfl) (fun r2 h3 => ?_)
  refine S_aload_n (kk := 0) g dX12_apply_126 rfl rfl ?_
  refine S_dup g dX12_apply_127 rfl ?_
  refine S_geti g dX12_apply_128 fl_Mod_233 (at_143 hw) (Or.inl rfl) ?_
  refine S_iconst g dX12_apply_131 ⟨by decide, by decide⟩ ?_
  refine S_iadd g dX12_apply_132 ?_
  refine S_puti g dX12_apply_133 fp_Mod_233 (at_143 hw) rfl (fun h4 => ?_)
  refine S_aload_n (kk := 0) g dX12_apply_136 rfl rfl ?_
  refine S_iconst g dX12_apply_137 ⟨by decide, by decide⟩ ?_
  refine S_callVv (As := [vI 0]) g dX12_apply_138 (sX12_knows hw _ _) rfl (at_143 hw) rfl im_X12_knows se_X12_knows cw_X12_knows ml_Mod_310 ini_Mod nd_X12_knows ⟨by decide, by decide⟩ (Nat.le_of_ble_eq_true rfl) (fun r5 h6 => ?_)
  refine S_iconst g dX12_apply_141 ⟨by decide, by decide⟩ ?_
  refine S_istore_n g dX12_apply_142 rfl (by decide) rfl ?_
  refine S_sub g [1, 2, 0] rfl ?_
  exact sX12_apply_L143 hw g _ _ _

theorem sX12_apply_L80 {Γ : Cx} {w : Wd} (hw : okM w) (g : Gd Γ cX12_apply 5 "GatePatchModel" (Option.some Jvm.ClassFile.FieldType.int) (rmd 6))   : ∀ (l1 l2 : Int) (h : Hp), Sim Γ w 0 (XX12_apply_L80  l1 l2 h) h 80 [(0, vP 143), (1, vI l1), (2, vI l2)] [] := by
  refine S_lup2 (fun l1 l2 => [(0, vP 143), (1, vI l1), (2, vI l2)]) (fun self80 hs80 l1 l2 h => ?_) FU
  unfold XX12_apply_b80
  refine S_iload_n (kk := 2) g dX12_apply_80 rfl rfl ?_
  refine S_iconst g dX12_apply_81 ⟨by decide, by decide⟩ ?_
  refine S_icmp_ge (tgt := 105) g dX12_apply_82 (by decide) ?_ ?_
  · refine S_aload_n (kk := 0) g dX12_apply_105 rfl rfl ?_
    refine S_dup g dX12_apply_106 rfl ?_
    refine S_geti g dX12_apply_107 fl_Mod_233 (at_143 hw) (Or.inl rfl) ?_
    refine S_iconst g dX12_apply_110 ⟨by decide, by decide⟩ ?_
    refine S_isub g dX12_apply_111 ?_
    refine S_puti g dX12_apply_112 fp_Mod_233 (at_143 hw) rfl (fun h31 => ?_)
    refine S_sub g [0, 1] rfl ?_
    exact sX12_apply_p115 hw g _ _
  · refine S_aload_n (kk := 0) g dX12_apply_85 rfl rfl ?_
    refine S_bipush g dX12_apply_86 ⟨by decide, by decide⟩ rfl ?_
    refine S_iload_n (kk := 2) g dX12_apply_88 rfl rfl ?_
    refine S_iadd g dX12_apply_89 ?_
    refine S_bipush g dX12_apply_90 ⟨by decide, by decide⟩ rfl ?_
    refine S_iload_n (kk := 2) g dX12_apply_92 rfl rfl ?_
    refine S_iadd g dX12_apply_93 ?_
    refine S_iconst g dX12_apply_94 ⟨by decide, by decide⟩ ?_
    refine S_isub g dX12_apply_95 ?_
    refine S_callVv (As := [vI (6 + l2), vI ((6 + l2) - 1)]) g dX12_apply_96 (sX12_moves hw _ _ _) rfl (at_143 hw) rfl im_X12_moves se_X12_moves cw_X12_moves ml_Mod_467 ini_Mod nd_X12_moves ⟨by decide, by decide⟩ (Nat.le_of_ble_eq_true rfl) (fun r32 h33 => ?_)
    refine S_iinc (kk := 2) g dX12_apply_99 rfl (by decide) rfl ?_
    refine S_goto (tgt := 80) g dX12_apply_102 (by decide) ?_
    refine S_sub g [1, 2, 0] rfl ?_
    exact hs80 _ _ _

theorem sX12_apply_p46 {Γ : Cx} {w : Wd} (hw : okM w) (g : Gd Γ cX12_apply 5 "GatePatchModel" (Option.some Jvm.ClassFile.FieldType.int) (rmd 6))  (self16 : Int → Int → Hp → OR) (hs16 : ∀ (x0 x1 : Int) (h : Hp), Sim Γ w 0 (self16 x0 x1 h) h 16 [(0, vP 143), (1, vI x0), (2, vI x1)] []) (l2 : Int) (s0 s1 : Int) (h : Hp) : Sim Γ w 0 (XX12_apply_p46 self16 l2 s0 s1 h) h 46 [(0, vP 143), (2, vI l2)] [vI s1, vI s0] := by
  unfold XX12_apply_p46
  refine S_iadd g dX12_apply_46 ?_
  refine S_nmI (fun v36 => ?_)
  refine S_istore_n g dX12_apply_47 rfl (by decide) rfl ?_
  refine S_iinc (kk := 2) g dX12_apply_48 rfl (by decide) rfl ?_
  refine S_goto (tgt := 16) g dX12_apply_51 (by decide) ?_
  refine S_sub g [2, 1, 0] rfl ?_
  exact hs16 _ _ _

theorem sX12_apply_L16 {Γ : Cx} {w : Wd} (hw : okM w) (g : Gd Γ cX12_apply 5 "GatePatchModel" (Option.some Jvm.ClassFile.FieldType.int) (rmd 6))   : ∀ (l1 l2 : Int) (h : Hp), Sim Γ w 0 (XX12_apply_L16  l1 l2 h) h 16 [(0, vP 143), (1, vI l1), (2, vI l2)] [] := by
  refine S_lup2 (fun l1 l2 => [(0, vP 143), (1, vI l1), (2, vI l2)]) (fun self16 hs16 l1 l2 h => ?_) FU
  unfold XX12_apply_b16
  refine S_iload_n (kk := 2) g dX12_apply_16 rfl rfl ?_
  refine S_aload_n (kk := 0) g dX12_apply_17 rfl rfl ?_
  refine S_geti g dX12_apply_18 fl_Mod_408 (at_143 hw) (Or.inl rfl) ?_
  refine S_icmp_ge (tgt := 54) g dX12_apply_21 (by decide) ?_ ?_
  · refine S_aload_n (kk := 0) g dX12_apply_54 rfl rfl ?_
    refine S_getr g dX12_apply_55 fl_Mod_16 (at_143 hw) rfl (rc_143_4 hw) ?_
    refine S_iconst g dX12_apply_58 ⟨by decide, by decide⟩ ?_
    refine S_iaload g dX12_apply_59 (at_144 hw) ?_
    refine S_iload_n (kk := 1) g dX12_apply_60 rfl rfl ?_
    refine S_iadd g dX12_apply_61 ?_
    refine S_bipush g dX12_apply_62 ⟨by decide, by decide⟩ rfl ?_
    refine S_icmp_le (tgt := 70) g dX12_apply_64 (by decide) ?_ ?_
    · refine S_aload_n (kk := 0) g dX12_apply_70 rfl rfl ?_
      refine S_geti g dX12_apply_71 fl_Mod_233 (at_143 hw) (Or.inl rfl) ?_
      refine S_iconst g dX12_apply_74 ⟨by decide, by decide⟩ ?_
      refine S_icmp_ne (tgt := 115) g dX12_apply_75 (by decide) ?_ ?_
      · refine S_sub g [0, 1] rfl ?_
        exact sX12_apply_p115 hw g _ _
      · refine S_iconst g dX12_apply_78 ⟨by decide, by decide⟩ ?_
        refine S_istore_n g dX12_apply_79 rfl (by decide) rfl ?_
        refine S_sub g [1, 2, 0] rfl ?_
        exact sX12_apply_L80 hw g _ _ _
    · refine S_bipush g dX12_apply_67 ⟨by decide, by decide⟩ rfl ?_
      exact S_ireturn g dX12_apply_69 rfl
  · refine S_iload_n (kk := 1) g dX12_apply_24 rfl rfl ?_
    refine S_aload_n (kk := 0) g dX12_apply_25 rfl rfl ?_
    refine S_aload_n (kk := 0) g dX12_apply_26 rfl rfl ?_
    refine S_getr g dX12_apply_27 fl_Mod_75 (at_143 hw) rfl (rc_143_30 hw) ?_
    refine S_iload_n (kk := 2) g dX12_apply_30 rfl rfl ?_
    refine S_iaload g dX12_apply_31 (at_161 hw) ?_
    refine S_callVi (As := [vI (h 161 l2.toNat)]) g dX12_apply_32 (sX12_leafOf hw _ _) rfl (at_143 hw) rfl im_X12_leafOf se_X12_leafOf cw_X12_leafOf ml_Mod_454 ini_Mod nd_X12_leafOf ⟨by decide, by decide⟩ (Nat.le_of_ble_eq_true rfl) (fun r34 h35 => ?_)
    refine S_sipush g dX12_apply_35 ⟨by decide, by decide⟩ rfl ?_
    refine S_icmp_lt (tgt := 45) g dX12_apply_38 (by decide) ?_ ?_
    · refine S_iconst g dX12_apply_45 ⟨by decide, by decide⟩ ?_
      refine S_sub g [0, 2] rfl ?_
      exact sX12_apply_p46 hw g self16 hs16 _ _ _ _
    · refine S_iconst g dX12_apply_41 ⟨by decide, by decide⟩ ?_
      refine S_goto (tgt := 46) g dX12_apply_42 (by decide) ?_
      refine S_sub g [0, 2] rfl ?_
      exact sX12_apply_p46 hw g self16 hs16 _ _ _ _

theorem sX12_apply {G : GG} {w : Wd} (hw : okM w)  (h : Hp) : SC G w yX12_apply (Cond.code yX12_apply cX12_apply 5 (Option.some Jvm.ClassFile.FieldType.int)) 6 0 [vP 143] (XX12_apply  h) h := by
  refine SC_of (own := "GatePatchModel") plain_Mod rfl (Nat.le_of_ble_eq_true rfl) (fun Γ hG g => ?_)
  subst hG
  show Sim Γ w 0 _ h 0 [(0, vP 143)] []
  unfold XX12_apply
  refine S_aload_n (kk := 0) g dX12_apply_0 rfl rfl ?_
  refine S_geti g dX12_apply_1 fl_Mod_229 (at_143 hw) (Or.inr rfl) ?_
  refine S_if_ne (tgt := 9) g dX12_apply_4 (by decide) ?_ ?_
  · refine S_aload_n (kk := 0) g dX12_apply_9 rfl rfl ?_
    refine S_geti g dX12_apply_10 fl_Mod_381 (at_143 hw) (Or.inl rfl) ?_
    refine S_nmI (fun v1 => ?_)
    refine S_istore_n g dX12_apply_13 rfl (by decide) rfl ?_
    refine S_iconst g dX12_apply_14 ⟨by decide, by decide⟩ ?_
    refine S_istore_n g dX12_apply_15 rfl (by decide) rfl ?_
    refine S_sub g [2, 1, 0] rfl ?_
    exact sX12_apply_L16 hw g _ _ _
  · refine S_iconst g dX12_apply_7 ⟨by decide, by decide⟩ ?_
    exact S_ireturn g dX12_apply_8 rfl

def XX12_undo_b32   (self32 : Int → Hp → OR) (l1 : Int) (h : Hp) : OR :=
  if 12 ≤ l1 then some ((h 143 36), h) else chk (6 + (h 143 36)) (chk (12 * (6 + (h 143 36))) (chk ((12 * (6 + (h 143 36))) + l1) (inb ((12 * (6 + (h 143 36))) + l1) 120 (inb l1 12 (zb (h 184 ((12 * (6 + (h 143 36))) + l1).toNat) (hm (wr h 155 l1.toNat (h 184 ((12 * (6 + (h 143 36))) + l1).toNat)) (fun h4 => chk (l1 + 1) (self32 (l1 + 1) h4))))))))
def XX12_undo_L32   (l1 : Int) (h : Hp) : OR := lup1 (XX12_undo_b32 ) FU l1 h
def XX12_undo  (h : Hp) : OR :=
  if (h 143 36) = 0 then some ((-1), h) else chk ((h 143 36) - 1) (hm (wr h 143 36 ((h 143 36) - 1)) (fun h1 => chk (6 + (h1 143 36)) (cal (XX12_brings (6 + (h1 143 36)) h1) (fun r2 h3 => XX12_undo_L32 0 h3))))
theorem sX12_undo_L32 {Γ : Cx} {w : Wd} (hw : okM w) (g : Gd Γ cX12_undo 2 "GatePatchModel" (Option.some Jvm.ClassFile.FieldType.int) (rmd 4))   : ∀ (l1 : Int) (h : Hp), Sim Γ w 0 (XX12_undo_L32  l1 h) h 32 [(0, vP 143), (1, vI l1)] [] := by
  refine S_lup1 (fun l1 => [(0, vP 143), (1, vI l1)]) (fun self32 hs32 l1 h => ?_) FU
  unfold XX12_undo_b32
  refine S_iload_n (kk := 1) g dX12_undo_32 rfl rfl ?_
  refine S_bipush g dX12_undo_33 ⟨by decide, by decide⟩ rfl ?_
  refine S_icmp_ge (tgt := 67) g dX12_undo_35 (by decide) ?_ ?_
  · refine S_aload_n (kk := 0) g dX12_undo_67 rfl rfl ?_
    refine S_geti g dX12_undo_68 fl_Mod_233 (at_143 hw) (Or.inl rfl) ?_
    exact S_ireturn g dX12_undo_71 rfl
  · refine S_aload_n (kk := 0) g dX12_undo_38 rfl rfl ?_
    refine S_getr g dX12_undo_39 fl_Mod_51 (at_143 hw) rfl (rc_143_16 hw) ?_
    refine S_iload_n (kk := 1) g dX12_undo_42 rfl rfl ?_
    refine S_aload_n (kk := 0) g dX12_undo_43 rfl rfl ?_
    refine S_getr g dX12_undo_44 fl_Mod_145 (at_143 hw) rfl (rc_143_56 hw) ?_
    refine S_bipush g dX12_undo_47 ⟨by decide, by decide⟩ rfl ?_
    refine S_bipush g dX12_undo_49 ⟨by decide, by decide⟩ rfl ?_
    refine S_aload_n (kk := 0) g dX12_undo_51 rfl rfl ?_
    refine S_geti g dX12_undo_52 fl_Mod_233 (at_143 hw) (Or.inl rfl) ?_
    refine S_iadd g dX12_undo_55 ?_
    refine S_imul g dX12_undo_56 ?_
    refine S_iload_n (kk := 1) g dX12_undo_57 rfl rfl ?_
    refine S_iadd g dX12_undo_58 ?_
    refine S_zaload g dX12_undo_59 (at_184 hw) ?_
    refine S_zastore g dX12_undo_60 (at_155 hw) (fun h4 => ?_)
    refine S_iinc (kk := 1) g dX12_undo_61 rfl (by decide) rfl ?_
    refine S_goto (tgt := 32) g dX12_undo_64 (by decide) ?_
    refine S_sub g [1, 0] rfl ?_
    exact hs32 _ _

theorem sX12_undo {G : GG} {w : Wd} (hw : okM w)  (h : Hp) : SC G w yX12_undo (Cond.code yX12_undo cX12_undo 2 (Option.some Jvm.ClassFile.FieldType.int)) 4 0 [vP 143] (XX12_undo  h) h := by
  refine SC_of (own := "GatePatchModel") plain_Mod rfl (Nat.le_of_ble_eq_true rfl) (fun Γ hG g => ?_)
  subst hG
  show Sim Γ w 0 _ h 0 [(0, vP 143)] []
  unfold XX12_undo
  refine S_aload_n (kk := 0) g dX12_undo_0 rfl rfl ?_
  refine S_geti g dX12_undo_1 fl_Mod_233 (at_143 hw) (Or.inl rfl) ?_
  refine S_if_ne (tgt := 9) g dX12_undo_4 (by decide) ?_ ?_
  · refine S_aload_n (kk := 0) g dX12_undo_9 rfl rfl ?_
    refine S_dup g dX12_undo_10 rfl ?_
    refine S_geti g dX12_undo_11 fl_Mod_233 (at_143 hw) (Or.inl rfl) ?_
    refine S_iconst g dX12_undo_14 ⟨by decide, by decide⟩ ?_
    refine S_isub g dX12_undo_15 ?_
    refine S_puti g dX12_undo_16 fp_Mod_233 (at_143 hw) rfl (fun h1 => ?_)
    refine S_aload_n (kk := 0) g dX12_undo_19 rfl rfl ?_
    refine S_bipush g dX12_undo_20 ⟨by decide, by decide⟩ rfl ?_
    refine S_aload_n (kk := 0) g dX12_undo_22 rfl rfl ?_
    refine S_geti g dX12_undo_23 fl_Mod_233 (at_143 hw) (Or.inl rfl) ?_
    refine S_iadd g dX12_undo_26 ?_
    refine S_callVv (As := [vI (6 + (h1 143 36))]) g dX12_undo_27 (sX12_brings hw _ _) rfl (at_143 hw) rfl im_X12_brings se_X12_brings cw_X12_brings ml_Mod_481 ini_Mod nd_X12_brings ⟨by decide, by decide⟩ (Nat.le_of_ble_eq_true rfl) (fun r2 h3 => ?_)
    refine S_iconst g dX12_undo_30 ⟨by decide, by decide⟩ ?_
    refine S_istore_n g dX12_undo_31 rfl (by decide) rfl ?_
    refine S_sub g [1, 0] rfl ?_
    exact sX12_undo_L32 hw g _ _
  · refine S_iconst g dX12_undo_7 ⟨by decide, by decide⟩ ?_
    exact S_ireturn g dX12_undo_8 rfl

def XX12_change (x0 : Int) (x1 : Int) (h : Hp) : OR :=
  chk ((h 143 37) - 1) (cal (XX12_in x0 0 ((h 143 37) - 1) h) (fun r1 h2 => if r1 = 0 then some ((-1), h2) else if x1 = 0 then inb x0 200 (some ((h2 167 x0.toNat), h2)) else if x1 = 1 then inb x0 200 (some ((h2 168 x0.toNat), h2)) else if x1 = 2 then inb x0 200 (some ((h2 169 x0.toNat), h2)) else some ((-1), h2)))
theorem sX12_change {G : GG} {w : Wd} (hw : okM w) (x0 : Int) (x1 : Int) (h : Hp) : SC G w yX12_change (Cond.code yX12_change cX12_change 3 (Option.some Jvm.ClassFile.FieldType.int)) 2 0 [vP 143, vI x0, vI x1] (XX12_change x0 x1 h) h := by
  refine SC_of (own := "GatePatchModel") plain_Mod rfl (Nat.le_of_ble_eq_true rfl) (fun Γ hG g => ?_)
  subst hG
  show Sim Γ w 0 _ h 0 [(0, vP 143), (1, vI x0), (2, vI x1)] []
  unfold XX12_change
  refine S_iload_n (kk := 1) g dX12_change_0 rfl rfl ?_
  refine S_iconst g dX12_change_1 ⟨by decide, by decide⟩ ?_
  refine S_aload_n (kk := 0) g dX12_change_2 rfl rfl ?_
  refine S_geti g dX12_change_3 fl_Mod_236 (at_143 hw) (Or.inl rfl) ?_
  refine S_iconst g dX12_change_6 ⟨by decide, by decide⟩ ?_
  refine S_isub g dX12_change_7 ?_
  refine S_callSi (As := [vI x0, vI 0, vI ((h 143 37) - 1)]) g dX12_change_8 (sX12_in hw _ _ _ _) rfl st_X12_in cw_X12_in ml_Mod_212 ini_Mod nd_X12_in ⟨by decide, by decide⟩ (Nat.le_of_ble_eq_true rfl) (fun r1 h2 => ?_)
  refine S_if_ne (tgt := 16) g dX12_change_11 (by decide) ?_ ?_
  · refine S_iload_n (kk := 2) g dX12_change_16 rfl rfl ?_
    refine S_if_ne (tgt := 29) g dX12_change_17 (by decide) ?_ ?_
    · refine S_iload_n (kk := 2) g dX12_change_29 rfl rfl ?_
      refine S_iconst g dX12_change_30 ⟨by decide, by decide⟩ ?_
      refine S_icmp_ne (tgt := 43) g dX12_change_31 (by decide) ?_ ?_
      · refine S_iload_n (kk := 2) g dX12_change_43 rfl rfl ?_
        refine S_iconst g dX12_change_44 ⟨by decide, by decide⟩ ?_
        refine S_icmp_ne (tgt := 57) g dX12_change_45 (by decide) ?_ ?_
        · refine S_iconst g dX12_change_57 ⟨by decide, by decide⟩ ?_
          exact S_ireturn g dX12_change_58 rfl
        · refine S_aload_n (kk := 0) g dX12_change_48 rfl rfl ?_
          refine S_getr g dX12_change_49 fl_Mod_99 (at_143 hw) rfl (rc_143_41 hw) ?_
          refine S_iload_n (kk := 1) g dX12_change_52 rfl rfl ?_
          refine S_iaload g dX12_change_53 (at_169 hw) ?_
          refine S_goto (tgt := 58) g dX12_change_54 (by decide) ?_
          exact S_ireturn g dX12_change_58 rfl
      · refine S_aload_n (kk := 0) g dX12_change_34 rfl rfl ?_
        refine S_getr g dX12_change_35 fl_Mod_96 (at_143 hw) rfl (rc_143_40 hw) ?_
        refine S_iload_n (kk := 1) g dX12_change_38 rfl rfl ?_
        refine S_iaload g dX12_change_39 (at_168 hw) ?_
        refine S_goto (tgt := 58) g dX12_change_40 (by decide) ?_
        exact S_ireturn g dX12_change_58 rfl
    · refine S_aload_n (kk := 0) g dX12_change_20 rfl rfl ?_
      refine S_getr g dX12_change_21 fl_Mod_93 (at_143 hw) rfl (rc_143_39 hw) ?_
      refine S_iload_n (kk := 1) g dX12_change_24 rfl rfl ?_
      refine S_iaload g dX12_change_25 (at_167 hw) ?_
      refine S_goto (tgt := 58) g dX12_change_26 (by decide) ?_
      exact S_ireturn g dX12_change_58 rfl
  · refine S_iconst g dX12_change_14 ⟨by decide, by decide⟩ ?_
    exact S_ireturn g dX12_change_15 rfl

def XX12_test (x0 : Int) (h : Hp) : OR :=
  chk ((h 143 38) - 1) (cal (XX12_in x0 0 ((h 143 38) - 1) h) (fun r1 h2 => if r1 = 0 then some ((-1), h2) else inb x0 256 (some ((h2 170 x0.toNat), h2))))
theorem sX12_test {G : GG} {w : Wd} (hw : okM w) (x0 : Int) (h : Hp) : SC G w yX12_test (Cond.code yX12_test cX12_test 2 (Option.some Jvm.ClassFile.FieldType.int)) 2 0 [vP 143, vI x0] (XX12_test x0 h) h := by
  refine SC_of (own := "GatePatchModel") plain_Mod rfl (Nat.le_of_ble_eq_true rfl) (fun Γ hG g => ?_)
  subst hG
  show Sim Γ w 0 _ h 0 [(0, vP 143), (1, vI x0)] []
  unfold XX12_test
  refine S_iload_n (kk := 1) g dX12_test_0 rfl rfl ?_
  refine S_iconst g dX12_test_1 ⟨by decide, by decide⟩ ?_
  refine S_aload_n (kk := 0) g dX12_test_2 rfl rfl ?_
  refine S_geti g dX12_test_3 fl_Mod_239 (at_143 hw) (Or.inl rfl) ?_
  refine S_iconst g dX12_test_6 ⟨by decide, by decide⟩ ?_
  refine S_isub g dX12_test_7 ?_
  refine S_callSi (As := [vI x0, vI 0, vI ((h 143 38) - 1)]) g dX12_test_8 (sX12_in hw _ _ _ _) rfl st_X12_in cw_X12_in ml_Mod_212 ini_Mod nd_X12_in ⟨by decide, by decide⟩ (Nat.le_of_ble_eq_true rfl) (fun r1 h2 => ?_)
  refine S_if_eq (tgt := 23) g dX12_test_11 (by decide) ?_ ?_
  · refine S_iconst g dX12_test_23 ⟨by decide, by decide⟩ ?_
    exact S_ireturn g dX12_test_24 rfl
  · refine S_aload_n (kk := 0) g dX12_test_14 rfl rfl ?_
    refine S_getr g dX12_test_15 fl_Mod_102 (at_143 hw) rfl (rc_143_42 hw) ?_
    refine S_iload_n (kk := 1) g dX12_test_18 rfl rfl ?_
    refine S_iaload g dX12_test_19 (at_170 hw) ?_
    refine S_goto (tgt := 24) g dX12_test_20 (by decide) ?_
    exact S_ireturn g dX12_test_24 rfl

def XX12_idle_p85  (self16 : Int → Int → Int → Hp → OR) (l1 l3 : Int) (s0 s1 : Int) (h : Hp) : OR :=
  chk (s0 + s1) (nm (s0 + s1) (fun v9 => chk (l3 + 1) (self16 l1 v9 (l3 + 1) h)))
def XX12_idle_p66  (self16 : Int → Int → Int → Hp → OR) (self31 : Int → Int → Int → Int → Int → Hp → OR) (l1 l2 l3 l5 : Int) (s0 : Int) (h : Hp) : OR :=
  chk (l5 + 1) (self31 l1 l2 l3 s0 (l5 + 1) h)
def XX12_idle_p65  (self16 : Int → Int → Int → Hp → OR) (self31 : Int → Int → Int → Int → Int → Hp → OR) (l1 l2 l3 l5 : Int) (h : Hp) : OR :=
  XX12_idle_p66 self16 self31 l1 l2 l3 l5 0 h
def XX12_idle_b31  (self16 : Int → Int → Int → Hp → OR) (self31 : Int → Int → Int → Int → Int → Hp → OR) (l1 l2 l3 l4 l5 : Int) (h : Hp) : OR :=
  cal (XX12_observed h) (fun r7 h8 => if r7 ≤ l5 then if l4 = 0 then XX12_idle_p85 self16 l1 l3 l2 0 h8 else XX12_idle_p85 self16 l1 l3 l2 1 h8 else if l4 = 0 then XX12_idle_p65 self16 self31 l1 l2 l3 l5 h8 else cal (XX12_seen l1 l5 h8) (fun r10 h11 => cal (XX12_doesHang l1 r10 l3 h11) (fun r12 h13 => if r12 = 0 then XX12_idle_p66 self16 self31 l1 l2 l3 l5 1 h13 else XX12_idle_p65 self16 self31 l1 l2 l3 l5 h13)))
def XX12_idle_L31  (self16 : Int → Int → Int → Hp → OR) (l1 l2 l3 l4 l5 : Int) (h : Hp) : OR := lup5 (XX12_idle_b31 self16) FU l1 l2 l3 l4 l5 h
def XX12_idle_b16   (self16 : Int → Int → Int → Hp → OR) (l1 l2 l3 : Int) (h : Hp) : OR :=
  cal (XX12_wires l1 h) (fun r5 h6 => if r5 ≤ l3 then some (l2, h6) else XX12_idle_L31 self16 l1 l2 l3 1 0 h6)
def XX12_idle_L16   (l1 l2 l3 : Int) (h : Hp) : OR := lup3 (XX12_idle_b16 ) FU l1 l2 l3 h
def XX12_idle (x0 : Int) (h : Hp) : OR :=
  cal (XX12_isNet x0 h) (fun r1 h2 => if r1 = 0 then some ((-1), h2) else cal (XX12_begun h2) (fun r3 h4 => XX12_idle_L16 x0 0 r3 h4))
theorem sX12_idle_p85 {Γ : Cx} {w : Wd} (hw : okM w) (g : Gd Γ cX12_idle 6 "GatePatchModel" (Option.some Jvm.ClassFile.FieldType.int) (rmd 5))  (self16 : Int → Int → Int → Hp → OR) (hs16 : ∀ (x0 x1 x2 : Int) (h : Hp), Sim Γ w 0 (self16 x0 x1 x2 h) h 16 [(0, vP 143), (1, vI x0), (2, vI x1), (3, vI x2)] []) (l1 l3 : Int) (s0 s1 : Int) (h : Hp) : Sim Γ w 0 (XX12_idle_p85 self16 l1 l3 s0 s1 h) h 85 [(0, vP 143), (1, vI l1), (3, vI l3)] [vI s1, vI s0] := by
  unfold XX12_idle_p85
  refine S_iadd g dX12_idle_85 ?_
  refine S_nmI (fun v9 => ?_)
  refine S_istore_n g dX12_idle_86 rfl (by decide) rfl ?_
  refine S_iinc (kk := 3) g dX12_idle_87 rfl (by decide) rfl ?_
  refine S_goto (tgt := 16) g dX12_idle_90 (by decide) ?_
  refine S_sub g [2, 3, 1, 0] rfl ?_
  exact hs16 _ _ _ _

theorem sX12_idle_p66 {Γ : Cx} {w : Wd} (hw : okM w) (g : Gd Γ cX12_idle 6 "GatePatchModel" (Option.some Jvm.ClassFile.FieldType.int) (rmd 5))  (self16 : Int → Int → Int → Hp → OR) (hs16 : ∀ (x0 x1 x2 : Int) (h : Hp), Sim Γ w 0 (self16 x0 x1 x2 h) h 16 [(0, vP 143), (1, vI x0), (2, vI x1), (3, vI x2)] []) (self31 : Int → Int → Int → Int → Int → Hp → OR) (hs31 : ∀ (x0 x1 x2 x3 x4 : Int) (h : Hp), Sim Γ w 0 (self31 x0 x1 x2 x3 x4 h) h 31 [(0, vP 143), (1, vI x0), (2, vI x1), (3, vI x2), (4, vI x3), (5, vI x4)] []) (l1 l2 l3 l5 : Int) (s0 : Int) (h : Hp) : Sim Γ w 0 (XX12_idle_p66 self16 self31 l1 l2 l3 l5 s0 h) h 66 [(0, vP 143), (1, vI l1), (2, vI l2), (3, vI l3), (5, vI l5)] [vI s0] := by
  unfold XX12_idle_p66
  refine S_istore g dX12_idle_66 (by decide) rfl ?_
  refine S_iinc (kk := 5) g dX12_idle_68 rfl (by decide) rfl ?_
  refine S_goto (tgt := 31) g dX12_idle_71 (by decide) ?_
  refine S_sub g [2, 3, 4, 5, 1, 0] rfl ?_
  exact hs31 _ _ _ _ _ _

theorem sX12_idle_p65 {Γ : Cx} {w : Wd} (hw : okM w) (g : Gd Γ cX12_idle 6 "GatePatchModel" (Option.some Jvm.ClassFile.FieldType.int) (rmd 5))  (self16 : Int → Int → Int → Hp → OR) (hs16 : ∀ (x0 x1 x2 : Int) (h : Hp), Sim Γ w 0 (self16 x0 x1 x2 h) h 16 [(0, vP 143), (1, vI x0), (2, vI x1), (3, vI x2)] []) (self31 : Int → Int → Int → Int → Int → Hp → OR) (hs31 : ∀ (x0 x1 x2 x3 x4 : Int) (h : Hp), Sim Γ w 0 (self31 x0 x1 x2 x3 x4 h) h 31 [(0, vP 143), (1, vI x0), (2, vI x1), (3, vI x2), (4, vI x3), (5, vI x4)] []) (l1 l2 l3 l5 : Int) (h : Hp) : Sim Γ w 0 (XX12_idle_p65 self16 self31 l1 l2 l3 l5  h) h 65 [(0, vP 143), (1, vI l1), (2, vI l2), (3, vI l3), (5, vI l5)] [] := by
  unfold XX12_idle_p65
  refine S_iconst g dX12_idle_65 ⟨by decide, by decide⟩ ?_
  exact sX12_idle_p66 hw g self16 hs16 self31 hs31 _ _ _ _ _ _

theorem sX12_idle_L31 {Γ : Cx} {w : Wd} (hw : okM w) (g : Gd Γ cX12_idle 6 "GatePatchModel" (Option.some Jvm.ClassFile.FieldType.int) (rmd 5))  (self16 : Int → Int → Int → Hp → OR) (hs16 : ∀ (x0 x1 x2 : Int) (h : Hp), Sim Γ w 0 (self16 x0 x1 x2 h) h 16 [(0, vP 143), (1, vI x0), (2, vI x1), (3, vI x2)] []) : ∀ (l1 l2 l3 l4 l5 : Int) (h : Hp), Sim Γ w 0 (XX12_idle_L31 self16 l1 l2 l3 l4 l5 h) h 31 [(0, vP 143), (1, vI l1), (2, vI l2), (3, vI l3), (4, vI l4), (5, vI l5)] [] := by
  refine S_lup5 (fun l1 l2 l3 l4 l5 => [(0, vP 143), (1, vI l1), (2, vI l2), (3, vI l3), (4, vI l4), (5, vI l5)]) (fun self31 hs31 l1 l2 l3 l4 l5 h => ?_) FU
  unfold XX12_idle_b31
  refine S_iload (kk := 5) g dX12_idle_31 rfl ?_
  refine S_aload_n (kk := 0) g dX12_idle_33 rfl rfl ?_
  refine S_callVi (As := []) g dX12_idle_34 (sX12_observed hw  _) rfl (at_143 hw) rfl im_X12_observed se_X12_observed cw_X12_observed ml_Mod_316 ini_Mod nd_X12_observed ⟨by decide, by decide⟩ (Nat.le_of_ble_eq_true rfl) (fun r7 h8 => ?_)
  refine S_icmp_ge (tgt := 74) g dX12_idle_37 (by decide) ?_ ?_
  · refine S_iload_n (kk := 2) g dX12_idle_74 rfl rfl ?_
    refine S_iload (kk := 4) g dX12_idle_75 rfl ?_
    refine S_if_eq (tgt := 84) g dX12_idle_77 (by decide) ?_ ?_
    · refine S_iconst g dX12_idle_84 ⟨by decide, by decide⟩ ?_
      refine S_sub g [0, 1, 3] rfl ?_
      exact sX12_idle_p85 hw g self16 hs16 _ _ _ _ _
    · refine S_iconst g dX12_idle_80 ⟨by decide, by decide⟩ ?_
      refine S_goto (tgt := 85) g dX12_idle_81 (by decide) ?_
      refine S_sub g [0, 1, 3] rfl ?_
      exact sX12_idle_p85 hw g self16 hs16 _ _ _ _ _
  · refine S_iload (kk := 4) g dX12_idle_40 rfl ?_
    refine S_if_eq (tgt := 65) g dX12_idle_42 (by decide) ?_ ?_
    · refine S_sub g [0, 1, 2, 3, 5] rfl ?_
      exact sX12_idle_p65 hw g self16 hs16 self31 hs31 _ _ _ _ _
    · refine S_aload_n (kk := 0) g dX12_idle_45 rfl rfl ?_
      refine S_iload_n (kk := 1) g dX12_idle_46 rfl rfl ?_
      refine S_aload_n (kk := 0) g dX12_idle_47 rfl rfl ?_
      refine S_iload_n (kk := 1) g dX12_idle_48 rfl rfl ?_
      refine S_iload (kk := 5) g dX12_idle_49 rfl ?_
      refine S_callVi (As := [vI l1, vI l5]) g dX12_idle_51 (sX12_seen hw _ _ _) rfl (at_143 hw) rfl im_X12_seen se_X12_seen cw_X12_seen ml_Mod_319 ini_Mod nd_X12_seen ⟨by decide, by decide⟩ (Nat.le_of_ble_eq_true rfl) (fun r10 h11 => ?_)
      refine S_iload_n (kk := 3) g dX12_idle_54 rfl rfl ?_
      refine S_callVi (As := [vI l1, vI r10, vI l3]) g dX12_idle_55 (sX12_doesHang hw _ _ _ _) rfl (at_143 hw) rfl im_X12_doesHang se_X12_doesHang cw_X12_doesHang ml_Mod_271 ini_Mod nd_X12_doesHang ⟨by decide, by decide⟩ (Nat.le_of_ble_eq_true rfl) (fun r12 h13 => ?_)
      refine S_if_ne (tgt := 65) g dX12_idle_58 (by decide) ?_ ?_
      · refine S_sub g [0, 1, 2, 3, 5] rfl ?_
        exact sX12_idle_p65 hw g self16 hs16 self31 hs31 _ _ _ _ _
      · refine S_iconst g dX12_idle_61 ⟨by decide, by decide⟩ ?_
        refine S_goto (tgt := 66) g dX12_idle_62 (by decide) ?_
        refine S_sub g [0, 1, 2, 3, 5] rfl ?_
        exact sX12_idle_p66 hw g self16 hs16 self31 hs31 _ _ _ _ _ _

theorem sX12_idle_L16 {Γ : Cx} {w : Wd} (hw : okM w) (g : Gd Γ cX12_idle 6 "GatePatchModel" (Option.some Jvm.ClassFile.FieldType.int) (rmd 5))   : ∀ (l1 l2 l3 : Int) (h : Hp), Sim Γ w 0 (XX12_idle_L16  l1 l2 l3 h) h 16 [(0, vP 143), (1, vI l1), (2, vI l2), (3, vI l3)] [] := by
  refine S_lup3 (fun l1 l2 l3 => [(0, vP 143), (1, vI l1), (2, vI l2), (3, vI l3)]) (fun self16 hs16 l1 l2 l3 h => ?_) FU
  unfold XX12_idle_b16
  refine S_iload_n (kk := 3) g dX12_idle_16 rfl rfl ?_
  refine S_aload_n (kk := 0) g dX12_idle_17 rfl rfl ?_
  refine S_iload_n (kk := 1) g dX12_idle_18 rfl rfl ?_
  refine S_callVi (As := [vI l1]) g dX12_idle_19 (sX12_wires hw _ _) rfl (at_143 hw) rfl im_X12_wires se_X12_wires cw_X12_wires ml_Mod_216 ini_Mod nd_X12_wires ⟨by decide, by decide⟩ (Nat.le_of_ble_eq_true rfl) (fun r5 h6 => ?_)
  refine S_icmp_ge (tgt := 93) g dX12_idle_22 (by decide) ?_ ?_
  · refine S_iload_n (kk := 2) g dX12_idle_93 rfl rfl ?_
    exact S_ireturn g dX12_idle_94 rfl
  · refine S_iconst g dX12_idle_25 ⟨by decide, by decide⟩ ?_
    refine S_istore g dX12_idle_26 (by decide) rfl ?_
    refine S_iconst g dX12_idle_28 ⟨by decide, by decide⟩ ?_
    refine S_istore g dX12_idle_29 (by decide) rfl ?_
    refine S_sub g [2, 3, 4, 5, 1, 0] rfl ?_
    exact sX12_idle_L31 hw g self16 hs16 _ _ _ _ _ _

theorem sX12_idle {G : GG} {w : Wd} (hw : okM w) (x0 : Int) (h : Hp) : SC G w yX12_idle (Cond.code yX12_idle cX12_idle 6 (Option.some Jvm.ClassFile.FieldType.int)) 5 0 [vP 143, vI x0] (XX12_idle x0 h) h := by
  refine SC_of (own := "GatePatchModel") plain_Mod rfl (Nat.le_of_ble_eq_true rfl) (fun Γ hG g => ?_)
  subst hG
  show Sim Γ w 0 _ h 0 [(0, vP 143), (1, vI x0)] []
  unfold XX12_idle
  refine S_iload_n (kk := 1) g dX12_idle_0 rfl rfl ?_
  refine S_callSi (As := [vI x0]) g dX12_idle_1 (sX12_isNet hw _ _) rfl st_X12_isNet cw_X12_isNet ml_Mod_249 ini_Mod nd_X12_isNet ⟨by decide, by decide⟩ (Nat.le_of_ble_eq_true rfl) (fun r1 h2 => ?_)
  refine S_if_ne (tgt := 9) g dX12_idle_4 (by decide) ?_ ?_
  · refine S_iconst g dX12_idle_9 ⟨by decide, by decide⟩ ?_
    refine S_istore_n g dX12_idle_10 rfl (by decide) rfl ?_
    refine S_aload_n (kk := 1) g dX12_idle_11 rfl rfl ?_
    refine S_callVi (As := []) g dX12_idle_12 (sX12_begun hw  _) rfl (at_143 hw) rfl im_X12_begun se_X12_begun cw_X12_begun ml_Mod_208 ini_Mod nd_X12_begun ⟨by decide, by decide⟩ (Nat.le_of_ble_eq_true rfl) (fun r3 h4 => ?_)
    refine S_istore_n g dX12_idle_15 rfl (by decide) rfl ?_
    refine S_sub g [2, 3, 1, 0] rfl ?_
    exact sX12_idle_L16 hw g _ _ _ _
  · refine S_iconst g dX12_idle_7 ⟨by decide, by decide⟩ ?_
    exact S_ireturn g dX12_idle_8 rfl

def XX12_tape_b53   (self53 : Int → Int → Int → Hp → OR) (l1 l3 l4 : Int) (h : Hp) : OR :=
  if 256 ≤ l4 then some (l3, h) else chk (256 * l1) (chk ((256 * l1) + l4) (inb ((256 * l1) + l4) 1536 (hm (wr h 173 ((256 * l1) + l4).toNat 0) (fun h7 => chk (l4 + 1) (self53 l1 l3 (l4 + 1) h7)))))
def XX12_tape_L53   (l1 l3 l4 : Int) (h : Hp) : OR := lup3 (XX12_tape_b53 ) FU l1 l3 l4 h
def XX12_tape (x0 : Int) (x1 : Int) (x2 : Int) (h : Hp) : OR :=
  cal (XX12_isTape x0 h) (fun r1 h2 => if r1 = 0 then some ((-1), h2) else cal (XX12_in x1 1 4 h2) (fun r3 h4 => if r3 = 0 then some ((-1), h4) else if x2 ≤ 256 then if 0 ≤ x2 then inb x0 6 (hm (wr h4 171 x0.toNat x1) (fun h5 => inb x0 6 (hm (wr h5 172 x0.toNat x2) (fun h6 => XX12_tape_L53 x0 x2 0 h6)))) else cal (XX12_refuse (-14) h4) (fun r8 h9 => some (r8, h9)) else some ((-1), h4)))
theorem sX12_tape_L53 {Γ : Cx} {w : Wd} (hw : okM w) (g : Gd Γ cX12_tape 5 "GatePatchModel" (Option.some Jvm.ClassFile.FieldType.int) (rmd 3))   : ∀ (l1 l3 l4 : Int) (h : Hp), Sim Γ w 0 (XX12_tape_L53  l1 l3 l4 h) h 53 [(0, vP 143), (1, vI l1), (3, vI l3), (4, vI l4)] [] := by
  refine S_lup3 (fun l1 l3 l4 => [(0, vP 143), (1, vI l1), (3, vI l3), (4, vI l4)]) (fun self53 hs53 l1 l3 l4 h => ?_) FU
  unfold XX12_tape_b53
  refine S_iload (kk := 3) g dX12_tape_53 rfl ?_
  refine S_sipush g dX12_tape_55 ⟨by decide, by decide⟩ rfl ?_
  refine S_icmp_ge (tgt := 81) g dX12_tape_58 (by decide) ?_ ?_
  · refine S_iload_n (kk := 2) g dX12_tape_81 rfl rfl ?_
    exact S_ireturn g dX12_tape_82 rfl
  · refine S_aload_n (kk := 0) g dX12_tape_61 rfl rfl ?_
    refine S_getr g dX12_tape_62 fl_Mod_111 (at_143 hw) rfl (rc_143_45 hw) ?_
    refine S_sipush g dX12_tape_65 ⟨by decide, by decide⟩ rfl ?_
    refine S_iload_n (kk := 1) g dX12_tape_68 rfl rfl ?_
    refine S_imul g dX12_tape_69 ?_
    refine S_iload (kk := 3) g dX12_tape_70 rfl ?_
    refine S_iadd g dX12_tape_72 ?_
    refine S_lconst (x := 0) g dX12_tape_73 ⟨by decide, by decide⟩ rfl ?_
    refine S_lastore g dX12_tape_74 (at_173 hw) (fun h7 => ?_)
    refine S_iinc (kk := 3) g dX12_tape_75 rfl (by decide) rfl ?_
    refine S_goto (tgt := 53) g dX12_tape_78 (by decide) ?_
    refine S_sub g [1, 2, 3, 0] rfl ?_
    exact hs53 _ _ _ _

theorem sX12_tape {G : GG} {w : Wd} (hw : okM w) (x0 : Int) (x1 : Int) (x2 : Int) (h : Hp) : SC G w yX12_tape (Cond.code yX12_tape cX12_tape 5 (Option.some Jvm.ClassFile.FieldType.int)) 3 0 [vP 143, vI x0, vI x1, vI x2] (XX12_tape x0 x1 x2 h) h := by
  refine SC_of (own := "GatePatchModel") plain_Mod rfl (Nat.le_of_ble_eq_true rfl) (fun Γ hG g => ?_)
  subst hG
  show Sim Γ w 0 _ h 0 [(0, vP 143), (1, vI x0), (2, vI x1), (3, vI x2)] []
  unfold XX12_tape
  refine S_iload_n (kk := 1) g dX12_tape_0 rfl rfl ?_
  refine S_callSi (As := [vI x0]) g dX12_tape_1 (sX12_isTape hw _ _) rfl st_X12_isTape cw_X12_isTape ml_Mod_353 ini_Mod nd_X12_isTape ⟨by decide, by decide⟩ (Nat.le_of_ble_eq_true rfl) (fun r1 h2 => ?_)
  refine S_if_eq (tgt := 23) g dX12_tape_4 (by decide) ?_ ?_
  · refine S_iconst g dX12_tape_23 ⟨by decide, by decide⟩ ?_
    exact S_ireturn g dX12_tape_24 rfl
  · refine S_iload_n (kk := 2) g dX12_tape_7 rfl rfl ?_
    refine S_iconst g dX12_tape_8 ⟨by decide, by decide⟩ ?_
    refine S_iconst g dX12_tape_9 ⟨by decide, by decide⟩ ?_
    refine S_callSi (As := [vI x1, vI 1, vI 4]) g dX12_tape_10 (sX12_in hw _ _ _ _) rfl st_X12_in cw_X12_in ml_Mod_212 ini_Mod nd_X12_in ⟨by decide, by decide⟩ (Nat.le_of_ble_eq_true rfl) (fun r3 h4 => ?_)
    refine S_if_eq (tgt := 23) g dX12_tape_13 (by decide) ?_ ?_
    · refine S_iconst g dX12_tape_23 ⟨by decide, by decide⟩ ?_
      exact S_ireturn g dX12_tape_24 rfl
    · refine S_iload_n (kk := 3) g dX12_tape_16 rfl rfl ?_
      refine S_sipush g dX12_tape_17 ⟨by decide, by decide⟩ rfl ?_
      refine S_icmp_le (tgt := 25) g dX12_tape_20 (by decide) ?_ ?_
      · refine S_iload_n (kk := 3) g dX12_tape_25 rfl rfl ?_
        refine S_if_ge (tgt := 36) g dX12_tape_26 (by decide) ?_ ?_
        · refine S_aload_n (kk := 0) g dX12_tape_36 rfl rfl ?_
          refine S_getr g dX12_tape_37 fl_Mod_105 (at_143 hw) rfl (rc_143_43 hw) ?_
          refine S_iload_n (kk := 1) g dX12_tape_40 rfl rfl ?_
          refine S_iload_n (kk := 2) g dX12_tape_41 rfl rfl ?_
          refine S_iastore g dX12_tape_42 (at_171 hw) (fun h5 => ?_)
          refine S_aload_n (kk := 0) g dX12_tape_43 rfl rfl ?_
          refine S_getr g dX12_tape_44 fl_Mod_108 (at_143 hw) rfl (rc_143_44 hw) ?_
          refine S_iload_n (kk := 1) g dX12_tape_47 rfl rfl ?_
          refine S_iload_n (kk := 3) g dX12_tape_48 rfl rfl ?_
          refine S_iastore g dX12_tape_49 (at_172 hw) (fun h6 => ?_)
          refine S_iconst g dX12_tape_50 ⟨by decide, by decide⟩ ?_
          refine S_istore g dX12_tape_51 (by decide) rfl ?_
          refine S_sub g [1, 2, 4, 0] rfl ?_
          exact sX12_tape_L53 hw g _ _ _ _
        · refine S_aload_n (kk := 0) g dX12_tape_29 rfl rfl ?_
          refine S_bipush g dX12_tape_30 ⟨by decide, by decide⟩ rfl ?_
          refine S_callVi (As := [vI (-14)]) g dX12_tape_32 (sX12_refuse hw _ _) rfl (at_143 hw) rfl im_X12_refuse se_X12_refuse cw_X12_refuse ml_Mod_356 ini_Mod nd_X12_refuse ⟨by decide, by decide⟩ (Nat.le_of_ble_eq_true rfl) (fun r8 h9 => ?_)
          exact S_ireturn g dX12_tape_35 rfl
      · refine S_iconst g dX12_tape_23 ⟨by decide, by decide⟩ ?_
        exact S_ireturn g dX12_tape_24 rfl

def XX12_image (x0 : Int) (h : Hp) : OR :=
  cal (XX12_isTape x0 h) (fun r1 h2 => if r1 = 0 then some ((-1), h2) else inb x0 6 (hm (wr h2 171 x0.toNat 5) (fun h3 => inb x0 6 (hm (wr h3 172 x0.toNat 0) (fun h4 => cal (XX12_stores x0 h4) (fun r5 h6 => inb 0 2 (some ((h6 144 (0 : Int).toNat), h6))))))))
theorem sX12_image {G : GG} {w : Wd} (hw : okM w) (x0 : Int) (h : Hp) : SC G w yX12_image (Cond.code yX12_image cX12_image 2 (Option.some Jvm.ClassFile.FieldType.int)) 3 0 [vP 143, vI x0] (XX12_image x0 h) h := by
  refine SC_of (own := "GatePatchModel") plain_Mod rfl (Nat.le_of_ble_eq_true rfl) (fun Γ hG g => ?_)
  subst hG
  show Sim Γ w 0 _ h 0 [(0, vP 143), (1, vI x0)] []
  unfold XX12_image
  refine S_iload_n (kk := 1) g dX12_image_0 rfl rfl ?_
  refine S_callSi (As := [vI x0]) g dX12_image_1 (sX12_isTape hw _ _) rfl st_X12_isTape cw_X12_isTape ml_Mod_353 ini_Mod nd_X12_isTape ⟨by decide, by decide⟩ (Nat.le_of_ble_eq_true rfl) (fun r1 h2 => ?_)
  refine S_if_ne (tgt := 9) g dX12_image_4 (by decide) ?_ ?_
  · refine S_aload_n (kk := 0) g dX12_image_9 rfl rfl ?_
    refine S_getr g dX12_image_10 fl_Mod_105 (at_143 hw) rfl (rc_143_43 hw) ?_
    refine S_iload_n (kk := 1) g dX12_image_13 rfl rfl ?_
    refine S_iconst g dX12_image_14 ⟨by decide, by decide⟩ ?_
    refine S_iastore g dX12_image_15 (at_171 hw) (fun h3 => ?_)
    refine S_aload_n (kk := 0) g dX12_image_16 rfl rfl ?_
    refine S_getr g dX12_image_17 fl_Mod_108 (at_143 hw) rfl (rc_143_44 hw) ?_
    refine S_iload_n (kk := 1) g dX12_image_20 rfl rfl ?_
    refine S_iconst g dX12_image_21 ⟨by decide, by decide⟩ ?_
    refine S_iastore g dX12_image_22 (at_172 hw) (fun h4 => ?_)
    refine S_aload_n (kk := 0) g dX12_image_23 rfl rfl ?_
    refine S_iload_n (kk := 1) g dX12_image_24 rfl rfl ?_
    refine S_callVv (As := [vI x0]) g dX12_image_25 (sX12_stores hw _ _) rfl (at_143 hw) rfl im_X12_stores se_X12_stores cw_X12_stores ml_Mod_470 ini_Mod nd_X12_stores ⟨by decide, by decide⟩ (Nat.le_of_ble_eq_true rfl) (fun r5 h6 => ?_)
    refine S_aload_n (kk := 0) g dX12_image_28 rfl rfl ?_
    refine S_getr g dX12_image_29 fl_Mod_16 (at_143 hw) rfl (rc_143_4 hw) ?_
    refine S_iconst g dX12_image_32 ⟨by decide, by decide⟩ ?_
    refine S_iaload g dX12_image_33 (at_144 hw) ?_
    exact S_ireturn g dX12_image_34 rfl
  · refine S_iconst g dX12_image_7 ⟨by decide, by decide⟩ ?_
    exact S_ireturn g dX12_image_8 rfl

def XX12_back (x0 : Int) (h : Hp) : OR :=
  cal (XX12_isTape x0 h) (fun r1 h2 => if r1 = 0 then some ((-1), h2) else inb x0 6 (if (h2 171 x0.toNat) = 0 then cal (XX12_refuse (-11) h2) (fun r8 h9 => some (r8, h9)) else inb x0 6 (if (h2 171 x0.toNat) = 5 then inb x0 10 (if (h2 174 x0.toNat) = (h2 143 1) then inb x0 10 (if (h2 175 x0.toNat) = (h2 143 2) then inb x0 10 (if (h2 176 x0.toNat) = (h2 143 3) then cal (XX12_brings x0 h2) (fun r3 h4 => hm (wr h4 143 36 0) (fun h5 => inb 0 2 (some ((h5 144 (0 : Int).toNat), h5)))) else some ((-4), h2)) else some ((-4), h2)) else some ((-4), h2)) else cal (XX12_refuse (-12) h2) (fun r6 h7 => some (r6, h7)))))
theorem sX12_back {G : GG} {w : Wd} (hw : okM w) (x0 : Int) (h : Hp) : SC G w yX12_back (Cond.code yX12_back cX12_back 2 (Option.some Jvm.ClassFile.FieldType.int)) 4 0 [vP 143, vI x0] (XX12_back x0 h) h := by
  refine SC_of (own := "GatePatchModel") plain_Mod rfl (Nat.le_of_ble_eq_true rfl) (fun Γ hG g => ?_)
  subst hG
  show Sim Γ w 0 _ h 0 [(0, vP 143), (1, vI x0)] []
  unfold XX12_back
  refine S_iload_n (kk := 1) g dX12_back_0 rfl rfl ?_
  refine S_callSi (As := [vI x0]) g dX12_back_1 (sX12_isTape hw _ _) rfl st_X12_isTape cw_X12_isTape ml_Mod_353 ini_Mod nd_X12_isTape ⟨by decide, by decide⟩ (Nat.le_of_ble_eq_true rfl) (fun r1 h2 => ?_)
  refine S_if_ne (tgt := 9) g dX12_back_4 (by decide) ?_ ?_
  · refine S_aload_n (kk := 0) g dX12_back_9 rfl rfl ?_
    refine S_getr g dX12_back_10 fl_Mod_105 (at_143 hw) rfl (rc_143_43 hw) ?_
    refine S_iload_n (kk := 1) g dX12_back_13 rfl rfl ?_
    refine S_iaload g dX12_back_14 (at_171 hw) ?_
    refine S_if_ne (tgt := 25) g dX12_back_15 (by decide) ?_ ?_
    · refine S_aload_n (kk := 0) g dX12_back_25 rfl rfl ?_
      refine S_getr g dX12_back_26 fl_Mod_105 (at_143 hw) rfl (rc_143_43 hw) ?_
      refine S_iload_n (kk := 1) g dX12_back_29 rfl rfl ?_
      refine S_iaload g dX12_back_30 (at_171 hw) ?_
      refine S_iconst g dX12_back_31 ⟨by decide, by decide⟩ ?_
      refine S_icmp_eq (tgt := 42) g dX12_back_32 (by decide) ?_ ?_
      · refine S_aload_n (kk := 0) g dX12_back_42 rfl rfl ?_
        refine S_getr g dX12_back_43 fl_Mod_115 (at_143 hw) rfl (rc_143_46 hw) ?_
        refine S_iload_n (kk := 1) g dX12_back_46 rfl rfl ?_
        refine S_iaload g dX12_back_47 (at_174 hw) ?_
        refine S_aload_n (kk := 0) g dX12_back_48 rfl rfl ?_
        refine S_geti g dX12_back_49 fl_Mod_7 (at_143 hw) (Or.inl rfl) ?_
        refine S_icmp_ne (tgt := 81) g dX12_back_52 (by decide) ?_ ?_
        · refine S_bipush g dX12_back_81 ⟨by decide, by decide⟩ rfl ?_
          exact S_ireturn g dX12_back_83 rfl
        · refine S_aload_n (kk := 0) g dX12_back_55 rfl rfl ?_
          refine S_getr g dX12_back_56 fl_Mod_118 (at_143 hw) rfl (rc_143_47 hw) ?_
          refine S_iload_n (kk := 1) g dX12_back_59 rfl rfl ?_
          refine S_iaload g dX12_back_60 (at_175 hw) ?_
          refine S_aload_n (kk := 0) g dX12_back_61 rfl rfl ?_
          refine S_geti g dX12_back_62 fl_Mod_205 (at_143 hw) (Or.inl rfl) ?_
          refine S_icmp_ne (tgt := 81) g dX12_back_65 (by decide) ?_ ?_
          · refine S_bipush g dX12_back_81 ⟨by decide, by decide⟩ rfl ?_
            exact S_ireturn g dX12_back_83 rfl
          · refine S_aload_n (kk := 0) g dX12_back_68 rfl rfl ?_
            refine S_getr g dX12_back_69 fl_Mod_121 (at_143 hw) rfl (rc_143_48 hw) ?_
            refine S_iload_n (kk := 1) g dX12_back_72 rfl rfl ?_
            refine S_iaload g dX12_back_73 (at_176 hw) ?_
            refine S_aload_n (kk := 0) g dX12_back_74 rfl rfl ?_
            refine S_geti g dX12_back_75 fl_Mod_13 (at_143 hw) (Or.inl rfl) ?_
            refine S_icmp_eq (tgt := 84) g dX12_back_78 (by decide) ?_ ?_
            · refine S_aload_n (kk := 0) g dX12_back_84 rfl rfl ?_
              refine S_iload_n (kk := 1) g dX12_back_85 rfl rfl ?_
              refine S_callVv (As := [vI x0]) g dX12_back_86 (sX12_brings hw _ _) rfl (at_143 hw) rfl im_X12_brings se_X12_brings cw_X12_brings ml_Mod_481 ini_Mod nd_X12_brings ⟨by decide, by decide⟩ (Nat.le_of_ble_eq_true rfl) (fun r3 h4 => ?_)
              refine S_aload_n (kk := 0) g dX12_back_89 rfl rfl ?_
              refine S_iconst g dX12_back_90 ⟨by decide, by decide⟩ ?_
              refine S_puti g dX12_back_91 fp_Mod_233 (at_143 hw) rfl (fun h5 => ?_)
              refine S_aload_n (kk := 0) g dX12_back_94 rfl rfl ?_
              refine S_getr g dX12_back_95 fl_Mod_16 (at_143 hw) rfl (rc_143_4 hw) ?_
              refine S_iconst g dX12_back_98 ⟨by decide, by decide⟩ ?_
              refine S_iaload g dX12_back_99 (at_144 hw) ?_
              exact S_ireturn g dX12_back_100 rfl
            · refine S_bipush g dX12_back_81 ⟨by decide, by decide⟩ rfl ?_
              exact S_ireturn g dX12_back_83 rfl
      · refine S_aload_n (kk := 0) g dX12_back_35 rfl rfl ?_
        refine S_bipush g dX12_back_36 ⟨by decide, by decide⟩ rfl ?_
        refine S_callVi (As := [vI (-12)]) g dX12_back_38 (sX12_refuse hw _ _) rfl (at_143 hw) rfl im_X12_refuse se_X12_refuse cw_X12_refuse ml_Mod_356 ini_Mod nd_X12_refuse ⟨by decide, by decide⟩ (Nat.le_of_ble_eq_true rfl) (fun r6 h7 => ?_)
        exact S_ireturn g dX12_back_41 rfl
    · refine S_aload_n (kk := 0) g dX12_back_18 rfl rfl ?_
      refine S_bipush g dX12_back_19 ⟨by decide, by decide⟩ rfl ?_
      refine S_callVi (As := [vI (-11)]) g dX12_back_21 (sX12_refuse hw _ _) rfl (at_143 hw) rfl im_X12_refuse se_X12_refuse cw_X12_refuse ml_Mod_356 ini_Mod nd_X12_refuse ⟨by decide, by decide⟩ (Nat.le_of_ble_eq_true rfl) (fun r8 h9 => ?_)
      exact S_ireturn g dX12_back_24 rfl
  · refine S_iconst g dX12_back_7 ⟨by decide, by decide⟩ ?_
    exact S_ireturn g dX12_back_8 rfl

def XX12_toss (x0 : Int) (h : Hp) : OR :=
  cal (XX12_isTape x0 h) (fun r1 h2 => if r1 = 0 then some ((-1), h2) else inb x0 6 (if (h2 171 x0.toNat) = 0 then cal (XX12_refuse (-11) h2) (fun r7 h8 => some (r7, h8)) else inb x0 6 (if (h2 171 x0.toNat) = 5 then inb x0 10 (if (h2 177 x0.toNat) = 0 then cal (XX12_refuse (-15) h2) (fun r3 h4 => some (r3, h4)) else inb x0 10 (some ((h2 177 x0.toNat), h2))) else cal (XX12_refuse (-12) h2) (fun r5 h6 => some (r5, h6)))))
theorem sX12_toss {G : GG} {w : Wd} (hw : okM w) (x0 : Int) (h : Hp) : SC G w yX12_toss (Cond.code yX12_toss cX12_toss 2 (Option.some Jvm.ClassFile.FieldType.int)) 3 0 [vP 143, vI x0] (XX12_toss x0 h) h := by
  refine SC_of (own := "GatePatchModel") plain_Mod rfl (Nat.le_of_ble_eq_true rfl) (fun Γ hG g => ?_)
  subst hG
  show Sim Γ w 0 _ h 0 [(0, vP 143), (1, vI x0)] []
  unfold XX12_toss
  refine S_iload_n (kk := 1) g dX12_toss_0 rfl rfl ?_
  refine S_callSi (As := [vI x0]) g dX12_toss_1 (sX12_isTape hw _ _) rfl st_X12_isTape cw_X12_isTape ml_Mod_353 ini_Mod nd_X12_isTape ⟨by decide, by decide⟩ (Nat.le_of_ble_eq_true rfl) (fun r1 h2 => ?_)
  refine S_if_ne (tgt := 9) g dX12_toss_4 (by decide) ?_ ?_
  · refine S_aload_n (kk := 0) g dX12_toss_9 rfl rfl ?_
    refine S_getr g dX12_toss_10 fl_Mod_105 (at_143 hw) rfl (rc_143_43 hw) ?_
    refine S_iload_n (kk := 1) g dX12_toss_13 rfl rfl ?_
    refine S_iaload g dX12_toss_14 (at_171 hw) ?_
    refine S_if_ne (tgt := 25) g dX12_toss_15 (by decide) ?_ ?_
    · refine S_aload_n (kk := 0) g dX12_toss_25 rfl rfl ?_
      refine S_getr g dX12_toss_26 fl_Mod_105 (at_143 hw) rfl (rc_143_43 hw) ?_
      refine S_iload_n (kk := 1) g dX12_toss_29 rfl rfl ?_
      refine S_iaload g dX12_toss_30 (at_171 hw) ?_
      refine S_iconst g dX12_toss_31 ⟨by decide, by decide⟩ ?_
      refine S_icmp_eq (tgt := 42) g dX12_toss_32 (by decide) ?_ ?_
      · refine S_aload_n (kk := 0) g dX12_toss_42 rfl rfl ?_
        refine S_getr g dX12_toss_43 fl_Mod_124 (at_143 hw) rfl (rc_143_49 hw) ?_
        refine S_iload_n (kk := 1) g dX12_toss_46 rfl rfl ?_
        refine S_iaload g dX12_toss_47 (at_177 hw) ?_
        refine S_if_ne (tgt := 60) g dX12_toss_48 (by decide) ?_ ?_
        · refine S_aload_n (kk := 0) g dX12_toss_60 rfl rfl ?_
          refine S_getr g dX12_toss_61 fl_Mod_124 (at_143 hw) rfl (rc_143_49 hw) ?_
          refine S_iload_n (kk := 1) g dX12_toss_64 rfl rfl ?_
          refine S_iaload g dX12_toss_65 (at_177 hw) ?_
          exact S_ireturn g dX12_toss_66 rfl
        · refine S_aload_n (kk := 0) g dX12_toss_51 rfl rfl ?_
          refine S_bipush g dX12_toss_52 ⟨by decide, by decide⟩ rfl ?_
          refine S_callVi (As := [vI (-15)]) g dX12_toss_54 (sX12_refuse hw _ _) rfl (at_143 hw) rfl im_X12_refuse se_X12_refuse cw_X12_refuse ml_Mod_356 ini_Mod nd_X12_refuse ⟨by decide, by decide⟩ (Nat.le_of_ble_eq_true rfl) (fun r3 h4 => ?_)
          refine S_goto (tgt := 66) g dX12_toss_57 (by decide) ?_
          exact S_ireturn g dX12_toss_66 rfl
      · refine S_aload_n (kk := 0) g dX12_toss_35 rfl rfl ?_
        refine S_bipush g dX12_toss_36 ⟨by decide, by decide⟩ rfl ?_
        refine S_callVi (As := [vI (-12)]) g dX12_toss_38 (sX12_refuse hw _ _) rfl (at_143 hw) rfl im_X12_refuse se_X12_refuse cw_X12_refuse ml_Mod_356 ini_Mod nd_X12_refuse ⟨by decide, by decide⟩ (Nat.le_of_ble_eq_true rfl) (fun r5 h6 => ?_)
        exact S_ireturn g dX12_toss_41 rfl
    · refine S_aload_n (kk := 0) g dX12_toss_18 rfl rfl ?_
      refine S_bipush g dX12_toss_19 ⟨by decide, by decide⟩ rfl ?_
      refine S_callVi (As := [vI (-11)]) g dX12_toss_21 (sX12_refuse hw _ _) rfl (at_143 hw) rfl im_X12_refuse se_X12_refuse cw_X12_refuse ml_Mod_356 ini_Mod nd_X12_refuse ⟨by decide, by decide⟩ (Nat.le_of_ble_eq_true rfl) (fun r7 h8 => ?_)
      exact S_ireturn g dX12_toss_24 rfl
  · refine S_iconst g dX12_toss_7 ⟨by decide, by decide⟩ ?_
    exact S_ireturn g dX12_toss_8 rfl

def XX12_clear (x0 : Int) (h : Hp) : OR :=
  cal (XX12_isTape x0 h) (fun r1 h2 => if r1 = 0 then some ((-1), h2) else inb x0 6 (nm (h2 171 x0.toNat) (fun v3 => inb x0 6 (hm (wr h2 171 x0.toNat 0) (fun h4 => some (v3, h4))))))
theorem sX12_clear {G : GG} {w : Wd} (hw : okM w) (x0 : Int) (h : Hp) : SC G w yX12_clear (Cond.code yX12_clear cX12_clear 3 (Option.some Jvm.ClassFile.FieldType.int)) 3 0 [vP 143, vI x0] (XX12_clear x0 h) h := by
  refine SC_of (own := "GatePatchModel") plain_Mod rfl (Nat.le_of_ble_eq_true rfl) (fun Γ hG g => ?_)
  subst hG
  show Sim Γ w 0 _ h 0 [(0, vP 143), (1, vI x0)] []
  unfold XX12_clear
  refine S_iload_n (kk := 1) g dX12_clear_0 rfl rfl ?_
  refine S_callSi (As := [vI x0]) g dX12_clear_1 (sX12_isTape hw _ _) rfl st_X12_isTape cw_X12_isTape ml_Mod_353 ini_Mod nd_X12_isTape ⟨by decide, by decide⟩ (Nat.le_of_ble_eq_true rfl) (fun r1 h2 => ?_)
  refine S_if_ne (tgt := 9) g dX12_clear_4 (by decide) ?_ ?_
  · refine S_aload_n (kk := 0) g dX12_clear_9 rfl rfl ?_
    refine S_getr g dX12_clear_10 fl_Mod_105 (at_143 hw) rfl (rc_143_43 hw) ?_
    refine S_iload_n (kk := 1) g dX12_clear_13 rfl rfl ?_
    refine S_iaload g dX12_clear_14 (at_171 hw) ?_
    refine S_nmI (fun v3 => ?_)
    refine S_istore_n g dX12_clear_15 rfl (by decide) rfl ?_
    refine S_aload_n (kk := 1) g dX12_clear_16 rfl rfl ?_
    refine S_getr g dX12_clear_17 fl_Mod_105 (at_143 hw) rfl (rc_143_43 hw) ?_
    refine S_iload_n (kk := 2) g dX12_clear_20 rfl rfl ?_
    refine S_iconst g dX12_clear_21 ⟨by decide, by decide⟩ ?_
    refine S_iastore g dX12_clear_22 (at_171 hw) (fun h4 => ?_)
    refine S_iload_n (kk := 0) g dX12_clear_23 rfl rfl ?_
    exact S_ireturn g dX12_clear_24 rfl
  · refine S_iconst g dX12_clear_7 ⟨by decide, by decide⟩ ?_
    exact S_ireturn g dX12_clear_8 rfl

def XX12_narrowed (x0 : Int) (x1 : Int) (h : Hp) : OR :=
  if x0 = 1 then some ((ai2b (al2i x1)), h) else if x0 = 2 then some ((ai2s (al2i x1)), h) else if x0 = 3 then some ((al2i x1), h) else some (x1, h)
theorem sX12_narrowed {G : GG} {w : Wd} (hw : okM w) (x0 : Int) (x1 : Int) (h : Hp) : SC G w yX12_narrowed (Cond.code yX12_narrowed cX12_narrowed 3 (Option.some Jvm.ClassFile.FieldType.long)) 1 1 [vI x0, vJ x1] (XX12_narrowed x0 x1 h) h := by
  refine SC_of (own := "GatePatchModel") plain_Mod rfl (Nat.le_of_ble_eq_true rfl) (fun Γ hG g => ?_)
  subst hG
  show Sim Γ w 1 _ h 0 [(0, vI x0), (1, vJ x1)] []
  unfold XX12_narrowed
  refine S_iload_n (kk := 0) g dX12_narrowed_0 rfl rfl ?_
  refine S_iconst g dX12_narrowed_1 ⟨by decide, by decide⟩ ?_
  refine S_icmp_ne (tgt := 12) g dX12_narrowed_2 (by decide) ?_ ?_
  · refine S_iload_n (kk := 0) g dX12_narrowed_12 rfl rfl ?_
    refine S_iconst g dX12_narrowed_13 ⟨by decide, by decide⟩ ?_
    refine S_icmp_ne (tgt := 24) g dX12_narrowed_14 (by decide) ?_ ?_
    · refine S_iload_n (kk := 0) g dX12_narrowed_24 rfl rfl ?_
      refine S_iconst g dX12_narrowed_25 ⟨by decide, by decide⟩ ?_
      refine S_icmp_ne (tgt := 35) g dX12_narrowed_26 (by decide) ?_ ?_
      · refine S_lload_n (kk := 1) g dX12_narrowed_35 rfl rfl ?_
        exact S_lreturn g dX12_narrowed_36 rfl
      · refine S_lload_n (kk := 1) g dX12_narrowed_29 rfl rfl ?_
        refine S_l2i g dX12_narrowed_30 ?_
        refine S_i2l g dX12_narrowed_31 ?_
        refine S_goto (tgt := 36) g dX12_narrowed_32 (by decide) ?_
        exact S_lreturn g dX12_narrowed_36 rfl
    · refine S_lload_n (kk := 1) g dX12_narrowed_17 rfl rfl ?_
      refine S_l2i g dX12_narrowed_18 ?_
      refine S_i2s g dX12_narrowed_19 ?_
      refine S_i2l g dX12_narrowed_20 ?_
      refine S_goto (tgt := 36) g dX12_narrowed_21 (by decide) ?_
      exact S_lreturn g dX12_narrowed_36 rfl
  · refine S_lload_n (kk := 1) g dX12_narrowed_5 rfl rfl ?_
    refine S_l2i g dX12_narrowed_6 ?_
    refine S_i2b g dX12_narrowed_7 ?_
    refine S_i2l g dX12_narrowed_8 ?_
    refine S_goto (tgt := 36) g dX12_narrowed_9 (by decide) ?_
    exact S_lreturn g dX12_narrowed_36 rfl

def XX12_put (x0 : Int) (x1 : Int) (x2 : Int) (h : Hp) : OR :=
  cal (XX12_isTape x0 h) (fun r1 h2 => if r1 = 0 then some ((-1), h2) else inb x0 6 (if (h2 171 x0.toNat) = 0 then cal (XX12_refuse (-11) h2) (fun r12 h13 => some (r12, h13)) else inb x0 6 (if (h2 171 x0.toNat) = 5 then cal (XX12_refuse (-12) h2) (fun r10 h11 => some (r10, h11)) else inb x0 6 (chk ((h2 172 x0.toNat) - 1) (cal (XX12_in x1 0 ((h2 172 x0.toNat) - 1) h2) (fun r3 h4 => if r3 = 0 then cal (XX12_refuse (-13) h4) (fun r8 h9 => some (r8, h9)) else chk (256 * x0) (chk ((256 * x0) + x1) (inb x0 6 (cal (XX12_narrowed (h4 171 x0.toNat) x2 h4) (fun r5 h6 => inb ((256 * x0) + x1) 1536 (hm (wr h6 173 ((256 * x0) + x1).toNat r5) (fun h7 => some (1, h7)))))))))))))
theorem sX12_put {G : GG} {w : Wd} (hw : okM w) (x0 : Int) (x1 : Int) (x2 : Int) (h : Hp) : SC G w yX12_put (Cond.code yX12_put cX12_put 5 (Option.some Jvm.ClassFile.FieldType.int)) 3 0 [vP 143, vI x0, vI x1, vJ x2] (XX12_put x0 x1 x2 h) h := by
  refine SC_of (own := "GatePatchModel") plain_Mod rfl (Nat.le_of_ble_eq_true rfl) (fun Γ hG g => ?_)
  subst hG
  show Sim Γ w 0 _ h 0 [(0, vP 143), (1, vI x0), (2, vI x1), (3, vJ x2)] []
  unfold XX12_put
  refine S_iload_n (kk := 1) g dX12_put_0 rfl rfl ?_
  refine S_callSi (As := [vI x0]) g dX12_put_1 (sX12_isTape hw _ _) rfl st_X12_isTape cw_X12_isTape ml_Mod_353 ini_Mod nd_X12_isTape ⟨by decide, by decide⟩ (Nat.le_of_ble_eq_true rfl) (fun r1 h2 => ?_)
  refine S_if_ne (tgt := 9) g dX12_put_4 (by decide) ?_ ?_
  · refine S_aload_n (kk := 0) g dX12_put_9 rfl rfl ?_
    refine S_getr g dX12_put_10 fl_Mod_105 (at_143 hw) rfl (rc_143_43 hw) ?_
    refine S_iload_n (kk := 1) g dX12_put_13 rfl rfl ?_
    refine S_iaload g dX12_put_14 (at_171 hw) ?_
    refine S_if_ne (tgt := 25) g dX12_put_15 (by decide) ?_ ?_
    · refine S_aload_n (kk := 0) g dX12_put_25 rfl rfl ?_
      refine S_getr g dX12_put_26 fl_Mod_105 (at_143 hw) rfl (rc_143_43 hw) ?_
      refine S_iload_n (kk := 1) g dX12_put_29 rfl rfl ?_
      refine S_iaload g dX12_put_30 (at_171 hw) ?_
      refine S_iconst g dX12_put_31 ⟨by decide, by decide⟩ ?_
      refine S_icmp_ne (tgt := 42) g dX12_put_32 (by decide) ?_ ?_
      · refine S_iload_n (kk := 2) g dX12_put_42 rfl rfl ?_
        refine S_iconst g dX12_put_43 ⟨by decide, by decide⟩ ?_
        refine S_aload_n (kk := 0) g dX12_put_44 rfl rfl ?_
        refine S_getr g dX12_put_45 fl_Mod_108 (at_143 hw) rfl (rc_143_44 hw) ?_
        refine S_iload_n (kk := 1) g dX12_put_48 rfl rfl ?_
        refine S_iaload g dX12_put_49 (at_172 hw) ?_
        refine S_iconst g dX12_put_50 ⟨by decide, by decide⟩ ?_
        refine S_isub g dX12_put_51 ?_
        refine S_callSi (As := [vI x1, vI 0, vI ((h2 172 x0.toNat) - 1)]) g dX12_put_52 (sX12_in hw _ _ _ _) rfl st_X12_in cw_X12_in ml_Mod_212 ini_Mod nd_X12_in ⟨by decide, by decide⟩ (Nat.le_of_ble_eq_true rfl) (fun r3 h4 => ?_)
        refine S_if_ne (tgt := 65) g dX12_put_55 (by decide) ?_ ?_
        · refine S_aload_n (kk := 0) g dX12_put_65 rfl rfl ?_
          refine S_getr g dX12_put_66 fl_Mod_111 (at_143 hw) rfl (rc_143_45 hw) ?_
          refine S_sipush g dX12_put_69 ⟨by decide, by decide⟩ rfl ?_
          refine S_iload_n (kk := 1) g dX12_put_72 rfl rfl ?_
          refine S_imul g dX12_put_73 ?_
          refine S_iload_n (kk := 2) g dX12_put_74 rfl rfl ?_
          refine S_iadd g dX12_put_75 ?_
          refine S_aload_n (kk := 0) g dX12_put_76 rfl rfl ?_
          refine S_getr g dX12_put_77 fl_Mod_105 (at_143 hw) rfl (rc_143_43 hw) ?_
          refine S_iload_n (kk := 1) g dX12_put_80 rfl rfl ?_
          refine S_iaload g dX12_put_81 (at_171 hw) ?_
          refine S_lload_n (kk := 3) g dX12_put_82 rfl rfl ?_
          refine S_callSj (As := [vI (h4 171 x0.toNat), vJ x2]) g dX12_put_83 (sX12_narrowed hw _ _ _) rfl st_X12_narrowed cw_X12_narrowed ml_Mod_484 ini_Mod nd_X12_narrowed ⟨by decide, by decide⟩ (Nat.le_of_ble_eq_true rfl) (fun r5 h6 => ?_)
          refine S_lastore g dX12_put_86 (at_173 hw) (fun h7 => ?_)
          refine S_iconst g dX12_put_87 ⟨by decide, by decide⟩ ?_
          exact S_ireturn g dX12_put_88 rfl
        · refine S_aload_n (kk := 0) g dX12_put_58 rfl rfl ?_
          refine S_bipush g dX12_put_59 ⟨by decide, by decide⟩ rfl ?_
          refine S_callVi (As := [vI (-13)]) g dX12_put_61 (sX12_refuse hw _ _) rfl (at_143 hw) rfl im_X12_refuse se_X12_refuse cw_X12_refuse ml_Mod_356 ini_Mod nd_X12_refuse ⟨by decide, by decide⟩ (Nat.le_of_ble_eq_true rfl) (fun r8 h9 => ?_)
          exact S_ireturn g dX12_put_64 rfl
      · refine S_aload_n (kk := 0) g dX12_put_35 rfl rfl ?_
        refine S_bipush g dX12_put_36 ⟨by decide, by decide⟩ rfl ?_
        refine S_callVi (As := [vI (-12)]) g dX12_put_38 (sX12_refuse hw _ _) rfl (at_143 hw) rfl im_X12_refuse se_X12_refuse cw_X12_refuse ml_Mod_356 ini_Mod nd_X12_refuse ⟨by decide, by decide⟩ (Nat.le_of_ble_eq_true rfl) (fun r10 h11 => ?_)
        exact S_ireturn g dX12_put_41 rfl
    · refine S_aload_n (kk := 0) g dX12_put_18 rfl rfl ?_
      refine S_bipush g dX12_put_19 ⟨by decide, by decide⟩ rfl ?_
      refine S_callVi (As := [vI (-11)]) g dX12_put_21 (sX12_refuse hw _ _) rfl (at_143 hw) rfl im_X12_refuse se_X12_refuse cw_X12_refuse ml_Mod_356 ini_Mod nd_X12_refuse ⟨by decide, by decide⟩ (Nat.le_of_ble_eq_true rfl) (fun r12 h13 => ?_)
      exact S_ireturn g dX12_put_24 rfl
  · refine S_iconst g dX12_put_7 ⟨by decide, by decide⟩ ?_
    exact S_ireturn g dX12_put_8 rfl

def XX12_at_p52   (l1 l2 : Int) (s1 : Int) (h : Hp) : OR :=
  hm (wr h 143 0 s1) (fun h3 => if (h3 143 0) = 0 then chk (256 * l1) (chk ((256 * l1) + l2) (inb ((256 * l1) + l2) 1536 (some ((h3 173 ((256 * l1) + l2).toNat), h3)))) else some (0, h3))
def XX12_at_p47   (l1 l2 : Int) (h : Hp) : OR :=
  XX12_at_p52 l1 l2 2 h
def XX12_at (x0 : Int) (x1 : Int) (h : Hp) : OR :=
  cal (XX12_isTape x0 h) (fun r1 h2 => if r1 = 0 then XX12_at_p52 x0 x1 1 h2 else inb x0 6 (if (h2 171 x0.toNat) = 0 then XX12_at_p47 x0 x1 h2 else inb x0 6 (if (h2 171 x0.toNat) = 5 then XX12_at_p47 x0 x1 h2 else inb x0 6 (chk ((h2 172 x0.toNat) - 1) (cal (XX12_in x1 0 ((h2 172 x0.toNat) - 1) h2) (fun r4 h5 => if r4 = 0 then XX12_at_p47 x0 x1 h5 else XX12_at_p52 x0 x1 0 h5))))))
theorem sX12_at_p52 {Γ : Cx} {w : Wd} (hw : okM w) (g : Gd Γ cX12_at 3 "GatePatchModel" (Option.some Jvm.ClassFile.FieldType.long) (rmd 3))   (l1 l2 : Int) (s1 : Int) (h : Hp) : Sim Γ w 1 (XX12_at_p52  l1 l2 s1 h) h 52 [(0, vP 143), (1, vI l1), (2, vI l2)] [vI s1, vP 143] := by
  unfold XX12_at_p52
  refine S_puti g dX12_at_52 fp_Mod_202 (at_143 hw) rfl (fun h3 => ?_)
  refine S_aload_n (kk := 0) g dX12_at_55 rfl rfl ?_
  refine S_geti g dX12_at_56 fl_Mod_202 (at_143 hw) (Or.inl rfl) ?_
  refine S_if_ne (tgt := 77) g dX12_at_59 (by decide) ?_ ?_
  · refine S_lconst (x := 0) g dX12_at_77 ⟨by decide, by decide⟩ rfl ?_
    exact S_lreturn g dX12_at_78 rfl
  · refine S_aload_n (kk := 0) g dX12_at_62 rfl rfl ?_
    refine S_getr g dX12_at_63 fl_Mod_111 (at_143 hw) rfl (rc_143_45 hw) ?_
    refine S_sipush g dX12_at_66 ⟨by decide, by decide⟩ rfl ?_
    refine S_iload_n (kk := 1) g dX12_at_69 rfl rfl ?_
    refine S_imul g dX12_at_70 ?_
    refine S_iload_n (kk := 2) g dX12_at_71 rfl rfl ?_
    refine S_iadd g dX12_at_72 ?_
    refine S_laload g dX12_at_73 (at_173 hw) ?_
    refine S_goto (tgt := 78) g dX12_at_74 (by decide) ?_
    exact S_lreturn g dX12_at_78 rfl

theorem sX12_at_p47 {Γ : Cx} {w : Wd} (hw : okM w) (g : Gd Γ cX12_at 3 "GatePatchModel" (Option.some Jvm.ClassFile.FieldType.long) (rmd 3))   (l1 l2 : Int) (h : Hp) : Sim Γ w 1 (XX12_at_p47  l1 l2  h) h 47 [(0, vP 143), (1, vI l1), (2, vI l2)] [vP 143] := by
  unfold XX12_at_p47
  refine S_iconst g dX12_at_47 ⟨by decide, by decide⟩ ?_
  refine S_goto (tgt := 52) g dX12_at_48 (by decide) ?_
  exact sX12_at_p52 hw g _ _ _ _

theorem sX12_at {G : GG} {w : Wd} (hw : okM w) (x0 : Int) (x1 : Int) (h : Hp) : SC G w yX12_at (Cond.code yX12_at cX12_at 3 (Option.some Jvm.ClassFile.FieldType.long)) 3 1 [vP 143, vI x0, vI x1] (XX12_at x0 x1 h) h := by
  refine SC_of (own := "GatePatchModel") plain_Mod rfl (Nat.le_of_ble_eq_true rfl) (fun Γ hG g => ?_)
  subst hG
  show Sim Γ w 1 _ h 0 [(0, vP 143), (1, vI x0), (2, vI x1)] []
  unfold XX12_at
  refine S_aload_n (kk := 0) g dX12_at_0 rfl rfl ?_
  refine S_iload_n (kk := 1) g dX12_at_1 rfl rfl ?_
  refine S_callSi (As := [vI x0]) g dX12_at_2 (sX12_isTape hw _ _) rfl st_X12_isTape cw_X12_isTape ml_Mod_353 ini_Mod nd_X12_isTape ⟨by decide, by decide⟩ (Nat.le_of_ble_eq_true rfl) (fun r1 h2 => ?_)
  refine S_if_ne (tgt := 12) g dX12_at_5 (by decide) ?_ ?_
  · refine S_aload_n (kk := 0) g dX12_at_12 rfl rfl ?_
    refine S_getr g dX12_at_13 fl_Mod_105 (at_143 hw) rfl (rc_143_43 hw) ?_
    refine S_iload_n (kk := 1) g dX12_at_16 rfl rfl ?_
    refine S_iaload g dX12_at_17 (at_171 hw) ?_
    refine S_if_eq (tgt := 47) g dX12_at_18 (by decide) ?_ ?_
    · exact sX12_at_p47 hw g _ _ _
    · refine S_aload_n (kk := 0) g dX12_at_21 rfl rfl ?_
      refine S_getr g dX12_at_22 fl_Mod_105 (at_143 hw) rfl (rc_143_43 hw) ?_
      refine S_iload_n (kk := 1) g dX12_at_25 rfl rfl ?_
      refine S_iaload g dX12_at_26 (at_171 hw) ?_
      refine S_iconst g dX12_at_27 ⟨by decide, by decide⟩ ?_
      refine S_icmp_eq (tgt := 47) g dX12_at_28 (by decide) ?_ ?_
      · exact sX12_at_p47 hw g _ _ _
      · refine S_iload_n (kk := 2) g dX12_at_31 rfl rfl ?_
        refine S_iconst g dX12_at_32 ⟨by decide, by decide⟩ ?_
        refine S_aload_n (kk := 0) g dX12_at_33 rfl rfl ?_
        refine S_getr g dX12_at_34 fl_Mod_108 (at_143 hw) rfl (rc_143_44 hw) ?_
        refine S_iload_n (kk := 1) g dX12_at_37 rfl rfl ?_
        refine S_iaload g dX12_at_38 (at_172 hw) ?_
        refine S_iconst g dX12_at_39 ⟨by decide, by decide⟩ ?_
        refine S_isub g dX12_at_40 ?_
        refine S_callSi (As := [vI x1, vI 0, vI ((h2 172 x0.toNat) - 1)]) g dX12_at_41 (sX12_in hw _ _ _ _) rfl st_X12_in cw_X12_in ml_Mod_212 ini_Mod nd_X12_in ⟨by decide, by decide⟩ (Nat.le_of_ble_eq_true rfl) (fun r4 h5 => ?_)
        refine S_if_ne (tgt := 51) g dX12_at_44 (by decide) ?_ ?_
        · refine S_iconst g dX12_at_51 ⟨by decide, by decide⟩ ?_
          exact sX12_at_p52 hw g _ _ _ _
        · exact sX12_at_p47 hw g _ _ _
  · refine S_iconst g dX12_at_8 ⟨by decide, by decide⟩ ?_
    refine S_goto (tgt := 52) g dX12_at_9 (by decide) ?_
    exact sX12_at_p52 hw g _ _ _ _

def XX12_copy_p34   (h : Hp) : OR :=
  cal (XX12_refuse (-11) h) (fun r5 h6 => some (r5, h6))
def XX12_copy_p66   (h : Hp) : OR :=
  cal (XX12_refuse (-12) h) (fun r7 h8 => some (r7, h8))
def XX12_copy_p114   (h : Hp) : OR :=
  cal (XX12_refuse (-13) h) (fun r9 h10 => some (r9, h10))
def XX12_copy_b162   (self162 : Int → Int → Int → Int → Hp → OR) (l3 l4 l5 l6 : Int) (h : Hp) : OR :=
  if l5 ≤ l6 then some (l5, h) else chk (256 * l3) (chk ((256 * l3) + l4) (chk (((256 * l3) + l4) + l6) (inb l6 256 (inb (((256 * l3) + l4) + l6) 1536 (hm (wr h 173 (((256 * l3) + l4) + l6).toNat (h 202 l6.toNat)) (fun h11 => chk (l6 + 1) (self162 l3 l4 l5 (l6 + 1) h11)))))))
def XX12_copy_L162   (l3 l4 l5 l6 : Int) (h : Hp) : OR := lup4 (XX12_copy_b162 ) FU l3 l4 l5 l6 h
def XX12_copy_b124   (self124 : Int → Int → Int → Int → Int → Int → Hp → OR) (l1 l2 l3 l4 l5 l6 : Int) (h : Hp) : OR :=
  if l5 ≤ l6 then XX12_copy_L162 l3 l4 l5 0 h else chk (256 * l1) (chk ((256 * l1) + l2) (chk (((256 * l1) + l2) + l6) (inb (((256 * l1) + l2) + l6) 1536 (inb l6 256 (hm (wr h 202 l6.toNat (h 173 (((256 * l1) + l2) + l6).toNat)) (fun h12 => chk (l6 + 1) (self124 l1 l2 l3 l4 l5 (l6 + 1) h12)))))))
def XX12_copy_L124   (l1 l2 l3 l4 l5 l6 : Int) (h : Hp) : OR := lup6 (XX12_copy_b124 ) FU l1 l2 l3 l4 l5 l6 h
def XX12_copy (x0 : Int) (x1 : Int) (x2 : Int) (x3 : Int) (x4 : Int) (h : Hp) : OR :=
  cal (XX12_isTape x0 h) (fun r1 h2 => if r1 = 0 then some ((-1), h2) else cal (XX12_isTape x2 h2) (fun r3 h4 => if r3 = 0 then some ((-1), h4) else inb x0 6 (if (h4 171 x0.toNat) = 0 then XX12_copy_p34 h4 else inb x2 6 (if (h4 171 x2.toNat) = 0 then XX12_copy_p34 h4 else inb x0 6 (if (h4 171 x0.toNat) = 5 then XX12_copy_p66 h4 else inb x0 6 (inb x2 6 (if (h4 171 x0.toNat) = (h4 171 x2.toNat) then if x4 < 0 then XX12_copy_p114 h4 else if x1 < 0 then XX12_copy_p114 h4 else if x3 < 0 then XX12_copy_p114 h4 else inb x0 6 (chk ((h4 172 x0.toNat) - x1) (if ((h4 172 x0.toNat) - x1) < x4 then XX12_copy_p114 h4 else inb x2 6 (chk ((h4 172 x2.toNat) - x3) (if x4 ≤ ((h4 172 x2.toNat) - x3) then XX12_copy_L124 x0 x1 x2 x3 x4 0 h4 else XX12_copy_p114 h4)))) else XX12_copy_p66 h4)))))))
theorem sX12_copy_p34 {Γ : Cx} {w : Wd} (hw : okM w) (g : Gd Γ cX12_copy 7 "GatePatchModel" (Option.some Jvm.ClassFile.FieldType.int) (rmd 3))   (h : Hp) : Sim Γ w 0 (XX12_copy_p34    h) h 34 [(0, vP 143)] [] := by
  unfold XX12_copy_p34
  refine S_aload_n (kk := 0) g dX12_copy_34 rfl rfl ?_
  refine S_bipush g dX12_copy_35 ⟨by decide, by decide⟩ rfl ?_
  refine S_callVi (As := [vI (-11)]) g dX12_copy_37 (sX12_refuse hw _ _) rfl (at_143 hw) rfl im_X12_refuse se_X12_refuse cw_X12_refuse ml_Mod_356 ini_Mod nd_X12_refuse ⟨by decide, by decide⟩ (Nat.le_of_ble_eq_true rfl) (fun r5 h6 => ?_)
  exact S_ireturn g dX12_copy_40 rfl

theorem sX12_copy_p66 {Γ : Cx} {w : Wd} (hw : okM w) (g : Gd Γ cX12_copy 7 "GatePatchModel" (Option.some Jvm.ClassFile.FieldType.int) (rmd 3))   (h : Hp) : Sim Γ w 0 (XX12_copy_p66    h) h 66 [(0, vP 143)] [] := by
  unfold XX12_copy_p66
  refine S_aload_n (kk := 0) g dX12_copy_66 rfl rfl ?_
  refine S_bipush g dX12_copy_67 ⟨by decide, by decide⟩ rfl ?_
  refine S_callVi (As := [vI (-12)]) g dX12_copy_69 (sX12_refuse hw _ _) rfl (at_143 hw) rfl im_X12_refuse se_X12_refuse cw_X12_refuse ml_Mod_356 ini_Mod nd_X12_refuse ⟨by decide, by decide⟩ (Nat.le_of_ble_eq_true rfl) (fun r7 h8 => ?_)
  exact S_ireturn g dX12_copy_72 rfl

theorem sX12_copy_p114 {Γ : Cx} {w : Wd} (hw : okM w) (g : Gd Γ cX12_copy 7 "GatePatchModel" (Option.some Jvm.ClassFile.FieldType.int) (rmd 3))   (h : Hp) : Sim Γ w 0 (XX12_copy_p114    h) h 114 [(0, vP 143)] [] := by
  unfold XX12_copy_p114
  refine S_aload_n (kk := 0) g dX12_copy_114 rfl rfl ?_
  refine S_bipush g dX12_copy_115 ⟨by decide, by decide⟩ rfl ?_
  refine S_callVi (As := [vI (-13)]) g dX12_copy_117 (sX12_refuse hw _ _) rfl (at_143 hw) rfl im_X12_refuse se_X12_refuse cw_X12_refuse ml_Mod_356 ini_Mod nd_X12_refuse ⟨by decide, by decide⟩ (Nat.le_of_ble_eq_true rfl) (fun r9 h10 => ?_)
  exact S_ireturn g dX12_copy_120 rfl

theorem sX12_copy_L162 {Γ : Cx} {w : Wd} (hw : okM w) (g : Gd Γ cX12_copy 7 "GatePatchModel" (Option.some Jvm.ClassFile.FieldType.int) (rmd 3))   : ∀ (l3 l4 l5 l6 : Int) (h : Hp), Sim Γ w 0 (XX12_copy_L162  l3 l4 l5 l6 h) h 162 [(0, vP 143), (3, vI l3), (4, vI l4), (5, vI l5), (6, vI l6)] [] := by
  refine S_lup4 (fun l3 l4 l5 l6 => [(0, vP 143), (3, vI l3), (4, vI l4), (5, vI l5), (6, vI l6)]) (fun self162 hs162 l3 l4 l5 l6 h => ?_) FU
  unfold XX12_copy_b162
  refine S_iload (kk := 4) g dX12_copy_162 rfl ?_
  refine S_iload (kk := 3) g dX12_copy_164 rfl ?_
  refine S_icmp_ge (tgt := 198) g dX12_copy_166 (by decide) ?_ ?_
  · refine S_iload (kk := 3) g dX12_copy_198 rfl ?_
    exact S_ireturn g dX12_copy_200 rfl
  · refine S_aload_n (kk := 0) g dX12_copy_169 rfl rfl ?_
    refine S_getr g dX12_copy_170 fl_Mod_111 (at_143 hw) rfl (rc_143_45 hw) ?_
    refine S_sipush g dX12_copy_173 ⟨by decide, by decide⟩ rfl ?_
    refine S_iload_n (kk := 1) g dX12_copy_176 rfl rfl ?_
    refine S_imul g dX12_copy_177 ?_
    refine S_iload (kk := 2) g dX12_copy_178 rfl ?_
    refine S_iadd g dX12_copy_180 ?_
    refine S_iload (kk := 4) g dX12_copy_181 rfl ?_
    refine S_iadd g dX12_copy_183 ?_
    refine S_aload_n (kk := 0) g dX12_copy_184 rfl rfl ?_
    refine S_getr g dX12_copy_185 fl_Mod_199 (at_143 hw) rfl (rc_143_81 hw) ?_
    refine S_iload (kk := 4) g dX12_copy_188 rfl ?_
    refine S_laload g dX12_copy_190 (at_202 hw) ?_
    refine S_lastore g dX12_copy_191 (at_173 hw) (fun h11 => ?_)
    refine S_iinc (kk := 4) g dX12_copy_192 rfl (by decide) rfl ?_
    refine S_goto (tgt := 162) g dX12_copy_195 (by decide) ?_
    refine S_sub g [1, 2, 3, 4, 0] rfl ?_
    exact hs162 _ _ _ _ _

theorem sX12_copy_L124 {Γ : Cx} {w : Wd} (hw : okM w) (g : Gd Γ cX12_copy 7 "GatePatchModel" (Option.some Jvm.ClassFile.FieldType.int) (rmd 3))   : ∀ (l1 l2 l3 l4 l5 l6 : Int) (h : Hp), Sim Γ w 0 (XX12_copy_L124  l1 l2 l3 l4 l5 l6 h) h 124 [(0, vP 143), (1, vI l1), (2, vI l2), (3, vI l3), (4, vI l4), (5, vI l5), (6, vI l6)] [] := by
  refine S_lup6 (fun l1 l2 l3 l4 l5 l6 => [(0, vP 143), (1, vI l1), (2, vI l2), (3, vI l3), (4, vI l4), (5, vI l5), (6, vI l6)]) (fun self124 hs124 l1 l2 l3 l4 l5 l6 h => ?_) FU
  unfold XX12_copy_b124
  refine S_iload (kk := 6) g dX12_copy_124 rfl ?_
  refine S_iload (kk := 5) g dX12_copy_126 rfl ?_
  refine S_icmp_ge (tgt := 159) g dX12_copy_128 (by decide) ?_ ?_
  · refine S_iconst g dX12_copy_159 ⟨by decide, by decide⟩ ?_
    refine S_istore g dX12_copy_160 (by decide) rfl ?_
    refine S_sub g [1, 4, 5, 6, 0] rfl ?_
    exact sX12_copy_L162 hw g _ _ _ _ _
  · refine S_aload_n (kk := 0) g dX12_copy_131 rfl rfl ?_
    refine S_getr g dX12_copy_132 fl_Mod_199 (at_143 hw) rfl (rc_143_81 hw) ?_
    refine S_iload (kk := 6) g dX12_copy_135 rfl ?_
    refine S_aload_n (kk := 0) g dX12_copy_137 rfl rfl ?_
    refine S_getr g dX12_copy_138 fl_Mod_111 (at_143 hw) rfl (rc_143_45 hw) ?_
    refine S_sipush g dX12_copy_141 ⟨by decide, by decide⟩ rfl ?_
    refine S_iload_n (kk := 1) g dX12_copy_144 rfl rfl ?_
    refine S_imul g dX12_copy_145 ?_
    refine S_iload_n (kk := 2) g dX12_copy_146 rfl rfl ?_
    refine S_iadd g dX12_copy_147 ?_
    refine S_iload (kk := 6) g dX12_copy_148 rfl ?_
    refine S_iadd g dX12_copy_150 ?_
    refine S_laload g dX12_copy_151 (at_173 hw) ?_
    refine S_lastore g dX12_copy_152 (at_202 hw) (fun h12 => ?_)
    refine S_iinc (kk := 6) g dX12_copy_153 rfl (by decide) rfl ?_
    refine S_goto (tgt := 124) g dX12_copy_156 (by decide) ?_
    refine S_sub g [1, 2, 3, 4, 5, 6, 0] rfl ?_
    exact hs124 _ _ _ _ _ _ _

theorem sX12_copy {G : GG} {w : Wd} (hw : okM w) (x0 : Int) (x1 : Int) (x2 : Int) (x3 : Int) (x4 : Int) (h : Hp) : SC G w yX12_copy (Cond.code yX12_copy cX12_copy 7 (Option.some Jvm.ClassFile.FieldType.int)) 3 0 [vP 143, vI x0, vI x1, vI x2, vI x3, vI x4] (XX12_copy x0 x1 x2 x3 x4 h) h := by
  refine SC_of (own := "GatePatchModel") plain_Mod rfl (Nat.le_of_ble_eq_true rfl) (fun Γ hG g => ?_)
  subst hG
  show Sim Γ w 0 _ h 0 [(0, vP 143), (1, vI x0), (2, vI x1), (3, vI x2), (4, vI x3), (5, vI x4)] []
  unfold XX12_copy
  refine S_iload_n (kk := 1) g dX12_copy_0 rfl rfl ?_
  refine S_callSi (As := [vI x0]) g dX12_copy_1 (sX12_isTape hw _ _) rfl st_X12_isTape cw_X12_isTape ml_Mod_353 ini_Mod nd_X12_isTape ⟨by decide, by decide⟩ (Nat.le_of_ble_eq_true rfl) (fun r1 h2 => ?_)
  refine S_if_eq (tgt := 14) g dX12_copy_4 (by decide) ?_ ?_
  · refine S_iconst g dX12_copy_14 ⟨by decide, by decide⟩ ?_
    exact S_ireturn g dX12_copy_15 rfl
  · refine S_iload_n (kk := 3) g dX12_copy_7 rfl rfl ?_
    refine S_callSi (As := [vI x2]) g dX12_copy_8 (sX12_isTape hw _ _) rfl st_X12_isTape cw_X12_isTape ml_Mod_353 ini_Mod nd_X12_isTape ⟨by decide, by decide⟩ (Nat.le_of_ble_eq_true rfl) (fun r3 h4 => ?_)
    refine S_if_ne (tgt := 16) g dX12_copy_11 (by decide) ?_ ?_
    · refine S_aload_n (kk := 0) g dX12_copy_16 rfl rfl ?_
      refine S_getr g dX12_copy_17 fl_Mod_105 (at_143 hw) rfl (rc_143_43 hw) ?_
      refine S_iload_n (kk := 1) g dX12_copy_20 rfl rfl ?_
      refine S_iaload g dX12_copy_21 (at_171 hw) ?_
      refine S_if_eq (tgt := 34) g dX12_copy_22 (by decide) ?_ ?_
      · refine S_sub g [0] rfl ?_
        exact sX12_copy_p34 hw g _
      · refine S_aload_n (kk := 0) g dX12_copy_25 rfl rfl ?_
        refine S_getr g dX12_copy_26 fl_Mod_105 (at_143 hw) rfl (rc_143_43 hw) ?_
        refine S_iload_n (kk := 3) g dX12_copy_29 rfl rfl ?_
        refine S_iaload g dX12_copy_30 (at_171 hw) ?_
        refine S_if_ne (tgt := 41) g dX12_copy_31 (by decide) ?_ ?_
        · refine S_aload_n (kk := 0) g dX12_copy_41 rfl rfl ?_
          refine S_getr g dX12_copy_42 fl_Mod_105 (at_143 hw) rfl (rc_143_43 hw) ?_
          refine S_iload_n (kk := 1) g dX12_copy_45 rfl rfl ?_
          refine S_iaload g dX12_copy_46 (at_171 hw) ?_
          refine S_iconst g dX12_copy_47 ⟨by decide, by decide⟩ ?_
          refine S_icmp_eq (tgt := 66) g dX12_copy_48 (by decide) ?_ ?_
          · refine S_sub g [0] rfl ?_
            exact sX12_copy_p66 hw g _
          · refine S_aload_n (kk := 0) g dX12_copy_51 rfl rfl ?_
            refine S_getr g dX12_copy_52 fl_Mod_105 (at_143 hw) rfl (rc_143_43 hw) ?_
            refine S_iload_n (kk := 1) g dX12_copy_55 rfl rfl ?_
            refine S_iaload g dX12_copy_56 (at_171 hw) ?_
            refine S_aload_n (kk := 0) g dX12_copy_57 rfl rfl ?_
            refine S_getr g dX12_copy_58 fl_Mod_105 (at_143 hw) rfl (rc_143_43 hw) ?_
            refine S_iload_n (kk := 3) g dX12_copy_61 rfl rfl ?_
            refine S_iaload g dX12_copy_62 (at_171 hw) ?_
            refine S_icmp_eq (tgt := 73) g dX12_copy_63 (by decide) ?_ ?_
            · refine S_iload (kk := 5) g dX12_copy_73 rfl ?_
              refine S_if_lt (tgt := 114) g dX12_copy_75 (by decide) ?_ ?_
              · refine S_sub g [0] rfl ?_
                exact sX12_copy_p114 hw g _
              · refine S_iload_n (kk := 2) g dX12_copy_78 rfl rfl ?_
                refine S_if_lt (tgt := 114) g dX12_copy_79 (by decide) ?_ ?_
                · refine S_sub g [0] rfl ?_
                  exact sX12_copy_p114 hw g _
                · refine S_iload (kk := 4) g dX12_copy_82 rfl ?_
                  refine S_if_lt (tgt := 114) g dX12_copy_84 (by decide) ?_ ?_
                  · refine S_sub g [0] rfl ?_
                    exact sX12_copy_p114 hw g _
                  · refine S_iload (kk := 5) g dX12_copy_87 rfl ?_
                    refine S_aload_n (kk := 0) g dX12_copy_89 rfl rfl ?_
                    refine S_getr g dX12_copy_90 fl_Mod_108 (at_143 hw) rfl (rc_143_44 hw) ?_
                    refine S_iload_n (kk := 1) g dX12_copy_93 rfl rfl ?_
                    refine S_iaload g dX12_copy_94 (at_172 hw) ?_
                    refine S_iload_n (kk := 2) g dX12_copy_95 rfl rfl ?_
                    refine S_isub g dX12_copy_96 ?_
                    refine S_icmp_gt (tgt := 114) g dX12_copy_97 (by decide) ?_ ?_
                    · refine S_sub g [0] rfl ?_
                      exact sX12_copy_p114 hw g _
                    · refine S_iload (kk := 5) g dX12_copy_100 rfl ?_
                      refine S_aload_n (kk := 0) g dX12_copy_102 rfl rfl ?_
                      refine S_getr g dX12_copy_103 fl_Mod_108 (at_143 hw) rfl (rc_143_44 hw) ?_
                      refine S_iload_n (kk := 3) g dX12_copy_106 rfl rfl ?_
                      refine S_iaload g dX12_copy_107 (at_172 hw) ?_
                      refine S_iload (kk := 4) g dX12_copy_108 rfl ?_
                      refine S_isub g dX12_copy_110 ?_
                      refine S_icmp_le (tgt := 121) g dX12_copy_111 (by decide) ?_ ?_
                      · refine S_iconst g dX12_copy_121 ⟨by decide, by decide⟩ ?_
                        refine S_istore g dX12_copy_122 (by decide) rfl ?_
                        refine S_sub g [1, 2, 3, 4, 5, 6, 0] rfl ?_
                        exact sX12_copy_L124 hw g _ _ _ _ _ _ _
                      · refine S_sub g [0] rfl ?_
                        exact sX12_copy_p114 hw g _
            · refine S_sub g [0] rfl ?_
              exact sX12_copy_p66 hw g _
        · refine S_sub g [0] rfl ?_
          exact sX12_copy_p34 hw g _
    · refine S_iconst g dX12_copy_14 ⟨by decide, by decide⟩ ?_
      exact S_ireturn g dX12_copy_15 rfl

def XX12_count_p114  (self91 : Int → Int → Hp → OR) (l3 : Int) (s0 s1 : Int) (h : Hp) : OR :=
  chk (s0 + s1) (nm (s0 + s1) (fun v8 => chk (l3 + 1) (self91 v8 (l3 + 1) h)))
def XX12_count_b91   (self91 : Int → Int → Hp → OR) (l2 l3 : Int) (h : Hp) : OR :=
  cal (XX12_cases h) (fun r6 h7 => if r6 ≤ l3 then some (l2, h7) else inb l3 256 (if (h7 149 l3.toNat) = 0 then XX12_count_p114 self91 l3 l2 0 h7 else XX12_count_p114 self91 l3 l2 1 h7))
def XX12_count_L91   (l2 l3 : Int) (h : Hp) : OR := lup2 (XX12_count_b91 ) FU l2 l3 h
def XX12_count (x0 : Int) (h : Hp) : OR :=
  if x0 = 0 then some ((h 143 1), h) else if x0 = 1 then some ((h 143 2), h) else if x0 = 2 then some ((h 143 3), h) else if x0 = 3 then inb 0 2 (some ((h 144 (0 : Int).toNat), h)) else if x0 = 4 then inb 1 2 (some ((h 144 (1 : Int).toNat), h)) else if x0 = 5 then XX12_count_L91 0 0 h else if x0 = 6 then some ((h 143 12), h) else if x0 = 7 then some ((h 143 36), h) else if x0 = 8 then some ((h 143 37), h) else if x0 = 9 then some ((h 143 38), h) else if x0 = 10 then some ((h 143 57), h) else some ((-1), h)
theorem sX12_count_p114 {Γ : Cx} {w : Wd} (hw : okM w) (g : Gd Γ cX12_count 4 "GatePatchModel" (Option.some Jvm.ClassFile.FieldType.int) (rmd 3))  (self91 : Int → Int → Hp → OR) (hs91 : ∀ (x0 x1 : Int) (h : Hp), Sim Γ w 0 (self91 x0 x1 h) h 91 [(0, vP 143), (2, vI x0), (3, vI x1)] []) (l3 : Int) (s0 s1 : Int) (h : Hp) : Sim Γ w 0 (XX12_count_p114 self91 l3 s0 s1 h) h 114 [(0, vP 143), (3, vI l3)] [vI s1, vI s0] := by
  unfold XX12_count_p114
  refine S_iadd g dX12_count_114 ?_
  refine S_nmI (fun v8 => ?_)
  refine S_istore_n g dX12_count_115 rfl (by decide) rfl ?_
  refine S_iinc (kk := 2) g dX12_count_116 rfl (by decide) rfl ?_
  refine S_goto (tgt := 91) g dX12_count_119 (by decide) ?_
  refine S_sub g [2, 1, 0] rfl ?_
  exact hs91 _ _ _

theorem sX12_count_L91 {Γ : Cx} {w : Wd} (hw : okM w) (g : Gd Γ cX12_count 4 "GatePatchModel" (Option.some Jvm.ClassFile.FieldType.int) (rmd 3))   : ∀ (l2 l3 : Int) (h : Hp), Sim Γ w 0 (XX12_count_L91  l2 l3 h) h 91 [(0, vP 143), (2, vI l2), (3, vI l3)] [] := by
  refine S_lup2 (fun l2 l3 => [(0, vP 143), (2, vI l2), (3, vI l3)]) (fun self91 hs91 l2 l3 h => ?_) FU
  unfold XX12_count_b91
  refine S_iload_n (kk := 2) g dX12_count_91 rfl rfl ?_
  refine S_aload_n (kk := 0) g dX12_count_92 rfl rfl ?_
  refine S_callVi (As := []) g dX12_count_93 (sX12_cases hw  _) rfl (at_143 hw) rfl im_X12_cases se_X12_cases cw_X12_cases ml_Mod_242 ini_Mod nd_X12_cases ⟨by decide, by decide⟩ (Nat.le_of_ble_eq_true rfl) (fun r6 h7 => ?_)
  refine S_icmp_ge (tgt := 122) g dX12_count_96 (by decide) ?_ ?_
  · refine S_iload_n (kk := 1) g dX12_count_122 rfl rfl ?_
    exact S_ireturn g dX12_count_123 rfl
  · refine S_iload_n (kk := 1) g dX12_count_99 rfl rfl ?_
    refine S_aload_n (kk := 0) g dX12_count_100 rfl rfl ?_
    refine S_getr g dX12_count_101 fl_Mod_32 (at_143 hw) rfl (rc_143_9 hw) ?_
    refine S_iload_n (kk := 2) g dX12_count_104 rfl rfl ?_
    refine S_zaload g dX12_count_105 (at_149 hw) ?_
    refine S_if_eq (tgt := 113) g dX12_count_106 (by decide) ?_ ?_
    · refine S_iconst g dX12_count_113 ⟨by decide, by decide⟩ ?_
      refine S_sub g [0, 2] rfl ?_
      exact sX12_count_p114 hw g self91 hs91 _ _ _ _
    · refine S_iconst g dX12_count_109 ⟨by decide, by decide⟩ ?_
      refine S_goto (tgt := 114) g dX12_count_110 (by decide) ?_
      refine S_sub g [0, 2] rfl ?_
      exact sX12_count_p114 hw g self91 hs91 _ _ _ _

theorem sX12_count {G : GG} {w : Wd} (hw : okM w) (x0 : Int) (h : Hp) : SC G w yX12_count (Cond.code yX12_count cX12_count 4 (Option.some Jvm.ClassFile.FieldType.int)) 3 0 [vP 143, vI x0] (XX12_count x0 h) h := by
  refine SC_of (own := "GatePatchModel") plain_Mod rfl (Nat.le_of_ble_eq_true rfl) (fun Γ hG g => ?_)
  subst hG
  show Sim Γ w 0 _ h 0 [(0, vP 143), (1, vI x0)] []
  unfold XX12_count
  refine S_iconst g dX12_count_0 ⟨by decide, by decide⟩ ?_
  refine S_istore_n g dX12_count_1 rfl (by decide) rfl ?_
  refine S_iload_n (kk := 2) g dX12_count_2 rfl rfl ?_
  refine S_ite (fun c1 => ?_) (fun c1 => ?_)
  · refine S_tabIn (tgt := 60) g dX12_count_3 0 c1 (by decide) (by decide) rfl (by decide) ?_
    refine S_aload_n (kk := 1) g dX12_count_60 rfl rfl ?_
    refine S_geti g dX12_count_61 fl_Mod_7 (at_143 hw) (Or.inl rfl) ?_
    exact S_ireturn g dX12_count_64 rfl
  · skip
    refine S_ite (fun c2 => ?_) (fun c2 => ?_)
    · refine S_tabIn (tgt := 65) g dX12_count_3 1 c2 (by decide) (by decide) rfl (by decide) ?_
      refine S_aload_n (kk := 1) g dX12_count_65 rfl rfl ?_
      refine S_geti g dX12_count_66 fl_Mod_205 (at_143 hw) (Or.inl rfl) ?_
      exact S_ireturn g dX12_count_69 rfl
    · skip
      refine S_ite (fun c3 => ?_) (fun c3 => ?_)
      · refine S_tabIn (tgt := 70) g dX12_count_3 2 c3 (by decide) (by decide) rfl (by decide) ?_
        refine S_aload_n (kk := 1) g dX12_count_70 rfl rfl ?_
        refine S_geti g dX12_count_71 fl_Mod_13 (at_143 hw) (Or.inl rfl) ?_
        exact S_ireturn g dX12_count_74 rfl
      · skip
        refine S_ite (fun c4 => ?_) (fun c4 => ?_)
        · refine S_tabIn (tgt := 75) g dX12_count_3 3 c4 (by decide) (by decide) rfl (by decide) ?_
          refine S_aload_n (kk := 1) g dX12_count_75 rfl rfl ?_
          refine S_getr g dX12_count_76 fl_Mod_16 (at_143 hw) rfl (rc_143_4 hw) ?_
          refine S_iconst g dX12_count_79 ⟨by decide, by decide⟩ ?_
          refine S_iaload g dX12_count_80 (at_144 hw) ?_
          exact S_ireturn g dX12_count_81 rfl
        · skip
          refine S_ite (fun c5 => ?_) (fun c5 => ?_)
          · refine S_tabIn (tgt := 82) g dX12_count_3 4 c5 (by decide) (by decide) rfl (by decide) ?_
            refine S_aload_n (kk := 1) g dX12_count_82 rfl rfl ?_
            refine S_getr g dX12_count_83 fl_Mod_16 (at_143 hw) rfl (rc_143_4 hw) ?_
            refine S_iconst g dX12_count_86 ⟨by decide, by decide⟩ ?_
            refine S_iaload g dX12_count_87 (at_144 hw) ?_
            exact S_ireturn g dX12_count_88 rfl
          · skip
            refine S_ite (fun c9 => ?_) (fun c9 => ?_)
            · refine S_tabIn (tgt := 89) g dX12_count_3 5 c9 (by decide) (by decide) rfl (by decide) ?_
              refine S_iconst g dX12_count_89 ⟨by decide, by decide⟩ ?_
              refine S_istore_n g dX12_count_90 rfl (by decide) rfl ?_
              refine S_sub g [2, 1, 0] rfl ?_
              exact sX12_count_L91 hw g _ _ _
            · skip
              refine S_ite (fun c10 => ?_) (fun c10 => ?_)
              · refine S_tabIn (tgt := 124) g dX12_count_3 6 c10 (by decide) (by decide) rfl (by decide) ?_
                refine S_aload_n (kk := 1) g dX12_count_124 rfl rfl ?_
                refine S_geti g dX12_count_125 fl_Mod_223 (at_143 hw) (Or.inl rfl) ?_
                exact S_ireturn g dX12_count_128 rfl
              · skip
                refine S_ite (fun c11 => ?_) (fun c11 => ?_)
                · refine S_tabIn (tgt := 129) g dX12_count_3 7 c11 (by decide) (by decide) rfl (by decide) ?_
                  refine S_aload_n (kk := 1) g dX12_count_129 rfl rfl ?_
                  refine S_geti g dX12_count_130 fl_Mod_233 (at_143 hw) (Or.inl rfl) ?_
                  exact S_ireturn g dX12_count_133 rfl
                · skip
                  refine S_ite (fun c12 => ?_) (fun c12 => ?_)
                  · refine S_tabIn (tgt := 134) g dX12_count_3 8 c12 (by decide) (by decide) rfl (by decide) ?_
                    refine S_aload_n (kk := 1) g dX12_count_134 rfl rfl ?_
                    refine S_geti g dX12_count_135 fl_Mod_236 (at_143 hw) (Or.inl rfl) ?_
                    exact S_ireturn g dX12_count_138 rfl
                  · skip
                    refine S_ite (fun c13 => ?_) (fun c13 => ?_)
                    · refine S_tabIn (tgt := 139) g dX12_count_3 9 c13 (by decide) (by decide) rfl (by decide) ?_
                      refine S_aload_n (kk := 1) g dX12_count_139 rfl rfl ?_
                      refine S_geti g dX12_count_140 fl_Mod_239 (at_143 hw) (Or.inl rfl) ?_
                      exact S_ireturn g dX12_count_143 rfl
                    · skip
                      refine S_ite (fun c14 => ?_) (fun c14 => ?_)
                      · refine S_tabIn (tgt := 144) g dX12_count_3 10 c14 (by decide) (by decide) rfl (by decide) ?_
                        refine S_aload_n (kk := 1) g dX12_count_144 rfl rfl ?_
                        refine S_geti g dX12_count_145 fl_Mod_220 (at_143 hw) (Or.inl rfl) ?_
                        exact S_ireturn g dX12_count_148 rfl
                      · skip
                        refine S_tabOut (tgt := 149) g dX12_count_3 (by omega) (by decide) ?_
                        refine S_iconst g dX12_count_149 ⟨by decide, by decide⟩ ?_
                        exact S_ireturn g dX12_count_150 rfl

