abbrev cX12_thrown : ByteArray := prog_14_method_2_code
def yX12_thrown : MethodName := ⟨"GatePatchModel", "thrown", "()I"⟩
abbrev cX12_in : ByteArray := prog_14_method_3_code
def yX12_in : MethodName := ⟨"GatePatchModel", "in", "(III)Z"⟩
abbrev cX12_begun : ByteArray := prog_14_method_4_code
def yX12_begun : MethodName := ⟨"GatePatchModel", "begun", "()I"⟩
abbrev cX12_cases : ByteArray := prog_14_method_5_code
def yX12_cases : MethodName := ⟨"GatePatchModel", "cases", "()I"⟩
abbrev cX12_isNet : ByteArray := prog_14_method_6_code
def yX12_isNet : MethodName := ⟨"GatePatchModel", "isNet", "(I)Z"⟩
abbrev cX12_wires : ByteArray := prog_14_method_7_code
def yX12_wires : MethodName := ⟨"GatePatchModel", "wires", "(I)I"⟩
abbrev cX12_isWire : ByteArray := prog_14_method_8_code
def yX12_isWire : MethodName := ⟨"GatePatchModel", "isWire", "(II)Z"⟩
abbrev cX12_isGate : ByteArray := prog_14_method_9_code
def yX12_isGate : MethodName := ⟨"GatePatchModel", "isGate", "(II)Z"⟩
abbrev cX12_pinsOf : ByteArray := prog_14_method_10_code
def yX12_pinsOf : MethodName := ⟨"GatePatchModel", "pinsOf", "(I)I"⟩
abbrev cX12_refuse : ByteArray := prog_14_method_11_code
def yX12_refuse : MethodName := ⟨"GatePatchModel", "refuse", "(I)I"⟩
abbrev cX12_begin : ByteArray := prog_14_method_12_code
def yX12_begin : MethodName := ⟨"GatePatchModel", "begin", "(III)I"⟩
abbrev cX12_changed : ByteArray := prog_14_method_13_code
def yX12_changed : MethodName := ⟨"GatePatchModel", "changed", "(I)V"⟩
abbrev cX12_makes : ByteArray := prog_14_method_14_code
def yX12_makes : MethodName := ⟨"GatePatchModel", "makes", "(IIIII)V"⟩
abbrev cX12_fits : ByteArray := prog_14_method_15_code
def yX12_fits : MethodName := ⟨"GatePatchModel", "fits", "(IZI)Z"⟩
abbrev cX12_gate : ByteArray := prog_14_method_16_code
def yX12_gate : MethodName := ⟨"GatePatchModel", "gate", "(IIIII)I"⟩
abbrev cX12_looks : ByteArray := prog_14_method_22_code
def yX12_looks : MethodName := ⟨"GatePatchModel", "looks", "(II)V"⟩
abbrev cX12_doesHang : ByteArray := prog_14_method_23_code
def yX12_doesHang : MethodName := ⟨"GatePatchModel", "doesHang", "(III)Z"⟩
abbrev cX12_rewire : ByteArray := prog_14_method_17_code
def yX12_rewire : MethodName := ⟨"GatePatchModel", "rewire", "(IIII)I"⟩
abbrev cX12_out : ByteArray := prog_14_method_18_code
def yX12_out : MethodName := ⟨"GatePatchModel", "out", "(III)I"⟩
abbrev cX12_next : ByteArray := prog_14_method_19_code
def yX12_next : MethodName := ⟨"GatePatchModel", "next", "(III)I"⟩
abbrev cX12_isCase : ByteArray := prog_14_method_20_code
def yX12_isCase : MethodName := ⟨"GatePatchModel", "isCase", "(I)Z"⟩
abbrev cX12_free : ByteArray := prog_14_method_21_code
def yX12_free : MethodName := ⟨"GatePatchModel", "free", "(I)I"⟩
abbrev cX12_hangs : ByteArray := prog_14_method_24_code
def yX12_hangs : MethodName := ⟨"GatePatchModel", "hangs", "(III)I"⟩
abbrev cX12_sorts : ByteArray := prog_14_method_25_code
def yX12_sorts : MethodName := ⟨"GatePatchModel", "sorts", "(I)V"⟩
abbrev cX12_inputWord : ByteArray := prog_14_method_26_code
def yX12_inputWord : MethodName := ⟨"GatePatchModel", "inputWord", "(II)J"⟩
abbrev cX12_two : ByteArray := prog_14_method_27_code
def yX12_two : MethodName := ⟨"GatePatchModel", "two", "(IJJ)J"⟩
abbrev cX12_worked : ByteArray := prog_14_method_28_code
def yX12_worked : MethodName := ⟨"GatePatchModel", "worked", "(III)J"⟩
abbrev cX12_begins : ByteArray := prog_14_method_29_code
def yX12_begins : MethodName := ⟨"GatePatchModel", "begins", "(I)V"⟩
abbrev cX12_works : ByteArray := prog_14_method_30_code
def yX12_works : MethodName := ⟨"GatePatchModel", "works", "(I)V"⟩
abbrev cX12_knows : ByteArray := prog_14_method_31_code
def yX12_knows : MethodName := ⟨"GatePatchModel", "knows", "(I)V"⟩
abbrev cX12_isAt : ByteArray := prog_14_method_32_code
def yX12_isAt : MethodName := ⟨"GatePatchModel", "isAt", "(III)Z"⟩
abbrev cX12_value : ByteArray := prog_14_method_33_code
def yX12_value : MethodName := ⟨"GatePatchModel", "value", "(III)I"⟩
abbrev cX12_row : ByteArray := prog_14_method_34_code
def yX12_row : MethodName := ⟨"GatePatchModel", "row", "(III)J"⟩
abbrev cX12_observed : ByteArray := prog_14_method_35_code
def yX12_observed : MethodName := ⟨"GatePatchModel", "observed", "()I"⟩
abbrev cX12_seen : ByteArray := prog_14_method_36_code
def yX12_seen : MethodName := ⟨"GatePatchModel", "seen", "(II)I"⟩
abbrev cX12_areOne : ByteArray := prog_14_method_37_code
def yX12_areOne : MethodName := ⟨"GatePatchModel", "areOne", "(I)Z"⟩
abbrev cX12_differ : ByteArray := prog_14_method_38_code
def yX12_differ : MethodName := ⟨"GatePatchModel", "differ", "()I"⟩
abbrev cX12_arePoints : ByteArray := prog_14_method_39_code
def yX12_arePoints : MethodName := ⟨"GatePatchModel", "arePoints", "(III)I"⟩
abbrev cX12_mendings : ByteArray := prog_14_method_40_code
def yX12_mendings : MethodName := ⟨"GatePatchModel", "mendings", "(IIII)V"⟩
abbrev cX12_prepares : ByteArray := prog_14_method_41_code
def yX12_prepares : MethodName := ⟨"GatePatchModel", "prepares", "()V"⟩
theorem fl_Mod_202 : FL "GatePatchModel" 202 11 0 := ⟨R_Mod, T_Mod, 82, ty_Mod, ci_Mod, by decide, mem_t 1334 (by decide +kernel) rfl⟩
theorem plain_Mod : plainName "GatePatchModel" = true := by decide +kernel
theorem fl_Mod_7 : FL "GatePatchModel" 7 11 1 := ⟨R_Mod, T_Mod, 82, ty_Mod, ci_Mod, by decide, mem_t 1335 (by decide +kernel) rfl⟩
theorem fl_Mod_205 : FL "GatePatchModel" 205 11 2 := ⟨R_Mod, T_Mod, 82, ty_Mod, ci_Mod, by decide, mem_t 1336 (by decide +kernel) rfl⟩
theorem ml_Mod_208 : Cond.methodLink "GatePatchModel" 208 yX12_begun ∈ tblG := mem_t 1597 (by decide +kernel) rfl
theorem im_X12_begun : Cond.instanceMethod yX12_begun ∈ tblG := mem_t 1599 (by decide +kernel) rfl
theorem se_X12_begun : Cond.selects "GatePatchModel" yX12_begun yX12_begun ∈ tblG := mem_s 40 (by decide +kernel) rfl
theorem cw_X12_begun : Cond.code yX12_begun cX12_begun 1 (Option.some Jvm.ClassFile.FieldType.int) ∈ tblG := mem_t 1600 (by decide +kernel) rfl
theorem ini_Mod : Cond.initialized "GatePatchModel" ∈ tblG := mem_t 14 (by decide +kernel) rfl
theorem nd_X12_begun : yX12_begun.cls ≠ "java/lang/invoke/MethodHandle" ∧ yX12_begun.cls ≠ "java/lang/invoke/VarHandle" ∧ (parseMethodDescriptor yX12_begun.desc).map (fun d => d.parameters.length) = some 0 := by decide +kernel
theorem ml_Mod_212 : Cond.methodLink "GatePatchModel" 212 yX12_in ∈ tblG := mem_t 1590 (by decide +kernel) rfl
theorem st_X12_in : Cond.static yX12_in ∈ tblG := mem_t 1591 (by decide +kernel) rfl
theorem cw_X12_in : Cond.code yX12_in cX12_in 3 (Option.some Jvm.ClassFile.FieldType.boolean) ∈ tblG := mem_t 1592 (by decide +kernel) rfl
theorem nd_X12_in : yX12_in.cls ≠ "java/lang/invoke/MethodHandle" ∧ yX12_in.cls ≠ "java/lang/invoke/VarHandle" ∧ (parseMethodDescriptor yX12_in.desc).map (fun d => d.parameters.length) = some 3 := by decide +kernel
theorem fl_Mod_16 : FL "GatePatchModel" 16 11 4 := ⟨R_Mod, T_Mod, 82, ty_Mod, ci_Mod, by decide, mem_t 1338 (by decide +kernel) rfl⟩
theorem ml_Mod_216 : Cond.methodLink "GatePatchModel" 216 yX12_wires ∈ tblG := mem_t 1619 (by decide +kernel) rfl
theorem im_X12_wires : Cond.instanceMethod yX12_wires ∈ tblG := mem_t 1621 (by decide +kernel) rfl
theorem se_X12_wires : Cond.selects "GatePatchModel" yX12_wires yX12_wires ∈ tblG := mem_s 43 (by decide +kernel) rfl
theorem cw_X12_wires : Cond.code yX12_wires cX12_wires 2 (Option.some Jvm.ClassFile.FieldType.int) ∈ tblG := mem_t 1622 (by decide +kernel) rfl
theorem nd_X12_wires : yX12_wires.cls ≠ "java/lang/invoke/MethodHandle" ∧ yX12_wires.cls ≠ "java/lang/invoke/VarHandle" ∧ (parseMethodDescriptor yX12_wires.desc).map (fun d => d.parameters.length) = some 1 := by decide +kernel
theorem fl_Mod_220 : FL "GatePatchModel" 220 11 57 := ⟨R_Mod, T_Mod, 82, ty_Mod, ci_Mod, by decide, mem_t 1391 (by decide +kernel) rfl⟩
theorem fp_Mod_220 : FP "GatePatchModel" 220 11 57 .int := ⟨R_Mod, T_Mod, 82, ty_Mod, ci_Mod, by decide, mem_t 1391 (by decide +kernel) rfl, rfl, rfl⟩
theorem fp_Mod_7 : FP "GatePatchModel" 7 11 1 .int := ⟨R_Mod, T_Mod, 82, ty_Mod, ci_Mod, by decide, mem_t 1335 (by decide +kernel) rfl, rfl, rfl⟩
theorem fp_Mod_205 : FP "GatePatchModel" 205 11 2 .int := ⟨R_Mod, T_Mod, 82, ty_Mod, ci_Mod, by decide, mem_t 1336 (by decide +kernel) rfl, rfl, rfl⟩
theorem fp_Mod_13 : FP "GatePatchModel" 13 11 3 .int := ⟨R_Mod, T_Mod, 82, ty_Mod, ci_Mod, by decide, mem_t 1337 (by decide +kernel) rfl, rfl, rfl⟩
theorem fp_Mod_223 : FP "GatePatchModel" 223 11 12 .int := ⟨R_Mod, T_Mod, 82, ty_Mod, ci_Mod, by decide, mem_t 1346 (by decide +kernel) rfl, rfl, rfl⟩
theorem fp_Mod_226 : FP "GatePatchModel" 226 11 19 .int := ⟨R_Mod, T_Mod, 82, ty_Mod, ci_Mod, by decide, mem_t 1353 (by decide +kernel) rfl, rfl, rfl⟩
theorem fp_Mod_63 : FP "GatePatchModel" 63 11 21 .int := ⟨R_Mod, T_Mod, 82, ty_Mod, ci_Mod, by decide, mem_t 1355 (by decide +kernel) rfl, rfl, rfl⟩
theorem fp_Mod_66 : FP "GatePatchModel" 66 11 22 .int := ⟨R_Mod, T_Mod, 82, ty_Mod, ci_Mod, by decide, mem_t 1356 (by decide +kernel) rfl, rfl, rfl⟩
theorem fp_Mod_229 : FP "GatePatchModel" 229 11 23 .boolean := ⟨R_Mod, T_Mod, 82, ty_Mod, ci_Mod, by decide, mem_t 1357 (by decide +kernel) rfl, rfl, rfl⟩
theorem fp_Mod_233 : FP "GatePatchModel" 233 11 36 .int := ⟨R_Mod, T_Mod, 82, ty_Mod, ci_Mod, by decide, mem_t 1370 (by decide +kernel) rfl, rfl, rfl⟩
theorem fp_Mod_236 : FP "GatePatchModel" 236 11 37 .int := ⟨R_Mod, T_Mod, 82, ty_Mod, ci_Mod, by decide, mem_t 1371 (by decide +kernel) rfl, rfl, rfl⟩
theorem fp_Mod_239 : FP "GatePatchModel" 239 11 38 .int := ⟨R_Mod, T_Mod, 82, ty_Mod, ci_Mod, by decide, mem_t 1372 (by decide +kernel) rfl, rfl, rfl⟩
theorem ml_Mod_242 : Cond.methodLink "GatePatchModel" 242 yX12_cases ∈ tblG := mem_t 1593 (by decide +kernel) rfl
theorem im_X12_cases : Cond.instanceMethod yX12_cases ∈ tblG := mem_t 1595 (by decide +kernel) rfl
theorem se_X12_cases : Cond.selects "GatePatchModel" yX12_cases yX12_cases ∈ tblG := mem_s 39 (by decide +kernel) rfl
theorem cw_X12_cases : Cond.code yX12_cases cX12_cases 1 (Option.some Jvm.ClassFile.FieldType.int) ∈ tblG := mem_t 1596 (by decide +kernel) rfl
theorem nd_X12_cases : yX12_cases.cls ≠ "java/lang/invoke/MethodHandle" ∧ yX12_cases.cls ≠ "java/lang/invoke/VarHandle" ∧ (parseMethodDescriptor yX12_cases.desc).map (fun d => d.parameters.length) = some 0 := by decide +kernel
theorem fl_Mod_54 : FL "GatePatchModel" 54 11 17 := ⟨R_Mod, T_Mod, 82, ty_Mod, ci_Mod, by decide, mem_t 1351 (by decide +kernel) rfl⟩
theorem fl_Mod_36 : FL "GatePatchModel" 36 11 10 := ⟨R_Mod, T_Mod, 82, ty_Mod, ci_Mod, by decide, mem_t 1344 (by decide +kernel) rfl⟩
theorem fl_Mod_39 : FL "GatePatchModel" 39 11 11 := ⟨R_Mod, T_Mod, 82, ty_Mod, ci_Mod, by decide, mem_t 1345 (by decide +kernel) rfl⟩
theorem fl_Mod_57 : FL "GatePatchModel" 57 11 18 := ⟨R_Mod, T_Mod, 82, ty_Mod, ci_Mod, by decide, mem_t 1352 (by decide +kernel) rfl⟩
theorem fl_Mod_32 : FL "GatePatchModel" 32 11 9 := ⟨R_Mod, T_Mod, 82, ty_Mod, ci_Mod, by decide, mem_t 1343 (by decide +kernel) rfl⟩
theorem fl_Mod_29 : FL "GatePatchModel" 29 11 8 := ⟨R_Mod, T_Mod, 82, ty_Mod, ci_Mod, by decide, mem_t 1342 (by decide +kernel) rfl⟩
theorem fl_Mod_26 : FL "GatePatchModel" 26 11 7 := ⟨R_Mod, T_Mod, 82, ty_Mod, ci_Mod, by decide, mem_t 1341 (by decide +kernel) rfl⟩
theorem fl_Mod_233 : FL "GatePatchModel" 233 11 36 := ⟨R_Mod, T_Mod, 82, ty_Mod, ci_Mod, by decide, mem_t 1370 (by decide +kernel) rfl⟩
theorem fl_Mod_20 : FL "GatePatchModel" 20 11 5 := ⟨R_Mod, T_Mod, 82, ty_Mod, ci_Mod, by decide, mem_t 1339 (by decide +kernel) rfl⟩
theorem fl_Mod_23 : FL "GatePatchModel" 23 11 6 := ⟨R_Mod, T_Mod, 82, ty_Mod, ci_Mod, by decide, mem_t 1340 (by decide +kernel) rfl⟩
theorem ml_Mod_245 : Cond.methodLink "GatePatchModel" 245 yX12_isWire ∈ tblG := mem_t 1615 (by decide +kernel) rfl
theorem im_X12_isWire : Cond.instanceMethod yX12_isWire ∈ tblG := mem_t 1617 (by decide +kernel) rfl
theorem se_X12_isWire : Cond.selects "GatePatchModel" yX12_isWire yX12_isWire ∈ tblG := mem_s 42 (by decide +kernel) rfl
theorem cw_X12_isWire : Cond.code yX12_isWire cX12_isWire 3 (Option.some Jvm.ClassFile.FieldType.boolean) ∈ tblG := mem_t 1618 (by decide +kernel) rfl
theorem nd_X12_isWire : yX12_isWire.cls ≠ "java/lang/invoke/MethodHandle" ∧ yX12_isWire.cls ≠ "java/lang/invoke/VarHandle" ∧ (parseMethodDescriptor yX12_isWire.desc).map (fun d => d.parameters.length) = some 2 := by decide +kernel
theorem ml_Mod_249 : Cond.methodLink "GatePatchModel" 249 yX12_isNet ∈ tblG := mem_t 1605 (by decide +kernel) rfl
theorem st_X12_isNet : Cond.static yX12_isNet ∈ tblG := mem_t 1606 (by decide +kernel) rfl
theorem cw_X12_isNet : Cond.code yX12_isNet cX12_isNet 1 (Option.some Jvm.ClassFile.FieldType.boolean) ∈ tblG := mem_t 1607 (by decide +kernel) rfl
theorem nd_X12_isNet : yX12_isNet.cls ≠ "java/lang/invoke/MethodHandle" ∧ yX12_isNet.cls ≠ "java/lang/invoke/VarHandle" ∧ (parseMethodDescriptor yX12_isNet.desc).map (fun d => d.parameters.length) = some 1 := by decide +kernel
theorem ml_Mod_253 : Cond.methodLink "GatePatchModel" 253 yX12_pinsOf ∈ tblG := mem_t 1608 (by decide +kernel) rfl
theorem st_X12_pinsOf : Cond.static yX12_pinsOf ∈ tblG := mem_t 1609 (by decide +kernel) rfl
theorem cw_X12_pinsOf : Cond.code yX12_pinsOf cX12_pinsOf 1 (Option.some Jvm.ClassFile.FieldType.int) ∈ tblG := mem_t 1610 (by decide +kernel) rfl
theorem nd_X12_pinsOf : yX12_pinsOf.cls ≠ "java/lang/invoke/MethodHandle" ∧ yX12_pinsOf.cls ≠ "java/lang/invoke/VarHandle" ∧ (parseMethodDescriptor yX12_pinsOf.desc).map (fun d => d.parameters.length) = some 1 := by decide +kernel
theorem ml_Mod_256 : Cond.methodLink "GatePatchModel" 256 yX12_fits ∈ tblG := mem_t 1611 (by decide +kernel) rfl
theorem im_X12_fits : Cond.instanceMethod yX12_fits ∈ tblG := mem_t 1613 (by decide +kernel) rfl
theorem se_X12_fits : Cond.selects "GatePatchModel" yX12_fits yX12_fits ∈ tblG := mem_s 41 (by decide +kernel) rfl
theorem cw_X12_fits : Cond.code yX12_fits cX12_fits 4 (Option.some Jvm.ClassFile.FieldType.boolean) ∈ tblG := mem_t 1614 (by decide +kernel) rfl
theorem nd_X12_fits : yX12_fits.cls ≠ "java/lang/invoke/MethodHandle" ∧ yX12_fits.cls ≠ "java/lang/invoke/VarHandle" ∧ (parseMethodDescriptor yX12_fits.desc).map (fun d => d.parameters.length) = some 3 := by decide +kernel
theorem ml_Mod_260 : Cond.methodLink "GatePatchModel" 260 yX12_makes ∈ tblG := mem_t 1623 (by decide +kernel) rfl
theorem im_X12_makes : Cond.instanceMethod yX12_makes ∈ tblG := mem_t 1625 (by decide +kernel) rfl
theorem se_X12_makes : Cond.selects "GatePatchModel" yX12_makes yX12_makes ∈ tblG := mem_s 44 (by decide +kernel) rfl
theorem cw_X12_makes : Cond.code yX12_makes cX12_makes 7 (Option.none : Option Jvm.ClassFile.FieldType) ∈ tblG := mem_t 1626 (by decide +kernel) rfl
theorem nd_X12_makes : yX12_makes.cls ≠ "java/lang/invoke/MethodHandle" ∧ yX12_makes.cls ≠ "java/lang/invoke/VarHandle" ∧ (parseMethodDescriptor yX12_makes.desc).map (fun d => d.parameters.length) = some 5 := by decide +kernel
theorem ml_Mod_264 : Cond.methodLink "GatePatchModel" 264 yX12_changed ∈ tblG := mem_t 1627 (by decide +kernel) rfl
theorem im_X12_changed : Cond.instanceMethod yX12_changed ∈ tblG := mem_t 1629 (by decide +kernel) rfl
theorem se_X12_changed : Cond.selects "GatePatchModel" yX12_changed yX12_changed ∈ tblG := mem_s 45 (by decide +kernel) rfl
theorem cw_X12_changed : Cond.code yX12_changed cX12_changed 2 (Option.none : Option Jvm.ClassFile.FieldType) ∈ tblG := mem_t 1630 (by decide +kernel) rfl
theorem nd_X12_changed : yX12_changed.cls ≠ "java/lang/invoke/MethodHandle" ∧ yX12_changed.cls ≠ "java/lang/invoke/VarHandle" ∧ (parseMethodDescriptor yX12_changed.desc).map (fun d => d.parameters.length) = some 1 := by decide +kernel
theorem fl_Mod_148 : FL "GatePatchModel" 148 11 58 := ⟨R_Mod, T_Mod, 82, ty_Mod, ci_Mod, by decide, mem_t 1392 (by decide +kernel) rfl⟩
theorem ml_Mod_277 : Cond.methodLink "GatePatchModel" 277 yX12_looks ∈ tblG := mem_t 1643 (by decide +kernel) rfl
theorem im_X12_looks : Cond.instanceMethod yX12_looks ∈ tblG := mem_t 1645 (by decide +kernel) rfl
theorem se_X12_looks : Cond.selects "GatePatchModel" yX12_looks yX12_looks ∈ tblG := mem_s 48 (by decide +kernel) rfl
theorem cw_X12_looks : Cond.code yX12_looks cX12_looks 7 (Option.none : Option Jvm.ClassFile.FieldType) ∈ tblG := mem_t 1646 (by decide +kernel) rfl
theorem nd_X12_looks : yX12_looks.cls ≠ "java/lang/invoke/MethodHandle" ∧ yX12_looks.cls ≠ "java/lang/invoke/VarHandle" ∧ (parseMethodDescriptor yX12_looks.desc).map (fun d => d.parameters.length) = some 2 := by decide +kernel
theorem ml_Mod_268 : Cond.methodLink "GatePatchModel" 268 yX12_isGate ∈ tblG := mem_t 1635 (by decide +kernel) rfl
theorem im_X12_isGate : Cond.instanceMethod yX12_isGate ∈ tblG := mem_t 1637 (by decide +kernel) rfl
theorem se_X12_isGate : Cond.selects "GatePatchModel" yX12_isGate yX12_isGate ∈ tblG := mem_s 46 (by decide +kernel) rfl
theorem cw_X12_isGate : Cond.code yX12_isGate cX12_isGate 3 (Option.some Jvm.ClassFile.FieldType.boolean) ∈ tblG := mem_t 1638 (by decide +kernel) rfl
theorem nd_X12_isGate : yX12_isGate.cls ≠ "java/lang/invoke/MethodHandle" ∧ yX12_isGate.cls ≠ "java/lang/invoke/VarHandle" ∧ (parseMethodDescriptor yX12_isGate.desc).map (fun d => d.parameters.length) = some 2 := by decide +kernel
theorem ml_Mod_271 : Cond.methodLink "GatePatchModel" 271 yX12_doesHang ∈ tblG := mem_t 1639 (by decide +kernel) rfl
theorem im_X12_doesHang : Cond.instanceMethod yX12_doesHang ∈ tblG := mem_t 1641 (by decide +kernel) rfl
theorem se_X12_doesHang : Cond.selects "GatePatchModel" yX12_doesHang yX12_doesHang ∈ tblG := mem_s 47 (by decide +kernel) rfl
theorem cw_X12_doesHang : Cond.code yX12_doesHang cX12_doesHang 4 (Option.some Jvm.ClassFile.FieldType.boolean) ∈ tblG := mem_t 1642 (by decide +kernel) rfl
theorem nd_X12_doesHang : yX12_doesHang.cls ≠ "java/lang/invoke/MethodHandle" ∧ yX12_doesHang.cls ≠ "java/lang/invoke/VarHandle" ∧ (parseMethodDescriptor yX12_doesHang.desc).map (fun d => d.parameters.length) = some 3 := by decide +kernel
theorem fl_Mod_13 : FL "GatePatchModel" 13 11 3 := ⟨R_Mod, T_Mod, 82, ty_Mod, ci_Mod, by decide, mem_t 1337 (by decide +kernel) rfl⟩
theorem ml_Mod_274 : Cond.methodLink "GatePatchModel" 274 yX12_isCase ∈ tblG := mem_t 1659 (by decide +kernel) rfl
theorem im_X12_isCase : Cond.instanceMethod yX12_isCase ∈ tblG := mem_t 1661 (by decide +kernel) rfl
theorem se_X12_isCase : Cond.selects "GatePatchModel" yX12_isCase yX12_isCase ∈ tblG := mem_s 49 (by decide +kernel) rfl
theorem cw_X12_isCase : Cond.code yX12_isCase cX12_isCase 2 (Option.some Jvm.ClassFile.FieldType.boolean) ∈ tblG := mem_t 1662 (by decide +kernel) rfl
theorem nd_X12_isCase : yX12_isCase.cls ≠ "java/lang/invoke/MethodHandle" ∧ yX12_isCase.cls ≠ "java/lang/invoke/VarHandle" ∧ (parseMethodDescriptor yX12_isCase.desc).map (fun d => d.parameters.length) = some 1 := by decide +kernel
theorem fl_Mod_154 : FL "GatePatchModel" 154 11 60 := ⟨R_Mod, T_Mod, 82, ty_Mod, ci_Mod, by decide, mem_t 1394 (by decide +kernel) rfl⟩
theorem fl_Mod_151 : FL "GatePatchModel" 151 11 59 := ⟨R_Mod, T_Mod, 82, ty_Mod, ci_Mod, by decide, mem_t 1393 (by decide +kernel) rfl⟩
theorem k_Mod_281 : Cond.constantLong "GatePatchModel" 281 (Int64.ofInt (-1)) ∈ tblG := mem_t 1694 (by decide +kernel) rfl
theorem ml_Mod_283 : Cond.methodLink "GatePatchModel" 283 yX12_two ∈ tblG := mem_t 1695 (by decide +kernel) rfl
theorem st_X12_two : Cond.static yX12_two ∈ tblG := mem_t 1696 (by decide +kernel) rfl
theorem cw_X12_two : Cond.code yX12_two cX12_two 5 (Option.some Jvm.ClassFile.FieldType.long) ∈ tblG := mem_t 1697 (by decide +kernel) rfl
theorem nd_X12_two : yX12_two.cls ≠ "java/lang/invoke/MethodHandle" ∧ yX12_two.cls ≠ "java/lang/invoke/VarHandle" ∧ (parseMethodDescriptor yX12_two.desc).map (fun d => d.parameters.length) = some 3 := by decide +kernel
theorem fl_Mod_157 : FL "GatePatchModel" 157 11 61 := ⟨R_Mod, T_Mod, 82, ty_Mod, ci_Mod, by decide, mem_t 1395 (by decide +kernel) rfl⟩
theorem ml_Mod_287 : Cond.methodLink "GatePatchModel" 287 yX12_sorts ∈ tblG := mem_t 1679 (by decide +kernel) rfl
theorem im_X12_sorts : Cond.instanceMethod yX12_sorts ∈ tblG := mem_t 1681 (by decide +kernel) rfl
theorem se_X12_sorts : Cond.selects "GatePatchModel" yX12_sorts yX12_sorts ∈ tblG := mem_s 52 (by decide +kernel) rfl
theorem cw_X12_sorts : Cond.code yX12_sorts cX12_sorts 6 (Option.none : Option Jvm.ClassFile.FieldType) ∈ tblG := mem_t 1682 (by decide +kernel) rfl
theorem nd_X12_sorts : yX12_sorts.cls ≠ "java/lang/invoke/MethodHandle" ∧ yX12_sorts.cls ≠ "java/lang/invoke/VarHandle" ∧ (parseMethodDescriptor yX12_sorts.desc).map (fun d => d.parameters.length) = some 1 := by decide +kernel
theorem ml_Mod_290 : Cond.methodLink "GatePatchModel" 290 yX12_inputWord ∈ tblG := mem_t 1683 (by decide +kernel) rfl
theorem st_X12_inputWord : Cond.static yX12_inputWord ∈ tblG := mem_t 1684 (by decide +kernel) rfl
theorem cw_X12_inputWord : Cond.code yX12_inputWord cX12_inputWord 5 (Option.some Jvm.ClassFile.FieldType.long) ∈ tblG := mem_t 1685 (by decide +kernel) rfl
theorem nd_X12_inputWord : yX12_inputWord.cls ≠ "java/lang/invoke/MethodHandle" ∧ yX12_inputWord.cls ≠ "java/lang/invoke/VarHandle" ∧ (parseMethodDescriptor yX12_inputWord.desc).map (fun d => d.parameters.length) = some 2 := by decide +kernel
theorem fl_Mod_294 : FL "GatePatchModel" 294 11 63 := ⟨R_Mod, T_Mod, 82, ty_Mod, ci_Mod, by decide, mem_t 1397 (by decide +kernel) rfl⟩
theorem fl_Mod_301 : FL "GatePatchModel" 301 11 64 := ⟨R_Mod, T_Mod, 82, ty_Mod, ci_Mod, by decide, mem_t 1398 (by decide +kernel) rfl⟩
theorem ml_Mod_297 : Cond.methodLink "GatePatchModel" 297 yX12_worked ∈ tblG := mem_t 1690 (by decide +kernel) rfl
theorem im_X12_worked : Cond.instanceMethod yX12_worked ∈ tblG := mem_t 1692 (by decide +kernel) rfl
theorem se_X12_worked : Cond.selects "GatePatchModel" yX12_worked yX12_worked ∈ tblG := mem_s 54 (by decide +kernel) rfl
theorem cw_X12_worked : Cond.code yX12_worked cX12_worked 12 (Option.some Jvm.ClassFile.FieldType.long) ∈ tblG := mem_t 1693 (by decide +kernel) rfl
theorem nd_X12_worked : yX12_worked.cls ≠ "java/lang/invoke/MethodHandle" ∧ yX12_worked.cls ≠ "java/lang/invoke/VarHandle" ∧ (parseMethodDescriptor yX12_worked.desc).map (fun d => d.parameters.length) = some 3 := by decide +kernel
theorem fl_Mod_160 : FL "GatePatchModel" 160 11 62 := ⟨R_Mod, T_Mod, 82, ty_Mod, ci_Mod, by decide, mem_t 1396 (by decide +kernel) rfl⟩
theorem fp_Mod_294 : FP "GatePatchModel" 294 11 63 .int := ⟨R_Mod, T_Mod, 82, ty_Mod, ci_Mod, by decide, mem_t 1397 (by decide +kernel) rfl, rfl, rfl⟩
theorem ml_Mod_304 : Cond.methodLink "GatePatchModel" 304 yX12_begins ∈ tblG := mem_t 1675 (by decide +kernel) rfl
theorem im_X12_begins : Cond.instanceMethod yX12_begins ∈ tblG := mem_t 1677 (by decide +kernel) rfl
theorem se_X12_begins : Cond.selects "GatePatchModel" yX12_begins yX12_begins ∈ tblG := mem_s 51 (by decide +kernel) rfl
theorem cw_X12_begins : Cond.code yX12_begins cX12_begins 4 (Option.none : Option Jvm.ClassFile.FieldType) ∈ tblG := mem_t 1678 (by decide +kernel) rfl
theorem nd_X12_begins : yX12_begins.cls ≠ "java/lang/invoke/MethodHandle" ∧ yX12_begins.cls ≠ "java/lang/invoke/VarHandle" ∧ (parseMethodDescriptor yX12_begins.desc).map (fun d => d.parameters.length) = some 1 := by decide +kernel
theorem ml_Mod_307 : Cond.methodLink "GatePatchModel" 307 yX12_works ∈ tblG := mem_t 1686 (by decide +kernel) rfl
theorem im_X12_works : Cond.instanceMethod yX12_works ∈ tblG := mem_t 1688 (by decide +kernel) rfl
theorem se_X12_works : Cond.selects "GatePatchModel" yX12_works yX12_works ∈ tblG := mem_s 53 (by decide +kernel) rfl
theorem cw_X12_works : Cond.code yX12_works cX12_works 6 (Option.none : Option Jvm.ClassFile.FieldType) ∈ tblG := mem_t 1689 (by decide +kernel) rfl
theorem nd_X12_works : yX12_works.cls ≠ "java/lang/invoke/MethodHandle" ∧ yX12_works.cls ≠ "java/lang/invoke/VarHandle" ∧ (parseMethodDescriptor yX12_works.desc).map (fun d => d.parameters.length) = some 1 := by decide +kernel
theorem ml_Mod_310 : Cond.methodLink "GatePatchModel" 310 yX12_knows ∈ tblG := mem_t 1671 (by decide +kernel) rfl
theorem im_X12_knows : Cond.instanceMethod yX12_knows ∈ tblG := mem_t 1673 (by decide +kernel) rfl
theorem se_X12_knows : Cond.selects "GatePatchModel" yX12_knows yX12_knows ∈ tblG := mem_s 50 (by decide +kernel) rfl
theorem cw_X12_knows : Cond.code yX12_knows cX12_knows 2 (Option.none : Option Jvm.ClassFile.FieldType) ∈ tblG := mem_t 1674 (by decide +kernel) rfl
theorem nd_X12_knows : yX12_knows.cls ≠ "java/lang/invoke/MethodHandle" ∧ yX12_knows.cls ≠ "java/lang/invoke/VarHandle" ∧ (parseMethodDescriptor yX12_knows.desc).map (fun d => d.parameters.length) = some 1 := by decide +kernel
theorem ml_Mod_313 : Cond.methodLink "GatePatchModel" 313 yX12_isAt ∈ tblG := mem_t 1698 (by decide +kernel) rfl
theorem im_X12_isAt : Cond.instanceMethod yX12_isAt ∈ tblG := mem_t 1700 (by decide +kernel) rfl
theorem se_X12_isAt : Cond.selects "GatePatchModel" yX12_isAt yX12_isAt ∈ tblG := mem_s 55 (by decide +kernel) rfl
theorem cw_X12_isAt : Cond.code yX12_isAt cX12_isAt 4 (Option.some Jvm.ClassFile.FieldType.boolean) ∈ tblG := mem_t 1701 (by decide +kernel) rfl
theorem nd_X12_isAt : yX12_isAt.cls ≠ "java/lang/invoke/MethodHandle" ∧ yX12_isAt.cls ≠ "java/lang/invoke/VarHandle" ∧ (parseMethodDescriptor yX12_isAt.desc).map (fun d => d.parameters.length) = some 3 := by decide +kernel
theorem fp_Mod_202 : FP "GatePatchModel" 202 11 0 .int := ⟨R_Mod, T_Mod, 82, ty_Mod, ci_Mod, by decide, mem_t 1334 (by decide +kernel) rfl, rfl, rfl⟩
theorem ml_Mod_316 : Cond.methodLink "GatePatchModel" 316 yX12_observed ∈ tblG := mem_t 1714 (by decide +kernel) rfl
theorem im_X12_observed : Cond.instanceMethod yX12_observed ∈ tblG := mem_t 1716 (by decide +kernel) rfl
theorem se_X12_observed : Cond.selects "GatePatchModel" yX12_observed yX12_observed ∈ tblG := mem_s 57 (by decide +kernel) rfl
theorem cw_X12_observed : Cond.code yX12_observed cX12_observed 1 (Option.some Jvm.ClassFile.FieldType.int) ∈ tblG := mem_t 1717 (by decide +kernel) rfl
theorem nd_X12_observed : yX12_observed.cls ≠ "java/lang/invoke/MethodHandle" ∧ yX12_observed.cls ≠ "java/lang/invoke/VarHandle" ∧ (parseMethodDescriptor yX12_observed.desc).map (fun d => d.parameters.length) = some 0 := by decide +kernel
theorem ml_Mod_319 : Cond.methodLink "GatePatchModel" 319 yX12_seen ∈ tblG := mem_t 1718 (by decide +kernel) rfl
theorem im_X12_seen : Cond.instanceMethod yX12_seen ∈ tblG := mem_t 1720 (by decide +kernel) rfl
theorem se_X12_seen : Cond.selects "GatePatchModel" yX12_seen yX12_seen ∈ tblG := mem_s 58 (by decide +kernel) rfl
theorem cw_X12_seen : Cond.code yX12_seen cX12_seen 3 (Option.some Jvm.ClassFile.FieldType.int) ∈ tblG := mem_t 1721 (by decide +kernel) rfl
theorem nd_X12_seen : yX12_seen.cls ≠ "java/lang/invoke/MethodHandle" ∧ yX12_seen.cls ≠ "java/lang/invoke/VarHandle" ∧ (parseMethodDescriptor yX12_seen.desc).map (fun d => d.parameters.length) = some 2 := by decide +kernel
theorem ml_Mod_323 : Cond.methodLink "GatePatchModel" 323 yX12_areOne ∈ tblG := mem_t 1710 (by decide +kernel) rfl
theorem im_X12_areOne : Cond.instanceMethod yX12_areOne ∈ tblG := mem_t 1712 (by decide +kernel) rfl
theorem se_X12_areOne : Cond.selects "GatePatchModel" yX12_areOne yX12_areOne ∈ tblG := mem_s 56 (by decide +kernel) rfl
theorem cw_X12_areOne : Cond.code yX12_areOne cX12_areOne 4 (Option.some Jvm.ClassFile.FieldType.boolean) ∈ tblG := mem_t 1713 (by decide +kernel) rfl
theorem nd_X12_areOne : yX12_areOne.cls ≠ "java/lang/invoke/MethodHandle" ∧ yX12_areOne.cls ≠ "java/lang/invoke/VarHandle" ∧ (parseMethodDescriptor yX12_areOne.desc).map (fun d => d.parameters.length) = some 1 := by decide +kernel
theorem fp_Mod_301 : FP "GatePatchModel" 301 11 64 .int := ⟨R_Mod, T_Mod, 82, ty_Mod, ci_Mod, by decide, mem_t 1398 (by decide +kernel) rfl, rfl, rfl⟩
theorem fl_Mod_163 : FL "GatePatchModel" 163 11 65 := ⟨R_Mod, T_Mod, 82, ty_Mod, ci_Mod, by decide, mem_t 1399 (by decide +kernel) rfl⟩
theorem dX12_thrown_0 : decode cX12_thrown 0 = .ok (.aload_n 0, 1) := by decide +kernel
theorem dX12_thrown_1 : decode cX12_thrown 1 = .ok (.getfield 202, 3) := by decide +kernel
theorem dX12_thrown_4 : decode cX12_thrown 4 = .ok (.ireturn, 1) := by decide +kernel
theorem dX12_in_0 : decode cX12_in 0 = .ok (.iload_n 0, 1) := by decide +kernel
theorem dX12_in_1 : decode cX12_in 1 = .ok (.iload_n 1, 1) := by decide +kernel
theorem dX12_in_2 : decode cX12_in 2 = .ok (.if_icmp .lt 12, 3) := by decide +kernel
theorem dX12_in_5 : decode cX12_in 5 = .ok (.iload_n 0, 1) := by decide +kernel
theorem dX12_in_6 : decode cX12_in 6 = .ok (.iload_n 2, 1) := by decide +kernel
theorem dX12_in_7 : decode cX12_in 7 = .ok (.if_icmp .gt 7, 3) := by decide +kernel
theorem dX12_in_10 : decode cX12_in 10 = .ok (.iconst 1, 1) := by decide +kernel
theorem dX12_in_11 : decode cX12_in 11 = .ok (.goto 4, 3) := by decide +kernel
theorem dX12_in_14 : decode cX12_in 14 = .ok (.iconst 0, 1) := by decide +kernel
theorem dX12_in_15 : decode cX12_in 15 = .ok (.ireturn, 1) := by decide +kernel
theorem dX12_begun_0 : decode cX12_begun 0 = .ok (.aload_n 0, 1) := by decide +kernel
theorem dX12_begun_1 : decode cX12_begun 1 = .ok (.getfield 7, 3) := by decide +kernel
theorem dX12_begun_4 : decode cX12_begun 4 = .ok (.aload_n 0, 1) := by decide +kernel
theorem dX12_begun_5 : decode cX12_begun 5 = .ok (.getfield 205, 3) := by decide +kernel
theorem dX12_begun_8 : decode cX12_begun 8 = .ok (.iadd, 1) := by decide +kernel
theorem dX12_begun_9 : decode cX12_begun 9 = .ok (.ireturn, 1) := by decide +kernel
theorem dX12_cases_0 : decode cX12_cases 0 = .ok (.iconst 1, 1) := by decide +kernel
theorem dX12_cases_1 : decode cX12_cases 1 = .ok (.aload_n 0, 1) := by decide +kernel
theorem dX12_cases_2 : decode cX12_cases 2 = .ok (.invokevirtual 208, 3) := by decide +kernel
theorem dX12_cases_5 : decode cX12_cases 5 = .ok (.ishl, 1) := by decide +kernel
theorem dX12_cases_6 : decode cX12_cases 6 = .ok (.ireturn, 1) := by decide +kernel
theorem dX12_isNet_0 : decode cX12_isNet 0 = .ok (.iload_n 0, 1) := by decide +kernel
theorem dX12_isNet_1 : decode cX12_isNet 1 = .ok (.iconst 0, 1) := by decide +kernel
theorem dX12_isNet_2 : decode cX12_isNet 2 = .ok (.iconst 1, 1) := by decide +kernel
theorem dX12_isNet_3 : decode cX12_isNet 3 = .ok (.invokestatic 212, 3) := by decide +kernel
theorem dX12_isNet_6 : decode cX12_isNet 6 = .ok (.ireturn, 1) := by decide +kernel
theorem dX12_wires_0 : decode cX12_wires 0 = .ok (.aload_n 0, 1) := by decide +kernel
theorem dX12_wires_1 : decode cX12_wires 1 = .ok (.invokevirtual 208, 3) := by decide +kernel
theorem dX12_wires_4 : decode cX12_wires 4 = .ok (.aload_n 0, 1) := by decide +kernel
theorem dX12_wires_5 : decode cX12_wires 5 = .ok (.getfield 16, 3) := by decide +kernel
theorem dX12_wires_8 : decode cX12_wires 8 = .ok (.iload_n 1, 1) := by decide +kernel
theorem dX12_wires_9 : decode cX12_wires 9 = .ok (.iaload, 1) := by decide +kernel
theorem dX12_wires_10 : decode cX12_wires 10 = .ok (.iadd, 1) := by decide +kernel
theorem dX12_wires_11 : decode cX12_wires 11 = .ok (.ireturn, 1) := by decide +kernel
theorem dX12_isWire_0 : decode cX12_isWire 0 = .ok (.iload_n 2, 1) := by decide +kernel
theorem dX12_isWire_1 : decode cX12_isWire 1 = .ok (.iconst 0, 1) := by decide +kernel
theorem dX12_isWire_2 : decode cX12_isWire 2 = .ok (.aload_n 0, 1) := by decide +kernel
theorem dX12_isWire_3 : decode cX12_isWire 3 = .ok (.iload_n 1, 1) := by decide +kernel
theorem dX12_isWire_4 : decode cX12_isWire 4 = .ok (.invokevirtual 216, 3) := by decide +kernel
theorem dX12_isWire_7 : decode cX12_isWire 7 = .ok (.iconst 1, 1) := by decide +kernel
theorem dX12_isWire_8 : decode cX12_isWire 8 = .ok (.isub, 1) := by decide +kernel
theorem dX12_isWire_9 : decode cX12_isWire 9 = .ok (.invokestatic 212, 3) := by decide +kernel
theorem dX12_isWire_12 : decode cX12_isWire 12 = .ok (.ireturn, 1) := by decide +kernel
theorem dX12_isGate_0 : decode cX12_isGate 0 = .ok (.iload_n 2, 1) := by decide +kernel
theorem dX12_isGate_1 : decode cX12_isGate 1 = .ok (.aload_n 0, 1) := by decide +kernel
theorem dX12_isGate_2 : decode cX12_isGate 2 = .ok (.invokevirtual 208, 3) := by decide +kernel
theorem dX12_isGate_5 : decode cX12_isGate 5 = .ok (.aload_n 0, 1) := by decide +kernel
theorem dX12_isGate_6 : decode cX12_isGate 6 = .ok (.iload_n 1, 1) := by decide +kernel
theorem dX12_isGate_7 : decode cX12_isGate 7 = .ok (.invokevirtual 216, 3) := by decide +kernel
theorem dX12_isGate_10 : decode cX12_isGate 10 = .ok (.iconst 1, 1) := by decide +kernel
theorem dX12_isGate_11 : decode cX12_isGate 11 = .ok (.isub, 1) := by decide +kernel
theorem dX12_isGate_12 : decode cX12_isGate 12 = .ok (.invokestatic 212, 3) := by decide +kernel
theorem dX12_isGate_15 : decode cX12_isGate 15 = .ok (.ireturn, 1) := by decide +kernel
theorem dX12_pinsOf_0 : decode cX12_pinsOf 0 = .ok (.iload_n 0, 1) := by decide +kernel
theorem dX12_pinsOf_1 : decode cX12_pinsOf 1 = .ok (.ifCond .ne 7, 3) := by decide +kernel
theorem dX12_pinsOf_4 : decode cX12_pinsOf 4 = .ok (.iconst 1, 1) := by decide +kernel
theorem dX12_pinsOf_5 : decode cX12_pinsOf 5 = .ok (.goto 24, 3) := by decide +kernel
theorem dX12_pinsOf_8 : decode cX12_pinsOf 8 = .ok (.iload_n 0, 1) := by decide +kernel
theorem dX12_pinsOf_9 : decode cX12_pinsOf 9 = .ok (.bipush 7, 2) := by decide +kernel
theorem dX12_pinsOf_11 : decode cX12_pinsOf 11 = .ok (.if_icmp .lt 7, 3) := by decide +kernel
theorem dX12_pinsOf_14 : decode cX12_pinsOf 14 = .ok (.iconst 0, 1) := by decide +kernel
theorem dX12_pinsOf_15 : decode cX12_pinsOf 15 = .ok (.goto 14, 3) := by decide +kernel
theorem dX12_pinsOf_18 : decode cX12_pinsOf 18 = .ok (.iload_n 0, 1) := by decide +kernel
theorem dX12_pinsOf_19 : decode cX12_pinsOf 19 = .ok (.bipush 6, 2) := by decide +kernel
theorem dX12_pinsOf_21 : decode cX12_pinsOf 21 = .ok (.if_icmp .ne 7, 3) := by decide +kernel
theorem dX12_pinsOf_24 : decode cX12_pinsOf 24 = .ok (.iconst 3, 1) := by decide +kernel
theorem dX12_pinsOf_25 : decode cX12_pinsOf 25 = .ok (.goto 4, 3) := by decide +kernel
theorem dX12_pinsOf_28 : decode cX12_pinsOf 28 = .ok (.iconst 2, 1) := by decide +kernel
theorem dX12_pinsOf_29 : decode cX12_pinsOf 29 = .ok (.ireturn, 1) := by decide +kernel
theorem dX12_refuse_0 : decode cX12_refuse 0 = .ok (.aload_n 0, 1) := by decide +kernel
theorem dX12_refuse_1 : decode cX12_refuse 1 = .ok (.dup, 1) := by decide +kernel
theorem dX12_refuse_2 : decode cX12_refuse 2 = .ok (.getfield 220, 3) := by decide +kernel
theorem dX12_refuse_5 : decode cX12_refuse 5 = .ok (.iconst 1, 1) := by decide +kernel
theorem dX12_refuse_6 : decode cX12_refuse 6 = .ok (.iadd, 1) := by decide +kernel
theorem dX12_refuse_7 : decode cX12_refuse 7 = .ok (.putfield 220, 3) := by decide +kernel
theorem dX12_refuse_10 : decode cX12_refuse 10 = .ok (.iload_n 1, 1) := by decide +kernel
theorem dX12_refuse_11 : decode cX12_refuse 11 = .ok (.ireturn, 1) := by decide +kernel
theorem dX12_begin_0 : decode cX12_begin 0 = .ok (.iload_n 1, 1) := by decide +kernel
theorem dX12_begin_1 : decode cX12_begin 1 = .ok (.iconst 0, 1) := by decide +kernel
theorem dX12_begin_2 : decode cX12_begin 2 = .ok (.bipush 8, 2) := by decide +kernel
theorem dX12_begin_4 : decode cX12_begin 4 = .ok (.invokestatic 212, 3) := by decide +kernel
theorem dX12_begin_7 : decode cX12_begin 7 = .ok (.ifCond .eq 33, 3) := by decide +kernel
theorem dX12_begin_10 : decode cX12_begin 10 = .ok (.iload_n 2, 1) := by decide +kernel
theorem dX12_begin_11 : decode cX12_begin 11 = .ok (.iconst 0, 1) := by decide +kernel
theorem dX12_begin_12 : decode cX12_begin 12 = .ok (.iconst 2, 1) := by decide +kernel
theorem dX12_begin_13 : decode cX12_begin 13 = .ok (.invokestatic 212, 3) := by decide +kernel
theorem dX12_begin_16 : decode cX12_begin 16 = .ok (.ifCond .eq 24, 3) := by decide +kernel
theorem dX12_begin_19 : decode cX12_begin 19 = .ok (.iload_n 3, 1) := by decide +kernel
theorem dX12_begin_20 : decode cX12_begin 20 = .ok (.iconst 1, 1) := by decide +kernel
theorem dX12_begin_21 : decode cX12_begin 21 = .ok (.iconst 4, 1) := by decide +kernel
theorem dX12_begin_22 : decode cX12_begin 22 = .ok (.invokestatic 212, 3) := by decide +kernel
theorem dX12_begin_25 : decode cX12_begin 25 = .ok (.ifCond .eq 15, 3) := by decide +kernel
theorem dX12_begin_28 : decode cX12_begin 28 = .ok (.iload_n 1, 1) := by decide +kernel
theorem dX12_begin_29 : decode cX12_begin 29 = .ok (.iload_n 2, 1) := by decide +kernel
theorem dX12_begin_30 : decode cX12_begin 30 = .ok (.iadd, 1) := by decide +kernel
theorem dX12_begin_31 : decode cX12_begin 31 = .ok (.iconst 1, 1) := by decide +kernel
theorem dX12_begin_32 : decode cX12_begin 32 = .ok (.bipush 8, 2) := by decide +kernel
theorem dX12_begin_34 : decode cX12_begin 34 = .ok (.invokestatic 212, 3) := by decide +kernel
theorem dX12_begin_37 : decode cX12_begin 37 = .ok (.ifCond .ne 5, 3) := by decide +kernel
theorem dX12_begin_40 : decode cX12_begin 40 = .ok (.iconst (-1), 1) := by decide +kernel
theorem dX12_begin_41 : decode cX12_begin 41 = .ok (.ireturn, 1) := by decide +kernel
theorem dX12_begin_42 : decode cX12_begin 42 = .ok (.aload_n 0, 1) := by decide +kernel
theorem dX12_begin_43 : decode cX12_begin 43 = .ok (.iload_n 1, 1) := by decide +kernel
theorem dX12_begin_44 : decode cX12_begin 44 = .ok (.putfield 7, 3) := by decide +kernel
theorem dX12_begin_47 : decode cX12_begin 47 = .ok (.aload_n 0, 1) := by decide +kernel
theorem dX12_begin_48 : decode cX12_begin 48 = .ok (.iload_n 2, 1) := by decide +kernel
theorem dX12_begin_49 : decode cX12_begin 49 = .ok (.putfield 205, 3) := by decide +kernel
theorem dX12_begin_52 : decode cX12_begin 52 = .ok (.aload_n 0, 1) := by decide +kernel
theorem dX12_begin_53 : decode cX12_begin 53 = .ok (.iload_n 3, 1) := by decide +kernel
theorem dX12_begin_54 : decode cX12_begin 54 = .ok (.putfield 13, 3) := by decide +kernel
theorem dX12_begin_57 : decode cX12_begin 57 = .ok (.iconst 0, 1) := by decide +kernel
theorem dX12_begin_58 : decode cX12_begin 58 = .ok (.istore 4, 2) := by decide +kernel
theorem dX12_begin_60 : decode cX12_begin 60 = .ok (.iload 4, 2) := by decide +kernel
theorem dX12_begin_62 : decode cX12_begin 62 = .ok (.iconst 2, 1) := by decide +kernel
theorem dX12_begin_63 : decode cX12_begin 63 = .ok (.if_icmp .ge 17, 3) := by decide +kernel
theorem dX12_begin_66 : decode cX12_begin 66 = .ok (.aload_n 0, 1) := by decide +kernel
theorem dX12_begin_67 : decode cX12_begin 67 = .ok (.getfield 16, 3) := by decide +kernel
theorem dX12_begin_70 : decode cX12_begin 70 = .ok (.iload 4, 2) := by decide +kernel
theorem dX12_begin_72 : decode cX12_begin 72 = .ok (.iconst 0, 1) := by decide +kernel
theorem dX12_begin_73 : decode cX12_begin 73 = .ok (.iastore, 1) := by decide +kernel
theorem dX12_begin_74 : decode cX12_begin 74 = .ok (.iinc 4 1, 3) := by decide +kernel
theorem dX12_begin_77 : decode cX12_begin 77 = .ok (.goto (-17), 3) := by decide +kernel
theorem dX12_begin_80 : decode cX12_begin 80 = .ok (.iconst 0, 1) := by decide +kernel
theorem dX12_begin_81 : decode cX12_begin 81 = .ok (.istore 4, 2) := by decide +kernel
theorem dX12_begin_83 : decode cX12_begin 83 = .ok (.iload 4, 2) := by decide +kernel
theorem dX12_begin_85 : decode cX12_begin 85 = .ok (.bipush 8, 2) := by decide +kernel
theorem dX12_begin_87 : decode cX12_begin 87 = .ok (.if_icmp .ge 17, 3) := by decide +kernel
theorem dX12_begin_90 : decode cX12_begin 90 = .ok (.aload_n 0, 1) := by decide +kernel
theorem dX12_begin_91 : decode cX12_begin 91 = .ok (.getfield 26, 3) := by decide +kernel
theorem dX12_begin_94 : decode cX12_begin 94 = .ok (.iload 4, 2) := by decide +kernel
theorem dX12_begin_96 : decode cX12_begin 96 = .ok (.iconst 0, 1) := by decide +kernel
theorem dX12_begin_97 : decode cX12_begin 97 = .ok (.iastore, 1) := by decide +kernel
theorem dX12_begin_98 : decode cX12_begin 98 = .ok (.iinc 4 1, 3) := by decide +kernel
theorem dX12_begin_101 : decode cX12_begin 101 = .ok (.goto (-18), 3) := by decide +kernel
theorem dX12_begin_104 : decode cX12_begin 104 = .ok (.iconst 0, 1) := by decide +kernel
theorem dX12_begin_105 : decode cX12_begin 105 = .ok (.istore 4, 2) := by decide +kernel
theorem dX12_begin_107 : decode cX12_begin 107 = .ok (.iload 4, 2) := by decide +kernel
theorem dX12_begin_109 : decode cX12_begin 109 = .ok (.iconst 4, 1) := by decide +kernel
theorem dX12_begin_110 : decode cX12_begin 110 = .ok (.if_icmp .ge 17, 3) := by decide +kernel
theorem dX12_begin_113 : decode cX12_begin 113 = .ok (.aload_n 0, 1) := by decide +kernel
theorem dX12_begin_114 : decode cX12_begin 114 = .ok (.getfield 29, 3) := by decide +kernel
theorem dX12_begin_117 : decode cX12_begin 117 = .ok (.iload 4, 2) := by decide +kernel
theorem dX12_begin_119 : decode cX12_begin 119 = .ok (.iconst 0, 1) := by decide +kernel
theorem dX12_begin_120 : decode cX12_begin 120 = .ok (.iastore, 1) := by decide +kernel
theorem dX12_begin_121 : decode cX12_begin 121 = .ok (.iinc 4 1, 3) := by decide +kernel
theorem dX12_begin_124 : decode cX12_begin 124 = .ok (.goto (-17), 3) := by decide +kernel
theorem dX12_begin_127 : decode cX12_begin 127 = .ok (.iconst 0, 1) := by decide +kernel
theorem dX12_begin_128 : decode cX12_begin 128 = .ok (.istore 4, 2) := by decide +kernel
theorem dX12_begin_130 : decode cX12_begin 130 = .ok (.iload 4, 2) := by decide +kernel
theorem dX12_begin_132 : decode cX12_begin 132 = .ok (.sipush 256, 3) := by decide +kernel
theorem dX12_begin_135 : decode cX12_begin 135 = .ok (.if_icmp .ge 17, 3) := by decide +kernel
theorem dX12_begin_138 : decode cX12_begin 138 = .ok (.aload_n 0, 1) := by decide +kernel
theorem dX12_begin_139 : decode cX12_begin 139 = .ok (.getfield 32, 3) := by decide +kernel
theorem dX12_begin_142 : decode cX12_begin 142 = .ok (.iload 4, 2) := by decide +kernel
theorem dX12_begin_144 : decode cX12_begin 144 = .ok (.iconst 0, 1) := by decide +kernel
theorem dX12_begin_145 : decode cX12_begin 145 = .ok (.bastore, 1) := by decide +kernel
theorem dX12_begin_146 : decode cX12_begin 146 = .ok (.iinc 4 1, 3) := by decide +kernel
theorem dX12_begin_149 : decode cX12_begin 149 = .ok (.goto (-19), 3) := by decide +kernel
theorem dX12_begin_152 : decode cX12_begin 152 = .ok (.iconst 0, 1) := by decide +kernel
theorem dX12_begin_153 : decode cX12_begin 153 = .ok (.istore 4, 2) := by decide +kernel
theorem dX12_begin_155 : decode cX12_begin 155 = .ok (.iload 4, 2) := by decide +kernel
theorem dX12_begin_157 : decode cX12_begin 157 = .ok (.bipush 48, 2) := by decide +kernel
theorem dX12_begin_159 : decode cX12_begin 159 = .ok (.if_icmp .ge 33, 3) := by decide +kernel
theorem dX12_begin_162 : decode cX12_begin 162 = .ok (.aload_n 0, 1) := by decide +kernel
theorem dX12_begin_163 : decode cX12_begin 163 = .ok (.getfield 36, 3) := by decide +kernel
theorem dX12_begin_166 : decode cX12_begin 166 = .ok (.iload 4, 2) := by decide +kernel
theorem dX12_begin_168 : decode cX12_begin 168 = .ok (.iconst 0, 1) := by decide +kernel
theorem dX12_begin_169 : decode cX12_begin 169 = .ok (.iastore, 1) := by decide +kernel
theorem dX12_begin_170 : decode cX12_begin 170 = .ok (.aload_n 0, 1) := by decide +kernel
theorem dX12_begin_171 : decode cX12_begin 171 = .ok (.getfield 39, 3) := by decide +kernel
theorem dX12_begin_174 : decode cX12_begin 174 = .ok (.iload 4, 2) := by decide +kernel
theorem dX12_begin_176 : decode cX12_begin 176 = .ok (.iconst 0, 1) := by decide +kernel
theorem dX12_begin_177 : decode cX12_begin 177 = .ok (.iastore, 1) := by decide +kernel
theorem dX12_begin_178 : decode cX12_begin 178 = .ok (.aload_n 0, 1) := by decide +kernel
theorem dX12_begin_179 : decode cX12_begin 179 = .ok (.getfield 57, 3) := by decide +kernel
theorem dX12_begin_182 : decode cX12_begin 182 = .ok (.iload 4, 2) := by decide +kernel
theorem dX12_begin_184 : decode cX12_begin 184 = .ok (.iconst (-1), 1) := by decide +kernel
theorem dX12_begin_185 : decode cX12_begin 185 = .ok (.iastore, 1) := by decide +kernel
theorem dX12_begin_186 : decode cX12_begin 186 = .ok (.iinc 4 1, 3) := by decide +kernel
theorem dX12_begin_189 : decode cX12_begin 189 = .ok (.goto (-34), 3) := by decide +kernel
theorem dX12_begin_192 : decode cX12_begin 192 = .ok (.iconst 0, 1) := by decide +kernel
theorem dX12_begin_193 : decode cX12_begin 193 = .ok (.istore 4, 2) := by decide +kernel
theorem dX12_begin_195 : decode cX12_begin 195 = .ok (.iload 4, 2) := by decide +kernel
theorem dX12_begin_197 : decode cX12_begin 197 = .ok (.bipush 9, 2) := by decide +kernel
theorem dX12_begin_199 : decode cX12_begin 199 = .ok (.if_icmp .ge 17, 3) := by decide +kernel
theorem dX12_begin_202 : decode cX12_begin 202 = .ok (.aload_n 0, 1) := by decide +kernel
theorem dX12_begin_203 : decode cX12_begin 203 = .ok (.getfield 54, 3) := by decide +kernel
theorem dX12_begin_206 : decode cX12_begin 206 = .ok (.iload 4, 2) := by decide +kernel
theorem dX12_begin_208 : decode cX12_begin 208 = .ok (.iconst 1, 1) := by decide +kernel
theorem dX12_begin_209 : decode cX12_begin 209 = .ok (.iastore, 1) := by decide +kernel
theorem dX12_begin_210 : decode cX12_begin 210 = .ok (.iinc 4 1, 3) := by decide +kernel
theorem dX12_begin_213 : decode cX12_begin 213 = .ok (.goto (-18), 3) := by decide +kernel
theorem dX12_begin_216 : decode cX12_begin 216 = .ok (.aload_n 0, 1) := by decide +kernel
theorem dX12_begin_217 : decode cX12_begin 217 = .ok (.iconst 0, 1) := by decide +kernel
theorem dX12_begin_218 : decode cX12_begin 218 = .ok (.putfield 223, 3) := by decide +kernel
theorem dX12_begin_221 : decode cX12_begin 221 = .ok (.aload_n 0, 1) := by decide +kernel
theorem dX12_begin_222 : decode cX12_begin 222 = .ok (.iconst 0, 1) := by decide +kernel
theorem dX12_begin_223 : decode cX12_begin 223 = .ok (.putfield 226, 3) := by decide +kernel
theorem dX12_begin_226 : decode cX12_begin 226 = .ok (.aload_n 0, 1) := by decide +kernel
theorem dX12_begin_227 : decode cX12_begin 227 = .ok (.iconst (-1), 1) := by decide +kernel
theorem dX12_begin_228 : decode cX12_begin 228 = .ok (.putfield 63, 3) := by decide +kernel
theorem dX12_begin_231 : decode cX12_begin 231 = .ok (.aload_n 0, 1) := by decide +kernel
theorem dX12_begin_232 : decode cX12_begin 232 = .ok (.iconst (-1), 1) := by decide +kernel
theorem dX12_begin_233 : decode cX12_begin 233 = .ok (.putfield 66, 3) := by decide +kernel
theorem dX12_begin_236 : decode cX12_begin 236 = .ok (.aload_n 0, 1) := by decide +kernel
theorem dX12_begin_237 : decode cX12_begin 237 = .ok (.iconst 0, 1) := by decide +kernel
theorem dX12_begin_238 : decode cX12_begin 238 = .ok (.putfield 229, 3) := by decide +kernel
theorem dX12_begin_241 : decode cX12_begin 241 = .ok (.aload_n 0, 1) := by decide +kernel
theorem dX12_begin_242 : decode cX12_begin 242 = .ok (.iconst 0, 1) := by decide +kernel
theorem dX12_begin_243 : decode cX12_begin 243 = .ok (.putfield 233, 3) := by decide +kernel
theorem dX12_begin_246 : decode cX12_begin 246 = .ok (.aload_n 0, 1) := by decide +kernel
theorem dX12_begin_247 : decode cX12_begin 247 = .ok (.iconst 0, 1) := by decide +kernel
theorem dX12_begin_248 : decode cX12_begin 248 = .ok (.putfield 236, 3) := by decide +kernel
theorem dX12_begin_251 : decode cX12_begin 251 = .ok (.aload_n 0, 1) := by decide +kernel
theorem dX12_begin_252 : decode cX12_begin 252 = .ok (.iconst 0, 1) := by decide +kernel
theorem dX12_begin_253 : decode cX12_begin 253 = .ok (.putfield 239, 3) := by decide +kernel
theorem dX12_begin_256 : decode cX12_begin 256 = .ok (.aload_n 0, 1) := by decide +kernel
theorem dX12_begin_257 : decode cX12_begin 257 = .ok (.iconst 0, 1) := by decide +kernel
theorem dX12_begin_258 : decode cX12_begin 258 = .ok (.putfield 220, 3) := by decide +kernel
theorem dX12_begin_261 : decode cX12_begin 261 = .ok (.aload_n 0, 1) := by decide +kernel
theorem dX12_begin_262 : decode cX12_begin 262 = .ok (.invokevirtual 242, 3) := by decide +kernel
theorem dX12_begin_265 : decode cX12_begin 265 = .ok (.ireturn, 1) := by decide +kernel
theorem dX12_changed_0 : decode cX12_changed 0 = .ok (.aload_n 0, 1) := by decide +kernel
theorem dX12_changed_1 : decode cX12_changed 1 = .ok (.iconst 0, 1) := by decide +kernel
theorem dX12_changed_2 : decode cX12_changed 2 = .ok (.putfield 229, 3) := by decide +kernel
theorem dX12_changed_5 : decode cX12_changed 5 = .ok (.aload_n 0, 1) := by decide +kernel
theorem dX12_changed_6 : decode cX12_changed 6 = .ok (.iload_n 1, 1) := by decide +kernel
theorem dX12_changed_7 : decode cX12_changed 7 = .ok (.ifCond .ne 7, 3) := by decide +kernel
theorem dX12_changed_10 : decode cX12_changed 10 = .ok (.iconst 0, 1) := by decide +kernel
theorem dX12_changed_11 : decode cX12_changed 11 = .ok (.goto 7, 3) := by decide +kernel
theorem dX12_changed_14 : decode cX12_changed 14 = .ok (.aload_n 0, 1) := by decide +kernel
theorem dX12_changed_15 : decode cX12_changed 15 = .ok (.getfield 233, 3) := by decide +kernel
theorem dX12_changed_18 : decode cX12_changed 18 = .ok (.putfield 233, 3) := by decide +kernel
theorem dX12_changed_21 : decode cX12_changed 21 = .ok (.return_, 1) := by decide +kernel
theorem dX12_makes_0 : decode cX12_makes 0 = .ok (.aload_n 0, 1) := by decide +kernel
theorem dX12_makes_1 : decode cX12_makes 1 = .ok (.iload_n 1, 1) := by decide +kernel
theorem dX12_makes_2 : decode cX12_makes 2 = .ok (.invokevirtual 216, 3) := by decide +kernel
theorem dX12_makes_5 : decode cX12_makes 5 = .ok (.istore 6, 2) := by decide +kernel
theorem dX12_makes_7 : decode cX12_makes 7 = .ok (.aload_n 0, 1) := by decide +kernel
theorem dX12_makes_8 : decode cX12_makes 8 = .ok (.getfield 20, 3) := by decide +kernel
theorem dX12_makes_11 : decode cX12_makes 11 = .ok (.bipush 48, 2) := by decide +kernel
theorem dX12_makes_13 : decode cX12_makes 13 = .ok (.iload_n 1, 1) := by decide +kernel
theorem dX12_makes_14 : decode cX12_makes 14 = .ok (.imul, 1) := by decide +kernel
theorem dX12_makes_15 : decode cX12_makes 15 = .ok (.iload 6, 2) := by decide +kernel
theorem dX12_makes_17 : decode cX12_makes 17 = .ok (.iadd, 1) := by decide +kernel
theorem dX12_makes_18 : decode cX12_makes 18 = .ok (.iload_n 2, 1) := by decide +kernel
theorem dX12_makes_19 : decode cX12_makes 19 = .ok (.iastore, 1) := by decide +kernel
theorem dX12_makes_20 : decode cX12_makes 20 = .ok (.aload_n 0, 1) := by decide +kernel
theorem dX12_makes_21 : decode cX12_makes 21 = .ok (.getfield 23, 3) := by decide +kernel
theorem dX12_makes_24 : decode cX12_makes 24 = .ok (.iconst 3, 1) := by decide +kernel
theorem dX12_makes_25 : decode cX12_makes 25 = .ok (.bipush 48, 2) := by decide +kernel
theorem dX12_makes_27 : decode cX12_makes 27 = .ok (.iload_n 1, 1) := by decide +kernel
theorem dX12_makes_28 : decode cX12_makes 28 = .ok (.imul, 1) := by decide +kernel
theorem dX12_makes_29 : decode cX12_makes 29 = .ok (.iload 6, 2) := by decide +kernel
theorem dX12_makes_31 : decode cX12_makes 31 = .ok (.iadd, 1) := by decide +kernel
theorem dX12_makes_32 : decode cX12_makes 32 = .ok (.imul, 1) := by decide +kernel
theorem dX12_makes_33 : decode cX12_makes 33 = .ok (.iload_n 3, 1) := by decide +kernel
theorem dX12_makes_34 : decode cX12_makes 34 = .ok (.iastore, 1) := by decide +kernel
theorem dX12_makes_35 : decode cX12_makes 35 = .ok (.aload_n 0, 1) := by decide +kernel
theorem dX12_makes_36 : decode cX12_makes 36 = .ok (.getfield 23, 3) := by decide +kernel
theorem dX12_makes_39 : decode cX12_makes 39 = .ok (.iconst 3, 1) := by decide +kernel
theorem dX12_makes_40 : decode cX12_makes 40 = .ok (.bipush 48, 2) := by decide +kernel
theorem dX12_makes_42 : decode cX12_makes 42 = .ok (.iload_n 1, 1) := by decide +kernel
theorem dX12_makes_43 : decode cX12_makes 43 = .ok (.imul, 1) := by decide +kernel
theorem dX12_makes_44 : decode cX12_makes 44 = .ok (.iload 6, 2) := by decide +kernel
theorem dX12_makes_46 : decode cX12_makes 46 = .ok (.iadd, 1) := by decide +kernel
theorem dX12_makes_47 : decode cX12_makes 47 = .ok (.imul, 1) := by decide +kernel
theorem dX12_makes_48 : decode cX12_makes 48 = .ok (.iconst 1, 1) := by decide +kernel
theorem dX12_makes_49 : decode cX12_makes 49 = .ok (.iadd, 1) := by decide +kernel
theorem dX12_makes_50 : decode cX12_makes 50 = .ok (.iload 4, 2) := by decide +kernel
theorem dX12_makes_52 : decode cX12_makes 52 = .ok (.iastore, 1) := by decide +kernel
theorem dX12_makes_53 : decode cX12_makes 53 = .ok (.aload_n 0, 1) := by decide +kernel
theorem dX12_makes_54 : decode cX12_makes 54 = .ok (.getfield 23, 3) := by decide +kernel
theorem dX12_makes_57 : decode cX12_makes 57 = .ok (.iconst 3, 1) := by decide +kernel
theorem dX12_makes_58 : decode cX12_makes 58 = .ok (.bipush 48, 2) := by decide +kernel
theorem dX12_makes_60 : decode cX12_makes 60 = .ok (.iload_n 1, 1) := by decide +kernel
theorem dX12_makes_61 : decode cX12_makes 61 = .ok (.imul, 1) := by decide +kernel
theorem dX12_makes_62 : decode cX12_makes 62 = .ok (.iload 6, 2) := by decide +kernel
theorem dX12_makes_64 : decode cX12_makes 64 = .ok (.iadd, 1) := by decide +kernel
theorem dX12_makes_65 : decode cX12_makes 65 = .ok (.imul, 1) := by decide +kernel
theorem dX12_makes_66 : decode cX12_makes 66 = .ok (.iconst 2, 1) := by decide +kernel
theorem dX12_makes_67 : decode cX12_makes 67 = .ok (.iadd, 1) := by decide +kernel
theorem dX12_makes_68 : decode cX12_makes 68 = .ok (.iload 5, 2) := by decide +kernel
theorem dX12_makes_70 : decode cX12_makes 70 = .ok (.iastore, 1) := by decide +kernel
theorem dX12_makes_71 : decode cX12_makes 71 = .ok (.iload_n 1, 1) := by decide +kernel
theorem dX12_makes_72 : decode cX12_makes 72 = .ok (.ifCond .ne 19, 3) := by decide +kernel
theorem dX12_makes_75 : decode cX12_makes 75 = .ok (.aload_n 0, 1) := by decide +kernel
theorem dX12_makes_76 : decode cX12_makes 76 = .ok (.getfield 36, 3) := by decide +kernel
theorem dX12_makes_79 : decode cX12_makes 79 = .ok (.iload 6, 2) := by decide +kernel
theorem dX12_makes_81 : decode cX12_makes 81 = .ok (.iconst 0, 1) := by decide +kernel
theorem dX12_makes_82 : decode cX12_makes 82 = .ok (.iastore, 1) := by decide +kernel
theorem dX12_makes_83 : decode cX12_makes 83 = .ok (.aload_n 0, 1) := by decide +kernel
theorem dX12_makes_84 : decode cX12_makes 84 = .ok (.getfield 39, 3) := by decide +kernel
theorem dX12_makes_87 : decode cX12_makes 87 = .ok (.iload 6, 2) := by decide +kernel
theorem dX12_makes_89 : decode cX12_makes 89 = .ok (.iconst 0, 1) := by decide +kernel
theorem dX12_makes_90 : decode cX12_makes 90 = .ok (.iastore, 1) := by decide +kernel
theorem dX12_makes_91 : decode cX12_makes 91 = .ok (.aload_n 0, 1) := by decide +kernel
theorem dX12_makes_92 : decode cX12_makes 92 = .ok (.getfield 16, 3) := by decide +kernel
theorem dX12_makes_95 : decode cX12_makes 95 = .ok (.iload_n 1, 1) := by decide +kernel
theorem dX12_makes_96 : decode cX12_makes 96 = .ok (.dup2, 1) := by decide +kernel
theorem dX12_makes_97 : decode cX12_makes 97 = .ok (.iaload, 1) := by decide +kernel
theorem dX12_makes_98 : decode cX12_makes 98 = .ok (.iconst 1, 1) := by decide +kernel
theorem dX12_makes_99 : decode cX12_makes 99 = .ok (.iadd, 1) := by decide +kernel
theorem dX12_makes_100 : decode cX12_makes 100 = .ok (.iastore, 1) := by decide +kernel
theorem dX12_makes_101 : decode cX12_makes 101 = .ok (.return_, 1) := by decide +kernel
theorem dX12_fits_0 : decode cX12_fits 0 = .ok (.iload_n 2, 1) := by decide +kernel
theorem dX12_fits_1 : decode cX12_fits 1 = .ok (.ifCond .eq 12, 3) := by decide +kernel
theorem dX12_fits_4 : decode cX12_fits 4 = .ok (.aload_n 0, 1) := by decide +kernel
theorem dX12_fits_5 : decode cX12_fits 5 = .ok (.iload_n 1, 1) := by decide +kernel
theorem dX12_fits_6 : decode cX12_fits 6 = .ok (.iload_n 3, 1) := by decide +kernel
theorem dX12_fits_7 : decode cX12_fits 7 = .ok (.invokevirtual 245, 3) := by decide +kernel
theorem dX12_fits_10 : decode cX12_fits 10 = .ok (.goto 13, 3) := by decide +kernel
theorem dX12_fits_13 : decode cX12_fits 13 = .ok (.iload_n 3, 1) := by decide +kernel
theorem dX12_fits_14 : decode cX12_fits 14 = .ok (.iconst (-1), 1) := by decide +kernel
theorem dX12_fits_15 : decode cX12_fits 15 = .ok (.if_icmp .ne 7, 3) := by decide +kernel
theorem dX12_fits_18 : decode cX12_fits 18 = .ok (.iconst 1, 1) := by decide +kernel
theorem dX12_fits_19 : decode cX12_fits 19 = .ok (.goto 4, 3) := by decide +kernel
theorem dX12_fits_22 : decode cX12_fits 22 = .ok (.iconst 0, 1) := by decide +kernel
theorem dX12_fits_23 : decode cX12_fits 23 = .ok (.ireturn, 1) := by decide +kernel
theorem dX12_gate_0 : decode cX12_gate 0 = .ok (.iload_n 1, 1) := by decide +kernel
theorem dX12_gate_1 : decode cX12_gate 1 = .ok (.invokestatic 249, 3) := by decide +kernel
theorem dX12_gate_4 : decode cX12_gate 4 = .ok (.ifCond .eq 13, 3) := by decide +kernel
theorem dX12_gate_7 : decode cX12_gate 7 = .ok (.iload_n 2, 1) := by decide +kernel
theorem dX12_gate_8 : decode cX12_gate 8 = .ok (.iconst 0, 1) := by decide +kernel
theorem dX12_gate_9 : decode cX12_gate 9 = .ok (.bipush 8, 2) := by decide +kernel
theorem dX12_gate_11 : decode cX12_gate 11 = .ok (.invokestatic 212, 3) := by decide +kernel
theorem dX12_gate_14 : decode cX12_gate 14 = .ok (.ifCond .ne 5, 3) := by decide +kernel
theorem dX12_gate_17 : decode cX12_gate 17 = .ok (.iconst (-1), 1) := by decide +kernel
theorem dX12_gate_18 : decode cX12_gate 18 = .ok (.ireturn, 1) := by decide +kernel
theorem dX12_gate_19 : decode cX12_gate 19 = .ok (.iload_n 2, 1) := by decide +kernel
theorem dX12_gate_20 : decode cX12_gate 20 = .ok (.invokestatic 253, 3) := by decide +kernel
theorem dX12_gate_23 : decode cX12_gate 23 = .ok (.istore 6, 2) := by decide +kernel
theorem dX12_gate_25 : decode cX12_gate 25 = .ok (.aload_n 0, 1) := by decide +kernel
theorem dX12_gate_26 : decode cX12_gate 26 = .ok (.iload_n 1, 1) := by decide +kernel
theorem dX12_gate_27 : decode cX12_gate 27 = .ok (.iload 6, 2) := by decide +kernel
theorem dX12_gate_29 : decode cX12_gate 29 = .ok (.ifCond .le 7, 3) := by decide +kernel
theorem dX12_gate_32 : decode cX12_gate 32 = .ok (.iconst 1, 1) := by decide +kernel
theorem dX12_gate_33 : decode cX12_gate 33 = .ok (.goto 4, 3) := by decide +kernel
theorem dX12_gate_36 : decode cX12_gate 36 = .ok (.iconst 0, 1) := by decide +kernel
theorem dX12_gate_37 : decode cX12_gate 37 = .ok (.iload_n 3, 1) := by decide +kernel
theorem dX12_gate_38 : decode cX12_gate 38 = .ok (.invokevirtual 256, 3) := by decide +kernel
theorem dX12_gate_41 : decode cX12_gate 41 = .ok (.ifCond .eq 45, 3) := by decide +kernel
theorem dX12_gate_44 : decode cX12_gate 44 = .ok (.aload_n 0, 1) := by decide +kernel
theorem dX12_gate_45 : decode cX12_gate 45 = .ok (.iload_n 1, 1) := by decide +kernel
theorem dX12_gate_46 : decode cX12_gate 46 = .ok (.iload 6, 2) := by decide +kernel
theorem dX12_gate_48 : decode cX12_gate 48 = .ok (.iconst 1, 1) := by decide +kernel
theorem dX12_gate_49 : decode cX12_gate 49 = .ok (.if_icmp .le 7, 3) := by decide +kernel
theorem dX12_gate_52 : decode cX12_gate 52 = .ok (.iconst 1, 1) := by decide +kernel
theorem dX12_gate_53 : decode cX12_gate 53 = .ok (.goto 4, 3) := by decide +kernel
theorem dX12_gate_56 : decode cX12_gate 56 = .ok (.iconst 0, 1) := by decide +kernel
theorem dX12_gate_57 : decode cX12_gate 57 = .ok (.iload 4, 2) := by decide +kernel
theorem dX12_gate_59 : decode cX12_gate 59 = .ok (.invokevirtual 256, 3) := by decide +kernel
theorem dX12_gate_62 : decode cX12_gate 62 = .ok (.ifCond .eq 24, 3) := by decide +kernel
theorem dX12_gate_65 : decode cX12_gate 65 = .ok (.aload_n 0, 1) := by decide +kernel
theorem dX12_gate_66 : decode cX12_gate 66 = .ok (.iload_n 1, 1) := by decide +kernel
theorem dX12_gate_67 : decode cX12_gate 67 = .ok (.iload 6, 2) := by decide +kernel
theorem dX12_gate_69 : decode cX12_gate 69 = .ok (.iconst 2, 1) := by decide +kernel
theorem dX12_gate_70 : decode cX12_gate 70 = .ok (.if_icmp .le 7, 3) := by decide +kernel
theorem dX12_gate_73 : decode cX12_gate 73 = .ok (.iconst 1, 1) := by decide +kernel
theorem dX12_gate_74 : decode cX12_gate 74 = .ok (.goto 4, 3) := by decide +kernel
theorem dX12_gate_77 : decode cX12_gate 77 = .ok (.iconst 0, 1) := by decide +kernel
theorem dX12_gate_78 : decode cX12_gate 78 = .ok (.iload 5, 2) := by decide +kernel
theorem dX12_gate_80 : decode cX12_gate 80 = .ok (.invokevirtual 256, 3) := by decide +kernel
theorem dX12_gate_83 : decode cX12_gate 83 = .ok (.ifCond .ne 5, 3) := by decide +kernel
theorem dX12_gate_86 : decode cX12_gate 86 = .ok (.iconst (-1), 1) := by decide +kernel
theorem dX12_gate_87 : decode cX12_gate 87 = .ok (.ireturn, 1) := by decide +kernel
theorem dX12_gate_88 : decode cX12_gate 88 = .ok (.aload_n 0, 1) := by decide +kernel
theorem dX12_gate_89 : decode cX12_gate 89 = .ok (.getfield 16, 3) := by decide +kernel
theorem dX12_gate_92 : decode cX12_gate 92 = .ok (.iload_n 1, 1) := by decide +kernel
theorem dX12_gate_93 : decode cX12_gate 93 = .ok (.iaload, 1) := by decide +kernel
theorem dX12_gate_94 : decode cX12_gate 94 = .ok (.iload_n 1, 1) := by decide +kernel
theorem dX12_gate_95 : decode cX12_gate 95 = .ok (.ifCond .ne 8, 3) := by decide +kernel
theorem dX12_gate_98 : decode cX12_gate 98 = .ok (.bipush 40, 2) := by decide +kernel
theorem dX12_gate_100 : decode cX12_gate 100 = .ok (.goto 5, 3) := by decide +kernel
theorem dX12_gate_103 : decode cX12_gate 103 = .ok (.bipush 24, 2) := by decide +kernel
theorem dX12_gate_105 : decode cX12_gate 105 = .ok (.if_icmp .ne 6, 3) := by decide +kernel
theorem dX12_gate_108 : decode cX12_gate 108 = .ok (.bipush (-3), 2) := by decide +kernel
theorem dX12_gate_110 : decode cX12_gate 110 = .ok (.ireturn, 1) := by decide +kernel
theorem dX12_gate_111 : decode cX12_gate 111 = .ok (.aload_n 0, 1) := by decide +kernel
theorem dX12_gate_112 : decode cX12_gate 112 = .ok (.iload_n 1, 1) := by decide +kernel
theorem dX12_gate_113 : decode cX12_gate 113 = .ok (.iload_n 2, 1) := by decide +kernel
theorem dX12_gate_114 : decode cX12_gate 114 = .ok (.iload_n 3, 1) := by decide +kernel
theorem dX12_gate_115 : decode cX12_gate 115 = .ok (.iload 4, 2) := by decide +kernel
theorem dX12_gate_117 : decode cX12_gate 117 = .ok (.iload 5, 2) := by decide +kernel
theorem dX12_gate_119 : decode cX12_gate 119 = .ok (.invokevirtual 260, 3) := by decide +kernel
theorem dX12_gate_122 : decode cX12_gate 122 = .ok (.aload_n 0, 1) := by decide +kernel
theorem dX12_gate_123 : decode cX12_gate 123 = .ok (.iload_n 1, 1) := by decide +kernel
theorem dX12_gate_124 : decode cX12_gate 124 = .ok (.invokevirtual 264, 3) := by decide +kernel
theorem dX12_gate_127 : decode cX12_gate 127 = .ok (.aload_n 0, 1) := by decide +kernel
theorem dX12_gate_128 : decode cX12_gate 128 = .ok (.iload_n 1, 1) := by decide +kernel
theorem dX12_gate_129 : decode cX12_gate 129 = .ok (.invokevirtual 216, 3) := by decide +kernel
theorem dX12_gate_132 : decode cX12_gate 132 = .ok (.iconst 1, 1) := by decide +kernel
theorem dX12_gate_133 : decode cX12_gate 133 = .ok (.isub, 1) := by decide +kernel
theorem dX12_gate_134 : decode cX12_gate 134 = .ok (.ireturn, 1) := by decide +kernel
theorem dX12_looks_0 : decode cX12_looks 0 = .ok (.iconst 0, 1) := by decide +kernel
theorem dX12_looks_1 : decode cX12_looks 1 = .ok (.istore_n 3, 1) := by decide +kernel
theorem dX12_looks_2 : decode cX12_looks 2 = .ok (.iload_n 3, 1) := by decide +kernel
theorem dX12_looks_3 : decode cX12_looks 3 = .ok (.bipush 48, 2) := by decide +kernel
theorem dX12_looks_5 : decode cX12_looks 5 = .ok (.if_icmp .ge 25, 3) := by decide +kernel
theorem dX12_looks_8 : decode cX12_looks 8 = .ok (.aload_n 0, 1) := by decide +kernel
theorem dX12_looks_9 : decode cX12_looks 9 = .ok (.getfield 148, 3) := by decide +kernel
theorem dX12_looks_12 : decode cX12_looks 12 = .ok (.iload_n 3, 1) := by decide +kernel
theorem dX12_looks_13 : decode cX12_looks 13 = .ok (.iload_n 3, 1) := by decide +kernel
theorem dX12_looks_14 : decode cX12_looks 14 = .ok (.iload_n 2, 1) := by decide +kernel
theorem dX12_looks_15 : decode cX12_looks 15 = .ok (.if_icmp .ne 7, 3) := by decide +kernel
theorem dX12_looks_18 : decode cX12_looks 18 = .ok (.iconst 1, 1) := by decide +kernel
theorem dX12_looks_19 : decode cX12_looks 19 = .ok (.goto 4, 3) := by decide +kernel
theorem dX12_looks_22 : decode cX12_looks 22 = .ok (.iconst 0, 1) := by decide +kernel
theorem dX12_looks_23 : decode cX12_looks 23 = .ok (.bastore, 1) := by decide +kernel
theorem dX12_looks_24 : decode cX12_looks 24 = .ok (.iinc 3 1, 3) := by decide +kernel
theorem dX12_looks_27 : decode cX12_looks 27 = .ok (.goto (-25), 3) := by decide +kernel
theorem dX12_looks_30 : decode cX12_looks 30 = .ok (.iconst 1, 1) := by decide +kernel
theorem dX12_looks_31 : decode cX12_looks 31 = .ok (.istore_n 3, 1) := by decide +kernel
theorem dX12_looks_32 : decode cX12_looks 32 = .ok (.iload_n 3, 1) := by decide +kernel
theorem dX12_looks_33 : decode cX12_looks 33 = .ok (.ifCond .eq 116, 3) := by decide +kernel
theorem dX12_looks_36 : decode cX12_looks 36 = .ok (.iconst 0, 1) := by decide +kernel
theorem dX12_looks_37 : decode cX12_looks 37 = .ok (.istore_n 3, 1) := by decide +kernel
theorem dX12_looks_38 : decode cX12_looks 38 = .ok (.aload_n 0, 1) := by decide +kernel
theorem dX12_looks_39 : decode cX12_looks 39 = .ok (.invokevirtual 208, 3) := by decide +kernel
theorem dX12_looks_42 : decode cX12_looks 42 = .ok (.istore 4, 2) := by decide +kernel
theorem dX12_looks_44 : decode cX12_looks 44 = .ok (.iload 4, 2) := by decide +kernel
theorem dX12_looks_46 : decode cX12_looks 46 = .ok (.aload_n 0, 1) := by decide +kernel
theorem dX12_looks_47 : decode cX12_looks 47 = .ok (.iload_n 1, 1) := by decide +kernel
theorem dX12_looks_48 : decode cX12_looks 48 = .ok (.invokevirtual 216, 3) := by decide +kernel
theorem dX12_looks_51 : decode cX12_looks 51 = .ok (.if_icmp .ge 95, 3) := by decide +kernel
theorem dX12_looks_54 : decode cX12_looks 54 = .ok (.iconst 0, 1) := by decide +kernel
theorem dX12_looks_55 : decode cX12_looks 55 = .ok (.istore 5, 2) := by decide +kernel
theorem dX12_looks_57 : decode cX12_looks 57 = .ok (.iload 5, 2) := by decide +kernel
theorem dX12_looks_59 : decode cX12_looks 59 = .ok (.aload_n 0, 1) := by decide +kernel
theorem dX12_looks_60 : decode cX12_looks 60 = .ok (.getfield 20, 3) := by decide +kernel
theorem dX12_looks_63 : decode cX12_looks 63 = .ok (.bipush 48, 2) := by decide +kernel
theorem dX12_looks_65 : decode cX12_looks 65 = .ok (.iload_n 1, 1) := by decide +kernel
theorem dX12_looks_66 : decode cX12_looks 66 = .ok (.imul, 1) := by decide +kernel
theorem dX12_looks_67 : decode cX12_looks 67 = .ok (.iload 4, 2) := by decide +kernel
theorem dX12_looks_69 : decode cX12_looks 69 = .ok (.iadd, 1) := by decide +kernel
theorem dX12_looks_70 : decode cX12_looks 70 = .ok (.iaload, 1) := by decide +kernel
theorem dX12_looks_71 : decode cX12_looks 71 = .ok (.invokestatic 253, 3) := by decide +kernel
theorem dX12_looks_74 : decode cX12_looks 74 = .ok (.if_icmp .ge 66, 3) := by decide +kernel
theorem dX12_looks_77 : decode cX12_looks 77 = .ok (.aload_n 0, 1) := by decide +kernel
theorem dX12_looks_78 : decode cX12_looks 78 = .ok (.getfield 148, 3) := by decide +kernel
theorem dX12_looks_81 : decode cX12_looks 81 = .ok (.iload 4, 2) := by decide +kernel
theorem dX12_looks_83 : decode cX12_looks 83 = .ok (.baload, 1) := by decide +kernel
theorem dX12_looks_84 : decode cX12_looks 84 = .ok (.ifCond .eq 56, 3) := by decide +kernel
theorem dX12_looks_87 : decode cX12_looks 87 = .ok (.aload_n 0, 1) := by decide +kernel
theorem dX12_looks_88 : decode cX12_looks 88 = .ok (.getfield 23, 3) := by decide +kernel
theorem dX12_looks_91 : decode cX12_looks 91 = .ok (.iconst 3, 1) := by decide +kernel
theorem dX12_looks_92 : decode cX12_looks 92 = .ok (.bipush 48, 2) := by decide +kernel
theorem dX12_looks_94 : decode cX12_looks 94 = .ok (.iload_n 1, 1) := by decide +kernel
theorem dX12_looks_95 : decode cX12_looks 95 = .ok (.imul, 1) := by decide +kernel
theorem dX12_looks_96 : decode cX12_looks 96 = .ok (.iload 4, 2) := by decide +kernel
theorem dX12_looks_98 : decode cX12_looks 98 = .ok (.iadd, 1) := by decide +kernel
theorem dX12_looks_99 : decode cX12_looks 99 = .ok (.imul, 1) := by decide +kernel
theorem dX12_looks_100 : decode cX12_looks 100 = .ok (.iload 5, 2) := by decide +kernel
theorem dX12_looks_102 : decode cX12_looks 102 = .ok (.iadd, 1) := by decide +kernel
theorem dX12_looks_103 : decode cX12_looks 103 = .ok (.iaload, 1) := by decide +kernel
theorem dX12_looks_104 : decode cX12_looks 104 = .ok (.istore 6, 2) := by decide +kernel
theorem dX12_looks_106 : decode cX12_looks 106 = .ok (.iload_n 3, 1) := by decide +kernel
theorem dX12_looks_107 : decode cX12_looks 107 = .ok (.ifCond .ne 13, 3) := by decide +kernel
theorem dX12_looks_110 : decode cX12_looks 110 = .ok (.aload_n 0, 1) := by decide +kernel
theorem dX12_looks_111 : decode cX12_looks 111 = .ok (.getfield 148, 3) := by decide +kernel
theorem dX12_looks_114 : decode cX12_looks 114 = .ok (.iload 6, 2) := by decide +kernel
theorem dX12_looks_116 : decode cX12_looks 116 = .ok (.baload, 1) := by decide +kernel
theorem dX12_looks_117 : decode cX12_looks 117 = .ok (.ifCond .ne 7, 3) := by decide +kernel
theorem dX12_looks_120 : decode cX12_looks 120 = .ok (.iconst 1, 1) := by decide +kernel
theorem dX12_looks_121 : decode cX12_looks 121 = .ok (.goto 4, 3) := by decide +kernel
theorem dX12_looks_124 : decode cX12_looks 124 = .ok (.iconst 0, 1) := by decide +kernel
theorem dX12_looks_125 : decode cX12_looks 125 = .ok (.istore_n 3, 1) := by decide +kernel
theorem dX12_looks_126 : decode cX12_looks 126 = .ok (.aload_n 0, 1) := by decide +kernel
theorem dX12_looks_127 : decode cX12_looks 127 = .ok (.getfield 148, 3) := by decide +kernel
theorem dX12_looks_130 : decode cX12_looks 130 = .ok (.iload 6, 2) := by decide +kernel
theorem dX12_looks_132 : decode cX12_looks 132 = .ok (.iconst 1, 1) := by decide +kernel
theorem dX12_looks_133 : decode cX12_looks 133 = .ok (.bastore, 1) := by decide +kernel
theorem dX12_looks_134 : decode cX12_looks 134 = .ok (.iinc 5 1, 3) := by decide +kernel
theorem dX12_looks_137 : decode cX12_looks 137 = .ok (.goto (-80), 3) := by decide +kernel
theorem dX12_looks_140 : decode cX12_looks 140 = .ok (.iinc 4 1, 3) := by decide +kernel
theorem dX12_looks_143 : decode cX12_looks 143 = .ok (.goto (-99), 3) := by decide +kernel
theorem dX12_looks_146 : decode cX12_looks 146 = .ok (.goto (-114), 3) := by decide +kernel
theorem dX12_looks_149 : decode cX12_looks 149 = .ok (.return_, 1) := by decide +kernel
theorem dX12_doesHang_0 : decode cX12_doesHang 0 = .ok (.aload_n 0, 1) := by decide +kernel
theorem dX12_doesHang_1 : decode cX12_doesHang 1 = .ok (.iload_n 1, 1) := by decide +kernel
theorem dX12_doesHang_2 : decode cX12_doesHang 2 = .ok (.iload_n 2, 1) := by decide +kernel
theorem dX12_doesHang_3 : decode cX12_doesHang 3 = .ok (.invokevirtual 277, 3) := by decide +kernel
theorem dX12_doesHang_6 : decode cX12_doesHang 6 = .ok (.aload_n 0, 1) := by decide +kernel
theorem dX12_doesHang_7 : decode cX12_doesHang 7 = .ok (.getfield 148, 3) := by decide +kernel
theorem dX12_doesHang_10 : decode cX12_doesHang 10 = .ok (.iload_n 3, 1) := by decide +kernel
theorem dX12_doesHang_11 : decode cX12_doesHang 11 = .ok (.baload, 1) := by decide +kernel
theorem dX12_doesHang_12 : decode cX12_doesHang 12 = .ok (.ireturn, 1) := by decide +kernel
theorem dX12_rewire_0 : decode cX12_rewire 0 = .ok (.iload_n 1, 1) := by decide +kernel
theorem dX12_rewire_1 : decode cX12_rewire 1 = .ok (.invokestatic 249, 3) := by decide +kernel
theorem dX12_rewire_4 : decode cX12_rewire 4 = .ok (.ifCond .eq 46, 3) := by decide +kernel
theorem dX12_rewire_7 : decode cX12_rewire 7 = .ok (.aload_n 0, 1) := by decide +kernel
theorem dX12_rewire_8 : decode cX12_rewire 8 = .ok (.iload_n 1, 1) := by decide +kernel
theorem dX12_rewire_9 : decode cX12_rewire 9 = .ok (.iload_n 2, 1) := by decide +kernel
theorem dX12_rewire_10 : decode cX12_rewire 10 = .ok (.invokevirtual 268, 3) := by decide +kernel
theorem dX12_rewire_13 : decode cX12_rewire 13 = .ok (.ifCond .eq 37, 3) := by decide +kernel
theorem dX12_rewire_16 : decode cX12_rewire 16 = .ok (.iload_n 3, 1) := by decide +kernel
theorem dX12_rewire_17 : decode cX12_rewire 17 = .ok (.iconst 0, 1) := by decide +kernel
theorem dX12_rewire_18 : decode cX12_rewire 18 = .ok (.aload_n 0, 1) := by decide +kernel
theorem dX12_rewire_19 : decode cX12_rewire 19 = .ok (.getfield 20, 3) := by decide +kernel
theorem dX12_rewire_22 : decode cX12_rewire 22 = .ok (.bipush 48, 2) := by decide +kernel
theorem dX12_rewire_24 : decode cX12_rewire 24 = .ok (.iload_n 1, 1) := by decide +kernel
theorem dX12_rewire_25 : decode cX12_rewire 25 = .ok (.imul, 1) := by decide +kernel
theorem dX12_rewire_26 : decode cX12_rewire 26 = .ok (.iload_n 2, 1) := by decide +kernel
theorem dX12_rewire_27 : decode cX12_rewire 27 = .ok (.iadd, 1) := by decide +kernel
theorem dX12_rewire_28 : decode cX12_rewire 28 = .ok (.iaload, 1) := by decide +kernel
theorem dX12_rewire_29 : decode cX12_rewire 29 = .ok (.invokestatic 253, 3) := by decide +kernel
theorem dX12_rewire_32 : decode cX12_rewire 32 = .ok (.iconst 1, 1) := by decide +kernel
theorem dX12_rewire_33 : decode cX12_rewire 33 = .ok (.isub, 1) := by decide +kernel
theorem dX12_rewire_34 : decode cX12_rewire 34 = .ok (.invokestatic 212, 3) := by decide +kernel
theorem dX12_rewire_37 : decode cX12_rewire 37 = .ok (.ifCond .eq 13, 3) := by decide +kernel
theorem dX12_rewire_40 : decode cX12_rewire 40 = .ok (.aload_n 0, 1) := by decide +kernel
theorem dX12_rewire_41 : decode cX12_rewire 41 = .ok (.iload_n 1, 1) := by decide +kernel
theorem dX12_rewire_42 : decode cX12_rewire 42 = .ok (.iload 4, 2) := by decide +kernel
theorem dX12_rewire_44 : decode cX12_rewire 44 = .ok (.invokevirtual 245, 3) := by decide +kernel
theorem dX12_rewire_47 : decode cX12_rewire 47 = .ok (.ifCond .ne 5, 3) := by decide +kernel
theorem dX12_rewire_50 : decode cX12_rewire 50 = .ok (.iconst (-1), 1) := by decide +kernel
theorem dX12_rewire_51 : decode cX12_rewire 51 = .ok (.ireturn, 1) := by decide +kernel
theorem dX12_rewire_52 : decode cX12_rewire 52 = .ok (.aload_n 0, 1) := by decide +kernel
theorem dX12_rewire_53 : decode cX12_rewire 53 = .ok (.iload_n 1, 1) := by decide +kernel
theorem dX12_rewire_54 : decode cX12_rewire 54 = .ok (.iload 4, 2) := by decide +kernel
theorem dX12_rewire_56 : decode cX12_rewire 56 = .ok (.iload_n 2, 1) := by decide +kernel
theorem dX12_rewire_57 : decode cX12_rewire 57 = .ok (.invokevirtual 271, 3) := by decide +kernel
theorem dX12_rewire_60 : decode cX12_rewire 60 = .ok (.ifCond .eq 6, 3) := by decide +kernel
theorem dX12_rewire_63 : decode cX12_rewire 63 = .ok (.bipush (-2), 2) := by decide +kernel
theorem dX12_rewire_65 : decode cX12_rewire 65 = .ok (.ireturn, 1) := by decide +kernel
theorem dX12_rewire_66 : decode cX12_rewire 66 = .ok (.iconst 3, 1) := by decide +kernel
theorem dX12_rewire_67 : decode cX12_rewire 67 = .ok (.bipush 48, 2) := by decide +kernel
theorem dX12_rewire_69 : decode cX12_rewire 69 = .ok (.iload_n 1, 1) := by decide +kernel
theorem dX12_rewire_70 : decode cX12_rewire 70 = .ok (.imul, 1) := by decide +kernel
theorem dX12_rewire_71 : decode cX12_rewire 71 = .ok (.iload_n 2, 1) := by decide +kernel
theorem dX12_rewire_72 : decode cX12_rewire 72 = .ok (.iadd, 1) := by decide +kernel
theorem dX12_rewire_73 : decode cX12_rewire 73 = .ok (.imul, 1) := by decide +kernel
theorem dX12_rewire_74 : decode cX12_rewire 74 = .ok (.iload_n 3, 1) := by decide +kernel
theorem dX12_rewire_75 : decode cX12_rewire 75 = .ok (.iadd, 1) := by decide +kernel
theorem dX12_rewire_76 : decode cX12_rewire 76 = .ok (.istore 5, 2) := by decide +kernel
theorem dX12_rewire_78 : decode cX12_rewire 78 = .ok (.aload_n 0, 1) := by decide +kernel
theorem dX12_rewire_79 : decode cX12_rewire 79 = .ok (.getfield 23, 3) := by decide +kernel
theorem dX12_rewire_82 : decode cX12_rewire 82 = .ok (.iload 5, 2) := by decide +kernel
theorem dX12_rewire_84 : decode cX12_rewire 84 = .ok (.iaload, 1) := by decide +kernel
theorem dX12_rewire_85 : decode cX12_rewire 85 = .ok (.istore 6, 2) := by decide +kernel
theorem dX12_rewire_87 : decode cX12_rewire 87 = .ok (.aload_n 0, 1) := by decide +kernel
theorem dX12_rewire_88 : decode cX12_rewire 88 = .ok (.getfield 23, 3) := by decide +kernel
theorem dX12_rewire_91 : decode cX12_rewire 91 = .ok (.iload 5, 2) := by decide +kernel
theorem dX12_rewire_93 : decode cX12_rewire 93 = .ok (.iload 4, 2) := by decide +kernel
theorem dX12_rewire_95 : decode cX12_rewire 95 = .ok (.iastore, 1) := by decide +kernel
theorem dX12_rewire_96 : decode cX12_rewire 96 = .ok (.aload_n 0, 1) := by decide +kernel
theorem dX12_rewire_97 : decode cX12_rewire 97 = .ok (.iload_n 1, 1) := by decide +kernel
theorem dX12_rewire_98 : decode cX12_rewire 98 = .ok (.invokevirtual 264, 3) := by decide +kernel
theorem dX12_rewire_101 : decode cX12_rewire 101 = .ok (.iload 6, 2) := by decide +kernel
theorem dX12_rewire_103 : decode cX12_rewire 103 = .ok (.ireturn, 1) := by decide +kernel
theorem dX12_out_0 : decode cX12_out 0 = .ok (.iload_n 1, 1) := by decide +kernel
theorem dX12_out_1 : decode cX12_out 1 = .ok (.invokestatic 249, 3) := by decide +kernel
theorem dX12_out_4 : decode cX12_out 4 = .ok (.ifCond .eq 26, 3) := by decide +kernel
theorem dX12_out_7 : decode cX12_out 7 = .ok (.iload_n 2, 1) := by decide +kernel
theorem dX12_out_8 : decode cX12_out 8 = .ok (.iconst 0, 1) := by decide +kernel
theorem dX12_out_9 : decode cX12_out 9 = .ok (.aload_n 0, 1) := by decide +kernel
theorem dX12_out_10 : decode cX12_out 10 = .ok (.getfield 13, 3) := by decide +kernel
theorem dX12_out_13 : decode cX12_out 13 = .ok (.iconst 1, 1) := by decide +kernel
theorem dX12_out_14 : decode cX12_out 14 = .ok (.isub, 1) := by decide +kernel
theorem dX12_out_15 : decode cX12_out 15 = .ok (.invokestatic 212, 3) := by decide +kernel
theorem dX12_out_18 : decode cX12_out 18 = .ok (.ifCond .eq 12, 3) := by decide +kernel
theorem dX12_out_21 : decode cX12_out 21 = .ok (.aload_n 0, 1) := by decide +kernel
theorem dX12_out_22 : decode cX12_out 22 = .ok (.iload_n 1, 1) := by decide +kernel
theorem dX12_out_23 : decode cX12_out 23 = .ok (.iload_n 3, 1) := by decide +kernel
theorem dX12_out_24 : decode cX12_out 24 = .ok (.invokevirtual 245, 3) := by decide +kernel
theorem dX12_out_27 : decode cX12_out 27 = .ok (.ifCond .ne 5, 3) := by decide +kernel
theorem dX12_out_30 : decode cX12_out 30 = .ok (.iconst (-1), 1) := by decide +kernel
theorem dX12_out_31 : decode cX12_out 31 = .ok (.ireturn, 1) := by decide +kernel
theorem dX12_out_32 : decode cX12_out 32 = .ok (.aload_n 0, 1) := by decide +kernel
theorem dX12_out_33 : decode cX12_out 33 = .ok (.getfield 26, 3) := by decide +kernel
theorem dX12_out_36 : decode cX12_out 36 = .ok (.iconst 4, 1) := by decide +kernel
theorem dX12_out_37 : decode cX12_out 37 = .ok (.iload_n 1, 1) := by decide +kernel
theorem dX12_out_38 : decode cX12_out 38 = .ok (.imul, 1) := by decide +kernel
theorem dX12_out_39 : decode cX12_out 39 = .ok (.iload_n 2, 1) := by decide +kernel
theorem dX12_out_40 : decode cX12_out 40 = .ok (.iadd, 1) := by decide +kernel
theorem dX12_out_41 : decode cX12_out 41 = .ok (.iaload, 1) := by decide +kernel
theorem dX12_out_42 : decode cX12_out 42 = .ok (.istore 4, 2) := by decide +kernel
theorem dX12_out_44 : decode cX12_out 44 = .ok (.aload_n 0, 1) := by decide +kernel
theorem dX12_out_45 : decode cX12_out 45 = .ok (.getfield 26, 3) := by decide +kernel
theorem dX12_out_48 : decode cX12_out 48 = .ok (.iconst 4, 1) := by decide +kernel
theorem dX12_out_49 : decode cX12_out 49 = .ok (.iload_n 1, 1) := by decide +kernel
theorem dX12_out_50 : decode cX12_out 50 = .ok (.imul, 1) := by decide +kernel
theorem dX12_out_51 : decode cX12_out 51 = .ok (.iload_n 2, 1) := by decide +kernel
theorem dX12_out_52 : decode cX12_out 52 = .ok (.iadd, 1) := by decide +kernel
theorem dX12_out_53 : decode cX12_out 53 = .ok (.iload_n 3, 1) := by decide +kernel
theorem dX12_out_54 : decode cX12_out 54 = .ok (.iastore, 1) := by decide +kernel
theorem dX12_out_55 : decode cX12_out 55 = .ok (.aload_n 0, 1) := by decide +kernel
theorem dX12_out_56 : decode cX12_out 56 = .ok (.iload_n 1, 1) := by decide +kernel
theorem dX12_out_57 : decode cX12_out 57 = .ok (.invokevirtual 264, 3) := by decide +kernel
theorem dX12_out_60 : decode cX12_out 60 = .ok (.iload 4, 2) := by decide +kernel
theorem dX12_out_62 : decode cX12_out 62 = .ok (.ireturn, 1) := by decide +kernel
theorem dX12_next_0 : decode cX12_next 0 = .ok (.iload_n 1, 1) := by decide +kernel
theorem dX12_next_1 : decode cX12_next 1 = .ok (.invokestatic 249, 3) := by decide +kernel
theorem dX12_next_4 : decode cX12_next 4 = .ok (.ifCond .eq 26, 3) := by decide +kernel
theorem dX12_next_7 : decode cX12_next 7 = .ok (.iload_n 2, 1) := by decide +kernel
theorem dX12_next_8 : decode cX12_next 8 = .ok (.iconst 0, 1) := by decide +kernel
theorem dX12_next_9 : decode cX12_next 9 = .ok (.aload_n 0, 1) := by decide +kernel
theorem dX12_next_10 : decode cX12_next 10 = .ok (.getfield 205, 3) := by decide +kernel
theorem dX12_next_13 : decode cX12_next 13 = .ok (.iconst 1, 1) := by decide +kernel
theorem dX12_next_14 : decode cX12_next 14 = .ok (.isub, 1) := by decide +kernel
theorem dX12_next_15 : decode cX12_next 15 = .ok (.invokestatic 212, 3) := by decide +kernel
theorem dX12_next_18 : decode cX12_next 18 = .ok (.ifCond .eq 12, 3) := by decide +kernel
theorem dX12_next_21 : decode cX12_next 21 = .ok (.aload_n 0, 1) := by decide +kernel
theorem dX12_next_22 : decode cX12_next 22 = .ok (.iload_n 1, 1) := by decide +kernel
theorem dX12_next_23 : decode cX12_next 23 = .ok (.iload_n 3, 1) := by decide +kernel
theorem dX12_next_24 : decode cX12_next 24 = .ok (.invokevirtual 245, 3) := by decide +kernel
theorem dX12_next_27 : decode cX12_next 27 = .ok (.ifCond .ne 5, 3) := by decide +kernel
theorem dX12_next_30 : decode cX12_next 30 = .ok (.iconst (-1), 1) := by decide +kernel
theorem dX12_next_31 : decode cX12_next 31 = .ok (.ireturn, 1) := by decide +kernel
theorem dX12_next_32 : decode cX12_next 32 = .ok (.aload_n 0, 1) := by decide +kernel
theorem dX12_next_33 : decode cX12_next 33 = .ok (.getfield 29, 3) := by decide +kernel
theorem dX12_next_36 : decode cX12_next 36 = .ok (.iconst 2, 1) := by decide +kernel
theorem dX12_next_37 : decode cX12_next 37 = .ok (.iload_n 1, 1) := by decide +kernel
theorem dX12_next_38 : decode cX12_next 38 = .ok (.imul, 1) := by decide +kernel
theorem dX12_next_39 : decode cX12_next 39 = .ok (.iload_n 2, 1) := by decide +kernel
theorem dX12_next_40 : decode cX12_next 40 = .ok (.iadd, 1) := by decide +kernel
theorem dX12_next_41 : decode cX12_next 41 = .ok (.iaload, 1) := by decide +kernel
theorem dX12_next_42 : decode cX12_next 42 = .ok (.istore 4, 2) := by decide +kernel
theorem dX12_next_44 : decode cX12_next 44 = .ok (.aload_n 0, 1) := by decide +kernel
theorem dX12_next_45 : decode cX12_next 45 = .ok (.getfield 29, 3) := by decide +kernel
theorem dX12_next_48 : decode cX12_next 48 = .ok (.iconst 2, 1) := by decide +kernel
theorem dX12_next_49 : decode cX12_next 49 = .ok (.iload_n 1, 1) := by decide +kernel
theorem dX12_next_50 : decode cX12_next 50 = .ok (.imul, 1) := by decide +kernel
theorem dX12_next_51 : decode cX12_next 51 = .ok (.iload_n 2, 1) := by decide +kernel
theorem dX12_next_52 : decode cX12_next 52 = .ok (.iadd, 1) := by decide +kernel
theorem dX12_next_53 : decode cX12_next 53 = .ok (.iload_n 3, 1) := by decide +kernel
theorem dX12_next_54 : decode cX12_next 54 = .ok (.iastore, 1) := by decide +kernel
theorem dX12_next_55 : decode cX12_next 55 = .ok (.aload_n 0, 1) := by decide +kernel
theorem dX12_next_56 : decode cX12_next 56 = .ok (.iload_n 1, 1) := by decide +kernel
theorem dX12_next_57 : decode cX12_next 57 = .ok (.invokevirtual 264, 3) := by decide +kernel
theorem dX12_next_60 : decode cX12_next 60 = .ok (.iload 4, 2) := by decide +kernel
theorem dX12_next_62 : decode cX12_next 62 = .ok (.ireturn, 1) := by decide +kernel
theorem dX12_isCase_0 : decode cX12_isCase 0 = .ok (.iload_n 1, 1) := by decide +kernel
theorem dX12_isCase_1 : decode cX12_isCase 1 = .ok (.iconst 0, 1) := by decide +kernel
theorem dX12_isCase_2 : decode cX12_isCase 2 = .ok (.aload_n 0, 1) := by decide +kernel
theorem dX12_isCase_3 : decode cX12_isCase 3 = .ok (.invokevirtual 242, 3) := by decide +kernel
theorem dX12_isCase_6 : decode cX12_isCase 6 = .ok (.iconst 1, 1) := by decide +kernel
theorem dX12_isCase_7 : decode cX12_isCase 7 = .ok (.isub, 1) := by decide +kernel
theorem dX12_isCase_8 : decode cX12_isCase 8 = .ok (.invokestatic 212, 3) := by decide +kernel
theorem dX12_isCase_11 : decode cX12_isCase 11 = .ok (.ireturn, 1) := by decide +kernel
theorem dX12_free_0 : decode cX12_free 0 = .ok (.aload_n 0, 1) := by decide +kernel
theorem dX12_free_1 : decode cX12_free 1 = .ok (.iload_n 1, 1) := by decide +kernel
theorem dX12_free_2 : decode cX12_free 2 = .ok (.invokevirtual 274, 3) := by decide +kernel
theorem dX12_free_5 : decode cX12_free 5 = .ok (.ifCond .ne 5, 3) := by decide +kernel
theorem dX12_free_8 : decode cX12_free 8 = .ok (.iconst (-1), 1) := by decide +kernel
theorem dX12_free_9 : decode cX12_free 9 = .ok (.ireturn, 1) := by decide +kernel
theorem dX12_free_10 : decode cX12_free 10 = .ok (.aload_n 0, 1) := by decide +kernel
theorem dX12_free_11 : decode cX12_free 11 = .ok (.getfield 32, 3) := by decide +kernel
theorem dX12_free_14 : decode cX12_free 14 = .ok (.iload_n 1, 1) := by decide +kernel
theorem dX12_free_15 : decode cX12_free 15 = .ok (.aload_n 0, 1) := by decide +kernel
theorem dX12_free_16 : decode cX12_free 16 = .ok (.getfield 32, 3) := by decide +kernel
theorem dX12_free_19 : decode cX12_free 19 = .ok (.iload_n 1, 1) := by decide +kernel
theorem dX12_free_20 : decode cX12_free 20 = .ok (.baload, 1) := by decide +kernel
theorem dX12_free_21 : decode cX12_free 21 = .ok (.ifCond .ne 7, 3) := by decide +kernel
theorem dX12_free_24 : decode cX12_free 24 = .ok (.iconst 1, 1) := by decide +kernel
theorem dX12_free_25 : decode cX12_free 25 = .ok (.goto 4, 3) := by decide +kernel
theorem dX12_free_28 : decode cX12_free 28 = .ok (.iconst 0, 1) := by decide +kernel
theorem dX12_free_29 : decode cX12_free 29 = .ok (.bastore, 1) := by decide +kernel
theorem dX12_free_30 : decode cX12_free 30 = .ok (.aload_n 0, 1) := by decide +kernel
theorem dX12_free_31 : decode cX12_free 31 = .ok (.iconst 0, 1) := by decide +kernel
theorem dX12_free_32 : decode cX12_free 32 = .ok (.putfield 229, 3) := by decide +kernel
theorem dX12_free_35 : decode cX12_free 35 = .ok (.aload_n 0, 1) := by decide +kernel
theorem dX12_free_36 : decode cX12_free 36 = .ok (.getfield 32, 3) := by decide +kernel
theorem dX12_free_39 : decode cX12_free 39 = .ok (.iload_n 1, 1) := by decide +kernel
theorem dX12_free_40 : decode cX12_free 40 = .ok (.baload, 1) := by decide +kernel
theorem dX12_free_41 : decode cX12_free 41 = .ok (.ifCond .eq 7, 3) := by decide +kernel
theorem dX12_free_44 : decode cX12_free 44 = .ok (.iconst 1, 1) := by decide +kernel
theorem dX12_free_45 : decode cX12_free 45 = .ok (.goto 4, 3) := by decide +kernel
theorem dX12_free_48 : decode cX12_free 48 = .ok (.iconst 0, 1) := by decide +kernel
theorem dX12_free_49 : decode cX12_free 49 = .ok (.ireturn, 1) := by decide +kernel
theorem dX12_hangs_0 : decode cX12_hangs 0 = .ok (.iload_n 1, 1) := by decide +kernel
theorem dX12_hangs_1 : decode cX12_hangs 1 = .ok (.invokestatic 249, 3) := by decide +kernel
theorem dX12_hangs_4 : decode cX12_hangs 4 = .ok (.ifCond .eq 21, 3) := by decide +kernel
theorem dX12_hangs_7 : decode cX12_hangs 7 = .ok (.aload_n 0, 1) := by decide +kernel
theorem dX12_hangs_8 : decode cX12_hangs 8 = .ok (.iload_n 1, 1) := by decide +kernel
theorem dX12_hangs_9 : decode cX12_hangs 9 = .ok (.iload_n 2, 1) := by decide +kernel
theorem dX12_hangs_10 : decode cX12_hangs 10 = .ok (.invokevirtual 245, 3) := by decide +kernel
theorem dX12_hangs_13 : decode cX12_hangs 13 = .ok (.ifCond .eq 12, 3) := by decide +kernel
theorem dX12_hangs_16 : decode cX12_hangs 16 = .ok (.aload_n 0, 1) := by decide +kernel
theorem dX12_hangs_17 : decode cX12_hangs 17 = .ok (.iload_n 1, 1) := by decide +kernel
theorem dX12_hangs_18 : decode cX12_hangs 18 = .ok (.iload_n 3, 1) := by decide +kernel
theorem dX12_hangs_19 : decode cX12_hangs 19 = .ok (.invokevirtual 245, 3) := by decide +kernel
theorem dX12_hangs_22 : decode cX12_hangs 22 = .ok (.ifCond .ne 5, 3) := by decide +kernel
theorem dX12_hangs_25 : decode cX12_hangs 25 = .ok (.iconst (-1), 1) := by decide +kernel
theorem dX12_hangs_26 : decode cX12_hangs 26 = .ok (.ireturn, 1) := by decide +kernel
theorem dX12_hangs_27 : decode cX12_hangs 27 = .ok (.aload_n 0, 1) := by decide +kernel
theorem dX12_hangs_28 : decode cX12_hangs 28 = .ok (.iload_n 1, 1) := by decide +kernel
theorem dX12_hangs_29 : decode cX12_hangs 29 = .ok (.iload_n 2, 1) := by decide +kernel
theorem dX12_hangs_30 : decode cX12_hangs 30 = .ok (.iload_n 3, 1) := by decide +kernel
theorem dX12_hangs_31 : decode cX12_hangs 31 = .ok (.invokevirtual 271, 3) := by decide +kernel
theorem dX12_hangs_34 : decode cX12_hangs 34 = .ok (.ifCond .eq 7, 3) := by decide +kernel
theorem dX12_hangs_37 : decode cX12_hangs 37 = .ok (.iconst 1, 1) := by decide +kernel
theorem dX12_hangs_38 : decode cX12_hangs 38 = .ok (.goto 4, 3) := by decide +kernel
theorem dX12_hangs_41 : decode cX12_hangs 41 = .ok (.iconst 0, 1) := by decide +kernel
theorem dX12_hangs_42 : decode cX12_hangs 42 = .ok (.ireturn, 1) := by decide +kernel
theorem dX12_sorts_0 : decode cX12_sorts 0 = .ok (.iconst 0, 1) := by decide +kernel
theorem dX12_sorts_1 : decode cX12_sorts 1 = .ok (.istore_n 2, 1) := by decide +kernel
theorem dX12_sorts_2 : decode cX12_sorts 2 = .ok (.iload_n 2, 1) := by decide +kernel
theorem dX12_sorts_3 : decode cX12_sorts 3 = .ok (.bipush 48, 2) := by decide +kernel
theorem dX12_sorts_5 : decode cX12_sorts 5 = .ok (.if_icmp .ge 28, 3) := by decide +kernel
theorem dX12_sorts_8 : decode cX12_sorts 8 = .ok (.aload_n 0, 1) := by decide +kernel
theorem dX12_sorts_9 : decode cX12_sorts 9 = .ok (.getfield 154, 3) := by decide +kernel
theorem dX12_sorts_12 : decode cX12_sorts 12 = .ok (.iload_n 2, 1) := by decide +kernel
theorem dX12_sorts_13 : decode cX12_sorts 13 = .ok (.iload_n 2, 1) := by decide +kernel
theorem dX12_sorts_14 : decode cX12_sorts 14 = .ok (.aload_n 0, 1) := by decide +kernel
theorem dX12_sorts_15 : decode cX12_sorts 15 = .ok (.invokevirtual 208, 3) := by decide +kernel
theorem dX12_sorts_18 : decode cX12_sorts 18 = .ok (.if_icmp .ge 7, 3) := by decide +kernel
theorem dX12_sorts_21 : decode cX12_sorts 21 = .ok (.iconst 1, 1) := by decide +kernel
theorem dX12_sorts_22 : decode cX12_sorts 22 = .ok (.goto 4, 3) := by decide +kernel
theorem dX12_sorts_25 : decode cX12_sorts 25 = .ok (.iconst 0, 1) := by decide +kernel
theorem dX12_sorts_26 : decode cX12_sorts 26 = .ok (.bastore, 1) := by decide +kernel
theorem dX12_sorts_27 : decode cX12_sorts 27 = .ok (.iinc 2 1, 3) := by decide +kernel
theorem dX12_sorts_30 : decode cX12_sorts 30 = .ok (.goto (-28), 3) := by decide +kernel
theorem dX12_sorts_33 : decode cX12_sorts 33 = .ok (.iconst 0, 1) := by decide +kernel
theorem dX12_sorts_34 : decode cX12_sorts 34 = .ok (.istore_n 2, 1) := by decide +kernel
theorem dX12_sorts_35 : decode cX12_sorts 35 = .ok (.iload_n 2, 1) := by decide +kernel
theorem dX12_sorts_36 : decode cX12_sorts 36 = .ok (.aload_n 0, 1) := by decide +kernel
theorem dX12_sorts_37 : decode cX12_sorts 37 = .ok (.getfield 16, 3) := by decide +kernel
theorem dX12_sorts_40 : decode cX12_sorts 40 = .ok (.iload_n 1, 1) := by decide +kernel
theorem dX12_sorts_41 : decode cX12_sorts 41 = .ok (.iaload, 1) := by decide +kernel
theorem dX12_sorts_42 : decode cX12_sorts 42 = .ok (.if_icmp .ge 125, 3) := by decide +kernel
theorem dX12_sorts_45 : decode cX12_sorts 45 = .ok (.aload_n 0, 1) := by decide +kernel
theorem dX12_sorts_46 : decode cX12_sorts 46 = .ok (.invokevirtual 208, 3) := by decide +kernel
theorem dX12_sorts_49 : decode cX12_sorts 49 = .ok (.istore_n 3, 1) := by decide +kernel
theorem dX12_sorts_50 : decode cX12_sorts 50 = .ok (.iload_n 3, 1) := by decide +kernel
theorem dX12_sorts_51 : decode cX12_sorts 51 = .ok (.aload_n 0, 1) := by decide +kernel
theorem dX12_sorts_52 : decode cX12_sorts 52 = .ok (.iload_n 1, 1) := by decide +kernel
theorem dX12_sorts_53 : decode cX12_sorts 53 = .ok (.invokevirtual 216, 3) := by decide +kernel
theorem dX12_sorts_56 : decode cX12_sorts 56 = .ok (.if_icmp .ge 108, 3) := by decide +kernel
theorem dX12_sorts_59 : decode cX12_sorts 59 = .ok (.aload_n 0, 1) := by decide +kernel
theorem dX12_sorts_60 : decode cX12_sorts 60 = .ok (.getfield 154, 3) := by decide +kernel
theorem dX12_sorts_63 : decode cX12_sorts 63 = .ok (.iload_n 3, 1) := by decide +kernel
theorem dX12_sorts_64 : decode cX12_sorts 64 = .ok (.baload, 1) := by decide +kernel
theorem dX12_sorts_65 : decode cX12_sorts 65 = .ok (.ifCond .ne 7, 3) := by decide +kernel
theorem dX12_sorts_68 : decode cX12_sorts 68 = .ok (.iconst 1, 1) := by decide +kernel
theorem dX12_sorts_69 : decode cX12_sorts 69 = .ok (.goto 4, 3) := by decide +kernel
theorem dX12_sorts_72 : decode cX12_sorts 72 = .ok (.iconst 0, 1) := by decide +kernel
theorem dX12_sorts_73 : decode cX12_sorts 73 = .ok (.istore 4, 2) := by decide +kernel
theorem dX12_sorts_75 : decode cX12_sorts 75 = .ok (.iconst 0, 1) := by decide +kernel
theorem dX12_sorts_76 : decode cX12_sorts 76 = .ok (.istore 5, 2) := by decide +kernel
theorem dX12_sorts_78 : decode cX12_sorts 78 = .ok (.iload 5, 2) := by decide +kernel
theorem dX12_sorts_80 : decode cX12_sorts 80 = .ok (.aload_n 0, 1) := by decide +kernel
theorem dX12_sorts_81 : decode cX12_sorts 81 = .ok (.getfield 20, 3) := by decide +kernel
theorem dX12_sorts_84 : decode cX12_sorts 84 = .ok (.bipush 48, 2) := by decide +kernel
theorem dX12_sorts_86 : decode cX12_sorts 86 = .ok (.iload_n 1, 1) := by decide +kernel
theorem dX12_sorts_87 : decode cX12_sorts 87 = .ok (.imul, 1) := by decide +kernel
theorem dX12_sorts_88 : decode cX12_sorts 88 = .ok (.iload_n 3, 1) := by decide +kernel
theorem dX12_sorts_89 : decode cX12_sorts 89 = .ok (.iadd, 1) := by decide +kernel
theorem dX12_sorts_90 : decode cX12_sorts 90 = .ok (.iaload, 1) := by decide +kernel
theorem dX12_sorts_91 : decode cX12_sorts 91 = .ok (.invokestatic 253, 3) := by decide +kernel
theorem dX12_sorts_94 : decode cX12_sorts 94 = .ok (.if_icmp .ge 37, 3) := by decide +kernel
theorem dX12_sorts_97 : decode cX12_sorts 97 = .ok (.iload 4, 2) := by decide +kernel
theorem dX12_sorts_99 : decode cX12_sorts 99 = .ok (.ifCond .eq 32, 3) := by decide +kernel
theorem dX12_sorts_102 : decode cX12_sorts 102 = .ok (.aload_n 0, 1) := by decide +kernel
theorem dX12_sorts_103 : decode cX12_sorts 103 = .ok (.getfield 154, 3) := by decide +kernel
theorem dX12_sorts_106 : decode cX12_sorts 106 = .ok (.aload_n 0, 1) := by decide +kernel
theorem dX12_sorts_107 : decode cX12_sorts 107 = .ok (.getfield 23, 3) := by decide +kernel
theorem dX12_sorts_110 : decode cX12_sorts 110 = .ok (.iconst 3, 1) := by decide +kernel
theorem dX12_sorts_111 : decode cX12_sorts 111 = .ok (.bipush 48, 2) := by decide +kernel
theorem dX12_sorts_113 : decode cX12_sorts 113 = .ok (.iload_n 1, 1) := by decide +kernel
theorem dX12_sorts_114 : decode cX12_sorts 114 = .ok (.imul, 1) := by decide +kernel
theorem dX12_sorts_115 : decode cX12_sorts 115 = .ok (.iload_n 3, 1) := by decide +kernel
theorem dX12_sorts_116 : decode cX12_sorts 116 = .ok (.iadd, 1) := by decide +kernel
theorem dX12_sorts_117 : decode cX12_sorts 117 = .ok (.imul, 1) := by decide +kernel
theorem dX12_sorts_118 : decode cX12_sorts 118 = .ok (.iload 5, 2) := by decide +kernel
theorem dX12_sorts_120 : decode cX12_sorts 120 = .ok (.iadd, 1) := by decide +kernel
theorem dX12_sorts_121 : decode cX12_sorts 121 = .ok (.iaload, 1) := by decide +kernel
theorem dX12_sorts_122 : decode cX12_sorts 122 = .ok (.baload, 1) := by decide +kernel
theorem dX12_sorts_123 : decode cX12_sorts 123 = .ok (.istore 4, 2) := by decide +kernel
theorem dX12_sorts_125 : decode cX12_sorts 125 = .ok (.iinc 5 1, 3) := by decide +kernel
theorem dX12_sorts_128 : decode cX12_sorts 128 = .ok (.goto (-50), 3) := by decide +kernel
theorem dX12_sorts_131 : decode cX12_sorts 131 = .ok (.iload 4, 2) := by decide +kernel
theorem dX12_sorts_133 : decode cX12_sorts 133 = .ok (.ifCond .eq 25, 3) := by decide +kernel
theorem dX12_sorts_136 : decode cX12_sorts 136 = .ok (.aload_n 0, 1) := by decide +kernel
theorem dX12_sorts_137 : decode cX12_sorts 137 = .ok (.getfield 154, 3) := by decide +kernel
theorem dX12_sorts_140 : decode cX12_sorts 140 = .ok (.iload_n 3, 1) := by decide +kernel
theorem dX12_sorts_141 : decode cX12_sorts 141 = .ok (.iconst 1, 1) := by decide +kernel
theorem dX12_sorts_142 : decode cX12_sorts 142 = .ok (.bastore, 1) := by decide +kernel
theorem dX12_sorts_143 : decode cX12_sorts 143 = .ok (.aload_n 0, 1) := by decide +kernel
theorem dX12_sorts_144 : decode cX12_sorts 144 = .ok (.getfield 151, 3) := by decide +kernel
theorem dX12_sorts_147 : decode cX12_sorts 147 = .ok (.bipush 40, 2) := by decide +kernel
theorem dX12_sorts_149 : decode cX12_sorts 149 = .ok (.iload_n 1, 1) := by decide +kernel
theorem dX12_sorts_150 : decode cX12_sorts 150 = .ok (.imul, 1) := by decide +kernel
theorem dX12_sorts_151 : decode cX12_sorts 151 = .ok (.iload_n 2, 1) := by decide +kernel
theorem dX12_sorts_152 : decode cX12_sorts 152 = .ok (.iadd, 1) := by decide +kernel
theorem dX12_sorts_153 : decode cX12_sorts 153 = .ok (.iload_n 3, 1) := by decide +kernel
theorem dX12_sorts_154 : decode cX12_sorts 154 = .ok (.iastore, 1) := by decide +kernel
theorem dX12_sorts_155 : decode cX12_sorts 155 = .ok (.iinc 2 1, 3) := by decide +kernel
theorem dX12_sorts_158 : decode cX12_sorts 158 = .ok (.iinc 3 1, 3) := by decide +kernel
theorem dX12_sorts_161 : decode cX12_sorts 161 = .ok (.goto (-111), 3) := by decide +kernel
theorem dX12_sorts_164 : decode cX12_sorts 164 = .ok (.goto (-129), 3) := by decide +kernel
theorem dX12_sorts_167 : decode cX12_sorts 167 = .ok (.return_, 1) := by decide +kernel
theorem dX12_inputWord_0 : decode cX12_inputWord 0 = .ok (.lconst 0, 1) := by decide +kernel
theorem dX12_inputWord_1 : decode cX12_inputWord 1 = .ok (.lstore_n 2, 1) := by decide +kernel
theorem dX12_inputWord_2 : decode cX12_inputWord 2 = .ok (.iconst 0, 1) := by decide +kernel
theorem dX12_inputWord_3 : decode cX12_inputWord 3 = .ok (.istore 4, 2) := by decide +kernel
theorem dX12_inputWord_5 : decode cX12_inputWord 5 = .ok (.iload 4, 2) := by decide +kernel
theorem dX12_inputWord_7 : decode cX12_inputWord 7 = .ok (.bipush 64, 2) := by decide +kernel
theorem dX12_inputWord_9 : decode cX12_inputWord 9 = .ok (.if_icmp .ge 35, 3) := by decide +kernel
theorem dX12_inputWord_12 : decode cX12_inputWord 12 = .ok (.lload_n 2, 1) := by decide +kernel
theorem dX12_inputWord_13 : decode cX12_inputWord 13 = .ok (.bipush 64, 2) := by decide +kernel
theorem dX12_inputWord_15 : decode cX12_inputWord 15 = .ok (.iload_n 1, 1) := by decide +kernel
theorem dX12_inputWord_16 : decode cX12_inputWord 16 = .ok (.imul, 1) := by decide +kernel
theorem dX12_inputWord_17 : decode cX12_inputWord 17 = .ok (.iload 4, 2) := by decide +kernel
theorem dX12_inputWord_19 : decode cX12_inputWord 19 = .ok (.iadd, 1) := by decide +kernel
theorem dX12_inputWord_20 : decode cX12_inputWord 20 = .ok (.iload_n 0, 1) := by decide +kernel
theorem dX12_inputWord_21 : decode cX12_inputWord 21 = .ok (.ishr, 1) := by decide +kernel
theorem dX12_inputWord_22 : decode cX12_inputWord 22 = .ok (.iconst 1, 1) := by decide +kernel
theorem dX12_inputWord_23 : decode cX12_inputWord 23 = .ok (.iand, 1) := by decide +kernel
theorem dX12_inputWord_24 : decode cX12_inputWord 24 = .ok (.iconst 1, 1) := by decide +kernel
theorem dX12_inputWord_25 : decode cX12_inputWord 25 = .ok (.if_icmp .ne 10, 3) := by decide +kernel
theorem dX12_inputWord_28 : decode cX12_inputWord 28 = .ok (.lconst 1, 1) := by decide +kernel
theorem dX12_inputWord_29 : decode cX12_inputWord 29 = .ok (.iload 4, 2) := by decide +kernel
theorem dX12_inputWord_31 : decode cX12_inputWord 31 = .ok (.lshl, 1) := by decide +kernel
theorem dX12_inputWord_32 : decode cX12_inputWord 32 = .ok (.goto 4, 3) := by decide +kernel
theorem dX12_inputWord_35 : decode cX12_inputWord 35 = .ok (.lconst 0, 1) := by decide +kernel
theorem dX12_inputWord_36 : decode cX12_inputWord 36 = .ok (.lor, 1) := by decide +kernel
theorem dX12_inputWord_37 : decode cX12_inputWord 37 = .ok (.lstore_n 2, 1) := by decide +kernel
theorem dX12_inputWord_38 : decode cX12_inputWord 38 = .ok (.iinc 4 1, 3) := by decide +kernel
theorem dX12_inputWord_41 : decode cX12_inputWord 41 = .ok (.goto (-36), 3) := by decide +kernel
theorem dX12_inputWord_44 : decode cX12_inputWord 44 = .ok (.lload_n 2, 1) := by decide +kernel
theorem dX12_inputWord_45 : decode cX12_inputWord 45 = .ok (.lreturn, 1) := by decide +kernel
theorem dX12_two_0 : decode cX12_two 0 = .ok (.iload_n 0, 1) := by decide +kernel
theorem dX12_two_1 : decode cX12_two 1 = .ok (.tableswitch 51 1 4 #[31, 35, 39, 43], 31) := by decide +kernel
theorem dX12_two_32 : decode cX12_two 32 = .ok (.lload_n 1, 1) := by decide +kernel
theorem dX12_two_33 : decode cX12_two 33 = .ok (.lload_n 3, 1) := by decide +kernel
theorem dX12_two_34 : decode cX12_two 34 = .ok (.land, 1) := by decide +kernel
theorem dX12_two_35 : decode cX12_two 35 = .ok (.lreturn, 1) := by decide +kernel
theorem dX12_two_36 : decode cX12_two 36 = .ok (.lload_n 1, 1) := by decide +kernel
theorem dX12_two_37 : decode cX12_two 37 = .ok (.lload_n 3, 1) := by decide +kernel
theorem dX12_two_38 : decode cX12_two 38 = .ok (.lor, 1) := by decide +kernel
theorem dX12_two_39 : decode cX12_two 39 = .ok (.lreturn, 1) := by decide +kernel
theorem dX12_two_40 : decode cX12_two 40 = .ok (.lload_n 1, 1) := by decide +kernel
theorem dX12_two_41 : decode cX12_two 41 = .ok (.lload_n 3, 1) := by decide +kernel
theorem dX12_two_42 : decode cX12_two 42 = .ok (.lxor, 1) := by decide +kernel
theorem dX12_two_43 : decode cX12_two 43 = .ok (.lreturn, 1) := by decide +kernel
theorem dX12_two_44 : decode cX12_two 44 = .ok (.lload_n 1, 1) := by decide +kernel
theorem dX12_two_45 : decode cX12_two 45 = .ok (.lload_n 3, 1) := by decide +kernel
theorem dX12_two_46 : decode cX12_two 46 = .ok (.land, 1) := by decide +kernel
theorem dX12_two_47 : decode cX12_two 47 = .ok (.ldc2_w 281, 3) := by decide +kernel
theorem dX12_two_50 : decode cX12_two 50 = .ok (.lxor, 1) := by decide +kernel
theorem dX12_two_51 : decode cX12_two 51 = .ok (.lreturn, 1) := by decide +kernel
theorem dX12_two_52 : decode cX12_two 52 = .ok (.lload_n 1, 1) := by decide +kernel
theorem dX12_two_53 : decode cX12_two 53 = .ok (.lload_n 3, 1) := by decide +kernel
theorem dX12_two_54 : decode cX12_two 54 = .ok (.lor, 1) := by decide +kernel
theorem dX12_two_55 : decode cX12_two 55 = .ok (.ldc2_w 281, 3) := by decide +kernel
theorem dX12_two_58 : decode cX12_two 58 = .ok (.lxor, 1) := by decide +kernel
theorem dX12_two_59 : decode cX12_two 59 = .ok (.lreturn, 1) := by decide +kernel
theorem dX12_worked_0 : decode cX12_worked 0 = .ok (.bipush 48, 2) := by decide +kernel
theorem dX12_worked_2 : decode cX12_worked 2 = .ok (.iload_n 1, 1) := by decide +kernel
theorem dX12_worked_3 : decode cX12_worked 3 = .ok (.imul, 1) := by decide +kernel
theorem dX12_worked_4 : decode cX12_worked 4 = .ok (.iload_n 2, 1) := by decide +kernel
theorem dX12_worked_5 : decode cX12_worked 5 = .ok (.iadd, 1) := by decide +kernel
theorem dX12_worked_6 : decode cX12_worked 6 = .ok (.istore 4, 2) := by decide +kernel
theorem dX12_worked_8 : decode cX12_worked 8 = .ok (.aload_n 0, 1) := by decide +kernel
theorem dX12_worked_9 : decode cX12_worked 9 = .ok (.getfield 20, 3) := by decide +kernel
theorem dX12_worked_12 : decode cX12_worked 12 = .ok (.iload 4, 2) := by decide +kernel
theorem dX12_worked_14 : decode cX12_worked 14 = .ok (.iaload, 1) := by decide +kernel
theorem dX12_worked_15 : decode cX12_worked 15 = .ok (.istore 5, 2) := by decide +kernel
theorem dX12_worked_17 : decode cX12_worked 17 = .ok (.iload 5, 2) := by decide +kernel
theorem dX12_worked_19 : decode cX12_worked 19 = .ok (.invokestatic 253, 3) := by decide +kernel
theorem dX12_worked_22 : decode cX12_worked 22 = .ok (.ifCond .le 29, 3) := by decide +kernel
theorem dX12_worked_25 : decode cX12_worked 25 = .ok (.aload_n 0, 1) := by decide +kernel
theorem dX12_worked_26 : decode cX12_worked 26 = .ok (.getfield 157, 3) := by decide +kernel
theorem dX12_worked_29 : decode cX12_worked 29 = .ok (.iconst 4, 1) := by decide +kernel
theorem dX12_worked_30 : decode cX12_worked 30 = .ok (.bipush 48, 2) := by decide +kernel
theorem dX12_worked_32 : decode cX12_worked 32 = .ok (.iload_n 1, 1) := by decide +kernel
theorem dX12_worked_33 : decode cX12_worked 33 = .ok (.imul, 1) := by decide +kernel
theorem dX12_worked_34 : decode cX12_worked 34 = .ok (.aload_n 0, 1) := by decide +kernel
theorem dX12_worked_35 : decode cX12_worked 35 = .ok (.getfield 23, 3) := by decide +kernel
theorem dX12_worked_38 : decode cX12_worked 38 = .ok (.iconst 3, 1) := by decide +kernel
theorem dX12_worked_39 : decode cX12_worked 39 = .ok (.iload 4, 2) := by decide +kernel
theorem dX12_worked_41 : decode cX12_worked 41 = .ok (.imul, 1) := by decide +kernel
theorem dX12_worked_42 : decode cX12_worked 42 = .ok (.iaload, 1) := by decide +kernel
theorem dX12_worked_43 : decode cX12_worked 43 = .ok (.iadd, 1) := by decide +kernel
theorem dX12_worked_44 : decode cX12_worked 44 = .ok (.imul, 1) := by decide +kernel
theorem dX12_worked_45 : decode cX12_worked 45 = .ok (.iload_n 3, 1) := by decide +kernel
theorem dX12_worked_46 : decode cX12_worked 46 = .ok (.iadd, 1) := by decide +kernel
theorem dX12_worked_47 : decode cX12_worked 47 = .ok (.laload, 1) := by decide +kernel
theorem dX12_worked_48 : decode cX12_worked 48 = .ok (.goto 4, 3) := by decide +kernel
theorem dX12_worked_51 : decode cX12_worked 51 = .ok (.lconst 0, 1) := by decide +kernel
theorem dX12_worked_52 : decode cX12_worked 52 = .ok (.lstore 6, 2) := by decide +kernel
theorem dX12_worked_54 : decode cX12_worked 54 = .ok (.iload 5, 2) := by decide +kernel
theorem dX12_worked_56 : decode cX12_worked 56 = .ok (.invokestatic 253, 3) := by decide +kernel
theorem dX12_worked_59 : decode cX12_worked 59 = .ok (.iconst 1, 1) := by decide +kernel
theorem dX12_worked_60 : decode cX12_worked 60 = .ok (.if_icmp .le 31, 3) := by decide +kernel
theorem dX12_worked_63 : decode cX12_worked 63 = .ok (.aload_n 0, 1) := by decide +kernel
theorem dX12_worked_64 : decode cX12_worked 64 = .ok (.getfield 157, 3) := by decide +kernel
theorem dX12_worked_67 : decode cX12_worked 67 = .ok (.iconst 4, 1) := by decide +kernel
theorem dX12_worked_68 : decode cX12_worked 68 = .ok (.bipush 48, 2) := by decide +kernel
theorem dX12_worked_70 : decode cX12_worked 70 = .ok (.iload_n 1, 1) := by decide +kernel
theorem dX12_worked_71 : decode cX12_worked 71 = .ok (.imul, 1) := by decide +kernel
theorem dX12_worked_72 : decode cX12_worked 72 = .ok (.aload_n 0, 1) := by decide +kernel
theorem dX12_worked_73 : decode cX12_worked 73 = .ok (.getfield 23, 3) := by decide +kernel
theorem dX12_worked_76 : decode cX12_worked 76 = .ok (.iconst 3, 1) := by decide +kernel
theorem dX12_worked_77 : decode cX12_worked 77 = .ok (.iload 4, 2) := by decide +kernel
theorem dX12_worked_79 : decode cX12_worked 79 = .ok (.imul, 1) := by decide +kernel
theorem dX12_worked_80 : decode cX12_worked 80 = .ok (.iconst 1, 1) := by decide +kernel
theorem dX12_worked_81 : decode cX12_worked 81 = .ok (.iadd, 1) := by decide +kernel
theorem dX12_worked_82 : decode cX12_worked 82 = .ok (.iaload, 1) := by decide +kernel
theorem dX12_worked_83 : decode cX12_worked 83 = .ok (.iadd, 1) := by decide +kernel
theorem dX12_worked_84 : decode cX12_worked 84 = .ok (.imul, 1) := by decide +kernel
theorem dX12_worked_85 : decode cX12_worked 85 = .ok (.iload_n 3, 1) := by decide +kernel
theorem dX12_worked_86 : decode cX12_worked 86 = .ok (.iadd, 1) := by decide +kernel
theorem dX12_worked_87 : decode cX12_worked 87 = .ok (.laload, 1) := by decide +kernel
theorem dX12_worked_88 : decode cX12_worked 88 = .ok (.goto 4, 3) := by decide +kernel
theorem dX12_worked_91 : decode cX12_worked 91 = .ok (.lconst 0, 1) := by decide +kernel
theorem dX12_worked_92 : decode cX12_worked 92 = .ok (.lstore 8, 2) := by decide +kernel
theorem dX12_worked_94 : decode cX12_worked 94 = .ok (.iload 5, 2) := by decide +kernel
theorem dX12_worked_96 : decode cX12_worked 96 = .ok (.invokestatic 253, 3) := by decide +kernel
theorem dX12_worked_99 : decode cX12_worked 99 = .ok (.iconst 2, 1) := by decide +kernel
theorem dX12_worked_100 : decode cX12_worked 100 = .ok (.if_icmp .le 31, 3) := by decide +kernel
theorem dX12_worked_103 : decode cX12_worked 103 = .ok (.aload_n 0, 1) := by decide +kernel
theorem dX12_worked_104 : decode cX12_worked 104 = .ok (.getfield 157, 3) := by decide +kernel
theorem dX12_worked_107 : decode cX12_worked 107 = .ok (.iconst 4, 1) := by decide +kernel
theorem dX12_worked_108 : decode cX12_worked 108 = .ok (.bipush 48, 2) := by decide +kernel
theorem dX12_worked_110 : decode cX12_worked 110 = .ok (.iload_n 1, 1) := by decide +kernel
theorem dX12_worked_111 : decode cX12_worked 111 = .ok (.imul, 1) := by decide +kernel
theorem dX12_worked_112 : decode cX12_worked 112 = .ok (.aload_n 0, 1) := by decide +kernel
theorem dX12_worked_113 : decode cX12_worked 113 = .ok (.getfield 23, 3) := by decide +kernel
theorem dX12_worked_116 : decode cX12_worked 116 = .ok (.iconst 3, 1) := by decide +kernel
theorem dX12_worked_117 : decode cX12_worked 117 = .ok (.iload 4, 2) := by decide +kernel
theorem dX12_worked_119 : decode cX12_worked 119 = .ok (.imul, 1) := by decide +kernel
theorem dX12_worked_120 : decode cX12_worked 120 = .ok (.iconst 2, 1) := by decide +kernel
theorem dX12_worked_121 : decode cX12_worked 121 = .ok (.iadd, 1) := by decide +kernel
theorem dX12_worked_122 : decode cX12_worked 122 = .ok (.iaload, 1) := by decide +kernel
theorem dX12_worked_123 : decode cX12_worked 123 = .ok (.iadd, 1) := by decide +kernel
theorem dX12_worked_124 : decode cX12_worked 124 = .ok (.imul, 1) := by decide +kernel
theorem dX12_worked_125 : decode cX12_worked 125 = .ok (.iload_n 3, 1) := by decide +kernel
theorem dX12_worked_126 : decode cX12_worked 126 = .ok (.iadd, 1) := by decide +kernel
theorem dX12_worked_127 : decode cX12_worked 127 = .ok (.laload, 1) := by decide +kernel
theorem dX12_worked_128 : decode cX12_worked 128 = .ok (.goto 4, 3) := by decide +kernel
theorem dX12_worked_131 : decode cX12_worked 131 = .ok (.lconst 0, 1) := by decide +kernel
theorem dX12_worked_132 : decode cX12_worked 132 = .ok (.lstore 10, 2) := by decide +kernel
theorem dX12_worked_134 : decode cX12_worked 134 = .ok (.iload 5, 2) := by decide +kernel
theorem dX12_worked_136 : decode cX12_worked 136 = .ok (.ifCond .ne 12, 3) := by decide +kernel
theorem dX12_worked_139 : decode cX12_worked 139 = .ok (.lload 6, 2) := by decide +kernel
theorem dX12_worked_141 : decode cX12_worked 141 = .ok (.ldc2_w 281, 3) := by decide +kernel
theorem dX12_worked_144 : decode cX12_worked 144 = .ok (.lxor, 1) := by decide +kernel
theorem dX12_worked_145 : decode cX12_worked 145 = .ok (.goto 61, 3) := by decide +kernel
theorem dX12_worked_148 : decode cX12_worked 148 = .ok (.iload 5, 2) := by decide +kernel
theorem dX12_worked_150 : decode cX12_worked 150 = .ok (.bipush 6, 2) := by decide +kernel
theorem dX12_worked_152 : decode cX12_worked 152 = .ok (.if_icmp .ne 21, 3) := by decide +kernel
theorem dX12_worked_155 : decode cX12_worked 155 = .ok (.lload 6, 2) := by decide +kernel
theorem dX12_worked_157 : decode cX12_worked 157 = .ok (.lload 8, 2) := by decide +kernel
theorem dX12_worked_159 : decode cX12_worked 159 = .ok (.land, 1) := by decide +kernel
theorem dX12_worked_160 : decode cX12_worked 160 = .ok (.lload 6, 2) := by decide +kernel
theorem dX12_worked_162 : decode cX12_worked 162 = .ok (.ldc2_w 281, 3) := by decide +kernel
theorem dX12_worked_165 : decode cX12_worked 165 = .ok (.lxor, 1) := by decide +kernel
theorem dX12_worked_166 : decode cX12_worked 166 = .ok (.lload 10, 2) := by decide +kernel
theorem dX12_worked_168 : decode cX12_worked 168 = .ok (.land, 1) := by decide +kernel
theorem dX12_worked_169 : decode cX12_worked 169 = .ok (.lor, 1) := by decide +kernel
theorem dX12_worked_170 : decode cX12_worked 170 = .ok (.goto 36, 3) := by decide +kernel
theorem dX12_worked_173 : decode cX12_worked 173 = .ok (.iload 5, 2) := by decide +kernel
theorem dX12_worked_175 : decode cX12_worked 175 = .ok (.bipush 7, 2) := by decide +kernel
theorem dX12_worked_177 : decode cX12_worked 177 = .ok (.if_icmp .ne 7, 3) := by decide +kernel
theorem dX12_worked_180 : decode cX12_worked 180 = .ok (.lconst 0, 1) := by decide +kernel
theorem dX12_worked_181 : decode cX12_worked 181 = .ok (.goto 25, 3) := by decide +kernel
theorem dX12_worked_184 : decode cX12_worked 184 = .ok (.iload 5, 2) := by decide +kernel
theorem dX12_worked_186 : decode cX12_worked 186 = .ok (.bipush 8, 2) := by decide +kernel
theorem dX12_worked_188 : decode cX12_worked 188 = .ok (.if_icmp .ne 9, 3) := by decide +kernel
theorem dX12_worked_191 : decode cX12_worked 191 = .ok (.ldc2_w 281, 3) := by decide +kernel
theorem dX12_worked_194 : decode cX12_worked 194 = .ok (.goto 12, 3) := by decide +kernel
theorem dX12_worked_197 : decode cX12_worked 197 = .ok (.iload 5, 2) := by decide +kernel
theorem dX12_worked_199 : decode cX12_worked 199 = .ok (.lload 6, 2) := by decide +kernel
theorem dX12_worked_201 : decode cX12_worked 201 = .ok (.lload 8, 2) := by decide +kernel
theorem dX12_worked_203 : decode cX12_worked 203 = .ok (.invokestatic 283, 3) := by decide +kernel
theorem dX12_worked_206 : decode cX12_worked 206 = .ok (.lreturn, 1) := by decide +kernel
theorem dX12_begins_0 : decode cX12_begins 0 = .ok (.aload_n 0, 1) := by decide +kernel
theorem dX12_begins_1 : decode cX12_begins 1 = .ok (.iload_n 1, 1) := by decide +kernel
theorem dX12_begins_2 : decode cX12_begins 2 = .ok (.invokevirtual 287, 3) := by decide +kernel
theorem dX12_begins_5 : decode cX12_begins 5 = .ok (.iconst 0, 1) := by decide +kernel
theorem dX12_begins_6 : decode cX12_begins 6 = .ok (.istore_n 2, 1) := by decide +kernel
theorem dX12_begins_7 : decode cX12_begins 7 = .ok (.iload_n 2, 1) := by decide +kernel
theorem dX12_begins_8 : decode cX12_begins 8 = .ok (.aload_n 0, 1) := by decide +kernel
theorem dX12_begins_9 : decode cX12_begins 9 = .ok (.invokevirtual 208, 3) := by decide +kernel
theorem dX12_begins_12 : decode cX12_begins 12 = .ok (.if_icmp .ge 42, 3) := by decide +kernel
theorem dX12_begins_15 : decode cX12_begins 15 = .ok (.iconst 0, 1) := by decide +kernel
theorem dX12_begins_16 : decode cX12_begins 16 = .ok (.istore_n 3, 1) := by decide +kernel
theorem dX12_begins_17 : decode cX12_begins 17 = .ok (.iload_n 3, 1) := by decide +kernel
theorem dX12_begins_18 : decode cX12_begins 18 = .ok (.iconst 4, 1) := by decide +kernel
theorem dX12_begins_19 : decode cX12_begins 19 = .ok (.if_icmp .ge 29, 3) := by decide +kernel
theorem dX12_begins_22 : decode cX12_begins 22 = .ok (.aload_n 0, 1) := by decide +kernel
theorem dX12_begins_23 : decode cX12_begins 23 = .ok (.getfield 157, 3) := by decide +kernel
theorem dX12_begins_26 : decode cX12_begins 26 = .ok (.iconst 4, 1) := by decide +kernel
theorem dX12_begins_27 : decode cX12_begins 27 = .ok (.bipush 48, 2) := by decide +kernel
theorem dX12_begins_29 : decode cX12_begins 29 = .ok (.iload_n 1, 1) := by decide +kernel
theorem dX12_begins_30 : decode cX12_begins 30 = .ok (.imul, 1) := by decide +kernel
theorem dX12_begins_31 : decode cX12_begins 31 = .ok (.iload_n 2, 1) := by decide +kernel
theorem dX12_begins_32 : decode cX12_begins 32 = .ok (.iadd, 1) := by decide +kernel
theorem dX12_begins_33 : decode cX12_begins 33 = .ok (.imul, 1) := by decide +kernel
theorem dX12_begins_34 : decode cX12_begins 34 = .ok (.iload_n 3, 1) := by decide +kernel
theorem dX12_begins_35 : decode cX12_begins 35 = .ok (.iadd, 1) := by decide +kernel
theorem dX12_begins_36 : decode cX12_begins 36 = .ok (.iload_n 2, 1) := by decide +kernel
theorem dX12_begins_37 : decode cX12_begins 37 = .ok (.iload_n 3, 1) := by decide +kernel
theorem dX12_begins_38 : decode cX12_begins 38 = .ok (.invokestatic 290, 3) := by decide +kernel
theorem dX12_begins_41 : decode cX12_begins 41 = .ok (.lastore, 1) := by decide +kernel
theorem dX12_begins_42 : decode cX12_begins 42 = .ok (.iinc 3 1, 3) := by decide +kernel
theorem dX12_begins_45 : decode cX12_begins 45 = .ok (.goto (-28), 3) := by decide +kernel
theorem dX12_begins_48 : decode cX12_begins 48 = .ok (.iinc 2 1, 3) := by decide +kernel
theorem dX12_begins_51 : decode cX12_begins 51 = .ok (.goto (-44), 3) := by decide +kernel
theorem dX12_begins_54 : decode cX12_begins 54 = .ok (.return_, 1) := by decide +kernel
theorem dX12_works_0 : decode cX12_works 0 = .ok (.iconst 0, 1) := by decide +kernel
theorem dX12_works_1 : decode cX12_works 1 = .ok (.istore_n 2, 1) := by decide +kernel
theorem dX12_works_2 : decode cX12_works 2 = .ok (.iload_n 2, 1) := by decide +kernel
theorem dX12_works_3 : decode cX12_works 3 = .ok (.aload_n 0, 1) := by decide +kernel
theorem dX12_works_4 : decode cX12_works 4 = .ok (.getfield 16, 3) := by decide +kernel
theorem dX12_works_7 : decode cX12_works 7 = .ok (.iload_n 1, 1) := by decide +kernel
theorem dX12_works_8 : decode cX12_works 8 = .ok (.iaload, 1) := by decide +kernel
theorem dX12_works_9 : decode cX12_works 9 = .ok (.if_icmp .ge 134, 3) := by decide +kernel
theorem dX12_works_12 : decode cX12_works 12 = .ok (.aload_n 0, 1) := by decide +kernel
theorem dX12_works_13 : decode cX12_works 13 = .ok (.getfield 151, 3) := by decide +kernel
theorem dX12_works_16 : decode cX12_works 16 = .ok (.bipush 40, 2) := by decide +kernel
theorem dX12_works_18 : decode cX12_works 18 = .ok (.iload_n 1, 1) := by decide +kernel
theorem dX12_works_19 : decode cX12_works 19 = .ok (.imul, 1) := by decide +kernel
theorem dX12_works_20 : decode cX12_works 20 = .ok (.iload_n 2, 1) := by decide +kernel
theorem dX12_works_21 : decode cX12_works 21 = .ok (.iadd, 1) := by decide +kernel
theorem dX12_works_22 : decode cX12_works 22 = .ok (.iaload, 1) := by decide +kernel
theorem dX12_works_23 : decode cX12_works 23 = .ok (.istore_n 3, 1) := by decide +kernel
theorem dX12_works_24 : decode cX12_works 24 = .ok (.iconst (-1), 1) := by decide +kernel
theorem dX12_works_25 : decode cX12_works 25 = .ok (.istore 4, 2) := by decide +kernel
theorem dX12_works_27 : decode cX12_works 27 = .ok (.iconst 0, 1) := by decide +kernel
theorem dX12_works_28 : decode cX12_works 28 = .ok (.istore 5, 2) := by decide +kernel
theorem dX12_works_30 : decode cX12_works 30 = .ok (.iload 5, 2) := by decide +kernel
theorem dX12_works_32 : decode cX12_works 32 = .ok (.aload_n 0, 1) := by decide +kernel
theorem dX12_works_33 : decode cX12_works 33 = .ok (.getfield 294, 3) := by decide +kernel
theorem dX12_works_36 : decode cX12_works 36 = .ok (.if_icmp .ge 33, 3) := by decide +kernel
theorem dX12_works_39 : decode cX12_works 39 = .ok (.iload_n 1, 1) := by decide +kernel
theorem dX12_works_40 : decode cX12_works 40 = .ok (.ifCond .ne 29, 3) := by decide +kernel
theorem dX12_works_43 : decode cX12_works 43 = .ok (.aload_n 0, 1) := by decide +kernel
theorem dX12_works_44 : decode cX12_works 44 = .ok (.getfield 160, 3) := by decide +kernel
theorem dX12_works_47 : decode cX12_works 47 = .ok (.iload 5, 2) := by decide +kernel
theorem dX12_works_49 : decode cX12_works 49 = .ok (.iaload, 1) := by decide +kernel
theorem dX12_works_50 : decode cX12_works 50 = .ok (.iload_n 3, 1) := by decide +kernel
theorem dX12_works_51 : decode cX12_works 51 = .ok (.if_icmp .ne 8, 3) := by decide +kernel
theorem dX12_works_54 : decode cX12_works 54 = .ok (.iload 5, 2) := by decide +kernel
theorem dX12_works_56 : decode cX12_works 56 = .ok (.goto 5, 3) := by decide +kernel
theorem dX12_works_59 : decode cX12_works 59 = .ok (.iload 4, 2) := by decide +kernel
theorem dX12_works_61 : decode cX12_works 61 = .ok (.istore 4, 2) := by decide +kernel
theorem dX12_works_63 : decode cX12_works 63 = .ok (.iinc 5 1, 3) := by decide +kernel
theorem dX12_works_66 : decode cX12_works 66 = .ok (.goto (-36), 3) := by decide +kernel
theorem dX12_works_69 : decode cX12_works 69 = .ok (.iconst 0, 1) := by decide +kernel
theorem dX12_works_70 : decode cX12_works 70 = .ok (.istore 5, 2) := by decide +kernel
theorem dX12_works_72 : decode cX12_works 72 = .ok (.iload 5, 2) := by decide +kernel
theorem dX12_works_74 : decode cX12_works 74 = .ok (.iconst 4, 1) := by decide +kernel
theorem dX12_works_75 : decode cX12_works 75 = .ok (.if_icmp .ge 62, 3) := by decide +kernel
theorem dX12_works_78 : decode cX12_works 78 = .ok (.aload_n 0, 1) := by decide +kernel
theorem dX12_works_79 : decode cX12_works 79 = .ok (.getfield 157, 3) := by decide +kernel
theorem dX12_works_82 : decode cX12_works 82 = .ok (.iconst 4, 1) := by decide +kernel
theorem dX12_works_83 : decode cX12_works 83 = .ok (.bipush 48, 2) := by decide +kernel
theorem dX12_works_85 : decode cX12_works 85 = .ok (.iload_n 1, 1) := by decide +kernel
theorem dX12_works_86 : decode cX12_works 86 = .ok (.imul, 1) := by decide +kernel
theorem dX12_works_87 : decode cX12_works 87 = .ok (.iload_n 3, 1) := by decide +kernel
theorem dX12_works_88 : decode cX12_works 88 = .ok (.iadd, 1) := by decide +kernel
theorem dX12_works_89 : decode cX12_works 89 = .ok (.imul, 1) := by decide +kernel
theorem dX12_works_90 : decode cX12_works 90 = .ok (.iload 5, 2) := by decide +kernel
theorem dX12_works_92 : decode cX12_works 92 = .ok (.iadd, 1) := by decide +kernel
theorem dX12_works_93 : decode cX12_works 93 = .ok (.iload 4, 2) := by decide +kernel
theorem dX12_works_95 : decode cX12_works 95 = .ok (.iconst (-1), 1) := by decide +kernel
theorem dX12_works_96 : decode cX12_works 96 = .ok (.if_icmp .ne 14, 3) := by decide +kernel
theorem dX12_works_99 : decode cX12_works 99 = .ok (.aload_n 0, 1) := by decide +kernel
theorem dX12_works_100 : decode cX12_works 100 = .ok (.iload_n 1, 1) := by decide +kernel
theorem dX12_works_101 : decode cX12_works 101 = .ok (.iload_n 3, 1) := by decide +kernel
theorem dX12_works_102 : decode cX12_works 102 = .ok (.iload 5, 2) := by decide +kernel
theorem dX12_works_104 : decode cX12_works 104 = .ok (.invokevirtual 297, 3) := by decide +kernel
theorem dX12_works_107 : decode cX12_works 107 = .ok (.goto 23, 3) := by decide +kernel
theorem dX12_works_110 : decode cX12_works 110 = .ok (.aload_n 0, 1) := by decide +kernel
theorem dX12_works_111 : decode cX12_works 111 = .ok (.getfield 301, 3) := by decide +kernel
theorem dX12_works_114 : decode cX12_works 114 = .ok (.iload 4, 2) := by decide +kernel
theorem dX12_works_116 : decode cX12_works 116 = .ok (.ishr, 1) := by decide +kernel
theorem dX12_works_117 : decode cX12_works 117 = .ok (.iconst 1, 1) := by decide +kernel
theorem dX12_works_118 : decode cX12_works 118 = .ok (.iand, 1) := by decide +kernel
theorem dX12_works_119 : decode cX12_works 119 = .ok (.iconst 1, 1) := by decide +kernel
theorem dX12_works_120 : decode cX12_works 120 = .ok (.if_icmp .ne 9, 3) := by decide +kernel
theorem dX12_works_123 : decode cX12_works 123 = .ok (.ldc2_w 281, 3) := by decide +kernel
theorem dX12_works_126 : decode cX12_works 126 = .ok (.goto 4, 3) := by decide +kernel
theorem dX12_works_129 : decode cX12_works 129 = .ok (.lconst 0, 1) := by decide +kernel
theorem dX12_works_130 : decode cX12_works 130 = .ok (.lastore, 1) := by decide +kernel
theorem dX12_works_131 : decode cX12_works 131 = .ok (.iinc 5 1, 3) := by decide +kernel
theorem dX12_works_134 : decode cX12_works 134 = .ok (.goto (-62), 3) := by decide +kernel
theorem dX12_works_137 : decode cX12_works 137 = .ok (.iinc 2 1, 3) := by decide +kernel
theorem dX12_works_140 : decode cX12_works 140 = .ok (.goto (-138), 3) := by decide +kernel
theorem dX12_works_143 : decode cX12_works 143 = .ok (.return_, 1) := by decide +kernel
theorem dX12_knows_0 : decode cX12_knows 0 = .ok (.aload_n 0, 1) := by decide +kernel
theorem dX12_knows_1 : decode cX12_knows 1 = .ok (.iconst 0, 1) := by decide +kernel
theorem dX12_knows_2 : decode cX12_knows 2 = .ok (.putfield 294, 3) := by decide +kernel
theorem dX12_knows_5 : decode cX12_knows 5 = .ok (.aload_n 0, 1) := by decide +kernel
theorem dX12_knows_6 : decode cX12_knows 6 = .ok (.iload_n 1, 1) := by decide +kernel
theorem dX12_knows_7 : decode cX12_knows 7 = .ok (.invokevirtual 304, 3) := by decide +kernel
theorem dX12_knows_10 : decode cX12_knows 10 = .ok (.aload_n 0, 1) := by decide +kernel
theorem dX12_knows_11 : decode cX12_knows 11 = .ok (.iload_n 1, 1) := by decide +kernel
theorem dX12_knows_12 : decode cX12_knows 12 = .ok (.invokevirtual 307, 3) := by decide +kernel
theorem dX12_knows_15 : decode cX12_knows 15 = .ok (.return_, 1) := by decide +kernel
theorem dX12_isAt_0 : decode cX12_isAt 0 = .ok (.aload_n 0, 1) := by decide +kernel
theorem dX12_isAt_1 : decode cX12_isAt 1 = .ok (.getfield 157, 3) := by decide +kernel
theorem dX12_isAt_4 : decode cX12_isAt 4 = .ok (.iconst 4, 1) := by decide +kernel
theorem dX12_isAt_5 : decode cX12_isAt 5 = .ok (.bipush 48, 2) := by decide +kernel
theorem dX12_isAt_7 : decode cX12_isAt 7 = .ok (.iload_n 1, 1) := by decide +kernel
theorem dX12_isAt_8 : decode cX12_isAt 8 = .ok (.imul, 1) := by decide +kernel
theorem dX12_isAt_9 : decode cX12_isAt 9 = .ok (.iload_n 2, 1) := by decide +kernel
theorem dX12_isAt_10 : decode cX12_isAt 10 = .ok (.iadd, 1) := by decide +kernel
theorem dX12_isAt_11 : decode cX12_isAt 11 = .ok (.imul, 1) := by decide +kernel
theorem dX12_isAt_12 : decode cX12_isAt 12 = .ok (.iload_n 3, 1) := by decide +kernel
theorem dX12_isAt_13 : decode cX12_isAt 13 = .ok (.bipush 64, 2) := by decide +kernel
theorem dX12_isAt_15 : decode cX12_isAt 15 = .ok (.idiv, 1) := by decide +kernel
theorem dX12_isAt_16 : decode cX12_isAt 16 = .ok (.iadd, 1) := by decide +kernel
theorem dX12_isAt_17 : decode cX12_isAt 17 = .ok (.laload, 1) := by decide +kernel
theorem dX12_isAt_18 : decode cX12_isAt 18 = .ok (.iload_n 3, 1) := by decide +kernel
theorem dX12_isAt_19 : decode cX12_isAt 19 = .ok (.bipush 64, 2) := by decide +kernel
theorem dX12_isAt_21 : decode cX12_isAt 21 = .ok (.irem, 1) := by decide +kernel
theorem dX12_isAt_22 : decode cX12_isAt 22 = .ok (.lshr, 1) := by decide +kernel
theorem dX12_isAt_23 : decode cX12_isAt 23 = .ok (.lconst 1, 1) := by decide +kernel
theorem dX12_isAt_24 : decode cX12_isAt 24 = .ok (.land, 1) := by decide +kernel
theorem dX12_isAt_25 : decode cX12_isAt 25 = .ok (.lconst 1, 1) := by decide +kernel
theorem dX12_isAt_26 : decode cX12_isAt 26 = .ok (.lcmp, 1) := by decide +kernel
theorem dX12_isAt_27 : decode cX12_isAt 27 = .ok (.ifCond .ne 7, 3) := by decide +kernel
theorem dX12_isAt_30 : decode cX12_isAt 30 = .ok (.iconst 1, 1) := by decide +kernel
theorem dX12_isAt_31 : decode cX12_isAt 31 = .ok (.goto 4, 3) := by decide +kernel
theorem dX12_isAt_34 : decode cX12_isAt 34 = .ok (.iconst 0, 1) := by decide +kernel
theorem dX12_isAt_35 : decode cX12_isAt 35 = .ok (.ireturn, 1) := by decide +kernel
theorem dX12_value_0 : decode cX12_value 0 = .ok (.iload_n 1, 1) := by decide +kernel
theorem dX12_value_1 : decode cX12_value 1 = .ok (.invokestatic 249, 3) := by decide +kernel
theorem dX12_value_4 : decode cX12_value 4 = .ok (.ifCond .eq 20, 3) := by decide +kernel
theorem dX12_value_7 : decode cX12_value 7 = .ok (.aload_n 0, 1) := by decide +kernel
theorem dX12_value_8 : decode cX12_value 8 = .ok (.iload_n 1, 1) := by decide +kernel
theorem dX12_value_9 : decode cX12_value 9 = .ok (.iload_n 2, 1) := by decide +kernel
theorem dX12_value_10 : decode cX12_value 10 = .ok (.invokevirtual 245, 3) := by decide +kernel
theorem dX12_value_13 : decode cX12_value 13 = .ok (.ifCond .eq 11, 3) := by decide +kernel
theorem dX12_value_16 : decode cX12_value 16 = .ok (.aload_n 0, 1) := by decide +kernel
theorem dX12_value_17 : decode cX12_value 17 = .ok (.iload_n 3, 1) := by decide +kernel
theorem dX12_value_18 : decode cX12_value 18 = .ok (.invokevirtual 274, 3) := by decide +kernel
theorem dX12_value_21 : decode cX12_value 21 = .ok (.ifCond .ne 5, 3) := by decide +kernel
theorem dX12_value_24 : decode cX12_value 24 = .ok (.iconst (-1), 1) := by decide +kernel
theorem dX12_value_25 : decode cX12_value 25 = .ok (.ireturn, 1) := by decide +kernel
theorem dX12_value_26 : decode cX12_value 26 = .ok (.aload_n 0, 1) := by decide +kernel
theorem dX12_value_27 : decode cX12_value 27 = .ok (.iload_n 1, 1) := by decide +kernel
theorem dX12_value_28 : decode cX12_value 28 = .ok (.invokevirtual 310, 3) := by decide +kernel
theorem dX12_value_31 : decode cX12_value 31 = .ok (.aload_n 0, 1) := by decide +kernel
theorem dX12_value_32 : decode cX12_value 32 = .ok (.iload_n 1, 1) := by decide +kernel
theorem dX12_value_33 : decode cX12_value 33 = .ok (.iload_n 2, 1) := by decide +kernel
theorem dX12_value_34 : decode cX12_value 34 = .ok (.iload_n 3, 1) := by decide +kernel
theorem dX12_value_35 : decode cX12_value 35 = .ok (.invokevirtual 313, 3) := by decide +kernel
theorem dX12_value_38 : decode cX12_value 38 = .ok (.ifCond .eq 7, 3) := by decide +kernel
theorem dX12_value_41 : decode cX12_value 41 = .ok (.iconst 1, 1) := by decide +kernel
theorem dX12_value_42 : decode cX12_value 42 = .ok (.goto 4, 3) := by decide +kernel
theorem dX12_value_45 : decode cX12_value 45 = .ok (.iconst 0, 1) := by decide +kernel
theorem dX12_value_46 : decode cX12_value 46 = .ok (.ireturn, 1) := by decide +kernel
theorem dX12_row_0 : decode cX12_row 0 = .ok (.aload_n 0, 1) := by decide +kernel
theorem dX12_row_1 : decode cX12_row 1 = .ok (.iconst 0, 1) := by decide +kernel
theorem dX12_row_2 : decode cX12_row 2 = .ok (.putfield 202, 3) := by decide +kernel
theorem dX12_row_5 : decode cX12_row 5 = .ok (.iload_n 1, 1) := by decide +kernel
theorem dX12_row_6 : decode cX12_row 6 = .ok (.invokestatic 249, 3) := by decide +kernel
theorem dX12_row_9 : decode cX12_row 9 = .ok (.ifCond .eq 21, 3) := by decide +kernel
theorem dX12_row_12 : decode cX12_row 12 = .ok (.aload_n 0, 1) := by decide +kernel
theorem dX12_row_13 : decode cX12_row 13 = .ok (.iload_n 1, 1) := by decide +kernel
theorem dX12_row_14 : decode cX12_row 14 = .ok (.iload_n 2, 1) := by decide +kernel
theorem dX12_row_15 : decode cX12_row 15 = .ok (.invokevirtual 245, 3) := by decide +kernel
theorem dX12_row_18 : decode cX12_row 18 = .ok (.ifCond .eq 12, 3) := by decide +kernel
theorem dX12_row_21 : decode cX12_row 21 = .ok (.iload_n 3, 1) := by decide +kernel
theorem dX12_row_22 : decode cX12_row 22 = .ok (.iconst 0, 1) := by decide +kernel
theorem dX12_row_23 : decode cX12_row 23 = .ok (.iconst 3, 1) := by decide +kernel
theorem dX12_row_24 : decode cX12_row 24 = .ok (.invokestatic 212, 3) := by decide +kernel
theorem dX12_row_27 : decode cX12_row 27 = .ok (.ifCond .ne 10, 3) := by decide +kernel
theorem dX12_row_30 : decode cX12_row 30 = .ok (.aload_n 0, 1) := by decide +kernel
theorem dX12_row_31 : decode cX12_row 31 = .ok (.iconst 1, 1) := by decide +kernel
theorem dX12_row_32 : decode cX12_row 32 = .ok (.putfield 202, 3) := by decide +kernel
theorem dX12_row_35 : decode cX12_row 35 = .ok (.lconst 0, 1) := by decide +kernel
theorem dX12_row_36 : decode cX12_row 36 = .ok (.lreturn, 1) := by decide +kernel
theorem dX12_row_37 : decode cX12_row 37 = .ok (.aload_n 0, 1) := by decide +kernel
theorem dX12_row_38 : decode cX12_row 38 = .ok (.iload_n 1, 1) := by decide +kernel
theorem dX12_row_39 : decode cX12_row 39 = .ok (.invokevirtual 310, 3) := by decide +kernel
theorem dX12_row_42 : decode cX12_row 42 = .ok (.lconst 0, 1) := by decide +kernel
theorem dX12_row_43 : decode cX12_row 43 = .ok (.lstore 4, 2) := by decide +kernel
theorem dX12_row_45 : decode cX12_row 45 = .ok (.bipush 64, 2) := by decide +kernel
theorem dX12_row_47 : decode cX12_row 47 = .ok (.iload_n 3, 1) := by decide +kernel
theorem dX12_row_48 : decode cX12_row 48 = .ok (.imul, 1) := by decide +kernel
theorem dX12_row_49 : decode cX12_row 49 = .ok (.istore 6, 2) := by decide +kernel
theorem dX12_row_51 : decode cX12_row 51 = .ok (.iload 6, 2) := by decide +kernel
theorem dX12_row_53 : decode cX12_row 53 = .ok (.bipush 64, 2) := by decide +kernel
theorem dX12_row_55 : decode cX12_row 55 = .ok (.iload_n 3, 1) := by decide +kernel
theorem dX12_row_56 : decode cX12_row 56 = .ok (.imul, 1) := by decide +kernel
theorem dX12_row_57 : decode cX12_row 57 = .ok (.bipush 64, 2) := by decide +kernel
theorem dX12_row_59 : decode cX12_row 59 = .ok (.iadd, 1) := by decide +kernel
theorem dX12_row_60 : decode cX12_row 60 = .ok (.if_icmp .ge 45, 3) := by decide +kernel
theorem dX12_row_63 : decode cX12_row 63 = .ok (.iload 6, 2) := by decide +kernel
theorem dX12_row_65 : decode cX12_row 65 = .ok (.aload_n 0, 1) := by decide +kernel
theorem dX12_row_66 : decode cX12_row 66 = .ok (.invokevirtual 242, 3) := by decide +kernel
theorem dX12_row_69 : decode cX12_row 69 = .ok (.if_icmp .ge 36, 3) := by decide +kernel
theorem dX12_row_72 : decode cX12_row 72 = .ok (.lload 4, 2) := by decide +kernel
theorem dX12_row_74 : decode cX12_row 74 = .ok (.aload_n 0, 1) := by decide +kernel
theorem dX12_row_75 : decode cX12_row 75 = .ok (.iload_n 1, 1) := by decide +kernel
theorem dX12_row_76 : decode cX12_row 76 = .ok (.iload_n 2, 1) := by decide +kernel
theorem dX12_row_77 : decode cX12_row 77 = .ok (.iload 6, 2) := by decide +kernel
theorem dX12_row_79 : decode cX12_row 79 = .ok (.invokevirtual 313, 3) := by decide +kernel
theorem dX12_row_82 : decode cX12_row 82 = .ok (.ifCond .eq 13, 3) := by decide +kernel
theorem dX12_row_85 : decode cX12_row 85 = .ok (.lconst 1, 1) := by decide +kernel
theorem dX12_row_86 : decode cX12_row 86 = .ok (.iload 6, 2) := by decide +kernel
theorem dX12_row_88 : decode cX12_row 88 = .ok (.bipush 64, 2) := by decide +kernel
theorem dX12_row_90 : decode cX12_row 90 = .ok (.irem, 1) := by decide +kernel
theorem dX12_row_91 : decode cX12_row 91 = .ok (.lshl, 1) := by decide +kernel
theorem dX12_row_92 : decode cX12_row 92 = .ok (.goto 4, 3) := by decide +kernel
theorem dX12_row_95 : decode cX12_row 95 = .ok (.lconst 0, 1) := by decide +kernel
theorem dX12_row_96 : decode cX12_row 96 = .ok (.lor, 1) := by decide +kernel
theorem dX12_row_97 : decode cX12_row 97 = .ok (.lstore 4, 2) := by decide +kernel
theorem dX12_row_99 : decode cX12_row 99 = .ok (.iinc 6 1, 3) := by decide +kernel
theorem dX12_row_102 : decode cX12_row 102 = .ok (.goto (-51), 3) := by decide +kernel
theorem dX12_row_105 : decode cX12_row 105 = .ok (.lload 4, 2) := by decide +kernel
theorem dX12_row_107 : decode cX12_row 107 = .ok (.lreturn, 1) := by decide +kernel
theorem dX12_observed_0 : decode cX12_observed 0 = .ok (.aload_n 0, 1) := by decide +kernel
theorem dX12_observed_1 : decode cX12_observed 1 = .ok (.getfield 13, 3) := by decide +kernel
theorem dX12_observed_4 : decode cX12_observed 4 = .ok (.aload_n 0, 1) := by decide +kernel
theorem dX12_observed_5 : decode cX12_observed 5 = .ok (.getfield 205, 3) := by decide +kernel
theorem dX12_observed_8 : decode cX12_observed 8 = .ok (.iadd, 1) := by decide +kernel
theorem dX12_observed_9 : decode cX12_observed 9 = .ok (.ireturn, 1) := by decide +kernel
theorem dX12_seen_0 : decode cX12_seen 0 = .ok (.iload_n 2, 1) := by decide +kernel
theorem dX12_seen_1 : decode cX12_seen 1 = .ok (.aload_n 0, 1) := by decide +kernel
theorem dX12_seen_2 : decode cX12_seen 2 = .ok (.getfield 13, 3) := by decide +kernel
theorem dX12_seen_5 : decode cX12_seen 5 = .ok (.if_icmp .ge 16, 3) := by decide +kernel
theorem dX12_seen_8 : decode cX12_seen 8 = .ok (.aload_n 0, 1) := by decide +kernel
theorem dX12_seen_9 : decode cX12_seen 9 = .ok (.getfield 26, 3) := by decide +kernel
theorem dX12_seen_12 : decode cX12_seen 12 = .ok (.iconst 4, 1) := by decide +kernel
theorem dX12_seen_13 : decode cX12_seen 13 = .ok (.iload_n 1, 1) := by decide +kernel
theorem dX12_seen_14 : decode cX12_seen 14 = .ok (.imul, 1) := by decide +kernel
theorem dX12_seen_15 : decode cX12_seen 15 = .ok (.iload_n 2, 1) := by decide +kernel
theorem dX12_seen_16 : decode cX12_seen 16 = .ok (.iadd, 1) := by decide +kernel
theorem dX12_seen_17 : decode cX12_seen 17 = .ok (.iaload, 1) := by decide +kernel
theorem dX12_seen_18 : decode cX12_seen 18 = .ok (.goto 18, 3) := by decide +kernel
theorem dX12_seen_21 : decode cX12_seen 21 = .ok (.aload_n 0, 1) := by decide +kernel
theorem dX12_seen_22 : decode cX12_seen 22 = .ok (.getfield 29, 3) := by decide +kernel
theorem dX12_seen_25 : decode cX12_seen 25 = .ok (.iconst 2, 1) := by decide +kernel
theorem dX12_seen_26 : decode cX12_seen 26 = .ok (.iload_n 1, 1) := by decide +kernel
theorem dX12_seen_27 : decode cX12_seen 27 = .ok (.imul, 1) := by decide +kernel
theorem dX12_seen_28 : decode cX12_seen 28 = .ok (.iload_n 2, 1) := by decide +kernel
theorem dX12_seen_29 : decode cX12_seen 29 = .ok (.iadd, 1) := by decide +kernel
theorem dX12_seen_30 : decode cX12_seen 30 = .ok (.aload_n 0, 1) := by decide +kernel
theorem dX12_seen_31 : decode cX12_seen 31 = .ok (.getfield 13, 3) := by decide +kernel
theorem dX12_seen_34 : decode cX12_seen 34 = .ok (.isub, 1) := by decide +kernel
theorem dX12_seen_35 : decode cX12_seen 35 = .ok (.iaload, 1) := by decide +kernel
theorem dX12_seen_36 : decode cX12_seen 36 = .ok (.ireturn, 1) := by decide +kernel
theorem dX12_areOne_0 : decode cX12_areOne 0 = .ok (.iconst 1, 1) := by decide +kernel
theorem dX12_areOne_1 : decode cX12_areOne 1 = .ok (.istore_n 2, 1) := by decide +kernel
theorem dX12_areOne_2 : decode cX12_areOne 2 = .ok (.iconst 0, 1) := by decide +kernel
theorem dX12_areOne_3 : decode cX12_areOne 3 = .ok (.istore_n 3, 1) := by decide +kernel
theorem dX12_areOne_4 : decode cX12_areOne 4 = .ok (.iload_n 3, 1) := by decide +kernel
theorem dX12_areOne_5 : decode cX12_areOne 5 = .ok (.aload_n 0, 1) := by decide +kernel
theorem dX12_areOne_6 : decode cX12_areOne 6 = .ok (.invokevirtual 316, 3) := by decide +kernel
theorem dX12_areOne_9 : decode cX12_areOne 9 = .ok (.if_icmp .ge 46, 3) := by decide +kernel
theorem dX12_areOne_12 : decode cX12_areOne 12 = .ok (.iload_n 2, 1) := by decide +kernel
theorem dX12_areOne_13 : decode cX12_areOne 13 = .ok (.ifCond .eq 34, 3) := by decide +kernel
theorem dX12_areOne_16 : decode cX12_areOne 16 = .ok (.aload_n 0, 1) := by decide +kernel
theorem dX12_areOne_17 : decode cX12_areOne 17 = .ok (.iconst 0, 1) := by decide +kernel
theorem dX12_areOne_18 : decode cX12_areOne 18 = .ok (.aload_n 0, 1) := by decide +kernel
theorem dX12_areOne_19 : decode cX12_areOne 19 = .ok (.iconst 0, 1) := by decide +kernel
theorem dX12_areOne_20 : decode cX12_areOne 20 = .ok (.iload_n 3, 1) := by decide +kernel
theorem dX12_areOne_21 : decode cX12_areOne 21 = .ok (.invokevirtual 319, 3) := by decide +kernel
theorem dX12_areOne_24 : decode cX12_areOne 24 = .ok (.iload_n 1, 1) := by decide +kernel
theorem dX12_areOne_25 : decode cX12_areOne 25 = .ok (.invokevirtual 313, 3) := by decide +kernel
theorem dX12_areOne_28 : decode cX12_areOne 28 = .ok (.aload_n 0, 1) := by decide +kernel
theorem dX12_areOne_29 : decode cX12_areOne 29 = .ok (.iconst 1, 1) := by decide +kernel
theorem dX12_areOne_30 : decode cX12_areOne 30 = .ok (.aload_n 0, 1) := by decide +kernel
theorem dX12_areOne_31 : decode cX12_areOne 31 = .ok (.iconst 1, 1) := by decide +kernel
theorem dX12_areOne_32 : decode cX12_areOne 32 = .ok (.iload_n 3, 1) := by decide +kernel
theorem dX12_areOne_33 : decode cX12_areOne 33 = .ok (.invokevirtual 319, 3) := by decide +kernel
theorem dX12_areOne_36 : decode cX12_areOne 36 = .ok (.iload_n 1, 1) := by decide +kernel
theorem dX12_areOne_37 : decode cX12_areOne 37 = .ok (.invokevirtual 313, 3) := by decide +kernel
theorem dX12_areOne_40 : decode cX12_areOne 40 = .ok (.if_icmp .ne 7, 3) := by decide +kernel
theorem dX12_areOne_43 : decode cX12_areOne 43 = .ok (.iconst 1, 1) := by decide +kernel
theorem dX12_areOne_44 : decode cX12_areOne 44 = .ok (.goto 4, 3) := by decide +kernel
theorem dX12_areOne_47 : decode cX12_areOne 47 = .ok (.iconst 0, 1) := by decide +kernel
theorem dX12_areOne_48 : decode cX12_areOne 48 = .ok (.istore_n 2, 1) := by decide +kernel
theorem dX12_areOne_49 : decode cX12_areOne 49 = .ok (.iinc 3 1, 3) := by decide +kernel
theorem dX12_areOne_52 : decode cX12_areOne 52 = .ok (.goto (-48), 3) := by decide +kernel
theorem dX12_areOne_55 : decode cX12_areOne 55 = .ok (.iload_n 2, 1) := by decide +kernel
theorem dX12_areOne_56 : decode cX12_areOne 56 = .ok (.ireturn, 1) := by decide +kernel
theorem dX12_differ_0 : decode cX12_differ 0 = .ok (.aload_n 0, 1) := by decide +kernel
theorem dX12_differ_1 : decode cX12_differ 1 = .ok (.iconst 0, 1) := by decide +kernel
theorem dX12_differ_2 : decode cX12_differ 2 = .ok (.invokevirtual 310, 3) := by decide +kernel
theorem dX12_differ_5 : decode cX12_differ 5 = .ok (.aload_n 0, 1) := by decide +kernel
theorem dX12_differ_6 : decode cX12_differ 6 = .ok (.iconst 1, 1) := by decide +kernel
theorem dX12_differ_7 : decode cX12_differ 7 = .ok (.invokevirtual 310, 3) := by decide +kernel
theorem dX12_differ_10 : decode cX12_differ 10 = .ok (.iconst 0, 1) := by decide +kernel
theorem dX12_differ_11 : decode cX12_differ 11 = .ok (.istore_n 1, 1) := by decide +kernel
theorem dX12_differ_12 : decode cX12_differ 12 = .ok (.iload_n 1, 1) := by decide +kernel
theorem dX12_differ_13 : decode cX12_differ 13 = .ok (.aload_n 0, 1) := by decide +kernel
theorem dX12_differ_14 : decode cX12_differ 14 = .ok (.invokevirtual 242, 3) := by decide +kernel
theorem dX12_differ_17 : decode cX12_differ 17 = .ok (.if_icmp .ge 28, 3) := by decide +kernel
theorem dX12_differ_20 : decode cX12_differ 20 = .ok (.aload_n 0, 1) := by decide +kernel
theorem dX12_differ_21 : decode cX12_differ 21 = .ok (.getfield 32, 3) := by decide +kernel
theorem dX12_differ_24 : decode cX12_differ 24 = .ok (.iload_n 1, 1) := by decide +kernel
theorem dX12_differ_25 : decode cX12_differ 25 = .ok (.baload, 1) := by decide +kernel
theorem dX12_differ_26 : decode cX12_differ 26 = .ok (.ifCond .ne 13, 3) := by decide +kernel
theorem dX12_differ_29 : decode cX12_differ 29 = .ok (.aload_n 0, 1) := by decide +kernel
theorem dX12_differ_30 : decode cX12_differ 30 = .ok (.iload_n 1, 1) := by decide +kernel
theorem dX12_differ_31 : decode cX12_differ 31 = .ok (.invokevirtual 323, 3) := by decide +kernel
theorem dX12_differ_34 : decode cX12_differ 34 = .ok (.ifCond .ne 5, 3) := by decide +kernel
theorem dX12_differ_37 : decode cX12_differ 37 = .ok (.iload_n 1, 1) := by decide +kernel
theorem dX12_differ_38 : decode cX12_differ 38 = .ok (.ireturn, 1) := by decide +kernel
theorem dX12_differ_39 : decode cX12_differ 39 = .ok (.iinc 1 1, 3) := by decide +kernel
theorem dX12_differ_42 : decode cX12_differ 42 = .ok (.goto (-30), 3) := by decide +kernel
theorem dX12_differ_45 : decode cX12_differ 45 = .ok (.sipush 1000, 3) := by decide +kernel
theorem dX12_differ_48 : decode cX12_differ 48 = .ok (.ireturn, 1) := by decide +kernel
theorem dX12_arePoints_0 : decode cX12_arePoints 0 = .ok (.aload_n 0, 1) := by decide +kernel
theorem dX12_arePoints_1 : decode cX12_arePoints 1 = .ok (.iconst 0, 1) := by decide +kernel
theorem dX12_arePoints_2 : decode cX12_arePoints 2 = .ok (.iload_n 1, 1) := by decide +kernel
theorem dX12_arePoints_3 : decode cX12_arePoints 3 = .ok (.invokevirtual 268, 3) := by decide +kernel
theorem dX12_arePoints_6 : decode cX12_arePoints 6 = .ok (.ifCond .eq 50, 3) := by decide +kernel
theorem dX12_arePoints_9 : decode cX12_arePoints 9 = .ok (.iload_n 2, 1) := by decide +kernel
theorem dX12_arePoints_10 : decode cX12_arePoints 10 = .ok (.iconst (-1), 1) := by decide +kernel
theorem dX12_arePoints_11 : decode cX12_arePoints 11 = .ok (.if_icmp .eq 17, 3) := by decide +kernel
theorem dX12_arePoints_14 : decode cX12_arePoints 14 = .ok (.aload_n 0, 1) := by decide +kernel
theorem dX12_arePoints_15 : decode cX12_arePoints 15 = .ok (.iconst 0, 1) := by decide +kernel
theorem dX12_arePoints_16 : decode cX12_arePoints 16 = .ok (.iload_n 2, 1) := by decide +kernel
theorem dX12_arePoints_17 : decode cX12_arePoints 17 = .ok (.invokevirtual 268, 3) := by decide +kernel
theorem dX12_arePoints_20 : decode cX12_arePoints 20 = .ok (.ifCond .eq 36, 3) := by decide +kernel
theorem dX12_arePoints_23 : decode cX12_arePoints 23 = .ok (.iload_n 2, 1) := by decide +kernel
theorem dX12_arePoints_24 : decode cX12_arePoints 24 = .ok (.iload_n 1, 1) := by decide +kernel
theorem dX12_arePoints_25 : decode cX12_arePoints 25 = .ok (.if_icmp .le 31, 3) := by decide +kernel
theorem dX12_arePoints_28 : decode cX12_arePoints 28 = .ok (.iload_n 3, 1) := by decide +kernel
theorem dX12_arePoints_29 : decode cX12_arePoints 29 = .ok (.iconst (-1), 1) := by decide +kernel
theorem dX12_arePoints_30 : decode cX12_arePoints 30 = .ok (.if_icmp .eq 22, 3) := by decide +kernel
theorem dX12_arePoints_33 : decode cX12_arePoints 33 = .ok (.iload_n 2, 1) := by decide +kernel
theorem dX12_arePoints_34 : decode cX12_arePoints 34 = .ok (.iconst (-1), 1) := by decide +kernel
theorem dX12_arePoints_35 : decode cX12_arePoints 35 = .ok (.if_icmp .eq 21, 3) := by decide +kernel
theorem dX12_arePoints_38 : decode cX12_arePoints 38 = .ok (.aload_n 0, 1) := by decide +kernel
theorem dX12_arePoints_39 : decode cX12_arePoints 39 = .ok (.iconst 0, 1) := by decide +kernel
theorem dX12_arePoints_40 : decode cX12_arePoints 40 = .ok (.iload_n 3, 1) := by decide +kernel
theorem dX12_arePoints_41 : decode cX12_arePoints 41 = .ok (.invokevirtual 268, 3) := by decide +kernel
theorem dX12_arePoints_44 : decode cX12_arePoints 44 = .ok (.ifCond .eq 12, 3) := by decide +kernel
theorem dX12_arePoints_47 : decode cX12_arePoints 47 = .ok (.iload_n 3, 1) := by decide +kernel
theorem dX12_arePoints_48 : decode cX12_arePoints 48 = .ok (.iload_n 2, 1) := by decide +kernel
theorem dX12_arePoints_49 : decode cX12_arePoints 49 = .ok (.if_icmp .le 7, 3) := by decide +kernel
theorem dX12_arePoints_52 : decode cX12_arePoints 52 = .ok (.iconst 1, 1) := by decide +kernel
theorem dX12_arePoints_53 : decode cX12_arePoints 53 = .ok (.goto 4, 3) := by decide +kernel
theorem dX12_arePoints_56 : decode cX12_arePoints 56 = .ok (.iconst 0, 1) := by decide +kernel
theorem dX12_arePoints_57 : decode cX12_arePoints 57 = .ok (.istore 4, 2) := by decide +kernel
theorem dX12_arePoints_59 : decode cX12_arePoints 59 = .ok (.iload 4, 2) := by decide +kernel
theorem dX12_arePoints_61 : decode cX12_arePoints 61 = .ok (.ifCond .ne 7, 3) := by decide +kernel
theorem dX12_arePoints_64 : decode cX12_arePoints 64 = .ok (.iconst 0, 1) := by decide +kernel
theorem dX12_arePoints_65 : decode cX12_arePoints 65 = .ok (.goto 22, 3) := by decide +kernel
theorem dX12_arePoints_68 : decode cX12_arePoints 68 = .ok (.iload_n 2, 1) := by decide +kernel
theorem dX12_arePoints_69 : decode cX12_arePoints 69 = .ok (.iconst (-1), 1) := by decide +kernel
theorem dX12_arePoints_70 : decode cX12_arePoints 70 = .ok (.if_icmp .ne 7, 3) := by decide +kernel
theorem dX12_arePoints_73 : decode cX12_arePoints 73 = .ok (.iconst 1, 1) := by decide +kernel
theorem dX12_arePoints_74 : decode cX12_arePoints 74 = .ok (.goto 13, 3) := by decide +kernel
theorem dX12_arePoints_77 : decode cX12_arePoints 77 = .ok (.iload_n 3, 1) := by decide +kernel
theorem dX12_arePoints_78 : decode cX12_arePoints 78 = .ok (.iconst (-1), 1) := by decide +kernel
theorem dX12_arePoints_79 : decode cX12_arePoints 79 = .ok (.if_icmp .ne 7, 3) := by decide +kernel
theorem dX12_arePoints_82 : decode cX12_arePoints 82 = .ok (.iconst 2, 1) := by decide +kernel
theorem dX12_arePoints_83 : decode cX12_arePoints 83 = .ok (.goto 4, 3) := by decide +kernel
theorem dX12_arePoints_86 : decode cX12_arePoints 86 = .ok (.iconst 3, 1) := by decide +kernel
theorem dX12_arePoints_87 : decode cX12_arePoints 87 = .ok (.ireturn, 1) := by decide +kernel
theorem dX12_mendings_0 : decode cX12_mendings 0 = .ok (.aload_n 0, 1) := by decide +kernel
theorem dX12_mendings_1 : decode cX12_mendings 1 = .ok (.getfield 160, 3) := by decide +kernel
theorem dX12_mendings_4 : decode cX12_mendings 4 = .ok (.iconst 0, 1) := by decide +kernel
theorem dX12_mendings_5 : decode cX12_mendings 5 = .ok (.iload_n 1, 1) := by decide +kernel
theorem dX12_mendings_6 : decode cX12_mendings 6 = .ok (.iastore, 1) := by decide +kernel
theorem dX12_mendings_7 : decode cX12_mendings 7 = .ok (.aload_n 0, 1) := by decide +kernel
theorem dX12_mendings_8 : decode cX12_mendings 8 = .ok (.getfield 160, 3) := by decide +kernel
theorem dX12_mendings_11 : decode cX12_mendings 11 = .ok (.iconst 1, 1) := by decide +kernel
theorem dX12_mendings_12 : decode cX12_mendings 12 = .ok (.iload_n 2, 1) := by decide +kernel
theorem dX12_mendings_13 : decode cX12_mendings 13 = .ok (.iastore, 1) := by decide +kernel
theorem dX12_mendings_14 : decode cX12_mendings 14 = .ok (.aload_n 0, 1) := by decide +kernel
theorem dX12_mendings_15 : decode cX12_mendings 15 = .ok (.getfield 160, 3) := by decide +kernel
theorem dX12_mendings_18 : decode cX12_mendings 18 = .ok (.iconst 2, 1) := by decide +kernel
theorem dX12_mendings_19 : decode cX12_mendings 19 = .ok (.iload_n 3, 1) := by decide +kernel
theorem dX12_mendings_20 : decode cX12_mendings 20 = .ok (.iastore, 1) := by decide +kernel
theorem dX12_mendings_21 : decode cX12_mendings 21 = .ok (.aload_n 0, 1) := by decide +kernel
theorem dX12_mendings_22 : decode cX12_mendings 22 = .ok (.iload 4, 2) := by decide +kernel
theorem dX12_mendings_24 : decode cX12_mendings 24 = .ok (.putfield 294, 3) := by decide +kernel
theorem dX12_mendings_27 : decode cX12_mendings 27 = .ok (.iconst 0, 1) := by decide +kernel
theorem dX12_mendings_28 : decode cX12_mendings 28 = .ok (.istore 5, 2) := by decide +kernel
theorem dX12_mendings_30 : decode cX12_mendings 30 = .ok (.iload 5, 2) := by decide +kernel
theorem dX12_mendings_32 : decode cX12_mendings 32 = .ok (.iconst 1, 1) := by decide +kernel
theorem dX12_mendings_33 : decode cX12_mendings 33 = .ok (.iload 4, 2) := by decide +kernel
theorem dX12_mendings_35 : decode cX12_mendings 35 = .ok (.ishl, 1) := by decide +kernel
theorem dX12_mendings_36 : decode cX12_mendings 36 = .ok (.if_icmp .ge 119, 3) := by decide +kernel
theorem dX12_mendings_39 : decode cX12_mendings 39 = .ok (.aload_n 0, 1) := by decide +kernel
theorem dX12_mendings_40 : decode cX12_mendings 40 = .ok (.iload 5, 2) := by decide +kernel
theorem dX12_mendings_42 : decode cX12_mendings 42 = .ok (.putfield 301, 3) := by decide +kernel
theorem dX12_mendings_45 : decode cX12_mendings 45 = .ok (.aload_n 0, 1) := by decide +kernel
theorem dX12_mendings_46 : decode cX12_mendings 46 = .ok (.iconst 0, 1) := by decide +kernel
theorem dX12_mendings_47 : decode cX12_mendings 47 = .ok (.invokevirtual 307, 3) := by decide +kernel
theorem dX12_mendings_50 : decode cX12_mendings 50 = .ok (.iconst 0, 1) := by decide +kernel
theorem dX12_mendings_51 : decode cX12_mendings 51 = .ok (.istore 6, 2) := by decide +kernel
theorem dX12_mendings_53 : decode cX12_mendings 53 = .ok (.iload 6, 2) := by decide +kernel
theorem dX12_mendings_55 : decode cX12_mendings 55 = .ok (.iconst 4, 1) := by decide +kernel
theorem dX12_mendings_56 : decode cX12_mendings 56 = .ok (.if_icmp .ge 93, 3) := by decide +kernel
theorem dX12_mendings_59 : decode cX12_mendings 59 = .ok (.ldc2_w 281, 3) := by decide +kernel
theorem dX12_mendings_62 : decode cX12_mendings 62 = .ok (.lstore 7, 2) := by decide +kernel
theorem dX12_mendings_64 : decode cX12_mendings 64 = .ok (.iconst 0, 1) := by decide +kernel
theorem dX12_mendings_65 : decode cX12_mendings 65 = .ok (.istore 9, 2) := by decide +kernel
theorem dX12_mendings_67 : decode cX12_mendings 67 = .ok (.iload 9, 2) := by decide +kernel
theorem dX12_mendings_69 : decode cX12_mendings 69 = .ok (.aload_n 0, 1) := by decide +kernel
theorem dX12_mendings_70 : decode cX12_mendings 70 = .ok (.invokevirtual 316, 3) := by decide +kernel
theorem dX12_mendings_73 : decode cX12_mendings 73 = .ok (.if_icmp .ge 56, 3) := by decide +kernel
theorem dX12_mendings_76 : decode cX12_mendings 76 = .ok (.lload 7, 2) := by decide +kernel
theorem dX12_mendings_78 : decode cX12_mendings 78 = .ok (.aload_n 0, 1) := by decide +kernel
theorem dX12_mendings_79 : decode cX12_mendings 79 = .ok (.getfield 157, 3) := by decide +kernel
theorem dX12_mendings_82 : decode cX12_mendings 82 = .ok (.iconst 4, 1) := by decide +kernel
theorem dX12_mendings_83 : decode cX12_mendings 83 = .ok (.aload_n 0, 1) := by decide +kernel
theorem dX12_mendings_84 : decode cX12_mendings 84 = .ok (.iconst 0, 1) := by decide +kernel
theorem dX12_mendings_85 : decode cX12_mendings 85 = .ok (.iload 9, 2) := by decide +kernel
theorem dX12_mendings_87 : decode cX12_mendings 87 = .ok (.invokevirtual 319, 3) := by decide +kernel
theorem dX12_mendings_90 : decode cX12_mendings 90 = .ok (.imul, 1) := by decide +kernel
theorem dX12_mendings_91 : decode cX12_mendings 91 = .ok (.iload 6, 2) := by decide +kernel
theorem dX12_mendings_93 : decode cX12_mendings 93 = .ok (.iadd, 1) := by decide +kernel
theorem dX12_mendings_94 : decode cX12_mendings 94 = .ok (.laload, 1) := by decide +kernel
theorem dX12_mendings_95 : decode cX12_mendings 95 = .ok (.aload_n 0, 1) := by decide +kernel
theorem dX12_mendings_96 : decode cX12_mendings 96 = .ok (.getfield 157, 3) := by decide +kernel
theorem dX12_mendings_99 : decode cX12_mendings 99 = .ok (.iconst 4, 1) := by decide +kernel
theorem dX12_mendings_100 : decode cX12_mendings 100 = .ok (.bipush 48, 2) := by decide +kernel
theorem dX12_mendings_102 : decode cX12_mendings 102 = .ok (.aload_n 0, 1) := by decide +kernel
theorem dX12_mendings_103 : decode cX12_mendings 103 = .ok (.iconst 1, 1) := by decide +kernel
theorem dX12_mendings_104 : decode cX12_mendings 104 = .ok (.iload 9, 2) := by decide +kernel
theorem dX12_mendings_106 : decode cX12_mendings 106 = .ok (.invokevirtual 319, 3) := by decide +kernel
theorem dX12_mendings_109 : decode cX12_mendings 109 = .ok (.iadd, 1) := by decide +kernel
theorem dX12_mendings_110 : decode cX12_mendings 110 = .ok (.imul, 1) := by decide +kernel
theorem dX12_mendings_111 : decode cX12_mendings 111 = .ok (.iload 6, 2) := by decide +kernel
theorem dX12_mendings_113 : decode cX12_mendings 113 = .ok (.iadd, 1) := by decide +kernel
theorem dX12_mendings_114 : decode cX12_mendings 114 = .ok (.laload, 1) := by decide +kernel
theorem dX12_mendings_115 : decode cX12_mendings 115 = .ok (.lxor, 1) := by decide +kernel
theorem dX12_mendings_116 : decode cX12_mendings 116 = .ok (.ldc2_w 281, 3) := by decide +kernel
theorem dX12_mendings_119 : decode cX12_mendings 119 = .ok (.lxor, 1) := by decide +kernel
theorem dX12_mendings_120 : decode cX12_mendings 120 = .ok (.land, 1) := by decide +kernel
theorem dX12_mendings_121 : decode cX12_mendings 121 = .ok (.lstore 7, 2) := by decide +kernel
theorem dX12_mendings_123 : decode cX12_mendings 123 = .ok (.iinc 9 1, 3) := by decide +kernel
theorem dX12_mendings_126 : decode cX12_mendings 126 = .ok (.goto (-59), 3) := by decide +kernel
theorem dX12_mendings_129 : decode cX12_mendings 129 = .ok (.aload_n 0, 1) := by decide +kernel
theorem dX12_mendings_130 : decode cX12_mendings 130 = .ok (.getfield 163, 3) := by decide +kernel
theorem dX12_mendings_133 : decode cX12_mendings 133 = .ok (.iconst 4, 1) := by decide +kernel
theorem dX12_mendings_134 : decode cX12_mendings 134 = .ok (.iload 5, 2) := by decide +kernel
theorem dX12_mendings_136 : decode cX12_mendings 136 = .ok (.imul, 1) := by decide +kernel
theorem dX12_mendings_137 : decode cX12_mendings 137 = .ok (.iload 6, 2) := by decide +kernel
theorem dX12_mendings_139 : decode cX12_mendings 139 = .ok (.iadd, 1) := by decide +kernel
theorem dX12_mendings_140 : decode cX12_mendings 140 = .ok (.lload 7, 2) := by decide +kernel
theorem dX12_mendings_142 : decode cX12_mendings 142 = .ok (.lastore, 1) := by decide +kernel
theorem dX12_mendings_143 : decode cX12_mendings 143 = .ok (.iinc 6 1, 3) := by decide +kernel
theorem dX12_mendings_146 : decode cX12_mendings 146 = .ok (.goto (-93), 3) := by decide +kernel
theorem dX12_mendings_149 : decode cX12_mendings 149 = .ok (.iinc 5 1, 3) := by decide +kernel
theorem dX12_mendings_152 : decode cX12_mendings 152 = .ok (.goto (-122), 3) := by decide +kernel
theorem dX12_mendings_155 : decode cX12_mendings 155 = .ok (.aload_n 0, 1) := by decide +kernel
theorem dX12_mendings_156 : decode cX12_mendings 156 = .ok (.iconst 0, 1) := by decide +kernel
theorem dX12_mendings_157 : decode cX12_mendings 157 = .ok (.putfield 294, 3) := by decide +kernel
theorem dX12_mendings_160 : decode cX12_mendings 160 = .ok (.return_, 1) := by decide +kernel
theorem dX12_prepares_0 : decode cX12_prepares 0 = .ok (.aload_n 0, 1) := by decide +kernel
theorem dX12_prepares_1 : decode cX12_prepares 1 = .ok (.iconst 1, 1) := by decide +kernel
theorem dX12_prepares_2 : decode cX12_prepares 2 = .ok (.invokevirtual 310, 3) := by decide +kernel
theorem dX12_prepares_5 : decode cX12_prepares 5 = .ok (.aload_n 0, 1) := by decide +kernel
theorem dX12_prepares_6 : decode cX12_prepares 6 = .ok (.iconst 0, 1) := by decide +kernel
theorem dX12_prepares_7 : decode cX12_prepares 7 = .ok (.putfield 294, 3) := by decide +kernel
theorem dX12_prepares_10 : decode cX12_prepares 10 = .ok (.aload_n 0, 1) := by decide +kernel
theorem dX12_prepares_11 : decode cX12_prepares 11 = .ok (.iconst 0, 1) := by decide +kernel
theorem dX12_prepares_12 : decode cX12_prepares 12 = .ok (.invokevirtual 304, 3) := by decide +kernel
theorem dX12_prepares_15 : decode cX12_prepares 15 = .ok (.return_, 1) := by decide +kernel
def XX12_thrown  (h : Hp) : OR :=
  some ((h 143 0), h)
theorem sX12_thrown {G : GG} {w : Wd} (hw : okM w)  (h : Hp) : SC G w yX12_thrown (Cond.code yX12_thrown cX12_thrown 1 (Option.some Jvm.ClassFile.FieldType.int)) 1 0 [vP 143] (XX12_thrown  h) h := by
  refine SC_of (own := "GatePatchModel") plain_Mod rfl (Nat.le_of_ble_eq_true rfl) (fun Γ hG g => ?_)
  subst hG
  show Sim Γ w 0 _ h 0 [(0, vP 143)] []
  unfold XX12_thrown
  refine S_aload_n (kk := 0) g dX12_thrown_0 rfl rfl ?_
  refine S_geti g dX12_thrown_1 fl_Mod_202 (at_143 hw) (Or.inl rfl) ?_
  exact S_ireturn g dX12_thrown_4 rfl

def XX12_in (x0 : Int) (x1 : Int) (x2 : Int) (h : Hp) : OR :=
  if x0 < x1 then zb 0 (some (0, h)) else if x2 < x0 then zb 0 (some (0, h)) else zb 1 (some (1, h))
theorem sX12_in {G : GG} {w : Wd} (hw : okM w) (x0 : Int) (x1 : Int) (x2 : Int) (h : Hp) : SC G w yX12_in (Cond.code yX12_in cX12_in 3 (Option.some Jvm.ClassFile.FieldType.boolean)) 1 0 [vI x0, vI x1, vI x2] (XX12_in x0 x1 x2 h) h := by
  refine SC_of (own := "GatePatchModel") plain_Mod rfl (Nat.le_of_ble_eq_true rfl) (fun Γ hG g => ?_)
  subst hG
  show Sim Γ w 0 _ h 0 [(0, vI x0), (1, vI x1), (2, vI x2)] []
  unfold XX12_in
  refine S_iload_n (kk := 0) g dX12_in_0 rfl rfl ?_
  refine S_iload_n (kk := 1) g dX12_in_1 rfl rfl ?_
  refine S_icmp_lt (tgt := 14) g dX12_in_2 (by decide) ?_ ?_
  · refine S_iconst g dX12_in_14 ⟨by decide, by decide⟩ ?_
    exact S_zreturn g dX12_in_15 rfl
  · refine S_iload_n (kk := 0) g dX12_in_5 rfl rfl ?_
    refine S_iload_n (kk := 2) g dX12_in_6 rfl rfl ?_
    refine S_icmp_gt (tgt := 14) g dX12_in_7 (by decide) ?_ ?_
    · refine S_iconst g dX12_in_14 ⟨by decide, by decide⟩ ?_
      exact S_zreturn g dX12_in_15 rfl
    · refine S_iconst g dX12_in_10 ⟨by decide, by decide⟩ ?_
      refine S_goto (tgt := 15) g dX12_in_11 (by decide) ?_
      exact S_zreturn g dX12_in_15 rfl

def XX12_begun  (h : Hp) : OR :=
  chk ((h 143 1) + (h 143 2)) (some (((h 143 1) + (h 143 2)), h))
theorem sX12_begun {G : GG} {w : Wd} (hw : okM w)  (h : Hp) : SC G w yX12_begun (Cond.code yX12_begun cX12_begun 1 (Option.some Jvm.ClassFile.FieldType.int)) 1 0 [vP 143] (XX12_begun  h) h := by
  refine SC_of (own := "GatePatchModel") plain_Mod rfl (Nat.le_of_ble_eq_true rfl) (fun Γ hG g => ?_)
  subst hG
  show Sim Γ w 0 _ h 0 [(0, vP 143)] []
  unfold XX12_begun
  refine S_aload_n (kk := 0) g dX12_begun_0 rfl rfl ?_
  refine S_geti g dX12_begun_1 fl_Mod_7 (at_143 hw) (Or.inl rfl) ?_
  refine S_aload_n (kk := 0) g dX12_begun_4 rfl rfl ?_
  refine S_geti g dX12_begun_5 fl_Mod_205 (at_143 hw) (Or.inl rfl) ?_
  refine S_iadd g dX12_begun_8 ?_
  exact S_ireturn g dX12_begun_9 rfl

def XX12_cases  (h : Hp) : OR :=
  cal (XX12_begun h) (fun r1 h2 => some ((ashl 1 r1), h2))
theorem sX12_cases {G : GG} {w : Wd} (hw : okM w)  (h : Hp) : SC G w yX12_cases (Cond.code yX12_cases cX12_cases 1 (Option.some Jvm.ClassFile.FieldType.int)) 2 0 [vP 143] (XX12_cases  h) h := by
  refine SC_of (own := "GatePatchModel") plain_Mod rfl (Nat.le_of_ble_eq_true rfl) (fun Γ hG g => ?_)
  subst hG
  show Sim Γ w 0 _ h 0 [(0, vP 143)] []
  unfold XX12_cases
  refine S_iconst g dX12_cases_0 ⟨by decide, by decide⟩ ?_
  refine S_aload_n (kk := 0) g dX12_cases_1 rfl rfl ?_
  refine S_callVi (As := []) g dX12_cases_2 (sX12_begun hw  _) rfl (at_143 hw) rfl im_X12_begun se_X12_begun cw_X12_begun ml_Mod_208 ini_Mod nd_X12_begun ⟨by decide, by decide⟩ (Nat.le_of_ble_eq_true rfl) (fun r1 h2 => ?_)
  refine S_ishl g dX12_cases_5 ?_
  exact S_ireturn g dX12_cases_6 rfl

def XX12_isNet (x0 : Int) (h : Hp) : OR :=
  cal (XX12_in x0 0 1 h) (fun r1 h2 => zb r1 (some (r1, h2)))
theorem sX12_isNet {G : GG} {w : Wd} (hw : okM w) (x0 : Int) (h : Hp) : SC G w yX12_isNet (Cond.code yX12_isNet cX12_isNet 1 (Option.some Jvm.ClassFile.FieldType.boolean)) 2 0 [vI x0] (XX12_isNet x0 h) h := by
  refine SC_of (own := "GatePatchModel") plain_Mod rfl (Nat.le_of_ble_eq_true rfl) (fun Γ hG g => ?_)
  subst hG
  show Sim Γ w 0 _ h 0 [(0, vI x0)] []
  unfold XX12_isNet
  refine S_iload_n (kk := 0) g dX12_isNet_0 rfl rfl ?_
  refine S_iconst g dX12_isNet_1 ⟨by decide, by decide⟩ ?_
  refine S_iconst g dX12_isNet_2 ⟨by decide, by decide⟩ ?_
  refine S_callSi (As := [vI x0, vI 0, vI 1]) g dX12_isNet_3 (sX12_in hw _ _ _ _) rfl st_X12_in cw_X12_in ml_Mod_212 ini_Mod nd_X12_in ⟨by decide, by decide⟩ (Nat.le_of_ble_eq_true rfl) (fun r1 h2 => ?_)
  exact S_zreturn g dX12_isNet_6 rfl

def XX12_wires (x0 : Int) (h : Hp) : OR :=
  cal (XX12_begun h) (fun r1 h2 => inb x0 2 (chk (r1 + (h2 144 x0.toNat)) (some ((r1 + (h2 144 x0.toNat)), h2))))
theorem sX12_wires {G : GG} {w : Wd} (hw : okM w) (x0 : Int) (h : Hp) : SC G w yX12_wires (Cond.code yX12_wires cX12_wires 2 (Option.some Jvm.ClassFile.FieldType.int)) 2 0 [vP 143, vI x0] (XX12_wires x0 h) h := by
  refine SC_of (own := "GatePatchModel") plain_Mod rfl (Nat.le_of_ble_eq_true rfl) (fun Γ hG g => ?_)
  subst hG
  show Sim Γ w 0 _ h 0 [(0, vP 143), (1, vI x0)] []
  unfold XX12_wires
  refine S_aload_n (kk := 0) g dX12_wires_0 rfl rfl ?_
  refine S_callVi (As := []) g dX12_wires_1 (sX12_begun hw  _) rfl (at_143 hw) rfl im_X12_begun se_X12_begun cw_X12_begun ml_Mod_208 ini_Mod nd_X12_begun ⟨by decide, by decide⟩ (Nat.le_of_ble_eq_true rfl) (fun r1 h2 => ?_)
  refine S_aload_n (kk := 0) g dX12_wires_4 rfl rfl ?_
  refine S_getr g dX12_wires_5 fl_Mod_16 (at_143 hw) rfl (rc_143_4 hw) ?_
  refine S_iload_n (kk := 1) g dX12_wires_8 rfl rfl ?_
  refine S_iaload g dX12_wires_9 (at_144 hw) ?_
  refine S_iadd g dX12_wires_10 ?_
  exact S_ireturn g dX12_wires_11 rfl

def XX12_isWire (x0 : Int) (x1 : Int) (h : Hp) : OR :=
  cal (XX12_wires x0 h) (fun r1 h2 => chk (r1 - 1) (cal (XX12_in x1 0 (r1 - 1) h2) (fun r3 h4 => zb r3 (some (r3, h4)))))
theorem sX12_isWire {G : GG} {w : Wd} (hw : okM w) (x0 : Int) (x1 : Int) (h : Hp) : SC G w yX12_isWire (Cond.code yX12_isWire cX12_isWire 3 (Option.some Jvm.ClassFile.FieldType.boolean)) 3 0 [vP 143, vI x0, vI x1] (XX12_isWire x0 x1 h) h := by
  refine SC_of (own := "GatePatchModel") plain_Mod rfl (Nat.le_of_ble_eq_true rfl) (fun Γ hG g => ?_)
  subst hG
  show Sim Γ w 0 _ h 0 [(0, vP 143), (1, vI x0), (2, vI x1)] []
  unfold XX12_isWire
  refine S_iload_n (kk := 2) g dX12_isWire_0 rfl rfl ?_
  refine S_iconst g dX12_isWire_1 ⟨by decide, by decide⟩ ?_
  refine S_aload_n (kk := 0) g dX12_isWire_2 rfl rfl ?_
  refine S_iload_n (kk := 1) g dX12_isWire_3 rfl rfl ?_
  refine S_callVi (As := [vI x0]) g dX12_isWire_4 (sX12_wires hw _ _) rfl (at_143 hw) rfl im_X12_wires se_X12_wires cw_X12_wires ml_Mod_216 ini_Mod nd_X12_wires ⟨by decide, by decide⟩ (Nat.le_of_ble_eq_true rfl) (fun r1 h2 => ?_)
  refine S_iconst g dX12_isWire_7 ⟨by decide, by decide⟩ ?_
  refine S_isub g dX12_isWire_8 ?_
  refine S_callSi (As := [vI x1, vI 0, vI (r1 - 1)]) g dX12_isWire_9 (sX12_in hw _ _ _ _) rfl st_X12_in cw_X12_in ml_Mod_212 ini_Mod nd_X12_in ⟨by decide, by decide⟩ (Nat.le_of_ble_eq_true rfl) (fun r3 h4 => ?_)
  exact S_zreturn g dX12_isWire_12 rfl

def XX12_isGate (x0 : Int) (x1 : Int) (h : Hp) : OR :=
  cal (XX12_begun h) (fun r1 h2 => cal (XX12_wires x0 h2) (fun r3 h4 => chk (r3 - 1) (cal (XX12_in x1 r1 (r3 - 1) h4) (fun r5 h6 => zb r5 (some (r5, h6))))))
theorem sX12_isGate {G : GG} {w : Wd} (hw : okM w) (x0 : Int) (x1 : Int) (h : Hp) : SC G w yX12_isGate (Cond.code yX12_isGate cX12_isGate 3 (Option.some Jvm.ClassFile.FieldType.boolean)) 3 0 [vP 143, vI x0, vI x1] (XX12_isGate x0 x1 h) h := by
  refine SC_of (own := "GatePatchModel") plain_Mod rfl (Nat.le_of_ble_eq_true rfl) (fun Γ hG g => ?_)
  subst hG
  show Sim Γ w 0 _ h 0 [(0, vP 143), (1, vI x0), (2, vI x1)] []
  unfold XX12_isGate
  refine S_iload_n (kk := 2) g dX12_isGate_0 rfl rfl ?_
  refine S_aload_n (kk := 0) g dX12_isGate_1 rfl rfl ?_
  refine S_callVi (As := []) g dX12_isGate_2 (sX12_begun hw  _) rfl (at_143 hw) rfl im_X12_begun se_X12_begun cw_X12_begun ml_Mod_208 ini_Mod nd_X12_begun ⟨by decide, by decide⟩ (Nat.le_of_ble_eq_true rfl) (fun r1 h2 => ?_)
  refine S_aload_n (kk := 0) g dX12_isGate_5 rfl rfl ?_
  refine S_iload_n (kk := 1) g dX12_isGate_6 rfl rfl ?_
  refine S_callVi (As := [vI x0]) g dX12_isGate_7 (sX12_wires hw _ _) rfl (at_143 hw) rfl im_X12_wires se_X12_wires cw_X12_wires ml_Mod_216 ini_Mod nd_X12_wires ⟨by decide, by decide⟩ (Nat.le_of_ble_eq_true rfl) (fun r3 h4 => ?_)
  refine S_iconst g dX12_isGate_10 ⟨by decide, by decide⟩ ?_
  refine S_isub g dX12_isGate_11 ?_
  refine S_callSi (As := [vI x1, vI r1, vI (r3 - 1)]) g dX12_isGate_12 (sX12_in hw _ _ _ _) rfl st_X12_in cw_X12_in ml_Mod_212 ini_Mod nd_X12_in ⟨by decide, by decide⟩ (Nat.le_of_ble_eq_true rfl) (fun r5 h6 => ?_)
  exact S_zreturn g dX12_isGate_15 rfl

def XX12_pinsOf (x0 : Int) (h : Hp) : OR :=
  if x0 = 0 then some (1, h) else if x0 < 7 then if x0 = 6 then some (3, h) else some (2, h) else some (0, h)
theorem sX12_pinsOf {G : GG} {w : Wd} (hw : okM w) (x0 : Int) (h : Hp) : SC G w yX12_pinsOf (Cond.code yX12_pinsOf cX12_pinsOf 1 (Option.some Jvm.ClassFile.FieldType.int)) 1 0 [vI x0] (XX12_pinsOf x0 h) h := by
  refine SC_of (own := "GatePatchModel") plain_Mod rfl (Nat.le_of_ble_eq_true rfl) (fun Γ hG g => ?_)
  subst hG
  show Sim Γ w 0 _ h 0 [(0, vI x0)] []
  unfold XX12_pinsOf
  refine S_iload_n (kk := 0) g dX12_pinsOf_0 rfl rfl ?_
  refine S_if_ne (tgt := 8) g dX12_pinsOf_1 (by decide) ?_ ?_
  · refine S_iload_n (kk := 0) g dX12_pinsOf_8 rfl rfl ?_
    refine S_bipush g dX12_pinsOf_9 ⟨by decide, by decide⟩ rfl ?_
    refine S_icmp_lt (tgt := 18) g dX12_pinsOf_11 (by decide) ?_ ?_
    · refine S_iload_n (kk := 0) g dX12_pinsOf_18 rfl rfl ?_
      refine S_bipush g dX12_pinsOf_19 ⟨by decide, by decide⟩ rfl ?_
      refine S_icmp_ne (tgt := 28) g dX12_pinsOf_21 (by decide) ?_ ?_
      · refine S_iconst g dX12_pinsOf_28 ⟨by decide, by decide⟩ ?_
        exact S_ireturn g dX12_pinsOf_29 rfl
      · refine S_iconst g dX12_pinsOf_24 ⟨by decide, by decide⟩ ?_
        refine S_goto (tgt := 29) g dX12_pinsOf_25 (by decide) ?_
        exact S_ireturn g dX12_pinsOf_29 rfl
    · refine S_iconst g dX12_pinsOf_14 ⟨by decide, by decide⟩ ?_
      refine S_goto (tgt := 29) g dX12_pinsOf_15 (by decide) ?_
      exact S_ireturn g dX12_pinsOf_29 rfl
  · refine S_iconst g dX12_pinsOf_4 ⟨by decide, by decide⟩ ?_
    refine S_goto (tgt := 29) g dX12_pinsOf_5 (by decide) ?_
    exact S_ireturn g dX12_pinsOf_29 rfl

def XX12_refuse (x0 : Int) (h : Hp) : OR :=
  chk ((h 143 57) + 1) (hm (wr h 143 57 ((h 143 57) + 1)) (fun h1 => some (x0, h1)))
theorem sX12_refuse {G : GG} {w : Wd} (hw : okM w) (x0 : Int) (h : Hp) : SC G w yX12_refuse (Cond.code yX12_refuse cX12_refuse 2 (Option.some Jvm.ClassFile.FieldType.int)) 1 0 [vP 143, vI x0] (XX12_refuse x0 h) h := by
  refine SC_of (own := "GatePatchModel") plain_Mod rfl (Nat.le_of_ble_eq_true rfl) (fun Γ hG g => ?_)
  subst hG
  show Sim Γ w 0 _ h 0 [(0, vP 143), (1, vI x0)] []
  unfold XX12_refuse
  refine S_aload_n (kk := 0) g dX12_refuse_0 rfl rfl ?_
  refine S_dup g dX12_refuse_1 rfl ?_
  refine S_geti g dX12_refuse_2 fl_Mod_220 (at_143 hw) (Or.inl rfl) ?_
  refine S_iconst g dX12_refuse_5 ⟨by decide, by decide⟩ ?_
  refine S_iadd g dX12_refuse_6 ?_
  refine S_puti g dX12_refuse_7 fp_Mod_220 (at_143 hw) rfl (fun h1 => ?_)
  refine S_iload_n (kk := 1) g dX12_refuse_10 rfl rfl ?_
  exact S_ireturn g dX12_refuse_11 rfl

def XX12_begin_b195   (self195 : Int → Hp → OR) (l4 : Int) (h : Hp) : OR :=
  if 9 ≤ l4 then hm (wr h 143 12 0) (fun h12 => hm (wr h12 143 19 0) (fun h13 => hm (wr h13 143 21 (-1)) (fun h14 => hm (wr h14 143 22 (-1)) (fun h15 => zb 0 (hm (wr h15 143 23 0) (fun h16 => hm (wr h16 143 36 0) (fun h17 => hm (wr h17 143 37 0) (fun h18 => hm (wr h18 143 38 0) (fun h19 => hm (wr h19 143 57 0) (fun h20 => cal (XX12_cases h20) (fun r21 h22 => some (r21, h22)))))))))))) else inb l4 9 (hm (wr h 156 l4.toNat 1) (fun h23 => chk (l4 + 1) (self195 (l4 + 1) h23)))
def XX12_begin_L195   (l4 : Int) (h : Hp) : OR := lup1 (XX12_begin_b195 ) FU l4 h
def XX12_begin_b155   (self155 : Int → Hp → OR) (l4 : Int) (h : Hp) : OR :=
  if 48 ≤ l4 then XX12_begin_L195 0 h else inb l4 48 (hm (wr h 150 l4.toNat 0) (fun h24 => inb l4 48 (hm (wr h24 151 l4.toNat 0) (fun h25 => inb l4 48 (hm (wr h25 157 l4.toNat (-1)) (fun h26 => chk (l4 + 1) (self155 (l4 + 1) h26)))))))
def XX12_begin_L155   (l4 : Int) (h : Hp) : OR := lup1 (XX12_begin_b155 ) FU l4 h
def XX12_begin_b130   (self130 : Int → Hp → OR) (l4 : Int) (h : Hp) : OR :=
  if 256 ≤ l4 then XX12_begin_L155 0 h else inb l4 256 (zb 0 (hm (wr h 149 l4.toNat 0) (fun h27 => chk (l4 + 1) (self130 (l4 + 1) h27))))
def XX12_begin_L130   (l4 : Int) (h : Hp) : OR := lup1 (XX12_begin_b130 ) FU l4 h
def XX12_begin_b107   (self107 : Int → Hp → OR) (l4 : Int) (h : Hp) : OR :=
  if 4 ≤ l4 then XX12_begin_L130 0 h else inb l4 4 (hm (wr h 148 l4.toNat 0) (fun h28 => chk (l4 + 1) (self107 (l4 + 1) h28)))
def XX12_begin_L107   (l4 : Int) (h : Hp) : OR := lup1 (XX12_begin_b107 ) FU l4 h
def XX12_begin_b83   (self83 : Int → Hp → OR) (l4 : Int) (h : Hp) : OR :=
  if 8 ≤ l4 then XX12_begin_L107 0 h else inb l4 8 (hm (wr h 147 l4.toNat 0) (fun h29 => chk (l4 + 1) (self83 (l4 + 1) h29)))
def XX12_begin_L83   (l4 : Int) (h : Hp) : OR := lup1 (XX12_begin_b83 ) FU l4 h
def XX12_begin_b60   (self60 : Int → Hp → OR) (l4 : Int) (h : Hp) : OR :=
  if 2 ≤ l4 then XX12_begin_L83 0 h else inb l4 2 (hm (wr h 144 l4.toNat 0) (fun h30 => chk (l4 + 1) (self60 (l4 + 1) h30)))
def XX12_begin_L60   (l4 : Int) (h : Hp) : OR := lup1 (XX12_begin_b60 ) FU l4 h
def XX12_begin (x0 : Int) (x1 : Int) (x2 : Int) (h : Hp) : OR :=
  cal (XX12_in x0 0 8 h) (fun r1 h2 => if r1 = 0 then some ((-1), h2) else cal (XX12_in x1 0 2 h2) (fun r3 h4 => if r3 = 0 then some ((-1), h4) else cal (XX12_in x2 1 4 h4) (fun r5 h6 => if r5 = 0 then some ((-1), h6) else chk (x0 + x1) (cal (XX12_in (x0 + x1) 1 8 h6) (fun r7 h8 => if r7 = 0 then some ((-1), h8) else hm (wr h8 143 1 x0) (fun h9 => hm (wr h9 143 2 x1) (fun h10 => hm (wr h10 143 3 x2) (fun h11 => XX12_begin_L60 0 h11))))))))
theorem sX12_begin_L195 {Γ : Cx} {w : Wd} (hw : okM w) (g : Gd Γ cX12_begin 5 "GatePatchModel" (Option.some Jvm.ClassFile.FieldType.int) (rmd 3))   : ∀ (l4 : Int) (h : Hp), Sim Γ w 0 (XX12_begin_L195  l4 h) h 195 [(0, vP 143), (4, vI l4)] [] := by
  refine S_lup1 (fun l4 => [(0, vP 143), (4, vI l4)]) (fun self195 hs195 l4 h => ?_) FU
  unfold XX12_begin_b195
  refine S_iload (kk := 1) g dX12_begin_195 rfl ?_
  refine S_bipush g dX12_begin_197 ⟨by decide, by decide⟩ rfl ?_
  refine S_icmp_ge (tgt := 216) g dX12_begin_199 (by decide) ?_ ?_
  · refine S_aload_n (kk := 0) g dX12_begin_216 rfl rfl ?_
    refine S_iconst g dX12_begin_217 ⟨by decide, by decide⟩ ?_
    refine S_puti g dX12_begin_218 fp_Mod_223 (at_143 hw) rfl (fun h12 => ?_)
    refine S_aload_n (kk := 0) g dX12_begin_221 rfl rfl ?_
    refine S_iconst g dX12_begin_222 ⟨by decide, by decide⟩ ?_
    refine S_puti g dX12_begin_223 fp_Mod_226 (at_143 hw) rfl (fun h13 => ?_)
    refine S_aload_n (kk := 0) g dX12_begin_226 rfl rfl ?_
    refine S_iconst g dX12_begin_227 ⟨by decide, by decide⟩ ?_
    refine S_puti g dX12_begin_228 fp_Mod_63 (at_143 hw) rfl (fun h14 => ?_)
    refine S_aload_n (kk := 0) g dX12_begin_231 rfl rfl ?_
    refine S_iconst g dX12_begin_232 ⟨by decide, by decide⟩ ?_
    refine S_puti g dX12_begin_233 fp_Mod_66 (at_143 hw) rfl (fun h15 => ?_)
    refine S_aload_n (kk := 0) g dX12_begin_236 rfl rfl ?_
    refine S_iconst g dX12_begin_237 ⟨by decide, by decide⟩ ?_
    refine S_putz g dX12_begin_238 fp_Mod_229 (at_143 hw) rfl (fun h16 => ?_)
    refine S_aload_n (kk := 0) g dX12_begin_241 rfl rfl ?_
    refine S_iconst g dX12_begin_242 ⟨by decide, by decide⟩ ?_
    refine S_puti g dX12_begin_243 fp_Mod_233 (at_143 hw) rfl (fun h17 => ?_)
    refine S_aload_n (kk := 0) g dX12_begin_246 rfl rfl ?_
    refine S_iconst g dX12_begin_247 ⟨by decide, by decide⟩ ?_
    refine S_puti g dX12_begin_248 fp_Mod_236 (at_143 hw) rfl (fun h18 => ?_)
    refine S_aload_n (kk := 0) g dX12_begin_251 rfl rfl ?_
    refine S_iconst g dX12_begin_252 ⟨by decide, by decide⟩ ?_
    refine S_puti g dX12_begin_253 fp_Mod_239 (at_143 hw) rfl (fun h19 => ?_)
    refine S_aload_n (kk := 0) g dX12_begin_256 rfl rfl ?_
    refine S_iconst g dX12_begin_257 ⟨by decide, by decide⟩ ?_
    refine S_puti g dX12_begin_258 fp_Mod_220 (at_143 hw) rfl (fun h20 => ?_)
    refine S_aload_n (kk := 0) g dX12_begin_261 rfl rfl ?_
    refine S_callVi (As := []) g dX12_begin_262 (sX12_cases hw  _) rfl (at_143 hw) rfl im_X12_cases se_X12_cases cw_X12_cases ml_Mod_242 ini_Mod nd_X12_cases ⟨by decide, by decide⟩ (Nat.le_of_ble_eq_true rfl) (fun r21 h22 => ?_)
    exact S_ireturn g dX12_begin_265 rfl
  · refine S_aload_n (kk := 0) g dX12_begin_202 rfl rfl ?_
    refine S_getr g dX12_begin_203 fl_Mod_54 (at_143 hw) rfl (rc_143_17 hw) ?_
    refine S_iload (kk := 1) g dX12_begin_206 rfl ?_
    refine S_iconst g dX12_begin_208 ⟨by decide, by decide⟩ ?_
    refine S_iastore g dX12_begin_209 (at_156 hw) (fun h23 => ?_)
    refine S_iinc (kk := 1) g dX12_begin_210 rfl (by decide) rfl ?_
    refine S_goto (tgt := 195) g dX12_begin_213 (by decide) ?_
    refine S_sub g [1, 0] rfl ?_
    exact hs195 _ _

theorem sX12_begin_L155 {Γ : Cx} {w : Wd} (hw : okM w) (g : Gd Γ cX12_begin 5 "GatePatchModel" (Option.some Jvm.ClassFile.FieldType.int) (rmd 3))   : ∀ (l4 : Int) (h : Hp), Sim Γ w 0 (XX12_begin_L155  l4 h) h 155 [(0, vP 143), (4, vI l4)] [] := by
  refine S_lup1 (fun l4 => [(0, vP 143), (4, vI l4)]) (fun self155 hs155 l4 h => ?_) FU
  unfold XX12_begin_b155
  refine S_iload (kk := 1) g dX12_begin_155 rfl ?_
  refine S_bipush g dX12_begin_157 ⟨by decide, by decide⟩ rfl ?_
  refine S_icmp_ge (tgt := 192) g dX12_begin_159 (by decide) ?_ ?_
  · refine S_iconst g dX12_begin_192 ⟨by decide, by decide⟩ ?_
    refine S_istore g dX12_begin_193 (by decide) rfl ?_
    refine S_sub g [1, 0] rfl ?_
    exact sX12_begin_L195 hw g _ _
  · refine S_aload_n (kk := 0) g dX12_begin_162 rfl rfl ?_
    refine S_getr g dX12_begin_163 fl_Mod_36 (at_143 hw) rfl (rc_143_10 hw) ?_
    refine S_iload (kk := 1) g dX12_begin_166 rfl ?_
    refine S_iconst g dX12_begin_168 ⟨by decide, by decide⟩ ?_
    refine S_iastore g dX12_begin_169 (at_150 hw) (fun h24 => ?_)
    refine S_aload_n (kk := 0) g dX12_begin_170 rfl rfl ?_
    refine S_getr g dX12_begin_171 fl_Mod_39 (at_143 hw) rfl (rc_143_11 hw) ?_
    refine S_iload (kk := 1) g dX12_begin_174 rfl ?_
    refine S_iconst g dX12_begin_176 ⟨by decide, by decide⟩ ?_
    refine S_iastore g dX12_begin_177 (at_151 hw) (fun h25 => ?_)
    refine S_aload_n (kk := 0) g dX12_begin_178 rfl rfl ?_
    refine S_getr g dX12_begin_179 fl_Mod_57 (at_143 hw) rfl (rc_143_18 hw) ?_
    refine S_iload (kk := 1) g dX12_begin_182 rfl ?_
    refine S_iconst g dX12_begin_184 ⟨by decide, by decide⟩ ?_
    refine S_iastore g dX12_begin_185 (at_157 hw) (fun h26 => ?_)
    refine S_iinc (kk := 1) g dX12_begin_186 rfl (by decide) rfl ?_
    refine S_goto (tgt := 155) g dX12_begin_189 (by decide) ?_
    refine S_sub g [1, 0] rfl ?_
    exact hs155 _ _

theorem sX12_begin_L130 {Γ : Cx} {w : Wd} (hw : okM w) (g : Gd Γ cX12_begin 5 "GatePatchModel" (Option.some Jvm.ClassFile.FieldType.int) (rmd 3))   : ∀ (l4 : Int) (h : Hp), Sim Γ w 0 (XX12_begin_L130  l4 h) h 130 [(0, vP 143), (4, vI l4)] [] := by
  refine S_lup1 (fun l4 => [(0, vP 143), (4, vI l4)]) (fun self130 hs130 l4 h => ?_) FU
  unfold XX12_begin_b130
  refine S_iload (kk := 1) g dX12_begin_130 rfl ?_
  refine S_sipush g dX12_begin_132 ⟨by decide, by decide⟩ rfl ?_
  refine S_icmp_ge (tgt := 152) g dX12_begin_135 (by decide) ?_ ?_
  · refine S_iconst g dX12_begin_152 ⟨by decide, by decide⟩ ?_
    refine S_istore g dX12_begin_153 (by decide) rfl ?_
    refine S_sub g [1, 0] rfl ?_
    exact sX12_begin_L155 hw g _ _
  · refine S_aload_n (kk := 0) g dX12_begin_138 rfl rfl ?_
    refine S_getr g dX12_begin_139 fl_Mod_32 (at_143 hw) rfl (rc_143_9 hw) ?_
    refine S_iload (kk := 1) g dX12_begin_142 rfl ?_
    refine S_iconst g dX12_begin_144 ⟨by decide, by decide⟩ ?_
    refine S_zastore g dX12_begin_145 (at_149 hw) (fun h27 => ?_)
    refine S_iinc (kk := 1) g dX12_begin_146 rfl (by decide) rfl ?_
    refine S_goto (tgt := 130) g dX12_begin_149 (by decide) ?_
    refine S_sub g [1, 0] rfl ?_
    exact hs130 _ _

theorem sX12_begin_L107 {Γ : Cx} {w : Wd} (hw : okM w) (g : Gd Γ cX12_begin 5 "GatePatchModel" (Option.some Jvm.ClassFile.FieldType.int) (rmd 3))   : ∀ (l4 : Int) (h : Hp), Sim Γ w 0 (XX12_begin_L107  l4 h) h 107 [(0, vP 143), (4, vI l4)] [] := by
  refine S_lup1 (fun l4 => [(0, vP 143), (4, vI l4)]) (fun self107 hs107 l4 h => ?_) FU
  unfold XX12_begin_b107
  refine S_iload (kk := 1) g dX12_begin_107 rfl ?_
  refine S_iconst g dX12_begin_109 ⟨by decide, by decide⟩ ?_
  refine S_icmp_ge (tgt := 127) g dX12_begin_110 (by decide) ?_ ?_
  · refine S_iconst g dX12_begin_127 ⟨by decide, by decide⟩ ?_
    refine S_istore g dX12_begin_128 (by decide) rfl ?_
    refine S_sub g [1, 0] rfl ?_
    exact sX12_begin_L130 hw g _ _
  · refine S_aload_n (kk := 0) g dX12_begin_113 rfl rfl ?_
    refine S_getr g dX12_begin_114 fl_Mod_29 (at_143 hw) rfl (rc_143_8 hw) ?_
    refine S_iload (kk := 1) g dX12_begin_117 rfl ?_
    refine S_iconst g dX12_begin_119 ⟨by decide, by decide⟩ ?_
    refine S_iastore g dX12_begin_120 (at_148 hw) (fun h28 => ?_)
    refine S_iinc (kk := 1) g dX12_begin_121 rfl (by decide) rfl ?_
    refine S_goto (tgt := 107) g dX12_begin_124 (by decide) ?_
    refine S_sub g [1, 0] rfl ?_
    exact hs107 _ _

theorem sX12_begin_L83 {Γ : Cx} {w : Wd} (hw : okM w) (g : Gd Γ cX12_begin 5 "GatePatchModel" (Option.some Jvm.ClassFile.FieldType.int) (rmd 3))   : ∀ (l4 : Int) (h : Hp), Sim Γ w 0 (XX12_begin_L83  l4 h) h 83 [(0, vP 143), (4, vI l4)] [] := by
  refine S_lup1 (fun l4 => [(0, vP 143), (4, vI l4)]) (fun self83 hs83 l4 h => ?_) FU
  unfold XX12_begin_b83
  refine S_iload (kk := 1) g dX12_begin_83 rfl ?_
  refine S_bipush g dX12_begin_85 ⟨by decide, by decide⟩ rfl ?_
  refine S_icmp_ge (tgt := 104) g dX12_begin_87 (by decide) ?_ ?_
  · refine S_iconst g dX12_begin_104 ⟨by decide, by decide⟩ ?_
    refine S_istore g dX12_begin_105 (by decide) rfl ?_
    refine S_sub g [1, 0] rfl ?_
    exact sX12_begin_L107 hw g _ _
  · refine S_aload_n (kk := 0) g dX12_begin_90 rfl rfl ?_
    refine S_getr g dX12_begin_91 fl_Mod_26 (at_143 hw) rfl (rc_143_7 hw) ?_
    refine S_iload (kk := 1) g dX12_begin_94 rfl ?_
    refine S_iconst g dX12_begin_96 ⟨by decide, by decide⟩ ?_
    refine S_iastore g dX12_begin_97 (at_147 hw) (fun h29 => ?_)
    refine S_iinc (kk := 1) g dX12_begin_98 rfl (by decide) rfl ?_
    refine S_goto (tgt := 83) g dX12_begin_101 (by decide) ?_
    refine S_sub g [1, 0] rfl ?_
    exact hs83 _ _

theorem sX12_begin_L60 {Γ : Cx} {w : Wd} (hw : okM w) (g : Gd Γ cX12_begin 5 "GatePatchModel" (Option.some Jvm.ClassFile.FieldType.int) (rmd 3))   : ∀ (l4 : Int) (h : Hp), Sim Γ w 0 (XX12_begin_L60  l4 h) h 60 [(0, vP 143), (4, vI l4)] [] := by
  refine S_lup1 (fun l4 => [(0, vP 143), (4, vI l4)]) (fun self60 hs60 l4 h => ?_) FU
  unfold XX12_begin_b60
  refine S_iload (kk := 1) g dX12_begin_60 rfl ?_
  refine S_iconst g dX12_begin_62 ⟨by decide, by decide⟩ ?_
  refine S_icmp_ge (tgt := 80) g dX12_begin_63 (by decide) ?_ ?_
  · refine S_iconst g dX12_begin_80 ⟨by decide, by decide⟩ ?_
    refine S_istore g dX12_begin_81 (by decide) rfl ?_
    refine S_sub g [1, 0] rfl ?_
    exact sX12_begin_L83 hw g _ _
  · refine S_aload_n (kk := 0) g dX12_begin_66 rfl rfl ?_
    refine S_getr g dX12_begin_67 fl_Mod_16 (at_143 hw) rfl (rc_143_4 hw) ?_
    refine S_iload (kk := 1) g dX12_begin_70 rfl ?_
    refine S_iconst g dX12_begin_72 ⟨by decide, by decide⟩ ?_
    refine S_iastore g dX12_begin_73 (at_144 hw) (fun h30 => ?_)
    refine S_iinc (kk := 1) g dX12_begin_74 rfl (by decide) rfl ?_
    refine S_goto (tgt := 60) g dX12_begin_77 (by decide) ?_
    refine S_sub g [1, 0] rfl ?_
    exact hs60 _ _

theorem sX12_begin {G : GG} {w : Wd} (hw : okM w) (x0 : Int) (x1 : Int) (x2 : Int) (h : Hp) : SC G w yX12_begin (Cond.code yX12_begin cX12_begin 5 (Option.some Jvm.ClassFile.FieldType.int)) 3 0 [vP 143, vI x0, vI x1, vI x2] (XX12_begin x0 x1 x2 h) h := by
  refine SC_of (own := "GatePatchModel") plain_Mod rfl (Nat.le_of_ble_eq_true rfl) (fun Γ hG g => ?_)
  subst hG
  show Sim Γ w 0 _ h 0 [(0, vP 143), (1, vI x0), (2, vI x1), (3, vI x2)] []
  unfold XX12_begin
  refine S_iload_n (kk := 1) g dX12_begin_0 rfl rfl ?_
  refine S_iconst g dX12_begin_1 ⟨by decide, by decide⟩ ?_
  refine S_bipush g dX12_begin_2 ⟨by decide, by decide⟩ rfl ?_
  refine S_callSi (As := [vI x0, vI 0, vI 8]) g dX12_begin_4 (sX12_in hw _ _ _ _) rfl st_X12_in cw_X12_in ml_Mod_212 ini_Mod nd_X12_in ⟨by decide, by decide⟩ (Nat.le_of_ble_eq_true rfl) (fun r1 h2 => ?_)
  refine S_if_eq (tgt := 40) g dX12_begin_7 (by decide) ?_ ?_
  · refine S_iconst g dX12_begin_40 ⟨by decide, by decide⟩ ?_
    exact S_ireturn g dX12_begin_41 rfl
  · refine S_iload_n (kk := 2) g dX12_begin_10 rfl rfl ?_
    refine S_iconst g dX12_begin_11 ⟨by decide, by decide⟩ ?_
    refine S_iconst g dX12_begin_12 ⟨by decide, by decide⟩ ?_
    refine S_callSi (As := [vI x1, vI 0, vI 2]) g dX12_begin_13 (sX12_in hw _ _ _ _) rfl st_X12_in cw_X12_in ml_Mod_212 ini_Mod nd_X12_in ⟨by decide, by decide⟩ (Nat.le_of_ble_eq_true rfl) (fun r3 h4 => ?_)
    refine S_if_eq (tgt := 40) g dX12_begin_16 (by decide) ?_ ?_
    · refine S_iconst g dX12_begin_40 ⟨by decide, by decide⟩ ?_
      exact S_ireturn g dX12_begin_41 rfl
    · refine S_iload_n (kk := 3) g dX12_begin_19 rfl rfl ?_
      refine S_iconst g dX12_begin_20 ⟨by decide, by decide⟩ ?_
      refine S_iconst g dX12_begin_21 ⟨by decide, by decide⟩ ?_
      refine S_callSi (As := [vI x2, vI 1, vI 4]) g dX12_begin_22 (sX12_in hw _ _ _ _) rfl st_X12_in cw_X12_in ml_Mod_212 ini_Mod nd_X12_in ⟨by decide, by decide⟩ (Nat.le_of_ble_eq_true rfl) (fun r5 h6 => ?_)
      refine S_if_eq (tgt := 40) g dX12_begin_25 (by decide) ?_ ?_
      · refine S_iconst g dX12_begin_40 ⟨by decide, by decide⟩ ?_
        exact S_ireturn g dX12_begin_41 rfl
      · refine S_iload_n (kk := 1) g dX12_begin_28 rfl rfl ?_
        refine S_iload_n (kk := 2) g dX12_begin_29 rfl rfl ?_
        refine S_iadd g dX12_begin_30 ?_
        refine S_iconst g dX12_begin_31 ⟨by decide, by decide⟩ ?_
        refine S_bipush g dX12_begin_32 ⟨by decide, by decide⟩ rfl ?_
        refine S_callSi (As := [vI (x0 + x1), vI 1, vI 8]) g dX12_begin_34 (sX12_in hw _ _ _ _) rfl st_X12_in cw_X12_in ml_Mod_212 ini_Mod nd_X12_in ⟨by decide, by decide⟩ (Nat.le_of_ble_eq_true rfl) (fun r7 h8 => ?_)
        refine S_if_ne (tgt := 42) g dX12_begin_37 (by decide) ?_ ?_
        · refine S_aload_n (kk := 0) g dX12_begin_42 rfl rfl ?_
          refine S_iload_n (kk := 1) g dX12_begin_43 rfl rfl ?_
          refine S_puti g dX12_begin_44 fp_Mod_7 (at_143 hw) rfl (fun h9 => ?_)
          refine S_aload_n (kk := 0) g dX12_begin_47 rfl rfl ?_
          refine S_iload_n (kk := 2) g dX12_begin_48 rfl rfl ?_
          refine S_puti g dX12_begin_49 fp_Mod_205 (at_143 hw) rfl (fun h10 => ?_)
          refine S_aload_n (kk := 0) g dX12_begin_52 rfl rfl ?_
          refine S_iload_n (kk := 3) g dX12_begin_53 rfl rfl ?_
          refine S_puti g dX12_begin_54 fp_Mod_13 (at_143 hw) rfl (fun h11 => ?_)
          refine S_iconst g dX12_begin_57 ⟨by decide, by decide⟩ ?_
          refine S_istore g dX12_begin_58 (by decide) rfl ?_
          refine S_sub g [1, 0] rfl ?_
          exact sX12_begin_L60 hw g _ _
        · refine S_iconst g dX12_begin_40 ⟨by decide, by decide⟩ ?_
          exact S_ireturn g dX12_begin_41 rfl

def XX12_changed_p18   (s1 : Int) (h : Hp) : OR :=
  hm (wr h 143 36 s1) (fun h2 => some (0, h2))
def XX12_changed (x0 : Int) (h : Hp) : OR :=
  zb 0 (hm (wr h 143 23 0) (fun h1 => if x0 = 0 then XX12_changed_p18 0 h1 else XX12_changed_p18 (h1 143 36) h1))
theorem sX12_changed_p18 {Γ : Cx} {w : Wd} (hw : okM w) (g : Gd Γ cX12_changed 2 "GatePatchModel" (Option.none : Option Jvm.ClassFile.FieldType) (rmd 1))   (s1 : Int) (h : Hp) : Sim Γ w 3 (XX12_changed_p18   s1 h) h 18 [] [vI s1, vP 143] := by
  unfold XX12_changed_p18
  refine S_puti g dX12_changed_18 fp_Mod_233 (at_143 hw) rfl (fun h2 => ?_)
  exact S_return g dX12_changed_21 rfl

theorem sX12_changed {G : GG} {w : Wd} (hw : okM w) (x0 : Int) (h : Hp) : SC G w yX12_changed (Cond.code yX12_changed cX12_changed 2 (Option.none : Option Jvm.ClassFile.FieldType)) 1 3 [vP 143, vI x0] (XX12_changed x0 h) h := by
  refine SC_of (own := "GatePatchModel") plain_Mod rfl (Nat.le_of_ble_eq_true rfl) (fun Γ hG g => ?_)
  subst hG
  show Sim Γ w 3 _ h 0 [(0, vP 143), (1, vI x0)] []
  unfold XX12_changed
  refine S_aload_n (kk := 0) g dX12_changed_0 rfl rfl ?_
  refine S_iconst g dX12_changed_1 ⟨by decide, by decide⟩ ?_
  refine S_putz g dX12_changed_2 fp_Mod_229 (at_143 hw) rfl (fun h1 => ?_)
  refine S_aload_n (kk := 0) g dX12_changed_5 rfl rfl ?_
  refine S_iload_n (kk := 1) g dX12_changed_6 rfl rfl ?_
  refine S_if_ne (tgt := 14) g dX12_changed_7 (by decide) ?_ ?_
  · refine S_aload_n (kk := 0) g dX12_changed_14 rfl rfl ?_
    refine S_geti g dX12_changed_15 fl_Mod_233 (at_143 hw) (Or.inl rfl) ?_
    refine S_sub g [] rfl ?_
    exact sX12_changed_p18 hw g _ _
  · refine S_iconst g dX12_changed_10 ⟨by decide, by decide⟩ ?_
    refine S_goto (tgt := 18) g dX12_changed_11 (by decide) ?_
    refine S_sub g [] rfl ?_
    exact sX12_changed_p18 hw g _ _

def XX12_makes_p91   (l1 : Int) (h : Hp) : OR :=
  inb l1 2 (chk ((h 144 l1.toNat) + 1) (inb l1 2 (hm (wr h 144 l1.toNat ((h 144 l1.toNat) + 1)) (fun h7 => some (0, h7)))))
def XX12_makes (x0 : Int) (x1 : Int) (x2 : Int) (x3 : Int) (x4 : Int) (h : Hp) : OR :=
  cal (XX12_wires x0 h) (fun r1 h2 => chk (48 * x0) (chk ((48 * x0) + r1) (inb ((48 * x0) + r1) 96 (hm (wr h2 145 ((48 * x0) + r1).toNat x1) (fun h3 => chk (48 * x0) (chk ((48 * x0) + r1) (chk (3 * ((48 * x0) + r1)) (inb (3 * ((48 * x0) + r1)) 288 (hm (wr h3 146 (3 * ((48 * x0) + r1)).toNat x2) (fun h4 => chk (48 * x0) (chk ((48 * x0) + r1) (chk (3 * ((48 * x0) + r1)) (chk ((3 * ((48 * x0) + r1)) + 1) (inb ((3 * ((48 * x0) + r1)) + 1) 288 (hm (wr h4 146 ((3 * ((48 * x0) + r1)) + 1).toNat x3) (fun h5 => chk (48 * x0) (chk ((48 * x0) + r1) (chk (3 * ((48 * x0) + r1)) (chk ((3 * ((48 * x0) + r1)) + 2) (inb ((3 * ((48 * x0) + r1)) + 2) 288 (hm (wr h5 146 ((3 * ((48 * x0) + r1)) + 2).toNat x4) (fun h6 => if x0 = 0 then inb r1 48 (hm (wr h6 150 r1.toNat 0) (fun h8 => inb r1 48 (hm (wr h8 151 r1.toNat 0) (fun h9 => XX12_makes_p91 x0 h9)))) else XX12_makes_p91 x0 h6))))))))))))))))))))))
theorem sX12_makes_p91 {Γ : Cx} {w : Wd} (hw : okM w) (g : Gd Γ cX12_makes 7 "GatePatchModel" (Option.none : Option Jvm.ClassFile.FieldType) (rmd 3))   (l1 : Int) (h : Hp) : Sim Γ w 3 (XX12_makes_p91  l1  h) h 91 [(0, vP 143), (1, vI l1)] [] := by
  unfold XX12_makes_p91
  refine S_aload_n (kk := 0) g dX12_makes_91 rfl rfl ?_
  refine S_getr g dX12_makes_92 fl_Mod_16 (at_143 hw) rfl (rc_143_4 hw) ?_
  refine S_iload_n (kk := 1) g dX12_makes_95 rfl rfl ?_
  refine S_dup2 g dX12_makes_96 rfl rfl ?_
  refine S_iaload g dX12_makes_97 (at_144 hw) ?_
  refine S_iconst g dX12_makes_98 ⟨by decide, by decide⟩ ?_
  refine S_iadd g dX12_makes_99 ?_
  refine S_iastore g dX12_makes_100 (at_144 hw) (fun h7 => ?_)
  exact S_return g dX12_makes_101 rfl

theorem sX12_makes {G : GG} {w : Wd} (hw : okM w) (x0 : Int) (x1 : Int) (x2 : Int) (x3 : Int) (x4 : Int) (h : Hp) : SC G w yX12_makes (Cond.code yX12_makes cX12_makes 7 (Option.none : Option Jvm.ClassFile.FieldType)) 3 3 [vP 143, vI x0, vI x1, vI x2, vI x3, vI x4] (XX12_makes x0 x1 x2 x3 x4 h) h := by
  refine SC_of (own := "GatePatchModel") plain_Mod rfl (Nat.le_of_ble_eq_true rfl) (fun Γ hG g => ?_)
  subst hG
  show Sim Γ w 3 _ h 0 [(0, vP 143), (1, vI x0), (2, vI x1), (3, vI x2), (4, vI x3), (5, vI x4)] []
  unfold XX12_makes
  refine S_aload_n (kk := 0) g dX12_makes_0 rfl rfl ?_
  refine S_iload_n (kk := 1) g dX12_makes_1 rfl rfl ?_
  refine S_callVi (As := [vI x0]) g dX12_makes_2 (sX12_wires hw _ _) rfl (at_143 hw) rfl im_X12_wires se_X12_wires cw_X12_wires ml_Mod_216 ini_Mod nd_X12_wires ⟨by decide, by decide⟩ (Nat.le_of_ble_eq_true rfl) (fun r1 h2 => ?_)
  refine S_istore g dX12_makes_5 (by decide) rfl ?_
  refine S_aload_n (kk := 1) g dX12_makes_7 rfl rfl ?_
  refine S_getr g dX12_makes_8 fl_Mod_20 (at_143 hw) rfl (rc_143_5 hw) ?_
  refine S_bipush g dX12_makes_11 ⟨by decide, by decide⟩ rfl ?_
  refine S_iload_n (kk := 2) g dX12_makes_13 rfl rfl ?_
  refine S_imul g dX12_makes_14 ?_
  refine S_iload (kk := 0) g dX12_makes_15 rfl ?_
  refine S_iadd g dX12_makes_17 ?_
  refine S_iload_n (kk := 3) g dX12_makes_18 rfl rfl ?_
  refine S_iastore g dX12_makes_19 (at_145 hw) (fun h3 => ?_)
  refine S_aload_n (kk := 1) g dX12_makes_20 rfl rfl ?_
  refine S_getr g dX12_makes_21 fl_Mod_23 (at_143 hw) rfl (rc_143_6 hw) ?_
  refine S_iconst g dX12_makes_24 ⟨by decide, by decide⟩ ?_
  refine S_bipush g dX12_makes_25 ⟨by decide, by decide⟩ rfl ?_
  refine S_iload_n (kk := 2) g dX12_makes_27 rfl rfl ?_
  refine S_imul g dX12_makes_28 ?_
  refine S_iload (kk := 0) g dX12_makes_29 rfl ?_
  refine S_iadd g dX12_makes_31 ?_
  refine S_imul g dX12_makes_32 ?_
  refine S_iload_n (kk := 4) g dX12_makes_33 rfl rfl ?_
  refine S_iastore g dX12_makes_34 (at_146 hw) (fun h4 => ?_)
  refine S_aload_n (kk := 1) g dX12_makes_35 rfl rfl ?_
  refine S_getr g dX12_makes_36 fl_Mod_23 (at_143 hw) rfl (rc_143_6 hw) ?_
  refine S_iconst g dX12_makes_39 ⟨by decide, by decide⟩ ?_
  refine S_bipush g dX12_makes_40 ⟨by decide, by decide⟩ rfl ?_
  refine S_iload_n (kk := 2) g dX12_makes_42 rfl rfl ?_
  refine S_imul g dX12_makes_43 ?_
  refine S_iload (kk := 0) g dX12_makes_44 rfl ?_
  refine S_iadd g dX12_makes_46 ?_
  refine S_imul g dX12_makes_47 ?_
  refine S_iconst g dX12_makes_48 ⟨by decide, by decide⟩ ?_
  refine S_iadd g dX12_makes_49 ?_
  refine S_iload (kk := 5) g dX12_makes_50 rfl ?_
  refine S_iastore g dX12_makes_52 (at_146 hw) (fun h5 => ?_)
  refine S_aload_n (kk := 1) g dX12_makes_53 rfl rfl ?_
  refine S_getr g dX12_makes_54 fl_Mod_23 (at_143 hw) rfl (rc_143_6 hw) ?_
  refine S_iconst g dX12_makes_57 ⟨by decide, by decide⟩ ?_
  refine S_bipush g dX12_makes_58 ⟨by decide, by decide⟩ rfl ?_
  refine S_iload_n (kk := 2) g dX12_makes_60 rfl rfl ?_
  refine S_imul g dX12_makes_61 ?_
  refine S_iload (kk := 0) g dX12_makes_62 rfl ?_
  refine S_iadd g dX12_makes_64 ?_
  refine S_imul g dX12_makes_65 ?_
  refine S_iconst g dX12_makes_66 ⟨by decide, by decide⟩ ?_
  refine S_iadd g dX12_makes_67 ?_
  refine S_iload (kk := 6) g dX12_makes_68 rfl ?_
  refine S_iastore g dX12_makes_70 (at_146 hw) (fun h6 => ?_)
  refine S_iload_n (kk := 2) g dX12_makes_71 rfl rfl ?_
  refine S_if_ne (tgt := 91) g dX12_makes_72 (by decide) ?_ ?_
  · refine S_sub g [1, 2] rfl ?_
    exact sX12_makes_p91 hw g _ _
  · refine S_aload_n (kk := 1) g dX12_makes_75 rfl rfl ?_
    refine S_getr g dX12_makes_76 fl_Mod_36 (at_143 hw) rfl (rc_143_10 hw) ?_
    refine S_iload (kk := 0) g dX12_makes_79 rfl ?_
    refine S_iconst g dX12_makes_81 ⟨by decide, by decide⟩ ?_
    refine S_iastore g dX12_makes_82 (at_150 hw) (fun h8 => ?_)
    refine S_aload_n (kk := 1) g dX12_makes_83 rfl rfl ?_
    refine S_getr g dX12_makes_84 fl_Mod_39 (at_143 hw) rfl (rc_143_11 hw) ?_
    refine S_iload (kk := 0) g dX12_makes_87 rfl ?_
    refine S_iconst g dX12_makes_89 ⟨by decide, by decide⟩ ?_
    refine S_iastore g dX12_makes_90 (at_151 hw) (fun h9 => ?_)
    refine S_sub g [1, 2] rfl ?_
    exact sX12_makes_p91 hw g _ _

def XX12_fits (x0 : Int) (x1 : Int) (x2 : Int) (h : Hp) : OR :=
  if x1 = 0 then if x2 = (-1) then zb 1 (some (1, h)) else zb 0 (some (0, h)) else cal (XX12_isWire x0 x2 h) (fun r1 h2 => zb r1 (some (r1, h2)))
theorem sX12_fits {G : GG} {w : Wd} (hw : okM w) (x0 : Int) (x1 : Int) (x2 : Int) (h : Hp) : SC G w yX12_fits (Cond.code yX12_fits cX12_fits 4 (Option.some Jvm.ClassFile.FieldType.boolean)) 4 0 [vP 143, vI x0, vI x1, vI x2] (XX12_fits x0 x1 x2 h) h := by
  refine SC_of (own := "GatePatchModel") plain_Mod rfl (Nat.le_of_ble_eq_true rfl) (fun Γ hG g => ?_)
  subst hG
  show Sim Γ w 0 _ h 0 [(0, vP 143), (1, vI x0), (2, vI x1), (3, vI x2)] []
  unfold XX12_fits
  refine S_iload_n (kk := 2) g dX12_fits_0 rfl rfl ?_
  refine S_if_eq (tgt := 13) g dX12_fits_1 (by decide) ?_ ?_
  · refine S_iload_n (kk := 3) g dX12_fits_13 rfl rfl ?_
    refine S_iconst g dX12_fits_14 ⟨by decide, by decide⟩ ?_
    refine S_icmp_ne (tgt := 22) g dX12_fits_15 (by decide) ?_ ?_
    · refine S_iconst g dX12_fits_22 ⟨by decide, by decide⟩ ?_
      exact S_zreturn g dX12_fits_23 rfl
    · refine S_iconst g dX12_fits_18 ⟨by decide, by decide⟩ ?_
      refine S_goto (tgt := 23) g dX12_fits_19 (by decide) ?_
      exact S_zreturn g dX12_fits_23 rfl
  · refine S_aload_n (kk := 0) g dX12_fits_4 rfl rfl ?_
    refine S_iload_n (kk := 1) g dX12_fits_5 rfl rfl ?_
    refine S_iload_n (kk := 3) g dX12_fits_6 rfl rfl ?_
    refine S_callVi (As := [vI x0, vI x2]) g dX12_fits_7 (sX12_isWire hw _ _ _) rfl (at_143 hw) rfl im_X12_isWire se_X12_isWire cw_X12_isWire ml_Mod_245 ini_Mod nd_X12_isWire ⟨by decide, by decide⟩ (Nat.le_of_ble_eq_true rfl) (fun r1 h2 => ?_)
    refine S_goto (tgt := 23) g dX12_fits_10 (by decide) ?_
    exact S_zreturn g dX12_fits_23 rfl

def XX12_gate_p105   (l1 l2 l3 l4 l5 : Int) (s0 s1 : Int) (h : Hp) : OR :=
  if s0 = s1 then some ((-3), h) else cal (XX12_makes l1 l2 l3 l4 l5 h) (fun r13 h14 => cal (XX12_changed l1 h14) (fun r15 h16 => cal (XX12_wires l1 h16) (fun r17 h18 => chk (r17 - 1) (some ((r17 - 1), h18)))))
def XX12_gate_p78   (l1 l2 l3 l4 l5 : Int) (s1 s2 : Int) (h : Hp) : OR :=
  cal (XX12_fits s1 s2 l5 h) (fun r11 h12 => if r11 = 0 then some ((-1), h12) else inb l1 2 (if l1 = 0 then XX12_gate_p105 l1 l2 l3 l4 l5 (h12 144 l1.toNat) 40 h12 else XX12_gate_p105 l1 l2 l3 l4 l5 (h12 144 l1.toNat) 24 h12))
def XX12_gate_p57   (l1 l2 l3 l4 l5 l6 : Int) (s1 s2 : Int) (h : Hp) : OR :=
  cal (XX12_fits s1 s2 l4 h) (fun r9 h10 => if r9 = 0 then some ((-1), h10) else if l6 ≤ 2 then XX12_gate_p78 l1 l2 l3 l4 l5 l1 0 h10 else XX12_gate_p78 l1 l2 l3 l4 l5 l1 1 h10)
def XX12_gate_p37   (l1 l2 l3 l4 l5 l6 : Int) (s1 s2 : Int) (h : Hp) : OR :=
  cal (XX12_fits s1 s2 l3 h) (fun r7 h8 => if r7 = 0 then some ((-1), h8) else if l6 ≤ 1 then XX12_gate_p57 l1 l2 l3 l4 l5 l6 l1 0 h8 else XX12_gate_p57 l1 l2 l3 l4 l5 l6 l1 1 h8)
def XX12_gate (x0 : Int) (x1 : Int) (x2 : Int) (x3 : Int) (x4 : Int) (h : Hp) : OR :=
  cal (XX12_isNet x0 h) (fun r1 h2 => if r1 = 0 then some ((-1), h2) else cal (XX12_in x1 0 8 h2) (fun r3 h4 => if r3 = 0 then some ((-1), h4) else cal (XX12_pinsOf x1 h4) (fun r5 h6 => if r5 ≤ 0 then XX12_gate_p37 x0 x1 x2 x3 x4 r5 x0 0 h6 else XX12_gate_p37 x0 x1 x2 x3 x4 r5 x0 1 h6)))
theorem sX12_gate_p105 {Γ : Cx} {w : Wd} (hw : okM w) (g : Gd Γ cX12_gate 7 "GatePatchModel" (Option.some Jvm.ClassFile.FieldType.int) (rmd 5))   (l1 l2 l3 l4 l5 : Int) (s0 s1 : Int) (h : Hp) : Sim Γ w 0 (XX12_gate_p105  l1 l2 l3 l4 l5 s0 s1 h) h 105 [(0, vP 143), (1, vI l1), (2, vI l2), (3, vI l3), (4, vI l4), (5, vI l5)] [vI s1, vI s0] := by
  unfold XX12_gate_p105
  refine S_icmp_ne (tgt := 111) g dX12_gate_105 (by decide) ?_ ?_
  · refine S_aload_n (kk := 0) g dX12_gate_111 rfl rfl ?_
    refine S_iload_n (kk := 1) g dX12_gate_112 rfl rfl ?_
    refine S_iload_n (kk := 2) g dX12_gate_113 rfl rfl ?_
    refine S_iload_n (kk := 3) g dX12_gate_114 rfl rfl ?_
    refine S_iload (kk := 4) g dX12_gate_115 rfl ?_
    refine S_iload (kk := 5) g dX12_gate_117 rfl ?_
    refine S_callVv (As := [vI l1, vI l2, vI l3, vI l4, vI l5]) g dX12_gate_119 (sX12_makes hw _ _ _ _ _ _) rfl (at_143 hw) rfl im_X12_makes se_X12_makes cw_X12_makes ml_Mod_260 ini_Mod nd_X12_makes ⟨by decide, by decide⟩ (Nat.le_of_ble_eq_true rfl) (fun r13 h14 => ?_)
    refine S_aload_n (kk := 0) g dX12_gate_122 rfl rfl ?_
    refine S_iload_n (kk := 1) g dX12_gate_123 rfl rfl ?_
    refine S_callVv (As := [vI l1]) g dX12_gate_124 (sX12_changed hw _ _) rfl (at_143 hw) rfl im_X12_changed se_X12_changed cw_X12_changed ml_Mod_264 ini_Mod nd_X12_changed ⟨by decide, by decide⟩ (Nat.le_of_ble_eq_true rfl) (fun r15 h16 => ?_)
    refine S_aload_n (kk := 0) g dX12_gate_127 rfl rfl ?_
    refine S_iload_n (kk := 1) g dX12_gate_128 rfl rfl ?_
    refine S_callVi (As := [vI l1]) g dX12_gate_129 (sX12_wires hw _ _) rfl (at_143 hw) rfl im_X12_wires se_X12_wires cw_X12_wires ml_Mod_216 ini_Mod nd_X12_wires ⟨by decide, by decide⟩ (Nat.le_of_ble_eq_true rfl) (fun r17 h18 => ?_)
    refine S_iconst g dX12_gate_132 ⟨by decide, by decide⟩ ?_
    refine S_isub g dX12_gate_133 ?_
    exact S_ireturn g dX12_gate_134 rfl
  · refine S_bipush g dX12_gate_108 ⟨by decide, by decide⟩ rfl ?_
    exact S_ireturn g dX12_gate_110 rfl

theorem sX12_gate_p78 {Γ : Cx} {w : Wd} (hw : okM w) (g : Gd Γ cX12_gate 7 "GatePatchModel" (Option.some Jvm.ClassFile.FieldType.int) (rmd 5))   (l1 l2 l3 l4 l5 : Int) (s1 s2 : Int) (h : Hp) : Sim Γ w 0 (XX12_gate_p78  l1 l2 l3 l4 l5 s1 s2 h) h 78 [(0, vP 143), (1, vI l1), (2, vI l2), (3, vI l3), (4, vI l4), (5, vI l5)] [vI s2, vI s1, vP 143] := by
  unfold XX12_gate_p78
  refine S_iload (kk := 5) g dX12_gate_78 rfl ?_
  refine S_callVi (As := [vI s1, vI s2, vI l5]) g dX12_gate_80 (sX12_fits hw _ _ _ _) rfl (at_143 hw) rfl im_X12_fits se_X12_fits cw_X12_fits ml_Mod_256 ini_Mod nd_X12_fits ⟨by decide, by decide⟩ (Nat.le_of_ble_eq_true rfl) (fun r11 h12 => ?_)
  refine S_if_ne (tgt := 88) g dX12_gate_83 (by decide) ?_ ?_
  · refine S_aload_n (kk := 0) g dX12_gate_88 rfl rfl ?_
    refine S_getr g dX12_gate_89 fl_Mod_16 (at_143 hw) rfl (rc_143_4 hw) ?_
    refine S_iload_n (kk := 1) g dX12_gate_92 rfl rfl ?_
    refine S_iaload g dX12_gate_93 (at_144 hw) ?_
    refine S_iload_n (kk := 1) g dX12_gate_94 rfl rfl ?_
    refine S_if_ne (tgt := 103) g dX12_gate_95 (by decide) ?_ ?_
    · refine S_bipush g dX12_gate_103 ⟨by decide, by decide⟩ rfl ?_
      exact sX12_gate_p105 hw g _ _ _ _ _ _ _ _
    · refine S_bipush g dX12_gate_98 ⟨by decide, by decide⟩ rfl ?_
      refine S_goto (tgt := 105) g dX12_gate_100 (by decide) ?_
      exact sX12_gate_p105 hw g _ _ _ _ _ _ _ _
  · refine S_iconst g dX12_gate_86 ⟨by decide, by decide⟩ ?_
    exact S_ireturn g dX12_gate_87 rfl

theorem sX12_gate_p57 {Γ : Cx} {w : Wd} (hw : okM w) (g : Gd Γ cX12_gate 7 "GatePatchModel" (Option.some Jvm.ClassFile.FieldType.int) (rmd 5))   (l1 l2 l3 l4 l5 l6 : Int) (s1 s2 : Int) (h : Hp) : Sim Γ w 0 (XX12_gate_p57  l1 l2 l3 l4 l5 l6 s1 s2 h) h 57 [(0, vP 143), (1, vI l1), (2, vI l2), (3, vI l3), (4, vI l4), (5, vI l5), (6, vI l6)] [vI s2, vI s1, vP 143] := by
  unfold XX12_gate_p57
  refine S_iload (kk := 4) g dX12_gate_57 rfl ?_
  refine S_callVi (As := [vI s1, vI s2, vI l4]) g dX12_gate_59 (sX12_fits hw _ _ _ _) rfl (at_143 hw) rfl im_X12_fits se_X12_fits cw_X12_fits ml_Mod_256 ini_Mod nd_X12_fits ⟨by decide, by decide⟩ (Nat.le_of_ble_eq_true rfl) (fun r9 h10 => ?_)
  refine S_if_eq (tgt := 86) g dX12_gate_62 (by decide) ?_ ?_
  · refine S_iconst g dX12_gate_86 ⟨by decide, by decide⟩ ?_
    exact S_ireturn g dX12_gate_87 rfl
  · refine S_aload_n (kk := 0) g dX12_gate_65 rfl rfl ?_
    refine S_iload_n (kk := 1) g dX12_gate_66 rfl rfl ?_
    refine S_iload (kk := 6) g dX12_gate_67 rfl ?_
    refine S_iconst g dX12_gate_69 ⟨by decide, by decide⟩ ?_
    refine S_icmp_le (tgt := 77) g dX12_gate_70 (by decide) ?_ ?_
    · refine S_iconst g dX12_gate_77 ⟨by decide, by decide⟩ ?_
      refine S_sub g [0, 1, 2, 3, 4, 5] rfl ?_
      exact sX12_gate_p78 hw g _ _ _ _ _ _ _ _
    · refine S_iconst g dX12_gate_73 ⟨by decide, by decide⟩ ?_
      refine S_goto (tgt := 78) g dX12_gate_74 (by decide) ?_
      refine S_sub g [0, 1, 2, 3, 4, 5] rfl ?_
      exact sX12_gate_p78 hw g _ _ _ _ _ _ _ _

theorem sX12_gate_p37 {Γ : Cx} {w : Wd} (hw : okM w) (g : Gd Γ cX12_gate 7 "GatePatchModel" (Option.some Jvm.ClassFile.FieldType.int) (rmd 5))   (l1 l2 l3 l4 l5 l6 : Int) (s1 s2 : Int) (h : Hp) : Sim Γ w 0 (XX12_gate_p37  l1 l2 l3 l4 l5 l6 s1 s2 h) h 37 [(0, vP 143), (1, vI l1), (2, vI l2), (3, vI l3), (4, vI l4), (5, vI l5), (6, vI l6)] [vI s2, vI s1, vP 143] := by
  unfold XX12_gate_p37
  refine S_iload_n (kk := 3) g dX12_gate_37 rfl rfl ?_
  refine S_callVi (As := [vI s1, vI s2, vI l3]) g dX12_gate_38 (sX12_fits hw _ _ _ _) rfl (at_143 hw) rfl im_X12_fits se_X12_fits cw_X12_fits ml_Mod_256 ini_Mod nd_X12_fits ⟨by decide, by decide⟩ (Nat.le_of_ble_eq_true rfl) (fun r7 h8 => ?_)
  refine S_if_eq (tgt := 86) g dX12_gate_41 (by decide) ?_ ?_
  · refine S_iconst g dX12_gate_86 ⟨by decide, by decide⟩ ?_
    exact S_ireturn g dX12_gate_87 rfl
  · refine S_aload_n (kk := 0) g dX12_gate_44 rfl rfl ?_
    refine S_iload_n (kk := 1) g dX12_gate_45 rfl rfl ?_
    refine S_iload (kk := 6) g dX12_gate_46 rfl ?_
    refine S_iconst g dX12_gate_48 ⟨by decide, by decide⟩ ?_
    refine S_icmp_le (tgt := 56) g dX12_gate_49 (by decide) ?_ ?_
    · refine S_iconst g dX12_gate_56 ⟨by decide, by decide⟩ ?_
      exact sX12_gate_p57 hw g _ _ _ _ _ _ _ _ _
    · refine S_iconst g dX12_gate_52 ⟨by decide, by decide⟩ ?_
      refine S_goto (tgt := 57) g dX12_gate_53 (by decide) ?_
      exact sX12_gate_p57 hw g _ _ _ _ _ _ _ _ _

theorem sX12_gate {G : GG} {w : Wd} (hw : okM w) (x0 : Int) (x1 : Int) (x2 : Int) (x3 : Int) (x4 : Int) (h : Hp) : SC G w yX12_gate (Cond.code yX12_gate cX12_gate 7 (Option.some Jvm.ClassFile.FieldType.int)) 5 0 [vP 143, vI x0, vI x1, vI x2, vI x3, vI x4] (XX12_gate x0 x1 x2 x3 x4 h) h := by
  refine SC_of (own := "GatePatchModel") plain_Mod rfl (Nat.le_of_ble_eq_true rfl) (fun Γ hG g => ?_)
  subst hG
  show Sim Γ w 0 _ h 0 [(0, vP 143), (1, vI x0), (2, vI x1), (3, vI x2), (4, vI x3), (5, vI x4)] []
  unfold XX12_gate
  refine S_iload_n (kk := 1) g dX12_gate_0 rfl rfl ?_
  refine S_callSi (As := [vI x0]) g dX12_gate_1 (sX12_isNet hw _ _) rfl st_X12_isNet cw_X12_isNet ml_Mod_249 ini_Mod nd_X12_isNet ⟨by decide, by decide⟩ (Nat.le_of_ble_eq_true rfl) (fun r1 h2 => ?_)
  refine S_if_eq (tgt := 17) g dX12_gate_4 (by decide) ?_ ?_
  · refine S_iconst g dX12_gate_17 ⟨by decide, by decide⟩ ?_
    exact S_ireturn g dX12_gate_18 rfl
  · refine S_iload_n (kk := 2) g dX12_gate_7 rfl rfl ?_
    refine S_iconst g dX12_gate_8 ⟨by decide, by decide⟩ ?_
    refine S_bipush g dX12_gate_9 ⟨by decide, by decide⟩ rfl ?_
    refine S_callSi (As := [vI x1, vI 0, vI 8]) g dX12_gate_11 (sX12_in hw _ _ _ _) rfl st_X12_in cw_X12_in ml_Mod_212 ini_Mod nd_X12_in ⟨by decide, by decide⟩ (Nat.le_of_ble_eq_true rfl) (fun r3 h4 => ?_)
    refine S_if_ne (tgt := 19) g dX12_gate_14 (by decide) ?_ ?_
    · refine S_iload_n (kk := 2) g dX12_gate_19 rfl rfl ?_
      refine S_callSi (As := [vI x1]) g dX12_gate_20 (sX12_pinsOf hw _ _) rfl st_X12_pinsOf cw_X12_pinsOf ml_Mod_253 ini_Mod nd_X12_pinsOf ⟨by decide, by decide⟩ (Nat.le_of_ble_eq_true rfl) (fun r5 h6 => ?_)
      refine S_istore g dX12_gate_23 (by decide) rfl ?_
      refine S_aload_n (kk := 1) g dX12_gate_25 rfl rfl ?_
      refine S_iload_n (kk := 2) g dX12_gate_26 rfl rfl ?_
      refine S_iload (kk := 0) g dX12_gate_27 rfl ?_
      refine S_if_le (tgt := 36) g dX12_gate_29 (by decide) ?_ ?_
      · refine S_iconst g dX12_gate_36 ⟨by decide, by decide⟩ ?_
        refine S_sub g [1, 2, 3, 4, 5, 6, 0] rfl ?_
        exact sX12_gate_p37 hw g _ _ _ _ _ _ _ _ _
      · refine S_iconst g dX12_gate_32 ⟨by decide, by decide⟩ ?_
        refine S_goto (tgt := 37) g dX12_gate_33 (by decide) ?_
        refine S_sub g [1, 2, 3, 4, 5, 6, 0] rfl ?_
        exact sX12_gate_p37 hw g _ _ _ _ _ _ _ _ _
    · refine S_iconst g dX12_gate_17 ⟨by decide, by decide⟩ ?_
      exact S_ireturn g dX12_gate_18 rfl

def XX12_looks_p140  (self32 : Int → Int → Hp → OR) (self44 : Int → Int → Int → Hp → OR) (l1 l3 l4 : Int) (h : Hp) : OR :=
  chk (l4 + 1) (self44 l1 l3 (l4 + 1) h)
def XX12_looks_p125  (self32 : Int → Int → Hp → OR) (self44 : Int → Int → Int → Hp → OR) (self57 : Int → Int → Int → Int → Hp → OR) (l1 l4 l5 l6 : Int) (s0 : Int) (h : Hp) : OR :=
  inb l6 48 (zb 1 (hm (wr h 185 l6.toNat 1) (fun h8 => chk (l5 + 1) (self57 l1 s0 l4 (l5 + 1) h8))))
def XX12_looks_p120  (self32 : Int → Int → Hp → OR) (self44 : Int → Int → Int → Hp → OR) (self57 : Int → Int → Int → Int → Hp → OR) (l1 l4 l5 l6 : Int) (h : Hp) : OR :=
  XX12_looks_p125 self32 self44 self57 l1 l4 l5 l6 1 h
def XX12_looks_b57  (self32 : Int → Int → Hp → OR) (self44 : Int → Int → Int → Hp → OR) (self57 : Int → Int → Int → Int → Hp → OR) (l1 l3 l4 l5 : Int) (h : Hp) : OR :=
  chk (48 * l1) (chk ((48 * l1) + l4) (inb ((48 * l1) + l4) 96 (cal (XX12_pinsOf (h 145 ((48 * l1) + l4).toNat) h) (fun r5 h6 => if r5 ≤ l5 then XX12_looks_p140 self32 self44 l1 l3 l4 h6 else inb l4 48 (if (h6 185 l4.toNat) = 0 then XX12_looks_p140 self32 self44 l1 l3 l4 h6 else chk (48 * l1) (chk ((48 * l1) + l4) (chk (3 * ((48 * l1) + l4)) (chk ((3 * ((48 * l1) + l4)) + l5) (inb ((3 * ((48 * l1) + l4)) + l5) 288 (nm (h6 146 ((3 * ((48 * l1) + l4)) + l5).toNat) (fun v7 => if l3 = 0 then inb v7 48 (if (h6 185 v7.toNat) = 0 then XX12_looks_p120 self32 self44 self57 l1 l4 l5 v7 h6 else XX12_looks_p125 self32 self44 self57 l1 l4 l5 v7 0 h6) else XX12_looks_p120 self32 self44 self57 l1 l4 l5 v7 h6)))))))))))
def XX12_looks_L57  (self32 : Int → Int → Hp → OR) (self44 : Int → Int → Int → Hp → OR) (l1 l3 l4 l5 : Int) (h : Hp) : OR := lup4 (XX12_looks_b57 self32 self44) FU l1 l3 l4 l5 h
def XX12_looks_b44  (self32 : Int → Int → Hp → OR) (self44 : Int → Int → Int → Hp → OR) (l1 l3 l4 : Int) (h : Hp) : OR :=
  cal (XX12_wires l1 h) (fun r3 h4 => if r3 ≤ l4 then self32 l1 l3 h4 else XX12_looks_L57 self32 self44 l1 l3 l4 0 h4)
def XX12_looks_L44  (self32 : Int → Int → Hp → OR) (l1 l3 l4 : Int) (h : Hp) : OR := lup3 (XX12_looks_b44 self32) FU l1 l3 l4 h
def XX12_looks_b32   (self32 : Int → Int → Hp → OR) (l1 l3 : Int) (h : Hp) : OR :=
  if l3 = 0 then some (0, h) else cal (XX12_begun h) (fun r1 h2 => XX12_looks_L44 self32 l1 0 r1 h2)
def XX12_looks_L32   (l1 l3 : Int) (h : Hp) : OR := lup2 (XX12_looks_b32 ) FU l1 l3 h
def XX12_looks_p23  (self2 : Int → Int → Int → Hp → OR) (l1 l2 l3 : Int) (s1 s2 : Int) (h : Hp) : OR :=
  inb s1 48 (zb s2 (hm (wr h 185 s1.toNat s2) (fun h9 => chk (l3 + 1) (self2 l1 l2 (l3 + 1) h9))))
def XX12_looks_b2   (self2 : Int → Int → Int → Hp → OR) (l1 l2 l3 : Int) (h : Hp) : OR :=
  if 48 ≤ l3 then XX12_looks_L32 l1 1 h else if l3 = l2 then XX12_looks_p23 self2 l1 l2 l3 l3 1 h else XX12_looks_p23 self2 l1 l2 l3 l3 0 h
def XX12_looks_L2   (l1 l2 l3 : Int) (h : Hp) : OR := lup3 (XX12_looks_b2 ) FU l1 l2 l3 h
def XX12_looks (x0 : Int) (x1 : Int) (h : Hp) : OR :=
  XX12_looks_L2 x0 x1 0 h
theorem sX12_looks_p140 {Γ : Cx} {w : Wd} (hw : okM w) (g : Gd Γ cX12_looks 7 "GatePatchModel" (Option.none : Option Jvm.ClassFile.FieldType) (rmd 3))  (self32 : Int → Int → Hp → OR) (hs32 : ∀ (x0 x1 : Int) (h : Hp), Sim Γ w 3 (self32 x0 x1 h) h 32 [(0, vP 143), (1, vI x0), (3, vI x1)] []) (self44 : Int → Int → Int → Hp → OR) (hs44 : ∀ (x0 x1 x2 : Int) (h : Hp), Sim Γ w 3 (self44 x0 x1 x2 h) h 44 [(0, vP 143), (1, vI x0), (3, vI x1), (4, vI x2)] []) (l1 l3 l4 : Int) (h : Hp) : Sim Γ w 3 (XX12_looks_p140 self32 self44 l1 l3 l4  h) h 140 [(0, vP 143), (1, vI l1), (3, vI l3), (4, vI l4)] [] := by
  unfold XX12_looks_p140
  refine S_iinc (kk := 3) g dX12_looks_140 rfl (by decide) rfl ?_
  refine S_goto (tgt := 44) g dX12_looks_143 (by decide) ?_
  refine S_sub g [1, 2, 3, 0] rfl ?_
  exact hs44 _ _ _ _

theorem sX12_looks_p125 {Γ : Cx} {w : Wd} (hw : okM w) (g : Gd Γ cX12_looks 7 "GatePatchModel" (Option.none : Option Jvm.ClassFile.FieldType) (rmd 3))  (self32 : Int → Int → Hp → OR) (hs32 : ∀ (x0 x1 : Int) (h : Hp), Sim Γ w 3 (self32 x0 x1 h) h 32 [(0, vP 143), (1, vI x0), (3, vI x1)] []) (self44 : Int → Int → Int → Hp → OR) (hs44 : ∀ (x0 x1 x2 : Int) (h : Hp), Sim Γ w 3 (self44 x0 x1 x2 h) h 44 [(0, vP 143), (1, vI x0), (3, vI x1), (4, vI x2)] []) (self57 : Int → Int → Int → Int → Hp → OR) (hs57 : ∀ (x0 x1 x2 x3 : Int) (h : Hp), Sim Γ w 3 (self57 x0 x1 x2 x3 h) h 57 [(0, vP 143), (1, vI x0), (3, vI x1), (4, vI x2), (5, vI x3)] []) (l1 l4 l5 l6 : Int) (s0 : Int) (h : Hp) : Sim Γ w 3 (XX12_looks_p125 self32 self44 self57 l1 l4 l5 l6 s0 h) h 125 [(0, vP 143), (1, vI l1), (4, vI l4), (5, vI l5), (6, vI l6)] [vI s0] := by
  unfold XX12_looks_p125
  refine S_istore_n g dX12_looks_125 rfl (by decide) rfl ?_
  refine S_aload_n (kk := 1) g dX12_looks_126 rfl rfl ?_
  refine S_getr g dX12_looks_127 fl_Mod_148 (at_143 hw) rfl (rc_143_58 hw) ?_
  refine S_iload (kk := 5) g dX12_looks_130 rfl ?_
  refine S_iconst g dX12_looks_132 ⟨by decide, by decide⟩ ?_
  refine S_zastore g dX12_looks_133 (at_185 hw) (fun h8 => ?_)
  refine S_iinc (kk := 4) g dX12_looks_134 rfl (by decide) rfl ?_
  refine S_goto (tgt := 57) g dX12_looks_137 (by decide) ?_
  refine S_sub g [2, 3, 1, 4, 0] rfl ?_
  exact hs57 _ _ _ _ _

theorem sX12_looks_p120 {Γ : Cx} {w : Wd} (hw : okM w) (g : Gd Γ cX12_looks 7 "GatePatchModel" (Option.none : Option Jvm.ClassFile.FieldType) (rmd 3))  (self32 : Int → Int → Hp → OR) (hs32 : ∀ (x0 x1 : Int) (h : Hp), Sim Γ w 3 (self32 x0 x1 h) h 32 [(0, vP 143), (1, vI x0), (3, vI x1)] []) (self44 : Int → Int → Int → Hp → OR) (hs44 : ∀ (x0 x1 x2 : Int) (h : Hp), Sim Γ w 3 (self44 x0 x1 x2 h) h 44 [(0, vP 143), (1, vI x0), (3, vI x1), (4, vI x2)] []) (self57 : Int → Int → Int → Int → Hp → OR) (hs57 : ∀ (x0 x1 x2 x3 : Int) (h : Hp), Sim Γ w 3 (self57 x0 x1 x2 x3 h) h 57 [(0, vP 143), (1, vI x0), (3, vI x1), (4, vI x2), (5, vI x3)] []) (l1 l4 l5 l6 : Int) (h : Hp) : Sim Γ w 3 (XX12_looks_p120 self32 self44 self57 l1 l4 l5 l6  h) h 120 [(0, vP 143), (1, vI l1), (4, vI l4), (5, vI l5), (6, vI l6)] [] := by
  unfold XX12_looks_p120
  refine S_iconst g dX12_looks_120 ⟨by decide, by decide⟩ ?_
  refine S_goto (tgt := 125) g dX12_looks_121 (by decide) ?_
  exact sX12_looks_p125 hw g self32 hs32 self44 hs44 self57 hs57 _ _ _ _ _ _

theorem sX12_looks_L57 {Γ : Cx} {w : Wd} (hw : okM w) (g : Gd Γ cX12_looks 7 "GatePatchModel" (Option.none : Option Jvm.ClassFile.FieldType) (rmd 3))  (self32 : Int → Int → Hp → OR) (hs32 : ∀ (x0 x1 : Int) (h : Hp), Sim Γ w 3 (self32 x0 x1 h) h 32 [(0, vP 143), (1, vI x0), (3, vI x1)] []) (self44 : Int → Int → Int → Hp → OR) (hs44 : ∀ (x0 x1 x2 : Int) (h : Hp), Sim Γ w 3 (self44 x0 x1 x2 h) h 44 [(0, vP 143), (1, vI x0), (3, vI x1), (4, vI x2)] []) : ∀ (l1 l3 l4 l5 : Int) (h : Hp), Sim Γ w 3 (XX12_looks_L57 self32 self44 l1 l3 l4 l5 h) h 57 [(0, vP 143), (1, vI l1), (3, vI l3), (4, vI l4), (5, vI l5)] [] := by
  refine S_lup4 (fun l1 l3 l4 l5 => [(0, vP 143), (1, vI l1), (3, vI l3), (4, vI l4), (5, vI l5)]) (fun self57 hs57 l1 l3 l4 l5 h => ?_) FU
  unfold XX12_looks_b57
  refine S_iload (kk := 4) g dX12_looks_57 rfl ?_
  refine S_aload_n (kk := 0) g dX12_looks_59 rfl rfl ?_
  refine S_getr g dX12_looks_60 fl_Mod_20 (at_143 hw) rfl (rc_143_5 hw) ?_
  refine S_bipush g dX12_looks_63 ⟨by decide, by decide⟩ rfl ?_
  refine S_iload_n (kk := 1) g dX12_looks_65 rfl rfl ?_
  refine S_imul g dX12_looks_66 ?_
  refine S_iload (kk := 3) g dX12_looks_67 rfl ?_
  refine S_iadd g dX12_looks_69 ?_
  refine S_iaload g dX12_looks_70 (at_145 hw) ?_
  refine S_callSi (As := [vI (h 145 ((48 * l1) + l4).toNat)]) g dX12_looks_71 (sX12_pinsOf hw _ _) rfl st_X12_pinsOf cw_X12_pinsOf ml_Mod_253 ini_Mod nd_X12_pinsOf ⟨by decide, by decide⟩ (Nat.le_of_ble_eq_true rfl) (fun r5 h6 => ?_)
  refine S_icmp_ge (tgt := 140) g dX12_looks_74 (by decide) ?_ ?_
  · refine S_sub g [0, 1, 2, 3] rfl ?_
    exact sX12_looks_p140 hw g self32 hs32 self44 hs44 _ _ _ _
  · refine S_aload_n (kk := 0) g dX12_looks_77 rfl rfl ?_
    refine S_getr g dX12_looks_78 fl_Mod_148 (at_143 hw) rfl (rc_143_58 hw) ?_
    refine S_iload (kk := 3) g dX12_looks_81 rfl ?_
    refine S_zaload g dX12_looks_83 (at_185 hw) ?_
    refine S_if_eq (tgt := 140) g dX12_looks_84 (by decide) ?_ ?_
    · refine S_sub g [0, 1, 2, 3] rfl ?_
      exact sX12_looks_p140 hw g self32 hs32 self44 hs44 _ _ _ _
    · refine S_aload_n (kk := 0) g dX12_looks_87 rfl rfl ?_
      refine S_getr g dX12_looks_88 fl_Mod_23 (at_143 hw) rfl (rc_143_6 hw) ?_
      refine S_iconst g dX12_looks_91 ⟨by decide, by decide⟩ ?_
      refine S_bipush g dX12_looks_92 ⟨by decide, by decide⟩ rfl ?_
      refine S_iload_n (kk := 1) g dX12_looks_94 rfl rfl ?_
      refine S_imul g dX12_looks_95 ?_
      refine S_iload (kk := 3) g dX12_looks_96 rfl ?_
      refine S_iadd g dX12_looks_98 ?_
      refine S_imul g dX12_looks_99 ?_
      refine S_iload (kk := 4) g dX12_looks_100 rfl ?_
      refine S_iadd g dX12_looks_102 ?_
      refine S_iaload g dX12_looks_103 (at_146 hw) ?_
      refine S_nmI (fun v7 => ?_)
      refine S_istore g dX12_looks_104 (by decide) rfl ?_
      refine S_iload_n (kk := 3) g dX12_looks_106 rfl rfl ?_
      refine S_if_ne (tgt := 120) g dX12_looks_107 (by decide) ?_ ?_
      · refine S_sub g [1, 2, 4, 5, 0] rfl ?_
        exact sX12_looks_p120 hw g self32 hs32 self44 hs44 self57 hs57 _ _ _ _ _
      · refine S_aload_n (kk := 1) g dX12_looks_110 rfl rfl ?_
        refine S_getr g dX12_looks_111 fl_Mod_148 (at_143 hw) rfl (rc_143_58 hw) ?_
        refine S_iload (kk := 0) g dX12_looks_114 rfl ?_
        refine S_zaload g dX12_looks_116 (at_185 hw) ?_
        refine S_if_ne (tgt := 124) g dX12_looks_117 (by decide) ?_ ?_
        · refine S_iconst g dX12_looks_124 ⟨by decide, by decide⟩ ?_
          refine S_sub g [1, 2, 4, 5, 0] rfl ?_
          exact sX12_looks_p125 hw g self32 hs32 self44 hs44 self57 hs57 _ _ _ _ _ _
        · refine S_sub g [1, 2, 4, 5, 0] rfl ?_
          exact sX12_looks_p120 hw g self32 hs32 self44 hs44 self57 hs57 _ _ _ _ _

theorem sX12_looks_L44 {Γ : Cx} {w : Wd} (hw : okM w) (g : Gd Γ cX12_looks 7 "GatePatchModel" (Option.none : Option Jvm.ClassFile.FieldType) (rmd 3))  (self32 : Int → Int → Hp → OR) (hs32 : ∀ (x0 x1 : Int) (h : Hp), Sim Γ w 3 (self32 x0 x1 h) h 32 [(0, vP 143), (1, vI x0), (3, vI x1)] []) : ∀ (l1 l3 l4 : Int) (h : Hp), Sim Γ w 3 (XX12_looks_L44 self32 l1 l3 l4 h) h 44 [(0, vP 143), (1, vI l1), (3, vI l3), (4, vI l4)] [] := by
  refine S_lup3 (fun l1 l3 l4 => [(0, vP 143), (1, vI l1), (3, vI l3), (4, vI l4)]) (fun self44 hs44 l1 l3 l4 h => ?_) FU
  unfold XX12_looks_b44
  refine S_iload (kk := 3) g dX12_looks_44 rfl ?_
  refine S_aload_n (kk := 0) g dX12_looks_46 rfl rfl ?_
  refine S_iload_n (kk := 1) g dX12_looks_47 rfl rfl ?_
  refine S_callVi (As := [vI l1]) g dX12_looks_48 (sX12_wires hw _ _) rfl (at_143 hw) rfl im_X12_wires se_X12_wires cw_X12_wires ml_Mod_216 ini_Mod nd_X12_wires ⟨by decide, by decide⟩ (Nat.le_of_ble_eq_true rfl) (fun r3 h4 => ?_)
  refine S_icmp_ge (tgt := 146) g dX12_looks_51 (by decide) ?_ ?_
  · refine S_goto (tgt := 32) g dX12_looks_146 (by decide) ?_
    refine S_sub g [0, 1, 2] rfl ?_
    exact hs32 _ _ _
  · refine S_iconst g dX12_looks_54 ⟨by decide, by decide⟩ ?_
    refine S_istore g dX12_looks_55 (by decide) rfl ?_
    refine S_sub g [1, 2, 3, 4, 0] rfl ?_
    exact sX12_looks_L57 hw g self32 hs32 self44 hs44 _ _ _ _ _

theorem sX12_looks_L32 {Γ : Cx} {w : Wd} (hw : okM w) (g : Gd Γ cX12_looks 7 "GatePatchModel" (Option.none : Option Jvm.ClassFile.FieldType) (rmd 3))   : ∀ (l1 l3 : Int) (h : Hp), Sim Γ w 3 (XX12_looks_L32  l1 l3 h) h 32 [(0, vP 143), (1, vI l1), (3, vI l3)] [] := by
  refine S_lup2 (fun l1 l3 => [(0, vP 143), (1, vI l1), (3, vI l3)]) (fun self32 hs32 l1 l3 h => ?_) FU
  unfold XX12_looks_b32
  refine S_iload_n (kk := 2) g dX12_looks_32 rfl rfl ?_
  refine S_if_eq (tgt := 149) g dX12_looks_33 (by decide) ?_ ?_
  · exact S_return g dX12_looks_149 rfl
  · refine S_iconst g dX12_looks_36 ⟨by decide, by decide⟩ ?_
    refine S_istore_n g dX12_looks_37 rfl (by decide) rfl ?_
    refine S_aload_n (kk := 1) g dX12_looks_38 rfl rfl ?_
    refine S_callVi (As := []) g dX12_looks_39 (sX12_begun hw  _) rfl (at_143 hw) rfl im_X12_begun se_X12_begun cw_X12_begun ml_Mod_208 ini_Mod nd_X12_begun ⟨by decide, by decide⟩ (Nat.le_of_ble_eq_true rfl) (fun r1 h2 => ?_)
    refine S_istore g dX12_looks_42 (by decide) rfl ?_
    refine S_sub g [2, 3, 1, 0] rfl ?_
    exact sX12_looks_L44 hw g self32 hs32 _ _ _ _

theorem sX12_looks_p23 {Γ : Cx} {w : Wd} (hw : okM w) (g : Gd Γ cX12_looks 7 "GatePatchModel" (Option.none : Option Jvm.ClassFile.FieldType) (rmd 3))  (self2 : Int → Int → Int → Hp → OR) (hs2 : ∀ (x0 x1 x2 : Int) (h : Hp), Sim Γ w 3 (self2 x0 x1 x2 h) h 2 [(0, vP 143), (1, vI x0), (2, vI x1), (3, vI x2)] []) (l1 l2 l3 : Int) (s1 s2 : Int) (h : Hp) : Sim Γ w 3 (XX12_looks_p23 self2 l1 l2 l3 s1 s2 h) h 23 [(0, vP 143), (1, vI l1), (2, vI l2), (3, vI l3)] [vI s2, vI s1, vP 185] := by
  unfold XX12_looks_p23
  refine S_zastore g dX12_looks_23 (at_185 hw) (fun h9 => ?_)
  refine S_iinc (kk := 3) g dX12_looks_24 rfl (by decide) rfl ?_
  refine S_goto (tgt := 2) g dX12_looks_27 (by decide) ?_
  refine S_sub g [1, 2, 3, 0] rfl ?_
  exact hs2 _ _ _ _

theorem sX12_looks_L2 {Γ : Cx} {w : Wd} (hw : okM w) (g : Gd Γ cX12_looks 7 "GatePatchModel" (Option.none : Option Jvm.ClassFile.FieldType) (rmd 3))   : ∀ (l1 l2 l3 : Int) (h : Hp), Sim Γ w 3 (XX12_looks_L2  l1 l2 l3 h) h 2 [(0, vP 143), (1, vI l1), (2, vI l2), (3, vI l3)] [] := by
  refine S_lup3 (fun l1 l2 l3 => [(0, vP 143), (1, vI l1), (2, vI l2), (3, vI l3)]) (fun self2 hs2 l1 l2 l3 h => ?_) FU
  unfold XX12_looks_b2
  refine S_iload_n (kk := 3) g dX12_looks_2 rfl rfl ?_
  refine S_bipush g dX12_looks_3 ⟨by decide, by decide⟩ rfl ?_
  refine S_icmp_ge (tgt := 30) g dX12_looks_5 (by decide) ?_ ?_
  · refine S_iconst g dX12_looks_30 ⟨by decide, by decide⟩ ?_
    refine S_istore_n g dX12_looks_31 rfl (by decide) rfl ?_
    refine S_sub g [1, 2, 0] rfl ?_
    exact sX12_looks_L32 hw g _ _ _
  · refine S_aload_n (kk := 0) g dX12_looks_8 rfl rfl ?_
    refine S_getr g dX12_looks_9 fl_Mod_148 (at_143 hw) rfl (rc_143_58 hw) ?_
    refine S_iload_n (kk := 3) g dX12_looks_12 rfl rfl ?_
    refine S_iload_n (kk := 3) g dX12_looks_13 rfl rfl ?_
    refine S_iload_n (kk := 2) g dX12_looks_14 rfl rfl ?_
    refine S_icmp_ne (tgt := 22) g dX12_looks_15 (by decide) ?_ ?_
    · refine S_iconst g dX12_looks_22 ⟨by decide, by decide⟩ ?_
      exact sX12_looks_p23 hw g self2 hs2 _ _ _ _ _ _
    · refine S_iconst g dX12_looks_18 ⟨by decide, by decide⟩ ?_
      refine S_goto (tgt := 23) g dX12_looks_19 (by decide) ?_
      exact sX12_looks_p23 hw g self2 hs2 _ _ _ _ _ _

theorem sX12_looks {G : GG} {w : Wd} (hw : okM w) (x0 : Int) (x1 : Int) (h : Hp) : SC G w yX12_looks (Cond.code yX12_looks cX12_looks 7 (Option.none : Option Jvm.ClassFile.FieldType)) 3 3 [vP 143, vI x0, vI x1] (XX12_looks x0 x1 h) h := by
  refine SC_of (own := "GatePatchModel") plain_Mod rfl (Nat.le_of_ble_eq_true rfl) (fun Γ hG g => ?_)
  subst hG
  show Sim Γ w 3 _ h 0 [(0, vP 143), (1, vI x0), (2, vI x1)] []
  unfold XX12_looks
  refine S_iconst g dX12_looks_0 ⟨by decide, by decide⟩ ?_
  refine S_istore_n g dX12_looks_1 rfl (by decide) rfl ?_
  refine S_sub g [1, 2, 3, 0] rfl ?_
  exact sX12_looks_L2 hw g _ _ _ _

def XX12_doesHang (x0 : Int) (x1 : Int) (x2 : Int) (h : Hp) : OR :=
  cal (XX12_looks x0 x1 h) (fun r1 h2 => inb x2 48 (zb (h2 185 x2.toNat) (some ((h2 185 x2.toNat), h2))))
theorem sX12_doesHang {G : GG} {w : Wd} (hw : okM w) (x0 : Int) (x1 : Int) (x2 : Int) (h : Hp) : SC G w yX12_doesHang (Cond.code yX12_doesHang cX12_doesHang 4 (Option.some Jvm.ClassFile.FieldType.boolean)) 4 0 [vP 143, vI x0, vI x1, vI x2] (XX12_doesHang x0 x1 x2 h) h := by
  refine SC_of (own := "GatePatchModel") plain_Mod rfl (Nat.le_of_ble_eq_true rfl) (fun Γ hG g => ?_)
  subst hG
  show Sim Γ w 0 _ h 0 [(0, vP 143), (1, vI x0), (2, vI x1), (3, vI x2)] []
  unfold XX12_doesHang
  refine S_aload_n (kk := 0) g dX12_doesHang_0 rfl rfl ?_
  refine S_iload_n (kk := 1) g dX12_doesHang_1 rfl rfl ?_
  refine S_iload_n (kk := 2) g dX12_doesHang_2 rfl rfl ?_
  refine S_callVv (As := [vI x0, vI x1]) g dX12_doesHang_3 (sX12_looks hw _ _ _) rfl (at_143 hw) rfl im_X12_looks se_X12_looks cw_X12_looks ml_Mod_277 ini_Mod nd_X12_looks ⟨by decide, by decide⟩ (Nat.le_of_ble_eq_true rfl) (fun r1 h2 => ?_)
  refine S_aload_n (kk := 0) g dX12_doesHang_6 rfl rfl ?_
  refine S_getr g dX12_doesHang_7 fl_Mod_148 (at_143 hw) rfl (rc_143_58 hw) ?_
  refine S_iload_n (kk := 3) g dX12_doesHang_10 rfl rfl ?_
  refine S_zaload g dX12_doesHang_11 (at_185 hw) ?_
  exact S_zreturn g dX12_doesHang_12 rfl

def XX12_rewire (x0 : Int) (x1 : Int) (x2 : Int) (x3 : Int) (h : Hp) : OR :=
  cal (XX12_isNet x0 h) (fun r1 h2 => if r1 = 0 then some ((-1), h2) else cal (XX12_isGate x0 x1 h2) (fun r3 h4 => if r3 = 0 then some ((-1), h4) else chk (48 * x0) (chk ((48 * x0) + x1) (inb ((48 * x0) + x1) 96 (cal (XX12_pinsOf (h4 145 ((48 * x0) + x1).toNat) h4) (fun r5 h6 => chk (r5 - 1) (cal (XX12_in x2 0 (r5 - 1) h6) (fun r7 h8 => if r7 = 0 then some ((-1), h8) else cal (XX12_isWire x0 x3 h8) (fun r9 h10 => if r9 = 0 then some ((-1), h10) else cal (XX12_doesHang x0 x3 x1 h10) (fun r11 h12 => if r11 = 0 then chk (48 * x0) (chk ((48 * x0) + x1) (chk (3 * ((48 * x0) + x1)) (chk ((3 * ((48 * x0) + x1)) + x2) (nm ((3 * ((48 * x0) + x1)) + x2) (fun v13 => inb v13 288 (nm (h12 146 v13.toNat) (fun v14 => inb v13 288 (hm (wr h12 146 v13.toNat x3) (fun h15 => cal (XX12_changed x0 h15) (fun r16 h17 => some (v14, h17))))))))))) else some ((-2), h12)))))))))))
theorem sX12_rewire {G : GG} {w : Wd} (hw : okM w) (x0 : Int) (x1 : Int) (x2 : Int) (x3 : Int) (h : Hp) : SC G w yX12_rewire (Cond.code yX12_rewire cX12_rewire 7 (Option.some Jvm.ClassFile.FieldType.int)) 5 0 [vP 143, vI x0, vI x1, vI x2, vI x3] (XX12_rewire x0 x1 x2 x3 h) h := by
  refine SC_of (own := "GatePatchModel") plain_Mod rfl (Nat.le_of_ble_eq_true rfl) (fun Γ hG g => ?_)
  subst hG
  show Sim Γ w 0 _ h 0 [(0, vP 143), (1, vI x0), (2, vI x1), (3, vI x2), (4, vI x3)] []
  unfold XX12_rewire
  refine S_iload_n (kk := 1) g dX12_rewire_0 rfl rfl ?_
  refine S_callSi (As := [vI x0]) g dX12_rewire_1 (sX12_isNet hw _ _) rfl st_X12_isNet cw_X12_isNet ml_Mod_249 ini_Mod nd_X12_isNet ⟨by decide, by decide⟩ (Nat.le_of_ble_eq_true rfl) (fun r1 h2 => ?_)
  refine S_if_eq (tgt := 50) g dX12_rewire_4 (by decide) ?_ ?_
  · refine S_iconst g dX12_rewire_50 ⟨by decide, by decide⟩ ?_
    exact S_ireturn g dX12_rewire_51 rfl
  · refine S_aload_n (kk := 0) g dX12_rewire_7 rfl rfl ?_
    refine S_iload_n (kk := 1) g dX12_rewire_8 rfl rfl ?_
    refine S_iload_n (kk := 2) g dX12_rewire_9 rfl rfl ?_
    refine S_callVi (As := [vI x0, vI x1]) g dX12_rewire_10 (sX12_isGate hw _ _ _) rfl (at_143 hw) rfl im_X12_isGate se_X12_isGate cw_X12_isGate ml_Mod_268 ini_Mod nd_X12_isGate ⟨by decide, by decide⟩ (Nat.le_of_ble_eq_true rfl) (fun r3 h4 => ?_)
    refine S_if_eq (tgt := 50) g dX12_rewire_13 (by decide) ?_ ?_
    · refine S_iconst g dX12_rewire_50 ⟨by decide, by decide⟩ ?_
      exact S_ireturn g dX12_rewire_51 rfl
    · refine S_iload_n (kk := 3) g dX12_rewire_16 rfl rfl ?_
      refine S_iconst g dX12_rewire_17 ⟨by decide, by decide⟩ ?_
      refine S_aload_n (kk := 0) g dX12_rewire_18 rfl rfl ?_
      refine S_getr g dX12_rewire_19 fl_Mod_20 (at_143 hw) rfl (rc_143_5 hw) ?_
      refine S_bipush g dX12_rewire_22 ⟨by decide, by decide⟩ rfl ?_
      refine S_iload_n (kk := 1) g dX12_rewire_24 rfl rfl ?_
      refine S_imul g dX12_rewire_25 ?_
      refine S_iload_n (kk := 2) g dX12_rewire_26 rfl rfl ?_
      refine S_iadd g dX12_rewire_27 ?_
      refine S_iaload g dX12_rewire_28 (at_145 hw) ?_
      refine S_callSi (As := [vI (h4 145 ((48 * x0) + x1).toNat)]) g dX12_rewire_29 (sX12_pinsOf hw _ _) rfl st_X12_pinsOf cw_X12_pinsOf ml_Mod_253 ini_Mod nd_X12_pinsOf ⟨by decide, by decide⟩ (Nat.le_of_ble_eq_true rfl) (fun r5 h6 => ?_)
      refine S_iconst g dX12_rewire_32 ⟨by decide, by decide⟩ ?_
      refine S_isub g dX12_rewire_33 ?_
      refine S_callSi (As := [vI x2, vI 0, vI (r5 - 1)]) g dX12_rewire_34 (sX12_in hw _ _ _ _) rfl st_X12_in cw_X12_in ml_Mod_212 ini_Mod nd_X12_in ⟨by decide, by decide⟩ (Nat.le_of_ble_eq_true rfl) (fun r7 h8 => ?_)
      refine S_if_eq (tgt := 50) g dX12_rewire_37 (by decide) ?_ ?_
      · refine S_iconst g dX12_rewire_50 ⟨by decide, by decide⟩ ?_
        exact S_ireturn g dX12_rewire_51 rfl
      · refine S_aload_n (kk := 0) g dX12_rewire_40 rfl rfl ?_
        refine S_iload_n (kk := 1) g dX12_rewire_41 rfl rfl ?_
        refine S_iload (kk := 4) g dX12_rewire_42 rfl ?_
        refine S_callVi (As := [vI x0, vI x3]) g dX12_rewire_44 (sX12_isWire hw _ _ _) rfl (at_143 hw) rfl im_X12_isWire se_X12_isWire cw_X12_isWire ml_Mod_245 ini_Mod nd_X12_isWire ⟨by decide, by decide⟩ (Nat.le_of_ble_eq_true rfl) (fun r9 h10 => ?_)
        refine S_if_ne (tgt := 52) g dX12_rewire_47 (by decide) ?_ ?_
        · refine S_aload_n (kk := 0) g dX12_rewire_52 rfl rfl ?_
          refine S_iload_n (kk := 1) g dX12_rewire_53 rfl rfl ?_
          refine S_iload (kk := 4) g dX12_rewire_54 rfl ?_
          refine S_iload_n (kk := 2) g dX12_rewire_56 rfl rfl ?_
          refine S_callVi (As := [vI x0, vI x3, vI x1]) g dX12_rewire_57 (sX12_doesHang hw _ _ _ _) rfl (at_143 hw) rfl im_X12_doesHang se_X12_doesHang cw_X12_doesHang ml_Mod_271 ini_Mod nd_X12_doesHang ⟨by decide, by decide⟩ (Nat.le_of_ble_eq_true rfl) (fun r11 h12 => ?_)
          refine S_if_eq (tgt := 66) g dX12_rewire_60 (by decide) ?_ ?_
          · refine S_iconst g dX12_rewire_66 ⟨by decide, by decide⟩ ?_
            refine S_bipush g dX12_rewire_67 ⟨by decide, by decide⟩ rfl ?_
            refine S_iload_n (kk := 1) g dX12_rewire_69 rfl rfl ?_
            refine S_imul g dX12_rewire_70 ?_
            refine S_iload_n (kk := 2) g dX12_rewire_71 rfl rfl ?_
            refine S_iadd g dX12_rewire_72 ?_
            refine S_imul g dX12_rewire_73 ?_
            refine S_iload_n (kk := 3) g dX12_rewire_74 rfl rfl ?_
            refine S_iadd g dX12_rewire_75 ?_
            refine S_nmI (fun v13 => ?_)
            refine S_istore g dX12_rewire_76 (by decide) rfl ?_
            refine S_aload_n (kk := 1) g dX12_rewire_78 rfl rfl ?_
            refine S_getr g dX12_rewire_79 fl_Mod_23 (at_143 hw) rfl (rc_143_6 hw) ?_
            refine S_iload (kk := 0) g dX12_rewire_82 rfl ?_
            refine S_iaload g dX12_rewire_84 (at_146 hw) ?_
            refine S_nmI (fun v14 => ?_)
            refine S_istore g dX12_rewire_85 (by decide) rfl ?_
            refine S_aload_n (kk := 2) g dX12_rewire_87 rfl rfl ?_
            refine S_getr g dX12_rewire_88 fl_Mod_23 (at_143 hw) rfl (rc_143_6 hw) ?_
            refine S_iload (kk := 1) g dX12_rewire_91 rfl ?_
            refine S_iload (kk := 6) g dX12_rewire_93 rfl ?_
            refine S_iastore g dX12_rewire_95 (at_146 hw) (fun h15 => ?_)
            refine S_aload_n (kk := 2) g dX12_rewire_96 rfl rfl ?_
            refine S_iload_n (kk := 3) g dX12_rewire_97 rfl rfl ?_
            refine S_callVv (As := [vI x0]) g dX12_rewire_98 (sX12_changed hw _ _) rfl (at_143 hw) rfl im_X12_changed se_X12_changed cw_X12_changed ml_Mod_264 ini_Mod nd_X12_changed ⟨by decide, by decide⟩ (Nat.le_of_ble_eq_true rfl) (fun r16 h17 => ?_)
            refine S_iload (kk := 0) g dX12_rewire_101 rfl ?_
            exact S_ireturn g dX12_rewire_103 rfl
          · refine S_bipush g dX12_rewire_63 ⟨by decide, by decide⟩ rfl ?_
            exact S_ireturn g dX12_rewire_65 rfl
        · refine S_iconst g dX12_rewire_50 ⟨by decide, by decide⟩ ?_
          exact S_ireturn g dX12_rewire_51 rfl

def XX12_out (x0 : Int) (x1 : Int) (x2 : Int) (h : Hp) : OR :=
  cal (XX12_isNet x0 h) (fun r1 h2 => if r1 = 0 then some ((-1), h2) else chk ((h2 143 3) - 1) (cal (XX12_in x1 0 ((h2 143 3) - 1) h2) (fun r3 h4 => if r3 = 0 then some ((-1), h4) else cal (XX12_isWire x0 x2 h4) (fun r5 h6 => if r5 = 0 then some ((-1), h6) else chk (4 * x0) (chk ((4 * x0) + x1) (inb ((4 * x0) + x1) 8 (nm (h6 147 ((4 * x0) + x1).toNat) (fun v7 => chk (4 * x0) (chk ((4 * x0) + x1) (inb ((4 * x0) + x1) 8 (hm (wr h6 147 ((4 * x0) + x1).toNat x2) (fun h8 => cal (XX12_changed x0 h8) (fun r9 h10 => some (v7, h10))))))))))))))
theorem sX12_out {G : GG} {w : Wd} (hw : okM w) (x0 : Int) (x1 : Int) (x2 : Int) (h : Hp) : SC G w yX12_out (Cond.code yX12_out cX12_out 5 (Option.some Jvm.ClassFile.FieldType.int)) 4 0 [vP 143, vI x0, vI x1, vI x2] (XX12_out x0 x1 x2 h) h := by
  refine SC_of (own := "GatePatchModel") plain_Mod rfl (Nat.le_of_ble_eq_true rfl) (fun Γ hG g => ?_)
  subst hG
  show Sim Γ w 0 _ h 0 [(0, vP 143), (1, vI x0), (2, vI x1), (3, vI x2)] []
  unfold XX12_out
  refine S_iload_n (kk := 1) g dX12_out_0 rfl rfl ?_
  refine S_callSi (As := [vI x0]) g dX12_out_1 (sX12_isNet hw _ _) rfl st_X12_isNet cw_X12_isNet ml_Mod_249 ini_Mod nd_X12_isNet ⟨by decide, by decide⟩ (Nat.le_of_ble_eq_true rfl) (fun r1 h2 => ?_)
  refine S_if_eq (tgt := 30) g dX12_out_4 (by decide) ?_ ?_
  · refine S_iconst g dX12_out_30 ⟨by decide, by decide⟩ ?_
    exact S_ireturn g dX12_out_31 rfl
  · refine S_iload_n (kk := 2) g dX12_out_7 rfl rfl ?_
    refine S_iconst g dX12_out_8 ⟨by decide, by decide⟩ ?_
    refine S_aload_n (kk := 0) g dX12_out_9 rfl rfl ?_
    refine S_geti g dX12_out_10 fl_Mod_13 (at_143 hw) (Or.inl rfl) ?_
    refine S_iconst g dX12_out_13 ⟨by decide, by decide⟩ ?_
    refine S_isub g dX12_out_14 ?_
    refine S_callSi (As := [vI x1, vI 0, vI ((h2 143 3) - 1)]) g dX12_out_15 (sX12_in hw _ _ _ _) rfl st_X12_in cw_X12_in ml_Mod_212 ini_Mod nd_X12_in ⟨by decide, by decide⟩ (Nat.le_of_ble_eq_true rfl) (fun r3 h4 => ?_)
    refine S_if_eq (tgt := 30) g dX12_out_18 (by decide) ?_ ?_
    · refine S_iconst g dX12_out_30 ⟨by decide, by decide⟩ ?_
      exact S_ireturn g dX12_out_31 rfl
    · refine S_aload_n (kk := 0) g dX12_out_21 rfl rfl ?_
      refine S_iload_n (kk := 1) g dX12_out_22 rfl rfl ?_
      refine S_iload_n (kk := 3) g dX12_out_23 rfl rfl ?_
      refine S_callVi (As := [vI x0, vI x2]) g dX12_out_24 (sX12_isWire hw _ _ _) rfl (at_143 hw) rfl im_X12_isWire se_X12_isWire cw_X12_isWire ml_Mod_245 ini_Mod nd_X12_isWire ⟨by decide, by decide⟩ (Nat.le_of_ble_eq_true rfl) (fun r5 h6 => ?_)
      refine S_if_ne (tgt := 32) g dX12_out_27 (by decide) ?_ ?_
      · refine S_aload_n (kk := 0) g dX12_out_32 rfl rfl ?_
        refine S_getr g dX12_out_33 fl_Mod_26 (at_143 hw) rfl (rc_143_7 hw) ?_
        refine S_iconst g dX12_out_36 ⟨by decide, by decide⟩ ?_
        refine S_iload_n (kk := 1) g dX12_out_37 rfl rfl ?_
        refine S_imul g dX12_out_38 ?_
        refine S_iload_n (kk := 2) g dX12_out_39 rfl rfl ?_
        refine S_iadd g dX12_out_40 ?_
        refine S_iaload g dX12_out_41 (at_147 hw) ?_
        refine S_nmI (fun v7 => ?_)
        refine S_istore g dX12_out_42 (by decide) rfl ?_
        refine S_aload_n (kk := 1) g dX12_out_44 rfl rfl ?_
        refine S_getr g dX12_out_45 fl_Mod_26 (at_143 hw) rfl (rc_143_7 hw) ?_
        refine S_iconst g dX12_out_48 ⟨by decide, by decide⟩ ?_
        refine S_iload_n (kk := 2) g dX12_out_49 rfl rfl ?_
        refine S_imul g dX12_out_50 ?_
        refine S_iload_n (kk := 3) g dX12_out_51 rfl rfl ?_
        refine S_iadd g dX12_out_52 ?_
        refine S_iload_n (kk := 4) g dX12_out_53 rfl rfl ?_
        refine S_iastore g dX12_out_54 (at_147 hw) (fun h8 => ?_)
        refine S_aload_n (kk := 1) g dX12_out_55 rfl rfl ?_
        refine S_iload_n (kk := 2) g dX12_out_56 rfl rfl ?_
        refine S_callVv (As := [vI x0]) g dX12_out_57 (sX12_changed hw _ _) rfl (at_143 hw) rfl im_X12_changed se_X12_changed cw_X12_changed ml_Mod_264 ini_Mod nd_X12_changed ⟨by decide, by decide⟩ (Nat.le_of_ble_eq_true rfl) (fun r9 h10 => ?_)
        refine S_iload (kk := 0) g dX12_out_60 rfl ?_
        exact S_ireturn g dX12_out_62 rfl
      · refine S_iconst g dX12_out_30 ⟨by decide, by decide⟩ ?_
        exact S_ireturn g dX12_out_31 rfl

def XX12_next (x0 : Int) (x1 : Int) (x2 : Int) (h : Hp) : OR :=
  cal (XX12_isNet x0 h) (fun r1 h2 => if r1 = 0 then some ((-1), h2) else chk ((h2 143 2) - 1) (cal (XX12_in x1 0 ((h2 143 2) - 1) h2) (fun r3 h4 => if r3 = 0 then some ((-1), h4) else cal (XX12_isWire x0 x2 h4) (fun r5 h6 => if r5 = 0 then some ((-1), h6) else chk (2 * x0) (chk ((2 * x0) + x1) (inb ((2 * x0) + x1) 4 (nm (h6 148 ((2 * x0) + x1).toNat) (fun v7 => chk (2 * x0) (chk ((2 * x0) + x1) (inb ((2 * x0) + x1) 4 (hm (wr h6 148 ((2 * x0) + x1).toNat x2) (fun h8 => cal (XX12_changed x0 h8) (fun r9 h10 => some (v7, h10))))))))))))))
theorem sX12_next {G : GG} {w : Wd} (hw : okM w) (x0 : Int) (x1 : Int) (x2 : Int) (h : Hp) : SC G w yX12_next (Cond.code yX12_next cX12_next 5 (Option.some Jvm.ClassFile.FieldType.int)) 4 0 [vP 143, vI x0, vI x1, vI x2] (XX12_next x0 x1 x2 h) h := by
  refine SC_of (own := "GatePatchModel") plain_Mod rfl (Nat.le_of_ble_eq_true rfl) (fun Γ hG g => ?_)
  subst hG
  show Sim Γ w 0 _ h 0 [(0, vP 143), (1, vI x0), (2, vI x1), (3, vI x2)] []
  unfold XX12_next
  refine S_iload_n (kk := 1) g dX12_next_0 rfl rfl ?_
  refine S_callSi (As := [vI x0]) g dX12_next_1 (sX12_isNet hw _ _) rfl st_X12_isNet cw_X12_isNet ml_Mod_249 ini_Mod nd_X12_isNet ⟨by decide, by decide⟩ (Nat.le_of_ble_eq_true rfl) (fun r1 h2 => ?_)
  refine S_if_eq (tgt := 30) g dX12_next_4 (by decide) ?_ ?_
  · refine S_iconst g dX12_next_30 ⟨by decide, by decide⟩ ?_
    exact S_ireturn g dX12_next_31 rfl
  · refine S_iload_n (kk := 2) g dX12_next_7 rfl rfl ?_
    refine S_iconst g dX12_next_8 ⟨by decide, by decide⟩ ?_
    refine S_aload_n (kk := 0) g dX12_next_9 rfl rfl ?_
    refine S_geti g dX12_next_10 fl_Mod_205 (at_143 hw) (Or.inl rfl) ?_
    refine S_iconst g dX12_next_13 ⟨by decide, by decide⟩ ?_
    refine S_isub g dX12_next_14 ?_
    refine S_callSi (As := [vI x1, vI 0, vI ((h2 143 2) - 1)]) g dX12_next_15 (sX12_in hw _ _ _ _) rfl st_X12_in cw_X12_in ml_Mod_212 ini_Mod nd_X12_in ⟨by decide, by decide⟩ (Nat.le_of_ble_eq_true rfl) (fun r3 h4 => ?_)
    refine S_if_eq (tgt := 30) g dX12_next_18 (by decide) ?_ ?_
    · refine S_iconst g dX12_next_30 ⟨by decide, by decide⟩ ?_
      exact S_ireturn g dX12_next_31 rfl
    · refine S_aload_n (kk := 0) g dX12_next_21 rfl rfl ?_
      refine S_iload_n (kk := 1) g dX12_next_22 rfl rfl ?_
      refine S_iload_n (kk := 3) g dX12_next_23 rfl rfl ?_
      refine S_callVi (As := [vI x0, vI x2]) g dX12_next_24 (sX12_isWire hw _ _ _) rfl (at_143 hw) rfl im_X12_isWire se_X12_isWire cw_X12_isWire ml_Mod_245 ini_Mod nd_X12_isWire ⟨by decide, by decide⟩ (Nat.le_of_ble_eq_true rfl) (fun r5 h6 => ?_)
      refine S_if_ne (tgt := 32) g dX12_next_27 (by decide) ?_ ?_
      · refine S_aload_n (kk := 0) g dX12_next_32 rfl rfl ?_
        refine S_getr g dX12_next_33 fl_Mod_29 (at_143 hw) rfl (rc_143_8 hw) ?_
        refine S_iconst g dX12_next_36 ⟨by decide, by decide⟩ ?_
        refine S_iload_n (kk := 1) g dX12_next_37 rfl rfl ?_
        refine S_imul g dX12_next_38 ?_
        refine S_iload_n (kk := 2) g dX12_next_39 rfl rfl ?_
        refine S_iadd g dX12_next_40 ?_
        refine S_iaload g dX12_next_41 (at_148 hw) ?_
        refine S_nmI (fun v7 => ?_)
        refine S_istore g dX12_next_42 (by decide) rfl ?_
        refine S_aload_n (kk := 1) g dX12_next_44 rfl rfl ?_
        refine S_getr g dX12_next_45 fl_Mod_29 (at_143 hw) rfl (rc_143_8 hw) ?_
        refine S_iconst g dX12_next_48 ⟨by decide, by decide⟩ ?_
        refine S_iload_n (kk := 2) g dX12_next_49 rfl rfl ?_
        refine S_imul g dX12_next_50 ?_
        refine S_iload_n (kk := 3) g dX12_next_51 rfl rfl ?_
        refine S_iadd g dX12_next_52 ?_
        refine S_iload_n (kk := 4) g dX12_next_53 rfl rfl ?_
        refine S_iastore g dX12_next_54 (at_148 hw) (fun h8 => ?_)
        refine S_aload_n (kk := 1) g dX12_next_55 rfl rfl ?_
        refine S_iload_n (kk := 2) g dX12_next_56 rfl rfl ?_
        refine S_callVv (As := [vI x0]) g dX12_next_57 (sX12_changed hw _ _) rfl (at_143 hw) rfl im_X12_changed se_X12_changed cw_X12_changed ml_Mod_264 ini_Mod nd_X12_changed ⟨by decide, by decide⟩ (Nat.le_of_ble_eq_true rfl) (fun r9 h10 => ?_)
        refine S_iload (kk := 0) g dX12_next_60 rfl ?_
        exact S_ireturn g dX12_next_62 rfl
      · refine S_iconst g dX12_next_30 ⟨by decide, by decide⟩ ?_
        exact S_ireturn g dX12_next_31 rfl

def XX12_isCase (x0 : Int) (h : Hp) : OR :=
  cal (XX12_cases h) (fun r1 h2 => chk (r1 - 1) (cal (XX12_in x0 0 (r1 - 1) h2) (fun r3 h4 => zb r3 (some (r3, h4)))))
theorem sX12_isCase {G : GG} {w : Wd} (hw : okM w) (x0 : Int) (h : Hp) : SC G w yX12_isCase (Cond.code yX12_isCase cX12_isCase 2 (Option.some Jvm.ClassFile.FieldType.boolean)) 3 0 [vP 143, vI x0] (XX12_isCase x0 h) h := by
  refine SC_of (own := "GatePatchModel") plain_Mod rfl (Nat.le_of_ble_eq_true rfl) (fun Γ hG g => ?_)
  subst hG
  show Sim Γ w 0 _ h 0 [(0, vP 143), (1, vI x0)] []
  unfold XX12_isCase
  refine S_iload_n (kk := 1) g dX12_isCase_0 rfl rfl ?_
  refine S_iconst g dX12_isCase_1 ⟨by decide, by decide⟩ ?_
  refine S_aload_n (kk := 0) g dX12_isCase_2 rfl rfl ?_
  refine S_callVi (As := []) g dX12_isCase_3 (sX12_cases hw  _) rfl (at_143 hw) rfl im_X12_cases se_X12_cases cw_X12_cases ml_Mod_242 ini_Mod nd_X12_cases ⟨by decide, by decide⟩ (Nat.le_of_ble_eq_true rfl) (fun r1 h2 => ?_)
  refine S_iconst g dX12_isCase_6 ⟨by decide, by decide⟩ ?_
  refine S_isub g dX12_isCase_7 ?_
  refine S_callSi (As := [vI x0, vI 0, vI (r1 - 1)]) g dX12_isCase_8 (sX12_in hw _ _ _ _) rfl st_X12_in cw_X12_in ml_Mod_212 ini_Mod nd_X12_in ⟨by decide, by decide⟩ (Nat.le_of_ble_eq_true rfl) (fun r3 h4 => ?_)
  exact S_zreturn g dX12_isCase_11 rfl

def XX12_free_p29   (l1 : Int) (s1 s2 : Int) (h : Hp) : OR :=
  inb s1 256 (zb s2 (hm (wr h 149 s1.toNat s2) (fun h3 => zb 0 (hm (wr h3 143 23 0) (fun h4 => inb l1 256 (if (h4 149 l1.toNat) = 0 then some (0, h4) else some (1, h4)))))))
def XX12_free (x0 : Int) (h : Hp) : OR :=
  cal (XX12_isCase x0 h) (fun r1 h2 => if r1 = 0 then some ((-1), h2) else inb x0 256 (if (h2 149 x0.toNat) = 0 then XX12_free_p29 x0 x0 1 h2 else XX12_free_p29 x0 x0 0 h2))
theorem sX12_free_p29 {Γ : Cx} {w : Wd} (hw : okM w) (g : Gd Γ cX12_free 2 "GatePatchModel" (Option.some Jvm.ClassFile.FieldType.int) (rmd 4))   (l1 : Int) (s1 s2 : Int) (h : Hp) : Sim Γ w 0 (XX12_free_p29  l1 s1 s2 h) h 29 [(0, vP 143), (1, vI l1)] [vI s2, vI s1, vP 149] := by
  unfold XX12_free_p29
  refine S_zastore g dX12_free_29 (at_149 hw) (fun h3 => ?_)
  refine S_aload_n (kk := 0) g dX12_free_30 rfl rfl ?_
  refine S_iconst g dX12_free_31 ⟨by decide, by decide⟩ ?_
  refine S_putz g dX12_free_32 fp_Mod_229 (at_143 hw) rfl (fun h4 => ?_)
  refine S_aload_n (kk := 0) g dX12_free_35 rfl rfl ?_
  refine S_getr g dX12_free_36 fl_Mod_32 (at_143 hw) rfl (rc_143_9 hw) ?_
  refine S_iload_n (kk := 1) g dX12_free_39 rfl rfl ?_
  refine S_zaload g dX12_free_40 (at_149 hw) ?_
  refine S_if_eq (tgt := 48) g dX12_free_41 (by decide) ?_ ?_
  · refine S_iconst g dX12_free_48 ⟨by decide, by decide⟩ ?_
    exact S_ireturn g dX12_free_49 rfl
  · refine S_iconst g dX12_free_44 ⟨by decide, by decide⟩ ?_
    refine S_goto (tgt := 49) g dX12_free_45 (by decide) ?_
    exact S_ireturn g dX12_free_49 rfl

theorem sX12_free {G : GG} {w : Wd} (hw : okM w) (x0 : Int) (h : Hp) : SC G w yX12_free (Cond.code yX12_free cX12_free 2 (Option.some Jvm.ClassFile.FieldType.int)) 4 0 [vP 143, vI x0] (XX12_free x0 h) h := by
  refine SC_of (own := "GatePatchModel") plain_Mod rfl (Nat.le_of_ble_eq_true rfl) (fun Γ hG g => ?_)
  subst hG
  show Sim Γ w 0 _ h 0 [(0, vP 143), (1, vI x0)] []
  unfold XX12_free
  refine S_aload_n (kk := 0) g dX12_free_0 rfl rfl ?_
  refine S_iload_n (kk := 1) g dX12_free_1 rfl rfl ?_
  refine S_callVi (As := [vI x0]) g dX12_free_2 (sX12_isCase hw _ _) rfl (at_143 hw) rfl im_X12_isCase se_X12_isCase cw_X12_isCase ml_Mod_274 ini_Mod nd_X12_isCase ⟨by decide, by decide⟩ (Nat.le_of_ble_eq_true rfl) (fun r1 h2 => ?_)
  refine S_if_ne (tgt := 10) g dX12_free_5 (by decide) ?_ ?_
  · refine S_aload_n (kk := 0) g dX12_free_10 rfl rfl ?_
    refine S_getr g dX12_free_11 fl_Mod_32 (at_143 hw) rfl (rc_143_9 hw) ?_
    refine S_iload_n (kk := 1) g dX12_free_14 rfl rfl ?_
    refine S_aload_n (kk := 0) g dX12_free_15 rfl rfl ?_
    refine S_getr g dX12_free_16 fl_Mod_32 (at_143 hw) rfl (rc_143_9 hw) ?_
    refine S_iload_n (kk := 1) g dX12_free_19 rfl rfl ?_
    refine S_zaload g dX12_free_20 (at_149 hw) ?_
    refine S_if_ne (tgt := 28) g dX12_free_21 (by decide) ?_ ?_
    · refine S_iconst g dX12_free_28 ⟨by decide, by decide⟩ ?_
      exact sX12_free_p29 hw g _ _ _ _
    · refine S_iconst g dX12_free_24 ⟨by decide, by decide⟩ ?_
      refine S_goto (tgt := 29) g dX12_free_25 (by decide) ?_
      exact sX12_free_p29 hw g _ _ _ _
  · refine S_iconst g dX12_free_8 ⟨by decide, by decide⟩ ?_
    exact S_ireturn g dX12_free_9 rfl

def XX12_hangs (x0 : Int) (x1 : Int) (x2 : Int) (h : Hp) : OR :=
  cal (XX12_isNet x0 h) (fun r1 h2 => if r1 = 0 then some ((-1), h2) else cal (XX12_isWire x0 x1 h2) (fun r3 h4 => if r3 = 0 then some ((-1), h4) else cal (XX12_isWire x0 x2 h4) (fun r5 h6 => if r5 = 0 then some ((-1), h6) else cal (XX12_doesHang x0 x1 x2 h6) (fun r7 h8 => if r7 = 0 then some (0, h8) else some (1, h8)))))
theorem sX12_hangs {G : GG} {w : Wd} (hw : okM w) (x0 : Int) (x1 : Int) (x2 : Int) (h : Hp) : SC G w yX12_hangs (Cond.code yX12_hangs cX12_hangs 4 (Option.some Jvm.ClassFile.FieldType.int)) 5 0 [vP 143, vI x0, vI x1, vI x2] (XX12_hangs x0 x1 x2 h) h := by
  refine SC_of (own := "GatePatchModel") plain_Mod rfl (Nat.le_of_ble_eq_true rfl) (fun Γ hG g => ?_)
  subst hG
  show Sim Γ w 0 _ h 0 [(0, vP 143), (1, vI x0), (2, vI x1), (3, vI x2)] []
  unfold XX12_hangs
  refine S_iload_n (kk := 1) g dX12_hangs_0 rfl rfl ?_
  refine S_callSi (As := [vI x0]) g dX12_hangs_1 (sX12_isNet hw _ _) rfl st_X12_isNet cw_X12_isNet ml_Mod_249 ini_Mod nd_X12_isNet ⟨by decide, by decide⟩ (Nat.le_of_ble_eq_true rfl) (fun r1 h2 => ?_)
  refine S_if_eq (tgt := 25) g dX12_hangs_4 (by decide) ?_ ?_
  · refine S_iconst g dX12_hangs_25 ⟨by decide, by decide⟩ ?_
    exact S_ireturn g dX12_hangs_26 rfl
  · refine S_aload_n (kk := 0) g dX12_hangs_7 rfl rfl ?_
    refine S_iload_n (kk := 1) g dX12_hangs_8 rfl rfl ?_
    refine S_iload_n (kk := 2) g dX12_hangs_9 rfl rfl ?_
    refine S_callVi (As := [vI x0, vI x1]) g dX12_hangs_10 (sX12_isWire hw _ _ _) rfl (at_143 hw) rfl im_X12_isWire se_X12_isWire cw_X12_isWire ml_Mod_245 ini_Mod nd_X12_isWire ⟨by decide, by decide⟩ (Nat.le_of_ble_eq_true rfl) (fun r3 h4 => ?_)
    refine S_if_eq (tgt := 25) g dX12_hangs_13 (by decide) ?_ ?_
    · refine S_iconst g dX12_hangs_25 ⟨by decide, by decide⟩ ?_
      exact S_ireturn g dX12_hangs_26 rfl
    · refine S_aload_n (kk := 0) g dX12_hangs_16 rfl rfl ?_
      refine S_iload_n (kk := 1) g dX12_hangs_17 rfl rfl ?_
      refine S_iload_n (kk := 3) g dX12_hangs_18 rfl rfl ?_
      refine S_callVi (As := [vI x0, vI x2]) g dX12_hangs_19 (sX12_isWire hw _ _ _) rfl (at_143 hw) rfl im_X12_isWire se_X12_isWire cw_X12_isWire ml_Mod_245 ini_Mod nd_X12_isWire ⟨by decide, by decide⟩ (Nat.le_of_ble_eq_true rfl) (fun r5 h6 => ?_)
      refine S_if_ne (tgt := 27) g dX12_hangs_22 (by decide) ?_ ?_
      · refine S_aload_n (kk := 0) g dX12_hangs_27 rfl rfl ?_
        refine S_iload_n (kk := 1) g dX12_hangs_28 rfl rfl ?_
        refine S_iload_n (kk := 2) g dX12_hangs_29 rfl rfl ?_
        refine S_iload_n (kk := 3) g dX12_hangs_30 rfl rfl ?_
        refine S_callVi (As := [vI x0, vI x1, vI x2]) g dX12_hangs_31 (sX12_doesHang hw _ _ _ _) rfl (at_143 hw) rfl im_X12_doesHang se_X12_doesHang cw_X12_doesHang ml_Mod_271 ini_Mod nd_X12_doesHang ⟨by decide, by decide⟩ (Nat.le_of_ble_eq_true rfl) (fun r7 h8 => ?_)
        refine S_if_eq (tgt := 41) g dX12_hangs_34 (by decide) ?_ ?_
        · refine S_iconst g dX12_hangs_41 ⟨by decide, by decide⟩ ?_
          exact S_ireturn g dX12_hangs_42 rfl
        · refine S_iconst g dX12_hangs_37 ⟨by decide, by decide⟩ ?_
          refine S_goto (tgt := 42) g dX12_hangs_38 (by decide) ?_
          exact S_ireturn g dX12_hangs_42 rfl
      · refine S_iconst g dX12_hangs_25 ⟨by decide, by decide⟩ ?_
        exact S_ireturn g dX12_hangs_26 rfl

def XX12_sorts_p158  (self35 : Int → Int → Hp → OR) (self50 : Int → Int → Int → Hp → OR) (l1 l2 l3 : Int) (h : Hp) : OR :=
  chk (l3 + 1) (self50 l1 l2 (l3 + 1) h)
def XX12_sorts_p131  (self35 : Int → Int → Hp → OR) (self50 : Int → Int → Int → Hp → OR) (l1 l2 l3 l4 : Int) (h : Hp) : OR :=
  if l4 = 0 then XX12_sorts_p158 self35 self50 l1 l2 l3 h else inb l3 48 (zb 1 (hm (wr h 187 l3.toNat 1) (fun h7 => chk (40 * l1) (chk ((40 * l1) + l2) (inb ((40 * l1) + l2) 80 (hm (wr h7 186 ((40 * l1) + l2).toNat l3) (fun h8 => chk (l2 + 1) (XX12_sorts_p158 self35 self50 l1 (l2 + 1) l3 h8))))))))
def XX12_sorts_b78  (self35 : Int → Int → Hp → OR) (self50 : Int → Int → Int → Hp → OR) (self78 : Int → Int → Int → Int → Int → Hp → OR) (l1 l2 l3 l4 l5 : Int) (h : Hp) : OR :=
  chk (48 * l1) (chk ((48 * l1) + l3) (inb ((48 * l1) + l3) 96 (cal (XX12_pinsOf (h 145 ((48 * l1) + l3).toNat) h) (fun r5 h6 => if r5 ≤ l5 then XX12_sorts_p131 self35 self50 l1 l2 l3 l4 h6 else if l4 = 0 then XX12_sorts_p131 self35 self50 l1 l2 l3 l4 h6 else chk (48 * l1) (chk ((48 * l1) + l3) (chk (3 * ((48 * l1) + l3)) (chk ((3 * ((48 * l1) + l3)) + l5) (inb ((3 * ((48 * l1) + l3)) + l5) 288 (inb (h6 146 ((3 * ((48 * l1) + l3)) + l5).toNat) 48 (nm (h6 187 (h6 146 ((3 * ((48 * l1) + l3)) + l5).toNat).toNat) (fun v9 => chk (l5 + 1) (self78 l1 l2 l3 v9 (l5 + 1) h6))))))))))))
def XX12_sorts_L78  (self35 : Int → Int → Hp → OR) (self50 : Int → Int → Int → Hp → OR) (l1 l2 l3 l4 l5 : Int) (h : Hp) : OR := lup5 (XX12_sorts_b78 self35 self50) FU l1 l2 l3 l4 l5 h
def XX12_sorts_p73  (self35 : Int → Int → Hp → OR) (self50 : Int → Int → Int → Hp → OR) (l1 l2 l3 : Int) (s0 : Int) (h : Hp) : OR :=
  XX12_sorts_L78 self35 self50 l1 l2 l3 s0 0 h
def XX12_sorts_b50  (self35 : Int → Int → Hp → OR) (self50 : Int → Int → Int → Hp → OR) (l1 l2 l3 : Int) (h : Hp) : OR :=
  cal (XX12_wires l1 h) (fun r3 h4 => if r3 ≤ l3 then self35 l1 l2 h4 else inb l3 48 (if (h4 187 l3.toNat) = 0 then XX12_sorts_p73 self35 self50 l1 l2 l3 1 h4 else XX12_sorts_p73 self35 self50 l1 l2 l3 0 h4))
def XX12_sorts_L50  (self35 : Int → Int → Hp → OR) (l1 l2 l3 : Int) (h : Hp) : OR := lup3 (XX12_sorts_b50 self35) FU l1 l2 l3 h
def XX12_sorts_b35   (self35 : Int → Int → Hp → OR) (l1 l2 : Int) (h : Hp) : OR :=
  inb l1 2 (if (h 144 l1.toNat) ≤ l2 then some (0, h) else cal (XX12_begun h) (fun r1 h2 => XX12_sorts_L50 self35 l1 l2 r1 h2))
def XX12_sorts_L35   (l1 l2 : Int) (h : Hp) : OR := lup2 (XX12_sorts_b35 ) FU l1 l2 h
def XX12_sorts_p26  (self2 : Int → Int → Hp → OR) (l1 l2 : Int) (s1 s2 : Int) (h : Hp) : OR :=
  inb s1 48 (zb s2 (hm (wr h 187 s1.toNat s2) (fun h12 => chk (l2 + 1) (self2 l1 (l2 + 1) h12))))
def XX12_sorts_b2   (self2 : Int → Int → Hp → OR) (l1 l2 : Int) (h : Hp) : OR :=
  if 48 ≤ l2 then XX12_sorts_L35 l1 0 h else cal (XX12_begun h) (fun r10 h11 => if r10 ≤ l2 then XX12_sorts_p26 self2 l1 l2 l2 0 h11 else XX12_sorts_p26 self2 l1 l2 l2 1 h11)
def XX12_sorts_L2   (l1 l2 : Int) (h : Hp) : OR := lup2 (XX12_sorts_b2 ) FU l1 l2 h
def XX12_sorts (x0 : Int) (h : Hp) : OR :=
  XX12_sorts_L2 x0 0 h
theorem sX12_sorts_p158 {Γ : Cx} {w : Wd} (hw : okM w) (g : Gd Γ cX12_sorts 6 "GatePatchModel" (Option.none : Option Jvm.ClassFile.FieldType) (rmd 3))  (self35 : Int → Int → Hp → OR) (hs35 : ∀ (x0 x1 : Int) (h : Hp), Sim Γ w 3 (self35 x0 x1 h) h 35 [(0, vP 143), (1, vI x0), (2, vI x1)] []) (self50 : Int → Int → Int → Hp → OR) (hs50 : ∀ (x0 x1 x2 : Int) (h : Hp), Sim Γ w 3 (self50 x0 x1 x2 h) h 50 [(0, vP 143), (1, vI x0), (2, vI x1), (3, vI x2)] []) (l1 l2 l3 : Int) (h : Hp) : Sim Γ w 3 (XX12_sorts_p158 self35 self50 l1 l2 l3  h) h 158 [(0, vP 143), (1, vI l1), (2, vI l2), (3, vI l3)] [] := by
  unfold XX12_sorts_p158
  refine S_iinc (kk := 3) g dX12_sorts_158 rfl (by decide) rfl ?_
  refine S_goto (tgt := 50) g dX12_sorts_161 (by decide) ?_
  refine S_sub g [1, 2, 3, 0] rfl ?_
  exact hs50 _ _ _ _

theorem sX12_sorts_p131 {Γ : Cx} {w : Wd} (hw : okM w) (g : Gd Γ cX12_sorts 6 "GatePatchModel" (Option.none : Option Jvm.ClassFile.FieldType) (rmd 3))  (self35 : Int → Int → Hp → OR) (hs35 : ∀ (x0 x1 : Int) (h : Hp), Sim Γ w 3 (self35 x0 x1 h) h 35 [(0, vP 143), (1, vI x0), (2, vI x1)] []) (self50 : Int → Int → Int → Hp → OR) (hs50 : ∀ (x0 x1 x2 : Int) (h : Hp), Sim Γ w 3 (self50 x0 x1 x2 h) h 50 [(0, vP 143), (1, vI x0), (2, vI x1), (3, vI x2)] []) (l1 l2 l3 l4 : Int) (h : Hp) : Sim Γ w 3 (XX12_sorts_p131 self35 self50 l1 l2 l3 l4  h) h 131 [(0, vP 143), (1, vI l1), (2, vI l2), (3, vI l3), (4, vI l4)] [] := by
  unfold XX12_sorts_p131
  refine S_iload (kk := 4) g dX12_sorts_131 rfl ?_
  refine S_if_eq (tgt := 158) g dX12_sorts_133 (by decide) ?_ ?_
  · refine S_sub g [0, 1, 2, 3] rfl ?_
    exact sX12_sorts_p158 hw g self35 hs35 self50 hs50 _ _ _ _
  · refine S_aload_n (kk := 0) g dX12_sorts_136 rfl rfl ?_
    refine S_getr g dX12_sorts_137 fl_Mod_154 (at_143 hw) rfl (rc_143_60 hw) ?_
    refine S_iload_n (kk := 3) g dX12_sorts_140 rfl rfl ?_
    refine S_iconst g dX12_sorts_141 ⟨by decide, by decide⟩ ?_
    refine S_zastore g dX12_sorts_142 (at_187 hw) (fun h7 => ?_)
    refine S_aload_n (kk := 0) g dX12_sorts_143 rfl rfl ?_
    refine S_getr g dX12_sorts_144 fl_Mod_151 (at_143 hw) rfl (rc_143_59 hw) ?_
    refine S_bipush g dX12_sorts_147 ⟨by decide, by decide⟩ rfl ?_
    refine S_iload_n (kk := 1) g dX12_sorts_149 rfl rfl ?_
    refine S_imul g dX12_sorts_150 ?_
    refine S_iload_n (kk := 2) g dX12_sorts_151 rfl rfl ?_
    refine S_iadd g dX12_sorts_152 ?_
    refine S_iload_n (kk := 3) g dX12_sorts_153 rfl rfl ?_
    refine S_iastore g dX12_sorts_154 (at_186 hw) (fun h8 => ?_)
    refine S_iinc (kk := 2) g dX12_sorts_155 rfl (by decide) rfl ?_
    refine S_sub g [1, 2, 0, 3] rfl ?_
    exact sX12_sorts_p158 hw g self35 hs35 self50 hs50 _ _ _ _

theorem sX12_sorts_L78 {Γ : Cx} {w : Wd} (hw : okM w) (g : Gd Γ cX12_sorts 6 "GatePatchModel" (Option.none : Option Jvm.ClassFile.FieldType) (rmd 3))  (self35 : Int → Int → Hp → OR) (hs35 : ∀ (x0 x1 : Int) (h : Hp), Sim Γ w 3 (self35 x0 x1 h) h 35 [(0, vP 143), (1, vI x0), (2, vI x1)] []) (self50 : Int → Int → Int → Hp → OR) (hs50 : ∀ (x0 x1 x2 : Int) (h : Hp), Sim Γ w 3 (self50 x0 x1 x2 h) h 50 [(0, vP 143), (1, vI x0), (2, vI x1), (3, vI x2)] []) : ∀ (l1 l2 l3 l4 l5 : Int) (h : Hp), Sim Γ w 3 (XX12_sorts_L78 self35 self50 l1 l2 l3 l4 l5 h) h 78 [(0, vP 143), (1, vI l1), (2, vI l2), (3, vI l3), (4, vI l4), (5, vI l5)] [] := by
  refine S_lup5 (fun l1 l2 l3 l4 l5 => [(0, vP 143), (1, vI l1), (2, vI l2), (3, vI l3), (4, vI l4), (5, vI l5)]) (fun self78 hs78 l1 l2 l3 l4 l5 h => ?_) FU
  unfold XX12_sorts_b78
  refine S_iload (kk := 5) g dX12_sorts_78 rfl ?_
  refine S_aload_n (kk := 0) g dX12_sorts_80 rfl rfl ?_
  refine S_getr g dX12_sorts_81 fl_Mod_20 (at_143 hw) rfl (rc_143_5 hw) ?_
  refine S_bipush g dX12_sorts_84 ⟨by decide, by decide⟩ rfl ?_
  refine S_iload_n (kk := 1) g dX12_sorts_86 rfl rfl ?_
  refine S_imul g dX12_sorts_87 ?_
  refine S_iload_n (kk := 3) g dX12_sorts_88 rfl rfl ?_
  refine S_iadd g dX12_sorts_89 ?_
  refine S_iaload g dX12_sorts_90 (at_145 hw) ?_
  refine S_callSi (As := [vI (h 145 ((48 * l1) + l3).toNat)]) g dX12_sorts_91 (sX12_pinsOf hw _ _) rfl st_X12_pinsOf cw_X12_pinsOf ml_Mod_253 ini_Mod nd_X12_pinsOf ⟨by decide, by decide⟩ (Nat.le_of_ble_eq_true rfl) (fun r5 h6 => ?_)
  refine S_icmp_ge (tgt := 131) g dX12_sorts_94 (by decide) ?_ ?_
  · refine S_sub g [0, 1, 2, 3, 4] rfl ?_
    exact sX12_sorts_p131 hw g self35 hs35 self50 hs50 _ _ _ _ _
  · refine S_iload (kk := 4) g dX12_sorts_97 rfl ?_
    refine S_if_eq (tgt := 131) g dX12_sorts_99 (by decide) ?_ ?_
    · refine S_sub g [0, 1, 2, 3, 4] rfl ?_
      exact sX12_sorts_p131 hw g self35 hs35 self50 hs50 _ _ _ _ _
    · refine S_aload_n (kk := 0) g dX12_sorts_102 rfl rfl ?_
      refine S_getr g dX12_sorts_103 fl_Mod_154 (at_143 hw) rfl (rc_143_60 hw) ?_
      refine S_aload_n (kk := 0) g dX12_sorts_106 rfl rfl ?_
      refine S_getr g dX12_sorts_107 fl_Mod_23 (at_143 hw) rfl (rc_143_6 hw) ?_
      refine S_iconst g dX12_sorts_110 ⟨by decide, by decide⟩ ?_
      refine S_bipush g dX12_sorts_111 ⟨by decide, by decide⟩ rfl ?_
      refine S_iload_n (kk := 1) g dX12_sorts_113 rfl rfl ?_
      refine S_imul g dX12_sorts_114 ?_
      refine S_iload_n (kk := 3) g dX12_sorts_115 rfl rfl ?_
      refine S_iadd g dX12_sorts_116 ?_
      refine S_imul g dX12_sorts_117 ?_
      refine S_iload (kk := 5) g dX12_sorts_118 rfl ?_
      refine S_iadd g dX12_sorts_120 ?_
      refine S_iaload g dX12_sorts_121 (at_146 hw) ?_
      refine S_zaload g dX12_sorts_122 (at_187 hw) ?_
      refine S_nmI (fun v9 => ?_)
      refine S_istore g dX12_sorts_123 (by decide) rfl ?_
      refine S_iinc (kk := 5) g dX12_sorts_125 rfl (by decide) rfl ?_
      refine S_goto (tgt := 78) g dX12_sorts_128 (by decide) ?_
      refine S_sub g [2, 3, 4, 5, 1, 0] rfl ?_
      exact hs78 _ _ _ _ _ _

theorem sX12_sorts_p73 {Γ : Cx} {w : Wd} (hw : okM w) (g : Gd Γ cX12_sorts 6 "GatePatchModel" (Option.none : Option Jvm.ClassFile.FieldType) (rmd 3))  (self35 : Int → Int → Hp → OR) (hs35 : ∀ (x0 x1 : Int) (h : Hp), Sim Γ w 3 (self35 x0 x1 h) h 35 [(0, vP 143), (1, vI x0), (2, vI x1)] []) (self50 : Int → Int → Int → Hp → OR) (hs50 : ∀ (x0 x1 x2 : Int) (h : Hp), Sim Γ w 3 (self50 x0 x1 x2 h) h 50 [(0, vP 143), (1, vI x0), (2, vI x1), (3, vI x2)] []) (l1 l2 l3 : Int) (s0 : Int) (h : Hp) : Sim Γ w 3 (XX12_sorts_p73 self35 self50 l1 l2 l3 s0 h) h 73 [(0, vP 143), (1, vI l1), (2, vI l2), (3, vI l3)] [vI s0] := by
  unfold XX12_sorts_p73
  refine S_istore g dX12_sorts_73 (by decide) rfl ?_
  refine S_iconst g dX12_sorts_75 ⟨by decide, by decide⟩ ?_
  refine S_istore g dX12_sorts_76 (by decide) rfl ?_
  refine S_sub g [2, 3, 4, 5, 1, 0] rfl ?_
  exact sX12_sorts_L78 hw g self35 hs35 self50 hs50 _ _ _ _ _ _

theorem sX12_sorts_L50 {Γ : Cx} {w : Wd} (hw : okM w) (g : Gd Γ cX12_sorts 6 "GatePatchModel" (Option.none : Option Jvm.ClassFile.FieldType) (rmd 3))  (self35 : Int → Int → Hp → OR) (hs35 : ∀ (x0 x1 : Int) (h : Hp), Sim Γ w 3 (self35 x0 x1 h) h 35 [(0, vP 143), (1, vI x0), (2, vI x1)] []) : ∀ (l1 l2 l3 : Int) (h : Hp), Sim Γ w 3 (XX12_sorts_L50 self35 l1 l2 l3 h) h 50 [(0, vP 143), (1, vI l1), (2, vI l2), (3, vI l3)] [] := by
  refine S_lup3 (fun l1 l2 l3 => [(0, vP 143), (1, vI l1), (2, vI l2), (3, vI l3)]) (fun self50 hs50 l1 l2 l3 h => ?_) FU
  unfold XX12_sorts_b50
  refine S_iload_n (kk := 3) g dX12_sorts_50 rfl rfl ?_
  refine S_aload_n (kk := 0) g dX12_sorts_51 rfl rfl ?_
  refine S_iload_n (kk := 1) g dX12_sorts_52 rfl rfl ?_
  refine S_callVi (As := [vI l1]) g dX12_sorts_53 (sX12_wires hw _ _) rfl (at_143 hw) rfl im_X12_wires se_X12_wires cw_X12_wires ml_Mod_216 ini_Mod nd_X12_wires ⟨by decide, by decide⟩ (Nat.le_of_ble_eq_true rfl) (fun r3 h4 => ?_)
  refine S_icmp_ge (tgt := 164) g dX12_sorts_56 (by decide) ?_ ?_
  · refine S_goto (tgt := 35) g dX12_sorts_164 (by decide) ?_
    refine S_sub g [0, 1, 2] rfl ?_
    exact hs35 _ _ _
  · refine S_aload_n (kk := 0) g dX12_sorts_59 rfl rfl ?_
    refine S_getr g dX12_sorts_60 fl_Mod_154 (at_143 hw) rfl (rc_143_60 hw) ?_
    refine S_iload_n (kk := 3) g dX12_sorts_63 rfl rfl ?_
    refine S_zaload g dX12_sorts_64 (at_187 hw) ?_
    refine S_if_ne (tgt := 72) g dX12_sorts_65 (by decide) ?_ ?_
    · refine S_iconst g dX12_sorts_72 ⟨by decide, by decide⟩ ?_
      exact sX12_sorts_p73 hw g self35 hs35 self50 hs50 _ _ _ _ _
    · refine S_iconst g dX12_sorts_68 ⟨by decide, by decide⟩ ?_
      refine S_goto (tgt := 73) g dX12_sorts_69 (by decide) ?_
      exact sX12_sorts_p73 hw g self35 hs35 self50 hs50 _ _ _ _ _

theorem sX12_sorts_L35 {Γ : Cx} {w : Wd} (hw : okM w) (g : Gd Γ cX12_sorts 6 "GatePatchModel" (Option.none : Option Jvm.ClassFile.FieldType) (rmd 3))   : ∀ (l1 l2 : Int) (h : Hp), Sim Γ w 3 (XX12_sorts_L35  l1 l2 h) h 35 [(0, vP 143), (1, vI l1), (2, vI l2)] [] := by
  refine S_lup2 (fun l1 l2 => [(0, vP 143), (1, vI l1), (2, vI l2)]) (fun self35 hs35 l1 l2 h => ?_) FU
  unfold XX12_sorts_b35
  refine S_iload_n (kk := 2) g dX12_sorts_35 rfl rfl ?_
  refine S_aload_n (kk := 0) g dX12_sorts_36 rfl rfl ?_
  refine S_getr g dX12_sorts_37 fl_Mod_16 (at_143 hw) rfl (rc_143_4 hw) ?_
  refine S_iload_n (kk := 1) g dX12_sorts_40 rfl rfl ?_
  refine S_iaload g dX12_sorts_41 (at_144 hw) ?_
  refine S_icmp_ge (tgt := 167) g dX12_sorts_42 (by decide) ?_ ?_
  · exact S_return g dX12_sorts_167 rfl
  · refine S_aload_n (kk := 0) g dX12_sorts_45 rfl rfl ?_
    refine S_callVi (As := []) g dX12_sorts_46 (sX12_begun hw  _) rfl (at_143 hw) rfl im_X12_begun se_X12_begun cw_X12_begun ml_Mod_208 ini_Mod nd_X12_begun ⟨by decide, by decide⟩ (Nat.le_of_ble_eq_true rfl) (fun r1 h2 => ?_)
    refine S_istore_n g dX12_sorts_49 rfl (by decide) rfl ?_
    refine S_sub g [1, 2, 3, 0] rfl ?_
    exact sX12_sorts_L50 hw g self35 hs35 _ _ _ _

theorem sX12_sorts_p26 {Γ : Cx} {w : Wd} (hw : okM w) (g : Gd Γ cX12_sorts 6 "GatePatchModel" (Option.none : Option Jvm.ClassFile.FieldType) (rmd 3))  (self2 : Int → Int → Hp → OR) (hs2 : ∀ (x0 x1 : Int) (h : Hp), Sim Γ w 3 (self2 x0 x1 h) h 2 [(0, vP 143), (1, vI x0), (2, vI x1)] []) (l1 l2 : Int) (s1 s2 : Int) (h : Hp) : Sim Γ w 3 (XX12_sorts_p26 self2 l1 l2 s1 s2 h) h 26 [(0, vP 143), (1, vI l1), (2, vI l2)] [vI s2, vI s1, vP 187] := by
  unfold XX12_sorts_p26
  refine S_zastore g dX12_sorts_26 (at_187 hw) (fun h12 => ?_)
  refine S_iinc (kk := 2) g dX12_sorts_27 rfl (by decide) rfl ?_
  refine S_goto (tgt := 2) g dX12_sorts_30 (by decide) ?_
  refine S_sub g [1, 2, 0] rfl ?_
  exact hs2 _ _ _

theorem sX12_sorts_L2 {Γ : Cx} {w : Wd} (hw : okM w) (g : Gd Γ cX12_sorts 6 "GatePatchModel" (Option.none : Option Jvm.ClassFile.FieldType) (rmd 3))   : ∀ (l1 l2 : Int) (h : Hp), Sim Γ w 3 (XX12_sorts_L2  l1 l2 h) h 2 [(0, vP 143), (1, vI l1), (2, vI l2)] [] := by
  refine S_lup2 (fun l1 l2 => [(0, vP 143), (1, vI l1), (2, vI l2)]) (fun self2 hs2 l1 l2 h => ?_) FU
  unfold XX12_sorts_b2
  refine S_iload_n (kk := 2) g dX12_sorts_2 rfl rfl ?_
  refine S_bipush g dX12_sorts_3 ⟨by decide, by decide⟩ rfl ?_
  refine S_icmp_ge (tgt := 33) g dX12_sorts_5 (by decide) ?_ ?_
  · refine S_iconst g dX12_sorts_33 ⟨by decide, by decide⟩ ?_
    refine S_istore_n g dX12_sorts_34 rfl (by decide) rfl ?_
    refine S_sub g [1, 2, 0] rfl ?_
    exact sX12_sorts_L35 hw g _ _ _
  · refine S_aload_n (kk := 0) g dX12_sorts_8 rfl rfl ?_
    refine S_getr g dX12_sorts_9 fl_Mod_154 (at_143 hw) rfl (rc_143_60 hw) ?_
    refine S_iload_n (kk := 2) g dX12_sorts_12 rfl rfl ?_
    refine S_iload_n (kk := 2) g dX12_sorts_13 rfl rfl ?_
    refine S_aload_n (kk := 0) g dX12_sorts_14 rfl rfl ?_
    refine S_callVi (As := []) g dX12_sorts_15 (sX12_begun hw  _) rfl (at_143 hw) rfl im_X12_begun se_X12_begun cw_X12_begun ml_Mod_208 ini_Mod nd_X12_begun ⟨by decide, by decide⟩ (Nat.le_of_ble_eq_true rfl) (fun r10 h11 => ?_)
    refine S_icmp_ge (tgt := 25) g dX12_sorts_18 (by decide) ?_ ?_
    · refine S_iconst g dX12_sorts_25 ⟨by decide, by decide⟩ ?_
      exact sX12_sorts_p26 hw g self2 hs2 _ _ _ _ _
    · refine S_iconst g dX12_sorts_21 ⟨by decide, by decide⟩ ?_
      refine S_goto (tgt := 26) g dX12_sorts_22 (by decide) ?_
      exact sX12_sorts_p26 hw g self2 hs2 _ _ _ _ _

theorem sX12_sorts {G : GG} {w : Wd} (hw : okM w) (x0 : Int) (h : Hp) : SC G w yX12_sorts (Cond.code yX12_sorts cX12_sorts 6 (Option.none : Option Jvm.ClassFile.FieldType)) 3 3 [vP 143, vI x0] (XX12_sorts x0 h) h := by
  refine SC_of (own := "GatePatchModel") plain_Mod rfl (Nat.le_of_ble_eq_true rfl) (fun Γ hG g => ?_)
  subst hG
  show Sim Γ w 3 _ h 0 [(0, vP 143), (1, vI x0)] []
  unfold XX12_sorts
  refine S_iconst g dX12_sorts_0 ⟨by decide, by decide⟩ ?_
  refine S_istore_n g dX12_sorts_1 rfl (by decide) rfl ?_
  refine S_sub g [1, 2, 0] rfl ?_
  exact sX12_sorts_L2 hw g _ _ _

def XX12_inputWord_p36  (self5 : Int → Int → Int → Int → Hp → OR) (l0 l1 l4 : Int) (s0 s1 : Int) (h : Hp) : OR :=
  nm (jor s0 s1) (fun v1 => chk (l4 + 1) (self5 l0 l1 v1 (l4 + 1) h))
def XX12_inputWord_b5   (self5 : Int → Int → Int → Int → Hp → OR) (l0 l1 l2 l4 : Int) (h : Hp) : OR :=
  if 64 ≤ l4 then some (l2, h) else chk (64 * l1) (chk ((64 * l1) + l4) (if (aand (ashr ((64 * l1) + l4) l0) 1) = 1 then XX12_inputWord_p36 self5 l0 l1 l4 l2 (jshl 1 l4) h else XX12_inputWord_p36 self5 l0 l1 l4 l2 0 h))
def XX12_inputWord_L5   (l0 l1 l2 l4 : Int) (h : Hp) : OR := lup4 (XX12_inputWord_b5 ) FU l0 l1 l2 l4 h
def XX12_inputWord (x0 : Int) (x1 : Int) (h : Hp) : OR :=
  XX12_inputWord_L5 x0 x1 0 0 h
theorem sX12_inputWord_p36 {Γ : Cx} {w : Wd} (hw : okM w) (g : Gd Γ cX12_inputWord 5 "GatePatchModel" (Option.some Jvm.ClassFile.FieldType.long) (rmd 1))  (self5 : Int → Int → Int → Int → Hp → OR) (hs5 : ∀ (x0 x1 x2 x3 : Int) (h : Hp), Sim Γ w 1 (self5 x0 x1 x2 x3 h) h 5 [(0, vI x0), (1, vI x1), (2, vJ x2), (4, vI x3)] []) (l0 l1 l4 : Int) (s0 s1 : Int) (h : Hp) : Sim Γ w 1 (XX12_inputWord_p36 self5 l0 l1 l4 s0 s1 h) h 36 [(0, vI l0), (1, vI l1), (4, vI l4)] [vJ s1, vJ s0] := by
  unfold XX12_inputWord_p36
  refine S_lor g dX12_inputWord_36 ?_
  refine S_nmJ (fun v1 => ?_)
  refine S_lstore_n g dX12_inputWord_37 rfl (by decide) rfl ?_
  refine S_iinc (kk := 3) g dX12_inputWord_38 rfl (by decide) rfl ?_
  refine S_goto (tgt := 5) g dX12_inputWord_41 (by decide) ?_
  refine S_sub g [2, 3, 1, 0] rfl ?_
  exact hs5 _ _ _ _ _

theorem sX12_inputWord_L5 {Γ : Cx} {w : Wd} (hw : okM w) (g : Gd Γ cX12_inputWord 5 "GatePatchModel" (Option.some Jvm.ClassFile.FieldType.long) (rmd 1))   : ∀ (l0 l1 l2 l4 : Int) (h : Hp), Sim Γ w 1 (XX12_inputWord_L5  l0 l1 l2 l4 h) h 5 [(0, vI l0), (1, vI l1), (2, vJ l2), (4, vI l4)] [] := by
  refine S_lup4 (fun l0 l1 l2 l4 => [(0, vI l0), (1, vI l1), (2, vJ l2), (4, vI l4)]) (fun self5 hs5 l0 l1 l2 l4 h => ?_) FU
  unfold XX12_inputWord_b5
  refine S_iload (kk := 3) g dX12_inputWord_5 rfl ?_
  refine S_bipush g dX12_inputWord_7 ⟨by decide, by decide⟩ rfl ?_
  refine S_icmp_ge (tgt := 44) g dX12_inputWord_9 (by decide) ?_ ?_
  · refine S_lload_n (kk := 2) g dX12_inputWord_44 rfl rfl ?_
    exact S_lreturn g dX12_inputWord_45 rfl
  · refine S_lload_n (kk := 2) g dX12_inputWord_12 rfl rfl ?_
    refine S_bipush g dX12_inputWord_13 ⟨by decide, by decide⟩ rfl ?_
    refine S_iload_n (kk := 1) g dX12_inputWord_15 rfl rfl ?_
    refine S_imul g dX12_inputWord_16 ?_
    refine S_iload (kk := 3) g dX12_inputWord_17 rfl ?_
    refine S_iadd g dX12_inputWord_19 ?_
    refine S_iload_n (kk := 0) g dX12_inputWord_20 rfl rfl ?_
    refine S_ishr g dX12_inputWord_21 ?_
    refine S_iconst g dX12_inputWord_22 ⟨by decide, by decide⟩ ?_
    refine S_iand g dX12_inputWord_23 ?_
    refine S_iconst g dX12_inputWord_24 ⟨by decide, by decide⟩ ?_
    refine S_icmp_ne (tgt := 35) g dX12_inputWord_25 (by decide) ?_ ?_
    · refine S_lconst (x := 0) g dX12_inputWord_35 ⟨by decide, by decide⟩ rfl ?_
      refine S_sub g [0, 1, 3] rfl ?_
      exact sX12_inputWord_p36 hw g self5 hs5 _ _ _ _ _ _
    · refine S_lconst (x := 1) g dX12_inputWord_28 ⟨by decide, by decide⟩ rfl ?_
      refine S_iload (kk := 3) g dX12_inputWord_29 rfl ?_
      refine S_lshl g dX12_inputWord_31 ?_
      refine S_goto (tgt := 36) g dX12_inputWord_32 (by decide) ?_
      refine S_sub g [0, 1, 3] rfl ?_
      exact sX12_inputWord_p36 hw g self5 hs5 _ _ _ _ _ _

theorem sX12_inputWord {G : GG} {w : Wd} (hw : okM w) (x0 : Int) (x1 : Int) (h : Hp) : SC G w yX12_inputWord (Cond.code yX12_inputWord cX12_inputWord 5 (Option.some Jvm.ClassFile.FieldType.long)) 1 1 [vI x0, vI x1] (XX12_inputWord x0 x1 h) h := by
  refine SC_of (own := "GatePatchModel") plain_Mod rfl (Nat.le_of_ble_eq_true rfl) (fun Γ hG g => ?_)
  subst hG
  show Sim Γ w 1 _ h 0 [(0, vI x0), (1, vI x1)] []
  unfold XX12_inputWord
  refine S_lconst (x := 0) g dX12_inputWord_0 ⟨by decide, by decide⟩ rfl ?_
  refine S_lstore_n g dX12_inputWord_1 rfl (by decide) rfl ?_
  refine S_iconst g dX12_inputWord_2 ⟨by decide, by decide⟩ ?_
  refine S_istore g dX12_inputWord_3 (by decide) rfl ?_
  refine S_sub g [2, 3, 1, 0] rfl ?_
  exact sX12_inputWord_L5 hw g _ _ _ _ _

def XX12_two (x0 : Int) (x1 : Int) (x2 : Int) (h : Hp) : OR :=
  if x0 = 1 then some ((jand x1 x2), h) else if x0 = 2 then some ((jor x1 x2), h) else if x0 = 3 then some ((jxor x1 x2), h) else if x0 = 4 then some ((jxor (jand x1 x2) (-1)), h) else some ((jxor (jor x1 x2) (-1)), h)
theorem sX12_two {G : GG} {w : Wd} (hw : okM w) (x0 : Int) (x1 : Int) (x2 : Int) (h : Hp) : SC G w yX12_two (Cond.code yX12_two cX12_two 5 (Option.some Jvm.ClassFile.FieldType.long)) 1 1 [vI x0, vJ x1, vJ x2] (XX12_two x0 x1 x2 h) h := by
  refine SC_of (own := "GatePatchModel") plain_Mod rfl (Nat.le_of_ble_eq_true rfl) (fun Γ hG g => ?_)
  subst hG
  show Sim Γ w 1 _ h 0 [(0, vI x0), (1, vJ x1), (3, vJ x2)] []
  unfold XX12_two
  refine S_iload_n (kk := 0) g dX12_two_0 rfl rfl ?_
  refine S_ite (fun c1 => ?_) (fun c1 => ?_)
  · refine S_tabIn (tgt := 32) g dX12_two_1 1 c1 (by decide) (by decide) rfl (by decide) ?_
    refine S_lload_n (kk := 1) g dX12_two_32 rfl rfl ?_
    refine S_lload_n (kk := 2) g dX12_two_33 rfl rfl ?_
    refine S_land g dX12_two_34 ?_
    exact S_lreturn g dX12_two_35 rfl
  · skip
    refine S_ite (fun c2 => ?_) (fun c2 => ?_)
    · refine S_tabIn (tgt := 36) g dX12_two_1 2 c2 (by decide) (by decide) rfl (by decide) ?_
      refine S_lload_n (kk := 1) g dX12_two_36 rfl rfl ?_
      refine S_lload_n (kk := 2) g dX12_two_37 rfl rfl ?_
      refine S_lor g dX12_two_38 ?_
      exact S_lreturn g dX12_two_39 rfl
    · skip
      refine S_ite (fun c3 => ?_) (fun c3 => ?_)
      · refine S_tabIn (tgt := 40) g dX12_two_1 3 c3 (by decide) (by decide) rfl (by decide) ?_
        refine S_lload_n (kk := 1) g dX12_two_40 rfl rfl ?_
        refine S_lload_n (kk := 2) g dX12_two_41 rfl rfl ?_
        refine S_lxor g dX12_two_42 ?_
        exact S_lreturn g dX12_two_43 rfl
      · skip
        refine S_ite (fun c4 => ?_) (fun c4 => ?_)
        · refine S_tabIn (tgt := 44) g dX12_two_1 4 c4 (by decide) (by decide) rfl (by decide) ?_
          refine S_lload_n (kk := 1) g dX12_two_44 rfl rfl ?_
          refine S_lload_n (kk := 2) g dX12_two_45 rfl rfl ?_
          refine S_land g dX12_two_46 ?_
          refine S_ldc2 g dX12_two_47 ⟨by decide, by decide⟩ k_Mod_281 ?_
          refine S_lxor g dX12_two_50 ?_
          exact S_lreturn g dX12_two_51 rfl
        · skip
          refine S_tabOut (tgt := 52) g dX12_two_1 (by omega) (by decide) ?_
          refine S_lload_n (kk := 1) g dX12_two_52 rfl rfl ?_
          refine S_lload_n (kk := 2) g dX12_two_53 rfl rfl ?_
          refine S_lor g dX12_two_54 ?_
          refine S_ldc2 g dX12_two_55 ⟨by decide, by decide⟩ k_Mod_281 ?_
          refine S_lxor g dX12_two_58 ?_
          exact S_lreturn g dX12_two_59 rfl

def XX12_worked_p132   (l5 l6 l8 : Int) (s0 : Int) (h : Hp) : OR :=
  if l5 = 0 then some ((jxor l6 (-1)), h) else if l5 = 6 then some ((jor (jand l6 l8) (jand (jxor l6 (-1)) s0)), h) else if l5 = 7 then some (0, h) else if l5 = 8 then some ((-1), h) else cal (XX12_two l5 l6 l8 h) (fun r9 h10 => some (r9, h10))
def XX12_worked_p92   (l1 l3 l4 l5 l6 : Int) (s0 : Int) (h : Hp) : OR :=
  cal (XX12_pinsOf l5 h) (fun r7 h8 => if r7 ≤ 2 then XX12_worked_p132 l5 l6 s0 0 h8 else chk (48 * l1) (chk (3 * l4) (chk ((3 * l4) + 2) (inb ((3 * l4) + 2) 288 (chk ((48 * l1) + (h8 146 ((3 * l4) + 2).toNat)) (chk (4 * ((48 * l1) + (h8 146 ((3 * l4) + 2).toNat))) (chk ((4 * ((48 * l1) + (h8 146 ((3 * l4) + 2).toNat))) + l3) (inb ((4 * ((48 * l1) + (h8 146 ((3 * l4) + 2).toNat))) + l3) 384 (XX12_worked_p132 l5 l6 s0 (h8 188 ((4 * ((48 * l1) + (h8 146 ((3 * l4) + 2).toNat))) + l3).toNat) h8)))))))))
def XX12_worked_p52   (l1 l3 l4 l5 : Int) (s0 : Int) (h : Hp) : OR :=
  cal (XX12_pinsOf l5 h) (fun r5 h6 => if r5 ≤ 1 then XX12_worked_p92 l1 l3 l4 l5 s0 0 h6 else chk (48 * l1) (chk (3 * l4) (chk ((3 * l4) + 1) (inb ((3 * l4) + 1) 288 (chk ((48 * l1) + (h6 146 ((3 * l4) + 1).toNat)) (chk (4 * ((48 * l1) + (h6 146 ((3 * l4) + 1).toNat))) (chk ((4 * ((48 * l1) + (h6 146 ((3 * l4) + 1).toNat))) + l3) (inb ((4 * ((48 * l1) + (h6 146 ((3 * l4) + 1).toNat))) + l3) 384 (XX12_worked_p92 l1 l3 l4 l5 s0 (h6 188 ((4 * ((48 * l1) + (h6 146 ((3 * l4) + 1).toNat))) + l3).toNat) h6)))))))))
def XX12_worked (x0 : Int) (x1 : Int) (x2 : Int) (h : Hp) : OR :=
  chk (48 * x0) (chk ((48 * x0) + x1) (nm ((48 * x0) + x1) (fun v1 => inb v1 96 (nm (h 145 v1.toNat) (fun v2 => cal (XX12_pinsOf v2 h) (fun r3 h4 => if r3 ≤ 0 then XX12_worked_p52 x0 x2 v1 v2 0 h4 else chk (48 * x0) (chk (3 * v1) (inb (3 * v1) 288 (chk ((48 * x0) + (h4 146 (3 * v1).toNat)) (chk (4 * ((48 * x0) + (h4 146 (3 * v1).toNat))) (chk ((4 * ((48 * x0) + (h4 146 (3 * v1).toNat))) + x2) (inb ((4 * ((48 * x0) + (h4 146 (3 * v1).toNat))) + x2) 384 (XX12_worked_p52 x0 x2 v1 v2 (h4 188 ((4 * ((48 * x0) + (h4 146 (3 * v1).toNat))) + x2).toNat) h4)))))))))))))
theorem sX12_worked_p132 {Γ : Cx} {w : Wd} (hw : okM w) (g : Gd Γ cX12_worked 12 "GatePatchModel" (Option.some Jvm.ClassFile.FieldType.long) (rmd 2))   (l5 l6 l8 : Int) (s0 : Int) (h : Hp) : Sim Γ w 1 (XX12_worked_p132  l5 l6 l8 s0 h) h 132 [(5, vI l5), (6, vJ l6), (8, vJ l8)] [vJ s0] := by
  unfold XX12_worked_p132
  refine S_lstore g dX12_worked_132 (by decide) rfl ?_
  refine S_iload (kk := 1) g dX12_worked_134 rfl ?_
  refine S_if_ne (tgt := 148) g dX12_worked_136 (by decide) ?_ ?_
  · refine S_iload (kk := 1) g dX12_worked_148 rfl ?_
    refine S_bipush g dX12_worked_150 ⟨by decide, by decide⟩ rfl ?_
    refine S_icmp_ne (tgt := 173) g dX12_worked_152 (by decide) ?_ ?_
    · refine S_iload (kk := 1) g dX12_worked_173 rfl ?_
      refine S_bipush g dX12_worked_175 ⟨by decide, by decide⟩ rfl ?_
      refine S_icmp_ne (tgt := 184) g dX12_worked_177 (by decide) ?_ ?_
      · refine S_iload (kk := 1) g dX12_worked_184 rfl ?_
        refine S_bipush g dX12_worked_186 ⟨by decide, by decide⟩ rfl ?_
        refine S_icmp_ne (tgt := 197) g dX12_worked_188 (by decide) ?_ ?_
        · refine S_iload (kk := 1) g dX12_worked_197 rfl ?_
          refine S_lload (kk := 2) g dX12_worked_199 rfl ?_
          refine S_lload (kk := 3) g dX12_worked_201 rfl ?_
          refine S_callSj (As := [vI l5, vJ l6, vJ l8]) g dX12_worked_203 (sX12_two hw _ _ _ _) rfl st_X12_two cw_X12_two ml_Mod_283 ini_Mod nd_X12_two ⟨by decide, by decide⟩ (Nat.le_of_ble_eq_true rfl) (fun r9 h10 => ?_)
          exact S_lreturn g dX12_worked_206 rfl
        · refine S_ldc2 g dX12_worked_191 ⟨by decide, by decide⟩ k_Mod_281 ?_
          refine S_goto (tgt := 206) g dX12_worked_194 (by decide) ?_
          exact S_lreturn g dX12_worked_206 rfl
      · refine S_lconst (x := 0) g dX12_worked_180 ⟨by decide, by decide⟩ rfl ?_
        refine S_goto (tgt := 206) g dX12_worked_181 (by decide) ?_
        exact S_lreturn g dX12_worked_206 rfl
    · refine S_lload (kk := 2) g dX12_worked_155 rfl ?_
      refine S_lload (kk := 3) g dX12_worked_157 rfl ?_
      refine S_land g dX12_worked_159 ?_
      refine S_lload (kk := 2) g dX12_worked_160 rfl ?_
      refine S_ldc2 g dX12_worked_162 ⟨by decide, by decide⟩ k_Mod_281 ?_
      refine S_lxor g dX12_worked_165 ?_
      refine S_lload (kk := 0) g dX12_worked_166 rfl ?_
      refine S_land g dX12_worked_168 ?_
      refine S_lor g dX12_worked_169 ?_
      refine S_goto (tgt := 206) g dX12_worked_170 (by decide) ?_
      exact S_lreturn g dX12_worked_206 rfl
  · refine S_lload (kk := 2) g dX12_worked_139 rfl ?_
    refine S_ldc2 g dX12_worked_141 ⟨by decide, by decide⟩ k_Mod_281 ?_
    refine S_lxor g dX12_worked_144 ?_
    refine S_goto (tgt := 206) g dX12_worked_145 (by decide) ?_
    exact S_lreturn g dX12_worked_206 rfl

theorem sX12_worked_p92 {Γ : Cx} {w : Wd} (hw : okM w) (g : Gd Γ cX12_worked 12 "GatePatchModel" (Option.some Jvm.ClassFile.FieldType.long) (rmd 2))   (l1 l3 l4 l5 l6 : Int) (s0 : Int) (h : Hp) : Sim Γ w 1 (XX12_worked_p92  l1 l3 l4 l5 l6 s0 h) h 92 [(0, vP 143), (1, vI l1), (3, vI l3), (4, vI l4), (5, vI l5), (6, vJ l6)] [vJ s0] := by
  unfold XX12_worked_p92
  refine S_lstore g dX12_worked_92 (by decide) rfl ?_
  refine S_iload (kk := 5) g dX12_worked_94 rfl ?_
  refine S_callSi (As := [vI l5]) g dX12_worked_96 (sX12_pinsOf hw _ _) rfl st_X12_pinsOf cw_X12_pinsOf ml_Mod_253 ini_Mod nd_X12_pinsOf ⟨by decide, by decide⟩ (Nat.le_of_ble_eq_true rfl) (fun r7 h8 => ?_)
  refine S_iconst g dX12_worked_99 ⟨by decide, by decide⟩ ?_
  refine S_icmp_le (tgt := 131) g dX12_worked_100 (by decide) ?_ ?_
  · refine S_lconst (x := 0) g dX12_worked_131 ⟨by decide, by decide⟩ rfl ?_
    refine S_sub g [5, 6, 0] rfl ?_
    exact sX12_worked_p132 hw g _ _ _ _ _
  · refine S_aload_n (kk := 1) g dX12_worked_103 rfl rfl ?_
    refine S_getr g dX12_worked_104 fl_Mod_157 (at_143 hw) rfl (rc_143_61 hw) ?_
    refine S_iconst g dX12_worked_107 ⟨by decide, by decide⟩ ?_
    refine S_bipush g dX12_worked_108 ⟨by decide, by decide⟩ rfl ?_
    refine S_iload_n (kk := 2) g dX12_worked_110 rfl rfl ?_
    refine S_imul g dX12_worked_111 ?_
    refine S_aload_n (kk := 1) g dX12_worked_112 rfl rfl ?_
    refine S_getr g dX12_worked_113 fl_Mod_23 (at_143 hw) rfl (rc_143_6 hw) ?_
    refine S_iconst g dX12_worked_116 ⟨by decide, by decide⟩ ?_
    refine S_iload (kk := 4) g dX12_worked_117 rfl ?_
    refine S_imul g dX12_worked_119 ?_
    refine S_iconst g dX12_worked_120 ⟨by decide, by decide⟩ ?_
    refine S_iadd g dX12_worked_121 ?_
    refine S_iaload g dX12_worked_122 (at_146 hw) ?_
    refine S_iadd g dX12_worked_123 ?_
    refine S_imul g dX12_worked_124 ?_
    refine S_iload_n (kk := 3) g dX12_worked_125 rfl rfl ?_
    refine S_iadd g dX12_worked_126 ?_
    refine S_laload g dX12_worked_127 (at_188 hw) ?_
    refine S_goto (tgt := 132) g dX12_worked_128 (by decide) ?_
    refine S_sub g [5, 6, 0] rfl ?_
    exact sX12_worked_p132 hw g _ _ _ _ _

theorem sX12_worked_p52 {Γ : Cx} {w : Wd} (hw : okM w) (g : Gd Γ cX12_worked 12 "GatePatchModel" (Option.some Jvm.ClassFile.FieldType.long) (rmd 2))   (l1 l3 l4 l5 : Int) (s0 : Int) (h : Hp) : Sim Γ w 1 (XX12_worked_p52  l1 l3 l4 l5 s0 h) h 52 [(0, vP 143), (1, vI l1), (3, vI l3), (4, vI l4), (5, vI l5)] [vJ s0] := by
  unfold XX12_worked_p52
  refine S_lstore g dX12_worked_52 (by decide) rfl ?_
  refine S_iload (kk := 5) g dX12_worked_54 rfl ?_
  refine S_callSi (As := [vI l5]) g dX12_worked_56 (sX12_pinsOf hw _ _) rfl st_X12_pinsOf cw_X12_pinsOf ml_Mod_253 ini_Mod nd_X12_pinsOf ⟨by decide, by decide⟩ (Nat.le_of_ble_eq_true rfl) (fun r5 h6 => ?_)
  refine S_iconst g dX12_worked_59 ⟨by decide, by decide⟩ ?_
  refine S_icmp_le (tgt := 91) g dX12_worked_60 (by decide) ?_ ?_
  · refine S_lconst (x := 0) g dX12_worked_91 ⟨by decide, by decide⟩ rfl ?_
    refine S_sub g [1, 2, 3, 4, 5, 0] rfl ?_
    exact sX12_worked_p92 hw g _ _ _ _ _ _ _
  · refine S_aload_n (kk := 1) g dX12_worked_63 rfl rfl ?_
    refine S_getr g dX12_worked_64 fl_Mod_157 (at_143 hw) rfl (rc_143_61 hw) ?_
    refine S_iconst g dX12_worked_67 ⟨by decide, by decide⟩ ?_
    refine S_bipush g dX12_worked_68 ⟨by decide, by decide⟩ rfl ?_
    refine S_iload_n (kk := 2) g dX12_worked_70 rfl rfl ?_
    refine S_imul g dX12_worked_71 ?_
    refine S_aload_n (kk := 1) g dX12_worked_72 rfl rfl ?_
    refine S_getr g dX12_worked_73 fl_Mod_23 (at_143 hw) rfl (rc_143_6 hw) ?_
    refine S_iconst g dX12_worked_76 ⟨by decide, by decide⟩ ?_
    refine S_iload (kk := 4) g dX12_worked_77 rfl ?_
    refine S_imul g dX12_worked_79 ?_
    refine S_iconst g dX12_worked_80 ⟨by decide, by decide⟩ ?_
    refine S_iadd g dX12_worked_81 ?_
    refine S_iaload g dX12_worked_82 (at_146 hw) ?_
    refine S_iadd g dX12_worked_83 ?_
    refine S_imul g dX12_worked_84 ?_
    refine S_iload_n (kk := 3) g dX12_worked_85 rfl rfl ?_
    refine S_iadd g dX12_worked_86 ?_
    refine S_laload g dX12_worked_87 (at_188 hw) ?_
    refine S_goto (tgt := 92) g dX12_worked_88 (by decide) ?_
    refine S_sub g [1, 2, 3, 4, 5, 0] rfl ?_
    exact sX12_worked_p92 hw g _ _ _ _ _ _ _

theorem sX12_worked {G : GG} {w : Wd} (hw : okM w) (x0 : Int) (x1 : Int) (x2 : Int) (h : Hp) : SC G w yX12_worked (Cond.code yX12_worked cX12_worked 12 (Option.some Jvm.ClassFile.FieldType.long)) 2 1 [vP 143, vI x0, vI x1, vI x2] (XX12_worked x0 x1 x2 h) h := by
  refine SC_of (own := "GatePatchModel") plain_Mod rfl (Nat.le_of_ble_eq_true rfl) (fun Γ hG g => ?_)
  subst hG
  show Sim Γ w 1 _ h 0 [(0, vP 143), (1, vI x0), (2, vI x1), (3, vI x2)] []
  unfold XX12_worked
  refine S_bipush g dX12_worked_0 ⟨by decide, by decide⟩ rfl ?_
  refine S_iload_n (kk := 1) g dX12_worked_2 rfl rfl ?_
  refine S_imul g dX12_worked_3 ?_
  refine S_iload_n (kk := 2) g dX12_worked_4 rfl rfl ?_
  refine S_iadd g dX12_worked_5 ?_
  refine S_nmI (fun v1 => ?_)
  refine S_istore g dX12_worked_6 (by decide) rfl ?_
  refine S_aload_n (kk := 1) g dX12_worked_8 rfl rfl ?_
  refine S_getr g dX12_worked_9 fl_Mod_20 (at_143 hw) rfl (rc_143_5 hw) ?_
  refine S_iload (kk := 0) g dX12_worked_12 rfl ?_
  refine S_iaload g dX12_worked_14 (at_145 hw) ?_
  refine S_nmI (fun v2 => ?_)
  refine S_istore g dX12_worked_15 (by decide) rfl ?_
  refine S_iload (kk := 0) g dX12_worked_17 rfl ?_
  refine S_callSi (As := [vI v2]) g dX12_worked_19 (sX12_pinsOf hw _ _) rfl st_X12_pinsOf cw_X12_pinsOf ml_Mod_253 ini_Mod nd_X12_pinsOf ⟨by decide, by decide⟩ (Nat.le_of_ble_eq_true rfl) (fun r3 h4 => ?_)
  refine S_if_le (tgt := 51) g dX12_worked_22 (by decide) ?_ ?_
  · refine S_lconst (x := 0) g dX12_worked_51 ⟨by decide, by decide⟩ rfl ?_
    refine S_sub g [2, 3, 5, 1, 0] rfl ?_
    exact sX12_worked_p52 hw g _ _ _ _ _ _
  · refine S_aload_n (kk := 2) g dX12_worked_25 rfl rfl ?_
    refine S_getr g dX12_worked_26 fl_Mod_157 (at_143 hw) rfl (rc_143_61 hw) ?_
    refine S_iconst g dX12_worked_29 ⟨by decide, by decide⟩ ?_
    refine S_bipush g dX12_worked_30 ⟨by decide, by decide⟩ rfl ?_
    refine S_iload_n (kk := 3) g dX12_worked_32 rfl rfl ?_
    refine S_imul g dX12_worked_33 ?_
    refine S_aload_n (kk := 2) g dX12_worked_34 rfl rfl ?_
    refine S_getr g dX12_worked_35 fl_Mod_23 (at_143 hw) rfl (rc_143_6 hw) ?_
    refine S_iconst g dX12_worked_38 ⟨by decide, by decide⟩ ?_
    refine S_iload (kk := 1) g dX12_worked_39 rfl ?_
    refine S_imul g dX12_worked_41 ?_
    refine S_iaload g dX12_worked_42 (at_146 hw) ?_
    refine S_iadd g dX12_worked_43 ?_
    refine S_imul g dX12_worked_44 ?_
    refine S_iload_n (kk := 5) g dX12_worked_45 rfl rfl ?_
    refine S_iadd g dX12_worked_46 ?_
    refine S_laload g dX12_worked_47 (at_188 hw) ?_
    refine S_goto (tgt := 52) g dX12_worked_48 (by decide) ?_
    refine S_sub g [2, 3, 5, 1, 0] rfl ?_
    exact sX12_worked_p52 hw g _ _ _ _ _ _

def XX12_begins_b17  (self7 : Int → Int → Hp → OR) (self17 : Int → Int → Int → Hp → OR) (l1 l2 l3 : Int) (h : Hp) : OR :=
  if 4 ≤ l3 then chk (l2 + 1) (self7 l1 (l2 + 1) h) else chk (48 * l1) (chk ((48 * l1) + l2) (chk (4 * ((48 * l1) + l2)) (chk ((4 * ((48 * l1) + l2)) + l3) (cal (XX12_inputWord l2 l3 h) (fun r5 h6 => inb ((4 * ((48 * l1) + l2)) + l3) 384 (hm (wr h6 188 ((4 * ((48 * l1) + l2)) + l3).toNat r5) (fun h7 => chk (l3 + 1) (self17 l1 l2 (l3 + 1) h7))))))))
def XX12_begins_L17  (self7 : Int → Int → Hp → OR) (l1 l2 l3 : Int) (h : Hp) : OR := lup3 (XX12_begins_b17 self7) FU l1 l2 l3 h
def XX12_begins_b7   (self7 : Int → Int → Hp → OR) (l1 l2 : Int) (h : Hp) : OR :=
  cal (XX12_begun h) (fun r3 h4 => if r3 ≤ l2 then some (0, h4) else XX12_begins_L17 self7 l1 l2 0 h4)
def XX12_begins_L7   (l1 l2 : Int) (h : Hp) : OR := lup2 (XX12_begins_b7 ) FU l1 l2 h
def XX12_begins (x0 : Int) (h : Hp) : OR :=
  cal (XX12_sorts x0 h) (fun r1 h2 => XX12_begins_L7 x0 0 h2)
theorem sX12_begins_L17 {Γ : Cx} {w : Wd} (hw : okM w) (g : Gd Γ cX12_begins 4 "GatePatchModel" (Option.none : Option Jvm.ClassFile.FieldType) (rmd 4))  (self7 : Int → Int → Hp → OR) (hs7 : ∀ (x0 x1 : Int) (h : Hp), Sim Γ w 3 (self7 x0 x1 h) h 7 [(0, vP 143), (1, vI x0), (2, vI x1)] []) : ∀ (l1 l2 l3 : Int) (h : Hp), Sim Γ w 3 (XX12_begins_L17 self7 l1 l2 l3 h) h 17 [(0, vP 143), (1, vI l1), (2, vI l2), (3, vI l3)] [] := by
  refine S_lup3 (fun l1 l2 l3 => [(0, vP 143), (1, vI l1), (2, vI l2), (3, vI l3)]) (fun self17 hs17 l1 l2 l3 h => ?_) FU
  unfold XX12_begins_b17
  refine S_iload_n (kk := 3) g dX12_begins_17 rfl rfl ?_
  refine S_iconst g dX12_begins_18 ⟨by decide, by decide⟩ ?_
  refine S_icmp_ge (tgt := 48) g dX12_begins_19 (by decide) ?_ ?_
  · refine S_iinc (kk := 2) g dX12_begins_48 rfl (by decide) rfl ?_
    refine S_goto (tgt := 7) g dX12_begins_51 (by decide) ?_
    refine S_sub g [1, 2, 0] rfl ?_
    exact hs7 _ _ _
  · refine S_aload_n (kk := 0) g dX12_begins_22 rfl rfl ?_
    refine S_getr g dX12_begins_23 fl_Mod_157 (at_143 hw) rfl (rc_143_61 hw) ?_
    refine S_iconst g dX12_begins_26 ⟨by decide, by decide⟩ ?_
    refine S_bipush g dX12_begins_27 ⟨by decide, by decide⟩ rfl ?_
    refine S_iload_n (kk := 1) g dX12_begins_29 rfl rfl ?_
    refine S_imul g dX12_begins_30 ?_
    refine S_iload_n (kk := 2) g dX12_begins_31 rfl rfl ?_
    refine S_iadd g dX12_begins_32 ?_
    refine S_imul g dX12_begins_33 ?_
    refine S_iload_n (kk := 3) g dX12_begins_34 rfl rfl ?_
    refine S_iadd g dX12_begins_35 ?_
    refine S_iload_n (kk := 2) g dX12_begins_36 rfl rfl ?_
    refine S_iload_n (kk := 3) g dX12_begins_37 rfl rfl ?_
    refine S_callSj (As := [vI l2, vI l3]) g dX12_begins_38 (sX12_inputWord hw _ _ _) rfl st_X12_inputWord cw_X12_inputWord ml_Mod_290 ini_Mod nd_X12_inputWord ⟨by decide, by decide⟩ (Nat.le_of_ble_eq_true rfl) (fun r5 h6 => ?_)
    refine S_lastore g dX12_begins_41 (at_188 hw) (fun h7 => ?_)
    refine S_iinc (kk := 3) g dX12_begins_42 rfl (by decide) rfl ?_
    refine S_goto (tgt := 17) g dX12_begins_45 (by decide) ?_
    refine S_sub g [1, 2, 3, 0] rfl ?_
    exact hs17 _ _ _ _

theorem sX12_begins_L7 {Γ : Cx} {w : Wd} (hw : okM w) (g : Gd Γ cX12_begins 4 "GatePatchModel" (Option.none : Option Jvm.ClassFile.FieldType) (rmd 4))   : ∀ (l1 l2 : Int) (h : Hp), Sim Γ w 3 (XX12_begins_L7  l1 l2 h) h 7 [(0, vP 143), (1, vI l1), (2, vI l2)] [] := by
  refine S_lup2 (fun l1 l2 => [(0, vP 143), (1, vI l1), (2, vI l2)]) (fun self7 hs7 l1 l2 h => ?_) FU
  unfold XX12_begins_b7
  refine S_iload_n (kk := 2) g dX12_begins_7 rfl rfl ?_
  refine S_aload_n (kk := 0) g dX12_begins_8 rfl rfl ?_
  refine S_callVi (As := []) g dX12_begins_9 (sX12_begun hw  _) rfl (at_143 hw) rfl im_X12_begun se_X12_begun cw_X12_begun ml_Mod_208 ini_Mod nd_X12_begun ⟨by decide, by decide⟩ (Nat.le_of_ble_eq_true rfl) (fun r3 h4 => ?_)
  refine S_icmp_ge (tgt := 54) g dX12_begins_12 (by decide) ?_ ?_
  · exact S_return g dX12_begins_54 rfl
  · refine S_iconst g dX12_begins_15 ⟨by decide, by decide⟩ ?_
    refine S_istore_n g dX12_begins_16 rfl (by decide) rfl ?_
    refine S_sub g [1, 2, 3, 0] rfl ?_
    exact sX12_begins_L17 hw g self7 hs7 _ _ _ _

theorem sX12_begins {G : GG} {w : Wd} (hw : okM w) (x0 : Int) (h : Hp) : SC G w yX12_begins (Cond.code yX12_begins cX12_begins 4 (Option.none : Option Jvm.ClassFile.FieldType)) 4 3 [vP 143, vI x0] (XX12_begins x0 h) h := by
  refine SC_of (own := "GatePatchModel") plain_Mod rfl (Nat.le_of_ble_eq_true rfl) (fun Γ hG g => ?_)
  subst hG
  show Sim Γ w 3 _ h 0 [(0, vP 143), (1, vI x0)] []
  unfold XX12_begins
  refine S_aload_n (kk := 0) g dX12_begins_0 rfl rfl ?_
  refine S_iload_n (kk := 1) g dX12_begins_1 rfl rfl ?_
  refine S_callVv (As := [vI x0]) g dX12_begins_2 (sX12_sorts hw _ _) rfl (at_143 hw) rfl im_X12_sorts se_X12_sorts cw_X12_sorts ml_Mod_287 ini_Mod nd_X12_sorts ⟨by decide, by decide⟩ (Nat.le_of_ble_eq_true rfl) (fun r1 h2 => ?_)
  refine S_iconst g dX12_begins_5 ⟨by decide, by decide⟩ ?_
  refine S_istore_n g dX12_begins_6 rfl (by decide) rfl ?_
  refine S_sub g [1, 2, 0] rfl ?_
  exact sX12_begins_L7 hw g _ _ _

def XX12_works_p130  (self2 : Int → Int → Hp → OR) (self72 : Int → Int → Int → Int → Int → Hp → OR) (l1 l2 l3 l4 l5 : Int) (s1 s2 : Int) (h : Hp) : OR :=
  inb s1 384 (hm (wr h 188 s1.toNat s2) (fun h2 => chk (l5 + 1) (self72 l1 l2 l3 l4 (l5 + 1) h2)))
def XX12_works_b72  (self2 : Int → Int → Hp → OR) (self72 : Int → Int → Int → Int → Int → Hp → OR) (l1 l2 l3 l4 l5 : Int) (h : Hp) : OR :=
  if 4 ≤ l5 then chk (l2 + 1) (self2 l1 (l2 + 1) h) else chk (48 * l1) (chk ((48 * l1) + l3) (chk (4 * ((48 * l1) + l3)) (chk ((4 * ((48 * l1) + l3)) + l5) (if l4 = (-1) then cal (XX12_worked l1 l3 l5 h) (fun r3 h4 => XX12_works_p130 self2 self72 l1 l2 l3 l4 l5 ((4 * ((48 * l1) + l3)) + l5) r3 h4) else if (aand (ashr (h 143 64) l4) 1) = 1 then XX12_works_p130 self2 self72 l1 l2 l3 l4 l5 ((4 * ((48 * l1) + l3)) + l5) (-1) h else XX12_works_p130 self2 self72 l1 l2 l3 l4 l5 ((4 * ((48 * l1) + l3)) + l5) 0 h))))
def XX12_works_L72  (self2 : Int → Int → Hp → OR) (l1 l2 l3 l4 l5 : Int) (h : Hp) : OR := lup5 (XX12_works_b72 self2) FU l1 l2 l3 l4 l5 h
def XX12_works_p69  (self2 : Int → Int → Hp → OR) (l1 l2 l3 l4 : Int) (h : Hp) : OR :=
  XX12_works_L72 self2 l1 l2 l3 l4 0 h
def XX12_works_p61  (self2 : Int → Int → Hp → OR) (self30 : Int → Int → Int → Int → Int → Hp → OR) (l1 l2 l3 l5 : Int) (s0 : Int) (h : Hp) : OR :=
  chk (l5 + 1) (self30 l1 l2 l3 s0 (l5 + 1) h)
def XX12_works_b30  (self2 : Int → Int → Hp → OR) (self30 : Int → Int → Int → Int → Int → Hp → OR) (l1 l2 l3 l4 l5 : Int) (h : Hp) : OR :=
  if (h 143 63) ≤ l5 then XX12_works_p69 self2 l1 l2 l3 l4 h else if l1 = 0 then inb l5 3 (if (h 189 l5.toNat) = l3 then XX12_works_p61 self2 self30 l1 l2 l3 l5 l5 h else XX12_works_p61 self2 self30 l1 l2 l3 l5 l4 h) else XX12_works_p69 self2 l1 l2 l3 l4 h
def XX12_works_L30  (self2 : Int → Int → Hp → OR) (l1 l2 l3 l4 l5 : Int) (h : Hp) : OR := lup5 (XX12_works_b30 self2) FU l1 l2 l3 l4 l5 h
def XX12_works_b2   (self2 : Int → Int → Hp → OR) (l1 l2 : Int) (h : Hp) : OR :=
  inb l1 2 (if (h 144 l1.toNat) ≤ l2 then some (0, h) else chk (40 * l1) (chk ((40 * l1) + l2) (inb ((40 * l1) + l2) 80 (nm (h 186 ((40 * l1) + l2).toNat) (fun v1 => XX12_works_L30 self2 l1 l2 v1 (-1) 0 h)))))
def XX12_works_L2   (l1 l2 : Int) (h : Hp) : OR := lup2 (XX12_works_b2 ) FU l1 l2 h
def XX12_works (x0 : Int) (h : Hp) : OR :=
  XX12_works_L2 x0 0 h
theorem sX12_works_p130 {Γ : Cx} {w : Wd} (hw : okM w) (g : Gd Γ cX12_works 6 "GatePatchModel" (Option.none : Option Jvm.ClassFile.FieldType) (rmd 3))  (self2 : Int → Int → Hp → OR) (hs2 : ∀ (x0 x1 : Int) (h : Hp), Sim Γ w 3 (self2 x0 x1 h) h 2 [(0, vP 143), (1, vI x0), (2, vI x1)] []) (self72 : Int → Int → Int → Int → Int → Hp → OR) (hs72 : ∀ (x0 x1 x2 x3 x4 : Int) (h : Hp), Sim Γ w 3 (self72 x0 x1 x2 x3 x4 h) h 72 [(0, vP 143), (1, vI x0), (2, vI x1), (3, vI x2), (4, vI x3), (5, vI x4)] []) (l1 l2 l3 l4 l5 : Int) (s1 s2 : Int) (h : Hp) : Sim Γ w 3 (XX12_works_p130 self2 self72 l1 l2 l3 l4 l5 s1 s2 h) h 130 [(0, vP 143), (1, vI l1), (2, vI l2), (3, vI l3), (4, vI l4), (5, vI l5)] [vJ s2, vI s1, vP 188] := by
  unfold XX12_works_p130
  refine S_lastore g dX12_works_130 (at_188 hw) (fun h2 => ?_)
  refine S_iinc (kk := 5) g dX12_works_131 rfl (by decide) rfl ?_
  refine S_goto (tgt := 72) g dX12_works_134 (by decide) ?_
  refine S_sub g [1, 2, 3, 4, 5, 0] rfl ?_
  exact hs72 _ _ _ _ _ _

theorem sX12_works_L72 {Γ : Cx} {w : Wd} (hw : okM w) (g : Gd Γ cX12_works 6 "GatePatchModel" (Option.none : Option Jvm.ClassFile.FieldType) (rmd 3))  (self2 : Int → Int → Hp → OR) (hs2 : ∀ (x0 x1 : Int) (h : Hp), Sim Γ w 3 (self2 x0 x1 h) h 2 [(0, vP 143), (1, vI x0), (2, vI x1)] []) : ∀ (l1 l2 l3 l4 l5 : Int) (h : Hp), Sim Γ w 3 (XX12_works_L72 self2 l1 l2 l3 l4 l5 h) h 72 [(0, vP 143), (1, vI l1), (2, vI l2), (3, vI l3), (4, vI l4), (5, vI l5)] [] := by
  refine S_lup5 (fun l1 l2 l3 l4 l5 => [(0, vP 143), (1, vI l1), (2, vI l2), (3, vI l3), (4, vI l4), (5, vI l5)]) (fun self72 hs72 l1 l2 l3 l4 l5 h => ?_) FU
  unfold XX12_works_b72
  refine S_iload (kk := 5) g dX12_works_72 rfl ?_
  refine S_iconst g dX12_works_74 ⟨by decide, by decide⟩ ?_
  refine S_icmp_ge (tgt := 137) g dX12_works_75 (by decide) ?_ ?_
  · refine S_iinc (kk := 2) g dX12_works_137 rfl (by decide) rfl ?_
    refine S_goto (tgt := 2) g dX12_works_140 (by decide) ?_
    refine S_sub g [1, 2, 0] rfl ?_
    exact hs2 _ _ _
  · refine S_aload_n (kk := 0) g dX12_works_78 rfl rfl ?_
    refine S_getr g dX12_works_79 fl_Mod_157 (at_143 hw) rfl (rc_143_61 hw) ?_
    refine S_iconst g dX12_works_82 ⟨by decide, by decide⟩ ?_
    refine S_bipush g dX12_works_83 ⟨by decide, by decide⟩ rfl ?_
    refine S_iload_n (kk := 1) g dX12_works_85 rfl rfl ?_
    refine S_imul g dX12_works_86 ?_
    refine S_iload_n (kk := 3) g dX12_works_87 rfl rfl ?_
    refine S_iadd g dX12_works_88 ?_
    refine S_imul g dX12_works_89 ?_
    refine S_iload (kk := 5) g dX12_works_90 rfl ?_
    refine S_iadd g dX12_works_92 ?_
    refine S_iload (kk := 4) g dX12_works_93 rfl ?_
    refine S_iconst g dX12_works_95 ⟨by decide, by decide⟩ ?_
    refine S_icmp_ne (tgt := 110) g dX12_works_96 (by decide) ?_ ?_
    · refine S_aload_n (kk := 0) g dX12_works_110 rfl rfl ?_
      refine S_geti g dX12_works_111 fl_Mod_301 (at_143 hw) (Or.inl rfl) ?_
      refine S_iload (kk := 4) g dX12_works_114 rfl ?_
      refine S_ishr g dX12_works_116 ?_
      refine S_iconst g dX12_works_117 ⟨by decide, by decide⟩ ?_
      refine S_iand g dX12_works_118 ?_
      refine S_iconst g dX12_works_119 ⟨by decide, by decide⟩ ?_
      refine S_icmp_ne (tgt := 129) g dX12_works_120 (by decide) ?_ ?_
      · refine S_lconst (x := 0) g dX12_works_129 ⟨by decide, by decide⟩ rfl ?_
        exact sX12_works_p130 hw g self2 hs2 self72 hs72 _ _ _ _ _ _ _ _
      · refine S_ldc2 g dX12_works_123 ⟨by decide, by decide⟩ k_Mod_281 ?_
        refine S_goto (tgt := 130) g dX12_works_126 (by decide) ?_
        exact sX12_works_p130 hw g self2 hs2 self72 hs72 _ _ _ _ _ _ _ _
    · refine S_aload_n (kk := 0) g dX12_works_99 rfl rfl ?_
      refine S_iload_n (kk := 1) g dX12_works_100 rfl rfl ?_
      refine S_iload_n (kk := 3) g dX12_works_101 rfl rfl ?_
      refine S_iload (kk := 5) g dX12_works_102 rfl ?_
      refine S_callVj (As := [vI l1, vI l3, vI l5]) g dX12_works_104 (sX12_worked hw _ _ _ _) rfl (at_143 hw) rfl im_X12_worked se_X12_worked cw_X12_worked ml_Mod_297 ini_Mod nd_X12_worked ⟨by decide, by decide⟩ (Nat.le_of_ble_eq_true rfl) (fun r3 h4 => ?_)
      refine S_goto (tgt := 130) g dX12_works_107 (by decide) ?_
      exact sX12_works_p130 hw g self2 hs2 self72 hs72 _ _ _ _ _ _ _ _

theorem sX12_works_p69 {Γ : Cx} {w : Wd} (hw : okM w) (g : Gd Γ cX12_works 6 "GatePatchModel" (Option.none : Option Jvm.ClassFile.FieldType) (rmd 3))  (self2 : Int → Int → Hp → OR) (hs2 : ∀ (x0 x1 : Int) (h : Hp), Sim Γ w 3 (self2 x0 x1 h) h 2 [(0, vP 143), (1, vI x0), (2, vI x1)] []) (l1 l2 l3 l4 : Int) (h : Hp) : Sim Γ w 3 (XX12_works_p69 self2 l1 l2 l3 l4  h) h 69 [(0, vP 143), (1, vI l1), (2, vI l2), (3, vI l3), (4, vI l4)] [] := by
  unfold XX12_works_p69
  refine S_iconst g dX12_works_69 ⟨by decide, by decide⟩ ?_
  refine S_istore g dX12_works_70 (by decide) rfl ?_
  refine S_sub g [1, 2, 3, 4, 5, 0] rfl ?_
  exact sX12_works_L72 hw g self2 hs2 _ _ _ _ _ _

theorem sX12_works_p61 {Γ : Cx} {w : Wd} (hw : okM w) (g : Gd Γ cX12_works 6 "GatePatchModel" (Option.none : Option Jvm.ClassFile.FieldType) (rmd 3))  (self2 : Int → Int → Hp → OR) (hs2 : ∀ (x0 x1 : Int) (h : Hp), Sim Γ w 3 (self2 x0 x1 h) h 2 [(0, vP 143), (1, vI x0), (2, vI x1)] []) (self30 : Int → Int → Int → Int → Int → Hp → OR) (hs30 : ∀ (x0 x1 x2 x3 x4 : Int) (h : Hp), Sim Γ w 3 (self30 x0 x1 x2 x3 x4 h) h 30 [(0, vP 143), (1, vI x0), (2, vI x1), (3, vI x2), (4, vI x3), (5, vI x4)] []) (l1 l2 l3 l5 : Int) (s0 : Int) (h : Hp) : Sim Γ w 3 (XX12_works_p61 self2 self30 l1 l2 l3 l5 s0 h) h 61 [(0, vP 143), (1, vI l1), (2, vI l2), (3, vI l3), (5, vI l5)] [vI s0] := by
  unfold XX12_works_p61
  refine S_istore g dX12_works_61 (by decide) rfl ?_
  refine S_iinc (kk := 5) g dX12_works_63 rfl (by decide) rfl ?_
  refine S_goto (tgt := 30) g dX12_works_66 (by decide) ?_
  refine S_sub g [2, 3, 4, 5, 1, 0] rfl ?_
  exact hs30 _ _ _ _ _ _

theorem sX12_works_L30 {Γ : Cx} {w : Wd} (hw : okM w) (g : Gd Γ cX12_works 6 "GatePatchModel" (Option.none : Option Jvm.ClassFile.FieldType) (rmd 3))  (self2 : Int → Int → Hp → OR) (hs2 : ∀ (x0 x1 : Int) (h : Hp), Sim Γ w 3 (self2 x0 x1 h) h 2 [(0, vP 143), (1, vI x0), (2, vI x1)] []) : ∀ (l1 l2 l3 l4 l5 : Int) (h : Hp), Sim Γ w 3 (XX12_works_L30 self2 l1 l2 l3 l4 l5 h) h 30 [(0, vP 143), (1, vI l1), (2, vI l2), (3, vI l3), (4, vI l4), (5, vI l5)] [] := by
  refine S_lup5 (fun l1 l2 l3 l4 l5 => [(0, vP 143), (1, vI l1), (2, vI l2), (3, vI l3), (4, vI l4), (5, vI l5)]) (fun self30 hs30 l1 l2 l3 l4 l5 h => ?_) FU
  unfold XX12_works_b30
  refine S_iload (kk := 5) g dX12_works_30 rfl ?_
  refine S_aload_n (kk := 0) g dX12_works_32 rfl rfl ?_
  refine S_geti g dX12_works_33 fl_Mod_294 (at_143 hw) (Or.inl rfl) ?_
  refine S_icmp_ge (tgt := 69) g dX12_works_36 (by decide) ?_ ?_
  · refine S_sub g [0, 1, 2, 3, 4] rfl ?_
    exact sX12_works_p69 hw g self2 hs2 _ _ _ _ _
  · refine S_iload_n (kk := 1) g dX12_works_39 rfl rfl ?_
    refine S_if_ne (tgt := 69) g dX12_works_40 (by decide) ?_ ?_
    · refine S_sub g [0, 1, 2, 3, 4] rfl ?_
      exact sX12_works_p69 hw g self2 hs2 _ _ _ _ _
    · refine S_aload_n (kk := 0) g dX12_works_43 rfl rfl ?_
      refine S_getr g dX12_works_44 fl_Mod_160 (at_143 hw) rfl (rc_143_62 hw) ?_
      refine S_iload (kk := 5) g dX12_works_47 rfl ?_
      refine S_iaload g dX12_works_49 (at_189 hw) ?_
      refine S_iload_n (kk := 3) g dX12_works_50 rfl rfl ?_
      refine S_icmp_ne (tgt := 59) g dX12_works_51 (by decide) ?_ ?_
      · refine S_iload (kk := 4) g dX12_works_59 rfl ?_
        refine S_sub g [0, 1, 2, 3, 5] rfl ?_
        exact sX12_works_p61 hw g self2 hs2 self30 hs30 _ _ _ _ _ _
      · refine S_iload (kk := 5) g dX12_works_54 rfl ?_
        refine S_goto (tgt := 61) g dX12_works_56 (by decide) ?_
        refine S_sub g [0, 1, 2, 3, 5] rfl ?_
        exact sX12_works_p61 hw g self2 hs2 self30 hs30 _ _ _ _ _ _

theorem sX12_works_L2 {Γ : Cx} {w : Wd} (hw : okM w) (g : Gd Γ cX12_works 6 "GatePatchModel" (Option.none : Option Jvm.ClassFile.FieldType) (rmd 3))   : ∀ (l1 l2 : Int) (h : Hp), Sim Γ w 3 (XX12_works_L2  l1 l2 h) h 2 [(0, vP 143), (1, vI l1), (2, vI l2)] [] := by
  refine S_lup2 (fun l1 l2 => [(0, vP 143), (1, vI l1), (2, vI l2)]) (fun self2 hs2 l1 l2 h => ?_) FU
  unfold XX12_works_b2
  refine S_iload_n (kk := 2) g dX12_works_2 rfl rfl ?_
  refine S_aload_n (kk := 0) g dX12_works_3 rfl rfl ?_
  refine S_getr g dX12_works_4 fl_Mod_16 (at_143 hw) rfl (rc_143_4 hw) ?_
  refine S_iload_n (kk := 1) g dX12_works_7 rfl rfl ?_
  refine S_iaload g dX12_works_8 (at_144 hw) ?_
  refine S_icmp_ge (tgt := 143) g dX12_works_9 (by decide) ?_ ?_
  · exact S_return g dX12_works_143 rfl
  · refine S_aload_n (kk := 0) g dX12_works_12 rfl rfl ?_
    refine S_getr g dX12_works_13 fl_Mod_151 (at_143 hw) rfl (rc_143_59 hw) ?_
    refine S_bipush g dX12_works_16 ⟨by decide, by decide⟩ rfl ?_
    refine S_iload_n (kk := 1) g dX12_works_18 rfl rfl ?_
    refine S_imul g dX12_works_19 ?_
    refine S_iload_n (kk := 2) g dX12_works_20 rfl rfl ?_
    refine S_iadd g dX12_works_21 ?_
    refine S_iaload g dX12_works_22 (at_186 hw) ?_
    refine S_nmI (fun v1 => ?_)
    refine S_istore_n g dX12_works_23 rfl (by decide) rfl ?_
    refine S_iconst g dX12_works_24 ⟨by decide, by decide⟩ ?_
    refine S_istore g dX12_works_25 (by decide) rfl ?_
    refine S_iconst g dX12_works_27 ⟨by decide, by decide⟩ ?_
    refine S_istore g dX12_works_28 (by decide) rfl ?_
    refine S_sub g [3, 4, 5, 2, 1, 0] rfl ?_
    exact sX12_works_L30 hw g self2 hs2 _ _ _ _ _ _

theorem sX12_works {G : GG} {w : Wd} (hw : okM w) (x0 : Int) (h : Hp) : SC G w yX12_works (Cond.code yX12_works cX12_works 6 (Option.none : Option Jvm.ClassFile.FieldType)) 3 3 [vP 143, vI x0] (XX12_works x0 h) h := by
  refine SC_of (own := "GatePatchModel") plain_Mod rfl (Nat.le_of_ble_eq_true rfl) (fun Γ hG g => ?_)
  subst hG
  show Sim Γ w 3 _ h 0 [(0, vP 143), (1, vI x0)] []
  unfold XX12_works
  refine S_iconst g dX12_works_0 ⟨by decide, by decide⟩ ?_
  refine S_istore_n g dX12_works_1 rfl (by decide) rfl ?_
  refine S_sub g [1, 2, 0] rfl ?_
  exact sX12_works_L2 hw g _ _ _

def XX12_knows (x0 : Int) (h : Hp) : OR :=
  hm (wr h 143 63 0) (fun h1 => cal (XX12_begins x0 h1) (fun r2 h3 => cal (XX12_works x0 h3) (fun r4 h5 => some (0, h5))))
theorem sX12_knows {G : GG} {w : Wd} (hw : okM w) (x0 : Int) (h : Hp) : SC G w yX12_knows (Cond.code yX12_knows cX12_knows 2 (Option.none : Option Jvm.ClassFile.FieldType)) 5 3 [vP 143, vI x0] (XX12_knows x0 h) h := by
  refine SC_of (own := "GatePatchModel") plain_Mod rfl (Nat.le_of_ble_eq_true rfl) (fun Γ hG g => ?_)
  subst hG
  show Sim Γ w 3 _ h 0 [(0, vP 143), (1, vI x0)] []
  unfold XX12_knows
  refine S_aload_n (kk := 0) g dX12_knows_0 rfl rfl ?_
  refine S_iconst g dX12_knows_1 ⟨by decide, by decide⟩ ?_
  refine S_puti g dX12_knows_2 fp_Mod_294 (at_143 hw) rfl (fun h1 => ?_)
  refine S_aload_n (kk := 0) g dX12_knows_5 rfl rfl ?_
  refine S_iload_n (kk := 1) g dX12_knows_6 rfl rfl ?_
  refine S_callVv (As := [vI x0]) g dX12_knows_7 (sX12_begins hw _ _) rfl (at_143 hw) rfl im_X12_begins se_X12_begins cw_X12_begins ml_Mod_304 ini_Mod nd_X12_begins ⟨by decide, by decide⟩ (Nat.le_of_ble_eq_true rfl) (fun r2 h3 => ?_)
  refine S_aload_n (kk := 0) g dX12_knows_10 rfl rfl ?_
  refine S_iload_n (kk := 1) g dX12_knows_11 rfl rfl ?_
  refine S_callVv (As := [vI x0]) g dX12_knows_12 (sX12_works hw _ _) rfl (at_143 hw) rfl im_X12_works se_X12_works cw_X12_works ml_Mod_307 ini_Mod nd_X12_works ⟨by decide, by decide⟩ (Nat.le_of_ble_eq_true rfl) (fun r4 h5 => ?_)
  exact S_return g dX12_knows_15 rfl

def XX12_isAt (x0 : Int) (x1 : Int) (x2 : Int) (h : Hp) : OR :=
  chk (48 * x0) (chk ((48 * x0) + x1) (chk (4 * ((48 * x0) + x1)) (chk (x2.tdiv 64) (chk ((4 * ((48 * x0) + x1)) + (x2.tdiv 64)) (inb ((4 * ((48 * x0) + x1)) + (x2.tdiv 64)) 384 (chk (x2 - x2.tdiv 64 * 64) (if (jcmp (jand (jshr (h 188 ((4 * ((48 * x0) + x1)) + (x2.tdiv 64)).toNat) (x2 - x2.tdiv 64 * 64)) 1) 1) = 0 then zb 1 (some (1, h)) else zb 0 (some (0, h)))))))))
theorem sX12_isAt {G : GG} {w : Wd} (hw : okM w) (x0 : Int) (x1 : Int) (x2 : Int) (h : Hp) : SC G w yX12_isAt (Cond.code yX12_isAt cX12_isAt 4 (Option.some Jvm.ClassFile.FieldType.boolean)) 1 0 [vP 143, vI x0, vI x1, vI x2] (XX12_isAt x0 x1 x2 h) h := by
  refine SC_of (own := "GatePatchModel") plain_Mod rfl (Nat.le_of_ble_eq_true rfl) (fun Γ hG g => ?_)
  subst hG
  show Sim Γ w 0 _ h 0 [(0, vP 143), (1, vI x0), (2, vI x1), (3, vI x2)] []
  unfold XX12_isAt
  refine S_aload_n (kk := 0) g dX12_isAt_0 rfl rfl ?_
  refine S_getr g dX12_isAt_1 fl_Mod_157 (at_143 hw) rfl (rc_143_61 hw) ?_
  refine S_iconst g dX12_isAt_4 ⟨by decide, by decide⟩ ?_
  refine S_bipush g dX12_isAt_5 ⟨by decide, by decide⟩ rfl ?_
  refine S_iload_n (kk := 1) g dX12_isAt_7 rfl rfl ?_
  refine S_imul g dX12_isAt_8 ?_
  refine S_iload_n (kk := 2) g dX12_isAt_9 rfl rfl ?_
  refine S_iadd g dX12_isAt_10 ?_
  refine S_imul g dX12_isAt_11 ?_
  refine S_iload_n (kk := 3) g dX12_isAt_12 rfl rfl ?_
  refine S_bipush g dX12_isAt_13 ⟨by decide, by decide⟩ rfl ?_
  refine S_idiv g dX12_isAt_15 (by decide) ?_
  refine S_iadd g dX12_isAt_16 ?_
  refine S_laload g dX12_isAt_17 (at_188 hw) ?_
  refine S_iload_n (kk := 3) g dX12_isAt_18 rfl rfl ?_
  refine S_bipush g dX12_isAt_19 ⟨by decide, by decide⟩ rfl ?_
  refine S_irem g dX12_isAt_21 (by decide) ?_
  refine S_lshr g dX12_isAt_22 ?_
  refine S_lconst (x := 1) g dX12_isAt_23 ⟨by decide, by decide⟩ rfl ?_
  refine S_land g dX12_isAt_24 ?_
  refine S_lconst (x := 1) g dX12_isAt_25 ⟨by decide, by decide⟩ rfl ?_
  refine S_lcmp g dX12_isAt_26 ?_
  refine S_if_ne (tgt := 34) g dX12_isAt_27 (by decide) ?_ ?_
  · refine S_iconst g dX12_isAt_34 ⟨by decide, by decide⟩ ?_
    exact S_zreturn g dX12_isAt_35 rfl
  · refine S_iconst g dX12_isAt_30 ⟨by decide, by decide⟩ ?_
    refine S_goto (tgt := 35) g dX12_isAt_31 (by decide) ?_
    exact S_zreturn g dX12_isAt_35 rfl

def XX12_value (x0 : Int) (x1 : Int) (x2 : Int) (h : Hp) : OR :=
  cal (XX12_isNet x0 h) (fun r1 h2 => if r1 = 0 then some ((-1), h2) else cal (XX12_isWire x0 x1 h2) (fun r3 h4 => if r3 = 0 then some ((-1), h4) else cal (XX12_isCase x2 h4) (fun r5 h6 => if r5 = 0 then some ((-1), h6) else cal (XX12_knows x0 h6) (fun r7 h8 => cal (XX12_isAt x0 x1 x2 h8) (fun r9 h10 => if r9 = 0 then some (0, h10) else some (1, h10))))))
theorem sX12_value {G : GG} {w : Wd} (hw : okM w) (x0 : Int) (x1 : Int) (x2 : Int) (h : Hp) : SC G w yX12_value (Cond.code yX12_value cX12_value 4 (Option.some Jvm.ClassFile.FieldType.int)) 6 0 [vP 143, vI x0, vI x1, vI x2] (XX12_value x0 x1 x2 h) h := by
  refine SC_of (own := "GatePatchModel") plain_Mod rfl (Nat.le_of_ble_eq_true rfl) (fun Γ hG g => ?_)
  subst hG
  show Sim Γ w 0 _ h 0 [(0, vP 143), (1, vI x0), (2, vI x1), (3, vI x2)] []
  unfold XX12_value
  refine S_iload_n (kk := 1) g dX12_value_0 rfl rfl ?_
  refine S_callSi (As := [vI x0]) g dX12_value_1 (sX12_isNet hw _ _) rfl st_X12_isNet cw_X12_isNet ml_Mod_249 ini_Mod nd_X12_isNet ⟨by decide, by decide⟩ (Nat.le_of_ble_eq_true rfl) (fun r1 h2 => ?_)
  refine S_if_eq (tgt := 24) g dX12_value_4 (by decide) ?_ ?_
  · refine S_iconst g dX12_value_24 ⟨by decide, by decide⟩ ?_
    exact S_ireturn g dX12_value_25 rfl
  · refine S_aload_n (kk := 0) g dX12_value_7 rfl rfl ?_
    refine S_iload_n (kk := 1) g dX12_value_8 rfl rfl ?_
    refine S_iload_n (kk := 2) g dX12_value_9 rfl rfl ?_
    refine S_callVi (As := [vI x0, vI x1]) g dX12_value_10 (sX12_isWire hw _ _ _) rfl (at_143 hw) rfl im_X12_isWire se_X12_isWire cw_X12_isWire ml_Mod_245 ini_Mod nd_X12_isWire ⟨by decide, by decide⟩ (Nat.le_of_ble_eq_true rfl) (fun r3 h4 => ?_)
    refine S_if_eq (tgt := 24) g dX12_value_13 (by decide) ?_ ?_
    · refine S_iconst g dX12_value_24 ⟨by decide, by decide⟩ ?_
      exact S_ireturn g dX12_value_25 rfl
    · refine S_aload_n (kk := 0) g dX12_value_16 rfl rfl ?_
      refine S_iload_n (kk := 3) g dX12_value_17 rfl rfl ?_
      refine S_callVi (As := [vI x2]) g dX12_value_18 (sX12_isCase hw _ _) rfl (at_143 hw) rfl im_X12_isCase se_X12_isCase cw_X12_isCase ml_Mod_274 ini_Mod nd_X12_isCase ⟨by decide, by decide⟩ (Nat.le_of_ble_eq_true rfl) (fun r5 h6 => ?_)
      refine S_if_ne (tgt := 26) g dX12_value_21 (by decide) ?_ ?_
      · refine S_aload_n (kk := 0) g dX12_value_26 rfl rfl ?_
        refine S_iload_n (kk := 1) g dX12_value_27 rfl rfl ?_
        refine S_callVv (As := [vI x0]) g dX12_value_28 (sX12_knows hw _ _) rfl (at_143 hw) rfl im_X12_knows se_X12_knows cw_X12_knows ml_Mod_310 ini_Mod nd_X12_knows ⟨by decide, by decide⟩ (Nat.le_of_ble_eq_true rfl) (fun r7 h8 => ?_)
        refine S_aload_n (kk := 0) g dX12_value_31 rfl rfl ?_
        refine S_iload_n (kk := 1) g dX12_value_32 rfl rfl ?_
        refine S_iload_n (kk := 2) g dX12_value_33 rfl rfl ?_
        refine S_iload_n (kk := 3) g dX12_value_34 rfl rfl ?_
        refine S_callVi (As := [vI x0, vI x1, vI x2]) g dX12_value_35 (sX12_isAt hw _ _ _ _) rfl (at_143 hw) rfl im_X12_isAt se_X12_isAt cw_X12_isAt ml_Mod_313 ini_Mod nd_X12_isAt ⟨by decide, by decide⟩ (Nat.le_of_ble_eq_true rfl) (fun r9 h10 => ?_)
        refine S_if_eq (tgt := 45) g dX12_value_38 (by decide) ?_ ?_
        · refine S_iconst g dX12_value_45 ⟨by decide, by decide⟩ ?_
          exact S_ireturn g dX12_value_46 rfl
        · refine S_iconst g dX12_value_41 ⟨by decide, by decide⟩ ?_
          refine S_goto (tgt := 46) g dX12_value_42 (by decide) ?_
          exact S_ireturn g dX12_value_46 rfl
      · refine S_iconst g dX12_value_24 ⟨by decide, by decide⟩ ?_
        exact S_ireturn g dX12_value_25 rfl

def XX12_row_p30   (h : Hp) : OR :=
  hm (wr h 143 0 1) (fun h4 => some (0, h4))
def XX12_row_p96  (self51 : Int → Int → Int → Int → Int → Hp → OR) (l1 l2 l3 l6 : Int) (s0 s1 : Int) (h : Hp) : OR :=
  nm (jor s0 s1) (fun v16 => chk (l6 + 1) (self51 l1 l2 l3 v16 (l6 + 1) h))
def XX12_row_b51   (self51 : Int → Int → Int → Int → Int → Hp → OR) (l1 l2 l3 l4 l6 : Int) (h : Hp) : OR :=
  chk (64 * l3) (chk ((64 * l3) + 64) (if ((64 * l3) + 64) ≤ l6 then some (l4, h) else cal (XX12_cases h) (fun r12 h13 => if r12 ≤ l6 then some (l4, h13) else cal (XX12_isAt l1 l2 l6 h13) (fun r14 h15 => if r14 = 0 then XX12_row_p96 self51 l1 l2 l3 l6 l4 0 h15 else chk (l6 - l6.tdiv 64 * 64) (XX12_row_p96 self51 l1 l2 l3 l6 l4 (jshl 1 (l6 - l6.tdiv 64 * 64)) h15)))))
def XX12_row_L51   (l1 l2 l3 l4 l6 : Int) (h : Hp) : OR := lup5 (XX12_row_b51 ) FU l1 l2 l3 l4 l6 h
def XX12_row (x0 : Int) (x1 : Int) (x2 : Int) (h : Hp) : OR :=
  hm (wr h 143 0 0) (fun h1 => cal (XX12_isNet x0 h1) (fun r2 h3 => if r2 = 0 then XX12_row_p30 h3 else cal (XX12_isWire x0 x1 h3) (fun r5 h6 => if r5 = 0 then XX12_row_p30 h6 else cal (XX12_in x2 0 3 h6) (fun r7 h8 => if r7 = 0 then XX12_row_p30 h8 else cal (XX12_knows x0 h8) (fun r9 h10 => chk (64 * x2) (nm (64 * x2) (fun v11 => XX12_row_L51 x0 x1 x2 0 v11 h10)))))))
theorem sX12_row_p30 {Γ : Cx} {w : Wd} (hw : okM w) (g : Gd Γ cX12_row 7 "GatePatchModel" (Option.some Jvm.ClassFile.FieldType.long) (rmd 6))   (h : Hp) : Sim Γ w 1 (XX12_row_p30    h) h 30 [(0, vP 143)] [] := by
  unfold XX12_row_p30
  refine S_aload_n (kk := 0) g dX12_row_30 rfl rfl ?_
  refine S_iconst g dX12_row_31 ⟨by decide, by decide⟩ ?_
  refine S_puti g dX12_row_32 fp_Mod_202 (at_143 hw) rfl (fun h4 => ?_)
  refine S_lconst (x := 0) g dX12_row_35 ⟨by decide, by decide⟩ rfl ?_
  exact S_lreturn g dX12_row_36 rfl

theorem sX12_row_p96 {Γ : Cx} {w : Wd} (hw : okM w) (g : Gd Γ cX12_row 7 "GatePatchModel" (Option.some Jvm.ClassFile.FieldType.long) (rmd 6))  (self51 : Int → Int → Int → Int → Int → Hp → OR) (hs51 : ∀ (x0 x1 x2 x3 x4 : Int) (h : Hp), Sim Γ w 1 (self51 x0 x1 x2 x3 x4 h) h 51 [(0, vP 143), (1, vI x0), (2, vI x1), (3, vI x2), (4, vJ x3), (6, vI x4)] []) (l1 l2 l3 l6 : Int) (s0 s1 : Int) (h : Hp) : Sim Γ w 1 (XX12_row_p96 self51 l1 l2 l3 l6 s0 s1 h) h 96 [(0, vP 143), (1, vI l1), (2, vI l2), (3, vI l3), (6, vI l6)] [vJ s1, vJ s0] := by
  unfold XX12_row_p96
  refine S_lor g dX12_row_96 ?_
  refine S_nmJ (fun v16 => ?_)
  refine S_lstore g dX12_row_97 (by decide) rfl ?_
  refine S_iinc (kk := 5) g dX12_row_99 rfl (by decide) rfl ?_
  refine S_goto (tgt := 51) g dX12_row_102 (by decide) ?_
  refine S_sub g [2, 3, 4, 5, 1, 0] rfl ?_
  exact hs51 _ _ _ _ _ _

theorem sX12_row_L51 {Γ : Cx} {w : Wd} (hw : okM w) (g : Gd Γ cX12_row 7 "GatePatchModel" (Option.some Jvm.ClassFile.FieldType.long) (rmd 6))   : ∀ (l1 l2 l3 l4 l6 : Int) (h : Hp), Sim Γ w 1 (XX12_row_L51  l1 l2 l3 l4 l6 h) h 51 [(0, vP 143), (1, vI l1), (2, vI l2), (3, vI l3), (4, vJ l4), (6, vI l6)] [] := by
  refine S_lup5 (fun l1 l2 l3 l4 l6 => [(0, vP 143), (1, vI l1), (2, vI l2), (3, vI l3), (4, vJ l4), (6, vI l6)]) (fun self51 hs51 l1 l2 l3 l4 l6 h => ?_) FU
  unfold XX12_row_b51
  refine S_iload (kk := 5) g dX12_row_51 rfl ?_
  refine S_bipush g dX12_row_53 ⟨by decide, by decide⟩ rfl ?_
  refine S_iload_n (kk := 3) g dX12_row_55 rfl rfl ?_
  refine S_imul g dX12_row_56 ?_
  refine S_bipush g dX12_row_57 ⟨by decide, by decide⟩ rfl ?_
  refine S_iadd g dX12_row_59 ?_
  refine S_icmp_ge (tgt := 105) g dX12_row_60 (by decide) ?_ ?_
  · refine S_lload (kk := 4) g dX12_row_105 rfl ?_
    exact S_lreturn g dX12_row_107 rfl
  · refine S_iload (kk := 5) g dX12_row_63 rfl ?_
    refine S_aload_n (kk := 0) g dX12_row_65 rfl rfl ?_
    refine S_callVi (As := []) g dX12_row_66 (sX12_cases hw  _) rfl (at_143 hw) rfl im_X12_cases se_X12_cases cw_X12_cases ml_Mod_242 ini_Mod nd_X12_cases ⟨by decide, by decide⟩ (Nat.le_of_ble_eq_true rfl) (fun r12 h13 => ?_)
    refine S_icmp_ge (tgt := 105) g dX12_row_69 (by decide) ?_ ?_
    · refine S_lload (kk := 4) g dX12_row_105 rfl ?_
      exact S_lreturn g dX12_row_107 rfl
    · refine S_lload (kk := 4) g dX12_row_72 rfl ?_
      refine S_aload_n (kk := 0) g dX12_row_74 rfl rfl ?_
      refine S_iload_n (kk := 1) g dX12_row_75 rfl rfl ?_
      refine S_iload_n (kk := 2) g dX12_row_76 rfl rfl ?_
      refine S_iload (kk := 5) g dX12_row_77 rfl ?_
      refine S_callVi (As := [vI l1, vI l2, vI l6]) g dX12_row_79 (sX12_isAt hw _ _ _ _) rfl (at_143 hw) rfl im_X12_isAt se_X12_isAt cw_X12_isAt ml_Mod_313 ini_Mod nd_X12_isAt ⟨by decide, by decide⟩ (Nat.le_of_ble_eq_true rfl) (fun r14 h15 => ?_)
      refine S_if_eq (tgt := 95) g dX12_row_82 (by decide) ?_ ?_
      · refine S_lconst (x := 0) g dX12_row_95 ⟨by decide, by decide⟩ rfl ?_
        refine S_sub g [0, 1, 2, 3, 5] rfl ?_
        exact sX12_row_p96 hw g self51 hs51 _ _ _ _ _ _ _
      · refine S_lconst (x := 1) g dX12_row_85 ⟨by decide, by decide⟩ rfl ?_
        refine S_iload (kk := 5) g dX12_row_86 rfl ?_
        refine S_bipush g dX12_row_88 ⟨by decide, by decide⟩ rfl ?_
        refine S_irem g dX12_row_90 (by decide) ?_
        refine S_lshl g dX12_row_91 ?_
        refine S_goto (tgt := 96) g dX12_row_92 (by decide) ?_
        refine S_sub g [0, 1, 2, 3, 5] rfl ?_
        exact sX12_row_p96 hw g self51 hs51 _ _ _ _ _ _ _

theorem sX12_row {G : GG} {w : Wd} (hw : okM w) (x0 : Int) (x1 : Int) (x2 : Int) (h : Hp) : SC G w yX12_row (Cond.code yX12_row cX12_row 7 (Option.some Jvm.ClassFile.FieldType.long)) 6 1 [vP 143, vI x0, vI x1, vI x2] (XX12_row x0 x1 x2 h) h := by
  refine SC_of (own := "GatePatchModel") plain_Mod rfl (Nat.le_of_ble_eq_true rfl) (fun Γ hG g => ?_)
  subst hG
  show Sim Γ w 1 _ h 0 [(0, vP 143), (1, vI x0), (2, vI x1), (3, vI x2)] []
  unfold XX12_row
  refine S_aload_n (kk := 0) g dX12_row_0 rfl rfl ?_
  refine S_iconst g dX12_row_1 ⟨by decide, by decide⟩ ?_
  refine S_puti g dX12_row_2 fp_Mod_202 (at_143 hw) rfl (fun h1 => ?_)
  refine S_iload_n (kk := 1) g dX12_row_5 rfl rfl ?_
  refine S_callSi (As := [vI x0]) g dX12_row_6 (sX12_isNet hw _ _) rfl st_X12_isNet cw_X12_isNet ml_Mod_249 ini_Mod nd_X12_isNet ⟨by decide, by decide⟩ (Nat.le_of_ble_eq_true rfl) (fun r2 h3 => ?_)
  refine S_if_eq (tgt := 30) g dX12_row_9 (by decide) ?_ ?_
  · refine S_sub g [0] rfl ?_
    exact sX12_row_p30 hw g _
  · refine S_aload_n (kk := 0) g dX12_row_12 rfl rfl ?_
    refine S_iload_n (kk := 1) g dX12_row_13 rfl rfl ?_
    refine S_iload_n (kk := 2) g dX12_row_14 rfl rfl ?_
    refine S_callVi (As := [vI x0, vI x1]) g dX12_row_15 (sX12_isWire hw _ _ _) rfl (at_143 hw) rfl im_X12_isWire se_X12_isWire cw_X12_isWire ml_Mod_245 ini_Mod nd_X12_isWire ⟨by decide, by decide⟩ (Nat.le_of_ble_eq_true rfl) (fun r5 h6 => ?_)
    refine S_if_eq (tgt := 30) g dX12_row_18 (by decide) ?_ ?_
    · refine S_sub g [0] rfl ?_
      exact sX12_row_p30 hw g _
    · refine S_iload_n (kk := 3) g dX12_row_21 rfl rfl ?_
      refine S_iconst g dX12_row_22 ⟨by decide, by decide⟩ ?_
      refine S_iconst g dX12_row_23 ⟨by decide, by decide⟩ ?_
      refine S_callSi (As := [vI x2, vI 0, vI 3]) g dX12_row_24 (sX12_in hw _ _ _ _) rfl st_X12_in cw_X12_in ml_Mod_212 ini_Mod nd_X12_in ⟨by decide, by decide⟩ (Nat.le_of_ble_eq_true rfl) (fun r7 h8 => ?_)
      refine S_if_ne (tgt := 37) g dX12_row_27 (by decide) ?_ ?_
      · refine S_aload_n (kk := 0) g dX12_row_37 rfl rfl ?_
        refine S_iload_n (kk := 1) g dX12_row_38 rfl rfl ?_
        refine S_callVv (As := [vI x0]) g dX12_row_39 (sX12_knows hw _ _) rfl (at_143 hw) rfl im_X12_knows se_X12_knows cw_X12_knows ml_Mod_310 ini_Mod nd_X12_knows ⟨by decide, by decide⟩ (Nat.le_of_ble_eq_true rfl) (fun r9 h10 => ?_)
        refine S_lconst (x := 0) g dX12_row_42 ⟨by decide, by decide⟩ rfl ?_
        refine S_lstore g dX12_row_43 (by decide) rfl ?_
        refine S_bipush g dX12_row_45 ⟨by decide, by decide⟩ rfl ?_
        refine S_iload_n (kk := 4) g dX12_row_47 rfl rfl ?_
        refine S_imul g dX12_row_48 ?_
        refine S_nmI (fun v11 => ?_)
        refine S_istore g dX12_row_49 (by decide) rfl ?_
        refine S_sub g [2, 3, 4, 5, 1, 0] rfl ?_
        exact sX12_row_L51 hw g _ _ _ _ _ _
      · refine S_sub g [0] rfl ?_
        exact sX12_row_p30 hw g _

def XX12_observed  (h : Hp) : OR :=
  chk ((h 143 3) + (h 143 2)) (some (((h 143 3) + (h 143 2)), h))
theorem sX12_observed {G : GG} {w : Wd} (hw : okM w)  (h : Hp) : SC G w yX12_observed (Cond.code yX12_observed cX12_observed 1 (Option.some Jvm.ClassFile.FieldType.int)) 1 0 [vP 143] (XX12_observed  h) h := by
  refine SC_of (own := "GatePatchModel") plain_Mod rfl (Nat.le_of_ble_eq_true rfl) (fun Γ hG g => ?_)
  subst hG
  show Sim Γ w 0 _ h 0 [(0, vP 143)] []
  unfold XX12_observed
  refine S_aload_n (kk := 0) g dX12_observed_0 rfl rfl ?_
  refine S_geti g dX12_observed_1 fl_Mod_13 (at_143 hw) (Or.inl rfl) ?_
  refine S_aload_n (kk := 0) g dX12_observed_4 rfl rfl ?_
  refine S_geti g dX12_observed_5 fl_Mod_205 (at_143 hw) (Or.inl rfl) ?_
  refine S_iadd g dX12_observed_8 ?_
  exact S_ireturn g dX12_observed_9 rfl

def XX12_seen (x0 : Int) (x1 : Int) (h : Hp) : OR :=
  if (h 143 3) ≤ x1 then chk (2 * x0) (chk ((2 * x0) + x1) (chk (((2 * x0) + x1) - (h 143 3)) (inb (((2 * x0) + x1) - (h 143 3)) 4 (some ((h 148 (((2 * x0) + x1) - (h 143 3)).toNat), h))))) else chk (4 * x0) (chk ((4 * x0) + x1) (inb ((4 * x0) + x1) 8 (some ((h 147 ((4 * x0) + x1).toNat), h))))
theorem sX12_seen {G : GG} {w : Wd} (hw : okM w) (x0 : Int) (x1 : Int) (h : Hp) : SC G w yX12_seen (Cond.code yX12_seen cX12_seen 3 (Option.some Jvm.ClassFile.FieldType.int)) 1 0 [vP 143, vI x0, vI x1] (XX12_seen x0 x1 h) h := by
  refine SC_of (own := "GatePatchModel") plain_Mod rfl (Nat.le_of_ble_eq_true rfl) (fun Γ hG g => ?_)
  subst hG
  show Sim Γ w 0 _ h 0 [(0, vP 143), (1, vI x0), (2, vI x1)] []
  unfold XX12_seen
  refine S_iload_n (kk := 2) g dX12_seen_0 rfl rfl ?_
  refine S_aload_n (kk := 0) g dX12_seen_1 rfl rfl ?_
  refine S_geti g dX12_seen_2 fl_Mod_13 (at_143 hw) (Or.inl rfl) ?_
  refine S_icmp_ge (tgt := 21) g dX12_seen_5 (by decide) ?_ ?_
  · refine S_aload_n (kk := 0) g dX12_seen_21 rfl rfl ?_
    refine S_getr g dX12_seen_22 fl_Mod_29 (at_143 hw) rfl (rc_143_8 hw) ?_
    refine S_iconst g dX12_seen_25 ⟨by decide, by decide⟩ ?_
    refine S_iload_n (kk := 1) g dX12_seen_26 rfl rfl ?_
    refine S_imul g dX12_seen_27 ?_
    refine S_iload_n (kk := 2) g dX12_seen_28 rfl rfl ?_
    refine S_iadd g dX12_seen_29 ?_
    refine S_aload_n (kk := 0) g dX12_seen_30 rfl rfl ?_
    refine S_geti g dX12_seen_31 fl_Mod_13 (at_143 hw) (Or.inl rfl) ?_
    refine S_isub g dX12_seen_34 ?_
    refine S_iaload g dX12_seen_35 (at_148 hw) ?_
    exact S_ireturn g dX12_seen_36 rfl
  · refine S_aload_n (kk := 0) g dX12_seen_8 rfl rfl ?_
    refine S_getr g dX12_seen_9 fl_Mod_26 (at_143 hw) rfl (rc_143_7 hw) ?_
    refine S_iconst g dX12_seen_12 ⟨by decide, by decide⟩ ?_
    refine S_iload_n (kk := 1) g dX12_seen_13 rfl rfl ?_
    refine S_imul g dX12_seen_14 ?_
    refine S_iload_n (kk := 2) g dX12_seen_15 rfl rfl ?_
    refine S_iadd g dX12_seen_16 ?_
    refine S_iaload g dX12_seen_17 (at_147 hw) ?_
    refine S_goto (tgt := 36) g dX12_seen_18 (by decide) ?_
    exact S_ireturn g dX12_seen_36 rfl

def XX12_areOne_p48  (self4 : Int → Int → Int → Hp → OR) (l1 l3 : Int) (s0 : Int) (h : Hp) : OR :=
  chk (l3 + 1) (self4 l1 s0 (l3 + 1) h)
def XX12_areOne_p47  (self4 : Int → Int → Int → Hp → OR) (l1 l3 : Int) (h : Hp) : OR :=
  XX12_areOne_p48 self4 l1 l3 0 h
def XX12_areOne_b4   (self4 : Int → Int → Int → Hp → OR) (l1 l2 l3 : Int) (h : Hp) : OR :=
  cal (XX12_observed h) (fun r1 h2 => if r1 ≤ l3 then zb l2 (some (l2, h2)) else if l2 = 0 then XX12_areOne_p47 self4 l1 l3 h2 else cal (XX12_seen 0 l3 h2) (fun r3 h4 => cal (XX12_isAt 0 r3 l1 h4) (fun r5 h6 => cal (XX12_seen 1 l3 h6) (fun r7 h8 => cal (XX12_isAt 1 r7 l1 h8) (fun r9 h10 => if r5 = r9 then XX12_areOne_p48 self4 l1 l3 1 h10 else XX12_areOne_p47 self4 l1 l3 h10)))))
def XX12_areOne_L4   (l1 l2 l3 : Int) (h : Hp) : OR := lup3 (XX12_areOne_b4 ) FU l1 l2 l3 h
def XX12_areOne (x0 : Int) (h : Hp) : OR :=
  XX12_areOne_L4 x0 1 0 h
theorem sX12_areOne_p48 {Γ : Cx} {w : Wd} (hw : okM w) (g : Gd Γ cX12_areOne 4 "GatePatchModel" (Option.some Jvm.ClassFile.FieldType.boolean) (rmd 2))  (self4 : Int → Int → Int → Hp → OR) (hs4 : ∀ (x0 x1 x2 : Int) (h : Hp), Sim Γ w 0 (self4 x0 x1 x2 h) h 4 [(0, vP 143), (1, vI x0), (2, vI x1), (3, vI x2)] []) (l1 l3 : Int) (s0 : Int) (h : Hp) : Sim Γ w 0 (XX12_areOne_p48 self4 l1 l3 s0 h) h 48 [(0, vP 143), (1, vI l1), (3, vI l3)] [vI s0] := by
  unfold XX12_areOne_p48
  refine S_istore_n g dX12_areOne_48 rfl (by decide) rfl ?_
  refine S_iinc (kk := 3) g dX12_areOne_49 rfl (by decide) rfl ?_
  refine S_goto (tgt := 4) g dX12_areOne_52 (by decide) ?_
  refine S_sub g [2, 3, 1, 0] rfl ?_
  exact hs4 _ _ _ _

theorem sX12_areOne_p47 {Γ : Cx} {w : Wd} (hw : okM w) (g : Gd Γ cX12_areOne 4 "GatePatchModel" (Option.some Jvm.ClassFile.FieldType.boolean) (rmd 2))  (self4 : Int → Int → Int → Hp → OR) (hs4 : ∀ (x0 x1 x2 : Int) (h : Hp), Sim Γ w 0 (self4 x0 x1 x2 h) h 4 [(0, vP 143), (1, vI x0), (2, vI x1), (3, vI x2)] []) (l1 l3 : Int) (h : Hp) : Sim Γ w 0 (XX12_areOne_p47 self4 l1 l3  h) h 47 [(0, vP 143), (1, vI l1), (3, vI l3)] [] := by
  unfold XX12_areOne_p47
  refine S_iconst g dX12_areOne_47 ⟨by decide, by decide⟩ ?_
  exact sX12_areOne_p48 hw g self4 hs4 _ _ _ _

theorem sX12_areOne_L4 {Γ : Cx} {w : Wd} (hw : okM w) (g : Gd Γ cX12_areOne 4 "GatePatchModel" (Option.some Jvm.ClassFile.FieldType.boolean) (rmd 2))   : ∀ (l1 l2 l3 : Int) (h : Hp), Sim Γ w 0 (XX12_areOne_L4  l1 l2 l3 h) h 4 [(0, vP 143), (1, vI l1), (2, vI l2), (3, vI l3)] [] := by
  refine S_lup3 (fun l1 l2 l3 => [(0, vP 143), (1, vI l1), (2, vI l2), (3, vI l3)]) (fun self4 hs4 l1 l2 l3 h => ?_) FU
  unfold XX12_areOne_b4
  refine S_iload_n (kk := 3) g dX12_areOne_4 rfl rfl ?_
  refine S_aload_n (kk := 0) g dX12_areOne_5 rfl rfl ?_
  refine S_callVi (As := []) g dX12_areOne_6 (sX12_observed hw  _) rfl (at_143 hw) rfl im_X12_observed se_X12_observed cw_X12_observed ml_Mod_316 ini_Mod nd_X12_observed ⟨by decide, by decide⟩ (Nat.le_of_ble_eq_true rfl) (fun r1 h2 => ?_)
  refine S_icmp_ge (tgt := 55) g dX12_areOne_9 (by decide) ?_ ?_
  · refine S_iload_n (kk := 2) g dX12_areOne_55 rfl rfl ?_
    exact S_zreturn g dX12_areOne_56 rfl
  · refine S_iload_n (kk := 2) g dX12_areOne_12 rfl rfl ?_
    refine S_if_eq (tgt := 47) g dX12_areOne_13 (by decide) ?_ ?_
    · refine S_sub g [0, 1, 3] rfl ?_
      exact sX12_areOne_p47 hw g self4 hs4 _ _ _
    · refine S_aload_n (kk := 0) g dX12_areOne_16 rfl rfl ?_
      refine S_iconst g dX12_areOne_17 ⟨by decide, by decide⟩ ?_
      refine S_aload_n (kk := 0) g dX12_areOne_18 rfl rfl ?_
      refine S_iconst g dX12_areOne_19 ⟨by decide, by decide⟩ ?_
      refine S_iload_n (kk := 3) g dX12_areOne_20 rfl rfl ?_
      refine S_callVi (As := [vI 0, vI l3]) g dX12_areOne_21 (sX12_seen hw _ _ _) rfl (at_143 hw) rfl im_X12_seen se_X12_seen cw_X12_seen ml_Mod_319 ini_Mod nd_X12_seen ⟨by decide, by decide⟩ (Nat.le_of_ble_eq_true rfl) (fun r3 h4 => ?_)
      refine S_iload_n (kk := 1) g dX12_areOne_24 rfl rfl ?_
      refine S_callVi (As := [vI 0, vI r3, vI l1]) g dX12_areOne_25 (sX12_isAt hw _ _ _ _) rfl (at_143 hw) rfl im_X12_isAt se_X12_isAt cw_X12_isAt ml_Mod_313 ini_Mod nd_X12_isAt ⟨by decide, by decide⟩ (Nat.le_of_ble_eq_true rfl) (fun r5 h6 => ?_)
      refine S_aload_n (kk := 0) g dX12_areOne_28 rfl rfl ?_
      refine S_iconst g dX12_areOne_29 ⟨by decide, by decide⟩ ?_
      refine S_aload_n (kk := 0) g dX12_areOne_30 rfl rfl ?_
      refine S_iconst g dX12_areOne_31 ⟨by decide, by decide⟩ ?_
      refine S_iload_n (kk := 3) g dX12_areOne_32 rfl rfl ?_
      refine S_callVi (As := [vI 1, vI l3]) g dX12_areOne_33 (sX12_seen hw _ _ _) rfl (at_143 hw) rfl im_X12_seen se_X12_seen cw_X12_seen ml_Mod_319 ini_Mod nd_X12_seen ⟨by decide, by decide⟩ (Nat.le_of_ble_eq_true rfl) (fun r7 h8 => ?_)
      refine S_iload_n (kk := 1) g dX12_areOne_36 rfl rfl ?_
      refine S_callVi (As := [vI 1, vI r7, vI l1]) g dX12_areOne_37 (sX12_isAt hw _ _ _ _) rfl (at_143 hw) rfl im_X12_isAt se_X12_isAt cw_X12_isAt ml_Mod_313 ini_Mod nd_X12_isAt ⟨by decide, by decide⟩ (Nat.le_of_ble_eq_true rfl) (fun r9 h10 => ?_)
      refine S_icmp_ne (tgt := 47) g dX12_areOne_40 (by decide) ?_ ?_
      · refine S_sub g [0, 1, 3] rfl ?_
        exact sX12_areOne_p47 hw g self4 hs4 _ _ _
      · refine S_iconst g dX12_areOne_43 ⟨by decide, by decide⟩ ?_
        refine S_goto (tgt := 48) g dX12_areOne_44 (by decide) ?_
        refine S_sub g [0, 1, 3] rfl ?_
        exact sX12_areOne_p48 hw g self4 hs4 _ _ _ _

theorem sX12_areOne {G : GG} {w : Wd} (hw : okM w) (x0 : Int) (h : Hp) : SC G w yX12_areOne (Cond.code yX12_areOne cX12_areOne 4 (Option.some Jvm.ClassFile.FieldType.boolean)) 2 0 [vP 143, vI x0] (XX12_areOne x0 h) h := by
  refine SC_of (own := "GatePatchModel") plain_Mod rfl (Nat.le_of_ble_eq_true rfl) (fun Γ hG g => ?_)
  subst hG
  show Sim Γ w 0 _ h 0 [(0, vP 143), (1, vI x0)] []
  unfold XX12_areOne
  refine S_iconst g dX12_areOne_0 ⟨by decide, by decide⟩ ?_
  refine S_istore_n g dX12_areOne_1 rfl (by decide) rfl ?_
  refine S_iconst g dX12_areOne_2 ⟨by decide, by decide⟩ ?_
  refine S_istore_n g dX12_areOne_3 rfl (by decide) rfl ?_
  refine S_sub g [2, 3, 1, 0] rfl ?_
  exact sX12_areOne_L4 hw g _ _ _ _

def XX12_differ_p39  (self12 : Int → Hp → OR) (l1 : Int) (h : Hp) : OR :=
  chk (l1 + 1) (self12 (l1 + 1) h)
def XX12_differ_b12   (self12 : Int → Hp → OR) (l1 : Int) (h : Hp) : OR :=
  cal (XX12_cases h) (fun r5 h6 => if r5 ≤ l1 then some (1000, h6) else inb l1 256 (if (h6 149 l1.toNat) = 0 then cal (XX12_areOne l1 h6) (fun r7 h8 => if r7 = 0 then some (l1, h8) else XX12_differ_p39 self12 l1 h8) else XX12_differ_p39 self12 l1 h6))
def XX12_differ_L12   (l1 : Int) (h : Hp) : OR := lup1 (XX12_differ_b12 ) FU l1 h
def XX12_differ  (h : Hp) : OR :=
  cal (XX12_knows 0 h) (fun r1 h2 => cal (XX12_knows 1 h2) (fun r3 h4 => XX12_differ_L12 0 h4))
theorem sX12_differ_p39 {Γ : Cx} {w : Wd} (hw : okM w) (g : Gd Γ cX12_differ 2 "GatePatchModel" (Option.some Jvm.ClassFile.FieldType.int) (rmd 6))  (self12 : Int → Hp → OR) (hs12 : ∀ (x0 : Int) (h : Hp), Sim Γ w 0 (self12 x0 h) h 12 [(0, vP 143), (1, vI x0)] []) (l1 : Int) (h : Hp) : Sim Γ w 0 (XX12_differ_p39 self12 l1  h) h 39 [(0, vP 143), (1, vI l1)] [] := by
  unfold XX12_differ_p39
  refine S_iinc (kk := 1) g dX12_differ_39 rfl (by decide) rfl ?_
  refine S_goto (tgt := 12) g dX12_differ_42 (by decide) ?_
  refine S_sub g [1, 0] rfl ?_
  exact hs12 _ _

theorem sX12_differ_L12 {Γ : Cx} {w : Wd} (hw : okM w) (g : Gd Γ cX12_differ 2 "GatePatchModel" (Option.some Jvm.ClassFile.FieldType.int) (rmd 6))   : ∀ (l1 : Int) (h : Hp), Sim Γ w 0 (XX12_differ_L12  l1 h) h 12 [(0, vP 143), (1, vI l1)] [] := by
  refine S_lup1 (fun l1 => [(0, vP 143), (1, vI l1)]) (fun self12 hs12 l1 h => ?_) FU
  unfold XX12_differ_b12
  refine S_iload_n (kk := 1) g dX12_differ_12 rfl rfl ?_
  refine S_aload_n (kk := 0) g dX12_differ_13 rfl rfl ?_
  refine S_callVi (As := []) g dX12_differ_14 (sX12_cases hw  _) rfl (at_143 hw) rfl im_X12_cases se_X12_cases cw_X12_cases ml_Mod_242 ini_Mod nd_X12_cases ⟨by decide, by decide⟩ (Nat.le_of_ble_eq_true rfl) (fun r5 h6 => ?_)
  refine S_icmp_ge (tgt := 45) g dX12_differ_17 (by decide) ?_ ?_
  · refine S_sipush g dX12_differ_45 ⟨by decide, by decide⟩ rfl ?_
    exact S_ireturn g dX12_differ_48 rfl
  · refine S_aload_n (kk := 0) g dX12_differ_20 rfl rfl ?_
    refine S_getr g dX12_differ_21 fl_Mod_32 (at_143 hw) rfl (rc_143_9 hw) ?_
    refine S_iload_n (kk := 1) g dX12_differ_24 rfl rfl ?_
    refine S_zaload g dX12_differ_25 (at_149 hw) ?_
    refine S_if_ne (tgt := 39) g dX12_differ_26 (by decide) ?_ ?_
    · exact sX12_differ_p39 hw g self12 hs12 _ _
    · refine S_aload_n (kk := 0) g dX12_differ_29 rfl rfl ?_
      refine S_iload_n (kk := 1) g dX12_differ_30 rfl rfl ?_
      refine S_callVi (As := [vI l1]) g dX12_differ_31 (sX12_areOne hw _ _) rfl (at_143 hw) rfl im_X12_areOne se_X12_areOne cw_X12_areOne ml_Mod_323 ini_Mod nd_X12_areOne ⟨by decide, by decide⟩ (Nat.le_of_ble_eq_true rfl) (fun r7 h8 => ?_)
      refine S_if_ne (tgt := 39) g dX12_differ_34 (by decide) ?_ ?_
      · exact sX12_differ_p39 hw g self12 hs12 _ _
      · refine S_iload_n (kk := 1) g dX12_differ_37 rfl rfl ?_
        exact S_ireturn g dX12_differ_38 rfl

theorem sX12_differ {G : GG} {w : Wd} (hw : okM w)  (h : Hp) : SC G w yX12_differ (Cond.code yX12_differ cX12_differ 2 (Option.some Jvm.ClassFile.FieldType.int)) 6 0 [vP 143] (XX12_differ  h) h := by
  refine SC_of (own := "GatePatchModel") plain_Mod rfl (Nat.le_of_ble_eq_true rfl) (fun Γ hG g => ?_)
  subst hG
  show Sim Γ w 0 _ h 0 [(0, vP 143)] []
  unfold XX12_differ
  refine S_aload_n (kk := 0) g dX12_differ_0 rfl rfl ?_
  refine S_iconst g dX12_differ_1 ⟨by decide, by decide⟩ ?_
  refine S_callVv (As := [vI 0]) g dX12_differ_2 (sX12_knows hw _ _) rfl (at_143 hw) rfl im_X12_knows se_X12_knows cw_X12_knows ml_Mod_310 ini_Mod nd_X12_knows ⟨by decide, by decide⟩ (Nat.le_of_ble_eq_true rfl) (fun r1 h2 => ?_)
  refine S_aload_n (kk := 0) g dX12_differ_5 rfl rfl ?_
  refine S_iconst g dX12_differ_6 ⟨by decide, by decide⟩ ?_
  refine S_callVv (As := [vI 1]) g dX12_differ_7 (sX12_knows hw _ _) rfl (at_143 hw) rfl im_X12_knows se_X12_knows cw_X12_knows ml_Mod_310 ini_Mod nd_X12_knows ⟨by decide, by decide⟩ (Nat.le_of_ble_eq_true rfl) (fun r3 h4 => ?_)
  refine S_iconst g dX12_differ_10 ⟨by decide, by decide⟩ ?_
  refine S_istore_n g dX12_differ_11 rfl (by decide) rfl ?_
  refine S_sub g [1, 0] rfl ?_
  exact sX12_differ_L12 hw g _ _

def XX12_arePoints_p57   (l2 l3 : Int) (s0 : Int) (h : Hp) : OR :=
  if s0 = 0 then some (0, h) else if l2 = (-1) then some (1, h) else if l3 = (-1) then some (2, h) else some (3, h)
def XX12_arePoints_p56   (l2 l3 : Int) (h : Hp) : OR :=
  XX12_arePoints_p57 l2 l3 0 h
def XX12_arePoints_p52   (l2 l3 : Int) (h : Hp) : OR :=
  XX12_arePoints_p57 l2 l3 1 h
def XX12_arePoints_p28   (l2 l3 : Int) (h : Hp) : OR :=
  if l3 = (-1) then XX12_arePoints_p52 l2 l3 h else if l2 = (-1) then XX12_arePoints_p56 l2 l3 h else cal (XX12_isGate 0 l3 h) (fun r3 h4 => if r3 = 0 then XX12_arePoints_p56 l2 l3 h4 else if l3 ≤ l2 then XX12_arePoints_p56 l2 l3 h4 else XX12_arePoints_p52 l2 l3 h4)
def XX12_arePoints (x0 : Int) (x1 : Int) (x2 : Int) (h : Hp) : OR :=
  cal (XX12_isGate 0 x0 h) (fun r1 h2 => if r1 = 0 then XX12_arePoints_p56 x1 x2 h2 else if x1 = (-1) then XX12_arePoints_p28 x1 x2 h2 else cal (XX12_isGate 0 x1 h2) (fun r5 h6 => if r5 = 0 then XX12_arePoints_p56 x1 x2 h6 else if x1 ≤ x0 then XX12_arePoints_p56 x1 x2 h6 else XX12_arePoints_p28 x1 x2 h6))
theorem sX12_arePoints_p57 {Γ : Cx} {w : Wd} (hw : okM w) (g : Gd Γ cX12_arePoints 5 "GatePatchModel" (Option.some Jvm.ClassFile.FieldType.int) (rmd 4))   (l2 l3 : Int) (s0 : Int) (h : Hp) : Sim Γ w 0 (XX12_arePoints_p57  l2 l3 s0 h) h 57 [(2, vI l2), (3, vI l3)] [vI s0] := by
  unfold XX12_arePoints_p57
  refine S_istore g dX12_arePoints_57 (by decide) rfl ?_
  refine S_iload (kk := 0) g dX12_arePoints_59 rfl ?_
  refine S_if_ne (tgt := 68) g dX12_arePoints_61 (by decide) ?_ ?_
  · refine S_iload_n (kk := 1) g dX12_arePoints_68 rfl rfl ?_
    refine S_iconst g dX12_arePoints_69 ⟨by decide, by decide⟩ ?_
    refine S_icmp_ne (tgt := 77) g dX12_arePoints_70 (by decide) ?_ ?_
    · refine S_iload_n (kk := 2) g dX12_arePoints_77 rfl rfl ?_
      refine S_iconst g dX12_arePoints_78 ⟨by decide, by decide⟩ ?_
      refine S_icmp_ne (tgt := 86) g dX12_arePoints_79 (by decide) ?_ ?_
      · refine S_iconst g dX12_arePoints_86 ⟨by decide, by decide⟩ ?_
        exact S_ireturn g dX12_arePoints_87 rfl
      · refine S_iconst g dX12_arePoints_82 ⟨by decide, by decide⟩ ?_
        refine S_goto (tgt := 87) g dX12_arePoints_83 (by decide) ?_
        exact S_ireturn g dX12_arePoints_87 rfl
    · refine S_iconst g dX12_arePoints_73 ⟨by decide, by decide⟩ ?_
      refine S_goto (tgt := 87) g dX12_arePoints_74 (by decide) ?_
      exact S_ireturn g dX12_arePoints_87 rfl
  · refine S_iconst g dX12_arePoints_64 ⟨by decide, by decide⟩ ?_
    refine S_goto (tgt := 87) g dX12_arePoints_65 (by decide) ?_
    exact S_ireturn g dX12_arePoints_87 rfl

theorem sX12_arePoints_p56 {Γ : Cx} {w : Wd} (hw : okM w) (g : Gd Γ cX12_arePoints 5 "GatePatchModel" (Option.some Jvm.ClassFile.FieldType.int) (rmd 4))   (l2 l3 : Int) (h : Hp) : Sim Γ w 0 (XX12_arePoints_p56  l2 l3  h) h 56 [(2, vI l2), (3, vI l3)] [] := by
  unfold XX12_arePoints_p56
  refine S_iconst g dX12_arePoints_56 ⟨by decide, by decide⟩ ?_
  exact sX12_arePoints_p57 hw g _ _ _ _

theorem sX12_arePoints_p52 {Γ : Cx} {w : Wd} (hw : okM w) (g : Gd Γ cX12_arePoints 5 "GatePatchModel" (Option.some Jvm.ClassFile.FieldType.int) (rmd 4))   (l2 l3 : Int) (h : Hp) : Sim Γ w 0 (XX12_arePoints_p52  l2 l3  h) h 52 [(2, vI l2), (3, vI l3)] [] := by
  unfold XX12_arePoints_p52
  refine S_iconst g dX12_arePoints_52 ⟨by decide, by decide⟩ ?_
  refine S_goto (tgt := 57) g dX12_arePoints_53 (by decide) ?_
  exact sX12_arePoints_p57 hw g _ _ _ _

theorem sX12_arePoints_p28 {Γ : Cx} {w : Wd} (hw : okM w) (g : Gd Γ cX12_arePoints 5 "GatePatchModel" (Option.some Jvm.ClassFile.FieldType.int) (rmd 4))   (l2 l3 : Int) (h : Hp) : Sim Γ w 0 (XX12_arePoints_p28  l2 l3  h) h 28 [(0, vP 143), (2, vI l2), (3, vI l3)] [] := by
  unfold XX12_arePoints_p28
  refine S_iload_n (kk := 2) g dX12_arePoints_28 rfl rfl ?_
  refine S_iconst g dX12_arePoints_29 ⟨by decide, by decide⟩ ?_
  refine S_icmp_eq (tgt := 52) g dX12_arePoints_30 (by decide) ?_ ?_
  · refine S_sub g [1, 2] rfl ?_
    exact sX12_arePoints_p52 hw g _ _ _
  · refine S_iload_n (kk := 1) g dX12_arePoints_33 rfl rfl ?_
    refine S_iconst g dX12_arePoints_34 ⟨by decide, by decide⟩ ?_
    refine S_icmp_eq (tgt := 56) g dX12_arePoints_35 (by decide) ?_ ?_
    · refine S_sub g [1, 2] rfl ?_
      exact sX12_arePoints_p56 hw g _ _ _
    · refine S_aload_n (kk := 0) g dX12_arePoints_38 rfl rfl ?_
      refine S_iconst g dX12_arePoints_39 ⟨by decide, by decide⟩ ?_
      refine S_iload_n (kk := 2) g dX12_arePoints_40 rfl rfl ?_
      refine S_callVi (As := [vI 0, vI l3]) g dX12_arePoints_41 (sX12_isGate hw _ _ _) rfl (at_143 hw) rfl im_X12_isGate se_X12_isGate cw_X12_isGate ml_Mod_268 ini_Mod nd_X12_isGate ⟨by decide, by decide⟩ (Nat.le_of_ble_eq_true rfl) (fun r3 h4 => ?_)
      refine S_if_eq (tgt := 56) g dX12_arePoints_44 (by decide) ?_ ?_
      · refine S_sub g [1, 2] rfl ?_
        exact sX12_arePoints_p56 hw g _ _ _
      · refine S_iload_n (kk := 2) g dX12_arePoints_47 rfl rfl ?_
        refine S_iload_n (kk := 1) g dX12_arePoints_48 rfl rfl ?_
        refine S_icmp_le (tgt := 56) g dX12_arePoints_49 (by decide) ?_ ?_
        · refine S_sub g [1, 2] rfl ?_
          exact sX12_arePoints_p56 hw g _ _ _
        · refine S_sub g [1, 2] rfl ?_
          exact sX12_arePoints_p52 hw g _ _ _

theorem sX12_arePoints {G : GG} {w : Wd} (hw : okM w) (x0 : Int) (x1 : Int) (x2 : Int) (h : Hp) : SC G w yX12_arePoints (Cond.code yX12_arePoints cX12_arePoints 5 (Option.some Jvm.ClassFile.FieldType.int)) 4 0 [vP 143, vI x0, vI x1, vI x2] (XX12_arePoints x0 x1 x2 h) h := by
  refine SC_of (own := "GatePatchModel") plain_Mod rfl (Nat.le_of_ble_eq_true rfl) (fun Γ hG g => ?_)
  subst hG
  show Sim Γ w 0 _ h 0 [(0, vP 143), (1, vI x0), (2, vI x1), (3, vI x2)] []
  unfold XX12_arePoints
  refine S_aload_n (kk := 0) g dX12_arePoints_0 rfl rfl ?_
  refine S_iconst g dX12_arePoints_1 ⟨by decide, by decide⟩ ?_
  refine S_iload_n (kk := 1) g dX12_arePoints_2 rfl rfl ?_
  refine S_callVi (As := [vI 0, vI x0]) g dX12_arePoints_3 (sX12_isGate hw _ _ _) rfl (at_143 hw) rfl im_X12_isGate se_X12_isGate cw_X12_isGate ml_Mod_268 ini_Mod nd_X12_isGate ⟨by decide, by decide⟩ (Nat.le_of_ble_eq_true rfl) (fun r1 h2 => ?_)
  refine S_if_eq (tgt := 56) g dX12_arePoints_6 (by decide) ?_ ?_
  · refine S_sub g [2, 3] rfl ?_
    exact sX12_arePoints_p56 hw g _ _ _
  · refine S_iload_n (kk := 2) g dX12_arePoints_9 rfl rfl ?_
    refine S_iconst g dX12_arePoints_10 ⟨by decide, by decide⟩ ?_
    refine S_icmp_eq (tgt := 28) g dX12_arePoints_11 (by decide) ?_ ?_
    · refine S_sub g [0, 2, 3] rfl ?_
      exact sX12_arePoints_p28 hw g _ _ _
    · refine S_aload_n (kk := 0) g dX12_arePoints_14 rfl rfl ?_
      refine S_iconst g dX12_arePoints_15 ⟨by decide, by decide⟩ ?_
      refine S_iload_n (kk := 2) g dX12_arePoints_16 rfl rfl ?_
      refine S_callVi (As := [vI 0, vI x1]) g dX12_arePoints_17 (sX12_isGate hw _ _ _) rfl (at_143 hw) rfl im_X12_isGate se_X12_isGate cw_X12_isGate ml_Mod_268 ini_Mod nd_X12_isGate ⟨by decide, by decide⟩ (Nat.le_of_ble_eq_true rfl) (fun r5 h6 => ?_)
      refine S_if_eq (tgt := 56) g dX12_arePoints_20 (by decide) ?_ ?_
      · refine S_sub g [2, 3] rfl ?_
        exact sX12_arePoints_p56 hw g _ _ _
      · refine S_iload_n (kk := 2) g dX12_arePoints_23 rfl rfl ?_
        refine S_iload_n (kk := 1) g dX12_arePoints_24 rfl rfl ?_
        refine S_icmp_le (tgt := 56) g dX12_arePoints_25 (by decide) ?_ ?_
        · refine S_sub g [2, 3] rfl ?_
          exact sX12_arePoints_p56 hw g _ _ _
        · refine S_sub g [0, 2, 3] rfl ?_
          exact sX12_arePoints_p28 hw g _ _ _

def XX12_mendings_b67  (self30 : Int → Int → Hp → OR) (self53 : Int → Int → Int → Hp → OR) (self67 : Int → Int → Int → Int → Int → Hp → OR) (l4 l5 l6 l7 l9 : Int) (h : Hp) : OR :=
  cal (XX12_observed h) (fun r9 h10 => if r9 ≤ l9 then chk (4 * l5) (chk ((4 * l5) + l6) (inb ((4 * l5) + l6) 32 (hm (wr h10 190 ((4 * l5) + l6).toNat l7) (fun h11 => chk (l6 + 1) (self53 l4 l5 (l6 + 1) h11))))) else cal (XX12_seen 0 l9 h10) (fun r12 h13 => chk (4 * r12) (chk ((4 * r12) + l6) (inb ((4 * r12) + l6) 384 (cal (XX12_seen 1 l9 h13) (fun r14 h15 => chk (48 + r14) (chk (4 * (48 + r14)) (chk ((4 * (48 + r14)) + l6) (inb ((4 * (48 + r14)) + l6) 384 (nm (jand l7 (jxor (jxor (h13 188 ((4 * r12) + l6).toNat) (h15 188 ((4 * (48 + r14)) + l6).toNat)) (-1))) (fun v16 => chk (l9 + 1) (self67 l4 l5 l6 v16 (l9 + 1) h15))))))))))))
def XX12_mendings_L67  (self30 : Int → Int → Hp → OR) (self53 : Int → Int → Int → Hp → OR) (l4 l5 l6 l7 l9 : Int) (h : Hp) : OR := lup5 (XX12_mendings_b67 self30 self53) FU l4 l5 l6 l7 l9 h
def XX12_mendings_b53  (self30 : Int → Int → Hp → OR) (self53 : Int → Int → Int → Hp → OR) (l4 l5 l6 : Int) (h : Hp) : OR :=
  if 4 ≤ l6 then chk (l5 + 1) (self30 l4 (l5 + 1) h) else XX12_mendings_L67 self30 self53 l4 l5 l6 (-1) 0 h
def XX12_mendings_L53  (self30 : Int → Int → Hp → OR) (l4 l5 l6 : Int) (h : Hp) : OR := lup3 (XX12_mendings_b53 self30) FU l4 l5 l6 h
def XX12_mendings_b30   (self30 : Int → Int → Hp → OR) (l4 l5 : Int) (h : Hp) : OR :=
  if (ashl 1 l4) ≤ l5 then hm (wr h 143 63 0) (fun h5 => some (0, h5)) else hm (wr h 143 64 l5) (fun h6 => cal (XX12_works 0 h6) (fun r7 h8 => XX12_mendings_L53 self30 l4 l5 0 h8))
def XX12_mendings_L30   (l4 l5 : Int) (h : Hp) : OR := lup2 (XX12_mendings_b30 ) FU l4 l5 h
def XX12_mendings (x0 : Int) (x1 : Int) (x2 : Int) (x3 : Int) (h : Hp) : OR :=
  inb 0 3 (hm (wr h 189 (0 : Int).toNat x0) (fun h1 => inb 1 3 (hm (wr h1 189 (1 : Int).toNat x1) (fun h2 => inb 2 3 (hm (wr h2 189 (2 : Int).toNat x2) (fun h3 => hm (wr h3 143 63 x3) (fun h4 => XX12_mendings_L30 x3 0 h4)))))))
theorem sX12_mendings_L67 {Γ : Cx} {w : Wd} (hw : okM w) (g : Gd Γ cX12_mendings 10 "GatePatchModel" (Option.none : Option Jvm.ClassFile.FieldType) (rmd 4))  (self30 : Int → Int → Hp → OR) (hs30 : ∀ (x0 x1 : Int) (h : Hp), Sim Γ w 3 (self30 x0 x1 h) h 30 [(0, vP 143), (4, vI x0), (5, vI x1)] []) (self53 : Int → Int → Int → Hp → OR) (hs53 : ∀ (x0 x1 x2 : Int) (h : Hp), Sim Γ w 3 (self53 x0 x1 x2 h) h 53 [(0, vP 143), (4, vI x0), (5, vI x1), (6, vI x2)] []) : ∀ (l4 l5 l6 l7 l9 : Int) (h : Hp), Sim Γ w 3 (XX12_mendings_L67 self30 self53 l4 l5 l6 l7 l9 h) h 67 [(0, vP 143), (4, vI l4), (5, vI l5), (6, vI l6), (7, vJ l7), (9, vI l9)] [] := by
  refine S_lup5 (fun l4 l5 l6 l7 l9 => [(0, vP 143), (4, vI l4), (5, vI l5), (6, vI l6), (7, vJ l7), (9, vI l9)]) (fun self67 hs67 l4 l5 l6 l7 l9 h => ?_) FU
  unfold XX12_mendings_b67
  refine S_iload (kk := 5) g dX12_mendings_67 rfl ?_
  refine S_aload_n (kk := 0) g dX12_mendings_69 rfl rfl ?_
  refine S_callVi (As := []) g dX12_mendings_70 (sX12_observed hw  _) rfl (at_143 hw) rfl im_X12_observed se_X12_observed cw_X12_observed ml_Mod_316 ini_Mod nd_X12_observed ⟨by decide, by decide⟩ (Nat.le_of_ble_eq_true rfl) (fun r9 h10 => ?_)
  refine S_icmp_ge (tgt := 129) g dX12_mendings_73 (by decide) ?_ ?_
  · refine S_aload_n (kk := 0) g dX12_mendings_129 rfl rfl ?_
    refine S_getr g dX12_mendings_130 fl_Mod_163 (at_143 hw) rfl (rc_143_65 hw) ?_
    refine S_iconst g dX12_mendings_133 ⟨by decide, by decide⟩ ?_
    refine S_iload (kk := 2) g dX12_mendings_134 rfl ?_
    refine S_imul g dX12_mendings_136 ?_
    refine S_iload (kk := 3) g dX12_mendings_137 rfl ?_
    refine S_iadd g dX12_mendings_139 ?_
    refine S_lload (kk := 4) g dX12_mendings_140 rfl ?_
    refine S_lastore g dX12_mendings_142 (at_190 hw) (fun h11 => ?_)
    refine S_iinc (kk := 3) g dX12_mendings_143 rfl (by decide) rfl ?_
    refine S_goto (tgt := 53) g dX12_mendings_146 (by decide) ?_
    refine S_sub g [1, 2, 3, 0] rfl ?_
    exact hs53 _ _ _ _
  · refine S_lload (kk := 4) g dX12_mendings_76 rfl ?_
    refine S_aload_n (kk := 0) g dX12_mendings_78 rfl rfl ?_
    refine S_getr g dX12_mendings_79 fl_Mod_157 (at_143 hw) rfl (rc_143_61 hw) ?_
    refine S_iconst g dX12_mendings_82 ⟨by decide, by decide⟩ ?_
    refine S_aload_n (kk := 0) g dX12_mendings_83 rfl rfl ?_
    refine S_iconst g dX12_mendings_84 ⟨by decide, by decide⟩ ?_
    refine S_iload (kk := 5) g dX12_mendings_85 rfl ?_
    refine S_callVi (As := [vI 0, vI l9]) g dX12_mendings_87 (sX12_seen hw _ _ _) rfl (at_143 hw) rfl im_X12_seen se_X12_seen cw_X12_seen ml_Mod_319 ini_Mod nd_X12_seen ⟨by decide, by decide⟩ (Nat.le_of_ble_eq_true rfl) (fun r12 h13 => ?_)
    refine S_imul g dX12_mendings_90 ?_
    refine S_iload (kk := 3) g dX12_mendings_91 rfl ?_
    refine S_iadd g dX12_mendings_93 ?_
    refine S_laload g dX12_mendings_94 (at_188 hw) ?_
    refine S_aload_n (kk := 0) g dX12_mendings_95 rfl rfl ?_
    refine S_getr g dX12_mendings_96 fl_Mod_157 (at_143 hw) rfl (rc_143_61 hw) ?_
    refine S_iconst g dX12_mendings_99 ⟨by decide, by decide⟩ ?_
    refine S_bipush g dX12_mendings_100 ⟨by decide, by decide⟩ rfl ?_
    refine S_aload_n (kk := 0) g dX12_mendings_102 rfl rfl ?_
    refine S_iconst g dX12_mendings_103 ⟨by decide, by decide⟩ ?_
    refine S_iload (kk := 5) g dX12_mendings_104 rfl ?_
    refine S_callVi (As := [vI 1, vI l9]) g dX12_mendings_106 (sX12_seen hw _ _ _) rfl (at_143 hw) rfl im_X12_seen se_X12_seen cw_X12_seen ml_Mod_319 ini_Mod nd_X12_seen ⟨by decide, by decide⟩ (Nat.le_of_ble_eq_true rfl) (fun r14 h15 => ?_)
    refine S_iadd g dX12_mendings_109 ?_
    refine S_imul g dX12_mendings_110 ?_
    refine S_iload (kk := 3) g dX12_mendings_111 rfl ?_
    refine S_iadd g dX12_mendings_113 ?_
    refine S_laload g dX12_mendings_114 (at_188 hw) ?_
    refine S_lxor g dX12_mendings_115 ?_
    refine S_ldc2 g dX12_mendings_116 ⟨by decide, by decide⟩ k_Mod_281 ?_
    refine S_lxor g dX12_mendings_119 ?_
    refine S_land g dX12_mendings_120 ?_
    refine S_nmJ (fun v16 => ?_)
    refine S_lstore g dX12_mendings_121 (by decide) rfl ?_
    refine S_iinc (kk := 5) g dX12_mendings_123 rfl (by decide) rfl ?_
    refine S_goto (tgt := 67) g dX12_mendings_126 (by decide) ?_
    refine S_sub g [2, 3, 4, 5, 1, 0] rfl ?_
    exact hs67 _ _ _ _ _ _

theorem sX12_mendings_L53 {Γ : Cx} {w : Wd} (hw : okM w) (g : Gd Γ cX12_mendings 10 "GatePatchModel" (Option.none : Option Jvm.ClassFile.FieldType) (rmd 4))  (self30 : Int → Int → Hp → OR) (hs30 : ∀ (x0 x1 : Int) (h : Hp), Sim Γ w 3 (self30 x0 x1 h) h 30 [(0, vP 143), (4, vI x0), (5, vI x1)] []) : ∀ (l4 l5 l6 : Int) (h : Hp), Sim Γ w 3 (XX12_mendings_L53 self30 l4 l5 l6 h) h 53 [(0, vP 143), (4, vI l4), (5, vI l5), (6, vI l6)] [] := by
  refine S_lup3 (fun l4 l5 l6 => [(0, vP 143), (4, vI l4), (5, vI l5), (6, vI l6)]) (fun self53 hs53 l4 l5 l6 h => ?_) FU
  unfold XX12_mendings_b53
  refine S_iload (kk := 3) g dX12_mendings_53 rfl ?_
  refine S_iconst g dX12_mendings_55 ⟨by decide, by decide⟩ ?_
  refine S_icmp_ge (tgt := 149) g dX12_mendings_56 (by decide) ?_ ?_
  · refine S_iinc (kk := 2) g dX12_mendings_149 rfl (by decide) rfl ?_
    refine S_goto (tgt := 30) g dX12_mendings_152 (by decide) ?_
    refine S_sub g [1, 2, 0] rfl ?_
    exact hs30 _ _ _
  · refine S_ldc2 g dX12_mendings_59 ⟨by decide, by decide⟩ k_Mod_281 ?_
    refine S_lstore g dX12_mendings_62 (by decide) rfl ?_
    refine S_iconst g dX12_mendings_64 ⟨by decide, by decide⟩ ?_
    refine S_istore g dX12_mendings_65 (by decide) rfl ?_
    refine S_sub g [2, 3, 4, 5, 1, 0] rfl ?_
    exact sX12_mendings_L67 hw g self30 hs30 self53 hs53 _ _ _ _ _ _

theorem sX12_mendings_L30 {Γ : Cx} {w : Wd} (hw : okM w) (g : Gd Γ cX12_mendings 10 "GatePatchModel" (Option.none : Option Jvm.ClassFile.FieldType) (rmd 4))   : ∀ (l4 l5 : Int) (h : Hp), Sim Γ w 3 (XX12_mendings_L30  l4 l5 h) h 30 [(0, vP 143), (4, vI l4), (5, vI l5)] [] := by
  refine S_lup2 (fun l4 l5 => [(0, vP 143), (4, vI l4), (5, vI l5)]) (fun self30 hs30 l4 l5 h => ?_) FU
  unfold XX12_mendings_b30
  refine S_iload (kk := 2) g dX12_mendings_30 rfl ?_
  refine S_iconst g dX12_mendings_32 ⟨by decide, by decide⟩ ?_
  refine S_iload (kk := 1) g dX12_mendings_33 rfl ?_
  refine S_ishl g dX12_mendings_35 ?_
  refine S_icmp_ge (tgt := 155) g dX12_mendings_36 (by decide) ?_ ?_
  · refine S_aload_n (kk := 0) g dX12_mendings_155 rfl rfl ?_
    refine S_iconst g dX12_mendings_156 ⟨by decide, by decide⟩ ?_
    refine S_puti g dX12_mendings_157 fp_Mod_294 (at_143 hw) rfl (fun h5 => ?_)
    exact S_return g dX12_mendings_160 rfl
  · refine S_aload_n (kk := 0) g dX12_mendings_39 rfl rfl ?_
    refine S_iload (kk := 2) g dX12_mendings_40 rfl ?_
    refine S_puti g dX12_mendings_42 fp_Mod_301 (at_143 hw) rfl (fun h6 => ?_)
    refine S_aload_n (kk := 0) g dX12_mendings_45 rfl rfl ?_
    refine S_iconst g dX12_mendings_46 ⟨by decide, by decide⟩ ?_
    refine S_callVv (As := [vI 0]) g dX12_mendings_47 (sX12_works hw _ _) rfl (at_143 hw) rfl im_X12_works se_X12_works cw_X12_works ml_Mod_307 ini_Mod nd_X12_works ⟨by decide, by decide⟩ (Nat.le_of_ble_eq_true rfl) (fun r7 h8 => ?_)
    refine S_iconst g dX12_mendings_50 ⟨by decide, by decide⟩ ?_
    refine S_istore g dX12_mendings_51 (by decide) rfl ?_
    refine S_sub g [1, 2, 3, 0] rfl ?_
    exact sX12_mendings_L53 hw g self30 hs30 _ _ _ _

theorem sX12_mendings {G : GG} {w : Wd} (hw : okM w) (x0 : Int) (x1 : Int) (x2 : Int) (x3 : Int) (h : Hp) : SC G w yX12_mendings (Cond.code yX12_mendings cX12_mendings 10 (Option.none : Option Jvm.ClassFile.FieldType)) 4 3 [vP 143, vI x0, vI x1, vI x2, vI x3] (XX12_mendings x0 x1 x2 x3 h) h := by
  refine SC_of (own := "GatePatchModel") plain_Mod rfl (Nat.le_of_ble_eq_true rfl) (fun Γ hG g => ?_)
  subst hG
  show Sim Γ w 3 _ h 0 [(0, vP 143), (1, vI x0), (2, vI x1), (3, vI x2), (4, vI x3)] []
  unfold XX12_mendings
  refine S_aload_n (kk := 0) g dX12_mendings_0 rfl rfl ?_
  refine S_getr g dX12_mendings_1 fl_Mod_160 (at_143 hw) rfl (rc_143_62 hw) ?_
  refine S_iconst g dX12_mendings_4 ⟨by decide, by decide⟩ ?_
  refine S_iload_n (kk := 1) g dX12_mendings_5 rfl rfl ?_
  refine S_iastore g dX12_mendings_6 (at_189 hw) (fun h1 => ?_)
  refine S_aload_n (kk := 0) g dX12_mendings_7 rfl rfl ?_
  refine S_getr g dX12_mendings_8 fl_Mod_160 (at_143 hw) rfl (rc_143_62 hw) ?_
  refine S_iconst g dX12_mendings_11 ⟨by decide, by decide⟩ ?_
  refine S_iload_n (kk := 2) g dX12_mendings_12 rfl rfl ?_
  refine S_iastore g dX12_mendings_13 (at_189 hw) (fun h2 => ?_)
  refine S_aload_n (kk := 0) g dX12_mendings_14 rfl rfl ?_
  refine S_getr g dX12_mendings_15 fl_Mod_160 (at_143 hw) rfl (rc_143_62 hw) ?_
  refine S_iconst g dX12_mendings_18 ⟨by decide, by decide⟩ ?_
  refine S_iload_n (kk := 3) g dX12_mendings_19 rfl rfl ?_
  refine S_iastore g dX12_mendings_20 (at_189 hw) (fun h3 => ?_)
  refine S_aload_n (kk := 0) g dX12_mendings_21 rfl rfl ?_
  refine S_iload (kk := 4) g dX12_mendings_22 rfl ?_
  refine S_puti g dX12_mendings_24 fp_Mod_294 (at_143 hw) rfl (fun h4 => ?_)
  refine S_iconst g dX12_mendings_27 ⟨by decide, by decide⟩ ?_
  refine S_istore g dX12_mendings_28 (by decide) rfl ?_
  refine S_sub g [1, 5, 0] rfl ?_
  exact sX12_mendings_L30 hw g _ _ _

def XX12_prepares  (h : Hp) : OR :=
  cal (XX12_knows 1 h) (fun r1 h2 => hm (wr h2 143 63 0) (fun h3 => cal (XX12_begins 0 h3) (fun r4 h5 => some (0, h5))))
theorem sX12_prepares {G : GG} {w : Wd} (hw : okM w)  (h : Hp) : SC G w yX12_prepares (Cond.code yX12_prepares cX12_prepares 1 (Option.none : Option Jvm.ClassFile.FieldType)) 6 3 [vP 143] (XX12_prepares  h) h := by
  refine SC_of (own := "GatePatchModel") plain_Mod rfl (Nat.le_of_ble_eq_true rfl) (fun Γ hG g => ?_)
  subst hG
  show Sim Γ w 3 _ h 0 [(0, vP 143)] []
  unfold XX12_prepares
  refine S_aload_n (kk := 0) g dX12_prepares_0 rfl rfl ?_
  refine S_iconst g dX12_prepares_1 ⟨by decide, by decide⟩ ?_
  refine S_callVv (As := [vI 1]) g dX12_prepares_2 (sX12_knows hw _ _) rfl (at_143 hw) rfl im_X12_knows se_X12_knows cw_X12_knows ml_Mod_310 ini_Mod nd_X12_knows ⟨by decide, by decide⟩ (Nat.le_of_ble_eq_true rfl) (fun r1 h2 => ?_)
  refine S_aload_n (kk := 0) g dX12_prepares_5 rfl rfl ?_
  refine S_iconst g dX12_prepares_6 ⟨by decide, by decide⟩ ?_
  refine S_puti g dX12_prepares_7 fp_Mod_294 (at_143 hw) rfl (fun h3 => ?_)
  refine S_aload_n (kk := 0) g dX12_prepares_10 rfl rfl ?_
  refine S_iconst g dX12_prepares_11 ⟨by decide, by decide⟩ ?_
  refine S_callVv (As := [vI 0]) g dX12_prepares_12 (sX12_begins hw _ _) rfl (at_143 hw) rfl im_X12_begins se_X12_begins cw_X12_begins ml_Mod_304 ini_Mod nd_X12_begins ⟨by decide, by decide⟩ (Nat.le_of_ble_eq_true rfl) (fun r4 h5 => ?_)
  exact S_return g dX12_prepares_15 rfl

