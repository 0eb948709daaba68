abbrev cX11_startAll : ByteArray := prog_1_method_3_code
def yX11_startAll : MethodName := ⟨"GatePatch", "startAll", "(III)V"⟩
abbrev cX11_begin : ByteArray := prog_1_method_2_code
def yX11_begin : MethodName := ⟨"GatePatch", "begin", "(III)I"⟩
abbrev cX11_netOf : ByteArray := prog_1_method_14_code
def yX11_netOf : MethodName := ⟨"GatePatch", "netOf", "(I)LGatePatch$Net;"⟩
abbrev cX11_pinsFit : ByteArray := prog_1_method_5_code
def yX11_pinsFit : MethodName := ⟨"GatePatch", "pinsFit", "(LGatePatch$Plan;IIII)Z"⟩
abbrev cX11_changed : ByteArray := prog_1_method_15_code
def yX11_changed : MethodName := ⟨"GatePatch", "changed", "(LGatePatch$Net;)V"⟩
abbrev cX11_gate : ByteArray := prog_1_method_4_code
def yX11_gate : MethodName := ⟨"GatePatch", "gate", "(IIIII)I"⟩
abbrev cX11_rewire : ByteArray := prog_1_method_6_code
def yX11_rewire : MethodName := ⟨"GatePatch", "rewire", "(IIII)I"⟩
abbrev cX11_see : ByteArray := prog_1_method_9_code
def yX11_see : MethodName := ⟨"GatePatch", "see", "(LGatePatch$Net;II)I"⟩
abbrev cX11_out : ByteArray := prog_1_method_7_code
def yX11_out : MethodName := ⟨"GatePatch", "out", "(III)I"⟩
abbrev cX11_next : ByteArray := prog_1_method_8_code
def yX11_next : MethodName := ⟨"GatePatch", "next", "(III)I"⟩
abbrev cX11_free : ByteArray := prog_1_method_10_code
def yX11_free : MethodName := ⟨"GatePatch", "free", "(I)I"⟩
abbrev cX11_value : ByteArray := prog_1_method_11_code
def yX11_value : MethodName := ⟨"GatePatch", "value", "(III)I"⟩
abbrev cX11_hangs : ByteArray := prog_1_method_13_code
def yX11_hangs : MethodName := ⟨"GatePatch", "hangs", "(III)I"⟩
abbrev cX11_refreshBoth : ByteArray := prog_1_method_16_code
def yX11_refreshBoth : MethodName := ⟨"GatePatch", "refreshBoth", "()V"⟩
abbrev cX11_differ : ByteArray := prog_1_method_17_code
def yX11_differ : MethodName := ⟨"GatePatch", "differ", "()I"⟩
abbrev cX11_enough : ByteArray := prog_1_method_18_code
def yX11_enough : MethodName := ⟨"GatePatch", "enough", "(III)I"⟩
abbrev cX11_points : ByteArray := prog_1_method_19_code
def yX11_points : MethodName := ⟨"GatePatch", "points", "(I)I"⟩
abbrev cX11_point : ByteArray := prog_1_method_20_code
def yX11_point : MethodName := ⟨"GatePatch", "point", "(I)I"⟩
abbrev cX11_mend : ByteArray := prog_1_method_21_code
def yX11_mend : MethodName := ⟨"GatePatch", "mend", "(IIII)I"⟩
abbrev cX11_isTape : ByteArray := prog_1_method_56_code
def yX11_isTape : MethodName := ⟨"GatePatch", "isTape", "(I)Z"⟩
abbrev cX11_witness : ByteArray := prog_1_method_22_code
def yX11_witness : MethodName := ⟨"GatePatch", "witness", "(IIII)I"⟩
abbrev cX11_refused : ByteArray := prog_1_method_57_code
def yX11_refused : MethodName := ⟨"GatePatch", "refused", "(I)I"⟩
abbrev cX11_judge : ByteArray := prog_1_method_23_code
def yX11_judge : MethodName := ⟨"GatePatch", "judge", "(IIII)I"⟩
abbrev cX11_patch : ByteArray := prog_1_method_24_code
def yX11_patch : MethodName := ⟨"GatePatch", "patch", "(IIIII)I"⟩
abbrev cX11_clash : ByteArray := prog_1_method_25_code
def yX11_clash : MethodName := ⟨"GatePatch", "clash", "(I)I"⟩
abbrev cX11_mark : ByteArray := prog_1_method_26_code
def yX11_mark : MethodName := ⟨"GatePatch", "mark", "(II)I"⟩
abbrev cX11_best : ByteArray := prog_1_method_27_code
def yX11_best : MethodName := ⟨"GatePatch", "best", "(I)I"⟩
abbrev cX11_patched : ByteArray := prog_1_method_28_code
def yX11_patched : MethodName := ⟨"GatePatch", "patched", "(I)I"⟩
abbrev cX11_function : ByteArray := prog_1_method_29_code
def yX11_function : MethodName := ⟨"GatePatch", "function", "(I)I"⟩
abbrev cX11_told : ByteArray := prog_1_method_30_code
def yX11_told : MethodName := ⟨"GatePatch", "told", "(I)I"⟩
abbrev cX11_node : ByteArray := prog_1_method_31_code
def yX11_node : MethodName := ⟨"GatePatch", "node", "(II)I"⟩
abbrev cX11_cost : ByteArray := prog_1_method_32_code
def yX11_cost : MethodName := ⟨"GatePatch", "cost", "(II)I"⟩
abbrev cX11_isPlace : ByteArray := prog_1_method_35_code
def yX11_isPlace : MethodName := ⟨"GatePatch", "isPlace", "(II)Z"⟩
abbrev cX11_site : ByteArray := prog_1_method_33_code
def yX11_site : MethodName := ⟨"GatePatch", "site", "(III)I"⟩
abbrev cX11_spare : ByteArray := prog_1_method_34_code
def yX11_spare : MethodName := ⟨"GatePatch", "spare", "(III)I"⟩
abbrev cX11_place : ByteArray := prog_1_method_36_code
def yX11_place : MethodName := ⟨"GatePatch", "place", "()I"⟩
abbrev cX11_used : ByteArray := prog_1_method_37_code
def yX11_used : MethodName := ⟨"GatePatch", "used", "(I)I"⟩
abbrev cX11_delay : ByteArray := prog_1_method_38_code
def yX11_delay : MethodName := ⟨"GatePatch", "delay", "(II)I"⟩
abbrev cX11_arrive : ByteArray := prog_1_method_39_code
def yX11_arrive : MethodName := ⟨"GatePatch", "arrive", "(II)I"⟩
abbrev cX11_late : ByteArray := prog_1_method_40_code
def yX11_late : MethodName := ⟨"GatePatch", "late", "(I)I"⟩
abbrev cX11_apply : ByteArray := prog_1_method_41_code
def yX11_apply : MethodName := ⟨"GatePatch", "apply", "()I"⟩
abbrev cX11_oldIsReplaced : ByteArray := prog_1_method_43_code
def yX11_oldIsReplaced : MethodName := ⟨"GatePatch", "oldIsReplaced", "()V"⟩
abbrev cX11_undo : ByteArray := prog_1_method_42_code
def yX11_undo : MethodName := ⟨"GatePatch", "undo", "()I"⟩
abbrev cX11_change : ByteArray := prog_1_method_44_code
def yX11_change : MethodName := ⟨"GatePatch", "change", "(II)I"⟩
abbrev cX11_test : ByteArray := prog_1_method_45_code
def yX11_test : MethodName := ⟨"GatePatch", "test", "(I)I"⟩
abbrev cX11_idle : ByteArray := prog_1_method_46_code
def yX11_idle : MethodName := ⟨"GatePatch", "idle", "(I)I"⟩
abbrev cX11_tape : ByteArray := prog_1_method_47_code
def yX11_tape : MethodName := ⟨"GatePatch", "tape", "(III)I"⟩
abbrev cX11_image : ByteArray := prog_1_method_48_code
def yX11_image : MethodName := ⟨"GatePatch", "image", "(I)I"⟩
abbrev cX11_imageFault : ByteArray := prog_1_method_51_code
def yX11_imageFault : MethodName := ⟨"GatePatch", "imageFault", "(LGatePatch$Tape;)I"⟩
abbrev cX11_back : ByteArray := prog_1_method_49_code
def yX11_back : MethodName := ⟨"GatePatch", "back", "(I)I"⟩
abbrev cX11_toss : ByteArray := prog_1_method_50_code
def yX11_toss : MethodName := ⟨"GatePatch", "toss", "(I)I"⟩
abbrev cX11_clear : ByteArray := prog_1_method_52_code
def yX11_clear : MethodName := ⟨"GatePatch", "clear", "(I)I"⟩
abbrev cX11_put : ByteArray := prog_1_method_53_code
def yX11_put : MethodName := ⟨"GatePatch", "put", "(IIJ)I"⟩
abbrev cX11_copy : ByteArray := prog_1_method_55_code
def yX11_copy : MethodName := ⟨"GatePatch", "copy", "(IIIII)I"⟩
abbrev cX11_count : ByteArray := prog_1_method_58_code
def yX11_count : MethodName := ⟨"GatePatch", "count", "(I)I"⟩
theorem fl_GP_14 : FL "GatePatch" 14 10 0 := ⟨R_GP, T_GP, 16, ty_GP, ci_GP, by decide, mem_t 514 (by decide +kernel) rfl⟩
theorem ml_GP_96 : Cond.methodLink "GatePatch" 96 yX6_start ∈ tblG := mem_t 477 (by decide +kernel) rfl
theorem im_X6_start : Cond.instanceMethod yX6_start ∈ tblG := mem_t 478 (by decide +kernel) rfl
theorem se_X6_start : Cond.selects "GatePatch$Net" yX6_start yX6_start ∈ tblG := mem_t 479 (by decide +kernel) rfl
theorem cw_X6_start : Cond.code yX6_start cX6_start 4 (Option.none : Option Jvm.ClassFile.FieldType) ∈ tblG := mem_t 480 (by decide +kernel) rfl
theorem nd_X6_start : yX6_start.cls ≠ "java/lang/invoke/MethodHandle" ∧ yX6_start.cls ≠ "java/lang/invoke/VarHandle" ∧ (parseMethodDescriptor yX6_start.desc).map (fun d => d.parameters.length) = some 3 := by decide +kernel
theorem fl_GP_18 : FL "GatePatch" 18 10 1 := ⟨R_GP, T_GP, 16, ty_GP, ci_GP, by decide, mem_t 515 (by decide +kernel) rfl⟩
theorem fl_GP_24 : FL "GatePatch" 24 10 2 := ⟨R_GP, T_GP, 16, ty_GP, ci_GP, by decide, mem_t 516 (by decide +kernel) rfl⟩
theorem ml_GP_99 : Cond.methodLink "GatePatch" 99 yX0_start ∈ tblG := mem_t 488 (by decide +kernel) rfl
theorem im_X0_start : Cond.instanceMethod yX0_start ∈ tblG := mem_t 489 (by decide +kernel) rfl
theorem se_X0_start : Cond.selects "GatePatch$Cases" yX0_start yX0_start ∈ tblG := mem_t 490 (by decide +kernel) rfl
theorem cw_X0_start : Cond.code yX0_start cX0_start 3 (Option.none : Option Jvm.ClassFile.FieldType) ∈ tblG := mem_t 491 (by decide +kernel) rfl
theorem nd_X0_start : yX0_start.cls ≠ "java/lang/invoke/MethodHandle" ∧ yX0_start.cls ≠ "java/lang/invoke/VarHandle" ∧ (parseMethodDescriptor yX0_start.desc).map (fun d => d.parameters.length) = some 1 := by decide +kernel
theorem fl_GP_49 : FL "GatePatch" 49 10 5 := ⟨R_GP, T_GP, 16, ty_GP, ci_GP, by decide, mem_t 519 (by decide +kernel) rfl⟩
theorem ml_GP_101 : Cond.methodLink "GatePatch" 101 yX4_start ∈ tblG := mem_t 496 (by decide +kernel) rfl
theorem im_X4_start : Cond.instanceMethod yX4_start ∈ tblG := mem_t 497 (by decide +kernel) rfl
theorem se_X4_start : Cond.selects "GatePatch$Marks" yX4_start yX4_start ∈ tblG := mem_t 498 (by decide +kernel) rfl
theorem cw_X4_start : Cond.code yX4_start cX4_start 1 (Option.none : Option Jvm.ClassFile.FieldType) ∈ tblG := mem_t 499 (by decide +kernel) rfl
theorem nd_X4_start : yX4_start.cls ≠ "java/lang/invoke/MethodHandle" ∧ yX4_start.cls ≠ "java/lang/invoke/VarHandle" ∧ (parseMethodDescriptor yX4_start.desc).map (fun d => d.parameters.length) = some 0 := by decide +kernel
theorem fl_GP_56 : FL "GatePatch" 56 10 6 := ⟨R_GP, T_GP, 16, ty_GP, ci_GP, by decide, mem_t 520 (by decide +kernel) rfl⟩
theorem ml_GP_103 : Cond.methodLink "GatePatch" 103 yX7_drop ∈ tblG := mem_t 501 (by decide +kernel) rfl
theorem im_X7_drop : Cond.instanceMethod yX7_drop ∈ tblG := mem_t 502 (by decide +kernel) rfl
theorem se_X7_drop : Cond.selects "GatePatch$Patch" yX7_drop yX7_drop ∈ tblG := mem_t 503 (by decide +kernel) rfl
theorem cw_X7_drop : Cond.code yX7_drop cX7_drop 1 (Option.none : Option Jvm.ClassFile.FieldType) ∈ tblG := mem_t 504 (by decide +kernel) rfl
theorem nd_X7_drop : yX7_drop.cls ≠ "java/lang/invoke/MethodHandle" ∧ yX7_drop.cls ≠ "java/lang/invoke/VarHandle" ∧ (parseMethodDescriptor yX7_drop.desc).map (fun d => d.parameters.length) = some 0 := by decide +kernel
theorem fl_GP_63 : FL "GatePatch" 63 10 7 := ⟨R_GP, T_GP, 16, ty_GP, ci_GP, by decide, mem_t 521 (by decide +kernel) rfl⟩
theorem ml_GP_106 : Cond.methodLink "GatePatch" 106 yX9_start ∈ tblG := mem_t 505 (by decide +kernel) rfl
theorem im_X9_start : Cond.instanceMethod yX9_start ∈ tblG := mem_t 506 (by decide +kernel) rfl
theorem se_X9_start : Cond.selects "GatePatch$Spares" yX9_start yX9_start ∈ tblG := mem_t 507 (by decide +kernel) rfl
theorem cw_X9_start : Cond.code yX9_start cX9_start 1 (Option.none : Option Jvm.ClassFile.FieldType) ∈ tblG := mem_t 508 (by decide +kernel) rfl
theorem nd_X9_start : yX9_start.cls ≠ "java/lang/invoke/MethodHandle" ∧ yX9_start.cls ≠ "java/lang/invoke/VarHandle" ∧ (parseMethodDescriptor yX9_start.desc).map (fun d => d.parameters.length) = some 0 := by decide +kernel
theorem fl_GP_70 : FL "GatePatch" 70 10 8 := ⟨R_GP, T_GP, 16, ty_GP, ci_GP, by decide, mem_t 522 (by decide +kernel) rfl⟩
theorem ml_GP_107 : Cond.methodLink "GatePatch" 107 yX3_start ∈ tblG := mem_t 509 (by decide +kernel) rfl
theorem im_X3_start : Cond.instanceMethod yX3_start ∈ tblG := mem_t 510 (by decide +kernel) rfl
theorem se_X3_start : Cond.selects "GatePatch$Journal" yX3_start yX3_start ∈ tblG := mem_t 511 (by decide +kernel) rfl
theorem cw_X3_start : Cond.code yX3_start cX3_start 1 (Option.none : Option Jvm.ClassFile.FieldType) ∈ tblG := mem_t 512 (by decide +kernel) rfl
theorem nd_X3_start : yX3_start.cls ≠ "java/lang/invoke/MethodHandle" ∧ yX3_start.cls ≠ "java/lang/invoke/VarHandle" ∧ (parseMethodDescriptor yX3_start.desc).map (fun d => d.parameters.length) = some 0 := by decide +kernel
theorem fl_GP_80 : FL "GatePatch" 80 10 10 := ⟨R_GP, T_GP, 16, ty_GP, ci_GP, by decide, mem_t 524 (by decide +kernel) rfl⟩
theorem ml_GP_108 : Cond.methodLink "GatePatch" 108 yJ7_fill_53178 ∈ tblG := mem_t 513 (by decide +kernel) rfl
theorem fp_GP_114 : FP "GatePatch" 114 10 12 .int := ⟨R_GP, T_GP, 16, ty_GP, ci_GP, by decide, mem_t 526 (by decide +kernel) rfl, rfl, rfl⟩
theorem fp_GP_117 : FP "GatePatch" 117 10 13 .int := ⟨R_GP, T_GP, 16, ty_GP, ci_GP, by decide, mem_t 527 (by decide +kernel) rfl, rfl, rfl⟩
theorem fp_GP_120 : FP "GatePatch" 120 10 14 .int := ⟨R_GP, T_GP, 16, ty_GP, ci_GP, by decide, mem_t 528 (by decide +kernel) rfl, rfl, rfl⟩
theorem fp_GP_123 : FP "GatePatch" 123 10 15 .int := ⟨R_GP, T_GP, 16, ty_GP, ci_GP, by decide, mem_t 529 (by decide +kernel) rfl, rfl, rfl⟩
theorem plain_GP : plainName "GatePatch" = true := by decide +kernel
theorem ml_GP_88 : Cond.methodLink "GatePatch" 88 yX11_startAll ∈ tblG := mem_t 473 (by decide +kernel) rfl
theorem im_X11_startAll : Cond.instanceMethod yX11_startAll ∈ tblG := mem_t 475 (by decide +kernel) rfl
theorem se_X11_startAll : Cond.selects "GatePatch" yX11_startAll yX11_startAll ∈ tblG := mem_s 0 (by decide +kernel) rfl
theorem cw_X11_startAll : Cond.code yX11_startAll cX11_startAll 4 (Option.none : Option Jvm.ClassFile.FieldType) ∈ tblG := mem_t 476 (by decide +kernel) rfl
theorem ini_GP : Cond.initialized "GatePatch" ∈ tblG := mem_t 1 (by decide +kernel) rfl
theorem nd_X11_startAll : yX11_startAll.cls ≠ "java/lang/invoke/MethodHandle" ∧ yX11_startAll.cls ≠ "java/lang/invoke/VarHandle" ∧ (parseMethodDescriptor yX11_startAll.desc).map (fun d => d.parameters.length) = some 3 := by decide +kernel
theorem fl_GP_92 : FL "GatePatch" 92 0 0 := ⟨R_Cases, T_Cases, 4, ty_Cases, ci_Cases, by decide, mem_t 134 (by decide +kernel) rfl⟩
theorem gs_GP_154 : Cond.fieldLink "GatePatch" 154 "GatePatch" "PIN_COUNT" "[B" ∈ tblG := mem_t 578 (by decide +kernel) rfl
theorem ml_GP_158 : Cond.methodLink "GatePatch" 158 yX8_isWire ∈ tblG := mem_t 580 (by decide +kernel) rfl
theorem ml_GP_212 : Cond.methodLink "GatePatch" 212 yX6_stale ∈ tblG := mem_t 596 (by decide +kernel) rfl
theorem im_X6_stale : Cond.instanceMethod yX6_stale ∈ tblG := mem_t 597 (by decide +kernel) rfl
theorem se_X6_stale : Cond.selects "GatePatch$Net" yX6_stale yX6_stale ∈ tblG := mem_t 598 (by decide +kernel) rfl
theorem cw_X6_stale : Cond.code yX6_stale cX6_stale 1 (Option.none : Option Jvm.ClassFile.FieldType) ∈ tblG := mem_t 599 (by decide +kernel) rfl
theorem nd_X6_stale : yX6_stale.cls ≠ "java/lang/invoke/MethodHandle" ∧ yX6_stale.cls ≠ "java/lang/invoke/VarHandle" ∧ (parseMethodDescriptor yX6_stale.desc).map (fun d => d.parameters.length) = some 0 := by decide +kernel
theorem fp_GP_215 : FP "GatePatch" 215 2 2 .int := ⟨R_Journal, T_Journal, 8, ty_Journal, ci_Journal, by decide, mem_t 420 (by decide +kernel) rfl, rfl, rfl⟩
theorem ml_GP_126 : Cond.methodLink "GatePatch" 126 yX11_netOf ∈ tblG := mem_t 571 (by decide +kernel) rfl
theorem im_X11_netOf : Cond.instanceMethod yX11_netOf ∈ tblG := mem_t 573 (by decide +kernel) rfl
theorem se_X11_netOf : Cond.selects "GatePatch" yX11_netOf yX11_netOf ∈ tblG := mem_s 1 (by decide +kernel) rfl
theorem cw_X11_netOf : Cond.code yX11_netOf cX11_netOf 2 (Option.some (Jvm.ClassFile.FieldType.object "GatePatch$Net")) ∈ tblG := mem_t 574 (by decide +kernel) rfl
theorem nd_X11_netOf : yX11_netOf.cls ≠ "java/lang/invoke/MethodHandle" ∧ yX11_netOf.cls ≠ "java/lang/invoke/VarHandle" ∧ (parseMethodDescriptor yX11_netOf.desc).map (fun d => d.parameters.length) = some 1 := by decide +kernel
theorem fl_GP_130 : FL "GatePatch" 130 5 0 := ⟨R_Net, T_Net, 7, ty_Net, ci_Net, by decide, mem_t 93 (by decide +kernel) rfl⟩
theorem ml_GP_134 : Cond.methodLink "GatePatch" 134 yX11_pinsFit ∈ tblG := mem_t 575 (by decide +kernel) rfl
theorem st_X11_pinsFit : Cond.static yX11_pinsFit ∈ tblG := mem_t 576 (by decide +kernel) rfl
theorem cw_X11_pinsFit : Cond.code yX11_pinsFit cX11_pinsFit 6 (Option.some Jvm.ClassFile.FieldType.boolean) ∈ tblG := mem_t 577 (by decide +kernel) rfl
theorem nd_X11_pinsFit : yX11_pinsFit.cls ≠ "java/lang/invoke/MethodHandle" ∧ yX11_pinsFit.cls ≠ "java/lang/invoke/VarHandle" ∧ (parseMethodDescriptor yX11_pinsFit.desc).map (fun d => d.parameters.length) = some 5 := by decide +kernel
theorem fl_GP_138 : FL "GatePatch" 138 7 3 := ⟨R_Plan, T_Plan, 8, ty_Plan, ci_Plan, by decide, mem_t 52 (by decide +kernel) rfl⟩
theorem fl_GP_143 : FL "GatePatch" 143 5 1 := ⟨R_Net, T_Net, 7, ty_Net, ci_Net, by decide, mem_t 96 (by decide +kernel) rfl⟩
theorem ml_GP_146 : Cond.methodLink "GatePatch" 146 yX8_addGate ∈ tblG := mem_t 588 (by decide +kernel) rfl
theorem ml_GP_150 : Cond.methodLink "GatePatch" 150 yX11_changed ∈ tblG := mem_t 592 (by decide +kernel) rfl
theorem im_X11_changed : Cond.instanceMethod yX11_changed ∈ tblG := mem_t 594 (by decide +kernel) rfl
theorem se_X11_changed : Cond.selects "GatePatch" yX11_changed yX11_changed ∈ tblG := mem_s 2 (by decide +kernel) rfl
theorem cw_X11_changed : Cond.code yX11_changed cX11_changed 2 (Option.none : Option Jvm.ClassFile.FieldType) ∈ tblG := mem_t 595 (by decide +kernel) rfl
theorem nd_X11_changed : yX11_changed.cls ≠ "java/lang/invoke/MethodHandle" ∧ yX11_changed.cls ≠ "java/lang/invoke/VarHandle" ∧ (parseMethodDescriptor yX11_changed.desc).map (fun d => d.parameters.length) = some 1 := by decide +kernel
theorem ml_GP_162 : Cond.methodLink "GatePatch" 162 yX8_isGate ∈ tblG := mem_t 604 (by decide +kernel) rfl
theorem ml_GP_165 : Cond.methodLink "GatePatch" 165 yX8_hasPin ∈ tblG := mem_t 612 (by decide +kernel) rfl
theorem im_X8_hasPin : Cond.instanceMethod yX8_hasPin ∈ tblG := mem_t 613 (by decide +kernel) rfl
theorem se_X8_hasPin : Cond.selects "GatePatch$Plan" yX8_hasPin yX8_hasPin ∈ tblG := mem_t 614 (by decide +kernel) rfl
theorem cw_X8_hasPin : Cond.code yX8_hasPin cX8_hasPin 3 (Option.some Jvm.ClassFile.FieldType.boolean) ∈ tblG := mem_t 615 (by decide +kernel) rfl
theorem nd_X8_hasPin : yX8_hasPin.cls ≠ "java/lang/invoke/MethodHandle" ∧ yX8_hasPin.cls ≠ "java/lang/invoke/VarHandle" ∧ (parseMethodDescriptor yX8_hasPin.desc).map (fun d => d.parameters.length) = some 2 := by decide +kernel
theorem ml_GP_169 : Cond.methodLink "GatePatch" 169 yX6_refresh ∈ tblG := mem_t 617 (by decide +kernel) rfl
theorem im_X6_refresh : Cond.instanceMethod yX6_refresh ∈ tblG := mem_t 618 (by decide +kernel) rfl
theorem se_X6_refresh : Cond.selects "GatePatch$Net" yX6_refresh yX6_refresh ∈ tblG := mem_t 619 (by decide +kernel) rfl
theorem cw_X6_refresh : Cond.code yX6_refresh cX6_refresh 1 (Option.none : Option Jvm.ClassFile.FieldType) ∈ tblG := mem_t 620 (by decide +kernel) rfl
theorem nd_X6_refresh : yX6_refresh.cls ≠ "java/lang/invoke/MethodHandle" ∧ yX6_refresh.cls ≠ "java/lang/invoke/VarHandle" ∧ (parseMethodDescriptor yX6_refresh.desc).map (fun d => d.parameters.length) = some 0 := by decide +kernel
theorem ml_GP_172 : Cond.methodLink "GatePatch" 172 yX6_hangsOn ∈ tblG := mem_t 653 (by decide +kernel) rfl
theorem fl_GP_175 : FL "GatePatch" 175 7 5 := ⟨R_Plan, T_Plan, 8, ty_Plan, ci_Plan, by decide, mem_t 61 (by decide +kernel) rfl⟩
theorem fl_GP_188 : FL "GatePatch" 188 7 6 := ⟨R_Plan, T_Plan, 8, ty_Plan, ci_Plan, by decide, mem_t 67 (by decide +kernel) rfl⟩
theorem fl_GP_178 : FL "GatePatch" 178 7 2 := ⟨R_Plan, T_Plan, 8, ty_Plan, ci_Plan, by decide, mem_t 50 (by decide +kernel) rfl⟩
theorem ml_GP_181 : Cond.methodLink "GatePatch" 181 yX11_see ∈ tblG := mem_t 661 (by decide +kernel) rfl
theorem im_X11_see : Cond.instanceMethod yX11_see ∈ tblG := mem_t 663 (by decide +kernel) rfl
theorem se_X11_see : Cond.selects "GatePatch" yX11_see yX11_see ∈ tblG := mem_s 8 (by decide +kernel) rfl
theorem cw_X11_see : Cond.code yX11_see cX11_see 5 (Option.some Jvm.ClassFile.FieldType.int) ∈ tblG := mem_t 664 (by decide +kernel) rfl
theorem nd_X11_see : yX11_see.cls ≠ "java/lang/invoke/MethodHandle" ∧ yX11_see.cls ≠ "java/lang/invoke/VarHandle" ∧ (parseMethodDescriptor yX11_see.desc).map (fun d => d.parameters.length) = some 3 := by decide +kernel
theorem fl_GP_185 : FL "GatePatch" 185 7 1 := ⟨R_Plan, T_Plan, 8, ty_Plan, ci_Plan, by decide, mem_t 47 (by decide +kernel) rfl⟩
theorem ml_GP_191 : Cond.methodLink "GatePatch" 191 yX0_has ∈ tblG := mem_t 673 (by decide +kernel) rfl
theorem im_X0_has : Cond.instanceMethod yX0_has ∈ tblG := mem_t 674 (by decide +kernel) rfl
theorem se_X0_has : Cond.selects "GatePatch$Cases" yX0_has yX0_has ∈ tblG := mem_t 675 (by decide +kernel) rfl
theorem cw_X0_has : Cond.code yX0_has cX0_has 2 (Option.some Jvm.ClassFile.FieldType.boolean) ∈ tblG := mem_t 676 (by decide +kernel) rfl
theorem nd_X0_has : yX0_has.cls ≠ "java/lang/invoke/MethodHandle" ∧ yX0_has.cls ≠ "java/lang/invoke/VarHandle" ∧ (parseMethodDescriptor yX0_has.desc).map (fun d => d.parameters.length) = some 1 := by decide +kernel
theorem ml_GP_194 : Cond.methodLink "GatePatch" 194 yX0_flip ∈ tblG := mem_t 677 (by decide +kernel) rfl
theorem im_X0_flip : Cond.instanceMethod yX0_flip ∈ tblG := mem_t 678 (by decide +kernel) rfl
theorem se_X0_flip : Cond.selects "GatePatch$Cases" yX0_flip yX0_flip ∈ tblG := mem_t 679 (by decide +kernel) rfl
theorem cw_X0_flip : Cond.code yX0_flip cX0_flip 2 (Option.some Jvm.ClassFile.FieldType.int) ∈ tblG := mem_t 680 (by decide +kernel) rfl
theorem nd_X0_flip : yX0_flip.cls ≠ "java/lang/invoke/MethodHandle" ∧ yX0_flip.cls ≠ "java/lang/invoke/VarHandle" ∧ (parseMethodDescriptor yX0_flip.desc).map (fun d => d.parameters.length) = some 1 := by decide +kernel
theorem fl_GP_198 : FL "GatePatch" 198 5 4 := ⟨R_Net, T_Net, 7, ty_Net, ci_Net, by decide, mem_t 107 (by decide +kernel) rfl⟩
theorem ml_GP_218 : Cond.methodLink "GatePatch" 218 yX11_refreshBoth ∈ tblG := mem_t 697 (by decide +kernel) rfl
theorem im_X11_refreshBoth : Cond.instanceMethod yX11_refreshBoth ∈ tblG := mem_t 699 (by decide +kernel) rfl
theorem se_X11_refreshBoth : Cond.selects "GatePatch" yX11_refreshBoth yX11_refreshBoth ∈ tblG := mem_s 9 (by decide +kernel) rfl
theorem cw_X11_refreshBoth : Cond.code yX11_refreshBoth cX11_refreshBoth 1 (Option.none : Option Jvm.ClassFile.FieldType) ∈ tblG := mem_t 700 (by decide +kernel) rfl
theorem nd_X11_refreshBoth : yX11_refreshBoth.cls ≠ "java/lang/invoke/MethodHandle" ∧ yX11_refreshBoth.cls ≠ "java/lang/invoke/VarHandle" ∧ (parseMethodDescriptor yX11_refreshBoth.desc).map (fun d => d.parameters.length) = some 0 := by decide +kernel
theorem fl_GP_33 : FL "GatePatch" 33 10 3 := ⟨R_GP, T_GP, 16, ty_GP, ci_GP, by decide, mem_t 517 (by decide +kernel) rfl⟩
theorem ml_GP_221 : Cond.methodLink "GatePatch" 221 yX5_firstDifference ∈ tblG := mem_t 701 (by decide +kernel) rfl
theorem im_X5_firstDifference : Cond.instanceMethod yX5_firstDifference ∈ tblG := mem_t 702 (by decide +kernel) rfl
theorem se_X5_firstDifference : Cond.selects "GatePatch$Mender" yX5_firstDifference yX5_firstDifference ∈ tblG := mem_t 703 (by decide +kernel) rfl
theorem cw_X5_firstDifference : Cond.code yX5_firstDifference cX5_firstDifference 4 (Option.some Jvm.ClassFile.FieldType.int) ∈ tblG := mem_t 704 (by decide +kernel) rfl
theorem nd_X5_firstDifference : yX5_firstDifference.cls ≠ "java/lang/invoke/MethodHandle" ∧ yX5_firstDifference.cls ≠ "java/lang/invoke/VarHandle" ∧ (parseMethodDescriptor yX5_firstDifference.desc).map (fun d => d.parameters.length) = some 0 := by decide +kernel
theorem ml_GP_225 : Cond.methodLink "GatePatch" 225 yX5_aim ∈ tblG := mem_t 726 (by decide +kernel) rfl
theorem ml_GP_229 : Cond.methodLink "GatePatch" 229 yX5_firstUnmended ∈ tblG := mem_t 731 (by decide +kernel) rfl
theorem ml_GP_232 : Cond.methodLink "GatePatch" 232 yX5_startSearch ∈ tblG := mem_t 770 (by decide +kernel) rfl
theorem im_X5_startSearch : Cond.instanceMethod yX5_startSearch ∈ tblG := mem_t 771 (by decide +kernel) rfl
theorem se_X5_startSearch : Cond.selects "GatePatch$Mender" yX5_startSearch yX5_startSearch ∈ tblG := mem_t 772 (by decide +kernel) rfl
theorem cw_X5_startSearch : Cond.code yX5_startSearch cX5_startSearch 3 (Option.none : Option Jvm.ClassFile.FieldType) ∈ tblG := mem_t 773 (by decide +kernel) rfl
theorem nd_X5_startSearch : yX5_startSearch.cls ≠ "java/lang/invoke/MethodHandle" ∧ yX5_startSearch.cls ≠ "java/lang/invoke/VarHandle" ∧ (parseMethodDescriptor yX5_startSearch.desc).map (fun d => d.parameters.length) = some 1 := by decide +kernel
theorem ml_GP_235 : Cond.methodLink "GatePatch" 235 yX5_search ∈ tblG := mem_t 783 (by decide +kernel) rfl
theorem im_X5_search : Cond.instanceMethod yX5_search ∈ tblG := mem_t 784 (by decide +kernel) rfl
theorem se_X5_search : Cond.selects "GatePatch$Mender" yX5_search yX5_search ∈ tblG := mem_t 785 (by decide +kernel) rfl
theorem cw_X5_search : Cond.code yX5_search cX5_search 6 (Option.some Jvm.ClassFile.FieldType.boolean) ∈ tblG := mem_t 786 (by decide +kernel) rfl
theorem nd_X5_search : yX5_search.cls ≠ "java/lang/invoke/MethodHandle" ∧ yX5_search.cls ≠ "java/lang/invoke/VarHandle" ∧ (parseMethodDescriptor yX5_search.desc).map (fun d => d.parameters.length) = some 1 := by decide +kernel
theorem fl_GP_238 : FL "GatePatch" 238 4 3 := ⟨R_Mender, T_Mender, 15, ty_Mender, ci_Mender, by decide, mem_t 166 (by decide +kernel) rfl⟩
theorem fl_GP_84 : FL "GatePatch" 84 10 11 := ⟨R_GP, T_GP, 16, ty_GP, ci_GP, by decide, mem_t 525 (by decide +kernel) rfl⟩
theorem ml_GP_241 : Cond.methodLink "GatePatch" 241 arraycopyName ∈ tblG := mem_t 801 (by decide +kernel) rfl
theorem fl_GP_114 : FL "GatePatch" 114 10 12 := ⟨R_GP, T_GP, 16, ty_GP, ci_GP, by decide, mem_t 526 (by decide +kernel) rfl⟩
theorem ml_GP_247 : Cond.methodLink "GatePatch" 247 yX5_leastMending ∈ tblG := mem_t 810 (by decide +kernel) rfl
theorem im_X5_leastMending : Cond.instanceMethod yX5_leastMending ∈ tblG := mem_t 811 (by decide +kernel) rfl
theorem se_X5_leastMending : Cond.selects "GatePatch$Mender" yX5_leastMending yX5_leastMending ∈ tblG := mem_t 812 (by decide +kernel) rfl
theorem cw_X5_leastMending : Cond.code yX5_leastMending cX5_leastMending 3 (Option.some Jvm.ClassFile.FieldType.int) ∈ tblG := mem_t 813 (by decide +kernel) rfl
theorem nd_X5_leastMending : yX5_leastMending.cls ≠ "java/lang/invoke/MethodHandle" ∧ yX5_leastMending.cls ≠ "java/lang/invoke/VarHandle" ∧ (parseMethodDescriptor yX5_leastMending.desc).map (fun d => d.parameters.length) = some 1 := by decide +kernel
theorem ml_GP_250 : Cond.methodLink "GatePatch" 250 yX11_isTape ∈ tblG := mem_t 818 (by decide +kernel) rfl
theorem st_X11_isTape : Cond.static yX11_isTape ∈ tblG := mem_t 819 (by decide +kernel) rfl
theorem cw_X11_isTape : Cond.code yX11_isTape cX11_isTape 1 (Option.some Jvm.ClassFile.FieldType.boolean) ∈ tblG := mem_t 820 (by decide +kernel) rfl
theorem nd_X11_isTape : yX11_isTape.cls ≠ "java/lang/invoke/MethodHandle" ∧ yX11_isTape.cls ≠ "java/lang/invoke/VarHandle" ∧ (parseMethodDescriptor yX11_isTape.desc).map (fun d => d.parameters.length) = some 1 := by decide +kernel
theorem fl_GP_76 : FL "GatePatch" 76 10 9 := ⟨R_GP, T_GP, 16, ty_GP, ci_GP, by decide, mem_t 523 (by decide +kernel) rfl⟩
theorem ml_GP_253 : Cond.methodLink "GatePatch" 253 yX10_hold ∈ tblG := mem_t 821 (by decide +kernel) rfl
theorem im_X10_hold : Cond.instanceMethod yX10_hold ∈ tblG := mem_t 822 (by decide +kernel) rfl
theorem se_X10_hold : Cond.selects "GatePatch$Tape" yX10_hold yX10_hold ∈ tblG := mem_t 823 (by decide +kernel) rfl
theorem cw_X10_hold : Cond.code yX10_hold cX10_hold 3 (Option.none : Option Jvm.ClassFile.FieldType) ∈ tblG := mem_t 824 (by decide +kernel) rfl
theorem ini_Tape : Cond.initialized "GatePatch$Tape" ∈ tblG := mem_t 11 (by decide +kernel) rfl
theorem nd_X10_hold : yX10_hold.cls ≠ "java/lang/invoke/MethodHandle" ∧ yX10_hold.cls ≠ "java/lang/invoke/VarHandle" ∧ (parseMethodDescriptor yX10_hold.desc).map (fun d => d.parameters.length) = some 2 := by decide +kernel
theorem fl_GP_257 : FL "GatePatch" 257 9 2 := ⟨R_Tape, T_Tape, 4, ty_Tape, ci_Tape, by decide, mem_t 461 (by decide +kernel) rfl⟩
theorem ml_GP_260 : Cond.methodLink "GatePatch" 260 yX5_writeLeast ∈ tblG := mem_t 828 (by decide +kernel) rfl
theorem im_X5_writeLeast : Cond.instanceMethod yX5_writeLeast ∈ tblG := mem_t 829 (by decide +kernel) rfl
theorem se_X5_writeLeast : Cond.selects "GatePatch$Mender" yX5_writeLeast yX5_writeLeast ∈ tblG := mem_t 830 (by decide +kernel) rfl
theorem cw_X5_writeLeast : Cond.code yX5_writeLeast cX5_writeLeast 9 (Option.none : Option Jvm.ClassFile.FieldType) ∈ tblG := mem_t 831 (by decide +kernel) rfl
theorem nd_X5_writeLeast : yX5_writeLeast.cls ≠ "java/lang/invoke/MethodHandle" ∧ yX5_writeLeast.cls ≠ "java/lang/invoke/VarHandle" ∧ (parseMethodDescriptor yX5_writeLeast.desc).map (fun d => d.parameters.length) = some 1 := by decide +kernel
theorem fl_GP_123 : FL "GatePatch" 123 10 15 := ⟨R_GP, T_GP, 16, ty_GP, ci_GP, by decide, mem_t 529 (by decide +kernel) rfl⟩
theorem fl_GP_264 : FL "GatePatch" 264 9 0 := ⟨R_Tape, T_Tape, 4, ty_Tape, ci_Tape, by decide, mem_t 457 (by decide +kernel) rfl⟩
theorem fl_GP_270 : FL "GatePatch" 270 9 1 := ⟨R_Tape, T_Tape, 4, ty_Tape, ci_Tape, by decide, mem_t 459 (by decide +kernel) rfl⟩
theorem ml_GP_273 : Cond.methodLink "GatePatch" 273 yX5_firstMisjudged ∈ tblG := mem_t 840 (by decide +kernel) rfl
theorem im_X5_firstMisjudged : Cond.instanceMethod yX5_firstMisjudged ∈ tblG := mem_t 841 (by decide +kernel) rfl
theorem se_X5_firstMisjudged : Cond.selects "GatePatch$Mender" yX5_firstMisjudged yX5_firstMisjudged ∈ tblG := mem_t 842 (by decide +kernel) rfl
theorem cw_X5_firstMisjudged : Cond.code yX5_firstMisjudged cX5_firstMisjudged 5 (Option.some Jvm.ClassFile.FieldType.int) ∈ tblG := mem_t 843 (by decide +kernel) rfl
theorem nd_X5_firstMisjudged : yX5_firstMisjudged.cls ≠ "java/lang/invoke/MethodHandle" ∧ yX5_firstMisjudged.cls ≠ "java/lang/invoke/VarHandle" ∧ (parseMethodDescriptor yX5_firstMisjudged.desc).map (fun d => d.parameters.length) = some 2 := by decide +kernel
theorem ml_GP_267 : Cond.methodLink "GatePatch" 267 yX11_refused ∈ tblG := mem_t 836 (by decide +kernel) rfl
theorem im_X11_refused : Cond.instanceMethod yX11_refused ∈ tblG := mem_t 838 (by decide +kernel) rfl
theorem se_X11_refused : Cond.selects "GatePatch" yX11_refused yX11_refused ∈ tblG := mem_s 19 (by decide +kernel) rfl
theorem cw_X11_refused : Cond.code yX11_refused cX11_refused 2 (Option.some Jvm.ClassFile.FieldType.int) ∈ tblG := mem_t 839 (by decide +kernel) rfl
theorem nd_X11_refused : yX11_refused.cls ≠ "java/lang/invoke/MethodHandle" ∧ yX11_refused.cls ≠ "java/lang/invoke/VarHandle" ∧ (parseMethodDescriptor yX11_refused.desc).map (fun d => d.parameters.length) = some 1 := by decide +kernel
theorem fl_GP_42 : FL "GatePatch" 42 10 4 := ⟨R_GP, T_GP, 16, ty_GP, ci_GP, by decide, mem_t 518 (by decide +kernel) rfl⟩
theorem ml_GP_277 : Cond.methodLink "GatePatch" 277 yX1_tell ∈ tblG := mem_t 856 (by decide +kernel) rfl
theorem fl_GP_280 : FL "GatePatch" 280 4 5 := ⟨R_Mender, T_Mender, 15, ty_Mender, ci_Mender, by decide, mem_t 170 (by decide +kernel) rfl⟩
theorem ml_GP_284 : Cond.methodLink "GatePatch" 284 yX1_toldHangOn ∈ tblG := mem_t 861 (by decide +kernel) rfl
theorem im_X1_toldHangOn : Cond.instanceMethod yX1_toldHangOn ∈ tblG := mem_t 862 (by decide +kernel) rfl
theorem se_X1_toldHangOn : Cond.selects "GatePatch$Finder" yX1_toldHangOn yX1_toldHangOn ∈ tblG := mem_t 863 (by decide +kernel) rfl
theorem cw_X1_toldHangOn : Cond.code yX1_toldHangOn cX1_toldHangOn 4 (Option.some Jvm.ClassFile.FieldType.boolean) ∈ tblG := mem_t 864 (by decide +kernel) rfl
theorem nd_X1_toldHangOn : yX1_toldHangOn.cls ≠ "java/lang/invoke/MethodHandle" ∧ yX1_toldHangOn.cls ≠ "java/lang/invoke/VarHandle" ∧ (parseMethodDescriptor yX1_toldHangOn.desc).map (fun d => d.parameters.length) = some 1 := by decide +kernel
theorem ml_GP_288 : Cond.methodLink "GatePatch" 288 yX1_learn ∈ tblG := mem_t 865 (by decide +kernel) rfl
theorem im_X1_learn : Cond.instanceMethod yX1_learn ∈ tblG := mem_t 866 (by decide +kernel) rfl
theorem se_X1_learn : Cond.selects "GatePatch$Finder" yX1_learn yX1_learn ∈ tblG := mem_t 867 (by decide +kernel) rfl
theorem cw_X1_learn : Cond.code yX1_learn cX1_learn 4 (Option.none : Option Jvm.ClassFile.FieldType) ∈ tblG := mem_t 868 (by decide +kernel) rfl
theorem nd_X1_learn : yX1_learn.cls ≠ "java/lang/invoke/MethodHandle" ∧ yX1_learn.cls ≠ "java/lang/invoke/VarHandle" ∧ (parseMethodDescriptor yX1_learn.desc).map (fun d => d.parameters.length) = some 1 := by decide +kernel
theorem ml_GP_292 : Cond.methodLink "GatePatch" 292 yX1_allow ∈ tblG := mem_t 874 (by decide +kernel) rfl
theorem ml_GP_301 : Cond.methodLink "GatePatch" 301 yX1_choose ∈ tblG := mem_t 897 (by decide +kernel) rfl
theorem ml_GP_304 : Cond.methodLink "GatePatch" 304 yX7_keep ∈ tblG := mem_t 913 (by decide +kernel) rfl
theorem im_X7_keep : Cond.instanceMethod yX7_keep ∈ tblG := mem_t 914 (by decide +kernel) rfl
theorem se_X7_keep : Cond.selects "GatePatch$Patch" yX7_keep yX7_keep ∈ tblG := mem_t 915 (by decide +kernel) rfl
theorem cw_X7_keep : Cond.code yX7_keep cX7_keep 3 (Option.none : Option Jvm.ClassFile.FieldType) ∈ tblG := mem_t 916 (by decide +kernel) rfl
theorem nd_X7_keep : yX7_keep.cls ≠ "java/lang/invoke/MethodHandle" ∧ yX7_keep.cls ≠ "java/lang/invoke/VarHandle" ∧ (parseMethodDescriptor yX7_keep.desc).map (fun d => d.parameters.length) = some 1 := by decide +kernel
theorem fl_GP_308 : FL "GatePatch" 308 1 11 := ⟨R_Finder, T_Finder, 14, ty_Finder, ci_Finder, by decide, mem_t 235 (by decide +kernel) rfl⟩
theorem ml_GP_296 : Cond.methodLink "GatePatch" 296 yX1_findClash ∈ tblG := mem_t 884 (by decide +kernel) rfl
theorem im_X1_findClash : Cond.instanceMethod yX1_findClash ∈ tblG := mem_t 885 (by decide +kernel) rfl
theorem se_X1_findClash : Cond.selects "GatePatch$Finder" yX1_findClash yX1_findClash ∈ tblG := mem_t 886 (by decide +kernel) rfl
theorem cw_X1_findClash : Cond.code yX1_findClash cX1_findClash 3 (Option.none : Option Jvm.ClassFile.FieldType) ∈ tblG := mem_t 887 (by decide +kernel) rfl
theorem nd_X1_findClash : yX1_findClash.cls ≠ "java/lang/invoke/MethodHandle" ∧ yX1_findClash.cls ≠ "java/lang/invoke/VarHandle" ∧ (parseMethodDescriptor yX1_findClash.desc).map (fun d => d.parameters.length) = some 0 := by decide +kernel
theorem fl_GP_299 : FL "GatePatch" 299 1 12 := ⟨R_Finder, T_Finder, 14, ty_Finder, ci_Finder, by decide, mem_t 237 (by decide +kernel) rfl⟩
theorem fl_GP_300 : FL "GatePatch" 300 1 13 := ⟨R_Finder, T_Finder, 14, ty_Finder, ci_Finder, by decide, mem_t 239 (by decide +kernel) rfl⟩
theorem fl_GP_120 : FL "GatePatch" 120 10 14 := ⟨R_GP, T_GP, 16, ty_GP, ci_GP, by decide, mem_t 528 (by decide +kernel) rfl⟩
theorem fl_GP_117 : FL "GatePatch" 117 10 13 := ⟨R_GP, T_GP, 16, ty_GP, ci_GP, by decide, mem_t 527 (by decide +kernel) rfl⟩
theorem ml_GP_315 : Cond.methodLink "GatePatch" 315 yX4_give ∈ tblG := mem_t 946 (by decide +kernel) rfl
theorem fl_GP_311 : FL "GatePatch" 311 3 1 := ⟨R_Marks, T_Marks, 9, ty_Marks, ci_Marks, by decide, mem_t 278 (by decide +kernel) rfl⟩
theorem fl_GP_312 : FL "GatePatch" 312 3 0 := ⟨R_Marks, T_Marks, 9, ty_Marks, ci_Marks, by decide, mem_t 276 (by decide +kernel) rfl⟩
theorem ml_GP_318 : Cond.methodLink "GatePatch" 318 yX4_search ∈ tblG := mem_t 954 (by decide +kernel) rfl
theorem im_X4_search : Cond.instanceMethod yX4_search ∈ tblG := mem_t 955 (by decide +kernel) rfl
theorem se_X4_search : Cond.selects "GatePatch$Marks" yX4_search yX4_search ∈ tblG := mem_t 956 (by decide +kernel) rfl
theorem cw_X4_search : Cond.code yX4_search cX4_search 5 (Option.some Jvm.ClassFile.FieldType.boolean) ∈ tblG := mem_t 957 (by decide +kernel) rfl
theorem nd_X4_search : yX4_search.cls ≠ "java/lang/invoke/MethodHandle" ∧ yX4_search.cls ≠ "java/lang/invoke/VarHandle" ∧ (parseMethodDescriptor yX4_search.desc).map (fun d => d.parameters.length) = some 3 := by decide +kernel
theorem fl_GP_321 : FL "GatePatch" 321 3 8 := ⟨R_Marks, T_Marks, 9, ty_Marks, ci_Marks, by decide, mem_t 286 (by decide +kernel) rfl⟩
theorem fl_GP_324 : FL "GatePatch" 324 6 0 := ⟨R_Patch, T_Patch, 15, ty_Patch, ci_Patch, by decide, mem_t 313 (by decide +kernel) rfl⟩
theorem fl_GP_328 : FL "GatePatch" 328 6 8 := ⟨R_Patch, T_Patch, 15, ty_Patch, ci_Patch, by decide, mem_t 333 (by decide +kernel) rfl⟩
theorem fl_GP_331 : FL "GatePatch" 331 6 3 := ⟨R_Patch, T_Patch, 15, ty_Patch, ci_Patch, by decide, mem_t 321 (by decide +kernel) rfl⟩
theorem fl_GP_333 : FL "GatePatch" 333 6 5 := ⟨R_Patch, T_Patch, 15, ty_Patch, ci_Patch, by decide, mem_t 327 (by decide +kernel) rfl⟩
theorem fl_GP_336 : FL "GatePatch" 336 6 1 := ⟨R_Patch, T_Patch, 15, ty_Patch, ci_Patch, by decide, mem_t 316 (by decide +kernel) rfl⟩
theorem fl_GP_339 : FL "GatePatch" 339 6 6 := ⟨R_Patch, T_Patch, 15, ty_Patch, ci_Patch, by decide, mem_t 329 (by decide +kernel) rfl⟩
theorem fl_GP_342 : FL "GatePatch" 342 6 4 := ⟨R_Patch, T_Patch, 15, ty_Patch, ci_Patch, by decide, mem_t 324 (by decide +kernel) rfl⟩
theorem fl_GP_345 : FL "GatePatch" 345 6 9 := ⟨R_Patch, T_Patch, 15, ty_Patch, ci_Patch, by decide, mem_t 336 (by decide +kernel) rfl⟩
theorem fl_GP_348 : FL "GatePatch" 348 6 10 := ⟨R_Patch, T_Patch, 15, ty_Patch, ci_Patch, by decide, mem_t 339 (by decide +kernel) rfl⟩
theorem fl_GP_351 : FL "GatePatch" 351 6 11 := ⟨R_Patch, T_Patch, 15, ty_Patch, ci_Patch, by decide, mem_t 342 (by decide +kernel) rfl⟩
theorem fl_GP_354 : FL "GatePatch" 354 6 12 := ⟨R_Patch, T_Patch, 15, ty_Patch, ci_Patch, by decide, mem_t 345 (by decide +kernel) rfl⟩
theorem fl_GP_357 : FL "GatePatch" 357 6 13 := ⟨R_Patch, T_Patch, 15, ty_Patch, ci_Patch, by decide, mem_t 348 (by decide +kernel) rfl⟩
theorem ml_GP_360 : Cond.methodLink "GatePatch" 360 yX2_ones ∈ tblG := mem_t 999 (by decide +kernel) rfl
theorem ml_GP_365 : Cond.methodLink "GatePatch" 365 yX2_price ∈ tblG := mem_t 1000 (by decide +kernel) rfl
theorem ml_GP_369 : Cond.methodLink "GatePatch" 369 yX11_isPlace ∈ tblG := mem_t 1005 (by decide +kernel) rfl
theorem st_X11_isPlace : Cond.static yX11_isPlace ∈ tblG := mem_t 1006 (by decide +kernel) rfl
theorem cw_X11_isPlace : Cond.code yX11_isPlace cX11_isPlace 2 (Option.some Jvm.ClassFile.FieldType.boolean) ∈ tblG := mem_t 1007 (by decide +kernel) rfl
theorem nd_X11_isPlace : yX11_isPlace.cls ≠ "java/lang/invoke/MethodHandle" ∧ yX11_isPlace.cls ≠ "java/lang/invoke/VarHandle" ∧ (parseMethodDescriptor yX11_isPlace.desc).map (fun d => d.parameters.length) = some 2 := by decide +kernel
theorem fl_GP_372 : FL "GatePatch" 372 7 7 := ⟨R_Plan, T_Plan, 8, ty_Plan, ci_Plan, by decide, mem_t 70 (by decide +kernel) rfl⟩
theorem fl_GP_375 : FL "GatePatch" 375 8 0 := ⟨R_Spares, T_Spares, 6, ty_Spares, ci_Spares, by decide, mem_t 388 (by decide +kernel) rfl⟩
theorem ml_GP_376 : Cond.methodLink "GatePatch" 376 yX9_addSpare ∈ tblG := mem_t 1012 (by decide +kernel) rfl
theorem im_X9_addSpare : Cond.instanceMethod yX9_addSpare ∈ tblG := mem_t 1013 (by decide +kernel) rfl
theorem se_X9_addSpare : Cond.selects "GatePatch$Spares" yX9_addSpare yX9_addSpare ∈ tblG := mem_t 1014 (by decide +kernel) rfl
theorem cw_X9_addSpare : Cond.code yX9_addSpare cX9_addSpare 3 (Option.some Jvm.ClassFile.FieldType.int) ∈ tblG := mem_t 1015 (by decide +kernel) rfl
theorem nd_X9_addSpare : yX9_addSpare.cls ≠ "java/lang/invoke/MethodHandle" ∧ yX9_addSpare.cls ≠ "java/lang/invoke/VarHandle" ∧ (parseMethodDescriptor yX9_addSpare.desc).map (fun d => d.parameters.length) = some 2 := by decide +kernel
theorem ml_GP_379 : Cond.methodLink "GatePatch" 379 yX9_settle ∈ tblG := mem_t 1020 (by decide +kernel) rfl
theorem im_X9_settle : Cond.instanceMethod yX9_settle ∈ tblG := mem_t 1021 (by decide +kernel) rfl
theorem se_X9_settle : Cond.selects "GatePatch$Spares" yX9_settle yX9_settle ∈ tblG := mem_t 1022 (by decide +kernel) rfl
theorem cw_X9_settle : Cond.code yX9_settle cX9_settle 4 (Option.some Jvm.ClassFile.FieldType.int) ∈ tblG := mem_t 1023 (by decide +kernel) rfl
theorem nd_X9_settle : yX9_settle.cls ≠ "java/lang/invoke/MethodHandle" ∧ yX9_settle.cls ≠ "java/lang/invoke/VarHandle" ∧ (parseMethodDescriptor yX9_settle.desc).map (fun d => d.parameters.length) = some 2 := by decide +kernel
theorem fl_GP_383 : FL "GatePatch" 383 8 1 := ⟨R_Spares, T_Spares, 6, ty_Spares, ci_Spares, by decide, mem_t 390 (by decide +kernel) rfl⟩
theorem ml_GP_386 : Cond.methodLink "GatePatch" 386 yX6_timeAll ∈ tblG := mem_t 1068 (by decide +kernel) rfl
theorem im_X6_timeAll : Cond.instanceMethod yX6_timeAll ∈ tblG := mem_t 1069 (by decide +kernel) rfl
theorem se_X6_timeAll : Cond.selects "GatePatch$Net" yX6_timeAll yX6_timeAll ∈ tblG := mem_t 1070 (by decide +kernel) rfl
theorem cw_X6_timeAll : Cond.code yX6_timeAll cX6_timeAll 6 (Option.none : Option Jvm.ClassFile.FieldType) ∈ tblG := mem_t 1071 (by decide +kernel) rfl
theorem nd_X6_timeAll : yX6_timeAll.cls ≠ "java/lang/invoke/MethodHandle" ∧ yX6_timeAll.cls ≠ "java/lang/invoke/VarHandle" ∧ (parseMethodDescriptor yX6_timeAll.desc).map (fun d => d.parameters.length) = some 1 := by decide +kernel
theorem fl_GP_390 : FL "GatePatch" 390 5 5 := ⟨R_Net, T_Net, 7, ty_Net, ci_Net, by decide, mem_t 109 (by decide +kernel) rfl⟩
theorem ml_GP_393 : Cond.methodLink "GatePatch" 393 yX8_seenCount ∈ tblG := mem_t 1079 (by decide +kernel) rfl
theorem ml_GP_396 : Cond.methodLink "GatePatch" 396 yX7_gatesToAdd ∈ tblG := mem_t 1084 (by decide +kernel) rfl
theorem im_X7_gatesToAdd : Cond.instanceMethod yX7_gatesToAdd ∈ tblG := mem_t 1085 (by decide +kernel) rfl
theorem se_X7_gatesToAdd : Cond.selects "GatePatch$Patch" yX7_gatesToAdd yX7_gatesToAdd ∈ tblG := mem_t 1086 (by decide +kernel) rfl
theorem cw_X7_gatesToAdd : Cond.code yX7_gatesToAdd cX7_gatesToAdd 3 (Option.some Jvm.ClassFile.FieldType.int) ∈ tblG := mem_t 1087 (by decide +kernel) rfl
theorem nd_X7_gatesToAdd : yX7_gatesToAdd.cls ≠ "java/lang/invoke/MethodHandle" ∧ yX7_gatesToAdd.cls ≠ "java/lang/invoke/VarHandle" ∧ (parseMethodDescriptor yX7_gatesToAdd.desc).map (fun d => d.parameters.length) = some 0 := by decide +kernel
theorem ml_GP_399 : Cond.methodLink "GatePatch" 399 yX3_open ∈ tblG := mem_t 1088 (by decide +kernel) rfl
theorem im_X3_open : Cond.instanceMethod yX3_open ∈ tblG := mem_t 1089 (by decide +kernel) rfl
theorem se_X3_open : Cond.selects "GatePatch$Journal" yX3_open yX3_open ∈ tblG := mem_t 1090 (by decide +kernel) rfl
theorem cw_X3_open : Cond.code yX3_open cX3_open 4 (Option.none : Option Jvm.ClassFile.FieldType) ∈ tblG := mem_t 1091 (by decide +kernel) rfl
theorem nd_X3_open : yX3_open.cls ≠ "java/lang/invoke/MethodHandle" ∧ yX3_open.cls ≠ "java/lang/invoke/VarHandle" ∧ (parseMethodDescriptor yX3_open.desc).map (fun d => d.parameters.length) = some 2 := by decide +kernel
theorem ml_GP_414 : Cond.methodLink "GatePatch" 414 yX3_findTests ∈ tblG := mem_t 1127 (by decide +kernel) rfl
theorem im_X3_findTests : Cond.instanceMethod yX3_findTests ∈ tblG := mem_t 1128 (by decide +kernel) rfl
theorem se_X3_findTests : Cond.selects "GatePatch$Journal" yX3_findTests yX3_findTests ∈ tblG := mem_t 1129 (by decide +kernel) rfl
theorem cw_X3_findTests : Cond.code yX3_findTests cX3_findTests 4 (Option.none : Option Jvm.ClassFile.FieldType) ∈ tblG := mem_t 1130 (by decide +kernel) rfl
theorem nd_X3_findTests : yX3_findTests.cls ≠ "java/lang/invoke/MethodHandle" ∧ yX3_findTests.cls ≠ "java/lang/invoke/VarHandle" ∧ (parseMethodDescriptor yX3_findTests.desc).map (fun d => d.parameters.length) = some 2 := by decide +kernel
theorem ml_GP_403 : Cond.methodLink "GatePatch" 403 yX7_addTree ∈ tblG := mem_t 1103 (by decide +kernel) rfl
theorem im_X7_addTree : Cond.instanceMethod yX7_addTree ∈ tblG := mem_t 1104 (by decide +kernel) rfl
theorem se_X7_addTree : Cond.selects "GatePatch$Patch" yX7_addTree yX7_addTree ∈ tblG := mem_t 1105 (by decide +kernel) rfl
theorem cw_X7_addTree : Cond.code yX7_addTree cX7_addTree 7 (Option.some Jvm.ClassFile.FieldType.int) ∈ tblG := mem_t 1106 (by decide +kernel) rfl
theorem nd_X7_addTree : yX7_addTree.cls ≠ "java/lang/invoke/MethodHandle" ∧ yX7_addTree.cls ≠ "java/lang/invoke/VarHandle" ∧ (parseMethodDescriptor yX7_addTree.desc).map (fun d => d.parameters.length) = some 3 := by decide +kernel
theorem fl_GP_407 : FL "GatePatch" 407 6 2 := ⟨R_Patch, T_Patch, 15, ty_Patch, ci_Patch, by decide, mem_t 319 (by decide +kernel) rfl⟩
theorem ml_GP_410 : Cond.methodLink "GatePatch" 410 yX3_replace ∈ tblG := mem_t 1116 (by decide +kernel) rfl
theorem im_X3_replace : Cond.instanceMethod yX3_replace ∈ tblG := mem_t 1117 (by decide +kernel) rfl
theorem se_X3_replace : Cond.selects "GatePatch$Journal" yX3_replace yX3_replace ∈ tblG := mem_t 1118 (by decide +kernel) rfl
theorem cw_X3_replace : Cond.code yX3_replace cX3_replace 6 (Option.none : Option Jvm.ClassFile.FieldType) ∈ tblG := mem_t 1119 (by decide +kernel) rfl
theorem nd_X3_replace : yX3_replace.cls ≠ "java/lang/invoke/MethodHandle" ∧ yX3_replace.cls ≠ "java/lang/invoke/VarHandle" ∧ (parseMethodDescriptor yX3_replace.desc).map (fun d => d.parameters.length) = some 3 := by decide +kernel
theorem ml_GP_424 : Cond.methodLink "GatePatch" 424 yX8_wires ∈ tblG := mem_t 1148 (by decide +kernel) rfl
theorem ml_GP_427 : Cond.methodLink "GatePatch" 427 yX4_forgetFrom ∈ tblG := mem_t 1149 (by decide +kernel) rfl
theorem im_X4_forgetFrom : Cond.instanceMethod yX4_forgetFrom ∈ tblG := mem_t 1150 (by decide +kernel) rfl
theorem se_X4_forgetFrom : Cond.selects "GatePatch$Marks" yX4_forgetFrom yX4_forgetFrom ∈ tblG := mem_t 1151 (by decide +kernel) rfl
theorem cw_X4_forgetFrom : Cond.code yX4_forgetFrom cX4_forgetFrom 3 (Option.none : Option Jvm.ClassFile.FieldType) ∈ tblG := mem_t 1152 (by decide +kernel) rfl
theorem nd_X4_forgetFrom : yX4_forgetFrom.cls ≠ "java/lang/invoke/MethodHandle" ∧ yX4_forgetFrom.cls ≠ "java/lang/invoke/VarHandle" ∧ (parseMethodDescriptor yX4_forgetFrom.desc).map (fun d => d.parameters.length) = some 1 := by decide +kernel
theorem fl_GP_215 : FL "GatePatch" 215 2 2 := ⟨R_Journal, T_Journal, 8, ty_Journal, ci_Journal, by decide, mem_t 420 (by decide +kernel) rfl⟩
theorem ml_GP_417 : Cond.methodLink "GatePatch" 417 yX3_takeBack ∈ tblG := mem_t 1140 (by decide +kernel) rfl
theorem im_X3_takeBack : Cond.instanceMethod yX3_takeBack ∈ tblG := mem_t 1141 (by decide +kernel) rfl
theorem se_X3_takeBack : Cond.selects "GatePatch$Journal" yX3_takeBack yX3_takeBack ∈ tblG := mem_t 1142 (by decide +kernel) rfl
theorem cw_X3_takeBack : Cond.code yX3_takeBack cX3_takeBack 2 (Option.some Jvm.ClassFile.FieldType.int) ∈ tblG := mem_t 1143 (by decide +kernel) rfl
theorem nd_X3_takeBack : yX3_takeBack.cls ≠ "java/lang/invoke/MethodHandle" ∧ yX3_takeBack.cls ≠ "java/lang/invoke/VarHandle" ∧ (parseMethodDescriptor yX3_takeBack.desc).map (fun d => d.parameters.length) = some 1 := by decide +kernel
theorem fp_GP_383 : FP "GatePatch" 383 8 1 .int := ⟨R_Spares, T_Spares, 6, ty_Spares, ci_Spares, by decide, mem_t 390 (by decide +kernel) rfl, rfl, rfl⟩
theorem ml_GP_421 : Cond.methodLink "GatePatch" 421 yX11_oldIsReplaced ∈ tblG := mem_t 1144 (by decide +kernel) rfl
theorem im_X11_oldIsReplaced : Cond.instanceMethod yX11_oldIsReplaced ∈ tblG := mem_t 1146 (by decide +kernel) rfl
theorem se_X11_oldIsReplaced : Cond.selects "GatePatch" yX11_oldIsReplaced yX11_oldIsReplaced ∈ tblG := mem_s 37 (by decide +kernel) rfl
theorem cw_X11_oldIsReplaced : Cond.code yX11_oldIsReplaced cX11_oldIsReplaced 1 (Option.none : Option Jvm.ClassFile.FieldType) ∈ tblG := mem_t 1147 (by decide +kernel) rfl
theorem nd_X11_oldIsReplaced : yX11_oldIsReplaced.cls ≠ "java/lang/invoke/MethodHandle" ∧ yX11_oldIsReplaced.cls ≠ "java/lang/invoke/VarHandle" ∧ (parseMethodDescriptor yX11_oldIsReplaced.desc).map (fun d => d.parameters.length) = some 0 := by decide +kernel
theorem fl_GP_430 : FL "GatePatch" 430 2 4 := ⟨R_Journal, T_Journal, 8, ty_Journal, ci_Journal, by decide, mem_t 424 (by decide +kernel) rfl⟩
theorem fl_GP_433 : FL "GatePatch" 433 2 3 := ⟨R_Journal, T_Journal, 8, ty_Journal, ci_Journal, by decide, mem_t 422 (by decide +kernel) rfl⟩
theorem fl_GP_436 : FL "GatePatch" 436 2 6 := ⟨R_Journal, T_Journal, 8, ty_Journal, ci_Journal, by decide, mem_t 428 (by decide +kernel) rfl⟩
theorem fl_GP_439 : FL "GatePatch" 439 2 5 := ⟨R_Journal, T_Journal, 8, ty_Journal, ci_Journal, by decide, mem_t 426 (by decide +kernel) rfl⟩
theorem ml_GP_445 : Cond.methodLink "GatePatch" 445 yX8_sources ∈ tblG := mem_t 1166 (by decide +kernel) rfl
theorem ml_GP_448 : Cond.methodLink "GatePatch" 448 yJ13_bitCount_95d88 ∈ tblG := mem_t 1167 (by decide +kernel) rfl
theorem fl_GP_442 : FL "GatePatch" 442 5 3 := ⟨R_Net, T_Net, 7, ty_Net, ci_Net, by decide, mem_t 102 (by decide +kernel) rfl⟩
theorem fl_GP_454 : FL "GatePatch" 454 9 3 := ⟨R_Tape, T_Tape, 4, ty_Tape, ci_Tape, by decide, mem_t 463 (by decide +kernel) rfl⟩
theorem ml_GP_455 : Cond.methodLink "GatePatch" 455 yX8_take ∈ tblG := mem_t 1176 (by decide +kernel) rfl
theorem ml_GP_459 : Cond.methodLink "GatePatch" 459 yX11_imageFault ∈ tblG := mem_t 1181 (by decide +kernel) rfl
theorem st_X11_imageFault : Cond.static yX11_imageFault ∈ tblG := mem_t 1182 (by decide +kernel) rfl
theorem cw_X11_imageFault : Cond.code yX11_imageFault cX11_imageFault 1 (Option.some Jvm.ClassFile.FieldType.int) ∈ tblG := mem_t 1183 (by decide +kernel) rfl
theorem nd_X11_imageFault : yX11_imageFault.cls ≠ "java/lang/invoke/MethodHandle" ∧ yX11_imageFault.cls ≠ "java/lang/invoke/VarHandle" ∧ (parseMethodDescriptor yX11_imageFault.desc).map (fun d => d.parameters.length) = some 1 := by decide +kernel
theorem ml_GP_463 : Cond.methodLink "GatePatch" 463 yX8_sameShape ∈ tblG := mem_t 1184 (by decide +kernel) rfl
theorem im_X8_sameShape : Cond.instanceMethod yX8_sameShape ∈ tblG := mem_t 1185 (by decide +kernel) rfl
theorem se_X8_sameShape : Cond.selects "GatePatch$Plan" yX8_sameShape yX8_sameShape ∈ tblG := mem_t 1186 (by decide +kernel) rfl
theorem cw_X8_sameShape : Cond.code yX8_sameShape cX8_sameShape 2 (Option.some Jvm.ClassFile.FieldType.boolean) ∈ tblG := mem_t 1187 (by decide +kernel) rfl
theorem nd_X8_sameShape : yX8_sameShape.cls ≠ "java/lang/invoke/MethodHandle" ∧ yX8_sameShape.cls ≠ "java/lang/invoke/VarHandle" ∧ (parseMethodDescriptor yX8_sameShape.desc).map (fun d => d.parameters.length) = some 1 := by decide +kernel
theorem ml_GP_467 : Cond.methodLink "GatePatch" 467 yX10_isRow ∈ tblG := mem_t 1200 (by decide +kernel) rfl
theorem im_X10_isRow : Cond.instanceMethod yX10_isRow ∈ tblG := mem_t 1201 (by decide +kernel) rfl
theorem se_X10_isRow : Cond.selects "GatePatch$Tape" yX10_isRow yX10_isRow ∈ tblG := mem_t 1202 (by decide +kernel) rfl
theorem cw_X10_isRow : Cond.code yX10_isRow cX10_isRow 1 (Option.some Jvm.ClassFile.FieldType.boolean) ∈ tblG := mem_t 1203 (by decide +kernel) rfl
theorem nd_X10_isRow : yX10_isRow.cls ≠ "java/lang/invoke/MethodHandle" ∧ yX10_isRow.cls ≠ "java/lang/invoke/VarHandle" ∧ (parseMethodDescriptor yX10_isRow.desc).map (fun d => d.parameters.length) = some 0 := by decide +kernel
theorem ml_GP_470 : Cond.methodLink "GatePatch" 470 yX10_hasElement ∈ tblG := mem_t 1204 (by decide +kernel) rfl
theorem im_X10_hasElement : Cond.instanceMethod yX10_hasElement ∈ tblG := mem_t 1205 (by decide +kernel) rfl
theorem se_X10_hasElement : Cond.selects "GatePatch$Tape" yX10_hasElement yX10_hasElement ∈ tblG := mem_t 1206 (by decide +kernel) rfl
theorem cw_X10_hasElement : Cond.code yX10_hasElement cX10_hasElement 2 (Option.some Jvm.ClassFile.FieldType.boolean) ∈ tblG := mem_t 1207 (by decide +kernel) rfl
theorem nd_X10_hasElement : yX10_hasElement.cls ≠ "java/lang/invoke/MethodHandle" ∧ yX10_hasElement.cls ≠ "java/lang/invoke/VarHandle" ∧ (parseMethodDescriptor yX10_hasElement.desc).map (fun d => d.parameters.length) = some 1 := by decide +kernel
theorem ml_GP_473 : Cond.methodLink "GatePatch" 473 yX10_narrowed ∈ tblG := mem_t 1208 (by decide +kernel) rfl
theorem im_X10_narrowed : Cond.instanceMethod yX10_narrowed ∈ tblG := mem_t 1209 (by decide +kernel) rfl
theorem se_X10_narrowed : Cond.selects "GatePatch$Tape" yX10_narrowed yX10_narrowed ∈ tblG := mem_t 1210 (by decide +kernel) rfl
theorem cw_X10_narrowed : Cond.code yX10_narrowed cX10_narrowed 3 (Option.some Jvm.ClassFile.FieldType.long) ∈ tblG := mem_t 1211 (by decide +kernel) rfl
theorem nd_X10_narrowed : yX10_narrowed.cls ≠ "java/lang/invoke/MethodHandle" ∧ yX10_narrowed.cls ≠ "java/lang/invoke/VarHandle" ∧ (parseMethodDescriptor yX10_narrowed.desc).map (fun d => d.parameters.length) = some 1 := by decide +kernel
theorem ml_GP_484 : Cond.methodLink "GatePatch" 484 yX10_hasElements ∈ tblG := mem_t 1216 (by decide +kernel) rfl
theorem im_X10_hasElements : Cond.instanceMethod yX10_hasElements ∈ tblG := mem_t 1217 (by decide +kernel) rfl
theorem se_X10_hasElements : Cond.selects "GatePatch$Tape" yX10_hasElements yX10_hasElements ∈ tblG := mem_t 1218 (by decide +kernel) rfl
theorem cw_X10_hasElements : Cond.code yX10_hasElements cX10_hasElements 3 (Option.some Jvm.ClassFile.FieldType.boolean) ∈ tblG := mem_t 1219 (by decide +kernel) rfl
theorem nd_X10_hasElements : yX10_hasElements.cls ≠ "java/lang/invoke/MethodHandle" ∧ yX10_hasElements.cls ≠ "java/lang/invoke/VarHandle" ∧ (parseMethodDescriptor yX10_hasElements.desc).map (fun d => d.parameters.length) = some 2 := by decide +kernel
theorem fl_GP_487 : FL "GatePatch" 487 7 0 := ⟨R_Plan, T_Plan, 8, ty_Plan, ci_Plan, by decide, mem_t 45 (by decide +kernel) rfl⟩
theorem ml_GP_490 : Cond.methodLink "GatePatch" 490 yX0_freeCount ∈ tblG := mem_t 1224 (by decide +kernel) rfl
theorem im_X0_freeCount : Cond.instanceMethod yX0_freeCount ∈ tblG := mem_t 1225 (by decide +kernel) rfl
theorem se_X0_freeCount : Cond.selects "GatePatch$Cases" yX0_freeCount yX0_freeCount ∈ tblG := mem_t 1226 (by decide +kernel) rfl
theorem cw_X0_freeCount : Cond.code yX0_freeCount cX0_freeCount 3 (Option.some Jvm.ClassFile.FieldType.int) ∈ tblG := mem_t 1227 (by decide +kernel) rfl
theorem nd_X0_freeCount : yX0_freeCount.cls ≠ "java/lang/invoke/MethodHandle" ∧ yX0_freeCount.cls ≠ "java/lang/invoke/VarHandle" ∧ (parseMethodDescriptor yX0_freeCount.desc).map (fun d => d.parameters.length) = some 0 := by decide +kernel
theorem dX11_startAll_0 : decode cX11_startAll 0 = .ok (.aload_n 0, 1) := by decide +kernel
theorem dX11_startAll_1 : decode cX11_startAll 1 = .ok (.getfield 14, 3) := by decide +kernel
theorem dX11_startAll_4 : decode cX11_startAll 4 = .ok (.iload_n 1, 1) := by decide +kernel
theorem dX11_startAll_5 : decode cX11_startAll 5 = .ok (.iload_n 2, 1) := by decide +kernel
theorem dX11_startAll_6 : decode cX11_startAll 6 = .ok (.iload_n 3, 1) := by decide +kernel
theorem dX11_startAll_7 : decode cX11_startAll 7 = .ok (.invokevirtual 96, 3) := by decide +kernel
theorem dX11_startAll_10 : decode cX11_startAll 10 = .ok (.aload_n 0, 1) := by decide +kernel
theorem dX11_startAll_11 : decode cX11_startAll 11 = .ok (.getfield 18, 3) := by decide +kernel
theorem dX11_startAll_14 : decode cX11_startAll 14 = .ok (.iload_n 1, 1) := by decide +kernel
theorem dX11_startAll_15 : decode cX11_startAll 15 = .ok (.iload_n 2, 1) := by decide +kernel
theorem dX11_startAll_16 : decode cX11_startAll 16 = .ok (.iload_n 3, 1) := by decide +kernel
theorem dX11_startAll_17 : decode cX11_startAll 17 = .ok (.invokevirtual 96, 3) := by decide +kernel
theorem dX11_startAll_20 : decode cX11_startAll 20 = .ok (.aload_n 0, 1) := by decide +kernel
theorem dX11_startAll_21 : decode cX11_startAll 21 = .ok (.getfield 24, 3) := by decide +kernel
theorem dX11_startAll_24 : decode cX11_startAll 24 = .ok (.iload_n 1, 1) := by decide +kernel
theorem dX11_startAll_25 : decode cX11_startAll 25 = .ok (.iload_n 2, 1) := by decide +kernel
theorem dX11_startAll_26 : decode cX11_startAll 26 = .ok (.iadd, 1) := by decide +kernel
theorem dX11_startAll_27 : decode cX11_startAll 27 = .ok (.invokevirtual 99, 3) := by decide +kernel
theorem dX11_startAll_30 : decode cX11_startAll 30 = .ok (.aload_n 0, 1) := by decide +kernel
theorem dX11_startAll_31 : decode cX11_startAll 31 = .ok (.getfield 49, 3) := by decide +kernel
theorem dX11_startAll_34 : decode cX11_startAll 34 = .ok (.invokevirtual 101, 3) := by decide +kernel
theorem dX11_startAll_37 : decode cX11_startAll 37 = .ok (.aload_n 0, 1) := by decide +kernel
theorem dX11_startAll_38 : decode cX11_startAll 38 = .ok (.getfield 56, 3) := by decide +kernel
theorem dX11_startAll_41 : decode cX11_startAll 41 = .ok (.invokevirtual 103, 3) := by decide +kernel
theorem dX11_startAll_44 : decode cX11_startAll 44 = .ok (.aload_n 0, 1) := by decide +kernel
theorem dX11_startAll_45 : decode cX11_startAll 45 = .ok (.getfield 63, 3) := by decide +kernel
theorem dX11_startAll_48 : decode cX11_startAll 48 = .ok (.invokevirtual 106, 3) := by decide +kernel
theorem dX11_startAll_51 : decode cX11_startAll 51 = .ok (.aload_n 0, 1) := by decide +kernel
theorem dX11_startAll_52 : decode cX11_startAll 52 = .ok (.getfield 70, 3) := by decide +kernel
theorem dX11_startAll_55 : decode cX11_startAll 55 = .ok (.invokevirtual 107, 3) := by decide +kernel
theorem dX11_startAll_58 : decode cX11_startAll 58 = .ok (.aload_n 0, 1) := by decide +kernel
theorem dX11_startAll_59 : decode cX11_startAll 59 = .ok (.getfield 80, 3) := by decide +kernel
theorem dX11_startAll_62 : decode cX11_startAll 62 = .ok (.iconst 1, 1) := by decide +kernel
theorem dX11_startAll_63 : decode cX11_startAll 63 = .ok (.invokestatic 108, 3) := by decide +kernel
theorem dX11_startAll_66 : decode cX11_startAll 66 = .ok (.aload_n 0, 1) := by decide +kernel
theorem dX11_startAll_67 : decode cX11_startAll 67 = .ok (.iconst 0, 1) := by decide +kernel
theorem dX11_startAll_68 : decode cX11_startAll 68 = .ok (.putfield 114, 3) := by decide +kernel
theorem dX11_startAll_71 : decode cX11_startAll 71 = .ok (.aload_n 0, 1) := by decide +kernel
theorem dX11_startAll_72 : decode cX11_startAll 72 = .ok (.iconst (-1), 1) := by decide +kernel
theorem dX11_startAll_73 : decode cX11_startAll 73 = .ok (.putfield 117, 3) := by decide +kernel
theorem dX11_startAll_76 : decode cX11_startAll 76 = .ok (.aload_n 0, 1) := by decide +kernel
theorem dX11_startAll_77 : decode cX11_startAll 77 = .ok (.iconst (-1), 1) := by decide +kernel
theorem dX11_startAll_78 : decode cX11_startAll 78 = .ok (.putfield 120, 3) := by decide +kernel
theorem dX11_startAll_81 : decode cX11_startAll 81 = .ok (.aload_n 0, 1) := by decide +kernel
theorem dX11_startAll_82 : decode cX11_startAll 82 = .ok (.iconst 0, 1) := by decide +kernel
theorem dX11_startAll_83 : decode cX11_startAll 83 = .ok (.putfield 123, 3) := by decide +kernel
theorem dX11_startAll_86 : decode cX11_startAll 86 = .ok (.return_, 1) := by decide +kernel
theorem dX11_begin_0 : decode cX11_begin 0 = .ok (.iload_n 1, 1) := by decide +kernel
theorem dX11_begin_1 : decode cX11_begin 1 = .ok (.ifCond .lt 18, 3) := by decide +kernel
theorem dX11_begin_4 : decode cX11_begin 4 = .ok (.iload_n 1, 1) := by decide +kernel
theorem dX11_begin_5 : decode cX11_begin 5 = .ok (.bipush 8, 2) := by decide +kernel
theorem dX11_begin_7 : decode cX11_begin 7 = .ok (.if_icmp .gt 12, 3) := by decide +kernel
theorem dX11_begin_10 : decode cX11_begin 10 = .ok (.iload_n 2, 1) := by decide +kernel
theorem dX11_begin_11 : decode cX11_begin 11 = .ok (.ifCond .lt 8, 3) := by decide +kernel
theorem dX11_begin_14 : decode cX11_begin 14 = .ok (.iload_n 2, 1) := by decide +kernel
theorem dX11_begin_15 : decode cX11_begin 15 = .ok (.iconst 2, 1) := by decide +kernel
theorem dX11_begin_16 : decode cX11_begin 16 = .ok (.if_icmp .le 5, 3) := by decide +kernel
theorem dX11_begin_19 : decode cX11_begin 19 = .ok (.iconst (-1), 1) := by decide +kernel
theorem dX11_begin_20 : decode cX11_begin 20 = .ok (.ireturn, 1) := by decide +kernel
theorem dX11_begin_21 : decode cX11_begin 21 = .ok (.iload_n 1, 1) := by decide +kernel
theorem dX11_begin_22 : decode cX11_begin 22 = .ok (.iload_n 2, 1) := by decide +kernel
theorem dX11_begin_23 : decode cX11_begin 23 = .ok (.iadd, 1) := by decide +kernel
theorem dX11_begin_24 : decode cX11_begin 24 = .ok (.istore 4, 2) := by decide +kernel
theorem dX11_begin_26 : decode cX11_begin 26 = .ok (.iload 4, 2) := by decide +kernel
theorem dX11_begin_28 : decode cX11_begin 28 = .ok (.iconst 1, 1) := by decide +kernel
theorem dX11_begin_29 : decode cX11_begin 29 = .ok (.if_icmp .lt 20, 3) := by decide +kernel
theorem dX11_begin_32 : decode cX11_begin 32 = .ok (.iload 4, 2) := by decide +kernel
theorem dX11_begin_34 : decode cX11_begin 34 = .ok (.bipush 8, 2) := by decide +kernel
theorem dX11_begin_36 : decode cX11_begin 36 = .ok (.if_icmp .gt 13, 3) := by decide +kernel
theorem dX11_begin_39 : decode cX11_begin 39 = .ok (.iload_n 3, 1) := by decide +kernel
theorem dX11_begin_40 : decode cX11_begin 40 = .ok (.iconst 1, 1) := by decide +kernel
theorem dX11_begin_41 : decode cX11_begin 41 = .ok (.if_icmp .lt 8, 3) := by decide +kernel
theorem dX11_begin_44 : decode cX11_begin 44 = .ok (.iload_n 3, 1) := by decide +kernel
theorem dX11_begin_45 : decode cX11_begin 45 = .ok (.iconst 4, 1) := by decide +kernel
theorem dX11_begin_46 : decode cX11_begin 46 = .ok (.if_icmp .le 5, 3) := by decide +kernel
theorem dX11_begin_49 : decode cX11_begin 49 = .ok (.iconst (-1), 1) := by decide +kernel
theorem dX11_begin_50 : decode cX11_begin 50 = .ok (.ireturn, 1) := by decide +kernel
theorem dX11_begin_51 : decode cX11_begin 51 = .ok (.aload_n 0, 1) := by decide +kernel
theorem dX11_begin_52 : decode cX11_begin 52 = .ok (.iload_n 1, 1) := by decide +kernel
theorem dX11_begin_53 : decode cX11_begin 53 = .ok (.iload_n 2, 1) := by decide +kernel
theorem dX11_begin_54 : decode cX11_begin 54 = .ok (.iload_n 3, 1) := by decide +kernel
theorem dX11_begin_55 : decode cX11_begin 55 = .ok (.invokevirtual 88, 3) := by decide +kernel
theorem dX11_begin_58 : decode cX11_begin 58 = .ok (.aload_n 0, 1) := by decide +kernel
theorem dX11_begin_59 : decode cX11_begin 59 = .ok (.getfield 24, 3) := by decide +kernel
theorem dX11_begin_62 : decode cX11_begin 62 = .ok (.getfield 92, 3) := by decide +kernel
theorem dX11_begin_65 : decode cX11_begin 65 = .ok (.ireturn, 1) := by decide +kernel
theorem dX11_netOf_0 : decode cX11_netOf 0 = .ok (.iload_n 1, 1) := by decide +kernel
theorem dX11_netOf_1 : decode cX11_netOf 1 = .ok (.ifCond .ne 8, 3) := by decide +kernel
theorem dX11_netOf_4 : decode cX11_netOf 4 = .ok (.aload_n 0, 1) := by decide +kernel
theorem dX11_netOf_5 : decode cX11_netOf 5 = .ok (.getfield 14, 3) := by decide +kernel
theorem dX11_netOf_8 : decode cX11_netOf 8 = .ok (.areturn, 1) := by decide +kernel
theorem dX11_netOf_9 : decode cX11_netOf 9 = .ok (.iload_n 1, 1) := by decide +kernel
theorem dX11_netOf_10 : decode cX11_netOf 10 = .ok (.iconst 1, 1) := by decide +kernel
theorem dX11_netOf_11 : decode cX11_netOf 11 = .ok (.if_icmp .ne 10, 3) := by decide +kernel
theorem dX11_netOf_14 : decode cX11_netOf 14 = .ok (.aload_n 0, 1) := by decide +kernel
theorem dX11_netOf_15 : decode cX11_netOf 15 = .ok (.getfield 18, 3) := by decide +kernel
theorem dX11_netOf_18 : decode cX11_netOf 18 = .ok (.goto 4, 3) := by decide +kernel
theorem dX11_netOf_21 : decode cX11_netOf 21 = .ok (.aconst_null, 1) := by decide +kernel
theorem dX11_netOf_22 : decode cX11_netOf 22 = .ok (.areturn, 1) := by decide +kernel
theorem dX11_pinsFit_0 : decode cX11_pinsFit 0 = .ok (.getstatic 154, 3) := by decide +kernel
theorem dX11_pinsFit_3 : decode cX11_pinsFit 3 = .ok (.iload_n 1, 1) := by decide +kernel
theorem dX11_pinsFit_4 : decode cX11_pinsFit 4 = .ok (.baload, 1) := by decide +kernel
theorem dX11_pinsFit_5 : decode cX11_pinsFit 5 = .ok (.istore 5, 2) := by decide +kernel
theorem dX11_pinsFit_7 : decode cX11_pinsFit 7 = .ok (.iload 5, 2) := by decide +kernel
theorem dX11_pinsFit_9 : decode cX11_pinsFit 9 = .ok (.ifCond .le 14, 3) := by decide +kernel
theorem dX11_pinsFit_12 : decode cX11_pinsFit 12 = .ok (.aload_n 0, 1) := by decide +kernel
theorem dX11_pinsFit_13 : decode cX11_pinsFit 13 = .ok (.iload_n 2, 1) := by decide +kernel
theorem dX11_pinsFit_14 : decode cX11_pinsFit 14 = .ok (.invokevirtual 158, 3) := by decide +kernel
theorem dX11_pinsFit_17 : decode cX11_pinsFit 17 = .ok (.ifCond .eq 61, 3) := by decide +kernel
theorem dX11_pinsFit_20 : decode cX11_pinsFit 20 = .ok (.goto 8, 3) := by decide +kernel
theorem dX11_pinsFit_23 : decode cX11_pinsFit 23 = .ok (.iload_n 2, 1) := by decide +kernel
theorem dX11_pinsFit_24 : decode cX11_pinsFit 24 = .ok (.iconst (-1), 1) := by decide +kernel
theorem dX11_pinsFit_25 : decode cX11_pinsFit 25 = .ok (.if_icmp .ne 53, 3) := by decide +kernel
theorem dX11_pinsFit_28 : decode cX11_pinsFit 28 = .ok (.iload 5, 2) := by decide +kernel
theorem dX11_pinsFit_30 : decode cX11_pinsFit 30 = .ok (.iconst 1, 1) := by decide +kernel
theorem dX11_pinsFit_31 : decode cX11_pinsFit 31 = .ok (.if_icmp .le 14, 3) := by decide +kernel
theorem dX11_pinsFit_34 : decode cX11_pinsFit 34 = .ok (.aload_n 0, 1) := by decide +kernel
theorem dX11_pinsFit_35 : decode cX11_pinsFit 35 = .ok (.iload_n 3, 1) := by decide +kernel
theorem dX11_pinsFit_36 : decode cX11_pinsFit 36 = .ok (.invokevirtual 158, 3) := by decide +kernel
theorem dX11_pinsFit_39 : decode cX11_pinsFit 39 = .ok (.ifCond .eq 39, 3) := by decide +kernel
theorem dX11_pinsFit_42 : decode cX11_pinsFit 42 = .ok (.goto 8, 3) := by decide +kernel
theorem dX11_pinsFit_45 : decode cX11_pinsFit 45 = .ok (.iload_n 3, 1) := by decide +kernel
theorem dX11_pinsFit_46 : decode cX11_pinsFit 46 = .ok (.iconst (-1), 1) := by decide +kernel
theorem dX11_pinsFit_47 : decode cX11_pinsFit 47 = .ok (.if_icmp .ne 31, 3) := by decide +kernel
theorem dX11_pinsFit_50 : decode cX11_pinsFit 50 = .ok (.iload 5, 2) := by decide +kernel
theorem dX11_pinsFit_52 : decode cX11_pinsFit 52 = .ok (.iconst 2, 1) := by decide +kernel
theorem dX11_pinsFit_53 : decode cX11_pinsFit 53 = .ok (.if_icmp .le 15, 3) := by decide +kernel
theorem dX11_pinsFit_56 : decode cX11_pinsFit 56 = .ok (.aload_n 0, 1) := by decide +kernel
theorem dX11_pinsFit_57 : decode cX11_pinsFit 57 = .ok (.iload 4, 2) := by decide +kernel
theorem dX11_pinsFit_59 : decode cX11_pinsFit 59 = .ok (.invokevirtual 158, 3) := by decide +kernel
theorem dX11_pinsFit_62 : decode cX11_pinsFit 62 = .ok (.ifCond .eq 16, 3) := by decide +kernel
theorem dX11_pinsFit_65 : decode cX11_pinsFit 65 = .ok (.goto 9, 3) := by decide +kernel
theorem dX11_pinsFit_68 : decode cX11_pinsFit 68 = .ok (.iload 4, 2) := by decide +kernel
theorem dX11_pinsFit_70 : decode cX11_pinsFit 70 = .ok (.iconst (-1), 1) := by decide +kernel
theorem dX11_pinsFit_71 : decode cX11_pinsFit 71 = .ok (.if_icmp .ne 7, 3) := by decide +kernel
theorem dX11_pinsFit_74 : decode cX11_pinsFit 74 = .ok (.iconst 1, 1) := by decide +kernel
theorem dX11_pinsFit_75 : decode cX11_pinsFit 75 = .ok (.goto 4, 3) := by decide +kernel
theorem dX11_pinsFit_78 : decode cX11_pinsFit 78 = .ok (.iconst 0, 1) := by decide +kernel
theorem dX11_pinsFit_79 : decode cX11_pinsFit 79 = .ok (.ireturn, 1) := by decide +kernel
theorem dX11_changed_0 : decode cX11_changed 0 = .ok (.aload_n 1, 1) := by decide +kernel
theorem dX11_changed_1 : decode cX11_changed 1 = .ok (.invokevirtual 212, 3) := by decide +kernel
theorem dX11_changed_4 : decode cX11_changed 4 = .ok (.aload_n 0, 1) := by decide +kernel
theorem dX11_changed_5 : decode cX11_changed 5 = .ok (.getfield 56, 3) := by decide +kernel
theorem dX11_changed_8 : decode cX11_changed 8 = .ok (.invokevirtual 103, 3) := by decide +kernel
theorem dX11_changed_11 : decode cX11_changed 11 = .ok (.aload_n 1, 1) := by decide +kernel
theorem dX11_changed_12 : decode cX11_changed 12 = .ok (.aload_n 0, 1) := by decide +kernel
theorem dX11_changed_13 : decode cX11_changed 13 = .ok (.getfield 14, 3) := by decide +kernel
theorem dX11_changed_16 : decode cX11_changed 16 = .ok (.if_acmp .ne 11, 3) := by decide +kernel
theorem dX11_changed_19 : decode cX11_changed 19 = .ok (.aload_n 0, 1) := by decide +kernel
theorem dX11_changed_20 : decode cX11_changed 20 = .ok (.getfield 70, 3) := by decide +kernel
theorem dX11_changed_23 : decode cX11_changed 23 = .ok (.iconst 0, 1) := by decide +kernel
theorem dX11_changed_24 : decode cX11_changed 24 = .ok (.putfield 215, 3) := by decide +kernel
theorem dX11_changed_27 : decode cX11_changed 27 = .ok (.return_, 1) := by decide +kernel
theorem dX11_gate_0 : decode cX11_gate 0 = .ok (.aload_n 0, 1) := by decide +kernel
theorem dX11_gate_1 : decode cX11_gate 1 = .ok (.iload_n 1, 1) := by decide +kernel
theorem dX11_gate_2 : decode cX11_gate 2 = .ok (.invokevirtual 126, 3) := by decide +kernel
theorem dX11_gate_5 : decode cX11_gate 5 = .ok (.astore 6, 2) := by decide +kernel
theorem dX11_gate_7 : decode cX11_gate 7 = .ok (.aload 6, 2) := by decide +kernel
theorem dX11_gate_9 : decode cX11_gate 9 = .ok (.ifnull 30, 3) := by decide +kernel
theorem dX11_gate_12 : decode cX11_gate 12 = .ok (.iload_n 2, 1) := by decide +kernel
theorem dX11_gate_13 : decode cX11_gate 13 = .ok (.ifCond .lt 26, 3) := by decide +kernel
theorem dX11_gate_16 : decode cX11_gate 16 = .ok (.iload_n 2, 1) := by decide +kernel
theorem dX11_gate_17 : decode cX11_gate 17 = .ok (.bipush 9, 2) := by decide +kernel
theorem dX11_gate_19 : decode cX11_gate 19 = .ok (.if_icmp .ge 20, 3) := by decide +kernel
theorem dX11_gate_22 : decode cX11_gate 22 = .ok (.aload 6, 2) := by decide +kernel
theorem dX11_gate_24 : decode cX11_gate 24 = .ok (.getfield 130, 3) := by decide +kernel
theorem dX11_gate_27 : decode cX11_gate 27 = .ok (.iload_n 2, 1) := by decide +kernel
theorem dX11_gate_28 : decode cX11_gate 28 = .ok (.iload_n 3, 1) := by decide +kernel
theorem dX11_gate_29 : decode cX11_gate 29 = .ok (.iload 4, 2) := by decide +kernel
theorem dX11_gate_31 : decode cX11_gate 31 = .ok (.iload 5, 2) := by decide +kernel
theorem dX11_gate_33 : decode cX11_gate 33 = .ok (.invokestatic 134, 3) := by decide +kernel
theorem dX11_gate_36 : decode cX11_gate 36 = .ok (.ifCond .ne 5, 3) := by decide +kernel
theorem dX11_gate_39 : decode cX11_gate 39 = .ok (.iconst (-1), 1) := by decide +kernel
theorem dX11_gate_40 : decode cX11_gate 40 = .ok (.ireturn, 1) := by decide +kernel
theorem dX11_gate_41 : decode cX11_gate 41 = .ok (.aload 6, 2) := by decide +kernel
theorem dX11_gate_43 : decode cX11_gate 43 = .ok (.getfield 130, 3) := by decide +kernel
theorem dX11_gate_46 : decode cX11_gate 46 = .ok (.getfield 138, 3) := by decide +kernel
theorem dX11_gate_49 : decode cX11_gate 49 = .ok (.aload 6, 2) := by decide +kernel
theorem dX11_gate_51 : decode cX11_gate 51 = .ok (.getfield 143, 3) := by decide +kernel
theorem dX11_gate_54 : decode cX11_gate 54 = .ok (.if_icmp .lt 6, 3) := by decide +kernel
theorem dX11_gate_57 : decode cX11_gate 57 = .ok (.bipush (-3), 2) := by decide +kernel
theorem dX11_gate_59 : decode cX11_gate 59 = .ok (.ireturn, 1) := by decide +kernel
theorem dX11_gate_60 : decode cX11_gate 60 = .ok (.aload 6, 2) := by decide +kernel
theorem dX11_gate_62 : decode cX11_gate 62 = .ok (.getfield 130, 3) := by decide +kernel
theorem dX11_gate_65 : decode cX11_gate 65 = .ok (.iload_n 2, 1) := by decide +kernel
theorem dX11_gate_66 : decode cX11_gate 66 = .ok (.iload_n 3, 1) := by decide +kernel
theorem dX11_gate_67 : decode cX11_gate 67 = .ok (.iload 4, 2) := by decide +kernel
theorem dX11_gate_69 : decode cX11_gate 69 = .ok (.iload 5, 2) := by decide +kernel
theorem dX11_gate_71 : decode cX11_gate 71 = .ok (.iconst 0, 1) := by decide +kernel
theorem dX11_gate_72 : decode cX11_gate 72 = .ok (.invokevirtual 146, 3) := by decide +kernel
theorem dX11_gate_75 : decode cX11_gate 75 = .ok (.istore 7, 2) := by decide +kernel
theorem dX11_gate_77 : decode cX11_gate 77 = .ok (.aload_n 0, 1) := by decide +kernel
theorem dX11_gate_78 : decode cX11_gate 78 = .ok (.aload 6, 2) := by decide +kernel
theorem dX11_gate_80 : decode cX11_gate 80 = .ok (.invokevirtual 150, 3) := by decide +kernel
theorem dX11_gate_83 : decode cX11_gate 83 = .ok (.iload 7, 2) := by decide +kernel
theorem dX11_gate_85 : decode cX11_gate 85 = .ok (.ireturn, 1) := by decide +kernel
theorem dX11_rewire_0 : decode cX11_rewire 0 = .ok (.aload_n 0, 1) := by decide +kernel
theorem dX11_rewire_1 : decode cX11_rewire 1 = .ok (.iload_n 1, 1) := by decide +kernel
theorem dX11_rewire_2 : decode cX11_rewire 2 = .ok (.invokevirtual 126, 3) := by decide +kernel
theorem dX11_rewire_5 : decode cX11_rewire 5 = .ok (.astore 5, 2) := by decide +kernel
theorem dX11_rewire_7 : decode cX11_rewire 7 = .ok (.aload 5, 2) := by decide +kernel
theorem dX11_rewire_9 : decode cX11_rewire 9 = .ok (.ifnull 41, 3) := by decide +kernel
theorem dX11_rewire_12 : decode cX11_rewire 12 = .ok (.aload 5, 2) := by decide +kernel
theorem dX11_rewire_14 : decode cX11_rewire 14 = .ok (.getfield 130, 3) := by decide +kernel
theorem dX11_rewire_17 : decode cX11_rewire 17 = .ok (.iload_n 2, 1) := by decide +kernel
theorem dX11_rewire_18 : decode cX11_rewire 18 = .ok (.invokevirtual 162, 3) := by decide +kernel
theorem dX11_rewire_21 : decode cX11_rewire 21 = .ok (.ifCond .eq 29, 3) := by decide +kernel
theorem dX11_rewire_24 : decode cX11_rewire 24 = .ok (.aload 5, 2) := by decide +kernel
theorem dX11_rewire_26 : decode cX11_rewire 26 = .ok (.getfield 130, 3) := by decide +kernel
theorem dX11_rewire_29 : decode cX11_rewire 29 = .ok (.iload_n 2, 1) := by decide +kernel
theorem dX11_rewire_30 : decode cX11_rewire 30 = .ok (.iload_n 3, 1) := by decide +kernel
theorem dX11_rewire_31 : decode cX11_rewire 31 = .ok (.invokevirtual 165, 3) := by decide +kernel
theorem dX11_rewire_34 : decode cX11_rewire 34 = .ok (.ifCond .eq 16, 3) := by decide +kernel
theorem dX11_rewire_37 : decode cX11_rewire 37 = .ok (.aload 5, 2) := by decide +kernel
theorem dX11_rewire_39 : decode cX11_rewire 39 = .ok (.getfield 130, 3) := by decide +kernel
theorem dX11_rewire_42 : decode cX11_rewire 42 = .ok (.iload 4, 2) := by decide +kernel
theorem dX11_rewire_44 : decode cX11_rewire 44 = .ok (.invokevirtual 158, 3) := by decide +kernel
theorem dX11_rewire_47 : decode cX11_rewire 47 = .ok (.ifCond .ne 5, 3) := by decide +kernel
theorem dX11_rewire_50 : decode cX11_rewire 50 = .ok (.iconst (-1), 1) := by decide +kernel
theorem dX11_rewire_51 : decode cX11_rewire 51 = .ok (.ireturn, 1) := by decide +kernel
theorem dX11_rewire_52 : decode cX11_rewire 52 = .ok (.aload 5, 2) := by decide +kernel
theorem dX11_rewire_54 : decode cX11_rewire 54 = .ok (.invokevirtual 169, 3) := by decide +kernel
theorem dX11_rewire_57 : decode cX11_rewire 57 = .ok (.aload 5, 2) := by decide +kernel
theorem dX11_rewire_59 : decode cX11_rewire 59 = .ok (.iload 4, 2) := by decide +kernel
theorem dX11_rewire_61 : decode cX11_rewire 61 = .ok (.iload_n 2, 1) := by decide +kernel
theorem dX11_rewire_62 : decode cX11_rewire 62 = .ok (.invokevirtual 172, 3) := by decide +kernel
theorem dX11_rewire_65 : decode cX11_rewire 65 = .ok (.ifCond .eq 6, 3) := by decide +kernel
theorem dX11_rewire_68 : decode cX11_rewire 68 = .ok (.bipush (-2), 2) := by decide +kernel
theorem dX11_rewire_70 : decode cX11_rewire 70 = .ok (.ireturn, 1) := by decide +kernel
theorem dX11_rewire_71 : decode cX11_rewire 71 = .ok (.iconst 3, 1) := by decide +kernel
theorem dX11_rewire_72 : decode cX11_rewire 72 = .ok (.iload_n 2, 1) := by decide +kernel
theorem dX11_rewire_73 : decode cX11_rewire 73 = .ok (.imul, 1) := by decide +kernel
theorem dX11_rewire_74 : decode cX11_rewire 74 = .ok (.iload_n 3, 1) := by decide +kernel
theorem dX11_rewire_75 : decode cX11_rewire 75 = .ok (.iadd, 1) := by decide +kernel
theorem dX11_rewire_76 : decode cX11_rewire 76 = .ok (.istore 6, 2) := by decide +kernel
theorem dX11_rewire_78 : decode cX11_rewire 78 = .ok (.aload 5, 2) := by decide +kernel
theorem dX11_rewire_80 : decode cX11_rewire 80 = .ok (.getfield 130, 3) := by decide +kernel
theorem dX11_rewire_83 : decode cX11_rewire 83 = .ok (.getfield 175, 3) := by decide +kernel
theorem dX11_rewire_86 : decode cX11_rewire 86 = .ok (.iload 6, 2) := by decide +kernel
theorem dX11_rewire_88 : decode cX11_rewire 88 = .ok (.iaload, 1) := by decide +kernel
theorem dX11_rewire_89 : decode cX11_rewire 89 = .ok (.istore 7, 2) := by decide +kernel
theorem dX11_rewire_91 : decode cX11_rewire 91 = .ok (.aload 5, 2) := by decide +kernel
theorem dX11_rewire_93 : decode cX11_rewire 93 = .ok (.getfield 130, 3) := by decide +kernel
theorem dX11_rewire_96 : decode cX11_rewire 96 = .ok (.getfield 175, 3) := by decide +kernel
theorem dX11_rewire_99 : decode cX11_rewire 99 = .ok (.iload 6, 2) := by decide +kernel
theorem dX11_rewire_101 : decode cX11_rewire 101 = .ok (.iload 4, 2) := by decide +kernel
theorem dX11_rewire_103 : decode cX11_rewire 103 = .ok (.iastore, 1) := by decide +kernel
theorem dX11_rewire_104 : decode cX11_rewire 104 = .ok (.aload_n 0, 1) := by decide +kernel
theorem dX11_rewire_105 : decode cX11_rewire 105 = .ok (.aload 5, 2) := by decide +kernel
theorem dX11_rewire_107 : decode cX11_rewire 107 = .ok (.invokevirtual 150, 3) := by decide +kernel
theorem dX11_rewire_110 : decode cX11_rewire 110 = .ok (.iload 7, 2) := by decide +kernel
theorem dX11_rewire_112 : decode cX11_rewire 112 = .ok (.ireturn, 1) := by decide +kernel
theorem dX11_see_0 : decode cX11_see 0 = .ok (.aload_n 1, 1) := by decide +kernel
theorem dX11_see_1 : decode cX11_see 1 = .ok (.getfield 130, 3) := by decide +kernel
theorem dX11_see_4 : decode cX11_see 4 = .ok (.getfield 188, 3) := by decide +kernel
theorem dX11_see_7 : decode cX11_see 7 = .ok (.iload_n 2, 1) := by decide +kernel
theorem dX11_see_8 : decode cX11_see 8 = .ok (.iaload, 1) := by decide +kernel
theorem dX11_see_9 : decode cX11_see 9 = .ok (.istore 4, 2) := by decide +kernel
theorem dX11_see_11 : decode cX11_see 11 = .ok (.aload_n 1, 1) := by decide +kernel
theorem dX11_see_12 : decode cX11_see 12 = .ok (.getfield 130, 3) := by decide +kernel
theorem dX11_see_15 : decode cX11_see 15 = .ok (.getfield 188, 3) := by decide +kernel
theorem dX11_see_18 : decode cX11_see 18 = .ok (.iload_n 2, 1) := by decide +kernel
theorem dX11_see_19 : decode cX11_see 19 = .ok (.iload_n 3, 1) := by decide +kernel
theorem dX11_see_20 : decode cX11_see 20 = .ok (.iastore, 1) := by decide +kernel
theorem dX11_see_21 : decode cX11_see 21 = .ok (.aload_n 0, 1) := by decide +kernel
theorem dX11_see_22 : decode cX11_see 22 = .ok (.aload_n 1, 1) := by decide +kernel
theorem dX11_see_23 : decode cX11_see 23 = .ok (.invokevirtual 150, 3) := by decide +kernel
theorem dX11_see_26 : decode cX11_see 26 = .ok (.iload 4, 2) := by decide +kernel
theorem dX11_see_28 : decode cX11_see 28 = .ok (.ireturn, 1) := by decide +kernel
theorem dX11_out_0 : decode cX11_out 0 = .ok (.aload_n 0, 1) := by decide +kernel
theorem dX11_out_1 : decode cX11_out 1 = .ok (.iload_n 1, 1) := by decide +kernel
theorem dX11_out_2 : decode cX11_out 2 = .ok (.invokevirtual 126, 3) := by decide +kernel
theorem dX11_out_5 : decode cX11_out 5 = .ok (.astore 4, 2) := by decide +kernel
theorem dX11_out_7 : decode cX11_out 7 = .ok (.aload 4, 2) := by decide +kernel
theorem dX11_out_9 : decode cX11_out 9 = .ok (.ifnull 31, 3) := by decide +kernel
theorem dX11_out_12 : decode cX11_out 12 = .ok (.iload_n 2, 1) := by decide +kernel
theorem dX11_out_13 : decode cX11_out 13 = .ok (.ifCond .lt 27, 3) := by decide +kernel
theorem dX11_out_16 : decode cX11_out 16 = .ok (.iload_n 2, 1) := by decide +kernel
theorem dX11_out_17 : decode cX11_out 17 = .ok (.aload 4, 2) := by decide +kernel
theorem dX11_out_19 : decode cX11_out 19 = .ok (.getfield 130, 3) := by decide +kernel
theorem dX11_out_22 : decode cX11_out 22 = .ok (.getfield 178, 3) := by decide +kernel
theorem dX11_out_25 : decode cX11_out 25 = .ok (.if_icmp .ge 15, 3) := by decide +kernel
theorem dX11_out_28 : decode cX11_out 28 = .ok (.aload 4, 2) := by decide +kernel
theorem dX11_out_30 : decode cX11_out 30 = .ok (.getfield 130, 3) := by decide +kernel
theorem dX11_out_33 : decode cX11_out 33 = .ok (.iload_n 3, 1) := by decide +kernel
theorem dX11_out_34 : decode cX11_out 34 = .ok (.invokevirtual 158, 3) := by decide +kernel
theorem dX11_out_37 : decode cX11_out 37 = .ok (.ifCond .ne 5, 3) := by decide +kernel
theorem dX11_out_40 : decode cX11_out 40 = .ok (.iconst (-1), 1) := by decide +kernel
theorem dX11_out_41 : decode cX11_out 41 = .ok (.ireturn, 1) := by decide +kernel
theorem dX11_out_42 : decode cX11_out 42 = .ok (.aload_n 0, 1) := by decide +kernel
theorem dX11_out_43 : decode cX11_out 43 = .ok (.aload 4, 2) := by decide +kernel
theorem dX11_out_45 : decode cX11_out 45 = .ok (.iload_n 2, 1) := by decide +kernel
theorem dX11_out_46 : decode cX11_out 46 = .ok (.iload_n 3, 1) := by decide +kernel
theorem dX11_out_47 : decode cX11_out 47 = .ok (.invokevirtual 181, 3) := by decide +kernel
theorem dX11_out_50 : decode cX11_out 50 = .ok (.ireturn, 1) := by decide +kernel
theorem dX11_next_0 : decode cX11_next 0 = .ok (.aload_n 0, 1) := by decide +kernel
theorem dX11_next_1 : decode cX11_next 1 = .ok (.iload_n 1, 1) := by decide +kernel
theorem dX11_next_2 : decode cX11_next 2 = .ok (.invokevirtual 126, 3) := by decide +kernel
theorem dX11_next_5 : decode cX11_next 5 = .ok (.astore 4, 2) := by decide +kernel
theorem dX11_next_7 : decode cX11_next 7 = .ok (.aload 4, 2) := by decide +kernel
theorem dX11_next_9 : decode cX11_next 9 = .ok (.ifnull 31, 3) := by decide +kernel
theorem dX11_next_12 : decode cX11_next 12 = .ok (.iload_n 2, 1) := by decide +kernel
theorem dX11_next_13 : decode cX11_next 13 = .ok (.ifCond .lt 27, 3) := by decide +kernel
theorem dX11_next_16 : decode cX11_next 16 = .ok (.iload_n 2, 1) := by decide +kernel
theorem dX11_next_17 : decode cX11_next 17 = .ok (.aload 4, 2) := by decide +kernel
theorem dX11_next_19 : decode cX11_next 19 = .ok (.getfield 130, 3) := by decide +kernel
theorem dX11_next_22 : decode cX11_next 22 = .ok (.getfield 185, 3) := by decide +kernel
theorem dX11_next_25 : decode cX11_next 25 = .ok (.if_icmp .ge 15, 3) := by decide +kernel
theorem dX11_next_28 : decode cX11_next 28 = .ok (.aload 4, 2) := by decide +kernel
theorem dX11_next_30 : decode cX11_next 30 = .ok (.getfield 130, 3) := by decide +kernel
theorem dX11_next_33 : decode cX11_next 33 = .ok (.iload_n 3, 1) := by decide +kernel
theorem dX11_next_34 : decode cX11_next 34 = .ok (.invokevirtual 158, 3) := by decide +kernel
theorem dX11_next_37 : decode cX11_next 37 = .ok (.ifCond .ne 5, 3) := by decide +kernel
theorem dX11_next_40 : decode cX11_next 40 = .ok (.iconst (-1), 1) := by decide +kernel
theorem dX11_next_41 : decode cX11_next 41 = .ok (.ireturn, 1) := by decide +kernel
theorem dX11_next_42 : decode cX11_next 42 = .ok (.aload_n 0, 1) := by decide +kernel
theorem dX11_next_43 : decode cX11_next 43 = .ok (.aload 4, 2) := by decide +kernel
theorem dX11_next_45 : decode cX11_next 45 = .ok (.aload 4, 2) := by decide +kernel
theorem dX11_next_47 : decode cX11_next 47 = .ok (.getfield 130, 3) := by decide +kernel
theorem dX11_next_50 : decode cX11_next 50 = .ok (.getfield 178, 3) := by decide +kernel
theorem dX11_next_53 : decode cX11_next 53 = .ok (.iload_n 2, 1) := by decide +kernel
theorem dX11_next_54 : decode cX11_next 54 = .ok (.iadd, 1) := by decide +kernel
theorem dX11_next_55 : decode cX11_next 55 = .ok (.iload_n 3, 1) := by decide +kernel
theorem dX11_next_56 : decode cX11_next 56 = .ok (.invokevirtual 181, 3) := by decide +kernel
theorem dX11_next_59 : decode cX11_next 59 = .ok (.ireturn, 1) := by decide +kernel
theorem dX11_free_0 : decode cX11_free 0 = .ok (.aload_n 0, 1) := by decide +kernel
theorem dX11_free_1 : decode cX11_free 1 = .ok (.getfield 24, 3) := by decide +kernel
theorem dX11_free_4 : decode cX11_free 4 = .ok (.iload_n 1, 1) := by decide +kernel
theorem dX11_free_5 : decode cX11_free 5 = .ok (.invokevirtual 191, 3) := by decide +kernel
theorem dX11_free_8 : decode cX11_free 8 = .ok (.ifCond .ne 5, 3) := by decide +kernel
theorem dX11_free_11 : decode cX11_free 11 = .ok (.iconst (-1), 1) := by decide +kernel
theorem dX11_free_12 : decode cX11_free 12 = .ok (.ireturn, 1) := by decide +kernel
theorem dX11_free_13 : decode cX11_free 13 = .ok (.aload_n 0, 1) := by decide +kernel
theorem dX11_free_14 : decode cX11_free 14 = .ok (.getfield 56, 3) := by decide +kernel
theorem dX11_free_17 : decode cX11_free 17 = .ok (.invokevirtual 103, 3) := by decide +kernel
theorem dX11_free_20 : decode cX11_free 20 = .ok (.aload_n 0, 1) := by decide +kernel
theorem dX11_free_21 : decode cX11_free 21 = .ok (.getfield 24, 3) := by decide +kernel
theorem dX11_free_24 : decode cX11_free 24 = .ok (.iload_n 1, 1) := by decide +kernel
theorem dX11_free_25 : decode cX11_free 25 = .ok (.invokevirtual 194, 3) := by decide +kernel
theorem dX11_free_28 : decode cX11_free 28 = .ok (.ireturn, 1) := by decide +kernel
theorem dX11_value_0 : decode cX11_value 0 = .ok (.aload_n 0, 1) := by decide +kernel
theorem dX11_value_1 : decode cX11_value 1 = .ok (.iload_n 1, 1) := by decide +kernel
theorem dX11_value_2 : decode cX11_value 2 = .ok (.invokevirtual 126, 3) := by decide +kernel
theorem dX11_value_5 : decode cX11_value 5 = .ok (.astore 4, 2) := by decide +kernel
theorem dX11_value_7 : decode cX11_value 7 = .ok (.aload 4, 2) := by decide +kernel
theorem dX11_value_9 : decode cX11_value 9 = .ok (.ifnull 26, 3) := by decide +kernel
theorem dX11_value_12 : decode cX11_value 12 = .ok (.aload 4, 2) := by decide +kernel
theorem dX11_value_14 : decode cX11_value 14 = .ok (.getfield 130, 3) := by decide +kernel
theorem dX11_value_17 : decode cX11_value 17 = .ok (.iload_n 2, 1) := by decide +kernel
theorem dX11_value_18 : decode cX11_value 18 = .ok (.invokevirtual 158, 3) := by decide +kernel
theorem dX11_value_21 : decode cX11_value 21 = .ok (.ifCond .eq 14, 3) := by decide +kernel
theorem dX11_value_24 : decode cX11_value 24 = .ok (.aload_n 0, 1) := by decide +kernel
theorem dX11_value_25 : decode cX11_value 25 = .ok (.getfield 24, 3) := by decide +kernel
theorem dX11_value_28 : decode cX11_value 28 = .ok (.iload_n 3, 1) := by decide +kernel
theorem dX11_value_29 : decode cX11_value 29 = .ok (.invokevirtual 191, 3) := by decide +kernel
theorem dX11_value_32 : decode cX11_value 32 = .ok (.ifCond .ne 5, 3) := by decide +kernel
theorem dX11_value_35 : decode cX11_value 35 = .ok (.iconst (-1), 1) := by decide +kernel
theorem dX11_value_36 : decode cX11_value 36 = .ok (.ireturn, 1) := by decide +kernel
theorem dX11_value_37 : decode cX11_value 37 = .ok (.aload 4, 2) := by decide +kernel
theorem dX11_value_39 : decode cX11_value 39 = .ok (.invokevirtual 169, 3) := by decide +kernel
theorem dX11_value_42 : decode cX11_value 42 = .ok (.aload 4, 2) := by decide +kernel
theorem dX11_value_44 : decode cX11_value 44 = .ok (.getfield 198, 3) := by decide +kernel
theorem dX11_value_47 : decode cX11_value 47 = .ok (.iconst 4, 1) := by decide +kernel
theorem dX11_value_48 : decode cX11_value 48 = .ok (.iload_n 2, 1) := by decide +kernel
theorem dX11_value_49 : decode cX11_value 49 = .ok (.imul, 1) := by decide +kernel
theorem dX11_value_50 : decode cX11_value 50 = .ok (.iload_n 3, 1) := by decide +kernel
theorem dX11_value_51 : decode cX11_value 51 = .ok (.bipush 64, 2) := by decide +kernel
theorem dX11_value_53 : decode cX11_value 53 = .ok (.idiv, 1) := by decide +kernel
theorem dX11_value_54 : decode cX11_value 54 = .ok (.iadd, 1) := by decide +kernel
theorem dX11_value_55 : decode cX11_value 55 = .ok (.laload, 1) := by decide +kernel
theorem dX11_value_56 : decode cX11_value 56 = .ok (.iload_n 3, 1) := by decide +kernel
theorem dX11_value_57 : decode cX11_value 57 = .ok (.bipush 64, 2) := by decide +kernel
theorem dX11_value_59 : decode cX11_value 59 = .ok (.irem, 1) := by decide +kernel
theorem dX11_value_60 : decode cX11_value 60 = .ok (.lshr, 1) := by decide +kernel
theorem dX11_value_61 : decode cX11_value 61 = .ok (.lconst 1, 1) := by decide +kernel
theorem dX11_value_62 : decode cX11_value 62 = .ok (.land, 1) := by decide +kernel
theorem dX11_value_63 : decode cX11_value 63 = .ok (.l2i, 1) := by decide +kernel
theorem dX11_value_64 : decode cX11_value 64 = .ok (.ireturn, 1) := by decide +kernel
theorem dX11_hangs_0 : decode cX11_hangs 0 = .ok (.aload_n 0, 1) := by decide +kernel
theorem dX11_hangs_1 : decode cX11_hangs 1 = .ok (.iload_n 1, 1) := by decide +kernel
theorem dX11_hangs_2 : decode cX11_hangs 2 = .ok (.invokevirtual 126, 3) := by decide +kernel
theorem dX11_hangs_5 : decode cX11_hangs 5 = .ok (.astore 4, 2) := by decide +kernel
theorem dX11_hangs_7 : decode cX11_hangs 7 = .ok (.aload 4, 2) := by decide +kernel
theorem dX11_hangs_9 : decode cX11_hangs 9 = .ok (.ifnull 27, 3) := by decide +kernel
theorem dX11_hangs_12 : decode cX11_hangs 12 = .ok (.aload 4, 2) := by decide +kernel
theorem dX11_hangs_14 : decode cX11_hangs 14 = .ok (.getfield 130, 3) := by decide +kernel
theorem dX11_hangs_17 : decode cX11_hangs 17 = .ok (.iload_n 2, 1) := by decide +kernel
theorem dX11_hangs_18 : decode cX11_hangs 18 = .ok (.invokevirtual 158, 3) := by decide +kernel
theorem dX11_hangs_21 : decode cX11_hangs 21 = .ok (.ifCond .eq 15, 3) := by decide +kernel
theorem dX11_hangs_24 : decode cX11_hangs 24 = .ok (.aload 4, 2) := by decide +kernel
theorem dX11_hangs_26 : decode cX11_hangs 26 = .ok (.getfield 130, 3) := by decide +kernel
theorem dX11_hangs_29 : decode cX11_hangs 29 = .ok (.iload_n 3, 1) := by decide +kernel
theorem dX11_hangs_30 : decode cX11_hangs 30 = .ok (.invokevirtual 158, 3) := by decide +kernel
theorem dX11_hangs_33 : decode cX11_hangs 33 = .ok (.ifCond .ne 5, 3) := by decide +kernel
theorem dX11_hangs_36 : decode cX11_hangs 36 = .ok (.iconst (-1), 1) := by decide +kernel
theorem dX11_hangs_37 : decode cX11_hangs 37 = .ok (.ireturn, 1) := by decide +kernel
theorem dX11_hangs_38 : decode cX11_hangs 38 = .ok (.aload 4, 2) := by decide +kernel
theorem dX11_hangs_40 : decode cX11_hangs 40 = .ok (.invokevirtual 169, 3) := by decide +kernel
theorem dX11_hangs_43 : decode cX11_hangs 43 = .ok (.aload 4, 2) := by decide +kernel
theorem dX11_hangs_45 : decode cX11_hangs 45 = .ok (.iload_n 2, 1) := by decide +kernel
theorem dX11_hangs_46 : decode cX11_hangs 46 = .ok (.iload_n 3, 1) := by decide +kernel
theorem dX11_hangs_47 : decode cX11_hangs 47 = .ok (.invokevirtual 172, 3) := by decide +kernel
theorem dX11_hangs_50 : decode cX11_hangs 50 = .ok (.ifCond .eq 7, 3) := by decide +kernel
theorem dX11_hangs_53 : decode cX11_hangs 53 = .ok (.iconst 1, 1) := by decide +kernel
theorem dX11_hangs_54 : decode cX11_hangs 54 = .ok (.goto 4, 3) := by decide +kernel
theorem dX11_hangs_57 : decode cX11_hangs 57 = .ok (.iconst 0, 1) := by decide +kernel
theorem dX11_hangs_58 : decode cX11_hangs 58 = .ok (.ireturn, 1) := by decide +kernel
theorem dX11_refreshBoth_0 : decode cX11_refreshBoth 0 = .ok (.aload_n 0, 1) := by decide +kernel
theorem dX11_refreshBoth_1 : decode cX11_refreshBoth 1 = .ok (.getfield 14, 3) := by decide +kernel
theorem dX11_refreshBoth_4 : decode cX11_refreshBoth 4 = .ok (.invokevirtual 169, 3) := by decide +kernel
theorem dX11_refreshBoth_7 : decode cX11_refreshBoth 7 = .ok (.aload_n 0, 1) := by decide +kernel
theorem dX11_refreshBoth_8 : decode cX11_refreshBoth 8 = .ok (.getfield 18, 3) := by decide +kernel
theorem dX11_refreshBoth_11 : decode cX11_refreshBoth 11 = .ok (.invokevirtual 169, 3) := by decide +kernel
theorem dX11_refreshBoth_14 : decode cX11_refreshBoth 14 = .ok (.return_, 1) := by decide +kernel
theorem dX11_differ_0 : decode cX11_differ 0 = .ok (.aload_n 0, 1) := by decide +kernel
theorem dX11_differ_1 : decode cX11_differ 1 = .ok (.invokevirtual 218, 3) := by decide +kernel
theorem dX11_differ_4 : decode cX11_differ 4 = .ok (.aload_n 0, 1) := by decide +kernel
theorem dX11_differ_5 : decode cX11_differ 5 = .ok (.getfield 33, 3) := by decide +kernel
theorem dX11_differ_8 : decode cX11_differ 8 = .ok (.invokevirtual 221, 3) := by decide +kernel
theorem dX11_differ_11 : decode cX11_differ 11 = .ok (.ireturn, 1) := by decide +kernel
theorem dX11_enough_0 : decode cX11_enough 0 = .ok (.aload_n 0, 1) := by decide +kernel
theorem dX11_enough_1 : decode cX11_enough 1 = .ok (.getfield 33, 3) := by decide +kernel
theorem dX11_enough_4 : decode cX11_enough 4 = .ok (.iload_n 1, 1) := by decide +kernel
theorem dX11_enough_5 : decode cX11_enough 5 = .ok (.iload_n 2, 1) := by decide +kernel
theorem dX11_enough_6 : decode cX11_enough 6 = .ok (.iload_n 3, 1) := by decide +kernel
theorem dX11_enough_7 : decode cX11_enough 7 = .ok (.invokevirtual 225, 3) := by decide +kernel
theorem dX11_enough_10 : decode cX11_enough 10 = .ok (.ifCond .ne 5, 3) := by decide +kernel
theorem dX11_enough_13 : decode cX11_enough 13 = .ok (.iconst (-1), 1) := by decide +kernel
theorem dX11_enough_14 : decode cX11_enough 14 = .ok (.ireturn, 1) := by decide +kernel
theorem dX11_enough_15 : decode cX11_enough 15 = .ok (.aload_n 0, 1) := by decide +kernel
theorem dX11_enough_16 : decode cX11_enough 16 = .ok (.invokevirtual 218, 3) := by decide +kernel
theorem dX11_enough_19 : decode cX11_enough 19 = .ok (.aload_n 0, 1) := by decide +kernel
theorem dX11_enough_20 : decode cX11_enough 20 = .ok (.getfield 33, 3) := by decide +kernel
theorem dX11_enough_23 : decode cX11_enough 23 = .ok (.invokevirtual 229, 3) := by decide +kernel
theorem dX11_enough_26 : decode cX11_enough 26 = .ok (.ireturn, 1) := by decide +kernel
theorem dX11_points_0 : decode cX11_points 0 = .ok (.iload_n 1, 1) := by decide +kernel
theorem dX11_points_1 : decode cX11_points 1 = .ok (.iconst 1, 1) := by decide +kernel
theorem dX11_points_2 : decode cX11_points 2 = .ok (.if_icmp .lt 8, 3) := by decide +kernel
theorem dX11_points_5 : decode cX11_points 5 = .ok (.iload_n 1, 1) := by decide +kernel
theorem dX11_points_6 : decode cX11_points 6 = .ok (.iconst 3, 1) := by decide +kernel
theorem dX11_points_7 : decode cX11_points 7 = .ok (.if_icmp .le 5, 3) := by decide +kernel
theorem dX11_points_10 : decode cX11_points 10 = .ok (.iconst (-1), 1) := by decide +kernel
theorem dX11_points_11 : decode cX11_points 11 = .ok (.ireturn, 1) := by decide +kernel
theorem dX11_points_12 : decode cX11_points 12 = .ok (.aload_n 0, 1) := by decide +kernel
theorem dX11_points_13 : decode cX11_points 13 = .ok (.invokevirtual 218, 3) := by decide +kernel
theorem dX11_points_16 : decode cX11_points 16 = .ok (.aload_n 0, 1) := by decide +kernel
theorem dX11_points_17 : decode cX11_points 17 = .ok (.getfield 33, 3) := by decide +kernel
theorem dX11_points_20 : decode cX11_points 20 = .ok (.invokevirtual 221, 3) := by decide +kernel
theorem dX11_points_23 : decode cX11_points 23 = .ok (.istore_n 2, 1) := by decide +kernel
theorem dX11_points_24 : decode cX11_points 24 = .ok (.iload_n 2, 1) := by decide +kernel
theorem dX11_points_25 : decode cX11_points 25 = .ok (.sipush 1000, 3) := by decide +kernel
theorem dX11_points_28 : decode cX11_points 28 = .ok (.if_icmp .ne 5, 3) := by decide +kernel
theorem dX11_points_31 : decode cX11_points 31 = .ok (.iconst 0, 1) := by decide +kernel
theorem dX11_points_32 : decode cX11_points 32 = .ok (.ireturn, 1) := by decide +kernel
theorem dX11_points_33 : decode cX11_points 33 = .ok (.aload_n 0, 1) := by decide +kernel
theorem dX11_points_34 : decode cX11_points 34 = .ok (.getfield 33, 3) := by decide +kernel
theorem dX11_points_37 : decode cX11_points 37 = .ok (.iload_n 2, 1) := by decide +kernel
theorem dX11_points_38 : decode cX11_points 38 = .ok (.invokevirtual 232, 3) := by decide +kernel
theorem dX11_points_41 : decode cX11_points 41 = .ok (.iconst 1, 1) := by decide +kernel
theorem dX11_points_42 : decode cX11_points 42 = .ok (.istore_n 3, 1) := by decide +kernel
theorem dX11_points_43 : decode cX11_points 43 = .ok (.iload_n 3, 1) := by decide +kernel
theorem dX11_points_44 : decode cX11_points 44 = .ok (.iload_n 1, 1) := by decide +kernel
theorem dX11_points_45 : decode cX11_points 45 = .ok (.if_icmp .gt 44, 3) := by decide +kernel
theorem dX11_points_48 : decode cX11_points 48 = .ok (.aload_n 0, 1) := by decide +kernel
theorem dX11_points_49 : decode cX11_points 49 = .ok (.getfield 33, 3) := by decide +kernel
theorem dX11_points_52 : decode cX11_points 52 = .ok (.iload_n 3, 1) := by decide +kernel
theorem dX11_points_53 : decode cX11_points 53 = .ok (.invokevirtual 235, 3) := by decide +kernel
theorem dX11_points_56 : decode cX11_points 56 = .ok (.ifCond .eq 27, 3) := by decide +kernel
theorem dX11_points_59 : decode cX11_points 59 = .ok (.aload_n 0, 1) := by decide +kernel
theorem dX11_points_60 : decode cX11_points 60 = .ok (.getfield 33, 3) := by decide +kernel
theorem dX11_points_63 : decode cX11_points 63 = .ok (.getfield 238, 3) := by decide +kernel
theorem dX11_points_66 : decode cX11_points 66 = .ok (.iconst 0, 1) := by decide +kernel
theorem dX11_points_67 : decode cX11_points 67 = .ok (.aload_n 0, 1) := by decide +kernel
theorem dX11_points_68 : decode cX11_points 68 = .ok (.getfield 84, 3) := by decide +kernel
theorem dX11_points_71 : decode cX11_points 71 = .ok (.iconst 0, 1) := by decide +kernel
theorem dX11_points_72 : decode cX11_points 72 = .ok (.iload_n 3, 1) := by decide +kernel
theorem dX11_points_73 : decode cX11_points 73 = .ok (.invokestatic 241, 3) := by decide +kernel
theorem dX11_points_76 : decode cX11_points 76 = .ok (.aload_n 0, 1) := by decide +kernel
theorem dX11_points_77 : decode cX11_points 77 = .ok (.iload_n 3, 1) := by decide +kernel
theorem dX11_points_78 : decode cX11_points 78 = .ok (.putfield 114, 3) := by decide +kernel
theorem dX11_points_81 : decode cX11_points 81 = .ok (.iload_n 3, 1) := by decide +kernel
theorem dX11_points_82 : decode cX11_points 82 = .ok (.ireturn, 1) := by decide +kernel
theorem dX11_points_83 : decode cX11_points 83 = .ok (.iinc 3 1, 3) := by decide +kernel
theorem dX11_points_86 : decode cX11_points 86 = .ok (.goto (-43), 3) := by decide +kernel
theorem dX11_points_89 : decode cX11_points 89 = .ok (.bipush (-4), 2) := by decide +kernel
theorem dX11_points_91 : decode cX11_points 91 = .ok (.ireturn, 1) := by decide +kernel
theorem dX11_point_0 : decode cX11_point 0 = .ok (.iload_n 1, 1) := by decide +kernel
theorem dX11_point_1 : decode cX11_point 1 = .ok (.ifCond .lt 11, 3) := by decide +kernel
theorem dX11_point_4 : decode cX11_point 4 = .ok (.iload_n 1, 1) := by decide +kernel
theorem dX11_point_5 : decode cX11_point 5 = .ok (.aload_n 0, 1) := by decide +kernel
theorem dX11_point_6 : decode cX11_point 6 = .ok (.getfield 114, 3) := by decide +kernel
theorem dX11_point_9 : decode cX11_point 9 = .ok (.if_icmp .lt 7, 3) := by decide +kernel
theorem dX11_point_12 : decode cX11_point 12 = .ok (.iconst (-1), 1) := by decide +kernel
theorem dX11_point_13 : decode cX11_point 13 = .ok (.goto 9, 3) := by decide +kernel
theorem dX11_point_16 : decode cX11_point 16 = .ok (.aload_n 0, 1) := by decide +kernel
theorem dX11_point_17 : decode cX11_point 17 = .ok (.getfield 84, 3) := by decide +kernel
theorem dX11_point_20 : decode cX11_point 20 = .ok (.iload_n 1, 1) := by decide +kernel
theorem dX11_point_21 : decode cX11_point 21 = .ok (.iaload, 1) := by decide +kernel
theorem dX11_point_22 : decode cX11_point 22 = .ok (.ireturn, 1) := by decide +kernel
theorem dX11_mend_0 : decode cX11_mend 0 = .ok (.aload_n 0, 1) := by decide +kernel
theorem dX11_mend_1 : decode cX11_mend 1 = .ok (.getfield 33, 3) := by decide +kernel
theorem dX11_mend_4 : decode cX11_mend 4 = .ok (.iload_n 1, 1) := by decide +kernel
theorem dX11_mend_5 : decode cX11_mend 5 = .ok (.iload_n 2, 1) := by decide +kernel
theorem dX11_mend_6 : decode cX11_mend 6 = .ok (.iload_n 3, 1) := by decide +kernel
theorem dX11_mend_7 : decode cX11_mend 7 = .ok (.invokevirtual 225, 3) := by decide +kernel
theorem dX11_mend_10 : decode cX11_mend 10 = .ok (.ifCond .eq 15, 3) := by decide +kernel
theorem dX11_mend_13 : decode cX11_mend 13 = .ok (.aload_n 0, 1) := by decide +kernel
theorem dX11_mend_14 : decode cX11_mend 14 = .ok (.getfield 24, 3) := by decide +kernel
theorem dX11_mend_17 : decode cX11_mend 17 = .ok (.iload 4, 2) := by decide +kernel
theorem dX11_mend_19 : decode cX11_mend 19 = .ok (.invokevirtual 191, 3) := by decide +kernel
theorem dX11_mend_22 : decode cX11_mend 22 = .ok (.ifCond .ne 5, 3) := by decide +kernel
theorem dX11_mend_25 : decode cX11_mend 25 = .ok (.iconst (-1), 1) := by decide +kernel
theorem dX11_mend_26 : decode cX11_mend 26 = .ok (.ireturn, 1) := by decide +kernel
theorem dX11_mend_27 : decode cX11_mend 27 = .ok (.aload_n 0, 1) := by decide +kernel
theorem dX11_mend_28 : decode cX11_mend 28 = .ok (.invokevirtual 218, 3) := by decide +kernel
theorem dX11_mend_31 : decode cX11_mend 31 = .ok (.aload_n 0, 1) := by decide +kernel
theorem dX11_mend_32 : decode cX11_mend 32 = .ok (.getfield 33, 3) := by decide +kernel
theorem dX11_mend_35 : decode cX11_mend 35 = .ok (.iload 4, 2) := by decide +kernel
theorem dX11_mend_37 : decode cX11_mend 37 = .ok (.invokevirtual 247, 3) := by decide +kernel
theorem dX11_mend_40 : decode cX11_mend 40 = .ok (.ireturn, 1) := by decide +kernel
theorem dX11_isTape_0 : decode cX11_isTape 0 = .ok (.iload_n 0, 1) := by decide +kernel
theorem dX11_isTape_1 : decode cX11_isTape 1 = .ok (.ifCond .lt 13, 3) := by decide +kernel
theorem dX11_isTape_4 : decode cX11_isTape 4 = .ok (.iload_n 0, 1) := by decide +kernel
theorem dX11_isTape_5 : decode cX11_isTape 5 = .ok (.bipush 6, 2) := by decide +kernel
theorem dX11_isTape_7 : decode cX11_isTape 7 = .ok (.if_icmp .ge 7, 3) := by decide +kernel
theorem dX11_isTape_10 : decode cX11_isTape 10 = .ok (.iconst 1, 1) := by decide +kernel
theorem dX11_isTape_11 : decode cX11_isTape 11 = .ok (.goto 4, 3) := by decide +kernel
theorem dX11_isTape_14 : decode cX11_isTape 14 = .ok (.iconst 0, 1) := by decide +kernel
theorem dX11_isTape_15 : decode cX11_isTape 15 = .ok (.ireturn, 1) := by decide +kernel
theorem dX11_witness_0 : decode cX11_witness 0 = .ok (.iload_n 1, 1) := by decide +kernel
theorem dX11_witness_1 : decode cX11_witness 1 = .ok (.invokestatic 250, 3) := by decide +kernel
theorem dX11_witness_4 : decode cX11_witness 4 = .ok (.ifCond .eq 17, 3) := by decide +kernel
theorem dX11_witness_7 : decode cX11_witness 7 = .ok (.aload_n 0, 1) := by decide +kernel
theorem dX11_witness_8 : decode cX11_witness 8 = .ok (.getfield 33, 3) := by decide +kernel
theorem dX11_witness_11 : decode cX11_witness 11 = .ok (.iload_n 2, 1) := by decide +kernel
theorem dX11_witness_12 : decode cX11_witness 12 = .ok (.iload_n 3, 1) := by decide +kernel
theorem dX11_witness_13 : decode cX11_witness 13 = .ok (.iload 4, 2) := by decide +kernel
theorem dX11_witness_15 : decode cX11_witness 15 = .ok (.invokevirtual 225, 3) := by decide +kernel
theorem dX11_witness_18 : decode cX11_witness 18 = .ok (.ifCond .ne 5, 3) := by decide +kernel
theorem dX11_witness_21 : decode cX11_witness 21 = .ok (.iconst (-1), 1) := by decide +kernel
theorem dX11_witness_22 : decode cX11_witness 22 = .ok (.ireturn, 1) := by decide +kernel
theorem dX11_witness_23 : decode cX11_witness 23 = .ok (.aload_n 0, 1) := by decide +kernel
theorem dX11_witness_24 : decode cX11_witness 24 = .ok (.invokevirtual 218, 3) := by decide +kernel
theorem dX11_witness_27 : decode cX11_witness 27 = .ok (.aload_n 0, 1) := by decide +kernel
theorem dX11_witness_28 : decode cX11_witness 28 = .ok (.getfield 33, 3) := by decide +kernel
theorem dX11_witness_31 : decode cX11_witness 31 = .ok (.invokevirtual 229, 3) := by decide +kernel
theorem dX11_witness_34 : decode cX11_witness 34 = .ok (.sipush 1000, 3) := by decide +kernel
theorem dX11_witness_37 : decode cX11_witness 37 = .ok (.if_icmp .eq 6, 3) := by decide +kernel
theorem dX11_witness_40 : decode cX11_witness 40 = .ok (.bipush (-4), 2) := by decide +kernel
theorem dX11_witness_42 : decode cX11_witness 42 = .ok (.ireturn, 1) := by decide +kernel
theorem dX11_witness_43 : decode cX11_witness 43 = .ok (.aload_n 0, 1) := by decide +kernel
theorem dX11_witness_44 : decode cX11_witness 44 = .ok (.getfield 76, 3) := by decide +kernel
theorem dX11_witness_47 : decode cX11_witness 47 = .ok (.iload_n 1, 1) := by decide +kernel
theorem dX11_witness_48 : decode cX11_witness 48 = .ok (.aaload, 1) := by decide +kernel
theorem dX11_witness_49 : decode cX11_witness 49 = .ok (.iconst 1, 1) := by decide +kernel
theorem dX11_witness_50 : decode cX11_witness 50 = .ok (.aload_n 0, 1) := by decide +kernel
theorem dX11_witness_51 : decode cX11_witness 51 = .ok (.getfield 24, 3) := by decide +kernel
theorem dX11_witness_54 : decode cX11_witness 54 = .ok (.getfield 92, 3) := by decide +kernel
theorem dX11_witness_57 : decode cX11_witness 57 = .ok (.invokevirtual 253, 3) := by decide +kernel
theorem dX11_witness_60 : decode cX11_witness 60 = .ok (.aload_n 0, 1) := by decide +kernel
theorem dX11_witness_61 : decode cX11_witness 61 = .ok (.getfield 33, 3) := by decide +kernel
theorem dX11_witness_64 : decode cX11_witness 64 = .ok (.aload_n 0, 1) := by decide +kernel
theorem dX11_witness_65 : decode cX11_witness 65 = .ok (.getfield 76, 3) := by decide +kernel
theorem dX11_witness_68 : decode cX11_witness 68 = .ok (.iload_n 1, 1) := by decide +kernel
theorem dX11_witness_69 : decode cX11_witness 69 = .ok (.aaload, 1) := by decide +kernel
theorem dX11_witness_70 : decode cX11_witness 70 = .ok (.getfield 257, 3) := by decide +kernel
theorem dX11_witness_73 : decode cX11_witness 73 = .ok (.invokevirtual 260, 3) := by decide +kernel
theorem dX11_witness_76 : decode cX11_witness 76 = .ok (.aload_n 0, 1) := by decide +kernel
theorem dX11_witness_77 : decode cX11_witness 77 = .ok (.getfield 24, 3) := by decide +kernel
theorem dX11_witness_80 : decode cX11_witness 80 = .ok (.getfield 92, 3) := by decide +kernel
theorem dX11_witness_83 : decode cX11_witness 83 = .ok (.ireturn, 1) := by decide +kernel
theorem dX11_refused_0 : decode cX11_refused 0 = .ok (.aload_n 0, 1) := by decide +kernel
theorem dX11_refused_1 : decode cX11_refused 1 = .ok (.dup, 1) := by decide +kernel
theorem dX11_refused_2 : decode cX11_refused 2 = .ok (.getfield 123, 3) := by decide +kernel
theorem dX11_refused_5 : decode cX11_refused 5 = .ok (.iconst 1, 1) := by decide +kernel
theorem dX11_refused_6 : decode cX11_refused 6 = .ok (.iadd, 1) := by decide +kernel
theorem dX11_refused_7 : decode cX11_refused 7 = .ok (.putfield 123, 3) := by decide +kernel
theorem dX11_refused_10 : decode cX11_refused 10 = .ok (.iload_n 1, 1) := by decide +kernel
theorem dX11_refused_11 : decode cX11_refused 11 = .ok (.ireturn, 1) := by decide +kernel
theorem dX11_judge_0 : decode cX11_judge 0 = .ok (.iload_n 1, 1) := by decide +kernel
theorem dX11_judge_1 : decode cX11_judge 1 = .ok (.invokestatic 250, 3) := by decide +kernel
theorem dX11_judge_4 : decode cX11_judge 4 = .ok (.ifCond .eq 17, 3) := by decide +kernel
theorem dX11_judge_7 : decode cX11_judge 7 = .ok (.aload_n 0, 1) := by decide +kernel
theorem dX11_judge_8 : decode cX11_judge 8 = .ok (.getfield 33, 3) := by decide +kernel
theorem dX11_judge_11 : decode cX11_judge 11 = .ok (.iload_n 2, 1) := by decide +kernel
theorem dX11_judge_12 : decode cX11_judge 12 = .ok (.iload_n 3, 1) := by decide +kernel
theorem dX11_judge_13 : decode cX11_judge 13 = .ok (.iload 4, 2) := by decide +kernel
theorem dX11_judge_15 : decode cX11_judge 15 = .ok (.invokevirtual 225, 3) := by decide +kernel
theorem dX11_judge_18 : decode cX11_judge 18 = .ok (.ifCond .ne 5, 3) := by decide +kernel
theorem dX11_judge_21 : decode cX11_judge 21 = .ok (.iconst (-1), 1) := by decide +kernel
theorem dX11_judge_22 : decode cX11_judge 22 = .ok (.ireturn, 1) := by decide +kernel
theorem dX11_judge_23 : decode cX11_judge 23 = .ok (.aload_n 0, 1) := by decide +kernel
theorem dX11_judge_24 : decode cX11_judge 24 = .ok (.getfield 76, 3) := by decide +kernel
theorem dX11_judge_27 : decode cX11_judge 27 = .ok (.iload_n 1, 1) := by decide +kernel
theorem dX11_judge_28 : decode cX11_judge 28 = .ok (.aaload, 1) := by decide +kernel
theorem dX11_judge_29 : decode cX11_judge 29 = .ok (.getfield 264, 3) := by decide +kernel
theorem dX11_judge_32 : decode cX11_judge 32 = .ok (.ifCond .ne 10, 3) := by decide +kernel
theorem dX11_judge_35 : decode cX11_judge 35 = .ok (.aload_n 0, 1) := by decide +kernel
theorem dX11_judge_36 : decode cX11_judge 36 = .ok (.bipush (-11), 2) := by decide +kernel
theorem dX11_judge_38 : decode cX11_judge 38 = .ok (.invokevirtual 267, 3) := by decide +kernel
theorem dX11_judge_41 : decode cX11_judge 41 = .ok (.ireturn, 1) := by decide +kernel
theorem dX11_judge_42 : decode cX11_judge 42 = .ok (.aload_n 0, 1) := by decide +kernel
theorem dX11_judge_43 : decode cX11_judge 43 = .ok (.getfield 76, 3) := by decide +kernel
theorem dX11_judge_46 : decode cX11_judge 46 = .ok (.iload_n 1, 1) := by decide +kernel
theorem dX11_judge_47 : decode cX11_judge 47 = .ok (.aaload, 1) := by decide +kernel
theorem dX11_judge_48 : decode cX11_judge 48 = .ok (.getfield 264, 3) := by decide +kernel
theorem dX11_judge_51 : decode cX11_judge 51 = .ok (.iconst 1, 1) := by decide +kernel
theorem dX11_judge_52 : decode cX11_judge 52 = .ok (.if_icmp .eq 10, 3) := by decide +kernel
theorem dX11_judge_55 : decode cX11_judge 55 = .ok (.aload_n 0, 1) := by decide +kernel
theorem dX11_judge_56 : decode cX11_judge 56 = .ok (.bipush (-12), 2) := by decide +kernel
theorem dX11_judge_58 : decode cX11_judge 58 = .ok (.invokevirtual 267, 3) := by decide +kernel
theorem dX11_judge_61 : decode cX11_judge 61 = .ok (.ireturn, 1) := by decide +kernel
theorem dX11_judge_62 : decode cX11_judge 62 = .ok (.aload_n 0, 1) := by decide +kernel
theorem dX11_judge_63 : decode cX11_judge 63 = .ok (.invokevirtual 218, 3) := by decide +kernel
theorem dX11_judge_66 : decode cX11_judge 66 = .ok (.aload_n 0, 1) := by decide +kernel
theorem dX11_judge_67 : decode cX11_judge 67 = .ok (.getfield 33, 3) := by decide +kernel
theorem dX11_judge_70 : decode cX11_judge 70 = .ok (.aload_n 0, 1) := by decide +kernel
theorem dX11_judge_71 : decode cX11_judge 71 = .ok (.getfield 76, 3) := by decide +kernel
theorem dX11_judge_74 : decode cX11_judge 74 = .ok (.iload_n 1, 1) := by decide +kernel
theorem dX11_judge_75 : decode cX11_judge 75 = .ok (.aaload, 1) := by decide +kernel
theorem dX11_judge_76 : decode cX11_judge 76 = .ok (.getfield 257, 3) := by decide +kernel
theorem dX11_judge_79 : decode cX11_judge 79 = .ok (.aload_n 0, 1) := by decide +kernel
theorem dX11_judge_80 : decode cX11_judge 80 = .ok (.getfield 76, 3) := by decide +kernel
theorem dX11_judge_83 : decode cX11_judge 83 = .ok (.iload_n 1, 1) := by decide +kernel
theorem dX11_judge_84 : decode cX11_judge 84 = .ok (.aaload, 1) := by decide +kernel
theorem dX11_judge_85 : decode cX11_judge 85 = .ok (.getfield 270, 3) := by decide +kernel
theorem dX11_judge_88 : decode cX11_judge 88 = .ok (.invokevirtual 273, 3) := by decide +kernel
theorem dX11_judge_91 : decode cX11_judge 91 = .ok (.istore 5, 2) := by decide +kernel
theorem dX11_judge_93 : decode cX11_judge 93 = .ok (.iload 5, 2) := by decide +kernel
theorem dX11_judge_95 : decode cX11_judge 95 = .ok (.bipush (-13), 2) := by decide +kernel
theorem dX11_judge_97 : decode cX11_judge 97 = .ok (.if_icmp .ne 12, 3) := by decide +kernel
theorem dX11_judge_100 : decode cX11_judge 100 = .ok (.aload_n 0, 1) := by decide +kernel
theorem dX11_judge_101 : decode cX11_judge 101 = .ok (.bipush (-13), 2) := by decide +kernel
theorem dX11_judge_103 : decode cX11_judge 103 = .ok (.invokevirtual 267, 3) := by decide +kernel
theorem dX11_judge_106 : decode cX11_judge 106 = .ok (.goto 5, 3) := by decide +kernel
theorem dX11_judge_109 : decode cX11_judge 109 = .ok (.iload 5, 2) := by decide +kernel
theorem dX11_judge_111 : decode cX11_judge 111 = .ok (.ireturn, 1) := by decide +kernel
theorem dX11_patch_0 : decode cX11_patch 0 = .ok (.aload_n 0, 1) := by decide +kernel
theorem dX11_patch_1 : decode cX11_patch 1 = .ok (.getfield 33, 3) := by decide +kernel
theorem dX11_patch_4 : decode cX11_patch 4 = .ok (.iload_n 1, 1) := by decide +kernel
theorem dX11_patch_5 : decode cX11_patch 5 = .ok (.iload_n 2, 1) := by decide +kernel
theorem dX11_patch_6 : decode cX11_patch 6 = .ok (.iconst (-1), 1) := by decide +kernel
theorem dX11_patch_7 : decode cX11_patch 7 = .ok (.invokevirtual 225, 3) := by decide +kernel
theorem dX11_patch_10 : decode cX11_patch 10 = .ok (.ifCond .eq 18, 3) := by decide +kernel
theorem dX11_patch_13 : decode cX11_patch 13 = .ok (.aload_n 0, 1) := by decide +kernel
theorem dX11_patch_14 : decode cX11_patch 14 = .ok (.getfield 42, 3) := by decide +kernel
theorem dX11_patch_17 : decode cX11_patch 17 = .ok (.iload_n 3, 1) := by decide +kernel
theorem dX11_patch_18 : decode cX11_patch 18 = .ok (.iload 4, 2) := by decide +kernel
theorem dX11_patch_20 : decode cX11_patch 20 = .ok (.iload 5, 2) := by decide +kernel
theorem dX11_patch_22 : decode cX11_patch 22 = .ok (.invokevirtual 277, 3) := by decide +kernel
theorem dX11_patch_25 : decode cX11_patch 25 = .ok (.ifCond .ne 5, 3) := by decide +kernel
theorem dX11_patch_28 : decode cX11_patch 28 = .ok (.iconst (-1), 1) := by decide +kernel
theorem dX11_patch_29 : decode cX11_patch 29 = .ok (.ireturn, 1) := by decide +kernel
theorem dX11_patch_30 : decode cX11_patch 30 = .ok (.aload_n 0, 1) := by decide +kernel
theorem dX11_patch_31 : decode cX11_patch 31 = .ok (.invokevirtual 218, 3) := by decide +kernel
theorem dX11_patch_34 : decode cX11_patch 34 = .ok (.aload_n 0, 1) := by decide +kernel
theorem dX11_patch_35 : decode cX11_patch 35 = .ok (.getfield 42, 3) := by decide +kernel
theorem dX11_patch_38 : decode cX11_patch 38 = .ok (.aload_n 0, 1) := by decide +kernel
theorem dX11_patch_39 : decode cX11_patch 39 = .ok (.getfield 33, 3) := by decide +kernel
theorem dX11_patch_42 : decode cX11_patch 42 = .ok (.getfield 280, 3) := by decide +kernel
theorem dX11_patch_45 : decode cX11_patch 45 = .ok (.invokevirtual 284, 3) := by decide +kernel
theorem dX11_patch_48 : decode cX11_patch 48 = .ok (.ifCond .eq 6, 3) := by decide +kernel
theorem dX11_patch_51 : decode cX11_patch 51 = .ok (.bipush (-2), 2) := by decide +kernel
theorem dX11_patch_53 : decode cX11_patch 53 = .ok (.ireturn, 1) := by decide +kernel
theorem dX11_patch_54 : decode cX11_patch 54 = .ok (.aload_n 0, 1) := by decide +kernel
theorem dX11_patch_55 : decode cX11_patch 55 = .ok (.getfield 42, 3) := by decide +kernel
theorem dX11_patch_58 : decode cX11_patch 58 = .ok (.aload_n 0, 1) := by decide +kernel
theorem dX11_patch_59 : decode cX11_patch 59 = .ok (.getfield 33, 3) := by decide +kernel
theorem dX11_patch_62 : decode cX11_patch 62 = .ok (.invokevirtual 288, 3) := by decide +kernel
theorem dX11_patch_65 : decode cX11_patch 65 = .ok (.aload_n 0, 1) := by decide +kernel
theorem dX11_patch_66 : decode cX11_patch 66 = .ok (.getfield 42, 3) := by decide +kernel
theorem dX11_patch_69 : decode cX11_patch 69 = .ok (.invokevirtual 292, 3) := by decide +kernel
theorem dX11_patch_72 : decode cX11_patch 72 = .ok (.ifCond .ne 42, 3) := by decide +kernel
theorem dX11_patch_75 : decode cX11_patch 75 = .ok (.aload_n 0, 1) := by decide +kernel
theorem dX11_patch_76 : decode cX11_patch 76 = .ok (.getfield 42, 3) := by decide +kernel
theorem dX11_patch_79 : decode cX11_patch 79 = .ok (.invokevirtual 296, 3) := by decide +kernel
theorem dX11_patch_82 : decode cX11_patch 82 = .ok (.aload_n 0, 1) := by decide +kernel
theorem dX11_patch_83 : decode cX11_patch 83 = .ok (.aload_n 0, 1) := by decide +kernel
theorem dX11_patch_84 : decode cX11_patch 84 = .ok (.getfield 42, 3) := by decide +kernel
theorem dX11_patch_87 : decode cX11_patch 87 = .ok (.getfield 299, 3) := by decide +kernel
theorem dX11_patch_90 : decode cX11_patch 90 = .ok (.putfield 117, 3) := by decide +kernel
theorem dX11_patch_93 : decode cX11_patch 93 = .ok (.aload_n 0, 1) := by decide +kernel
theorem dX11_patch_94 : decode cX11_patch 94 = .ok (.aload_n 0, 1) := by decide +kernel
theorem dX11_patch_95 : decode cX11_patch 95 = .ok (.getfield 42, 3) := by decide +kernel
theorem dX11_patch_98 : decode cX11_patch 98 = .ok (.getfield 300, 3) := by decide +kernel
theorem dX11_patch_101 : decode cX11_patch 101 = .ok (.putfield 120, 3) := by decide +kernel
theorem dX11_patch_104 : decode cX11_patch 104 = .ok (.aload_n 0, 1) := by decide +kernel
theorem dX11_patch_105 : decode cX11_patch 105 = .ok (.getfield 56, 3) := by decide +kernel
theorem dX11_patch_108 : decode cX11_patch 108 = .ok (.invokevirtual 103, 3) := by decide +kernel
theorem dX11_patch_111 : decode cX11_patch 111 = .ok (.bipush (-4), 2) := by decide +kernel
theorem dX11_patch_113 : decode cX11_patch 113 = .ok (.ireturn, 1) := by decide +kernel
theorem dX11_patch_114 : decode cX11_patch 114 = .ok (.aload_n 0, 1) := by decide +kernel
theorem dX11_patch_115 : decode cX11_patch 115 = .ok (.getfield 42, 3) := by decide +kernel
theorem dX11_patch_118 : decode cX11_patch 118 = .ok (.invokevirtual 301, 3) := by decide +kernel
theorem dX11_patch_121 : decode cX11_patch 121 = .ok (.aload_n 0, 1) := by decide +kernel
theorem dX11_patch_122 : decode cX11_patch 122 = .ok (.getfield 56, 3) := by decide +kernel
theorem dX11_patch_125 : decode cX11_patch 125 = .ok (.aload_n 0, 1) := by decide +kernel
theorem dX11_patch_126 : decode cX11_patch 126 = .ok (.getfield 42, 3) := by decide +kernel
theorem dX11_patch_129 : decode cX11_patch 129 = .ok (.invokevirtual 304, 3) := by decide +kernel
theorem dX11_patch_132 : decode cX11_patch 132 = .ok (.aload_n 0, 1) := by decide +kernel
theorem dX11_patch_133 : decode cX11_patch 133 = .ok (.getfield 42, 3) := by decide +kernel
theorem dX11_patch_136 : decode cX11_patch 136 = .ok (.getfield 308, 3) := by decide +kernel
theorem dX11_patch_139 : decode cX11_patch 139 = .ok (.ireturn, 1) := by decide +kernel
theorem dX11_clash_0 : decode cX11_clash 0 = .ok (.iload_n 1, 1) := by decide +kernel
theorem dX11_clash_1 : decode cX11_clash 1 = .ok (.ifCond .ne 8, 3) := by decide +kernel
theorem dX11_clash_4 : decode cX11_clash 4 = .ok (.aload_n 0, 1) := by decide +kernel
theorem dX11_clash_5 : decode cX11_clash 5 = .ok (.getfield 117, 3) := by decide +kernel
theorem dX11_clash_8 : decode cX11_clash 8 = .ok (.ireturn, 1) := by decide +kernel
theorem dX11_clash_9 : decode cX11_clash 9 = .ok (.iload_n 1, 1) := by decide +kernel
theorem dX11_clash_10 : decode cX11_clash 10 = .ok (.iconst 1, 1) := by decide +kernel
theorem dX11_clash_11 : decode cX11_clash 11 = .ok (.if_icmp .ne 10, 3) := by decide +kernel
theorem dX11_clash_14 : decode cX11_clash 14 = .ok (.aload_n 0, 1) := by decide +kernel
theorem dX11_clash_15 : decode cX11_clash 15 = .ok (.getfield 120, 3) := by decide +kernel
theorem dX11_clash_18 : decode cX11_clash 18 = .ok (.goto 4, 3) := by decide +kernel
theorem dX11_clash_21 : decode cX11_clash 21 = .ok (.iconst (-1), 1) := by decide +kernel
theorem dX11_clash_22 : decode cX11_clash 22 = .ok (.ireturn, 1) := by decide +kernel
theorem dX11_mark_0 : decode cX11_mark 0 = .ok (.aload_n 0, 1) := by decide +kernel
theorem dX11_mark_1 : decode cX11_mark 1 = .ok (.getfield 14, 3) := by decide +kernel
theorem dX11_mark_4 : decode cX11_mark 4 = .ok (.getfield 130, 3) := by decide +kernel
theorem dX11_mark_7 : decode cX11_mark 7 = .ok (.iload_n 1, 1) := by decide +kernel
theorem dX11_mark_8 : decode cX11_mark 8 = .ok (.invokevirtual 158, 3) := by decide +kernel
theorem dX11_mark_11 : decode cX11_mark 11 = .ok (.ifCond .eq 14, 3) := by decide +kernel
theorem dX11_mark_14 : decode cX11_mark 14 = .ok (.iload_n 2, 1) := by decide +kernel
theorem dX11_mark_15 : decode cX11_mark 15 = .ok (.iconst (-1), 1) := by decide +kernel
theorem dX11_mark_16 : decode cX11_mark 16 = .ok (.if_icmp .lt 9, 3) := by decide +kernel
theorem dX11_mark_19 : decode cX11_mark 19 = .ok (.iload_n 2, 1) := by decide +kernel
theorem dX11_mark_20 : decode cX11_mark 20 = .ok (.bipush 9, 2) := by decide +kernel
theorem dX11_mark_22 : decode cX11_mark 22 = .ok (.if_icmp .le 5, 3) := by decide +kernel
theorem dX11_mark_25 : decode cX11_mark 25 = .ok (.iconst (-1), 1) := by decide +kernel
theorem dX11_mark_26 : decode cX11_mark 26 = .ok (.ireturn, 1) := by decide +kernel
theorem dX11_mark_27 : decode cX11_mark 27 = .ok (.iload_n 2, 1) := by decide +kernel
theorem dX11_mark_28 : decode cX11_mark 28 = .ok (.ifCond .lt 30, 3) := by decide +kernel
theorem dX11_mark_31 : decode cX11_mark 31 = .ok (.aload_n 0, 1) := by decide +kernel
theorem dX11_mark_32 : decode cX11_mark 32 = .ok (.getfield 49, 3) := by decide +kernel
theorem dX11_mark_35 : decode cX11_mark 35 = .ok (.getfield 311, 3) := by decide +kernel
theorem dX11_mark_38 : decode cX11_mark 38 = .ok (.bipush 10, 2) := by decide +kernel
theorem dX11_mark_40 : decode cX11_mark 40 = .ok (.if_icmp .lt 18, 3) := by decide +kernel
theorem dX11_mark_43 : decode cX11_mark 43 = .ok (.aload_n 0, 1) := by decide +kernel
theorem dX11_mark_44 : decode cX11_mark 44 = .ok (.getfield 49, 3) := by decide +kernel
theorem dX11_mark_47 : decode cX11_mark 47 = .ok (.getfield 312, 3) := by decide +kernel
theorem dX11_mark_50 : decode cX11_mark 50 = .ok (.iload_n 1, 1) := by decide +kernel
theorem dX11_mark_51 : decode cX11_mark 51 = .ok (.iaload, 1) := by decide +kernel
theorem dX11_mark_52 : decode cX11_mark 52 = .ok (.ifCond .ge 6, 3) := by decide +kernel
theorem dX11_mark_55 : decode cX11_mark 55 = .ok (.bipush (-3), 2) := by decide +kernel
theorem dX11_mark_57 : decode cX11_mark 57 = .ok (.ireturn, 1) := by decide +kernel
theorem dX11_mark_58 : decode cX11_mark 58 = .ok (.aload_n 0, 1) := by decide +kernel
theorem dX11_mark_59 : decode cX11_mark 59 = .ok (.getfield 49, 3) := by decide +kernel
theorem dX11_mark_62 : decode cX11_mark 62 = .ok (.iload_n 1, 1) := by decide +kernel
theorem dX11_mark_63 : decode cX11_mark 63 = .ok (.iload_n 2, 1) := by decide +kernel
theorem dX11_mark_64 : decode cX11_mark 64 = .ok (.invokevirtual 315, 3) := by decide +kernel
theorem dX11_mark_67 : decode cX11_mark 67 = .ok (.aload_n 0, 1) := by decide +kernel
theorem dX11_mark_68 : decode cX11_mark 68 = .ok (.getfield 49, 3) := by decide +kernel
theorem dX11_mark_71 : decode cX11_mark 71 = .ok (.getfield 311, 3) := by decide +kernel
theorem dX11_mark_74 : decode cX11_mark 74 = .ok (.ireturn, 1) := by decide +kernel
theorem dX11_best_0 : decode cX11_best 0 = .ok (.aload_n 0, 1) := by decide +kernel
theorem dX11_best_1 : decode cX11_best 1 = .ok (.getfield 33, 3) := by decide +kernel
theorem dX11_best_4 : decode cX11_best 4 = .ok (.iload_n 1, 1) := by decide +kernel
theorem dX11_best_5 : decode cX11_best 5 = .ok (.iconst (-1), 1) := by decide +kernel
theorem dX11_best_6 : decode cX11_best 6 = .ok (.iconst (-1), 1) := by decide +kernel
theorem dX11_best_7 : decode cX11_best 7 = .ok (.invokevirtual 225, 3) := by decide +kernel
theorem dX11_best_10 : decode cX11_best 10 = .ok (.ifCond .ne 5, 3) := by decide +kernel
theorem dX11_best_13 : decode cX11_best 13 = .ok (.iconst (-1), 1) := by decide +kernel
theorem dX11_best_14 : decode cX11_best 14 = .ok (.ireturn, 1) := by decide +kernel
theorem dX11_best_15 : decode cX11_best 15 = .ok (.aload_n 0, 1) := by decide +kernel
theorem dX11_best_16 : decode cX11_best 16 = .ok (.invokevirtual 218, 3) := by decide +kernel
theorem dX11_best_19 : decode cX11_best 19 = .ok (.aload_n 0, 1) := by decide +kernel
theorem dX11_best_20 : decode cX11_best 20 = .ok (.getfield 42, 3) := by decide +kernel
theorem dX11_best_23 : decode cX11_best 23 = .ok (.aload_n 0, 1) := by decide +kernel
theorem dX11_best_24 : decode cX11_best 24 = .ok (.getfield 33, 3) := by decide +kernel
theorem dX11_best_27 : decode cX11_best 27 = .ok (.invokevirtual 288, 3) := by decide +kernel
theorem dX11_best_30 : decode cX11_best 30 = .ok (.aload_n 0, 1) := by decide +kernel
theorem dX11_best_31 : decode cX11_best 31 = .ok (.getfield 49, 3) := by decide +kernel
theorem dX11_best_34 : decode cX11_best 34 = .ok (.aload_n 0, 1) := by decide +kernel
theorem dX11_best_35 : decode cX11_best 35 = .ok (.getfield 42, 3) := by decide +kernel
theorem dX11_best_38 : decode cX11_best 38 = .ok (.aload_n 0, 1) := by decide +kernel
theorem dX11_best_39 : decode cX11_best 39 = .ok (.getfield 14, 3) := by decide +kernel
theorem dX11_best_42 : decode cX11_best 42 = .ok (.iload_n 1, 1) := by decide +kernel
theorem dX11_best_43 : decode cX11_best 43 = .ok (.invokevirtual 318, 3) := by decide +kernel
theorem dX11_best_46 : decode cX11_best 46 = .ok (.ifCond .ne 13, 3) := by decide +kernel
theorem dX11_best_49 : decode cX11_best 49 = .ok (.aload_n 0, 1) := by decide +kernel
theorem dX11_best_50 : decode cX11_best 50 = .ok (.getfield 56, 3) := by decide +kernel
theorem dX11_best_53 : decode cX11_best 53 = .ok (.invokevirtual 103, 3) := by decide +kernel
theorem dX11_best_56 : decode cX11_best 56 = .ok (.bipush (-4), 2) := by decide +kernel
theorem dX11_best_58 : decode cX11_best 58 = .ok (.ireturn, 1) := by decide +kernel
theorem dX11_best_59 : decode cX11_best 59 = .ok (.aload_n 0, 1) := by decide +kernel
theorem dX11_best_60 : decode cX11_best 60 = .ok (.getfield 56, 3) := by decide +kernel
theorem dX11_best_63 : decode cX11_best 63 = .ok (.aload_n 0, 1) := by decide +kernel
theorem dX11_best_64 : decode cX11_best 64 = .ok (.getfield 42, 3) := by decide +kernel
theorem dX11_best_67 : decode cX11_best 67 = .ok (.invokevirtual 304, 3) := by decide +kernel
theorem dX11_best_70 : decode cX11_best 70 = .ok (.aload_n 0, 1) := by decide +kernel
theorem dX11_best_71 : decode cX11_best 71 = .ok (.getfield 49, 3) := by decide +kernel
theorem dX11_best_74 : decode cX11_best 74 = .ok (.getfield 321, 3) := by decide +kernel
theorem dX11_best_77 : decode cX11_best 77 = .ok (.ireturn, 1) := by decide +kernel
theorem dX11_patched_0 : decode cX11_patched 0 = .ok (.aload_n 0, 1) := by decide +kernel
theorem dX11_patched_1 : decode cX11_patched 1 = .ok (.getfield 56, 3) := by decide +kernel
theorem dX11_patched_4 : decode cX11_patched 4 = .ok (.getfield 324, 3) := by decide +kernel
theorem dX11_patched_7 : decode cX11_patched 7 = .ok (.ifCond .ne 5, 3) := by decide +kernel
theorem dX11_patched_10 : decode cX11_patched 10 = .ok (.iconst (-1), 1) := by decide +kernel
theorem dX11_patched_11 : decode cX11_patched 11 = .ok (.ireturn, 1) := by decide +kernel
theorem dX11_patched_12 : decode cX11_patched 12 = .ok (.iload_n 1, 1) := by decide +kernel
theorem dX11_patched_13 : decode cX11_patched 13 = .ok (.tableswitch 71 0 3 #[31, 39, 47, 55], 31) := by decide +kernel
theorem dX11_patched_44 : decode cX11_patched 44 = .ok (.aload_n 0, 1) := by decide +kernel
theorem dX11_patched_45 : decode cX11_patched 45 = .ok (.getfield 56, 3) := by decide +kernel
theorem dX11_patched_48 : decode cX11_patched 48 = .ok (.getfield 328, 3) := by decide +kernel
theorem dX11_patched_51 : decode cX11_patched 51 = .ok (.ireturn, 1) := by decide +kernel
theorem dX11_patched_52 : decode cX11_patched 52 = .ok (.aload_n 0, 1) := by decide +kernel
theorem dX11_patched_53 : decode cX11_patched 53 = .ok (.getfield 56, 3) := by decide +kernel
theorem dX11_patched_56 : decode cX11_patched 56 = .ok (.getfield 331, 3) := by decide +kernel
theorem dX11_patched_59 : decode cX11_patched 59 = .ok (.ireturn, 1) := by decide +kernel
theorem dX11_patched_60 : decode cX11_patched 60 = .ok (.aload_n 0, 1) := by decide +kernel
theorem dX11_patched_61 : decode cX11_patched 61 = .ok (.getfield 56, 3) := by decide +kernel
theorem dX11_patched_64 : decode cX11_patched 64 = .ok (.getfield 333, 3) := by decide +kernel
theorem dX11_patched_67 : decode cX11_patched 67 = .ok (.ireturn, 1) := by decide +kernel
theorem dX11_patched_68 : decode cX11_patched 68 = .ok (.aload_n 0, 1) := by decide +kernel
theorem dX11_patched_69 : decode cX11_patched 69 = .ok (.getfield 56, 3) := by decide +kernel
theorem dX11_patched_72 : decode cX11_patched 72 = .ok (.getfield 336, 3) := by decide +kernel
theorem dX11_patched_75 : decode cX11_patched 75 = .ok (.ifCond .eq 7, 3) := by decide +kernel
theorem dX11_patched_78 : decode cX11_patched 78 = .ok (.iconst 1, 1) := by decide +kernel
theorem dX11_patched_79 : decode cX11_patched 79 = .ok (.goto 4, 3) := by decide +kernel
theorem dX11_patched_82 : decode cX11_patched 82 = .ok (.iconst 0, 1) := by decide +kernel
theorem dX11_patched_83 : decode cX11_patched 83 = .ok (.ireturn, 1) := by decide +kernel
theorem dX11_patched_84 : decode cX11_patched 84 = .ok (.iconst (-1), 1) := by decide +kernel
theorem dX11_patched_85 : decode cX11_patched 85 = .ok (.ireturn, 1) := by decide +kernel
theorem dX11_function_0 : decode cX11_function 0 = .ok (.aload_n 0, 1) := by decide +kernel
theorem dX11_function_1 : decode cX11_function 1 = .ok (.getfield 56, 3) := by decide +kernel
theorem dX11_function_4 : decode cX11_function 4 = .ok (.getfield 324, 3) := by decide +kernel
theorem dX11_function_7 : decode cX11_function 7 = .ok (.ifCond .eq 18, 3) := by decide +kernel
theorem dX11_function_10 : decode cX11_function 10 = .ok (.iload_n 1, 1) := by decide +kernel
theorem dX11_function_11 : decode cX11_function 11 = .ok (.ifCond .lt 14, 3) := by decide +kernel
theorem dX11_function_14 : decode cX11_function 14 = .ok (.iload_n 1, 1) := by decide +kernel
theorem dX11_function_15 : decode cX11_function 15 = .ok (.aload_n 0, 1) := by decide +kernel
theorem dX11_function_16 : decode cX11_function 16 = .ok (.getfield 56, 3) := by decide +kernel
theorem dX11_function_19 : decode cX11_function 19 = .ok (.getfield 331, 3) := by decide +kernel
theorem dX11_function_22 : decode cX11_function 22 = .ok (.if_icmp .lt 7, 3) := by decide +kernel
theorem dX11_function_25 : decode cX11_function 25 = .ok (.iconst (-1), 1) := by decide +kernel
theorem dX11_function_26 : decode cX11_function 26 = .ok (.goto 12, 3) := by decide +kernel
theorem dX11_function_29 : decode cX11_function 29 = .ok (.aload_n 0, 1) := by decide +kernel
theorem dX11_function_30 : decode cX11_function 30 = .ok (.getfield 56, 3) := by decide +kernel
theorem dX11_function_33 : decode cX11_function 33 = .ok (.getfield 339, 3) := by decide +kernel
theorem dX11_function_36 : decode cX11_function 36 = .ok (.iload_n 1, 1) := by decide +kernel
theorem dX11_function_37 : decode cX11_function 37 = .ok (.iaload, 1) := by decide +kernel
theorem dX11_function_38 : decode cX11_function 38 = .ok (.ireturn, 1) := by decide +kernel
theorem dX11_told_0 : decode cX11_told 0 = .ok (.aload_n 0, 1) := by decide +kernel
theorem dX11_told_1 : decode cX11_told 1 = .ok (.getfield 56, 3) := by decide +kernel
theorem dX11_told_4 : decode cX11_told 4 = .ok (.getfield 324, 3) := by decide +kernel
theorem dX11_told_7 : decode cX11_told 7 = .ok (.ifCond .eq 18, 3) := by decide +kernel
theorem dX11_told_10 : decode cX11_told 10 = .ok (.iload_n 1, 1) := by decide +kernel
theorem dX11_told_11 : decode cX11_told 11 = .ok (.ifCond .lt 14, 3) := by decide +kernel
theorem dX11_told_14 : decode cX11_told 14 = .ok (.iload_n 1, 1) := by decide +kernel
theorem dX11_told_15 : decode cX11_told 15 = .ok (.aload_n 0, 1) := by decide +kernel
theorem dX11_told_16 : decode cX11_told 16 = .ok (.getfield 56, 3) := by decide +kernel
theorem dX11_told_19 : decode cX11_told 19 = .ok (.getfield 333, 3) := by decide +kernel
theorem dX11_told_22 : decode cX11_told 22 = .ok (.if_icmp .lt 7, 3) := by decide +kernel
theorem dX11_told_25 : decode cX11_told 25 = .ok (.iconst (-1), 1) := by decide +kernel
theorem dX11_told_26 : decode cX11_told 26 = .ok (.goto 12, 3) := by decide +kernel
theorem dX11_told_29 : decode cX11_told 29 = .ok (.aload_n 0, 1) := by decide +kernel
theorem dX11_told_30 : decode cX11_told 30 = .ok (.getfield 56, 3) := by decide +kernel
theorem dX11_told_33 : decode cX11_told 33 = .ok (.getfield 342, 3) := by decide +kernel
theorem dX11_told_36 : decode cX11_told 36 = .ok (.iload_n 1, 1) := by decide +kernel
theorem dX11_told_37 : decode cX11_told 37 = .ok (.iaload, 1) := by decide +kernel
theorem dX11_told_38 : decode cX11_told 38 = .ok (.ireturn, 1) := by decide +kernel
theorem dX11_node_0 : decode cX11_node 0 = .ok (.aload_n 0, 1) := by decide +kernel
theorem dX11_node_1 : decode cX11_node 1 = .ok (.getfield 56, 3) := by decide +kernel
theorem dX11_node_4 : decode cX11_node 4 = .ok (.getfield 324, 3) := by decide +kernel
theorem dX11_node_7 : decode cX11_node 7 = .ok (.ifCond .eq 18, 3) := by decide +kernel
theorem dX11_node_10 : decode cX11_node 10 = .ok (.iload_n 1, 1) := by decide +kernel
theorem dX11_node_11 : decode cX11_node 11 = .ok (.ifCond .lt 14, 3) := by decide +kernel
theorem dX11_node_14 : decode cX11_node 14 = .ok (.iload_n 1, 1) := by decide +kernel
theorem dX11_node_15 : decode cX11_node 15 = .ok (.aload_n 0, 1) := by decide +kernel
theorem dX11_node_16 : decode cX11_node 16 = .ok (.getfield 56, 3) := by decide +kernel
theorem dX11_node_19 : decode cX11_node 19 = .ok (.getfield 328, 3) := by decide +kernel
theorem dX11_node_22 : decode cX11_node 22 = .ok (.if_icmp .lt 5, 3) := by decide +kernel
theorem dX11_node_25 : decode cX11_node 25 = .ok (.iconst (-1), 1) := by decide +kernel
theorem dX11_node_26 : decode cX11_node 26 = .ok (.ireturn, 1) := by decide +kernel
theorem dX11_node_27 : decode cX11_node 27 = .ok (.iload_n 2, 1) := by decide +kernel
theorem dX11_node_28 : decode cX11_node 28 = .ok (.tableswitch 101 0 4 #[36, 46, 56, 66, 76], 36) := by decide +kernel
theorem dX11_node_64 : decode cX11_node 64 = .ok (.aload_n 0, 1) := by decide +kernel
theorem dX11_node_65 : decode cX11_node 65 = .ok (.getfield 56, 3) := by decide +kernel
theorem dX11_node_68 : decode cX11_node 68 = .ok (.getfield 345, 3) := by decide +kernel
theorem dX11_node_71 : decode cX11_node 71 = .ok (.iload_n 1, 1) := by decide +kernel
theorem dX11_node_72 : decode cX11_node 72 = .ok (.iaload, 1) := by decide +kernel
theorem dX11_node_73 : decode cX11_node 73 = .ok (.ireturn, 1) := by decide +kernel
theorem dX11_node_74 : decode cX11_node 74 = .ok (.aload_n 0, 1) := by decide +kernel
theorem dX11_node_75 : decode cX11_node 75 = .ok (.getfield 56, 3) := by decide +kernel
theorem dX11_node_78 : decode cX11_node 78 = .ok (.getfield 348, 3) := by decide +kernel
theorem dX11_node_81 : decode cX11_node 81 = .ok (.iload_n 1, 1) := by decide +kernel
theorem dX11_node_82 : decode cX11_node 82 = .ok (.iaload, 1) := by decide +kernel
theorem dX11_node_83 : decode cX11_node 83 = .ok (.ireturn, 1) := by decide +kernel
theorem dX11_node_84 : decode cX11_node 84 = .ok (.aload_n 0, 1) := by decide +kernel
theorem dX11_node_85 : decode cX11_node 85 = .ok (.getfield 56, 3) := by decide +kernel
theorem dX11_node_88 : decode cX11_node 88 = .ok (.getfield 351, 3) := by decide +kernel
theorem dX11_node_91 : decode cX11_node 91 = .ok (.iload_n 1, 1) := by decide +kernel
theorem dX11_node_92 : decode cX11_node 92 = .ok (.iaload, 1) := by decide +kernel
theorem dX11_node_93 : decode cX11_node 93 = .ok (.ireturn, 1) := by decide +kernel
theorem dX11_node_94 : decode cX11_node 94 = .ok (.aload_n 0, 1) := by decide +kernel
theorem dX11_node_95 : decode cX11_node 95 = .ok (.getfield 56, 3) := by decide +kernel
theorem dX11_node_98 : decode cX11_node 98 = .ok (.getfield 354, 3) := by decide +kernel
theorem dX11_node_101 : decode cX11_node 101 = .ok (.iload_n 1, 1) := by decide +kernel
theorem dX11_node_102 : decode cX11_node 102 = .ok (.iaload, 1) := by decide +kernel
theorem dX11_node_103 : decode cX11_node 103 = .ok (.ireturn, 1) := by decide +kernel
theorem dX11_node_104 : decode cX11_node 104 = .ok (.aload_n 0, 1) := by decide +kernel
theorem dX11_node_105 : decode cX11_node 105 = .ok (.getfield 56, 3) := by decide +kernel
theorem dX11_node_108 : decode cX11_node 108 = .ok (.getfield 336, 3) := by decide +kernel
theorem dX11_node_111 : decode cX11_node 111 = .ok (.ifCond .eq 15, 3) := by decide +kernel
theorem dX11_node_114 : decode cX11_node 114 = .ok (.aload_n 0, 1) := by decide +kernel
theorem dX11_node_115 : decode cX11_node 115 = .ok (.getfield 56, 3) := by decide +kernel
theorem dX11_node_118 : decode cX11_node 118 = .ok (.getfield 357, 3) := by decide +kernel
theorem dX11_node_121 : decode cX11_node 121 = .ok (.iload_n 1, 1) := by decide +kernel
theorem dX11_node_122 : decode cX11_node 122 = .ok (.iaload, 1) := by decide +kernel
theorem dX11_node_123 : decode cX11_node 123 = .ok (.goto 5, 3) := by decide +kernel
theorem dX11_node_126 : decode cX11_node 126 = .ok (.bipush (-2), 2) := by decide +kernel
theorem dX11_node_128 : decode cX11_node 128 = .ok (.ireturn, 1) := by decide +kernel
theorem dX11_node_129 : decode cX11_node 129 = .ok (.iconst (-1), 1) := by decide +kernel
theorem dX11_node_130 : decode cX11_node 130 = .ok (.ireturn, 1) := by decide +kernel
theorem dX11_cost_0 : decode cX11_cost 0 = .ok (.iload_n 1, 1) := by decide +kernel
theorem dX11_cost_1 : decode cX11_cost 1 = .ok (.ifCond .lt 20, 3) := by decide +kernel
theorem dX11_cost_4 : decode cX11_cost 4 = .ok (.iload_n 1, 1) := by decide +kernel
theorem dX11_cost_5 : decode cX11_cost 5 = .ok (.iconst 3, 1) := by decide +kernel
theorem dX11_cost_6 : decode cX11_cost 6 = .ok (.if_icmp .gt 15, 3) := by decide +kernel
theorem dX11_cost_9 : decode cX11_cost 9 = .ok (.iload_n 2, 1) := by decide +kernel
theorem dX11_cost_10 : decode cX11_cost 10 = .ok (.ifCond .lt 11, 3) := by decide +kernel
theorem dX11_cost_13 : decode cX11_cost 13 = .ok (.iload_n 2, 1) := by decide +kernel
theorem dX11_cost_14 : decode cX11_cost 14 = .ok (.iload_n 1, 1) := by decide +kernel
theorem dX11_cost_15 : decode cX11_cost 15 = .ok (.invokestatic 360, 3) := by decide +kernel
theorem dX11_cost_18 : decode cX11_cost 18 = .ok (.if_icmp .le 5, 3) := by decide +kernel
theorem dX11_cost_21 : decode cX11_cost 21 = .ok (.iconst (-1), 1) := by decide +kernel
theorem dX11_cost_22 : decode cX11_cost 22 = .ok (.ireturn, 1) := by decide +kernel
theorem dX11_cost_23 : decode cX11_cost 23 = .ok (.iload_n 1, 1) := by decide +kernel
theorem dX11_cost_24 : decode cX11_cost 24 = .ok (.iload_n 2, 1) := by decide +kernel
theorem dX11_cost_25 : decode cX11_cost 25 = .ok (.invokestatic 365, 3) := by decide +kernel
theorem dX11_cost_28 : decode cX11_cost 28 = .ok (.ireturn, 1) := by decide +kernel
theorem dX11_isPlace_0 : decode cX11_isPlace 0 = .ok (.iload_n 0, 1) := by decide +kernel
theorem dX11_isPlace_1 : decode cX11_isPlace 1 = .ok (.ifCond .lt 23, 3) := by decide +kernel
theorem dX11_isPlace_4 : decode cX11_isPlace 4 = .ok (.iload_n 0, 1) := by decide +kernel
theorem dX11_isPlace_5 : decode cX11_isPlace 5 = .ok (.bipush 32, 2) := by decide +kernel
theorem dX11_isPlace_7 : decode cX11_isPlace 7 = .ok (.if_icmp .ge 17, 3) := by decide +kernel
theorem dX11_isPlace_10 : decode cX11_isPlace 10 = .ok (.iload_n 1, 1) := by decide +kernel
theorem dX11_isPlace_11 : decode cX11_isPlace 11 = .ok (.ifCond .lt 13, 3) := by decide +kernel
theorem dX11_isPlace_14 : decode cX11_isPlace 14 = .ok (.iload_n 1, 1) := by decide +kernel
theorem dX11_isPlace_15 : decode cX11_isPlace 15 = .ok (.bipush 32, 2) := by decide +kernel
theorem dX11_isPlace_17 : decode cX11_isPlace 17 = .ok (.if_icmp .ge 7, 3) := by decide +kernel
theorem dX11_isPlace_20 : decode cX11_isPlace 20 = .ok (.iconst 1, 1) := by decide +kernel
theorem dX11_isPlace_21 : decode cX11_isPlace 21 = .ok (.goto 4, 3) := by decide +kernel
theorem dX11_isPlace_24 : decode cX11_isPlace 24 = .ok (.iconst 0, 1) := by decide +kernel
theorem dX11_isPlace_25 : decode cX11_isPlace 25 = .ok (.ireturn, 1) := by decide +kernel
theorem dX11_site_0 : decode cX11_site 0 = .ok (.aload_n 0, 1) := by decide +kernel
theorem dX11_site_1 : decode cX11_site 1 = .ok (.getfield 14, 3) := by decide +kernel
theorem dX11_site_4 : decode cX11_site 4 = .ok (.getfield 130, 3) := by decide +kernel
theorem dX11_site_7 : decode cX11_site 7 = .ok (.iload_n 1, 1) := by decide +kernel
theorem dX11_site_8 : decode cX11_site 8 = .ok (.invokevirtual 158, 3) := by decide +kernel
theorem dX11_site_11 : decode cX11_site 11 = .ok (.ifCond .eq 11, 3) := by decide +kernel
theorem dX11_site_14 : decode cX11_site 14 = .ok (.iload_n 2, 1) := by decide +kernel
theorem dX11_site_15 : decode cX11_site 15 = .ok (.iload_n 3, 1) := by decide +kernel
theorem dX11_site_16 : decode cX11_site 16 = .ok (.invokestatic 369, 3) := by decide +kernel
theorem dX11_site_19 : decode cX11_site 19 = .ok (.ifCond .ne 5, 3) := by decide +kernel
theorem dX11_site_22 : decode cX11_site 22 = .ok (.iconst (-1), 1) := by decide +kernel
theorem dX11_site_23 : decode cX11_site 23 = .ok (.ireturn, 1) := by decide +kernel
theorem dX11_site_24 : decode cX11_site 24 = .ok (.aload_n 0, 1) := by decide +kernel
theorem dX11_site_25 : decode cX11_site 25 = .ok (.getfield 14, 3) := by decide +kernel
theorem dX11_site_28 : decode cX11_site 28 = .ok (.getfield 130, 3) := by decide +kernel
theorem dX11_site_31 : decode cX11_site 31 = .ok (.getfield 372, 3) := by decide +kernel
theorem dX11_site_34 : decode cX11_site 34 = .ok (.iload_n 1, 1) := by decide +kernel
theorem dX11_site_35 : decode cX11_site 35 = .ok (.iaload, 1) := by decide +kernel
theorem dX11_site_36 : decode cX11_site 36 = .ok (.istore 4, 2) := by decide +kernel
theorem dX11_site_38 : decode cX11_site 38 = .ok (.aload_n 0, 1) := by decide +kernel
theorem dX11_site_39 : decode cX11_site 39 = .ok (.getfield 14, 3) := by decide +kernel
theorem dX11_site_42 : decode cX11_site 42 = .ok (.getfield 130, 3) := by decide +kernel
theorem dX11_site_45 : decode cX11_site 45 = .ok (.getfield 372, 3) := by decide +kernel
theorem dX11_site_48 : decode cX11_site 48 = .ok (.iload_n 1, 1) := by decide +kernel
theorem dX11_site_49 : decode cX11_site 49 = .ok (.bipush 32, 2) := by decide +kernel
theorem dX11_site_51 : decode cX11_site 51 = .ok (.iload_n 3, 1) := by decide +kernel
theorem dX11_site_52 : decode cX11_site 52 = .ok (.imul, 1) := by decide +kernel
theorem dX11_site_53 : decode cX11_site 53 = .ok (.iload_n 2, 1) := by decide +kernel
theorem dX11_site_54 : decode cX11_site 54 = .ok (.iadd, 1) := by decide +kernel
theorem dX11_site_55 : decode cX11_site 55 = .ok (.iastore, 1) := by decide +kernel
theorem dX11_site_56 : decode cX11_site 56 = .ok (.aload_n 0, 1) := by decide +kernel
theorem dX11_site_57 : decode cX11_site 57 = .ok (.aload_n 0, 1) := by decide +kernel
theorem dX11_site_58 : decode cX11_site 58 = .ok (.getfield 14, 3) := by decide +kernel
theorem dX11_site_61 : decode cX11_site 61 = .ok (.invokevirtual 150, 3) := by decide +kernel
theorem dX11_site_64 : decode cX11_site 64 = .ok (.iload 4, 2) := by decide +kernel
theorem dX11_site_66 : decode cX11_site 66 = .ok (.ireturn, 1) := by decide +kernel
theorem dX11_spare_0 : decode cX11_spare 0 = .ok (.iload_n 1, 1) := by decide +kernel
theorem dX11_spare_1 : decode cX11_spare 1 = .ok (.ifCond .lt 16, 3) := by decide +kernel
theorem dX11_spare_4 : decode cX11_spare 4 = .ok (.iload_n 1, 1) := by decide +kernel
theorem dX11_spare_5 : decode cX11_spare 5 = .ok (.iconst 5, 1) := by decide +kernel
theorem dX11_spare_6 : decode cX11_spare 6 = .ok (.if_icmp .gt 11, 3) := by decide +kernel
theorem dX11_spare_9 : decode cX11_spare 9 = .ok (.iload_n 2, 1) := by decide +kernel
theorem dX11_spare_10 : decode cX11_spare 10 = .ok (.iload_n 3, 1) := by decide +kernel
theorem dX11_spare_11 : decode cX11_spare 11 = .ok (.invokestatic 369, 3) := by decide +kernel
theorem dX11_spare_14 : decode cX11_spare 14 = .ok (.ifCond .ne 5, 3) := by decide +kernel
theorem dX11_spare_17 : decode cX11_spare 17 = .ok (.iconst (-1), 1) := by decide +kernel
theorem dX11_spare_18 : decode cX11_spare 18 = .ok (.ireturn, 1) := by decide +kernel
theorem dX11_spare_19 : decode cX11_spare 19 = .ok (.aload_n 0, 1) := by decide +kernel
theorem dX11_spare_20 : decode cX11_spare 20 = .ok (.getfield 63, 3) := by decide +kernel
theorem dX11_spare_23 : decode cX11_spare 23 = .ok (.getfield 375, 3) := by decide +kernel
theorem dX11_spare_26 : decode cX11_spare 26 = .ok (.bipush 12, 2) := by decide +kernel
theorem dX11_spare_28 : decode cX11_spare 28 = .ok (.if_icmp .lt 6, 3) := by decide +kernel
theorem dX11_spare_31 : decode cX11_spare 31 = .ok (.bipush (-3), 2) := by decide +kernel
theorem dX11_spare_33 : decode cX11_spare 33 = .ok (.ireturn, 1) := by decide +kernel
theorem dX11_spare_34 : decode cX11_spare 34 = .ok (.aload_n 0, 1) := by decide +kernel
theorem dX11_spare_35 : decode cX11_spare 35 = .ok (.getfield 63, 3) := by decide +kernel
theorem dX11_spare_38 : decode cX11_spare 38 = .ok (.iload_n 1, 1) := by decide +kernel
theorem dX11_spare_39 : decode cX11_spare 39 = .ok (.bipush 32, 2) := by decide +kernel
theorem dX11_spare_41 : decode cX11_spare 41 = .ok (.iload_n 3, 1) := by decide +kernel
theorem dX11_spare_42 : decode cX11_spare 42 = .ok (.imul, 1) := by decide +kernel
theorem dX11_spare_43 : decode cX11_spare 43 = .ok (.iload_n 2, 1) := by decide +kernel
theorem dX11_spare_44 : decode cX11_spare 44 = .ok (.iadd, 1) := by decide +kernel
theorem dX11_spare_45 : decode cX11_spare 45 = .ok (.invokevirtual 376, 3) := by decide +kernel
theorem dX11_spare_48 : decode cX11_spare 48 = .ok (.istore 4, 2) := by decide +kernel
theorem dX11_spare_50 : decode cX11_spare 50 = .ok (.aload_n 0, 1) := by decide +kernel
theorem dX11_spare_51 : decode cX11_spare 51 = .ok (.getfield 56, 3) := by decide +kernel
theorem dX11_spare_54 : decode cX11_spare 54 = .ok (.invokevirtual 103, 3) := by decide +kernel
theorem dX11_spare_57 : decode cX11_spare 57 = .ok (.aload_n 0, 1) := by decide +kernel
theorem dX11_spare_58 : decode cX11_spare 58 = .ok (.getfield 70, 3) := by decide +kernel
theorem dX11_spare_61 : decode cX11_spare 61 = .ok (.iconst 0, 1) := by decide +kernel
theorem dX11_spare_62 : decode cX11_spare 62 = .ok (.putfield 215, 3) := by decide +kernel
theorem dX11_spare_65 : decode cX11_spare 65 = .ok (.iload 4, 2) := by decide +kernel
theorem dX11_spare_67 : decode cX11_spare 67 = .ok (.ireturn, 1) := by decide +kernel
theorem dX11_place_0 : decode cX11_place 0 = .ok (.aload_n 0, 1) := by decide +kernel
theorem dX11_place_1 : decode cX11_place 1 = .ok (.getfield 56, 3) := by decide +kernel
theorem dX11_place_4 : decode cX11_place 4 = .ok (.getfield 324, 3) := by decide +kernel
theorem dX11_place_7 : decode cX11_place 7 = .ok (.ifCond .eq 27, 3) := by decide +kernel
theorem dX11_place_10 : decode cX11_place 10 = .ok (.aload_n 0, 1) := by decide +kernel
theorem dX11_place_11 : decode cX11_place 11 = .ok (.getfield 63, 3) := by decide +kernel
theorem dX11_place_14 : decode cX11_place 14 = .ok (.aload_n 0, 1) := by decide +kernel
theorem dX11_place_15 : decode cX11_place 15 = .ok (.getfield 56, 3) := by decide +kernel
theorem dX11_place_18 : decode cX11_place 18 = .ok (.aload_n 0, 1) := by decide +kernel
theorem dX11_place_19 : decode cX11_place 19 = .ok (.getfield 14, 3) := by decide +kernel
theorem dX11_place_22 : decode cX11_place 22 = .ok (.getfield 130, 3) := by decide +kernel
theorem dX11_place_25 : decode cX11_place 25 = .ok (.getfield 372, 3) := by decide +kernel
theorem dX11_place_28 : decode cX11_place 28 = .ok (.invokevirtual 379, 3) := by decide +kernel
theorem dX11_place_31 : decode cX11_place 31 = .ok (.goto 4, 3) := by decide +kernel
theorem dX11_place_34 : decode cX11_place 34 = .ok (.iconst (-1), 1) := by decide +kernel
theorem dX11_place_35 : decode cX11_place 35 = .ok (.ireturn, 1) := by decide +kernel
theorem dX11_used_0 : decode cX11_used 0 = .ok (.iload_n 1, 1) := by decide +kernel
theorem dX11_used_1 : decode cX11_used 1 = .ok (.ifCond .lt 14, 3) := by decide +kernel
theorem dX11_used_4 : decode cX11_used 4 = .ok (.iload_n 1, 1) := by decide +kernel
theorem dX11_used_5 : decode cX11_used 5 = .ok (.aload_n 0, 1) := by decide +kernel
theorem dX11_used_6 : decode cX11_used 6 = .ok (.getfield 63, 3) := by decide +kernel
theorem dX11_used_9 : decode cX11_used 9 = .ok (.getfield 375, 3) := by decide +kernel
theorem dX11_used_12 : decode cX11_used 12 = .ok (.if_icmp .lt 7, 3) := by decide +kernel
theorem dX11_used_15 : decode cX11_used 15 = .ok (.iconst (-1), 1) := by decide +kernel
theorem dX11_used_16 : decode cX11_used 16 = .ok (.goto 14, 3) := by decide +kernel
theorem dX11_used_19 : decode cX11_used 19 = .ok (.aload_n 0, 1) := by decide +kernel
theorem dX11_used_20 : decode cX11_used 20 = .ok (.getfield 63, 3) := by decide +kernel
theorem dX11_used_23 : decode cX11_used 23 = .ok (.getfield 383, 3) := by decide +kernel
theorem dX11_used_26 : decode cX11_used 26 = .ok (.iload_n 1, 1) := by decide +kernel
theorem dX11_used_27 : decode cX11_used 27 = .ok (.ishr, 1) := by decide +kernel
theorem dX11_used_28 : decode cX11_used 28 = .ok (.iconst 1, 1) := by decide +kernel
theorem dX11_used_29 : decode cX11_used 29 = .ok (.iand, 1) := by decide +kernel
theorem dX11_used_30 : decode cX11_used 30 = .ok (.ireturn, 1) := by decide +kernel
theorem dX11_delay_0 : decode cX11_delay 0 = .ok (.iload_n 1, 1) := by decide +kernel
theorem dX11_delay_1 : decode cX11_delay 1 = .ok (.ifCond .lt 19, 3) := by decide +kernel
theorem dX11_delay_4 : decode cX11_delay 4 = .ok (.iload_n 1, 1) := by decide +kernel
theorem dX11_delay_5 : decode cX11_delay 5 = .ok (.bipush 9, 2) := by decide +kernel
theorem dX11_delay_7 : decode cX11_delay 7 = .ok (.if_icmp .ge 13, 3) := by decide +kernel
theorem dX11_delay_10 : decode cX11_delay 10 = .ok (.iload_n 2, 1) := by decide +kernel
theorem dX11_delay_11 : decode cX11_delay 11 = .ok (.ifCond .lt 9, 3) := by decide +kernel
theorem dX11_delay_14 : decode cX11_delay 14 = .ok (.iload_n 2, 1) := by decide +kernel
theorem dX11_delay_15 : decode cX11_delay 15 = .ok (.bipush 9, 2) := by decide +kernel
theorem dX11_delay_17 : decode cX11_delay 17 = .ok (.if_icmp .le 5, 3) := by decide +kernel
theorem dX11_delay_20 : decode cX11_delay 20 = .ok (.iconst (-1), 1) := by decide +kernel
theorem dX11_delay_21 : decode cX11_delay 21 = .ok (.ireturn, 1) := by decide +kernel
theorem dX11_delay_22 : decode cX11_delay 22 = .ok (.aload_n 0, 1) := by decide +kernel
theorem dX11_delay_23 : decode cX11_delay 23 = .ok (.getfield 80, 3) := by decide +kernel
theorem dX11_delay_26 : decode cX11_delay 26 = .ok (.iload_n 1, 1) := by decide +kernel
theorem dX11_delay_27 : decode cX11_delay 27 = .ok (.iaload, 1) := by decide +kernel
theorem dX11_delay_28 : decode cX11_delay 28 = .ok (.istore_n 3, 1) := by decide +kernel
theorem dX11_delay_29 : decode cX11_delay 29 = .ok (.aload_n 0, 1) := by decide +kernel
theorem dX11_delay_30 : decode cX11_delay 30 = .ok (.getfield 80, 3) := by decide +kernel
theorem dX11_delay_33 : decode cX11_delay 33 = .ok (.iload_n 1, 1) := by decide +kernel
theorem dX11_delay_34 : decode cX11_delay 34 = .ok (.iload_n 2, 1) := by decide +kernel
theorem dX11_delay_35 : decode cX11_delay 35 = .ok (.iastore, 1) := by decide +kernel
theorem dX11_delay_36 : decode cX11_delay 36 = .ok (.iload_n 3, 1) := by decide +kernel
theorem dX11_delay_37 : decode cX11_delay 37 = .ok (.ireturn, 1) := by decide +kernel
theorem dX11_arrive_0 : decode cX11_arrive 0 = .ok (.aload_n 0, 1) := by decide +kernel
theorem dX11_arrive_1 : decode cX11_arrive 1 = .ok (.iload_n 1, 1) := by decide +kernel
theorem dX11_arrive_2 : decode cX11_arrive 2 = .ok (.invokevirtual 126, 3) := by decide +kernel
theorem dX11_arrive_5 : decode cX11_arrive 5 = .ok (.astore_n 3, 1) := by decide +kernel
theorem dX11_arrive_6 : decode cX11_arrive 6 = .ok (.aload_n 3, 1) := by decide +kernel
theorem dX11_arrive_7 : decode cX11_arrive 7 = .ok (.ifnull 14, 3) := by decide +kernel
theorem dX11_arrive_10 : decode cX11_arrive 10 = .ok (.aload_n 3, 1) := by decide +kernel
theorem dX11_arrive_11 : decode cX11_arrive 11 = .ok (.getfield 130, 3) := by decide +kernel
theorem dX11_arrive_14 : decode cX11_arrive 14 = .ok (.iload_n 2, 1) := by decide +kernel
theorem dX11_arrive_15 : decode cX11_arrive 15 = .ok (.invokevirtual 158, 3) := by decide +kernel
theorem dX11_arrive_18 : decode cX11_arrive 18 = .ok (.ifCond .ne 5, 3) := by decide +kernel
theorem dX11_arrive_21 : decode cX11_arrive 21 = .ok (.iconst (-1), 1) := by decide +kernel
theorem dX11_arrive_22 : decode cX11_arrive 22 = .ok (.ireturn, 1) := by decide +kernel
theorem dX11_arrive_23 : decode cX11_arrive 23 = .ok (.aload_n 3, 1) := by decide +kernel
theorem dX11_arrive_24 : decode cX11_arrive 24 = .ok (.invokevirtual 169, 3) := by decide +kernel
theorem dX11_arrive_27 : decode cX11_arrive 27 = .ok (.aload_n 3, 1) := by decide +kernel
theorem dX11_arrive_28 : decode cX11_arrive 28 = .ok (.aload_n 0, 1) := by decide +kernel
theorem dX11_arrive_29 : decode cX11_arrive 29 = .ok (.getfield 80, 3) := by decide +kernel
theorem dX11_arrive_32 : decode cX11_arrive 32 = .ok (.invokevirtual 386, 3) := by decide +kernel
theorem dX11_arrive_35 : decode cX11_arrive 35 = .ok (.aload_n 3, 1) := by decide +kernel
theorem dX11_arrive_36 : decode cX11_arrive 36 = .ok (.getfield 390, 3) := by decide +kernel
theorem dX11_arrive_39 : decode cX11_arrive 39 = .ok (.iload_n 2, 1) := by decide +kernel
theorem dX11_arrive_40 : decode cX11_arrive 40 = .ok (.iaload, 1) := by decide +kernel
theorem dX11_arrive_41 : decode cX11_arrive 41 = .ok (.ireturn, 1) := by decide +kernel
theorem dX11_late_0 : decode cX11_late 0 = .ok (.iload_n 1, 1) := by decide +kernel
theorem dX11_late_1 : decode cX11_late 1 = .ok (.ifCond .ge 5, 3) := by decide +kernel
theorem dX11_late_4 : decode cX11_late 4 = .ok (.iconst (-1), 1) := by decide +kernel
theorem dX11_late_5 : decode cX11_late 5 = .ok (.ireturn, 1) := by decide +kernel
theorem dX11_late_6 : decode cX11_late 6 = .ok (.aload_n 0, 1) := by decide +kernel
theorem dX11_late_7 : decode cX11_late 7 = .ok (.getfield 14, 3) := by decide +kernel
theorem dX11_late_10 : decode cX11_late 10 = .ok (.invokevirtual 169, 3) := by decide +kernel
theorem dX11_late_13 : decode cX11_late 13 = .ok (.aload_n 0, 1) := by decide +kernel
theorem dX11_late_14 : decode cX11_late 14 = .ok (.getfield 14, 3) := by decide +kernel
theorem dX11_late_17 : decode cX11_late 17 = .ok (.aload_n 0, 1) := by decide +kernel
theorem dX11_late_18 : decode cX11_late 18 = .ok (.getfield 80, 3) := by decide +kernel
theorem dX11_late_21 : decode cX11_late 21 = .ok (.invokevirtual 386, 3) := by decide +kernel
theorem dX11_late_24 : decode cX11_late 24 = .ok (.iconst 0, 1) := by decide +kernel
theorem dX11_late_25 : decode cX11_late 25 = .ok (.istore_n 2, 1) := by decide +kernel
theorem dX11_late_26 : decode cX11_late 26 = .ok (.iconst 0, 1) := by decide +kernel
theorem dX11_late_27 : decode cX11_late 27 = .ok (.istore_n 3, 1) := by decide +kernel
theorem dX11_late_28 : decode cX11_late 28 = .ok (.iload_n 3, 1) := by decide +kernel
theorem dX11_late_29 : decode cX11_late 29 = .ok (.aload_n 0, 1) := by decide +kernel
theorem dX11_late_30 : decode cX11_late 30 = .ok (.getfield 14, 3) := by decide +kernel
theorem dX11_late_33 : decode cX11_late 33 = .ok (.getfield 130, 3) := by decide +kernel
theorem dX11_late_36 : decode cX11_late 36 = .ok (.invokevirtual 393, 3) := by decide +kernel
theorem dX11_late_39 : decode cX11_late 39 = .ok (.if_icmp .ge 36, 3) := by decide +kernel
theorem dX11_late_42 : decode cX11_late 42 = .ok (.aload_n 0, 1) := by decide +kernel
theorem dX11_late_43 : decode cX11_late 43 = .ok (.getfield 14, 3) := by decide +kernel
theorem dX11_late_46 : decode cX11_late 46 = .ok (.getfield 390, 3) := by decide +kernel
theorem dX11_late_49 : decode cX11_late 49 = .ok (.aload_n 0, 1) := by decide +kernel
theorem dX11_late_50 : decode cX11_late 50 = .ok (.getfield 14, 3) := by decide +kernel
theorem dX11_late_53 : decode cX11_late 53 = .ok (.getfield 130, 3) := by decide +kernel
theorem dX11_late_56 : decode cX11_late 56 = .ok (.getfield 188, 3) := by decide +kernel
theorem dX11_late_59 : decode cX11_late 59 = .ok (.iload_n 3, 1) := by decide +kernel
theorem dX11_late_60 : decode cX11_late 60 = .ok (.iaload, 1) := by decide +kernel
theorem dX11_late_61 : decode cX11_late 61 = .ok (.iaload, 1) := by decide +kernel
theorem dX11_late_62 : decode cX11_late 62 = .ok (.iload_n 1, 1) := by decide +kernel
theorem dX11_late_63 : decode cX11_late 63 = .ok (.if_icmp .le 6, 3) := by decide +kernel
theorem dX11_late_66 : decode cX11_late 66 = .ok (.iinc 2 1, 3) := by decide +kernel
theorem dX11_late_69 : decode cX11_late 69 = .ok (.iinc 3 1, 3) := by decide +kernel
theorem dX11_late_72 : decode cX11_late 72 = .ok (.goto (-44), 3) := by decide +kernel
theorem dX11_late_75 : decode cX11_late 75 = .ok (.iload_n 2, 1) := by decide +kernel
theorem dX11_late_76 : decode cX11_late 76 = .ok (.ireturn, 1) := by decide +kernel
theorem dX11_apply_0 : decode cX11_apply 0 = .ok (.aload_n 0, 1) := by decide +kernel
theorem dX11_apply_1 : decode cX11_apply 1 = .ok (.getfield 56, 3) := by decide +kernel
theorem dX11_apply_4 : decode cX11_apply 4 = .ok (.getfield 324, 3) := by decide +kernel
theorem dX11_apply_7 : decode cX11_apply 7 = .ok (.ifCond .ne 5, 3) := by decide +kernel
theorem dX11_apply_10 : decode cX11_apply 10 = .ok (.iconst (-1), 1) := by decide +kernel
theorem dX11_apply_11 : decode cX11_apply 11 = .ok (.ireturn, 1) := by decide +kernel
theorem dX11_apply_12 : decode cX11_apply 12 = .ok (.aload_n 0, 1) := by decide +kernel
theorem dX11_apply_13 : decode cX11_apply 13 = .ok (.getfield 56, 3) := by decide +kernel
theorem dX11_apply_16 : decode cX11_apply 16 = .ok (.invokevirtual 396, 3) := by decide +kernel
theorem dX11_apply_19 : decode cX11_apply 19 = .ok (.istore_n 1, 1) := by decide +kernel
theorem dX11_apply_20 : decode cX11_apply 20 = .ok (.aload_n 0, 1) := by decide +kernel
theorem dX11_apply_21 : decode cX11_apply 21 = .ok (.getfield 14, 3) := by decide +kernel
theorem dX11_apply_24 : decode cX11_apply 24 = .ok (.getfield 130, 3) := by decide +kernel
theorem dX11_apply_27 : decode cX11_apply 27 = .ok (.getfield 138, 3) := by decide +kernel
theorem dX11_apply_30 : decode cX11_apply 30 = .ok (.iload_n 1, 1) := by decide +kernel
theorem dX11_apply_31 : decode cX11_apply 31 = .ok (.iadd, 1) := by decide +kernel
theorem dX11_apply_32 : decode cX11_apply 32 = .ok (.bipush 40, 2) := by decide +kernel
theorem dX11_apply_34 : decode cX11_apply 34 = .ok (.if_icmp .le 6, 3) := by decide +kernel
theorem dX11_apply_37 : decode cX11_apply 37 = .ok (.bipush (-3), 2) := by decide +kernel
theorem dX11_apply_39 : decode cX11_apply 39 = .ok (.ireturn, 1) := by decide +kernel
theorem dX11_apply_40 : decode cX11_apply 40 = .ok (.aload_n 0, 1) := by decide +kernel
theorem dX11_apply_41 : decode cX11_apply 41 = .ok (.getfield 14, 3) := by decide +kernel
theorem dX11_apply_44 : decode cX11_apply 44 = .ok (.invokevirtual 169, 3) := by decide +kernel
theorem dX11_apply_47 : decode cX11_apply 47 = .ok (.aload_n 0, 1) := by decide +kernel
theorem dX11_apply_48 : decode cX11_apply 48 = .ok (.getfield 70, 3) := by decide +kernel
theorem dX11_apply_51 : decode cX11_apply 51 = .ok (.aload_n 0, 1) := by decide +kernel
theorem dX11_apply_52 : decode cX11_apply 52 = .ok (.getfield 14, 3) := by decide +kernel
theorem dX11_apply_55 : decode cX11_apply 55 = .ok (.aload_n 0, 1) := by decide +kernel
theorem dX11_apply_56 : decode cX11_apply 56 = .ok (.getfield 63, 3) := by decide +kernel
theorem dX11_apply_59 : decode cX11_apply 59 = .ok (.getfield 383, 3) := by decide +kernel
theorem dX11_apply_62 : decode cX11_apply 62 = .ok (.invokevirtual 399, 3) := by decide +kernel
theorem dX11_apply_65 : decode cX11_apply 65 = .ok (.iconst 0, 1) := by decide +kernel
theorem dX11_apply_66 : decode cX11_apply 66 = .ok (.istore_n 2, 1) := by decide +kernel
theorem dX11_apply_67 : decode cX11_apply 67 = .ok (.iload_n 2, 1) := by decide +kernel
theorem dX11_apply_68 : decode cX11_apply 68 = .ok (.aload_n 0, 1) := by decide +kernel
theorem dX11_apply_69 : decode cX11_apply 69 = .ok (.getfield 56, 3) := by decide +kernel
theorem dX11_apply_72 : decode cX11_apply 72 = .ok (.getfield 331, 3) := by decide +kernel
theorem dX11_apply_75 : decode cX11_apply 75 = .ok (.if_icmp .ge 53, 3) := by decide +kernel
theorem dX11_apply_78 : decode cX11_apply 78 = .ok (.aload_n 0, 1) := by decide +kernel
theorem dX11_apply_79 : decode cX11_apply 79 = .ok (.getfield 56, 3) := by decide +kernel
theorem dX11_apply_82 : decode cX11_apply 82 = .ok (.iload_n 2, 1) := by decide +kernel
theorem dX11_apply_83 : decode cX11_apply 83 = .ok (.aload_n 0, 1) := by decide +kernel
theorem dX11_apply_84 : decode cX11_apply 84 = .ok (.getfield 14, 3) := by decide +kernel
theorem dX11_apply_87 : decode cX11_apply 87 = .ok (.getfield 130, 3) := by decide +kernel
theorem dX11_apply_90 : decode cX11_apply 90 = .ok (.aload_n 0, 1) := by decide +kernel
theorem dX11_apply_91 : decode cX11_apply 91 = .ok (.getfield 63, 3) := by decide +kernel
theorem dX11_apply_94 : decode cX11_apply 94 = .ok (.invokevirtual 403, 3) := by decide +kernel
theorem dX11_apply_97 : decode cX11_apply 97 = .ok (.istore_n 3, 1) := by decide +kernel
theorem dX11_apply_98 : decode cX11_apply 98 = .ok (.aload_n 0, 1) := by decide +kernel
theorem dX11_apply_99 : decode cX11_apply 99 = .ok (.getfield 70, 3) := by decide +kernel
theorem dX11_apply_102 : decode cX11_apply 102 = .ok (.aload_n 0, 1) := by decide +kernel
theorem dX11_apply_103 : decode cX11_apply 103 = .ok (.getfield 14, 3) := by decide +kernel
theorem dX11_apply_106 : decode cX11_apply 106 = .ok (.getfield 130, 3) := by decide +kernel
theorem dX11_apply_109 : decode cX11_apply 109 = .ok (.aload_n 0, 1) := by decide +kernel
theorem dX11_apply_110 : decode cX11_apply 110 = .ok (.getfield 56, 3) := by decide +kernel
theorem dX11_apply_113 : decode cX11_apply 113 = .ok (.getfield 407, 3) := by decide +kernel
theorem dX11_apply_116 : decode cX11_apply 116 = .ok (.iload_n 2, 1) := by decide +kernel
theorem dX11_apply_117 : decode cX11_apply 117 = .ok (.iaload, 1) := by decide +kernel
theorem dX11_apply_118 : decode cX11_apply 118 = .ok (.iload_n 3, 1) := by decide +kernel
theorem dX11_apply_119 : decode cX11_apply 119 = .ok (.invokevirtual 410, 3) := by decide +kernel
theorem dX11_apply_122 : decode cX11_apply 122 = .ok (.iinc 2 1, 3) := by decide +kernel
theorem dX11_apply_125 : decode cX11_apply 125 = .ok (.goto (-58), 3) := by decide +kernel
theorem dX11_apply_128 : decode cX11_apply 128 = .ok (.aload_n 0, 1) := by decide +kernel
theorem dX11_apply_129 : decode cX11_apply 129 = .ok (.getfield 14, 3) := by decide +kernel
theorem dX11_apply_132 : decode cX11_apply 132 = .ok (.invokevirtual 212, 3) := by decide +kernel
theorem dX11_apply_135 : decode cX11_apply 135 = .ok (.aload_n 0, 1) := by decide +kernel
theorem dX11_apply_136 : decode cX11_apply 136 = .ok (.getfield 14, 3) := by decide +kernel
theorem dX11_apply_139 : decode cX11_apply 139 = .ok (.invokevirtual 169, 3) := by decide +kernel
theorem dX11_apply_142 : decode cX11_apply 142 = .ok (.aload_n 0, 1) := by decide +kernel
theorem dX11_apply_143 : decode cX11_apply 143 = .ok (.getfield 70, 3) := by decide +kernel
theorem dX11_apply_146 : decode cX11_apply 146 = .ok (.aload_n 0, 1) := by decide +kernel
theorem dX11_apply_147 : decode cX11_apply 147 = .ok (.getfield 14, 3) := by decide +kernel
theorem dX11_apply_150 : decode cX11_apply 150 = .ok (.aload_n 0, 1) := by decide +kernel
theorem dX11_apply_151 : decode cX11_apply 151 = .ok (.getfield 24, 3) := by decide +kernel
theorem dX11_apply_154 : decode cX11_apply 154 = .ok (.invokevirtual 414, 3) := by decide +kernel
theorem dX11_apply_157 : decode cX11_apply 157 = .ok (.aload_n 0, 1) := by decide +kernel
theorem dX11_apply_158 : decode cX11_apply 158 = .ok (.getfield 56, 3) := by decide +kernel
theorem dX11_apply_161 : decode cX11_apply 161 = .ok (.invokevirtual 103, 3) := by decide +kernel
theorem dX11_apply_164 : decode cX11_apply 164 = .ok (.iload_n 1, 1) := by decide +kernel
theorem dX11_apply_165 : decode cX11_apply 165 = .ok (.ireturn, 1) := by decide +kernel
theorem dX11_oldIsReplaced_0 : decode cX11_oldIsReplaced 0 = .ok (.aload_n 0, 1) := by decide +kernel
theorem dX11_oldIsReplaced_1 : decode cX11_oldIsReplaced 1 = .ok (.getfield 14, 3) := by decide +kernel
theorem dX11_oldIsReplaced_4 : decode cX11_oldIsReplaced 4 = .ok (.invokevirtual 212, 3) := by decide +kernel
theorem dX11_oldIsReplaced_7 : decode cX11_oldIsReplaced 7 = .ok (.aload_n 0, 1) := by decide +kernel
theorem dX11_oldIsReplaced_8 : decode cX11_oldIsReplaced 8 = .ok (.getfield 49, 3) := by decide +kernel
theorem dX11_oldIsReplaced_11 : decode cX11_oldIsReplaced 11 = .ok (.aload_n 0, 1) := by decide +kernel
theorem dX11_oldIsReplaced_12 : decode cX11_oldIsReplaced 12 = .ok (.getfield 14, 3) := by decide +kernel
theorem dX11_oldIsReplaced_15 : decode cX11_oldIsReplaced 15 = .ok (.getfield 130, 3) := by decide +kernel
theorem dX11_oldIsReplaced_18 : decode cX11_oldIsReplaced 18 = .ok (.invokevirtual 424, 3) := by decide +kernel
theorem dX11_oldIsReplaced_21 : decode cX11_oldIsReplaced 21 = .ok (.invokevirtual 427, 3) := by decide +kernel
theorem dX11_oldIsReplaced_24 : decode cX11_oldIsReplaced 24 = .ok (.aload_n 0, 1) := by decide +kernel
theorem dX11_oldIsReplaced_25 : decode cX11_oldIsReplaced 25 = .ok (.getfield 56, 3) := by decide +kernel
theorem dX11_oldIsReplaced_28 : decode cX11_oldIsReplaced 28 = .ok (.invokevirtual 103, 3) := by decide +kernel
theorem dX11_oldIsReplaced_31 : decode cX11_oldIsReplaced 31 = .ok (.return_, 1) := by decide +kernel
theorem dX11_undo_0 : decode cX11_undo 0 = .ok (.aload_n 0, 1) := by decide +kernel
theorem dX11_undo_1 : decode cX11_undo 1 = .ok (.getfield 70, 3) := by decide +kernel
theorem dX11_undo_4 : decode cX11_undo 4 = .ok (.getfield 215, 3) := by decide +kernel
theorem dX11_undo_7 : decode cX11_undo 7 = .ok (.iconst 1, 1) := by decide +kernel
theorem dX11_undo_8 : decode cX11_undo 8 = .ok (.if_icmp .ge 5, 3) := by decide +kernel
theorem dX11_undo_11 : decode cX11_undo 11 = .ok (.iconst (-1), 1) := by decide +kernel
theorem dX11_undo_12 : decode cX11_undo 12 = .ok (.ireturn, 1) := by decide +kernel
theorem dX11_undo_13 : decode cX11_undo 13 = .ok (.aload_n 0, 1) := by decide +kernel
theorem dX11_undo_14 : decode cX11_undo 14 = .ok (.getfield 63, 3) := by decide +kernel
theorem dX11_undo_17 : decode cX11_undo 17 = .ok (.aload_n 0, 1) := by decide +kernel
theorem dX11_undo_18 : decode cX11_undo 18 = .ok (.getfield 70, 3) := by decide +kernel
theorem dX11_undo_21 : decode cX11_undo 21 = .ok (.aload_n 0, 1) := by decide +kernel
theorem dX11_undo_22 : decode cX11_undo 22 = .ok (.getfield 14, 3) := by decide +kernel
theorem dX11_undo_25 : decode cX11_undo 25 = .ok (.getfield 130, 3) := by decide +kernel
theorem dX11_undo_28 : decode cX11_undo 28 = .ok (.invokevirtual 417, 3) := by decide +kernel
theorem dX11_undo_31 : decode cX11_undo 31 = .ok (.putfield 383, 3) := by decide +kernel
theorem dX11_undo_34 : decode cX11_undo 34 = .ok (.aload_n 0, 1) := by decide +kernel
theorem dX11_undo_35 : decode cX11_undo 35 = .ok (.invokevirtual 421, 3) := by decide +kernel
theorem dX11_undo_38 : decode cX11_undo 38 = .ok (.aload_n 0, 1) := by decide +kernel
theorem dX11_undo_39 : decode cX11_undo 39 = .ok (.getfield 70, 3) := by decide +kernel
theorem dX11_undo_42 : decode cX11_undo 42 = .ok (.getfield 215, 3) := by decide +kernel
theorem dX11_undo_45 : decode cX11_undo 45 = .ok (.ireturn, 1) := by decide +kernel
theorem dX11_change_0 : decode cX11_change 0 = .ok (.iload_n 1, 1) := by decide +kernel
theorem dX11_change_1 : decode cX11_change 1 = .ok (.ifCond .lt 23, 3) := by decide +kernel
theorem dX11_change_4 : decode cX11_change 4 = .ok (.iload_n 1, 1) := by decide +kernel
theorem dX11_change_5 : decode cX11_change 5 = .ok (.aload_n 0, 1) := by decide +kernel
theorem dX11_change_6 : decode cX11_change 6 = .ok (.getfield 70, 3) := by decide +kernel
theorem dX11_change_9 : decode cX11_change 9 = .ok (.getfield 430, 3) := by decide +kernel
theorem dX11_change_12 : decode cX11_change 12 = .ok (.if_icmp .ge 12, 3) := by decide +kernel
theorem dX11_change_15 : decode cX11_change 15 = .ok (.iload_n 2, 1) := by decide +kernel
theorem dX11_change_16 : decode cX11_change 16 = .ok (.ifCond .lt 8, 3) := by decide +kernel
theorem dX11_change_19 : decode cX11_change 19 = .ok (.iload_n 2, 1) := by decide +kernel
theorem dX11_change_20 : decode cX11_change 20 = .ok (.iconst 2, 1) := by decide +kernel
theorem dX11_change_21 : decode cX11_change 21 = .ok (.if_icmp .le 5, 3) := by decide +kernel
theorem dX11_change_24 : decode cX11_change 24 = .ok (.iconst (-1), 1) := by decide +kernel
theorem dX11_change_25 : decode cX11_change 25 = .ok (.ireturn, 1) := by decide +kernel
theorem dX11_change_26 : decode cX11_change 26 = .ok (.aload_n 0, 1) := by decide +kernel
theorem dX11_change_27 : decode cX11_change 27 = .ok (.getfield 70, 3) := by decide +kernel
theorem dX11_change_30 : decode cX11_change 30 = .ok (.getfield 433, 3) := by decide +kernel
theorem dX11_change_33 : decode cX11_change 33 = .ok (.iconst 3, 1) := by decide +kernel
theorem dX11_change_34 : decode cX11_change 34 = .ok (.iload_n 1, 1) := by decide +kernel
theorem dX11_change_35 : decode cX11_change 35 = .ok (.imul, 1) := by decide +kernel
theorem dX11_change_36 : decode cX11_change 36 = .ok (.iload_n 2, 1) := by decide +kernel
theorem dX11_change_37 : decode cX11_change 37 = .ok (.iadd, 1) := by decide +kernel
theorem dX11_change_38 : decode cX11_change 38 = .ok (.iaload, 1) := by decide +kernel
theorem dX11_change_39 : decode cX11_change 39 = .ok (.ireturn, 1) := by decide +kernel
theorem dX11_test_0 : decode cX11_test 0 = .ok (.iload_n 1, 1) := by decide +kernel
theorem dX11_test_1 : decode cX11_test 1 = .ok (.ifCond .lt 14, 3) := by decide +kernel
theorem dX11_test_4 : decode cX11_test 4 = .ok (.iload_n 1, 1) := by decide +kernel
theorem dX11_test_5 : decode cX11_test 5 = .ok (.aload_n 0, 1) := by decide +kernel
theorem dX11_test_6 : decode cX11_test 6 = .ok (.getfield 70, 3) := by decide +kernel
theorem dX11_test_9 : decode cX11_test 9 = .ok (.getfield 436, 3) := by decide +kernel
theorem dX11_test_12 : decode cX11_test 12 = .ok (.if_icmp .lt 7, 3) := by decide +kernel
theorem dX11_test_15 : decode cX11_test 15 = .ok (.iconst (-1), 1) := by decide +kernel
theorem dX11_test_16 : decode cX11_test 16 = .ok (.goto 12, 3) := by decide +kernel
theorem dX11_test_19 : decode cX11_test 19 = .ok (.aload_n 0, 1) := by decide +kernel
theorem dX11_test_20 : decode cX11_test 20 = .ok (.getfield 70, 3) := by decide +kernel
theorem dX11_test_23 : decode cX11_test 23 = .ok (.getfield 439, 3) := by decide +kernel
theorem dX11_test_26 : decode cX11_test 26 = .ok (.iload_n 1, 1) := by decide +kernel
theorem dX11_test_27 : decode cX11_test 27 = .ok (.iaload, 1) := by decide +kernel
theorem dX11_test_28 : decode cX11_test 28 = .ok (.ireturn, 1) := by decide +kernel
theorem dX11_idle_0 : decode cX11_idle 0 = .ok (.aload_n 0, 1) := by decide +kernel
theorem dX11_idle_1 : decode cX11_idle 1 = .ok (.iload_n 1, 1) := by decide +kernel
theorem dX11_idle_2 : decode cX11_idle 2 = .ok (.invokevirtual 126, 3) := by decide +kernel
theorem dX11_idle_5 : decode cX11_idle 5 = .ok (.astore_n 2, 1) := by decide +kernel
theorem dX11_idle_6 : decode cX11_idle 6 = .ok (.aload_n 2, 1) := by decide +kernel
theorem dX11_idle_7 : decode cX11_idle 7 = .ok (.ifnonnull 5, 3) := by decide +kernel
theorem dX11_idle_10 : decode cX11_idle 10 = .ok (.iconst (-1), 1) := by decide +kernel
theorem dX11_idle_11 : decode cX11_idle 11 = .ok (.ireturn, 1) := by decide +kernel
theorem dX11_idle_12 : decode cX11_idle 12 = .ok (.aload_n 2, 1) := by decide +kernel
theorem dX11_idle_13 : decode cX11_idle 13 = .ok (.invokevirtual 169, 3) := by decide +kernel
theorem dX11_idle_16 : decode cX11_idle 16 = .ok (.lconst 0, 1) := by decide +kernel
theorem dX11_idle_17 : decode cX11_idle 17 = .ok (.lstore_n 3, 1) := by decide +kernel
theorem dX11_idle_18 : decode cX11_idle 18 = .ok (.iconst 0, 1) := by decide +kernel
theorem dX11_idle_19 : decode cX11_idle 19 = .ok (.istore 5, 2) := by decide +kernel
theorem dX11_idle_21 : decode cX11_idle 21 = .ok (.iload 5, 2) := by decide +kernel
theorem dX11_idle_23 : decode cX11_idle 23 = .ok (.aload_n 2, 1) := by decide +kernel
theorem dX11_idle_24 : decode cX11_idle 24 = .ok (.getfield 130, 3) := by decide +kernel
theorem dX11_idle_27 : decode cX11_idle 27 = .ok (.invokevirtual 393, 3) := by decide +kernel
theorem dX11_idle_30 : decode cX11_idle 30 = .ok (.if_icmp .ge 27, 3) := by decide +kernel
theorem dX11_idle_33 : decode cX11_idle 33 = .ok (.lload_n 3, 1) := by decide +kernel
theorem dX11_idle_34 : decode cX11_idle 34 = .ok (.aload_n 2, 1) := by decide +kernel
theorem dX11_idle_35 : decode cX11_idle 35 = .ok (.getfield 442, 3) := by decide +kernel
theorem dX11_idle_38 : decode cX11_idle 38 = .ok (.aload_n 2, 1) := by decide +kernel
theorem dX11_idle_39 : decode cX11_idle 39 = .ok (.getfield 130, 3) := by decide +kernel
theorem dX11_idle_42 : decode cX11_idle 42 = .ok (.getfield 188, 3) := by decide +kernel
theorem dX11_idle_45 : decode cX11_idle 45 = .ok (.iload 5, 2) := by decide +kernel
theorem dX11_idle_47 : decode cX11_idle 47 = .ok (.iaload, 1) := by decide +kernel
theorem dX11_idle_48 : decode cX11_idle 48 = .ok (.laload, 1) := by decide +kernel
theorem dX11_idle_49 : decode cX11_idle 49 = .ok (.lor, 1) := by decide +kernel
theorem dX11_idle_50 : decode cX11_idle 50 = .ok (.lstore_n 3, 1) := by decide +kernel
theorem dX11_idle_51 : decode cX11_idle 51 = .ok (.iinc 5 1, 3) := by decide +kernel
theorem dX11_idle_54 : decode cX11_idle 54 = .ok (.goto (-33), 3) := by decide +kernel
theorem dX11_idle_57 : decode cX11_idle 57 = .ok (.aload_n 2, 1) := by decide +kernel
theorem dX11_idle_58 : decode cX11_idle 58 = .ok (.getfield 130, 3) := by decide +kernel
theorem dX11_idle_61 : decode cX11_idle 61 = .ok (.getfield 138, 3) := by decide +kernel
theorem dX11_idle_64 : decode cX11_idle 64 = .ok (.lload_n 3, 1) := by decide +kernel
theorem dX11_idle_65 : decode cX11_idle 65 = .ok (.aload_n 2, 1) := by decide +kernel
theorem dX11_idle_66 : decode cX11_idle 66 = .ok (.getfield 130, 3) := by decide +kernel
theorem dX11_idle_69 : decode cX11_idle 69 = .ok (.invokevirtual 445, 3) := by decide +kernel
theorem dX11_idle_72 : decode cX11_idle 72 = .ok (.lshr, 1) := by decide +kernel
theorem dX11_idle_73 : decode cX11_idle 73 = .ok (.invokestatic 448, 3) := by decide +kernel
theorem dX11_idle_76 : decode cX11_idle 76 = .ok (.isub, 1) := by decide +kernel
theorem dX11_idle_77 : decode cX11_idle 77 = .ok (.ireturn, 1) := by decide +kernel
theorem dX11_tape_0 : decode cX11_tape 0 = .ok (.iload_n 1, 1) := by decide +kernel
theorem dX11_tape_1 : decode cX11_tape 1 = .ok (.invokestatic 250, 3) := by decide +kernel
theorem dX11_tape_4 : decode cX11_tape 4 = .ok (.ifCond .eq 20, 3) := by decide +kernel
theorem dX11_tape_7 : decode cX11_tape 7 = .ok (.iload_n 2, 1) := by decide +kernel
theorem dX11_tape_8 : decode cX11_tape 8 = .ok (.iconst 1, 1) := by decide +kernel
theorem dX11_tape_9 : decode cX11_tape 9 = .ok (.if_icmp .lt 15, 3) := by decide +kernel
theorem dX11_tape_12 : decode cX11_tape 12 = .ok (.iload_n 2, 1) := by decide +kernel
theorem dX11_tape_13 : decode cX11_tape 13 = .ok (.iconst 4, 1) := by decide +kernel
theorem dX11_tape_14 : decode cX11_tape 14 = .ok (.if_icmp .gt 10, 3) := by decide +kernel
theorem dX11_tape_17 : decode cX11_tape 17 = .ok (.iload_n 3, 1) := by decide +kernel
theorem dX11_tape_18 : decode cX11_tape 18 = .ok (.sipush 256, 3) := by decide +kernel
theorem dX11_tape_21 : decode cX11_tape 21 = .ok (.if_icmp .le 5, 3) := by decide +kernel
theorem dX11_tape_24 : decode cX11_tape 24 = .ok (.iconst (-1), 1) := by decide +kernel
theorem dX11_tape_25 : decode cX11_tape 25 = .ok (.ireturn, 1) := by decide +kernel
theorem dX11_tape_26 : decode cX11_tape 26 = .ok (.iload_n 3, 1) := by decide +kernel
theorem dX11_tape_27 : decode cX11_tape 27 = .ok (.ifCond .ge 10, 3) := by decide +kernel
theorem dX11_tape_30 : decode cX11_tape 30 = .ok (.aload_n 0, 1) := by decide +kernel
theorem dX11_tape_31 : decode cX11_tape 31 = .ok (.bipush (-14), 2) := by decide +kernel
theorem dX11_tape_33 : decode cX11_tape 33 = .ok (.invokevirtual 267, 3) := by decide +kernel
theorem dX11_tape_36 : decode cX11_tape 36 = .ok (.ireturn, 1) := by decide +kernel
theorem dX11_tape_37 : decode cX11_tape 37 = .ok (.aload_n 0, 1) := by decide +kernel
theorem dX11_tape_38 : decode cX11_tape 38 = .ok (.getfield 76, 3) := by decide +kernel
theorem dX11_tape_41 : decode cX11_tape 41 = .ok (.iload_n 1, 1) := by decide +kernel
theorem dX11_tape_42 : decode cX11_tape 42 = .ok (.aaload, 1) := by decide +kernel
theorem dX11_tape_43 : decode cX11_tape 43 = .ok (.iload_n 2, 1) := by decide +kernel
theorem dX11_tape_44 : decode cX11_tape 44 = .ok (.iload_n 3, 1) := by decide +kernel
theorem dX11_tape_45 : decode cX11_tape 45 = .ok (.invokevirtual 253, 3) := by decide +kernel
theorem dX11_tape_48 : decode cX11_tape 48 = .ok (.iload_n 3, 1) := by decide +kernel
theorem dX11_tape_49 : decode cX11_tape 49 = .ok (.ireturn, 1) := by decide +kernel
theorem dX11_image_0 : decode cX11_image 0 = .ok (.iload_n 1, 1) := by decide +kernel
theorem dX11_image_1 : decode cX11_image 1 = .ok (.invokestatic 250, 3) := by decide +kernel
theorem dX11_image_4 : decode cX11_image 4 = .ok (.ifCond .ne 5, 3) := by decide +kernel
theorem dX11_image_7 : decode cX11_image 7 = .ok (.iconst (-1), 1) := by decide +kernel
theorem dX11_image_8 : decode cX11_image 8 = .ok (.ireturn, 1) := by decide +kernel
theorem dX11_image_9 : decode cX11_image 9 = .ok (.aload_n 0, 1) := by decide +kernel
theorem dX11_image_10 : decode cX11_image 10 = .ok (.getfield 76, 3) := by decide +kernel
theorem dX11_image_13 : decode cX11_image 13 = .ok (.iload_n 1, 1) := by decide +kernel
theorem dX11_image_14 : decode cX11_image 14 = .ok (.aaload, 1) := by decide +kernel
theorem dX11_image_15 : decode cX11_image 15 = .ok (.iconst 5, 1) := by decide +kernel
theorem dX11_image_16 : decode cX11_image 16 = .ok (.iconst 0, 1) := by decide +kernel
theorem dX11_image_17 : decode cX11_image 17 = .ok (.invokevirtual 253, 3) := by decide +kernel
theorem dX11_image_20 : decode cX11_image 20 = .ok (.aload_n 0, 1) := by decide +kernel
theorem dX11_image_21 : decode cX11_image 21 = .ok (.getfield 76, 3) := by decide +kernel
theorem dX11_image_24 : decode cX11_image 24 = .ok (.iload_n 1, 1) := by decide +kernel
theorem dX11_image_25 : decode cX11_image 25 = .ok (.aaload, 1) := by decide +kernel
theorem dX11_image_26 : decode cX11_image 26 = .ok (.getfield 454, 3) := by decide +kernel
theorem dX11_image_29 : decode cX11_image 29 = .ok (.aload_n 0, 1) := by decide +kernel
theorem dX11_image_30 : decode cX11_image 30 = .ok (.getfield 14, 3) := by decide +kernel
theorem dX11_image_33 : decode cX11_image 33 = .ok (.getfield 130, 3) := by decide +kernel
theorem dX11_image_36 : decode cX11_image 36 = .ok (.invokevirtual 455, 3) := by decide +kernel
theorem dX11_image_39 : decode cX11_image 39 = .ok (.aload_n 0, 1) := by decide +kernel
theorem dX11_image_40 : decode cX11_image 40 = .ok (.getfield 14, 3) := by decide +kernel
theorem dX11_image_43 : decode cX11_image 43 = .ok (.getfield 130, 3) := by decide +kernel
theorem dX11_image_46 : decode cX11_image 46 = .ok (.getfield 138, 3) := by decide +kernel
theorem dX11_image_49 : decode cX11_image 49 = .ok (.ireturn, 1) := by decide +kernel
theorem dX11_imageFault_0 : decode cX11_imageFault 0 = .ok (.aload_n 0, 1) := by decide +kernel
theorem dX11_imageFault_1 : decode cX11_imageFault 1 = .ok (.getfield 264, 3) := by decide +kernel
theorem dX11_imageFault_4 : decode cX11_imageFault 4 = .ok (.ifCond .ne 6, 3) := by decide +kernel
theorem dX11_imageFault_7 : decode cX11_imageFault 7 = .ok (.bipush (-11), 2) := by decide +kernel
theorem dX11_imageFault_9 : decode cX11_imageFault 9 = .ok (.ireturn, 1) := by decide +kernel
theorem dX11_imageFault_10 : decode cX11_imageFault 10 = .ok (.aload_n 0, 1) := by decide +kernel
theorem dX11_imageFault_11 : decode cX11_imageFault 11 = .ok (.getfield 264, 3) := by decide +kernel
theorem dX11_imageFault_14 : decode cX11_imageFault 14 = .ok (.iconst 5, 1) := by decide +kernel
theorem dX11_imageFault_15 : decode cX11_imageFault 15 = .ok (.if_icmp .ne 7, 3) := by decide +kernel
theorem dX11_imageFault_18 : decode cX11_imageFault 18 = .ok (.iconst 0, 1) := by decide +kernel
theorem dX11_imageFault_19 : decode cX11_imageFault 19 = .ok (.goto 5, 3) := by decide +kernel
theorem dX11_imageFault_22 : decode cX11_imageFault 22 = .ok (.bipush (-12), 2) := by decide +kernel
theorem dX11_imageFault_24 : decode cX11_imageFault 24 = .ok (.ireturn, 1) := by decide +kernel
theorem dX11_back_0 : decode cX11_back 0 = .ok (.iload_n 1, 1) := by decide +kernel
theorem dX11_back_1 : decode cX11_back 1 = .ok (.invokestatic 250, 3) := by decide +kernel
theorem dX11_back_4 : decode cX11_back 4 = .ok (.ifCond .ne 5, 3) := by decide +kernel
theorem dX11_back_7 : decode cX11_back 7 = .ok (.iconst (-1), 1) := by decide +kernel
theorem dX11_back_8 : decode cX11_back 8 = .ok (.ireturn, 1) := by decide +kernel
theorem dX11_back_9 : decode cX11_back 9 = .ok (.aload_n 0, 1) := by decide +kernel
theorem dX11_back_10 : decode cX11_back 10 = .ok (.getfield 76, 3) := by decide +kernel
theorem dX11_back_13 : decode cX11_back 13 = .ok (.iload_n 1, 1) := by decide +kernel
theorem dX11_back_14 : decode cX11_back 14 = .ok (.aaload, 1) := by decide +kernel
theorem dX11_back_15 : decode cX11_back 15 = .ok (.invokestatic 459, 3) := by decide +kernel
theorem dX11_back_18 : decode cX11_back 18 = .ok (.istore_n 2, 1) := by decide +kernel
theorem dX11_back_19 : decode cX11_back 19 = .ok (.iload_n 2, 1) := by decide +kernel
theorem dX11_back_20 : decode cX11_back 20 = .ok (.ifCond .eq 9, 3) := by decide +kernel
theorem dX11_back_23 : decode cX11_back 23 = .ok (.aload_n 0, 1) := by decide +kernel
theorem dX11_back_24 : decode cX11_back 24 = .ok (.iload_n 2, 1) := by decide +kernel
theorem dX11_back_25 : decode cX11_back 25 = .ok (.invokevirtual 267, 3) := by decide +kernel
theorem dX11_back_28 : decode cX11_back 28 = .ok (.ireturn, 1) := by decide +kernel
theorem dX11_back_29 : decode cX11_back 29 = .ok (.aload_n 0, 1) := by decide +kernel
theorem dX11_back_30 : decode cX11_back 30 = .ok (.getfield 14, 3) := by decide +kernel
theorem dX11_back_33 : decode cX11_back 33 = .ok (.getfield 130, 3) := by decide +kernel
theorem dX11_back_36 : decode cX11_back 36 = .ok (.aload_n 0, 1) := by decide +kernel
theorem dX11_back_37 : decode cX11_back 37 = .ok (.getfield 76, 3) := by decide +kernel
theorem dX11_back_40 : decode cX11_back 40 = .ok (.iload_n 1, 1) := by decide +kernel
theorem dX11_back_41 : decode cX11_back 41 = .ok (.aaload, 1) := by decide +kernel
theorem dX11_back_42 : decode cX11_back 42 = .ok (.getfield 454, 3) := by decide +kernel
theorem dX11_back_45 : decode cX11_back 45 = .ok (.invokevirtual 463, 3) := by decide +kernel
theorem dX11_back_48 : decode cX11_back 48 = .ok (.ifCond .ne 6, 3) := by decide +kernel
theorem dX11_back_51 : decode cX11_back 51 = .ok (.bipush (-4), 2) := by decide +kernel
theorem dX11_back_53 : decode cX11_back 53 = .ok (.ireturn, 1) := by decide +kernel
theorem dX11_back_54 : decode cX11_back 54 = .ok (.aload_n 0, 1) := by decide +kernel
theorem dX11_back_55 : decode cX11_back 55 = .ok (.getfield 14, 3) := by decide +kernel
theorem dX11_back_58 : decode cX11_back 58 = .ok (.getfield 130, 3) := by decide +kernel
theorem dX11_back_61 : decode cX11_back 61 = .ok (.aload_n 0, 1) := by decide +kernel
theorem dX11_back_62 : decode cX11_back 62 = .ok (.getfield 76, 3) := by decide +kernel
theorem dX11_back_65 : decode cX11_back 65 = .ok (.iload_n 1, 1) := by decide +kernel
theorem dX11_back_66 : decode cX11_back 66 = .ok (.aaload, 1) := by decide +kernel
theorem dX11_back_67 : decode cX11_back 67 = .ok (.getfield 454, 3) := by decide +kernel
theorem dX11_back_70 : decode cX11_back 70 = .ok (.invokevirtual 455, 3) := by decide +kernel
theorem dX11_back_73 : decode cX11_back 73 = .ok (.aload_n 0, 1) := by decide +kernel
theorem dX11_back_74 : decode cX11_back 74 = .ok (.invokevirtual 421, 3) := by decide +kernel
theorem dX11_back_77 : decode cX11_back 77 = .ok (.aload_n 0, 1) := by decide +kernel
theorem dX11_back_78 : decode cX11_back 78 = .ok (.getfield 70, 3) := by decide +kernel
theorem dX11_back_81 : decode cX11_back 81 = .ok (.iconst 0, 1) := by decide +kernel
theorem dX11_back_82 : decode cX11_back 82 = .ok (.putfield 215, 3) := by decide +kernel
theorem dX11_back_85 : decode cX11_back 85 = .ok (.aload_n 0, 1) := by decide +kernel
theorem dX11_back_86 : decode cX11_back 86 = .ok (.getfield 14, 3) := by decide +kernel
theorem dX11_back_89 : decode cX11_back 89 = .ok (.getfield 130, 3) := by decide +kernel
theorem dX11_back_92 : decode cX11_back 92 = .ok (.getfield 138, 3) := by decide +kernel
theorem dX11_back_95 : decode cX11_back 95 = .ok (.ireturn, 1) := by decide +kernel
theorem dX11_toss_0 : decode cX11_toss 0 = .ok (.iload_n 1, 1) := by decide +kernel
theorem dX11_toss_1 : decode cX11_toss 1 = .ok (.invokestatic 250, 3) := by decide +kernel
theorem dX11_toss_4 : decode cX11_toss 4 = .ok (.ifCond .ne 5, 3) := by decide +kernel
theorem dX11_toss_7 : decode cX11_toss 7 = .ok (.iconst (-1), 1) := by decide +kernel
theorem dX11_toss_8 : decode cX11_toss 8 = .ok (.ireturn, 1) := by decide +kernel
theorem dX11_toss_9 : decode cX11_toss 9 = .ok (.aload_n 0, 1) := by decide +kernel
theorem dX11_toss_10 : decode cX11_toss 10 = .ok (.getfield 76, 3) := by decide +kernel
theorem dX11_toss_13 : decode cX11_toss 13 = .ok (.iload_n 1, 1) := by decide +kernel
theorem dX11_toss_14 : decode cX11_toss 14 = .ok (.aaload, 1) := by decide +kernel
theorem dX11_toss_15 : decode cX11_toss 15 = .ok (.invokestatic 459, 3) := by decide +kernel
theorem dX11_toss_18 : decode cX11_toss 18 = .ok (.istore_n 2, 1) := by decide +kernel
theorem dX11_toss_19 : decode cX11_toss 19 = .ok (.iload_n 2, 1) := by decide +kernel
theorem dX11_toss_20 : decode cX11_toss 20 = .ok (.ifCond .eq 9, 3) := by decide +kernel
theorem dX11_toss_23 : decode cX11_toss 23 = .ok (.aload_n 0, 1) := by decide +kernel
theorem dX11_toss_24 : decode cX11_toss 24 = .ok (.iload_n 2, 1) := by decide +kernel
theorem dX11_toss_25 : decode cX11_toss 25 = .ok (.invokevirtual 267, 3) := by decide +kernel
theorem dX11_toss_28 : decode cX11_toss 28 = .ok (.ireturn, 1) := by decide +kernel
theorem dX11_toss_29 : decode cX11_toss 29 = .ok (.aload_n 0, 1) := by decide +kernel
theorem dX11_toss_30 : decode cX11_toss 30 = .ok (.getfield 76, 3) := by decide +kernel
theorem dX11_toss_33 : decode cX11_toss 33 = .ok (.iload_n 1, 1) := by decide +kernel
theorem dX11_toss_34 : decode cX11_toss 34 = .ok (.aaload, 1) := by decide +kernel
theorem dX11_toss_35 : decode cX11_toss 35 = .ok (.getfield 454, 3) := by decide +kernel
theorem dX11_toss_38 : decode cX11_toss 38 = .ok (.getfield 138, 3) := by decide +kernel
theorem dX11_toss_41 : decode cX11_toss 41 = .ok (.ifCond .ne 12, 3) := by decide +kernel
theorem dX11_toss_44 : decode cX11_toss 44 = .ok (.aload_n 0, 1) := by decide +kernel
theorem dX11_toss_45 : decode cX11_toss 45 = .ok (.bipush (-15), 2) := by decide +kernel
theorem dX11_toss_47 : decode cX11_toss 47 = .ok (.invokevirtual 267, 3) := by decide +kernel
theorem dX11_toss_50 : decode cX11_toss 50 = .ok (.goto 15, 3) := by decide +kernel
theorem dX11_toss_53 : decode cX11_toss 53 = .ok (.aload_n 0, 1) := by decide +kernel
theorem dX11_toss_54 : decode cX11_toss 54 = .ok (.getfield 76, 3) := by decide +kernel
theorem dX11_toss_57 : decode cX11_toss 57 = .ok (.iload_n 1, 1) := by decide +kernel
theorem dX11_toss_58 : decode cX11_toss 58 = .ok (.aaload, 1) := by decide +kernel
theorem dX11_toss_59 : decode cX11_toss 59 = .ok (.getfield 454, 3) := by decide +kernel
theorem dX11_toss_62 : decode cX11_toss 62 = .ok (.getfield 138, 3) := by decide +kernel
theorem dX11_toss_65 : decode cX11_toss 65 = .ok (.ireturn, 1) := by decide +kernel
theorem dX11_clear_0 : decode cX11_clear 0 = .ok (.iload_n 1, 1) := by decide +kernel
theorem dX11_clear_1 : decode cX11_clear 1 = .ok (.invokestatic 250, 3) := by decide +kernel
theorem dX11_clear_4 : decode cX11_clear 4 = .ok (.ifCond .ne 5, 3) := by decide +kernel
theorem dX11_clear_7 : decode cX11_clear 7 = .ok (.iconst (-1), 1) := by decide +kernel
theorem dX11_clear_8 : decode cX11_clear 8 = .ok (.ireturn, 1) := by decide +kernel
theorem dX11_clear_9 : decode cX11_clear 9 = .ok (.aload_n 0, 1) := by decide +kernel
theorem dX11_clear_10 : decode cX11_clear 10 = .ok (.getfield 76, 3) := by decide +kernel
theorem dX11_clear_13 : decode cX11_clear 13 = .ok (.iload_n 1, 1) := by decide +kernel
theorem dX11_clear_14 : decode cX11_clear 14 = .ok (.aaload, 1) := by decide +kernel
theorem dX11_clear_15 : decode cX11_clear 15 = .ok (.getfield 264, 3) := by decide +kernel
theorem dX11_clear_18 : decode cX11_clear 18 = .ok (.istore_n 2, 1) := by decide +kernel
theorem dX11_clear_19 : decode cX11_clear 19 = .ok (.aload_n 0, 1) := by decide +kernel
theorem dX11_clear_20 : decode cX11_clear 20 = .ok (.getfield 76, 3) := by decide +kernel
theorem dX11_clear_23 : decode cX11_clear 23 = .ok (.iload_n 1, 1) := by decide +kernel
theorem dX11_clear_24 : decode cX11_clear 24 = .ok (.aaload, 1) := by decide +kernel
theorem dX11_clear_25 : decode cX11_clear 25 = .ok (.iconst 0, 1) := by decide +kernel
theorem dX11_clear_26 : decode cX11_clear 26 = .ok (.iconst 0, 1) := by decide +kernel
theorem dX11_clear_27 : decode cX11_clear 27 = .ok (.invokevirtual 253, 3) := by decide +kernel
theorem dX11_clear_30 : decode cX11_clear 30 = .ok (.iload_n 2, 1) := by decide +kernel
theorem dX11_clear_31 : decode cX11_clear 31 = .ok (.ireturn, 1) := by decide +kernel
theorem dX11_put_0 : decode cX11_put 0 = .ok (.iload_n 1, 1) := by decide +kernel
theorem dX11_put_1 : decode cX11_put 1 = .ok (.invokestatic 250, 3) := by decide +kernel
theorem dX11_put_4 : decode cX11_put 4 = .ok (.ifCond .ne 5, 3) := by decide +kernel
theorem dX11_put_7 : decode cX11_put 7 = .ok (.iconst (-1), 1) := by decide +kernel
theorem dX11_put_8 : decode cX11_put 8 = .ok (.ireturn, 1) := by decide +kernel
theorem dX11_put_9 : decode cX11_put 9 = .ok (.aload_n 0, 1) := by decide +kernel
theorem dX11_put_10 : decode cX11_put 10 = .ok (.getfield 76, 3) := by decide +kernel
theorem dX11_put_13 : decode cX11_put 13 = .ok (.iload_n 1, 1) := by decide +kernel
theorem dX11_put_14 : decode cX11_put 14 = .ok (.aaload, 1) := by decide +kernel
theorem dX11_put_15 : decode cX11_put 15 = .ok (.getfield 264, 3) := by decide +kernel
theorem dX11_put_18 : decode cX11_put 18 = .ok (.ifCond .ne 10, 3) := by decide +kernel
theorem dX11_put_21 : decode cX11_put 21 = .ok (.aload_n 0, 1) := by decide +kernel
theorem dX11_put_22 : decode cX11_put 22 = .ok (.bipush (-11), 2) := by decide +kernel
theorem dX11_put_24 : decode cX11_put 24 = .ok (.invokevirtual 267, 3) := by decide +kernel
theorem dX11_put_27 : decode cX11_put 27 = .ok (.ireturn, 1) := by decide +kernel
theorem dX11_put_28 : decode cX11_put 28 = .ok (.aload_n 0, 1) := by decide +kernel
theorem dX11_put_29 : decode cX11_put 29 = .ok (.getfield 76, 3) := by decide +kernel
theorem dX11_put_32 : decode cX11_put 32 = .ok (.iload_n 1, 1) := by decide +kernel
theorem dX11_put_33 : decode cX11_put 33 = .ok (.aaload, 1) := by decide +kernel
theorem dX11_put_34 : decode cX11_put 34 = .ok (.invokevirtual 467, 3) := by decide +kernel
theorem dX11_put_37 : decode cX11_put 37 = .ok (.ifCond .ne 10, 3) := by decide +kernel
theorem dX11_put_40 : decode cX11_put 40 = .ok (.aload_n 0, 1) := by decide +kernel
theorem dX11_put_41 : decode cX11_put 41 = .ok (.bipush (-12), 2) := by decide +kernel
theorem dX11_put_43 : decode cX11_put 43 = .ok (.invokevirtual 267, 3) := by decide +kernel
theorem dX11_put_46 : decode cX11_put 46 = .ok (.ireturn, 1) := by decide +kernel
theorem dX11_put_47 : decode cX11_put 47 = .ok (.aload_n 0, 1) := by decide +kernel
theorem dX11_put_48 : decode cX11_put 48 = .ok (.getfield 76, 3) := by decide +kernel
theorem dX11_put_51 : decode cX11_put 51 = .ok (.iload_n 1, 1) := by decide +kernel
theorem dX11_put_52 : decode cX11_put 52 = .ok (.aaload, 1) := by decide +kernel
theorem dX11_put_53 : decode cX11_put 53 = .ok (.iload_n 2, 1) := by decide +kernel
theorem dX11_put_54 : decode cX11_put 54 = .ok (.invokevirtual 470, 3) := by decide +kernel
theorem dX11_put_57 : decode cX11_put 57 = .ok (.ifCond .ne 10, 3) := by decide +kernel
theorem dX11_put_60 : decode cX11_put 60 = .ok (.aload_n 0, 1) := by decide +kernel
theorem dX11_put_61 : decode cX11_put 61 = .ok (.bipush (-13), 2) := by decide +kernel
theorem dX11_put_63 : decode cX11_put 63 = .ok (.invokevirtual 267, 3) := by decide +kernel
theorem dX11_put_66 : decode cX11_put 66 = .ok (.ireturn, 1) := by decide +kernel
theorem dX11_put_67 : decode cX11_put 67 = .ok (.aload_n 0, 1) := by decide +kernel
theorem dX11_put_68 : decode cX11_put 68 = .ok (.getfield 76, 3) := by decide +kernel
theorem dX11_put_71 : decode cX11_put 71 = .ok (.iload_n 1, 1) := by decide +kernel
theorem dX11_put_72 : decode cX11_put 72 = .ok (.aaload, 1) := by decide +kernel
theorem dX11_put_73 : decode cX11_put 73 = .ok (.getfield 257, 3) := by decide +kernel
theorem dX11_put_76 : decode cX11_put 76 = .ok (.iload_n 2, 1) := by decide +kernel
theorem dX11_put_77 : decode cX11_put 77 = .ok (.aload_n 0, 1) := by decide +kernel
theorem dX11_put_78 : decode cX11_put 78 = .ok (.getfield 76, 3) := by decide +kernel
theorem dX11_put_81 : decode cX11_put 81 = .ok (.iload_n 1, 1) := by decide +kernel
theorem dX11_put_82 : decode cX11_put 82 = .ok (.aaload, 1) := by decide +kernel
theorem dX11_put_83 : decode cX11_put 83 = .ok (.lload_n 3, 1) := by decide +kernel
theorem dX11_put_84 : decode cX11_put 84 = .ok (.invokevirtual 473, 3) := by decide +kernel
theorem dX11_put_87 : decode cX11_put 87 = .ok (.lastore, 1) := by decide +kernel
theorem dX11_put_88 : decode cX11_put 88 = .ok (.iconst 1, 1) := by decide +kernel
theorem dX11_put_89 : decode cX11_put 89 = .ok (.ireturn, 1) := by decide +kernel
theorem dX11_copy_0 : decode cX11_copy 0 = .ok (.iload_n 1, 1) := by decide +kernel
theorem dX11_copy_1 : decode cX11_copy 1 = .ok (.invokestatic 250, 3) := by decide +kernel
theorem dX11_copy_4 : decode cX11_copy 4 = .ok (.ifCond .eq 10, 3) := by decide +kernel
theorem dX11_copy_7 : decode cX11_copy 7 = .ok (.iload_n 3, 1) := by decide +kernel
theorem dX11_copy_8 : decode cX11_copy 8 = .ok (.invokestatic 250, 3) := by decide +kernel
theorem dX11_copy_11 : decode cX11_copy 11 = .ok (.ifCond .ne 5, 3) := by decide +kernel
theorem dX11_copy_14 : decode cX11_copy 14 = .ok (.iconst (-1), 1) := by decide +kernel
theorem dX11_copy_15 : decode cX11_copy 15 = .ok (.ireturn, 1) := by decide +kernel
theorem dX11_copy_16 : decode cX11_copy 16 = .ok (.aload_n 0, 1) := by decide +kernel
theorem dX11_copy_17 : decode cX11_copy 17 = .ok (.getfield 76, 3) := by decide +kernel
theorem dX11_copy_20 : decode cX11_copy 20 = .ok (.iload_n 1, 1) := by decide +kernel
theorem dX11_copy_21 : decode cX11_copy 21 = .ok (.aaload, 1) := by decide +kernel
theorem dX11_copy_22 : decode cX11_copy 22 = .ok (.astore 6, 2) := by decide +kernel
theorem dX11_copy_24 : decode cX11_copy 24 = .ok (.aload_n 0, 1) := by decide +kernel
theorem dX11_copy_25 : decode cX11_copy 25 = .ok (.getfield 76, 3) := by decide +kernel
theorem dX11_copy_28 : decode cX11_copy 28 = .ok (.iload_n 3, 1) := by decide +kernel
theorem dX11_copy_29 : decode cX11_copy 29 = .ok (.aaload, 1) := by decide +kernel
theorem dX11_copy_30 : decode cX11_copy 30 = .ok (.astore 7, 2) := by decide +kernel
theorem dX11_copy_32 : decode cX11_copy 32 = .ok (.aload 6, 2) := by decide +kernel
theorem dX11_copy_34 : decode cX11_copy 34 = .ok (.getfield 264, 3) := by decide +kernel
theorem dX11_copy_37 : decode cX11_copy 37 = .ok (.ifCond .eq 11, 3) := by decide +kernel
theorem dX11_copy_40 : decode cX11_copy 40 = .ok (.aload 7, 2) := by decide +kernel
theorem dX11_copy_42 : decode cX11_copy 42 = .ok (.getfield 264, 3) := by decide +kernel
theorem dX11_copy_45 : decode cX11_copy 45 = .ok (.ifCond .ne 10, 3) := by decide +kernel
theorem dX11_copy_48 : decode cX11_copy 48 = .ok (.aload_n 0, 1) := by decide +kernel
theorem dX11_copy_49 : decode cX11_copy 49 = .ok (.bipush (-11), 2) := by decide +kernel
theorem dX11_copy_51 : decode cX11_copy 51 = .ok (.invokevirtual 267, 3) := by decide +kernel
theorem dX11_copy_54 : decode cX11_copy 54 = .ok (.ireturn, 1) := by decide +kernel
theorem dX11_copy_55 : decode cX11_copy 55 = .ok (.aload 6, 2) := by decide +kernel
theorem dX11_copy_57 : decode cX11_copy 57 = .ok (.invokevirtual 467, 3) := by decide +kernel
theorem dX11_copy_60 : decode cX11_copy 60 = .ok (.ifCond .eq 16, 3) := by decide +kernel
theorem dX11_copy_63 : decode cX11_copy 63 = .ok (.aload 6, 2) := by decide +kernel
theorem dX11_copy_65 : decode cX11_copy 65 = .ok (.getfield 264, 3) := by decide +kernel
theorem dX11_copy_68 : decode cX11_copy 68 = .ok (.aload 7, 2) := by decide +kernel
theorem dX11_copy_70 : decode cX11_copy 70 = .ok (.getfield 264, 3) := by decide +kernel
theorem dX11_copy_73 : decode cX11_copy 73 = .ok (.if_icmp .eq 10, 3) := by decide +kernel
theorem dX11_copy_76 : decode cX11_copy 76 = .ok (.aload_n 0, 1) := by decide +kernel
theorem dX11_copy_77 : decode cX11_copy 77 = .ok (.bipush (-12), 2) := by decide +kernel
theorem dX11_copy_79 : decode cX11_copy 79 = .ok (.invokevirtual 267, 3) := by decide +kernel
theorem dX11_copy_82 : decode cX11_copy 82 = .ok (.ireturn, 1) := by decide +kernel
theorem dX11_copy_83 : decode cX11_copy 83 = .ok (.aload 6, 2) := by decide +kernel
theorem dX11_copy_85 : decode cX11_copy 85 = .ok (.iload_n 2, 1) := by decide +kernel
theorem dX11_copy_86 : decode cX11_copy 86 = .ok (.iload 5, 2) := by decide +kernel
theorem dX11_copy_88 : decode cX11_copy 88 = .ok (.invokevirtual 484, 3) := by decide +kernel
theorem dX11_copy_91 : decode cX11_copy 91 = .ok (.ifCond .eq 15, 3) := by decide +kernel
theorem dX11_copy_94 : decode cX11_copy 94 = .ok (.aload 7, 2) := by decide +kernel
theorem dX11_copy_96 : decode cX11_copy 96 = .ok (.iload 4, 2) := by decide +kernel
theorem dX11_copy_98 : decode cX11_copy 98 = .ok (.iload 5, 2) := by decide +kernel
theorem dX11_copy_100 : decode cX11_copy 100 = .ok (.invokevirtual 484, 3) := by decide +kernel
theorem dX11_copy_103 : decode cX11_copy 103 = .ok (.ifCond .ne 10, 3) := by decide +kernel
theorem dX11_copy_106 : decode cX11_copy 106 = .ok (.aload_n 0, 1) := by decide +kernel
theorem dX11_copy_107 : decode cX11_copy 107 = .ok (.bipush (-13), 2) := by decide +kernel
theorem dX11_copy_109 : decode cX11_copy 109 = .ok (.invokevirtual 267, 3) := by decide +kernel
theorem dX11_copy_112 : decode cX11_copy 112 = .ok (.ireturn, 1) := by decide +kernel
theorem dX11_copy_113 : decode cX11_copy 113 = .ok (.aload 6, 2) := by decide +kernel
theorem dX11_copy_115 : decode cX11_copy 115 = .ok (.getfield 257, 3) := by decide +kernel
theorem dX11_copy_118 : decode cX11_copy 118 = .ok (.iload_n 2, 1) := by decide +kernel
theorem dX11_copy_119 : decode cX11_copy 119 = .ok (.aload 7, 2) := by decide +kernel
theorem dX11_copy_121 : decode cX11_copy 121 = .ok (.getfield 257, 3) := by decide +kernel
theorem dX11_copy_124 : decode cX11_copy 124 = .ok (.iload 4, 2) := by decide +kernel
theorem dX11_copy_126 : decode cX11_copy 126 = .ok (.iload 5, 2) := by decide +kernel
theorem dX11_copy_128 : decode cX11_copy 128 = .ok (.invokestatic 241, 3) := by decide +kernel
theorem dX11_copy_131 : decode cX11_copy 131 = .ok (.iload 5, 2) := by decide +kernel
theorem dX11_copy_133 : decode cX11_copy 133 = .ok (.ireturn, 1) := by decide +kernel
theorem dX11_count_0 : decode cX11_count 0 = .ok (.iload_n 1, 1) := by decide +kernel
theorem dX11_count_1 : decode cX11_count 1 = .ok (.tableswitch 159 0 10 #[59, 70, 81, 92, 103, 114, 122, 130, 138, 146, 154], 59) := by decide +kernel
theorem dX11_count_60 : decode cX11_count 60 = .ok (.aload_n 0, 1) := by decide +kernel
theorem dX11_count_61 : decode cX11_count 61 = .ok (.getfield 14, 3) := by decide +kernel
theorem dX11_count_64 : decode cX11_count 64 = .ok (.getfield 130, 3) := by decide +kernel
theorem dX11_count_67 : decode cX11_count 67 = .ok (.getfield 487, 3) := by decide +kernel
theorem dX11_count_70 : decode cX11_count 70 = .ok (.ireturn, 1) := by decide +kernel
theorem dX11_count_71 : decode cX11_count 71 = .ok (.aload_n 0, 1) := by decide +kernel
theorem dX11_count_72 : decode cX11_count 72 = .ok (.getfield 14, 3) := by decide +kernel
theorem dX11_count_75 : decode cX11_count 75 = .ok (.getfield 130, 3) := by decide +kernel
theorem dX11_count_78 : decode cX11_count 78 = .ok (.getfield 185, 3) := by decide +kernel
theorem dX11_count_81 : decode cX11_count 81 = .ok (.ireturn, 1) := by decide +kernel
theorem dX11_count_82 : decode cX11_count 82 = .ok (.aload_n 0, 1) := by decide +kernel
theorem dX11_count_83 : decode cX11_count 83 = .ok (.getfield 14, 3) := by decide +kernel
theorem dX11_count_86 : decode cX11_count 86 = .ok (.getfield 130, 3) := by decide +kernel
theorem dX11_count_89 : decode cX11_count 89 = .ok (.getfield 178, 3) := by decide +kernel
theorem dX11_count_92 : decode cX11_count 92 = .ok (.ireturn, 1) := by decide +kernel
theorem dX11_count_93 : decode cX11_count 93 = .ok (.aload_n 0, 1) := by decide +kernel
theorem dX11_count_94 : decode cX11_count 94 = .ok (.getfield 14, 3) := by decide +kernel
theorem dX11_count_97 : decode cX11_count 97 = .ok (.getfield 130, 3) := by decide +kernel
theorem dX11_count_100 : decode cX11_count 100 = .ok (.getfield 138, 3) := by decide +kernel
theorem dX11_count_103 : decode cX11_count 103 = .ok (.ireturn, 1) := by decide +kernel
theorem dX11_count_104 : decode cX11_count 104 = .ok (.aload_n 0, 1) := by decide +kernel
theorem dX11_count_105 : decode cX11_count 105 = .ok (.getfield 18, 3) := by decide +kernel
theorem dX11_count_108 : decode cX11_count 108 = .ok (.getfield 130, 3) := by decide +kernel
theorem dX11_count_111 : decode cX11_count 111 = .ok (.getfield 138, 3) := by decide +kernel
theorem dX11_count_114 : decode cX11_count 114 = .ok (.ireturn, 1) := by decide +kernel
theorem dX11_count_115 : decode cX11_count 115 = .ok (.aload_n 0, 1) := by decide +kernel
theorem dX11_count_116 : decode cX11_count 116 = .ok (.getfield 24, 3) := by decide +kernel
theorem dX11_count_119 : decode cX11_count 119 = .ok (.invokevirtual 490, 3) := by decide +kernel
theorem dX11_count_122 : decode cX11_count 122 = .ok (.ireturn, 1) := by decide +kernel
theorem dX11_count_123 : decode cX11_count 123 = .ok (.aload_n 0, 1) := by decide +kernel
theorem dX11_count_124 : decode cX11_count 124 = .ok (.getfield 63, 3) := by decide +kernel
theorem dX11_count_127 : decode cX11_count 127 = .ok (.getfield 375, 3) := by decide +kernel
theorem dX11_count_130 : decode cX11_count 130 = .ok (.ireturn, 1) := by decide +kernel
theorem dX11_count_131 : decode cX11_count 131 = .ok (.aload_n 0, 1) := by decide +kernel
theorem dX11_count_132 : decode cX11_count 132 = .ok (.getfield 70, 3) := by decide +kernel
theorem dX11_count_135 : decode cX11_count 135 = .ok (.getfield 215, 3) := by decide +kernel
theorem dX11_count_138 : decode cX11_count 138 = .ok (.ireturn, 1) := by decide +kernel
theorem dX11_count_139 : decode cX11_count 139 = .ok (.aload_n 0, 1) := by decide +kernel
theorem dX11_count_140 : decode cX11_count 140 = .ok (.getfield 70, 3) := by decide +kernel
theorem dX11_count_143 : decode cX11_count 143 = .ok (.getfield 430, 3) := by decide +kernel
theorem dX11_count_146 : decode cX11_count 146 = .ok (.ireturn, 1) := by decide +kernel
theorem dX11_count_147 : decode cX11_count 147 = .ok (.aload_n 0, 1) := by decide +kernel
theorem dX11_count_148 : decode cX11_count 148 = .ok (.getfield 70, 3) := by decide +kernel
theorem dX11_count_151 : decode cX11_count 151 = .ok (.getfield 436, 3) := by decide +kernel
theorem dX11_count_154 : decode cX11_count 154 = .ok (.ireturn, 1) := by decide +kernel
theorem dX11_count_155 : decode cX11_count 155 = .ok (.aload_n 0, 1) := by decide +kernel
theorem dX11_count_156 : decode cX11_count 156 = .ok (.getfield 123, 3) := by decide +kernel
theorem dX11_count_159 : decode cX11_count 159 = .ok (.ireturn, 1) := by decide +kernel
theorem dX11_count_160 : decode cX11_count 160 = .ok (.iconst (-1), 1) := by decide +kernel
theorem dX11_count_161 : decode cX11_count 161 = .ok (.ireturn, 1) := by decide +kernel
def XX11_startAll (x0 : Int) (x1 : Int) (x2 : Int) (h : Hp) : OR :=
  cal (XX6_start 17 x0 x1 x2 h) (fun r1 h2 => cal (XX6_start 27 x0 x1 x2 h2) (fun r3 h4 => chk (x0 + x1) (cal (XX0_start (x0 + x1) h4) (fun r5 h6 => cal (XX4_start h6) (fun r7 h8 => cal (XX7_drop h8) (fun r9 h10 => cal (XX9_start h10) (fun r11 h12 => cal (XX3_start h12) (fun r13 h14 => cal (XJ7_fill_53178 99 9 1 h14) (fun r15 h16 => hm (wr h16 16 12 0) (fun h17 => hm (wr h17 16 13 (-1)) (fun h18 => hm (wr h18 16 14 (-1)) (fun h19 => hm (wr h19 16 15 0) (fun h20 => some (0, h20))))))))))))))
theorem sX11_startAll {G : GG} {w : Wd} (hw : okX0 w) (x0 : Int) (x1 : Int) (x2 : Int) (h : Hp) : SC G w yX11_startAll (Cond.code yX11_startAll cX11_startAll 4 (Option.none : Option Jvm.ClassFile.FieldType)) 4 3 [vP 16, vI x0, vI x1, vI x2] (XX11_startAll x0 x1 x2 h) h := by
  refine SC_of (own := "GatePatch") plain_GP rfl (Nat.le_of_ble_eq_true rfl) (fun Γ hG g => ?_)
  subst hG
  show Sim Γ w 3 _ h 0 [(0, vP 16), (1, vI x0), (2, vI x1), (3, vI x2)] []
  unfold XX11_startAll
  refine S_aload_n (kk := 0) g dX11_startAll_0 rfl rfl ?_
  refine S_getr g dX11_startAll_1 fl_GP_14 (at0_16 hw) rfl (rc0_16_0 hw) ?_
  refine S_iload_n (kk := 1) g dX11_startAll_4 rfl rfl ?_
  refine S_iload_n (kk := 2) g dX11_startAll_5 rfl rfl ?_
  refine S_iload_n (kk := 3) g dX11_startAll_6 rfl rfl ?_
  refine S_callVv (As := [vI x0, vI x1, vI x2]) g dX11_startAll_7 (sX6_start hw 17 (nt0_17 hw) _ _ _ _) rfl (at0_17 hw) rfl im_X6_start se_X6_start cw_X6_start ml_GP_96 ini_Net nd_X6_start ⟨by decide, by decide⟩ (Nat.le_of_ble_eq_true rfl) (fun r1 h2 => ?_)
  refine S_aload_n (kk := 0) g dX11_startAll_10 rfl rfl ?_
  refine S_getr g dX11_startAll_11 fl_GP_18 (at0_16 hw) rfl (rc0_16_1 hw) ?_
  refine S_iload_n (kk := 1) g dX11_startAll_14 rfl rfl ?_
  refine S_iload_n (kk := 2) g dX11_startAll_15 rfl rfl ?_
  refine S_iload_n (kk := 3) g dX11_startAll_16 rfl rfl ?_
  refine S_callVv (As := [vI x0, vI x1, vI x2]) g dX11_startAll_17 (sX6_start hw 27 (nt0_27 hw) _ _ _ _) rfl (at0_27 hw) rfl im_X6_start se_X6_start cw_X6_start ml_GP_96 ini_Net nd_X6_start ⟨by decide, by decide⟩ (Nat.le_of_ble_eq_true rfl) (fun r3 h4 => ?_)
  refine S_aload_n (kk := 0) g dX11_startAll_20 rfl rfl ?_
  refine S_getr g dX11_startAll_21 fl_GP_24 (at0_16 hw) rfl (rc0_16_2 hw) ?_
  refine S_iload_n (kk := 1) g dX11_startAll_24 rfl rfl ?_
  refine S_iload_n (kk := 2) g dX11_startAll_25 rfl rfl ?_
  refine S_iadd g dX11_startAll_26 ?_
  refine S_callVv (As := [vI (x0 + x1)]) g dX11_startAll_27 (sX0_start hw _ _) rfl (at0_37 hw) rfl im_X0_start se_X0_start cw_X0_start ml_GP_99 ini_Cases nd_X0_start ⟨by decide, by decide⟩ (Nat.le_of_ble_eq_true rfl) (fun r5 h6 => ?_)
  refine S_aload_n (kk := 0) g dX11_startAll_30 rfl rfl ?_
  refine S_getr g dX11_startAll_31 fl_GP_49 (at0_16 hw) rfl (rc0_16_5 hw) ?_
  refine S_callVv (As := []) g dX11_startAll_34 (sX4_start hw  _) rfl (at0_53 hw) rfl im_X4_start se_X4_start cw_X4_start ml_GP_101 ini_Marks nd_X4_start ⟨by decide, by decide⟩ (Nat.le_of_ble_eq_true rfl) (fun r7 h8 => ?_)
  refine S_aload_n (kk := 0) g dX11_startAll_37 rfl rfl ?_
  refine S_getr g dX11_startAll_38 fl_GP_56 (at0_16 hw) rfl (rc0_16_6 hw) ?_
  refine S_callVv (As := []) g dX11_startAll_41 (sX7_drop hw  _) rfl (at0_56 hw) rfl im_X7_drop se_X7_drop cw_X7_drop ml_GP_103 ini_Patch nd_X7_drop ⟨by decide, by decide⟩ (Nat.le_of_ble_eq_true rfl) (fun r9 h10 => ?_)
  refine S_aload_n (kk := 0) g dX11_startAll_44 rfl rfl ?_
  refine S_getr g dX11_startAll_45 fl_GP_63 (at0_16 hw) rfl (rc0_16_7 hw) ?_
  refine S_callVv (As := []) g dX11_startAll_48 (sX9_start hw  _) rfl (at0_67 hw) rfl im_X9_start se_X9_start cw_X9_start ml_GP_106 ini_Spares nd_X9_start ⟨by decide, by decide⟩ (Nat.le_of_ble_eq_true rfl) (fun r11 h12 => ?_)
  refine S_aload_n (kk := 0) g dX11_startAll_51 rfl rfl ?_
  refine S_getr g dX11_startAll_52 fl_GP_70 (at0_16 hw) rfl (rc0_16_8 hw) ?_
  refine S_callVv (As := []) g dX11_startAll_55 (sX3_start hw  _) rfl (at0_72 hw) rfl im_X3_start se_X3_start cw_X3_start ml_GP_107 ini_Journal nd_X3_start ⟨by decide, by decide⟩ (Nat.le_of_ble_eq_true rfl) (fun r13 h14 => ?_)
  refine S_aload_n (kk := 0) g dX11_startAll_58 rfl rfl ?_
  refine S_getr g dX11_startAll_59 fl_GP_80 (at0_16 hw) rfl (rc0_16_10 hw) ?_
  refine S_iconst g dX11_startAll_62 ⟨by decide, by decide⟩ ?_
  refine S_callSv (As := [vP 99, vI 1]) g dX11_startAll_63 (sJ7_fill_53178 99 9 (at0_99 hw) ⟨by decide, by decide⟩ _ _) rfl st_J7_fill_53178 cw_J7_fill_53178 ml_GP_108 ini_Arr nd_J7_fill_53178 ⟨by decide, by decide⟩ (Nat.le_of_ble_eq_true rfl) (fun r15 h16 => ?_)
  refine S_aload_n (kk := 0) g dX11_startAll_66 rfl rfl ?_
  refine S_iconst g dX11_startAll_67 ⟨by decide, by decide⟩ ?_
  refine S_puti g dX11_startAll_68 fp_GP_114 (at0_16 hw) rfl (fun h17 => ?_)
  refine S_aload_n (kk := 0) g dX11_startAll_71 rfl rfl ?_
  refine S_iconst g dX11_startAll_72 ⟨by decide, by decide⟩ ?_
  refine S_puti g dX11_startAll_73 fp_GP_117 (at0_16 hw) rfl (fun h18 => ?_)
  refine S_aload_n (kk := 0) g dX11_startAll_76 rfl rfl ?_
  refine S_iconst g dX11_startAll_77 ⟨by decide, by decide⟩ ?_
  refine S_puti g dX11_startAll_78 fp_GP_120 (at0_16 hw) rfl (fun h19 => ?_)
  refine S_aload_n (kk := 0) g dX11_startAll_81 rfl rfl ?_
  refine S_iconst g dX11_startAll_82 ⟨by decide, by decide⟩ ?_
  refine S_puti g dX11_startAll_83 fp_GP_123 (at0_16 hw) rfl (fun h20 => ?_)
  exact S_return g dX11_startAll_86 rfl

def XX11_begin (x0 : Int) (x1 : Int) (x2 : Int) (h : Hp) : OR :=
  if x0 < 0 then some ((-1), h) else if 8 < x0 then some ((-1), h) else if x1 < 0 then some ((-1), h) else if x1 ≤ 2 then chk (x0 + x1) (nm (x0 + x1) (fun v1 => if v1 < 1 then some ((-1), h) else if 8 < v1 then some ((-1), h) else if x2 < 1 then some ((-1), h) else if x2 ≤ 4 then cal (XX11_startAll x0 x1 x2 h) (fun r2 h3 => some ((h3 37 0), h3)) else some ((-1), h))) else some ((-1), h)
theorem sX11_begin {G : GG} {w : Wd} (hw : okX w) (x0 : Int) (x1 : Int) (x2 : Int) (h : Hp) : SC G w yX11_begin (Cond.code yX11_begin cX11_begin 5 (Option.some Jvm.ClassFile.FieldType.int)) 5 0 [vP 16, vI x0, vI x1, vI x2] (XX11_begin x0 x1 x2 h) h := by
  refine SC_of (own := "GatePatch") plain_GP rfl (Nat.le_of_ble_eq_true rfl) (fun Γ hG g => ?_)
  subst hG
  show Sim Γ w 0 _ h 0 [(0, vP 16), (1, vI x0), (2, vI x1), (3, vI x2)] []
  unfold XX11_begin
  refine S_iload_n (kk := 1) g dX11_begin_0 rfl rfl ?_
  refine S_if_lt (tgt := 19) g dX11_begin_1 (by decide) ?_ ?_
  · refine S_iconst g dX11_begin_19 ⟨by decide, by decide⟩ ?_
    exact S_ireturn g dX11_begin_20 rfl
  · refine S_iload_n (kk := 1) g dX11_begin_4 rfl rfl ?_
    refine S_bipush g dX11_begin_5 ⟨by decide, by decide⟩ rfl ?_
    refine S_icmp_gt (tgt := 19) g dX11_begin_7 (by decide) ?_ ?_
    · refine S_iconst g dX11_begin_19 ⟨by decide, by decide⟩ ?_
      exact S_ireturn g dX11_begin_20 rfl
    · refine S_iload_n (kk := 2) g dX11_begin_10 rfl rfl ?_
      refine S_if_lt (tgt := 19) g dX11_begin_11 (by decide) ?_ ?_
      · refine S_iconst g dX11_begin_19 ⟨by decide, by decide⟩ ?_
        exact S_ireturn g dX11_begin_20 rfl
      · refine S_iload_n (kk := 2) g dX11_begin_14 rfl rfl ?_
        refine S_iconst g dX11_begin_15 ⟨by decide, by decide⟩ ?_
        refine S_icmp_le (tgt := 21) g dX11_begin_16 (by decide) ?_ ?_
        · refine S_iload_n (kk := 1) g dX11_begin_21 rfl rfl ?_
          refine S_iload_n (kk := 2) g dX11_begin_22 rfl rfl ?_
          refine S_iadd g dX11_begin_23 ?_
          refine S_nmI (fun v1 => ?_)
          refine S_istore g dX11_begin_24 (by decide) rfl ?_
          refine S_iload (kk := 0) g dX11_begin_26 rfl ?_
          refine S_iconst g dX11_begin_28 ⟨by decide, by decide⟩ ?_
          refine S_icmp_lt (tgt := 49) g dX11_begin_29 (by decide) ?_ ?_
          · refine S_iconst g dX11_begin_49 ⟨by decide, by decide⟩ ?_
            exact S_ireturn g dX11_begin_50 rfl
          · refine S_iload (kk := 0) g dX11_begin_32 rfl ?_
            refine S_bipush g dX11_begin_34 ⟨by decide, by decide⟩ rfl ?_
            refine S_icmp_gt (tgt := 49) g dX11_begin_36 (by decide) ?_ ?_
            · refine S_iconst g dX11_begin_49 ⟨by decide, by decide⟩ ?_
              exact S_ireturn g dX11_begin_50 rfl
            · refine S_iload_n (kk := 4) g dX11_begin_39 rfl rfl ?_
              refine S_iconst g dX11_begin_40 ⟨by decide, by decide⟩ ?_
              refine S_icmp_lt (tgt := 49) g dX11_begin_41 (by decide) ?_ ?_
              · refine S_iconst g dX11_begin_49 ⟨by decide, by decide⟩ ?_
                exact S_ireturn g dX11_begin_50 rfl
              · refine S_iload_n (kk := 4) g dX11_begin_44 rfl rfl ?_
                refine S_iconst g dX11_begin_45 ⟨by decide, by decide⟩ ?_
                refine S_icmp_le (tgt := 51) g dX11_begin_46 (by decide) ?_ ?_
                · refine S_aload_n (kk := 1) g dX11_begin_51 rfl rfl ?_
                  refine S_iload_n (kk := 2) g dX11_begin_52 rfl rfl ?_
                  refine S_iload_n (kk := 3) g dX11_begin_53 rfl rfl ?_
                  refine S_iload_n (kk := 4) g dX11_begin_54 rfl rfl ?_
                  refine S_callVv (As := [vI x0, vI x1, vI x2]) g dX11_begin_55 (sX11_startAll hw.1 _ _ _ _) rfl (at_16 hw) rfl im_X11_startAll se_X11_startAll cw_X11_startAll ml_GP_88 ini_GP nd_X11_startAll ⟨by decide, by decide⟩ (Nat.le_of_ble_eq_true rfl) (fun r2 h3 => ?_)
                  refine S_aload_n (kk := 1) g dX11_begin_58 rfl rfl ?_
                  refine S_getr g dX11_begin_59 fl_GP_24 (at_16 hw) rfl (rc_16_2 hw) ?_
                  refine S_geti g dX11_begin_62 fl_GP_92 (at_37 hw) (Or.inl rfl) ?_
                  exact S_ireturn g dX11_begin_65 rfl
                · refine S_iconst g dX11_begin_49 ⟨by decide, by decide⟩ ?_
                  exact S_ireturn g dX11_begin_50 rfl
        · refine S_iconst g dX11_begin_19 ⟨by decide, by decide⟩ ?_
          exact S_ireturn g dX11_begin_20 rfl

def XX11_netOf (x0 : Int) (h : Hp) : OR :=
  if x0 = 0 then some (((17 : Nat) : Int), h) else if x0 = 1 then some (((27 : Nat) : Int), h) else some (((0 : Nat) : Int), h)
theorem sX11_netOf {G : GG} {w : Wd} (hw : okX w) (x0 : Int) (h : Hp) : SC G w yX11_netOf (Cond.code yX11_netOf cX11_netOf 2 (Option.some (Jvm.ClassFile.FieldType.object "GatePatch$Net"))) 1 2 [vP 16, vI x0] (XX11_netOf x0 h) h := by
  refine SC_of (own := "GatePatch") plain_GP rfl (Nat.le_of_ble_eq_true rfl) (fun Γ hG g => ?_)
  subst hG
  show Sim Γ w 2 _ h 0 [(0, vP 16), (1, vI x0)] []
  unfold XX11_netOf
  refine S_iload_n (kk := 1) g dX11_netOf_0 rfl rfl ?_
  refine S_if_ne (tgt := 9) g dX11_netOf_1 (by decide) ?_ ?_
  · refine S_iload_n (kk := 1) g dX11_netOf_9 rfl rfl ?_
    refine S_iconst g dX11_netOf_10 ⟨by decide, by decide⟩ ?_
    refine S_icmp_ne (tgt := 21) g dX11_netOf_11 (by decide) ?_ ?_
    · refine S_null g dX11_netOf_21 ?_
      exact S_areturn g dX11_netOf_22 rfl
    · refine S_aload_n (kk := 0) g dX11_netOf_14 rfl rfl ?_
      refine S_getr g dX11_netOf_15 fl_GP_18 (at_16 hw) rfl (rc_16_1 hw) ?_
      refine S_goto (tgt := 22) g dX11_netOf_18 (by decide) ?_
      exact S_areturn g dX11_netOf_22 rfl
  · refine S_aload_n (kk := 0) g dX11_netOf_4 rfl rfl ?_
    refine S_getr g dX11_netOf_5 fl_GP_14 (at_16 hw) rfl (rc_16_0 hw) ?_
    exact S_areturn g dX11_netOf_8 rfl

def XX11_pinsFit_p74   (h : Hp) : OR :=
  zb 1 (some (1, h))
def XX11_pinsFit_p50 (a0 : Nat)  (l4 l5 : Int) (h : Hp) : OR :=
  if l5 ≤ 2 then if l4 = (-1) then XX11_pinsFit_p74 h else zb 0 (some (0, h)) else cal (XX8_isWire a0 l4 h) (fun r2 h3 => if r2 = 0 then zb 0 (some (0, h3)) else XX11_pinsFit_p74 h3)
def XX11_pinsFit_p28 (a0 : Nat)  (l3 l4 l5 : Int) (h : Hp) : OR :=
  if l5 ≤ 1 then if l3 = (-1) then XX11_pinsFit_p50 a0 l4 l5 h else zb 0 (some (0, h)) else cal (XX8_isWire a0 l3 h) (fun r4 h5 => if r4 = 0 then zb 0 (some (0, h5)) else XX11_pinsFit_p50 a0 l4 l5 h5)
def XX11_pinsFit (x0 : Nat) (x1 : Int) (x2 : Int) (x3 : Int) (x4 : Int) (h : Hp) : OR :=
  inb x1 9 (nm (pinC x1.toNat) (fun v1 => if v1 ≤ 0 then if x2 = (-1) then XX11_pinsFit_p28 x0 x3 x4 v1 h else zb 0 (some (0, h)) else cal (XX8_isWire x0 x2 h) (fun r6 h7 => if r6 = 0 then zb 0 (some (0, h7)) else XX11_pinsFit_p28 x0 x3 x4 v1 h7)))
theorem sX11_pinsFit_p74 {Γ : Cx} {w : Wd} (hw : okX w) (g : Gd Γ cX11_pinsFit 6 "GatePatch" (Option.some Jvm.ClassFile.FieldType.boolean) (rmd 3))   (h : Hp) : Sim Γ w 0 (XX11_pinsFit_p74    h) h 74 [] [] := by
  unfold XX11_pinsFit_p74
  refine S_iconst g dX11_pinsFit_74 ⟨by decide, by decide⟩ ?_
  refine S_goto (tgt := 79) g dX11_pinsFit_75 (by decide) ?_
  exact S_zreturn g dX11_pinsFit_79 rfl

theorem sX11_pinsFit_p50 {Γ : Cx} {w : Wd} (hw : okX w) (g : Gd Γ cX11_pinsFit 6 "GatePatch" (Option.some Jvm.ClassFile.FieldType.boolean) (rmd 3)) (a0 : Nat) (ha0 : isPl w a0)  (l4 l5 : Int) (h : Hp) : Sim Γ w 0 (XX11_pinsFit_p50 a0 l4 l5  h) h 50 [(0, vP a0), (4, vI l4), (5, vI l5)] [] := by
  unfold XX11_pinsFit_p50
  refine S_iload (kk := 2) g dX11_pinsFit_50 rfl ?_
  refine S_iconst g dX11_pinsFit_52 ⟨by decide, by decide⟩ ?_
  refine S_icmp_le (tgt := 68) g dX11_pinsFit_53 (by decide) ?_ ?_
  · refine S_iload (kk := 1) g dX11_pinsFit_68 rfl ?_
    refine S_iconst g dX11_pinsFit_70 ⟨by decide, by decide⟩ ?_
    refine S_icmp_ne (tgt := 78) g dX11_pinsFit_71 (by decide) ?_ ?_
    · refine S_iconst g dX11_pinsFit_78 ⟨by decide, by decide⟩ ?_
      exact S_zreturn g dX11_pinsFit_79 rfl
    · refine S_sub g [] rfl ?_
      exact sX11_pinsFit_p74 hw g _
  · refine S_aload_n (kk := 0) g dX11_pinsFit_56 rfl rfl ?_
    refine S_iload (kk := 1) g dX11_pinsFit_57 rfl ?_
    refine S_callVi (As := [vI l4]) g dX11_pinsFit_59 (sX8_isWire hw a0 ha0 _ _) rfl ha0.1 rfl im_X8_isWire se_X8_isWire cw_X8_isWire ml_GP_158 ini_Plan nd_X8_isWire ⟨by decide, by decide⟩ (Nat.le_of_ble_eq_true rfl) (fun r2 h3 => ?_)
    refine S_if_eq (tgt := 78) g dX11_pinsFit_62 (by decide) ?_ ?_
    · refine S_iconst g dX11_pinsFit_78 ⟨by decide, by decide⟩ ?_
      exact S_zreturn g dX11_pinsFit_79 rfl
    · refine S_goto (tgt := 74) g dX11_pinsFit_65 (by decide) ?_
      refine S_sub g [] rfl ?_
      exact sX11_pinsFit_p74 hw g _

theorem sX11_pinsFit_p28 {Γ : Cx} {w : Wd} (hw : okX w) (g : Gd Γ cX11_pinsFit 6 "GatePatch" (Option.some Jvm.ClassFile.FieldType.boolean) (rmd 3)) (a0 : Nat) (ha0 : isPl w a0)  (l3 l4 l5 : Int) (h : Hp) : Sim Γ w 0 (XX11_pinsFit_p28 a0 l3 l4 l5  h) h 28 [(0, vP a0), (3, vI l3), (4, vI l4), (5, vI l5)] [] := by
  unfold XX11_pinsFit_p28
  refine S_iload (kk := 3) g dX11_pinsFit_28 rfl ?_
  refine S_iconst g dX11_pinsFit_30 ⟨by decide, by decide⟩ ?_
  refine S_icmp_le (tgt := 45) g dX11_pinsFit_31 (by decide) ?_ ?_
  · refine S_iload_n (kk := 1) g dX11_pinsFit_45 rfl rfl ?_
    refine S_iconst g dX11_pinsFit_46 ⟨by decide, by decide⟩ ?_
    refine S_icmp_ne (tgt := 78) g dX11_pinsFit_47 (by decide) ?_ ?_
    · refine S_iconst g dX11_pinsFit_78 ⟨by decide, by decide⟩ ?_
      exact S_zreturn g dX11_pinsFit_79 rfl
    · refine S_sub g [0, 2, 3] rfl ?_
      exact sX11_pinsFit_p50 hw g a0 ha0 _ _ _
  · refine S_aload_n (kk := 0) g dX11_pinsFit_34 rfl rfl ?_
    refine S_iload_n (kk := 1) g dX11_pinsFit_35 rfl rfl ?_
    refine S_callVi (As := [vI l3]) g dX11_pinsFit_36 (sX8_isWire hw a0 ha0 _ _) rfl ha0.1 rfl im_X8_isWire se_X8_isWire cw_X8_isWire ml_GP_158 ini_Plan nd_X8_isWire ⟨by decide, by decide⟩ (Nat.le_of_ble_eq_true rfl) (fun r4 h5 => ?_)
    refine S_if_eq (tgt := 78) g dX11_pinsFit_39 (by decide) ?_ ?_
    · refine S_iconst g dX11_pinsFit_78 ⟨by decide, by decide⟩ ?_
      exact S_zreturn g dX11_pinsFit_79 rfl
    · refine S_goto (tgt := 50) g dX11_pinsFit_42 (by decide) ?_
      refine S_sub g [0, 2, 3] rfl ?_
      exact sX11_pinsFit_p50 hw g a0 ha0 _ _ _

theorem sX11_pinsFit {G : GG} {w : Wd} (hw : okX w) (x0 : Nat) (hx0 : isPl w x0) (x1 : Int) (x2 : Int) (x3 : Int) (x4 : Int) (h : Hp) : SC G w yX11_pinsFit (Cond.code yX11_pinsFit cX11_pinsFit 6 (Option.some Jvm.ClassFile.FieldType.boolean)) 3 0 [vP x0, vI x1, vI x2, vI x3, vI x4] (XX11_pinsFit x0 x1 x2 x3 x4 h) h := by
  refine SC_of (own := "GatePatch") plain_GP rfl (Nat.le_of_ble_eq_true rfl) (fun Γ hG g => ?_)
  subst hG
  show Sim Γ w 0 _ h 0 [(0, vP x0), (1, vI x1), (2, vI x2), (3, vI x3), (4, vI x4)] []
  unfold XX11_pinsFit
  refine S_gets1 g dX11_pinsFit_0 gs_GP_154 ?_
  refine S_iload_n (kk := 1) g dX11_pinsFit_3 rfl rfl ?_
  refine S_baloadS1 g dX11_pinsFit_4 ?_
  refine S_nmI (fun v1 => ?_)
  refine S_istore g dX11_pinsFit_5 (by decide) rfl ?_
  refine S_iload (kk := 0) g dX11_pinsFit_7 rfl ?_
  refine S_if_le (tgt := 23) g dX11_pinsFit_9 (by decide) ?_ ?_
  · refine S_iload_n (kk := 3) g dX11_pinsFit_23 rfl rfl ?_
    refine S_iconst g dX11_pinsFit_24 ⟨by decide, by decide⟩ ?_
    refine S_icmp_ne (tgt := 78) g dX11_pinsFit_25 (by decide) ?_ ?_
    · refine S_iconst g dX11_pinsFit_78 ⟨by decide, by decide⟩ ?_
      exact S_zreturn g dX11_pinsFit_79 rfl
    · refine S_sub g [1, 4, 5, 0] rfl ?_
      exact sX11_pinsFit_p28 hw g x0 hx0 _ _ _ _
  · refine S_aload_n (kk := 1) g dX11_pinsFit_12 rfl rfl ?_
    refine S_iload_n (kk := 3) g dX11_pinsFit_13 rfl rfl ?_
    refine S_callVi (As := [vI x2]) g dX11_pinsFit_14 (sX8_isWire hw x0 hx0 _ _) rfl hx0.1 rfl im_X8_isWire se_X8_isWire cw_X8_isWire ml_GP_158 ini_Plan nd_X8_isWire ⟨by decide, by decide⟩ (Nat.le_of_ble_eq_true rfl) (fun r6 h7 => ?_)
    refine S_if_eq (tgt := 78) g dX11_pinsFit_17 (by decide) ?_ ?_
    · refine S_iconst g dX11_pinsFit_78 ⟨by decide, by decide⟩ ?_
      exact S_zreturn g dX11_pinsFit_79 rfl
    · refine S_goto (tgt := 28) g dX11_pinsFit_20 (by decide) ?_
      refine S_sub g [1, 4, 5, 0] rfl ?_
      exact sX11_pinsFit_p28 hw g x0 hx0 _ _ _ _

def XX11_changed (x0 : Nat) (h : Hp) : OR :=
  cal (XX6_stale x0 h) (fun r1 h2 => cal (XX7_drop h2) (fun r3 h4 => if x0 = 17 then hm (wr h4 72 2 0) (fun h5 => some (0, h5)) else some (0, h4)))
theorem sX11_changed {G : GG} {w : Wd} (hw : okX w) (x0 : Nat) (hx0 : isNt w x0) (h : Hp) : SC G w yX11_changed (Cond.code yX11_changed cX11_changed 2 (Option.none : Option Jvm.ClassFile.FieldType)) 2 3 [vP 16, vP x0] (XX11_changed x0 h) h := by
  refine SC_of (own := "GatePatch") plain_GP rfl (Nat.le_of_ble_eq_true rfl) (fun Γ hG g => ?_)
  subst hG
  show Sim Γ w 3 _ h 0 [(0, vP 16), (1, vP x0)] []
  unfold XX11_changed
  refine S_aload_n (kk := 1) g dX11_changed_0 rfl rfl ?_
  refine S_callVv (As := []) g dX11_changed_1 (sX6_stale hw x0 hx0 _) rfl hx0.1 rfl im_X6_stale se_X6_stale cw_X6_stale ml_GP_212 ini_Net nd_X6_stale ⟨by decide, by decide⟩ (Nat.le_of_ble_eq_true rfl) (fun r1 h2 => ?_)
  refine S_aload_n (kk := 0) g dX11_changed_4 rfl rfl ?_
  refine S_getr g dX11_changed_5 fl_GP_56 (at_16 hw) rfl (rc_16_6 hw) ?_
  refine S_callVv (As := []) g dX11_changed_8 (sX7_drop hw.1  _) rfl (at_56 hw) rfl im_X7_drop se_X7_drop cw_X7_drop ml_GP_103 ini_Patch nd_X7_drop ⟨by decide, by decide⟩ (Nat.le_of_ble_eq_true rfl) (fun r3 h4 => ?_)
  refine S_aload_n (kk := 1) g dX11_changed_11 rfl rfl ?_
  refine S_aload_n (kk := 0) g dX11_changed_12 rfl rfl ?_
  refine S_getr g dX11_changed_13 fl_GP_14 (at_16 hw) rfl (rc_16_0 hw) ?_
  refine S_acmp_ne (tgt := 27) g dX11_changed_16 (by decide) hx0.1 (at_17 hw) ?_ ?_
  · exact S_return g dX11_changed_27 rfl
  · refine S_aload_n (kk := 0) g dX11_changed_19 rfl rfl ?_
    refine S_getr g dX11_changed_20 fl_GP_70 (at_16 hw) rfl (rc_16_8 hw) ?_
    refine S_iconst g dX11_changed_23 ⟨by decide, by decide⟩ ?_
    refine S_puti g dX11_changed_24 fp_GP_215 (at_72 hw) rfl (fun h5 => ?_)
    exact S_return g dX11_changed_27 rfl

def XX11_gate (x0 : Int) (x1 : Int) (x2 : Int) (x3 : Int) (x4 : Int) (h : Hp) : OR :=
  cal (XX11_netOf x0 h) (fun r1 h2 => if (r1.toNat) = 0 then some ((-1), h2) else asr (r1.toNat = 17 ∨ r1.toNat = 27) (if x1 < 0 then some ((-1), h2) else if 9 ≤ x1 then some ((-1), h2) else cal (XX11_pinsFit (r1.toNat + 1) x1 x2 x3 x4 h2) (fun r4 h5 => if r4 = 0 then some ((-1), h5) else if (h5 (r1.toNat + 1) 3) < (h5 (r1.toNat) 1) then cal (XX8_addGate (r1.toNat + 1) x1 x2 x3 x4 0 h5) (fun r6 h7 => cal (XX11_changed (r1.toNat) h7) (fun r8 h9 => some (r6, h9))) else some ((-3), h5))))
theorem sX11_gate {G : GG} {w : Wd} (hw : okX w) (x0 : Int) (x1 : Int) (x2 : Int) (x3 : Int) (x4 : Int) (h : Hp) : SC G w yX11_gate (Cond.code yX11_gate cX11_gate 8 (Option.some Jvm.ClassFile.FieldType.int)) 4 0 [vP 16, vI x0, vI x1, vI x2, vI x3, vI x4] (XX11_gate x0 x1 x2 x3 x4 h) h := by
  refine SC_of (own := "GatePatch") plain_GP rfl (Nat.le_of_ble_eq_true rfl) (fun Γ hG g => ?_)
  subst hG
  show Sim Γ w 0 _ h 0 [(0, vP 16), (1, vI x0), (2, vI x1), (3, vI x2), (4, vI x3), (5, vI x4)] []
  unfold XX11_gate
  refine S_aload_n (kk := 0) g dX11_gate_0 rfl rfl ?_
  refine S_iload_n (kk := 1) g dX11_gate_1 rfl rfl ?_
  refine S_callVp (As := [vI x0]) g dX11_gate_2 (sX11_netOf hw _ _) rfl (at_16 hw) rfl im_X11_netOf se_X11_netOf cw_X11_netOf ml_GP_126 ini_GP nd_X11_netOf ⟨by decide, by decide⟩ (Nat.le_of_ble_eq_true rfl) (fun r1 h2 => ?_)
  refine S_astore g dX11_gate_5 (by decide) rfl ?_
  refine S_aload (kk := 0) g dX11_gate_7 rfl ?_
  refine S_ifnull (tgt := 39) g dX11_gate_9 (by decide) ?_ ?_
  · refine S_iconst g dX11_gate_39 ⟨by decide, by decide⟩ ?_
    exact S_ireturn g dX11_gate_40 rfl
  · refine S_asr (fun q3 => ?_)
    refine S_iload_n (kk := 3) g dX11_gate_12 rfl rfl ?_
    refine S_if_lt (tgt := 39) g dX11_gate_13 (by decide) ?_ ?_
    · refine S_iconst g dX11_gate_39 ⟨by decide, by decide⟩ ?_
      exact S_ireturn g dX11_gate_40 rfl
    · refine S_iload_n (kk := 3) g dX11_gate_16 rfl rfl ?_
      refine S_bipush g dX11_gate_17 ⟨by decide, by decide⟩ rfl ?_
      refine S_icmp_ge (tgt := 39) g dX11_gate_19 (by decide) ?_ ?_
      · refine S_iconst g dX11_gate_39 ⟨by decide, by decide⟩ ?_
        exact S_ireturn g dX11_gate_40 rfl
      · refine S_aload (kk := 0) g dX11_gate_22 rfl ?_
        refine S_getr g dX11_gate_24 fl_GP_130 (nt_of hw q3).1 rfl (nt_of hw q3).2.1 ?_
        refine S_iload_n (kk := 3) g dX11_gate_27 rfl rfl ?_
        refine S_iload_n (kk := 4) g dX11_gate_28 rfl rfl ?_
        refine S_iload (kk := 5) g dX11_gate_29 rfl ?_
        refine S_iload (kk := 6) g dX11_gate_31 rfl ?_
        refine S_callSi (As := [vP (r1.toNat + 1), vI x1, vI x2, vI x3, vI x4]) g dX11_gate_33 (sX11_pinsFit hw (r1.toNat + 1) (nt_of hw q3).2.2.2.2.2.2.1 _ _ _ _ _) rfl st_X11_pinsFit cw_X11_pinsFit ml_GP_134 ini_GP nd_X11_pinsFit ⟨by decide, by decide⟩ (Nat.le_of_ble_eq_true rfl) (fun r4 h5 => ?_)
        refine S_if_ne (tgt := 41) g dX11_gate_36 (by decide) ?_ ?_
        · refine S_aload (kk := 0) g dX11_gate_41 rfl ?_
          refine S_getr g dX11_gate_43 fl_GP_130 (nt_of hw q3).1 rfl (nt_of hw q3).2.1 ?_
          refine S_geti g dX11_gate_46 fl_GP_138 (nt_of hw q3).2.2.2.2.2.2.1.1 (Or.inl rfl) ?_
          refine S_aload (kk := 0) g dX11_gate_49 rfl ?_
          refine S_geti g dX11_gate_51 fl_GP_143 (nt_of hw q3).1 (Or.inl rfl) ?_
          refine S_icmp_lt (tgt := 60) g dX11_gate_54 (by decide) ?_ ?_
          · refine S_aload (kk := 0) g dX11_gate_60 rfl ?_
            refine S_getr g dX11_gate_62 fl_GP_130 (nt_of hw q3).1 rfl (nt_of hw q3).2.1 ?_
            refine S_iload_n (kk := 3) g dX11_gate_65 rfl rfl ?_
            refine S_iload_n (kk := 4) g dX11_gate_66 rfl rfl ?_
            refine S_iload (kk := 5) g dX11_gate_67 rfl ?_
            refine S_iload (kk := 6) g dX11_gate_69 rfl ?_
            refine S_iconst g dX11_gate_71 ⟨by decide, by decide⟩ ?_
            refine S_callVi (As := [vI x1, vI x2, vI x3, vI x4, vI 0]) g dX11_gate_72 (sX8_addGate hw (r1.toNat + 1) (nt_of hw q3).2.2.2.2.2.2.1 _ _ _ _ _ _) rfl (nt_of hw q3).2.2.2.2.2.2.1.1 rfl im_X8_addGate se_X8_addGate cw_X8_addGate ml_GP_146 ini_Plan nd_X8_addGate ⟨by decide, by decide⟩ (Nat.le_of_ble_eq_true rfl) (fun r6 h7 => ?_)
            refine S_istore g dX11_gate_75 (by decide) rfl ?_
            refine S_aload_n (kk := 2) g dX11_gate_77 rfl rfl ?_
            refine S_aload (kk := 1) g dX11_gate_78 rfl ?_
            refine S_callVv (As := [vP (r1.toNat)]) g dX11_gate_80 (sX11_changed hw (r1.toNat) (nt_of hw q3) _) rfl (at_16 hw) rfl im_X11_changed se_X11_changed cw_X11_changed ml_GP_150 ini_GP nd_X11_changed ⟨by decide, by decide⟩ (Nat.le_of_ble_eq_true rfl) (fun r8 h9 => ?_)
            refine S_iload (kk := 0) g dX11_gate_83 rfl ?_
            exact S_ireturn g dX11_gate_85 rfl
          · refine S_bipush g dX11_gate_57 ⟨by decide, by decide⟩ rfl ?_
            exact S_ireturn g dX11_gate_59 rfl
        · refine S_iconst g dX11_gate_39 ⟨by decide, by decide⟩ ?_
          exact S_ireturn g dX11_gate_40 rfl

def XX11_rewire (x0 : Int) (x1 : Int) (x2 : Int) (x3 : Int) (h : Hp) : OR :=
  cal (XX11_netOf x0 h) (fun r1 h2 => if (r1.toNat) = 0 then some ((-1), h2) else asr (r1.toNat = 17 ∨ r1.toNat = 27) (cal (XX8_isGate (r1.toNat + 1) x1 h2) (fun r4 h5 => if r4 = 0 then some ((-1), h5) else cal (XX8_hasPin (r1.toNat + 1) x1 x2 h5) (fun r6 h7 => if r6 = 0 then some ((-1), h7) else cal (XX8_isWire (r1.toNat + 1) x3 h7) (fun r8 h9 => if r8 = 0 then some ((-1), h9) else cal (XX6_refresh (r1.toNat) h9) (fun r10 h11 => cal (XX6_hangsOn (r1.toNat) x3 x1 h11) (fun r12 h13 => if r12 = 0 then chk (3 * x1) (chk ((3 * x1) + x2) (nm ((3 * x1) + x2) (fun v14 => inb v14 144 (nm (h13 ((r1.toNat + 1) + 2) v14.toNat) (fun v15 => inb v14 144 (hm (wr h13 ((r1.toNat + 1) + 2) v14.toNat x3) (fun h16 => cal (XX11_changed (r1.toNat) h16) (fun r17 h18 => some (v15, h18))))))))) else some ((-2), h13))))))))
theorem sX11_rewire {G : GG} {w : Wd} (hw : okX w) (x0 : Int) (x1 : Int) (x2 : Int) (x3 : Int) (h : Hp) : SC G w yX11_rewire (Cond.code yX11_rewire cX11_rewire 8 (Option.some Jvm.ClassFile.FieldType.int)) 4 0 [vP 16, vI x0, vI x1, vI x2, vI x3] (XX11_rewire x0 x1 x2 x3 h) h := by
  refine SC_of (own := "GatePatch") plain_GP rfl (Nat.le_of_ble_eq_true rfl) (fun Γ hG g => ?_)
  subst hG
  show Sim Γ w 0 _ h 0 [(0, vP 16), (1, vI x0), (2, vI x1), (3, vI x2), (4, vI x3)] []
  unfold XX11_rewire
  refine S_aload_n (kk := 0) g dX11_rewire_0 rfl rfl ?_
  refine S_iload_n (kk := 1) g dX11_rewire_1 rfl rfl ?_
  refine S_callVp (As := [vI x0]) g dX11_rewire_2 (sX11_netOf hw _ _) rfl (at_16 hw) rfl im_X11_netOf se_X11_netOf cw_X11_netOf ml_GP_126 ini_GP nd_X11_netOf ⟨by decide, by decide⟩ (Nat.le_of_ble_eq_true rfl) (fun r1 h2 => ?_)
  refine S_astore g dX11_rewire_5 (by decide) rfl ?_
  refine S_aload (kk := 0) g dX11_rewire_7 rfl ?_
  refine S_ifnull (tgt := 50) g dX11_rewire_9 (by decide) ?_ ?_
  · refine S_iconst g dX11_rewire_50 ⟨by decide, by decide⟩ ?_
    exact S_ireturn g dX11_rewire_51 rfl
  · refine S_asr (fun q3 => ?_)
    refine S_aload (kk := 0) g dX11_rewire_12 rfl ?_
    refine S_getr g dX11_rewire_14 fl_GP_130 (nt_of hw q3).1 rfl (nt_of hw q3).2.1 ?_
    refine S_iload_n (kk := 3) g dX11_rewire_17 rfl rfl ?_
    refine S_callVi (As := [vI x1]) g dX11_rewire_18 (sX8_isGate hw (r1.toNat + 1) (nt_of hw q3).2.2.2.2.2.2.1 _ _) rfl (nt_of hw q3).2.2.2.2.2.2.1.1 rfl im_X8_isGate se_X8_isGate cw_X8_isGate ml_GP_162 ini_Plan nd_X8_isGate ⟨by decide, by decide⟩ (Nat.le_of_ble_eq_true rfl) (fun r4 h5 => ?_)
    refine S_if_eq (tgt := 50) g dX11_rewire_21 (by decide) ?_ ?_
    · refine S_iconst g dX11_rewire_50 ⟨by decide, by decide⟩ ?_
      exact S_ireturn g dX11_rewire_51 rfl
    · refine S_aload (kk := 0) g dX11_rewire_24 rfl ?_
      refine S_getr g dX11_rewire_26 fl_GP_130 (nt_of hw q3).1 rfl (nt_of hw q3).2.1 ?_
      refine S_iload_n (kk := 3) g dX11_rewire_29 rfl rfl ?_
      refine S_iload_n (kk := 4) g dX11_rewire_30 rfl rfl ?_
      refine S_callVi (As := [vI x1, vI x2]) g dX11_rewire_31 (sX8_hasPin hw (r1.toNat + 1) (nt_of hw q3).2.2.2.2.2.2.1 _ _ _) rfl (nt_of hw q3).2.2.2.2.2.2.1.1 rfl im_X8_hasPin se_X8_hasPin cw_X8_hasPin ml_GP_165 ini_Plan nd_X8_hasPin ⟨by decide, by decide⟩ (Nat.le_of_ble_eq_true rfl) (fun r6 h7 => ?_)
      refine S_if_eq (tgt := 50) g dX11_rewire_34 (by decide) ?_ ?_
      · refine S_iconst g dX11_rewire_50 ⟨by decide, by decide⟩ ?_
        exact S_ireturn g dX11_rewire_51 rfl
      · refine S_aload (kk := 0) g dX11_rewire_37 rfl ?_
        refine S_getr g dX11_rewire_39 fl_GP_130 (nt_of hw q3).1 rfl (nt_of hw q3).2.1 ?_
        refine S_iload (kk := 5) g dX11_rewire_42 rfl ?_
        refine S_callVi (As := [vI x3]) g dX11_rewire_44 (sX8_isWire hw (r1.toNat + 1) (nt_of hw q3).2.2.2.2.2.2.1 _ _) rfl (nt_of hw q3).2.2.2.2.2.2.1.1 rfl im_X8_isWire se_X8_isWire cw_X8_isWire ml_GP_158 ini_Plan nd_X8_isWire ⟨by decide, by decide⟩ (Nat.le_of_ble_eq_true rfl) (fun r8 h9 => ?_)
        refine S_if_ne (tgt := 52) g dX11_rewire_47 (by decide) ?_ ?_
        · refine S_aload (kk := 0) g dX11_rewire_52 rfl ?_
          refine S_callVv (As := []) g dX11_rewire_54 (sX6_refresh hw (r1.toNat) (nt_of hw q3) _) rfl (nt_of hw q3).1 rfl im_X6_refresh se_X6_refresh cw_X6_refresh ml_GP_169 ini_Net nd_X6_refresh ⟨by decide, by decide⟩ (Nat.le_of_ble_eq_true rfl) (fun r10 h11 => ?_)
          refine S_aload (kk := 0) g dX11_rewire_57 rfl ?_
          refine S_iload (kk := 5) g dX11_rewire_59 rfl ?_
          refine S_iload_n (kk := 3) g dX11_rewire_61 rfl rfl ?_
          refine S_callVi (As := [vI x3, vI x1]) g dX11_rewire_62 (sX6_hangsOn hw (r1.toNat) (nt_of hw q3) _ _ _) rfl (nt_of hw q3).1 rfl im_X6_hangsOn se_X6_hangsOn cw_X6_hangsOn ml_GP_172 ini_Net nd_X6_hangsOn ⟨by decide, by decide⟩ (Nat.le_of_ble_eq_true rfl) (fun r12 h13 => ?_)
          refine S_if_eq (tgt := 71) g dX11_rewire_65 (by decide) ?_ ?_
          · refine S_iconst g dX11_rewire_71 ⟨by decide, by decide⟩ ?_
            refine S_iload_n (kk := 3) g dX11_rewire_72 rfl rfl ?_
            refine S_imul g dX11_rewire_73 ?_
            refine S_iload_n (kk := 4) g dX11_rewire_74 rfl rfl ?_
            refine S_iadd g dX11_rewire_75 ?_
            refine S_nmI (fun v14 => ?_)
            refine S_istore g dX11_rewire_76 (by decide) rfl ?_
            refine S_aload (kk := 1) g dX11_rewire_78 rfl ?_
            refine S_getr g dX11_rewire_80 fl_GP_130 (nt_of hw q3).1 rfl (nt_of hw q3).2.1 ?_
            refine S_getr g dX11_rewire_83 fl_GP_175 (nt_of hw q3).2.2.2.2.2.2.1.1 rfl (nt_of hw q3).2.2.2.2.2.2.1.2.2.1 ?_
            refine S_iload (kk := 0) g dX11_rewire_86 rfl ?_
            refine S_iaload g dX11_rewire_88 (nt_of hw q3).2.2.2.2.2.2.1.2.2.2.2.2.2.1 ?_
            refine S_nmI (fun v15 => ?_)
            refine S_istore g dX11_rewire_89 (by decide) rfl ?_
            refine S_aload (kk := 2) g dX11_rewire_91 rfl ?_
            refine S_getr g dX11_rewire_93 fl_GP_130 (nt_of hw q3).1 rfl (nt_of hw q3).2.1 ?_
            refine S_getr g dX11_rewire_96 fl_GP_175 (nt_of hw q3).2.2.2.2.2.2.1.1 rfl (nt_of hw q3).2.2.2.2.2.2.1.2.2.1 ?_
            refine S_iload (kk := 1) g dX11_rewire_99 rfl ?_
            refine S_iload (kk := 7) g dX11_rewire_101 rfl ?_
            refine S_iastore g dX11_rewire_103 (nt_of hw q3).2.2.2.2.2.2.1.2.2.2.2.2.2.1 (fun h16 => ?_)
            refine S_aload_n (kk := 3) g dX11_rewire_104 rfl rfl ?_
            refine S_aload (kk := 2) g dX11_rewire_105 rfl ?_
            refine S_callVv (As := [vP (r1.toNat)]) g dX11_rewire_107 (sX11_changed hw (r1.toNat) (nt_of hw q3) _) rfl (at_16 hw) rfl im_X11_changed se_X11_changed cw_X11_changed ml_GP_150 ini_GP nd_X11_changed ⟨by decide, by decide⟩ (Nat.le_of_ble_eq_true rfl) (fun r17 h18 => ?_)
            refine S_iload (kk := 0) g dX11_rewire_110 rfl ?_
            exact S_ireturn g dX11_rewire_112 rfl
          · refine S_bipush g dX11_rewire_68 ⟨by decide, by decide⟩ rfl ?_
            exact S_ireturn g dX11_rewire_70 rfl
        · refine S_iconst g dX11_rewire_50 ⟨by decide, by decide⟩ ?_
          exact S_ireturn g dX11_rewire_51 rfl

def XX11_see (x0 : Nat) (x1 : Int) (x2 : Int) (h : Hp) : OR :=
  inb x1 6 (nm (h ((x0 + 1) + 3) x1.toNat) (fun v1 => inb x1 6 (hm (wr h ((x0 + 1) + 3) x1.toNat x2) (fun h2 => cal (XX11_changed x0 h2) (fun r3 h4 => some (v1, h4))))))
theorem sX11_see {G : GG} {w : Wd} (hw : okX w) (x0 : Nat) (hx0 : isNt w x0) (x1 : Int) (x2 : Int) (h : Hp) : SC G w yX11_see (Cond.code yX11_see cX11_see 5 (Option.some Jvm.ClassFile.FieldType.int)) 3 0 [vP 16, vP x0, vI x1, vI x2] (XX11_see x0 x1 x2 h) h := by
  refine SC_of (own := "GatePatch") plain_GP rfl (Nat.le_of_ble_eq_true rfl) (fun Γ hG g => ?_)
  subst hG
  show Sim Γ w 0 _ h 0 [(0, vP 16), (1, vP x0), (2, vI x1), (3, vI x2)] []
  unfold XX11_see
  refine S_aload_n (kk := 1) g dX11_see_0 rfl rfl ?_
  refine S_getr g dX11_see_1 fl_GP_130 hx0.1 rfl hx0.2.1 ?_
  refine S_getr g dX11_see_4 fl_GP_188 hx0.2.2.2.2.2.2.1.1 rfl hx0.2.2.2.2.2.2.1.2.2.2.1 ?_
  refine S_iload_n (kk := 2) g dX11_see_7 rfl rfl ?_
  refine S_iaload g dX11_see_8 hx0.2.2.2.2.2.2.1.2.2.2.2.2.2.2.1 ?_
  refine S_nmI (fun v1 => ?_)
  refine S_istore g dX11_see_9 (by decide) rfl ?_
  refine S_aload_n (kk := 2) g dX11_see_11 rfl rfl ?_
  refine S_getr g dX11_see_12 fl_GP_130 hx0.1 rfl hx0.2.1 ?_
  refine S_getr g dX11_see_15 fl_GP_188 hx0.2.2.2.2.2.2.1.1 rfl hx0.2.2.2.2.2.2.1.2.2.2.1 ?_
  refine S_iload_n (kk := 3) g dX11_see_18 rfl rfl ?_
  refine S_iload_n (kk := 4) g dX11_see_19 rfl rfl ?_
  refine S_iastore g dX11_see_20 hx0.2.2.2.2.2.2.1.2.2.2.2.2.2.2.1 (fun h2 => ?_)
  refine S_aload_n (kk := 1) g dX11_see_21 rfl rfl ?_
  refine S_aload_n (kk := 2) g dX11_see_22 rfl rfl ?_
  refine S_callVv (As := [vP x0]) g dX11_see_23 (sX11_changed hw x0 hx0 _) rfl (at_16 hw) rfl im_X11_changed se_X11_changed cw_X11_changed ml_GP_150 ini_GP nd_X11_changed ⟨by decide, by decide⟩ (Nat.le_of_ble_eq_true rfl) (fun r3 h4 => ?_)
  refine S_iload (kk := 0) g dX11_see_26 rfl ?_
  exact S_ireturn g dX11_see_28 rfl

def XX11_out (x0 : Int) (x1 : Int) (x2 : Int) (h : Hp) : OR :=
  cal (XX11_netOf x0 h) (fun r1 h2 => if (r1.toNat) = 0 then some ((-1), h2) else asr (r1.toNat = 17 ∨ r1.toNat = 27) (if x1 < 0 then some ((-1), h2) else if (h2 (r1.toNat + 1) 2) ≤ x1 then some ((-1), h2) else cal (XX8_isWire (r1.toNat + 1) x2 h2) (fun r4 h5 => if r4 = 0 then some ((-1), h5) else cal (XX11_see (r1.toNat) x1 x2 h5) (fun r6 h7 => some (r6, h7)))))
theorem sX11_out {G : GG} {w : Wd} (hw : okX w) (x0 : Int) (x1 : Int) (x2 : Int) (h : Hp) : SC G w yX11_out (Cond.code yX11_out cX11_out 5 (Option.some Jvm.ClassFile.FieldType.int)) 4 0 [vP 16, vI x0, vI x1, vI x2] (XX11_out x0 x1 x2 h) h := by
  refine SC_of (own := "GatePatch") plain_GP rfl (Nat.le_of_ble_eq_true rfl) (fun Γ hG g => ?_)
  subst hG
  show Sim Γ w 0 _ h 0 [(0, vP 16), (1, vI x0), (2, vI x1), (3, vI x2)] []
  unfold XX11_out
  refine S_aload_n (kk := 0) g dX11_out_0 rfl rfl ?_
  refine S_iload_n (kk := 1) g dX11_out_1 rfl rfl ?_
  refine S_callVp (As := [vI x0]) g dX11_out_2 (sX11_netOf hw _ _) rfl (at_16 hw) rfl im_X11_netOf se_X11_netOf cw_X11_netOf ml_GP_126 ini_GP nd_X11_netOf ⟨by decide, by decide⟩ (Nat.le_of_ble_eq_true rfl) (fun r1 h2 => ?_)
  refine S_astore g dX11_out_5 (by decide) rfl ?_
  refine S_aload (kk := 0) g dX11_out_7 rfl ?_
  refine S_ifnull (tgt := 40) g dX11_out_9 (by decide) ?_ ?_
  · refine S_iconst g dX11_out_40 ⟨by decide, by decide⟩ ?_
    exact S_ireturn g dX11_out_41 rfl
  · refine S_asr (fun q3 => ?_)
    refine S_iload_n (kk := 3) g dX11_out_12 rfl rfl ?_
    refine S_if_lt (tgt := 40) g dX11_out_13 (by decide) ?_ ?_
    · refine S_iconst g dX11_out_40 ⟨by decide, by decide⟩ ?_
      exact S_ireturn g dX11_out_41 rfl
    · refine S_iload_n (kk := 3) g dX11_out_16 rfl rfl ?_
      refine S_aload (kk := 0) g dX11_out_17 rfl ?_
      refine S_getr g dX11_out_19 fl_GP_130 (nt_of hw q3).1 rfl (nt_of hw q3).2.1 ?_
      refine S_geti g dX11_out_22 fl_GP_178 (nt_of hw q3).2.2.2.2.2.2.1.1 (Or.inl rfl) ?_
      refine S_icmp_ge (tgt := 40) g dX11_out_25 (by decide) ?_ ?_
      · refine S_iconst g dX11_out_40 ⟨by decide, by decide⟩ ?_
        exact S_ireturn g dX11_out_41 rfl
      · refine S_aload (kk := 0) g dX11_out_28 rfl ?_
        refine S_getr g dX11_out_30 fl_GP_130 (nt_of hw q3).1 rfl (nt_of hw q3).2.1 ?_
        refine S_iload_n (kk := 4) g dX11_out_33 rfl rfl ?_
        refine S_callVi (As := [vI x2]) g dX11_out_34 (sX8_isWire hw (r1.toNat + 1) (nt_of hw q3).2.2.2.2.2.2.1 _ _) rfl (nt_of hw q3).2.2.2.2.2.2.1.1 rfl im_X8_isWire se_X8_isWire cw_X8_isWire ml_GP_158 ini_Plan nd_X8_isWire ⟨by decide, by decide⟩ (Nat.le_of_ble_eq_true rfl) (fun r4 h5 => ?_)
        refine S_if_ne (tgt := 42) g dX11_out_37 (by decide) ?_ ?_
        · refine S_aload_n (kk := 1) g dX11_out_42 rfl rfl ?_
          refine S_aload (kk := 0) g dX11_out_43 rfl ?_
          refine S_iload_n (kk := 3) g dX11_out_45 rfl rfl ?_
          refine S_iload_n (kk := 4) g dX11_out_46 rfl rfl ?_
          refine S_callVi (As := [vP (r1.toNat), vI x1, vI x2]) g dX11_out_47 (sX11_see hw (r1.toNat) (nt_of hw q3) _ _ _) rfl (at_16 hw) rfl im_X11_see se_X11_see cw_X11_see ml_GP_181 ini_GP nd_X11_see ⟨by decide, by decide⟩ (Nat.le_of_ble_eq_true rfl) (fun r6 h7 => ?_)
          exact S_ireturn g dX11_out_50 rfl
        · refine S_iconst g dX11_out_40 ⟨by decide, by decide⟩ ?_
          exact S_ireturn g dX11_out_41 rfl

def XX11_next (x0 : Int) (x1 : Int) (x2 : Int) (h : Hp) : OR :=
  cal (XX11_netOf x0 h) (fun r1 h2 => if (r1.toNat) = 0 then some ((-1), h2) else asr (r1.toNat = 17 ∨ r1.toNat = 27) (if x1 < 0 then some ((-1), h2) else if (h2 (r1.toNat + 1) 1) ≤ x1 then some ((-1), h2) else cal (XX8_isWire (r1.toNat + 1) x2 h2) (fun r4 h5 => if r4 = 0 then some ((-1), h5) else chk ((h5 (r1.toNat + 1) 2) + x1) (cal (XX11_see (r1.toNat) ((h5 (r1.toNat + 1) 2) + x1) x2 h5) (fun r6 h7 => some (r6, h7))))))
theorem sX11_next {G : GG} {w : Wd} (hw : okX w) (x0 : Int) (x1 : Int) (x2 : Int) (h : Hp) : SC G w yX11_next (Cond.code yX11_next cX11_next 5 (Option.some Jvm.ClassFile.FieldType.int)) 4 0 [vP 16, vI x0, vI x1, vI x2] (XX11_next x0 x1 x2 h) h := by
  refine SC_of (own := "GatePatch") plain_GP rfl (Nat.le_of_ble_eq_true rfl) (fun Γ hG g => ?_)
  subst hG
  show Sim Γ w 0 _ h 0 [(0, vP 16), (1, vI x0), (2, vI x1), (3, vI x2)] []
  unfold XX11_next
  refine S_aload_n (kk := 0) g dX11_next_0 rfl rfl ?_
  refine S_iload_n (kk := 1) g dX11_next_1 rfl rfl ?_
  refine S_callVp (As := [vI x0]) g dX11_next_2 (sX11_netOf hw _ _) rfl (at_16 hw) rfl im_X11_netOf se_X11_netOf cw_X11_netOf ml_GP_126 ini_GP nd_X11_netOf ⟨by decide, by decide⟩ (Nat.le_of_ble_eq_true rfl) (fun r1 h2 => ?_)
  refine S_astore g dX11_next_5 (by decide) rfl ?_
  refine S_aload (kk := 0) g dX11_next_7 rfl ?_
  refine S_ifnull (tgt := 40) g dX11_next_9 (by decide) ?_ ?_
  · refine S_iconst g dX11_next_40 ⟨by decide, by decide⟩ ?_
    exact S_ireturn g dX11_next_41 rfl
  · refine S_asr (fun q3 => ?_)
    refine S_iload_n (kk := 3) g dX11_next_12 rfl rfl ?_
    refine S_if_lt (tgt := 40) g dX11_next_13 (by decide) ?_ ?_
    · refine S_iconst g dX11_next_40 ⟨by decide, by decide⟩ ?_
      exact S_ireturn g dX11_next_41 rfl
    · refine S_iload_n (kk := 3) g dX11_next_16 rfl rfl ?_
      refine S_aload (kk := 0) g dX11_next_17 rfl ?_
      refine S_getr g dX11_next_19 fl_GP_130 (nt_of hw q3).1 rfl (nt_of hw q3).2.1 ?_
      refine S_geti g dX11_next_22 fl_GP_185 (nt_of hw q3).2.2.2.2.2.2.1.1 (Or.inl rfl) ?_
      refine S_icmp_ge (tgt := 40) g dX11_next_25 (by decide) ?_ ?_
      · refine S_iconst g dX11_next_40 ⟨by decide, by decide⟩ ?_
        exact S_ireturn g dX11_next_41 rfl
      · refine S_aload (kk := 0) g dX11_next_28 rfl ?_
        refine S_getr g dX11_next_30 fl_GP_130 (nt_of hw q3).1 rfl (nt_of hw q3).2.1 ?_
        refine S_iload_n (kk := 4) g dX11_next_33 rfl rfl ?_
        refine S_callVi (As := [vI x2]) g dX11_next_34 (sX8_isWire hw (r1.toNat + 1) (nt_of hw q3).2.2.2.2.2.2.1 _ _) rfl (nt_of hw q3).2.2.2.2.2.2.1.1 rfl im_X8_isWire se_X8_isWire cw_X8_isWire ml_GP_158 ini_Plan nd_X8_isWire ⟨by decide, by decide⟩ (Nat.le_of_ble_eq_true rfl) (fun r4 h5 => ?_)
        refine S_if_ne (tgt := 42) g dX11_next_37 (by decide) ?_ ?_
        · refine S_aload_n (kk := 1) g dX11_next_42 rfl rfl ?_
          refine S_aload (kk := 0) g dX11_next_43 rfl ?_
          refine S_aload (kk := 0) g dX11_next_45 rfl ?_
          refine S_getr g dX11_next_47 fl_GP_130 (nt_of hw q3).1 rfl (nt_of hw q3).2.1 ?_
          refine S_geti g dX11_next_50 fl_GP_178 (nt_of hw q3).2.2.2.2.2.2.1.1 (Or.inl rfl) ?_
          refine S_iload_n (kk := 3) g dX11_next_53 rfl rfl ?_
          refine S_iadd g dX11_next_54 ?_
          refine S_iload_n (kk := 4) g dX11_next_55 rfl rfl ?_
          refine S_callVi (As := [vP (r1.toNat), vI ((h5 (r1.toNat + 1) 2) + x1), vI x2]) g dX11_next_56 (sX11_see hw (r1.toNat) (nt_of hw q3) _ _ _) rfl (at_16 hw) rfl im_X11_see se_X11_see cw_X11_see ml_GP_181 ini_GP nd_X11_see ⟨by decide, by decide⟩ (Nat.le_of_ble_eq_true rfl) (fun r6 h7 => ?_)
          exact S_ireturn g dX11_next_59 rfl
        · refine S_iconst g dX11_next_40 ⟨by decide, by decide⟩ ?_
          exact S_ireturn g dX11_next_41 rfl

def XX11_free (x0 : Int) (h : Hp) : OR :=
  cal (XX0_has x0 h) (fun r1 h2 => if r1 = 0 then some ((-1), h2) else cal (XX7_drop h2) (fun r3 h4 => cal (XX0_flip x0 h4) (fun r5 h6 => some (r5, h6))))
theorem sX11_free {G : GG} {w : Wd} (hw : okX w) (x0 : Int) (h : Hp) : SC G w yX11_free (Cond.code yX11_free cX11_free 2 (Option.some Jvm.ClassFile.FieldType.int)) 3 0 [vP 16, vI x0] (XX11_free x0 h) h := by
  refine SC_of (own := "GatePatch") plain_GP rfl (Nat.le_of_ble_eq_true rfl) (fun Γ hG g => ?_)
  subst hG
  show Sim Γ w 0 _ h 0 [(0, vP 16), (1, vI x0)] []
  unfold XX11_free
  refine S_aload_n (kk := 0) g dX11_free_0 rfl rfl ?_
  refine S_getr g dX11_free_1 fl_GP_24 (at_16 hw) rfl (rc_16_2 hw) ?_
  refine S_iload_n (kk := 1) g dX11_free_4 rfl rfl ?_
  refine S_callVi (As := [vI x0]) g dX11_free_5 (sX0_has hw _ _) rfl (at_37 hw) rfl im_X0_has se_X0_has cw_X0_has ml_GP_191 ini_Cases nd_X0_has ⟨by decide, by decide⟩ (Nat.le_of_ble_eq_true rfl) (fun r1 h2 => ?_)
  refine S_if_ne (tgt := 13) g dX11_free_8 (by decide) ?_ ?_
  · refine S_aload_n (kk := 0) g dX11_free_13 rfl rfl ?_
    refine S_getr g dX11_free_14 fl_GP_56 (at_16 hw) rfl (rc_16_6 hw) ?_
    refine S_callVv (As := []) g dX11_free_17 (sX7_drop hw.1  _) rfl (at_56 hw) rfl im_X7_drop se_X7_drop cw_X7_drop ml_GP_103 ini_Patch nd_X7_drop ⟨by decide, by decide⟩ (Nat.le_of_ble_eq_true rfl) (fun r3 h4 => ?_)
    refine S_aload_n (kk := 0) g dX11_free_20 rfl rfl ?_
    refine S_getr g dX11_free_21 fl_GP_24 (at_16 hw) rfl (rc_16_2 hw) ?_
    refine S_iload_n (kk := 1) g dX11_free_24 rfl rfl ?_
    refine S_callVi (As := [vI x0]) g dX11_free_25 (sX0_flip hw _ _) rfl (at_37 hw) rfl im_X0_flip se_X0_flip cw_X0_flip ml_GP_194 ini_Cases nd_X0_flip ⟨by decide, by decide⟩ (Nat.le_of_ble_eq_true rfl) (fun r5 h6 => ?_)
    exact S_ireturn g dX11_free_28 rfl
  · refine S_iconst g dX11_free_11 ⟨by decide, by decide⟩ ?_
    exact S_ireturn g dX11_free_12 rfl

def XX11_value (x0 : Int) (x1 : Int) (x2 : Int) (h : Hp) : OR :=
  cal (XX11_netOf x0 h) (fun r1 h2 => if (r1.toNat) = 0 then some ((-1), h2) else asr (r1.toNat = 17 ∨ r1.toNat = 27) (cal (XX8_isWire (r1.toNat + 1) x1 h2) (fun r4 h5 => if r4 = 0 then some ((-1), h5) else cal (XX0_has x2 h5) (fun r6 h7 => if r6 = 0 then some ((-1), h7) else cal (XX6_refresh (r1.toNat) h7) (fun r8 h9 => chk (4 * x1) (chk (x2.tdiv 64) (chk ((4 * x1) + (x2.tdiv 64)) (inb ((4 * x1) + (x2.tdiv 64)) 192 (chk (x2 - x2.tdiv 64 * 64) (some ((al2i (jand (jshr (h9 (r1.toNat + 8) ((4 * x1) + (x2.tdiv 64)).toNat) (x2 - x2.tdiv 64 * 64)) 1)), h9)))))))))))
theorem sX11_value {G : GG} {w : Wd} (hw : okX w) (x0 : Int) (x1 : Int) (x2 : Int) (h : Hp) : SC G w yX11_value (Cond.code yX11_value cX11_value 5 (Option.some Jvm.ClassFile.FieldType.int)) 4 0 [vP 16, vI x0, vI x1, vI x2] (XX11_value x0 x1 x2 h) h := by
  refine SC_of (own := "GatePatch") plain_GP rfl (Nat.le_of_ble_eq_true rfl) (fun Γ hG g => ?_)
  subst hG
  show Sim Γ w 0 _ h 0 [(0, vP 16), (1, vI x0), (2, vI x1), (3, vI x2)] []
  unfold XX11_value
  refine S_aload_n (kk := 0) g dX11_value_0 rfl rfl ?_
  refine S_iload_n (kk := 1) g dX11_value_1 rfl rfl ?_
  refine S_callVp (As := [vI x0]) g dX11_value_2 (sX11_netOf hw _ _) rfl (at_16 hw) rfl im_X11_netOf se_X11_netOf cw_X11_netOf ml_GP_126 ini_GP nd_X11_netOf ⟨by decide, by decide⟩ (Nat.le_of_ble_eq_true rfl) (fun r1 h2 => ?_)
  refine S_astore g dX11_value_5 (by decide) rfl ?_
  refine S_aload (kk := 0) g dX11_value_7 rfl ?_
  refine S_ifnull (tgt := 35) g dX11_value_9 (by decide) ?_ ?_
  · refine S_iconst g dX11_value_35 ⟨by decide, by decide⟩ ?_
    exact S_ireturn g dX11_value_36 rfl
  · refine S_asr (fun q3 => ?_)
    refine S_aload (kk := 0) g dX11_value_12 rfl ?_
    refine S_getr g dX11_value_14 fl_GP_130 (nt_of hw q3).1 rfl (nt_of hw q3).2.1 ?_
    refine S_iload_n (kk := 3) g dX11_value_17 rfl rfl ?_
    refine S_callVi (As := [vI x1]) g dX11_value_18 (sX8_isWire hw (r1.toNat + 1) (nt_of hw q3).2.2.2.2.2.2.1 _ _) rfl (nt_of hw q3).2.2.2.2.2.2.1.1 rfl im_X8_isWire se_X8_isWire cw_X8_isWire ml_GP_158 ini_Plan nd_X8_isWire ⟨by decide, by decide⟩ (Nat.le_of_ble_eq_true rfl) (fun r4 h5 => ?_)
    refine S_if_eq (tgt := 35) g dX11_value_21 (by decide) ?_ ?_
    · refine S_iconst g dX11_value_35 ⟨by decide, by decide⟩ ?_
      exact S_ireturn g dX11_value_36 rfl
    · refine S_aload_n (kk := 1) g dX11_value_24 rfl rfl ?_
      refine S_getr g dX11_value_25 fl_GP_24 (at_16 hw) rfl (rc_16_2 hw) ?_
      refine S_iload_n (kk := 4) g dX11_value_28 rfl rfl ?_
      refine S_callVi (As := [vI x2]) g dX11_value_29 (sX0_has hw _ _) rfl (at_37 hw) rfl im_X0_has se_X0_has cw_X0_has ml_GP_191 ini_Cases nd_X0_has ⟨by decide, by decide⟩ (Nat.le_of_ble_eq_true rfl) (fun r6 h7 => ?_)
      refine S_if_ne (tgt := 37) g dX11_value_32 (by decide) ?_ ?_
      · refine S_aload (kk := 0) g dX11_value_37 rfl ?_
        refine S_callVv (As := []) g dX11_value_39 (sX6_refresh hw (r1.toNat) (nt_of hw q3) _) rfl (nt_of hw q3).1 rfl im_X6_refresh se_X6_refresh cw_X6_refresh ml_GP_169 ini_Net nd_X6_refresh ⟨by decide, by decide⟩ (Nat.le_of_ble_eq_true rfl) (fun r8 h9 => ?_)
        refine S_aload (kk := 0) g dX11_value_42 rfl ?_
        refine S_getr g dX11_value_44 fl_GP_198 (nt_of hw q3).1 rfl (nt_of hw q3).2.2.2.2.1 ?_
        refine S_iconst g dX11_value_47 ⟨by decide, by decide⟩ ?_
        refine S_iload_n (kk := 3) g dX11_value_48 rfl rfl ?_
        refine S_imul g dX11_value_49 ?_
        refine S_iload_n (kk := 4) g dX11_value_50 rfl rfl ?_
        refine S_bipush g dX11_value_51 ⟨by decide, by decide⟩ rfl ?_
        refine S_idiv g dX11_value_53 (by decide) ?_
        refine S_iadd g dX11_value_54 ?_
        refine S_laload g dX11_value_55 (nt_of hw q3).2.2.2.2.2.2.2.2.2.1 ?_
        refine S_iload_n (kk := 4) g dX11_value_56 rfl rfl ?_
        refine S_bipush g dX11_value_57 ⟨by decide, by decide⟩ rfl ?_
        refine S_irem g dX11_value_59 (by decide) ?_
        refine S_lshr g dX11_value_60 ?_
        refine S_lconst (x := 1) g dX11_value_61 ⟨by decide, by decide⟩ rfl ?_
        refine S_land g dX11_value_62 ?_
        refine S_l2i g dX11_value_63 ?_
        exact S_ireturn g dX11_value_64 rfl
      · refine S_iconst g dX11_value_35 ⟨by decide, by decide⟩ ?_
        exact S_ireturn g dX11_value_36 rfl

def XX11_hangs (x0 : Int) (x1 : Int) (x2 : Int) (h : Hp) : OR :=
  cal (XX11_netOf x0 h) (fun r1 h2 => if (r1.toNat) = 0 then some ((-1), h2) else asr (r1.toNat = 17 ∨ r1.toNat = 27) (cal (XX8_isWire (r1.toNat + 1) x1 h2) (fun r4 h5 => if r4 = 0 then some ((-1), h5) else cal (XX8_isWire (r1.toNat + 1) x2 h5) (fun r6 h7 => if r6 = 0 then some ((-1), h7) else cal (XX6_refresh (r1.toNat) h7) (fun r8 h9 => cal (XX6_hangsOn (r1.toNat) x1 x2 h9) (fun r10 h11 => if r10 = 0 then some (0, h11) else some (1, h11)))))))
theorem sX11_hangs {G : GG} {w : Wd} (hw : okX w) (x0 : Int) (x1 : Int) (x2 : Int) (h : Hp) : SC G w yX11_hangs (Cond.code yX11_hangs cX11_hangs 5 (Option.some Jvm.ClassFile.FieldType.int)) 4 0 [vP 16, vI x0, vI x1, vI x2] (XX11_hangs x0 x1 x2 h) h := by
  refine SC_of (own := "GatePatch") plain_GP rfl (Nat.le_of_ble_eq_true rfl) (fun Γ hG g => ?_)
  subst hG
  show Sim Γ w 0 _ h 0 [(0, vP 16), (1, vI x0), (2, vI x1), (3, vI x2)] []
  unfold XX11_hangs
  refine S_aload_n (kk := 0) g dX11_hangs_0 rfl rfl ?_
  refine S_iload_n (kk := 1) g dX11_hangs_1 rfl rfl ?_
  refine S_callVp (As := [vI x0]) g dX11_hangs_2 (sX11_netOf hw _ _) rfl (at_16 hw) rfl im_X11_netOf se_X11_netOf cw_X11_netOf ml_GP_126 ini_GP nd_X11_netOf ⟨by decide, by decide⟩ (Nat.le_of_ble_eq_true rfl) (fun r1 h2 => ?_)
  refine S_astore g dX11_hangs_5 (by decide) rfl ?_
  refine S_aload (kk := 0) g dX11_hangs_7 rfl ?_
  refine S_ifnull (tgt := 36) g dX11_hangs_9 (by decide) ?_ ?_
  · refine S_iconst g dX11_hangs_36 ⟨by decide, by decide⟩ ?_
    exact S_ireturn g dX11_hangs_37 rfl
  · refine S_asr (fun q3 => ?_)
    refine S_aload (kk := 0) g dX11_hangs_12 rfl ?_
    refine S_getr g dX11_hangs_14 fl_GP_130 (nt_of hw q3).1 rfl (nt_of hw q3).2.1 ?_
    refine S_iload_n (kk := 3) g dX11_hangs_17 rfl rfl ?_
    refine S_callVi (As := [vI x1]) g dX11_hangs_18 (sX8_isWire hw (r1.toNat + 1) (nt_of hw q3).2.2.2.2.2.2.1 _ _) rfl (nt_of hw q3).2.2.2.2.2.2.1.1 rfl im_X8_isWire se_X8_isWire cw_X8_isWire ml_GP_158 ini_Plan nd_X8_isWire ⟨by decide, by decide⟩ (Nat.le_of_ble_eq_true rfl) (fun r4 h5 => ?_)
    refine S_if_eq (tgt := 36) g dX11_hangs_21 (by decide) ?_ ?_
    · refine S_iconst g dX11_hangs_36 ⟨by decide, by decide⟩ ?_
      exact S_ireturn g dX11_hangs_37 rfl
    · refine S_aload (kk := 0) g dX11_hangs_24 rfl ?_
      refine S_getr g dX11_hangs_26 fl_GP_130 (nt_of hw q3).1 rfl (nt_of hw q3).2.1 ?_
      refine S_iload_n (kk := 4) g dX11_hangs_29 rfl rfl ?_
      refine S_callVi (As := [vI x2]) g dX11_hangs_30 (sX8_isWire hw (r1.toNat + 1) (nt_of hw q3).2.2.2.2.2.2.1 _ _) rfl (nt_of hw q3).2.2.2.2.2.2.1.1 rfl im_X8_isWire se_X8_isWire cw_X8_isWire ml_GP_158 ini_Plan nd_X8_isWire ⟨by decide, by decide⟩ (Nat.le_of_ble_eq_true rfl) (fun r6 h7 => ?_)
      refine S_if_ne (tgt := 38) g dX11_hangs_33 (by decide) ?_ ?_
      · refine S_aload (kk := 0) g dX11_hangs_38 rfl ?_
        refine S_callVv (As := []) g dX11_hangs_40 (sX6_refresh hw (r1.toNat) (nt_of hw q3) _) rfl (nt_of hw q3).1 rfl im_X6_refresh se_X6_refresh cw_X6_refresh ml_GP_169 ini_Net nd_X6_refresh ⟨by decide, by decide⟩ (Nat.le_of_ble_eq_true rfl) (fun r8 h9 => ?_)
        refine S_aload (kk := 0) g dX11_hangs_43 rfl ?_
        refine S_iload_n (kk := 3) g dX11_hangs_45 rfl rfl ?_
        refine S_iload_n (kk := 4) g dX11_hangs_46 rfl rfl ?_
        refine S_callVi (As := [vI x1, vI x2]) g dX11_hangs_47 (sX6_hangsOn hw (r1.toNat) (nt_of hw q3) _ _ _) rfl (nt_of hw q3).1 rfl im_X6_hangsOn se_X6_hangsOn cw_X6_hangsOn ml_GP_172 ini_Net nd_X6_hangsOn ⟨by decide, by decide⟩ (Nat.le_of_ble_eq_true rfl) (fun r10 h11 => ?_)
        refine S_if_eq (tgt := 57) g dX11_hangs_50 (by decide) ?_ ?_
        · refine S_iconst g dX11_hangs_57 ⟨by decide, by decide⟩ ?_
          exact S_ireturn g dX11_hangs_58 rfl
        · refine S_iconst g dX11_hangs_53 ⟨by decide, by decide⟩ ?_
          refine S_goto (tgt := 58) g dX11_hangs_54 (by decide) ?_
          exact S_ireturn g dX11_hangs_58 rfl
      · refine S_iconst g dX11_hangs_36 ⟨by decide, by decide⟩ ?_
        exact S_ireturn g dX11_hangs_37 rfl

def XX11_refreshBoth  (h : Hp) : OR :=
  cal (XX6_refresh 17 h) (fun r1 h2 => cal (XX6_refresh 27 h2) (fun r3 h4 => some (0, h4)))
theorem sX11_refreshBoth {G : GG} {w : Wd} (hw : okX w)  (h : Hp) : SC G w yX11_refreshBoth (Cond.code yX11_refreshBoth cX11_refreshBoth 1 (Option.none : Option Jvm.ClassFile.FieldType)) 4 3 [vP 16] (XX11_refreshBoth  h) h := by
  refine SC_of (own := "GatePatch") plain_GP rfl (Nat.le_of_ble_eq_true rfl) (fun Γ hG g => ?_)
  subst hG
  show Sim Γ w 3 _ h 0 [(0, vP 16)] []
  unfold XX11_refreshBoth
  refine S_aload_n (kk := 0) g dX11_refreshBoth_0 rfl rfl ?_
  refine S_getr g dX11_refreshBoth_1 fl_GP_14 (at_16 hw) rfl (rc_16_0 hw) ?_
  refine S_callVv (As := []) g dX11_refreshBoth_4 (sX6_refresh hw 17 (nt_17 hw) _) rfl (at_17 hw) rfl im_X6_refresh se_X6_refresh cw_X6_refresh ml_GP_169 ini_Net nd_X6_refresh ⟨by decide, by decide⟩ (Nat.le_of_ble_eq_true rfl) (fun r1 h2 => ?_)
  refine S_aload_n (kk := 0) g dX11_refreshBoth_7 rfl rfl ?_
  refine S_getr g dX11_refreshBoth_8 fl_GP_18 (at_16 hw) rfl (rc_16_1 hw) ?_
  refine S_callVv (As := []) g dX11_refreshBoth_11 (sX6_refresh hw 27 (nt_27 hw) _) rfl (at_27 hw) rfl im_X6_refresh se_X6_refresh cw_X6_refresh ml_GP_169 ini_Net nd_X6_refresh ⟨by decide, by decide⟩ (Nat.le_of_ble_eq_true rfl) (fun r3 h4 => ?_)
  exact S_return g dX11_refreshBoth_14 rfl

def XX11_differ  (h : Hp) : OR :=
  cal (XX11_refreshBoth h) (fun r1 h2 => cal (XX5_firstDifference h2) (fun r3 h4 => some (r3, h4)))
theorem sX11_differ {G : GG} {w : Wd} (hw : okX w)  (h : Hp) : SC G w yX11_differ (Cond.code yX11_differ cX11_differ 1 (Option.some Jvm.ClassFile.FieldType.int)) 5 0 [vP 16] (XX11_differ  h) h := by
  refine SC_of (own := "GatePatch") plain_GP rfl (Nat.le_of_ble_eq_true rfl) (fun Γ hG g => ?_)
  subst hG
  show Sim Γ w 0 _ h 0 [(0, vP 16)] []
  unfold XX11_differ
  refine S_aload_n (kk := 0) g dX11_differ_0 rfl rfl ?_
  refine S_callVv (As := []) g dX11_differ_1 (sX11_refreshBoth hw  _) rfl (at_16 hw) rfl im_X11_refreshBoth se_X11_refreshBoth cw_X11_refreshBoth ml_GP_218 ini_GP nd_X11_refreshBoth ⟨by decide, by decide⟩ (Nat.le_of_ble_eq_true rfl) (fun r1 h2 => ?_)
  refine S_aload_n (kk := 0) g dX11_differ_4 rfl rfl ?_
  refine S_getr g dX11_differ_5 fl_GP_33 (at_16 hw) rfl (rc_16_3 hw) ?_
  refine S_callVi (As := []) g dX11_differ_8 (sX5_firstDifference hw  _) rfl (at_40 hw) rfl im_X5_firstDifference se_X5_firstDifference cw_X5_firstDifference ml_GP_221 ini_Mender nd_X5_firstDifference ⟨by decide, by decide⟩ (Nat.le_of_ble_eq_true rfl) (fun r3 h4 => ?_)
  exact S_ireturn g dX11_differ_11 rfl

def XX11_enough (x0 : Int) (x1 : Int) (x2 : Int) (h : Hp) : OR :=
  cal (XX5_aim x0 x1 x2 h) (fun r1 h2 => if r1 = 0 then some ((-1), h2) else cal (XX11_refreshBoth h2) (fun r3 h4 => cal (XX5_firstUnmended h4) (fun r5 h6 => some (r5, h6))))
theorem sX11_enough {G : GG} {w : Wd} (hw : okX w) (x0 : Int) (x1 : Int) (x2 : Int) (h : Hp) : SC G w yX11_enough (Cond.code yX11_enough cX11_enough 4 (Option.some Jvm.ClassFile.FieldType.int)) 6 0 [vP 16, vI x0, vI x1, vI x2] (XX11_enough x0 x1 x2 h) h := by
  refine SC_of (own := "GatePatch") plain_GP rfl (Nat.le_of_ble_eq_true rfl) (fun Γ hG g => ?_)
  subst hG
  show Sim Γ w 0 _ h 0 [(0, vP 16), (1, vI x0), (2, vI x1), (3, vI x2)] []
  unfold XX11_enough
  refine S_aload_n (kk := 0) g dX11_enough_0 rfl rfl ?_
  refine S_getr g dX11_enough_1 fl_GP_33 (at_16 hw) rfl (rc_16_3 hw) ?_
  refine S_iload_n (kk := 1) g dX11_enough_4 rfl rfl ?_
  refine S_iload_n (kk := 2) g dX11_enough_5 rfl rfl ?_
  refine S_iload_n (kk := 3) g dX11_enough_6 rfl rfl ?_
  refine S_callVi (As := [vI x0, vI x1, vI x2]) g dX11_enough_7 (sX5_aim hw _ _ _ _) rfl (at_40 hw) rfl im_X5_aim se_X5_aim cw_X5_aim ml_GP_225 ini_Mender nd_X5_aim ⟨by decide, by decide⟩ (Nat.le_of_ble_eq_true rfl) (fun r1 h2 => ?_)
  refine S_if_ne (tgt := 15) g dX11_enough_10 (by decide) ?_ ?_
  · refine S_aload_n (kk := 0) g dX11_enough_15 rfl rfl ?_
    refine S_callVv (As := []) g dX11_enough_16 (sX11_refreshBoth hw  _) rfl (at_16 hw) rfl im_X11_refreshBoth se_X11_refreshBoth cw_X11_refreshBoth ml_GP_218 ini_GP nd_X11_refreshBoth ⟨by decide, by decide⟩ (Nat.le_of_ble_eq_true rfl) (fun r3 h4 => ?_)
    refine S_aload_n (kk := 0) g dX11_enough_19 rfl rfl ?_
    refine S_getr g dX11_enough_20 fl_GP_33 (at_16 hw) rfl (rc_16_3 hw) ?_
    refine S_callVi (As := []) g dX11_enough_23 (sX5_firstUnmended hw  _) rfl (at_40 hw) rfl im_X5_firstUnmended se_X5_firstUnmended cw_X5_firstUnmended ml_GP_229 ini_Mender nd_X5_firstUnmended ⟨by decide, by decide⟩ (Nat.le_of_ble_eq_true rfl) (fun r5 h6 => ?_)
    exact S_ireturn g dX11_enough_26 rfl
  · refine S_iconst g dX11_enough_13 ⟨by decide, by decide⟩ ?_
    exact S_ireturn g dX11_enough_14 rfl

def XX11_points_b43   (self43 : Int → Int → Hp → OR) (l1 l3 : Int) (h : Hp) : OR :=
  if l1 < l3 then some ((-4), h) else cal (XX5_search l3 h) (fun r7 h8 => if r7 = 0 then chk (l3 + 1) (self43 l1 (l3 + 1) h8) else acp 0 0 l3 3 3 (hm (cpy h8 41 (0 : Int).toNat 100 (0 : Int).toNat l3.toNat) (fun h9 => hm (wr h9 16 12 l3) (fun h10 => some (l3, h10)))))
def XX11_points_L43   (l1 l3 : Int) (h : Hp) : OR := lup2 (XX11_points_b43 ) FU l1 l3 h
def XX11_points (x0 : Int) (h : Hp) : OR :=
  if x0 < 1 then some ((-1), h) else if x0 ≤ 3 then cal (XX11_refreshBoth h) (fun r1 h2 => cal (XX5_firstDifference h2) (fun r3 h4 => if r3 = 1000 then some (0, h4) else cal (XX5_startSearch r3 h4) (fun r5 h6 => XX11_points_L43 x0 1 h6))) else some ((-1), h)
theorem sX11_points_L43 {Γ : Cx} {w : Wd} (hw : okX w) (g : Gd Γ cX11_points 4 "GatePatch" (Option.some Jvm.ClassFile.FieldType.int) (rmd 8))   : ∀ (l1 l3 : Int) (h : Hp), Sim Γ w 0 (XX11_points_L43  l1 l3 h) h 43 [(0, vP 16), (1, vI l1), (3, vI l3)] [] := by
  refine S_lup2 (fun l1 l3 => [(0, vP 16), (1, vI l1), (3, vI l3)]) (fun self43 hs43 l1 l3 h => ?_) FU
  unfold XX11_points_b43
  refine S_iload_n (kk := 2) g dX11_points_43 rfl rfl ?_
  refine S_iload_n (kk := 1) g dX11_points_44 rfl rfl ?_
  refine S_icmp_gt (tgt := 89) g dX11_points_45 (by decide) ?_ ?_
  · refine S_bipush g dX11_points_89 ⟨by decide, by decide⟩ rfl ?_
    exact S_ireturn g dX11_points_91 rfl
  · refine S_aload_n (kk := 0) g dX11_points_48 rfl rfl ?_
    refine S_getr g dX11_points_49 fl_GP_33 (at_16 hw) rfl (rc_16_3 hw) ?_
    refine S_iload_n (kk := 2) g dX11_points_52 rfl rfl ?_
    refine S_callVi (As := [vI l3]) g dX11_points_53 (sX5_search hw _ _) rfl (at_40 hw) rfl im_X5_search se_X5_search cw_X5_search ml_GP_235 ini_Mender nd_X5_search ⟨by decide, by decide⟩ (Nat.le_of_ble_eq_true rfl) (fun r7 h8 => ?_)
    refine S_if_eq (tgt := 83) g dX11_points_56 (by decide) ?_ ?_
    · refine S_iinc (kk := 2) g dX11_points_83 rfl (by decide) rfl ?_
      refine S_goto (tgt := 43) g dX11_points_86 (by decide) ?_
      refine S_sub g [1, 2, 0] rfl ?_
      exact hs43 _ _ _
    · refine S_aload_n (kk := 0) g dX11_points_59 rfl rfl ?_
      refine S_getr g dX11_points_60 fl_GP_33 (at_16 hw) rfl (rc_16_3 hw) ?_
      refine S_getr g dX11_points_63 fl_GP_238 (at_40 hw) rfl (rc_40_3 hw) ?_
      refine S_iconst g dX11_points_66 ⟨by decide, by decide⟩ ?_
      refine S_aload_n (kk := 0) g dX11_points_67 rfl rfl ?_
      refine S_getr g dX11_points_68 fl_GP_84 (at_16 hw) rfl (rc_16_11 hw) ?_
      refine S_iconst g dX11_points_71 ⟨by decide, by decide⟩ ?_
      refine S_iload_n (kk := 2) g dX11_points_72 rfl rfl ?_
      refine S_copyi g dX11_points_73 ml_GP_241 acp_nat acp_st ini_Sys (at_41 hw) (at_100 hw) (by decide) (by decide) (fun h9 => ?_)
      refine S_aload_n (kk := 0) g dX11_points_76 rfl rfl ?_
      refine S_iload_n (kk := 2) g dX11_points_77 rfl rfl ?_
      refine S_puti g dX11_points_78 fp_GP_114 (at_16 hw) rfl (fun h10 => ?_)
      refine S_iload_n (kk := 2) g dX11_points_81 rfl rfl ?_
      exact S_ireturn g dX11_points_82 rfl

theorem sX11_points {G : GG} {w : Wd} (hw : okX w) (x0 : Int) (h : Hp) : SC G w yX11_points (Cond.code yX11_points cX11_points 4 (Option.some Jvm.ClassFile.FieldType.int)) 8 0 [vP 16, vI x0] (XX11_points x0 h) h := by
  refine SC_of (own := "GatePatch") plain_GP rfl (Nat.le_of_ble_eq_true rfl) (fun Γ hG g => ?_)
  subst hG
  show Sim Γ w 0 _ h 0 [(0, vP 16), (1, vI x0)] []
  unfold XX11_points
  refine S_iload_n (kk := 1) g dX11_points_0 rfl rfl ?_
  refine S_iconst g dX11_points_1 ⟨by decide, by decide⟩ ?_
  refine S_icmp_lt (tgt := 10) g dX11_points_2 (by decide) ?_ ?_
  · refine S_iconst g dX11_points_10 ⟨by decide, by decide⟩ ?_
    exact S_ireturn g dX11_points_11 rfl
  · refine S_iload_n (kk := 1) g dX11_points_5 rfl rfl ?_
    refine S_iconst g dX11_points_6 ⟨by decide, by decide⟩ ?_
    refine S_icmp_le (tgt := 12) g dX11_points_7 (by decide) ?_ ?_
    · refine S_aload_n (kk := 0) g dX11_points_12 rfl rfl ?_
      refine S_callVv (As := []) g dX11_points_13 (sX11_refreshBoth hw  _) rfl (at_16 hw) rfl im_X11_refreshBoth se_X11_refreshBoth cw_X11_refreshBoth ml_GP_218 ini_GP nd_X11_refreshBoth ⟨by decide, by decide⟩ (Nat.le_of_ble_eq_true rfl) (fun r1 h2 => ?_)
      refine S_aload_n (kk := 0) g dX11_points_16 rfl rfl ?_
      refine S_getr g dX11_points_17 fl_GP_33 (at_16 hw) rfl (rc_16_3 hw) ?_
      refine S_callVi (As := []) g dX11_points_20 (sX5_firstDifference hw  _) rfl (at_40 hw) rfl im_X5_firstDifference se_X5_firstDifference cw_X5_firstDifference ml_GP_221 ini_Mender nd_X5_firstDifference ⟨by decide, by decide⟩ (Nat.le_of_ble_eq_true rfl) (fun r3 h4 => ?_)
      refine S_istore_n g dX11_points_23 rfl (by decide) rfl ?_
      refine S_iload_n (kk := 0) g dX11_points_24 rfl rfl ?_
      refine S_sipush g dX11_points_25 ⟨by decide, by decide⟩ rfl ?_
      refine S_icmp_ne (tgt := 33) g dX11_points_28 (by decide) ?_ ?_
      · refine S_aload_n (kk := 1) g dX11_points_33 rfl rfl ?_
        refine S_getr g dX11_points_34 fl_GP_33 (at_16 hw) rfl (rc_16_3 hw) ?_
        refine S_iload_n (kk := 0) g dX11_points_37 rfl rfl ?_
        refine S_callVv (As := [vI r3]) g dX11_points_38 (sX5_startSearch hw _ _) rfl (at_40 hw) rfl im_X5_startSearch se_X5_startSearch cw_X5_startSearch ml_GP_232 ini_Mender nd_X5_startSearch ⟨by decide, by decide⟩ (Nat.le_of_ble_eq_true rfl) (fun r5 h6 => ?_)
        refine S_iconst g dX11_points_41 ⟨by decide, by decide⟩ ?_
        refine S_istore_n g dX11_points_42 rfl (by decide) rfl ?_
        refine S_sub g [2, 3, 0] rfl ?_
        exact sX11_points_L43 hw g _ _ _
      · refine S_iconst g dX11_points_31 ⟨by decide, by decide⟩ ?_
        exact S_ireturn g dX11_points_32 rfl
    · refine S_iconst g dX11_points_10 ⟨by decide, by decide⟩ ?_
      exact S_ireturn g dX11_points_11 rfl

def XX11_point_p12   (h : Hp) : OR :=
  some ((-1), h)
def XX11_point (x0 : Int) (h : Hp) : OR :=
  if x0 < 0 then XX11_point_p12 h else if x0 < (h 16 12) then inb x0 3 (some ((h 100 x0.toNat), h)) else XX11_point_p12 h
theorem sX11_point_p12 {Γ : Cx} {w : Wd} (hw : okX w) (g : Gd Γ cX11_point 2 "GatePatch" (Option.some Jvm.ClassFile.FieldType.int) (rmd 1))   (h : Hp) : Sim Γ w 0 (XX11_point_p12    h) h 12 [] [] := by
  unfold XX11_point_p12
  refine S_iconst g dX11_point_12 ⟨by decide, by decide⟩ ?_
  refine S_goto (tgt := 22) g dX11_point_13 (by decide) ?_
  exact S_ireturn g dX11_point_22 rfl

theorem sX11_point {G : GG} {w : Wd} (hw : okX w) (x0 : Int) (h : Hp) : SC G w yX11_point (Cond.code yX11_point cX11_point 2 (Option.some Jvm.ClassFile.FieldType.int)) 1 0 [vP 16, vI x0] (XX11_point x0 h) h := by
  refine SC_of (own := "GatePatch") plain_GP rfl (Nat.le_of_ble_eq_true rfl) (fun Γ hG g => ?_)
  subst hG
  show Sim Γ w 0 _ h 0 [(0, vP 16), (1, vI x0)] []
  unfold XX11_point
  refine S_iload_n (kk := 1) g dX11_point_0 rfl rfl ?_
  refine S_if_lt (tgt := 12) g dX11_point_1 (by decide) ?_ ?_
  · refine S_sub g [] rfl ?_
    exact sX11_point_p12 hw g _
  · refine S_iload_n (kk := 1) g dX11_point_4 rfl rfl ?_
    refine S_aload_n (kk := 0) g dX11_point_5 rfl rfl ?_
    refine S_geti g dX11_point_6 fl_GP_114 (at_16 hw) (Or.inl rfl) ?_
    refine S_icmp_lt (tgt := 16) g dX11_point_9 (by decide) ?_ ?_
    · refine S_aload_n (kk := 0) g dX11_point_16 rfl rfl ?_
      refine S_getr g dX11_point_17 fl_GP_84 (at_16 hw) rfl (rc_16_11 hw) ?_
      refine S_iload_n (kk := 1) g dX11_point_20 rfl rfl ?_
      refine S_iaload g dX11_point_21 (at_100 hw) ?_
      exact S_ireturn g dX11_point_22 rfl
    · refine S_sub g [] rfl ?_
      exact sX11_point_p12 hw g _

def XX11_mend (x0 : Int) (x1 : Int) (x2 : Int) (x3 : Int) (h : Hp) : OR :=
  cal (XX5_aim x0 x1 x2 h) (fun r1 h2 => if r1 = 0 then some ((-1), h2) else cal (XX0_has x3 h2) (fun r3 h4 => if r3 = 0 then some ((-1), h4) else cal (XX11_refreshBoth h4) (fun r5 h6 => cal (XX5_leastMending x3 h6) (fun r7 h8 => some (r7, h8)))))
theorem sX11_mend {G : GG} {w : Wd} (hw : okX w) (x0 : Int) (x1 : Int) (x2 : Int) (x3 : Int) (h : Hp) : SC G w yX11_mend (Cond.code yX11_mend cX11_mend 5 (Option.some Jvm.ClassFile.FieldType.int)) 5 0 [vP 16, vI x0, vI x1, vI x2, vI x3] (XX11_mend x0 x1 x2 x3 h) h := by
  refine SC_of (own := "GatePatch") plain_GP rfl (Nat.le_of_ble_eq_true rfl) (fun Γ hG g => ?_)
  subst hG
  show Sim Γ w 0 _ h 0 [(0, vP 16), (1, vI x0), (2, vI x1), (3, vI x2), (4, vI x3)] []
  unfold XX11_mend
  refine S_aload_n (kk := 0) g dX11_mend_0 rfl rfl ?_
  refine S_getr g dX11_mend_1 fl_GP_33 (at_16 hw) rfl (rc_16_3 hw) ?_
  refine S_iload_n (kk := 1) g dX11_mend_4 rfl rfl ?_
  refine S_iload_n (kk := 2) g dX11_mend_5 rfl rfl ?_
  refine S_iload_n (kk := 3) g dX11_mend_6 rfl rfl ?_
  refine S_callVi (As := [vI x0, vI x1, vI x2]) g dX11_mend_7 (sX5_aim hw _ _ _ _) rfl (at_40 hw) rfl im_X5_aim se_X5_aim cw_X5_aim ml_GP_225 ini_Mender nd_X5_aim ⟨by decide, by decide⟩ (Nat.le_of_ble_eq_true rfl) (fun r1 h2 => ?_)
  refine S_if_eq (tgt := 25) g dX11_mend_10 (by decide) ?_ ?_
  · refine S_iconst g dX11_mend_25 ⟨by decide, by decide⟩ ?_
    exact S_ireturn g dX11_mend_26 rfl
  · refine S_aload_n (kk := 0) g dX11_mend_13 rfl rfl ?_
    refine S_getr g dX11_mend_14 fl_GP_24 (at_16 hw) rfl (rc_16_2 hw) ?_
    refine S_iload (kk := 4) g dX11_mend_17 rfl ?_
    refine S_callVi (As := [vI x3]) g dX11_mend_19 (sX0_has hw _ _) rfl (at_37 hw) rfl im_X0_has se_X0_has cw_X0_has ml_GP_191 ini_Cases nd_X0_has ⟨by decide, by decide⟩ (Nat.le_of_ble_eq_true rfl) (fun r3 h4 => ?_)
    refine S_if_ne (tgt := 27) g dX11_mend_22 (by decide) ?_ ?_
    · refine S_aload_n (kk := 0) g dX11_mend_27 rfl rfl ?_
      refine S_callVv (As := []) g dX11_mend_28 (sX11_refreshBoth hw  _) rfl (at_16 hw) rfl im_X11_refreshBoth se_X11_refreshBoth cw_X11_refreshBoth ml_GP_218 ini_GP nd_X11_refreshBoth ⟨by decide, by decide⟩ (Nat.le_of_ble_eq_true rfl) (fun r5 h6 => ?_)
      refine S_aload_n (kk := 0) g dX11_mend_31 rfl rfl ?_
      refine S_getr g dX11_mend_32 fl_GP_33 (at_16 hw) rfl (rc_16_3 hw) ?_
      refine S_iload (kk := 4) g dX11_mend_35 rfl ?_
      refine S_callVi (As := [vI x3]) g dX11_mend_37 (sX5_leastMending hw _ _) rfl (at_40 hw) rfl im_X5_leastMending se_X5_leastMending cw_X5_leastMending ml_GP_247 ini_Mender nd_X5_leastMending ⟨by decide, by decide⟩ (Nat.le_of_ble_eq_true rfl) (fun r7 h8 => ?_)
      exact S_ireturn g dX11_mend_40 rfl
    · refine S_iconst g dX11_mend_25 ⟨by decide, by decide⟩ ?_
      exact S_ireturn g dX11_mend_26 rfl

def XX11_isTape (x0 : Int) (h : Hp) : OR :=
  if x0 < 0 then zb 0 (some (0, h)) else if 6 ≤ x0 then zb 0 (some (0, h)) else zb 1 (some (1, h))
theorem sX11_isTape {G : GG} {w : Wd} (hw : okX w) (x0 : Int) (h : Hp) : SC G w yX11_isTape (Cond.code yX11_isTape cX11_isTape 1 (Option.some Jvm.ClassFile.FieldType.boolean)) 1 0 [vI x0] (XX11_isTape x0 h) h := by
  refine SC_of (own := "GatePatch") plain_GP rfl (Nat.le_of_ble_eq_true rfl) (fun Γ hG g => ?_)
  subst hG
  show Sim Γ w 0 _ h 0 [(0, vI x0)] []
  unfold XX11_isTape
  refine S_iload_n (kk := 0) g dX11_isTape_0 rfl rfl ?_
  refine S_if_lt (tgt := 14) g dX11_isTape_1 (by decide) ?_ ?_
  · refine S_iconst g dX11_isTape_14 ⟨by decide, by decide⟩ ?_
    exact S_zreturn g dX11_isTape_15 rfl
  · refine S_iload_n (kk := 0) g dX11_isTape_4 rfl rfl ?_
    refine S_bipush g dX11_isTape_5 ⟨by decide, by decide⟩ rfl ?_
    refine S_icmp_ge (tgt := 14) g dX11_isTape_7 (by decide) ?_ ?_
    · refine S_iconst g dX11_isTape_14 ⟨by decide, by decide⟩ ?_
      exact S_zreturn g dX11_isTape_15 rfl
    · refine S_iconst g dX11_isTape_10 ⟨by decide, by decide⟩ ?_
      refine S_goto (tgt := 15) g dX11_isTape_11 (by decide) ?_
      exact S_zreturn g dX11_isTape_15 rfl

def XX11_witness (x0 : Int) (x1 : Int) (x2 : Int) (x3 : Int) (h : Hp) : OR :=
  cal (XX11_isTape x0 h) (fun r1 h2 => if r1 = 0 then some ((-1), h2) else cal (XX5_aim x1 x2 x3 h2) (fun r3 h4 => if r3 = 0 then some ((-1), h4) else cal (XX11_refreshBoth h4) (fun r5 h6 => cal (XX5_firstUnmended h6) (fun r7 h8 => if r7 = 1000 then inb x0 6 (nmP (h8 98 x0.toNat).toNat (fun u9 => asr (u9 = 101 ∨ u9 = 108 ∨ u9 = 115 ∨ u9 = 122 ∨ u9 = 129 ∨ u9 = 136) (cal (XX10_hold u9 1 (h8 37 0) h8) (fun r11 h12 => inb x0 6 (nmP (h12 98 x0.toNat).toNat (fun u13 => asr (u13 = 101 ∨ u13 = 108 ∨ u13 = 115 ∨ u13 = 122 ∨ u13 = 129 ∨ u13 = 136) (cal (XX5_writeLeast (u13 + 1) h12) (fun r15 h16 => some ((h16 37 0), h16))))))))) else some ((-4), h8)))))
theorem sX11_witness {G : GG} {w : Wd} (hw : okX w) (x0 : Int) (x1 : Int) (x2 : Int) (x3 : Int) (h : Hp) : SC G w yX11_witness (Cond.code yX11_witness cX11_witness 5 (Option.some Jvm.ClassFile.FieldType.int)) 6 0 [vP 16, vI x0, vI x1, vI x2, vI x3] (XX11_witness x0 x1 x2 x3 h) h := by
  refine SC_of (own := "GatePatch") plain_GP rfl (Nat.le_of_ble_eq_true rfl) (fun Γ hG g => ?_)
  subst hG
  show Sim Γ w 0 _ h 0 [(0, vP 16), (1, vI x0), (2, vI x1), (3, vI x2), (4, vI x3)] []
  unfold XX11_witness
  refine S_iload_n (kk := 1) g dX11_witness_0 rfl rfl ?_
  refine S_callSi (As := [vI x0]) g dX11_witness_1 (sX11_isTape hw _ _) rfl st_X11_isTape cw_X11_isTape ml_GP_250 ini_GP nd_X11_isTape ⟨by decide, by decide⟩ (Nat.le_of_ble_eq_true rfl) (fun r1 h2 => ?_)
  refine S_if_eq (tgt := 21) g dX11_witness_4 (by decide) ?_ ?_
  · refine S_iconst g dX11_witness_21 ⟨by decide, by decide⟩ ?_
    exact S_ireturn g dX11_witness_22 rfl
  · refine S_aload_n (kk := 0) g dX11_witness_7 rfl rfl ?_
    refine S_getr g dX11_witness_8 fl_GP_33 (at_16 hw) rfl (rc_16_3 hw) ?_
    refine S_iload_n (kk := 2) g dX11_witness_11 rfl rfl ?_
    refine S_iload_n (kk := 3) g dX11_witness_12 rfl rfl ?_
    refine S_iload (kk := 4) g dX11_witness_13 rfl ?_
    refine S_callVi (As := [vI x1, vI x2, vI x3]) g dX11_witness_15 (sX5_aim hw _ _ _ _) rfl (at_40 hw) rfl im_X5_aim se_X5_aim cw_X5_aim ml_GP_225 ini_Mender nd_X5_aim ⟨by decide, by decide⟩ (Nat.le_of_ble_eq_true rfl) (fun r3 h4 => ?_)
    refine S_if_ne (tgt := 23) g dX11_witness_18 (by decide) ?_ ?_
    · refine S_aload_n (kk := 0) g dX11_witness_23 rfl rfl ?_
      refine S_callVv (As := []) g dX11_witness_24 (sX11_refreshBoth hw  _) rfl (at_16 hw) rfl im_X11_refreshBoth se_X11_refreshBoth cw_X11_refreshBoth ml_GP_218 ini_GP nd_X11_refreshBoth ⟨by decide, by decide⟩ (Nat.le_of_ble_eq_true rfl) (fun r5 h6 => ?_)
      refine S_aload_n (kk := 0) g dX11_witness_27 rfl rfl ?_
      refine S_getr g dX11_witness_28 fl_GP_33 (at_16 hw) rfl (rc_16_3 hw) ?_
      refine S_callVi (As := []) g dX11_witness_31 (sX5_firstUnmended hw  _) rfl (at_40 hw) rfl im_X5_firstUnmended se_X5_firstUnmended cw_X5_firstUnmended ml_GP_229 ini_Mender nd_X5_firstUnmended ⟨by decide, by decide⟩ (Nat.le_of_ble_eq_true rfl) (fun r7 h8 => ?_)
      refine S_sipush g dX11_witness_34 ⟨by decide, by decide⟩ rfl ?_
      refine S_icmp_eq (tgt := 43) g dX11_witness_37 (by decide) ?_ ?_
      · refine S_aload_n (kk := 0) g dX11_witness_43 rfl rfl ?_
        refine S_getr g dX11_witness_44 fl_GP_76 (at_16 hw) rfl (rc_16_9 hw) ?_
        refine S_iload_n (kk := 1) g dX11_witness_47 rfl rfl ?_
        refine S_aaload g dX11_witness_48 (at_98 hw) (Or.inr rfl) ?_
        refine S_nmP (fun u9 => ?_)
        refine S_asr (fun q10 => ?_)
        refine S_iconst g dX11_witness_49 ⟨by decide, by decide⟩ ?_
        refine S_aload_n (kk := 0) g dX11_witness_50 rfl rfl ?_
        refine S_getr g dX11_witness_51 fl_GP_24 (at_16 hw) rfl (rc_16_2 hw) ?_
        refine S_geti g dX11_witness_54 fl_GP_92 (at_37 hw) (Or.inl rfl) ?_
        refine S_callVv (As := [vI 1, vI (h8 37 0)]) g dX11_witness_57 (sX10_hold hw u9 (tp_of hw q10) _ _ _) rfl (tp_of hw q10).1 rfl im_X10_hold se_X10_hold cw_X10_hold ml_GP_253 ini_Tape nd_X10_hold ⟨by decide, by decide⟩ (Nat.le_of_ble_eq_true rfl) (fun r11 h12 => ?_)
        refine S_aload_n (kk := 0) g dX11_witness_60 rfl rfl ?_
        refine S_getr g dX11_witness_61 fl_GP_33 (at_16 hw) rfl (rc_16_3 hw) ?_
        refine S_aload_n (kk := 0) g dX11_witness_64 rfl rfl ?_
        refine S_getr g dX11_witness_65 fl_GP_76 (at_16 hw) rfl (rc_16_9 hw) ?_
        refine S_iload_n (kk := 1) g dX11_witness_68 rfl rfl ?_
        refine S_aaload g dX11_witness_69 (at_98 hw) (Or.inr rfl) ?_
        refine S_nmP (fun u13 => ?_)
        refine S_asr (fun q14 => ?_)
        refine S_getr g dX11_witness_70 fl_GP_257 (tp_of hw q14).1 rfl (tp_of hw q14).2.1 ?_
        refine S_callVv (As := [vP (u13 + 1)]) g dX11_witness_73 (sX5_writeLeast hw (u13 + 1) (tp_of hw q14).2.2.2.1 _) rfl (at_40 hw) rfl im_X5_writeLeast se_X5_writeLeast cw_X5_writeLeast ml_GP_260 ini_Mender nd_X5_writeLeast ⟨by decide, by decide⟩ (Nat.le_of_ble_eq_true rfl) (fun r15 h16 => ?_)
        refine S_aload_n (kk := 0) g dX11_witness_76 rfl rfl ?_
        refine S_getr g dX11_witness_77 fl_GP_24 (at_16 hw) rfl (rc_16_2 hw) ?_
        refine S_geti g dX11_witness_80 fl_GP_92 (at_37 hw) (Or.inl rfl) ?_
        exact S_ireturn g dX11_witness_83 rfl
      · refine S_bipush g dX11_witness_40 ⟨by decide, by decide⟩ rfl ?_
        exact S_ireturn g dX11_witness_42 rfl
    · refine S_iconst g dX11_witness_21 ⟨by decide, by decide⟩ ?_
      exact S_ireturn g dX11_witness_22 rfl

def XX11_refused (x0 : Int) (h : Hp) : OR :=
  chk ((h 16 15) + 1) (hm (wr h 16 15 ((h 16 15) + 1)) (fun h1 => some (x0, h1)))
theorem sX11_refused {G : GG} {w : Wd} (hw : okX w) (x0 : Int) (h : Hp) : SC G w yX11_refused (Cond.code yX11_refused cX11_refused 2 (Option.some Jvm.ClassFile.FieldType.int)) 1 0 [vP 16, vI x0] (XX11_refused x0 h) h := by
  refine SC_of (own := "GatePatch") plain_GP rfl (Nat.le_of_ble_eq_true rfl) (fun Γ hG g => ?_)
  subst hG
  show Sim Γ w 0 _ h 0 [(0, vP 16), (1, vI x0)] []
  unfold XX11_refused
  refine S_aload_n (kk := 0) g dX11_refused_0 rfl rfl ?_
  refine S_dup g dX11_refused_1 rfl ?_
  refine S_geti g dX11_refused_2 fl_GP_123 (at_16 hw) (Or.inl rfl) ?_
  refine S_iconst g dX11_refused_5 ⟨by decide, by decide⟩ ?_
  refine S_iadd g dX11_refused_6 ?_
  refine S_puti g dX11_refused_7 fp_GP_123 (at_16 hw) rfl (fun h1 => ?_)
  refine S_iload_n (kk := 1) g dX11_refused_10 rfl rfl ?_
  exact S_ireturn g dX11_refused_11 rfl

def XX11_judge (x0 : Int) (x1 : Int) (x2 : Int) (x3 : Int) (h : Hp) : OR :=
  cal (XX11_isTape x0 h) (fun r1 h2 => if r1 = 0 then some ((-1), h2) else cal (XX5_aim x1 x2 x3 h2) (fun r3 h4 => if r3 = 0 then some ((-1), h4) else inb x0 6 (nmP (h4 98 x0.toNat).toNat (fun u5 => asr (u5 = 101 ∨ u5 = 108 ∨ u5 = 115 ∨ u5 = 122 ∨ u5 = 129 ∨ u5 = 136) (if (h4 u5 0) = 0 then cal (XX11_refused (-11) h4) (fun r21 h22 => some (r21, h22)) else inb x0 6 (nmP (h4 98 x0.toNat).toNat (fun u7 => asr (u7 = 101 ∨ u7 = 108 ∨ u7 = 115 ∨ u7 = 122 ∨ u7 = 129 ∨ u7 = 136) (if (h4 u7 0) = 1 then cal (XX11_refreshBoth h4) (fun r9 h10 => inb x0 6 (nmP (h10 98 x0.toNat).toNat (fun u11 => asr (u11 = 101 ∨ u11 = 108 ∨ u11 = 115 ∨ u11 = 122 ∨ u11 = 129 ∨ u11 = 136) (inb x0 6 (nmP (h10 98 x0.toNat).toNat (fun u13 => asr (u13 = 101 ∨ u13 = 108 ∨ u13 = 115 ∨ u13 = 122 ∨ u13 = 129 ∨ u13 = 136) (cal (XX5_firstMisjudged (u11 + 1) (h10 u13 1) h10) (fun r15 h16 => if r15 = (-13) then cal (XX11_refused (-13) h16) (fun r17 h18 => some (r17, h18)) else some (r15, h16))))))))) else cal (XX11_refused (-12) h4) (fun r19 h20 => some (r19, h20))))))))))
theorem sX11_judge {G : GG} {w : Wd} (hw : okX w) (x0 : Int) (x1 : Int) (x2 : Int) (x3 : Int) (h : Hp) : SC G w yX11_judge (Cond.code yX11_judge cX11_judge 6 (Option.some Jvm.ClassFile.FieldType.int)) 6 0 [vP 16, vI x0, vI x1, vI x2, vI x3] (XX11_judge x0 x1 x2 x3 h) h := by
  refine SC_of (own := "GatePatch") plain_GP rfl (Nat.le_of_ble_eq_true rfl) (fun Γ hG g => ?_)
  subst hG
  show Sim Γ w 0 _ h 0 [(0, vP 16), (1, vI x0), (2, vI x1), (3, vI x2), (4, vI x3)] []
  unfold XX11_judge
  refine S_iload_n (kk := 1) g dX11_judge_0 rfl rfl ?_
  refine S_callSi (As := [vI x0]) g dX11_judge_1 (sX11_isTape hw _ _) rfl st_X11_isTape cw_X11_isTape ml_GP_250 ini_GP nd_X11_isTape ⟨by decide, by decide⟩ (Nat.le_of_ble_eq_true rfl) (fun r1 h2 => ?_)
  refine S_if_eq (tgt := 21) g dX11_judge_4 (by decide) ?_ ?_
  · refine S_iconst g dX11_judge_21 ⟨by decide, by decide⟩ ?_
    exact S_ireturn g dX11_judge_22 rfl
  · refine S_aload_n (kk := 0) g dX11_judge_7 rfl rfl ?_
    refine S_getr g dX11_judge_8 fl_GP_33 (at_16 hw) rfl (rc_16_3 hw) ?_
    refine S_iload_n (kk := 2) g dX11_judge_11 rfl rfl ?_
    refine S_iload_n (kk := 3) g dX11_judge_12 rfl rfl ?_
    refine S_iload (kk := 4) g dX11_judge_13 rfl ?_
    refine S_callVi (As := [vI x1, vI x2, vI x3]) g dX11_judge_15 (sX5_aim hw _ _ _ _) rfl (at_40 hw) rfl im_X5_aim se_X5_aim cw_X5_aim ml_GP_225 ini_Mender nd_X5_aim ⟨by decide, by decide⟩ (Nat.le_of_ble_eq_true rfl) (fun r3 h4 => ?_)
    refine S_if_ne (tgt := 23) g dX11_judge_18 (by decide) ?_ ?_
    · refine S_aload_n (kk := 0) g dX11_judge_23 rfl rfl ?_
      refine S_getr g dX11_judge_24 fl_GP_76 (at_16 hw) rfl (rc_16_9 hw) ?_
      refine S_iload_n (kk := 1) g dX11_judge_27 rfl rfl ?_
      refine S_aaload g dX11_judge_28 (at_98 hw) (Or.inr rfl) ?_
      refine S_nmP (fun u5 => ?_)
      refine S_asr (fun q6 => ?_)
      refine S_geti g dX11_judge_29 fl_GP_264 (tp_of hw q6).1 (Or.inl rfl) ?_
      refine S_if_ne (tgt := 42) g dX11_judge_32 (by decide) ?_ ?_
      · refine S_aload_n (kk := 0) g dX11_judge_42 rfl rfl ?_
        refine S_getr g dX11_judge_43 fl_GP_76 (at_16 hw) rfl (rc_16_9 hw) ?_
        refine S_iload_n (kk := 1) g dX11_judge_46 rfl rfl ?_
        refine S_aaload g dX11_judge_47 (at_98 hw) (Or.inr rfl) ?_
        refine S_nmP (fun u7 => ?_)
        refine S_asr (fun q8 => ?_)
        refine S_geti g dX11_judge_48 fl_GP_264 (tp_of hw q8).1 (Or.inl rfl) ?_
        refine S_iconst g dX11_judge_51 ⟨by decide, by decide⟩ ?_
        refine S_icmp_eq (tgt := 62) g dX11_judge_52 (by decide) ?_ ?_
        · refine S_aload_n (kk := 0) g dX11_judge_62 rfl rfl ?_
          refine S_callVv (As := []) g dX11_judge_63 (sX11_refreshBoth hw  _) rfl (at_16 hw) rfl im_X11_refreshBoth se_X11_refreshBoth cw_X11_refreshBoth ml_GP_218 ini_GP nd_X11_refreshBoth ⟨by decide, by decide⟩ (Nat.le_of_ble_eq_true rfl) (fun r9 h10 => ?_)
          refine S_aload_n (kk := 0) g dX11_judge_66 rfl rfl ?_
          refine S_getr g dX11_judge_67 fl_GP_33 (at_16 hw) rfl (rc_16_3 hw) ?_
          refine S_aload_n (kk := 0) g dX11_judge_70 rfl rfl ?_
          refine S_getr g dX11_judge_71 fl_GP_76 (at_16 hw) rfl (rc_16_9 hw) ?_
          refine S_iload_n (kk := 1) g dX11_judge_74 rfl rfl ?_
          refine S_aaload g dX11_judge_75 (at_98 hw) (Or.inr rfl) ?_
          refine S_nmP (fun u11 => ?_)
          refine S_asr (fun q12 => ?_)
          refine S_getr g dX11_judge_76 fl_GP_257 (tp_of hw q12).1 rfl (tp_of hw q12).2.1 ?_
          refine S_aload_n (kk := 0) g dX11_judge_79 rfl rfl ?_
          refine S_getr g dX11_judge_80 fl_GP_76 (at_16 hw) rfl (rc_16_9 hw) ?_
          refine S_iload_n (kk := 1) g dX11_judge_83 rfl rfl ?_
          refine S_aaload g dX11_judge_84 (at_98 hw) (Or.inr rfl) ?_
          refine S_nmP (fun u13 => ?_)
          refine S_asr (fun q14 => ?_)
          refine S_geti g dX11_judge_85 fl_GP_270 (tp_of hw q14).1 (Or.inl rfl) ?_
          refine S_callVi (As := [vP (u11 + 1), vI (h10 u13 1)]) g dX11_judge_88 (sX5_firstMisjudged hw (u11 + 1) (tp_of hw q12).2.2.2.1 _ _) rfl (at_40 hw) rfl im_X5_firstMisjudged se_X5_firstMisjudged cw_X5_firstMisjudged ml_GP_273 ini_Mender nd_X5_firstMisjudged ⟨by decide, by decide⟩ (Nat.le_of_ble_eq_true rfl) (fun r15 h16 => ?_)
          refine S_istore g dX11_judge_91 (by decide) rfl ?_
          refine S_iload (kk := 0) g dX11_judge_93 rfl ?_
          refine S_bipush g dX11_judge_95 ⟨by decide, by decide⟩ rfl ?_
          refine S_icmp_ne (tgt := 109) g dX11_judge_97 (by decide) ?_ ?_
          · refine S_iload (kk := 0) g dX11_judge_109 rfl ?_
            exact S_ireturn g dX11_judge_111 rfl
          · refine S_aload_n (kk := 1) g dX11_judge_100 rfl rfl ?_
            refine S_bipush g dX11_judge_101 ⟨by decide, by decide⟩ rfl ?_
            refine S_callVi (As := [vI (-13)]) g dX11_judge_103 (sX11_refused hw _ _) rfl (at_16 hw) rfl im_X11_refused se_X11_refused cw_X11_refused ml_GP_267 ini_GP nd_X11_refused ⟨by decide, by decide⟩ (Nat.le_of_ble_eq_true rfl) (fun r17 h18 => ?_)
            refine S_goto (tgt := 111) g dX11_judge_106 (by decide) ?_
            exact S_ireturn g dX11_judge_111 rfl
        · refine S_aload_n (kk := 0) g dX11_judge_55 rfl rfl ?_
          refine S_bipush g dX11_judge_56 ⟨by decide, by decide⟩ rfl ?_
          refine S_callVi (As := [vI (-12)]) g dX11_judge_58 (sX11_refused hw _ _) rfl (at_16 hw) rfl im_X11_refused se_X11_refused cw_X11_refused ml_GP_267 ini_GP nd_X11_refused ⟨by decide, by decide⟩ (Nat.le_of_ble_eq_true rfl) (fun r19 h20 => ?_)
          exact S_ireturn g dX11_judge_61 rfl
      · refine S_aload_n (kk := 0) g dX11_judge_35 rfl rfl ?_
        refine S_bipush g dX11_judge_36 ⟨by decide, by decide⟩ rfl ?_
        refine S_callVi (As := [vI (-11)]) g dX11_judge_38 (sX11_refused hw _ _) rfl (at_16 hw) rfl im_X11_refused se_X11_refused cw_X11_refused ml_GP_267 ini_GP nd_X11_refused ⟨by decide, by decide⟩ (Nat.le_of_ble_eq_true rfl) (fun r21 h22 => ?_)
        exact S_ireturn g dX11_judge_41 rfl
    · refine S_iconst g dX11_judge_21 ⟨by decide, by decide⟩ ?_
      exact S_ireturn g dX11_judge_22 rfl

def XX11_patch (x0 : Int) (x1 : Int) (x2 : Int) (x3 : Int) (x4 : Int) (h : Hp) : OR :=
  cal (XX5_aim x0 x1 (-1) h) (fun r1 h2 => if r1 = 0 then some ((-1), h2) else cal (XX1_tell x2 x3 x4 h2) (fun r3 h4 => if r3 = 0 then some ((-1), h4) else cal (XX11_refreshBoth h4) (fun r5 h6 => cal (XX1_toldHangOn (h6 40 5) h6) (fun r7 h8 => if r7 = 0 then cal (XX1_learn h8) (fun r9 h10 => cal (XX1_allow h10) (fun r11 h12 => if r11 = 0 then cal (XX1_findClash h12) (fun r17 h18 => hm (wr h18 16 13 (h18 45 12)) (fun h19 => hm (wr h19 16 14 (h19 45 13)) (fun h20 => cal (XX7_drop h20) (fun r21 h22 => some ((-4), h22))))) else cal (XX1_choose h12) (fun r13 h14 => cal (XX7_keep h14) (fun r15 h16 => some ((h16 45 11), h16))))) else some ((-2), h8)))))
theorem sX11_patch {G : GG} {w : Wd} (hw : okX w) (x0 : Int) (x1 : Int) (x2 : Int) (x3 : Int) (x4 : Int) (h : Hp) : SC G w yX11_patch (Cond.code yX11_patch cX11_patch 6 (Option.some Jvm.ClassFile.FieldType.int)) 19 0 [vP 16, vI x0, vI x1, vI x2, vI x3, vI x4] (XX11_patch x0 x1 x2 x3 x4 h) h := by
  refine SC_of (own := "GatePatch") plain_GP rfl (Nat.le_of_ble_eq_true rfl) (fun Γ hG g => ?_)
  subst hG
  show Sim Γ w 0 _ h 0 [(0, vP 16), (1, vI x0), (2, vI x1), (3, vI x2), (4, vI x3), (5, vI x4)] []
  unfold XX11_patch
  refine S_aload_n (kk := 0) g dX11_patch_0 rfl rfl ?_
  refine S_getr g dX11_patch_1 fl_GP_33 (at_16 hw) rfl (rc_16_3 hw) ?_
  refine S_iload_n (kk := 1) g dX11_patch_4 rfl rfl ?_
  refine S_iload_n (kk := 2) g dX11_patch_5 rfl rfl ?_
  refine S_iconst g dX11_patch_6 ⟨by decide, by decide⟩ ?_
  refine S_callVi (As := [vI x0, vI x1, vI (-1)]) g dX11_patch_7 (sX5_aim hw _ _ _ _) rfl (at_40 hw) rfl im_X5_aim se_X5_aim cw_X5_aim ml_GP_225 ini_Mender nd_X5_aim ⟨by decide, by decide⟩ (Nat.le_of_ble_eq_true rfl) (fun r1 h2 => ?_)
  refine S_if_eq (tgt := 28) g dX11_patch_10 (by decide) ?_ ?_
  · refine S_iconst g dX11_patch_28 ⟨by decide, by decide⟩ ?_
    exact S_ireturn g dX11_patch_29 rfl
  · refine S_aload_n (kk := 0) g dX11_patch_13 rfl rfl ?_
    refine S_getr g dX11_patch_14 fl_GP_42 (at_16 hw) rfl (rc_16_4 hw) ?_
    refine S_iload_n (kk := 3) g dX11_patch_17 rfl rfl ?_
    refine S_iload (kk := 4) g dX11_patch_18 rfl ?_
    refine S_iload (kk := 5) g dX11_patch_20 rfl ?_
    refine S_callVi (As := [vI x2, vI x3, vI x4]) g dX11_patch_22 (sX1_tell hw _ _ _ _) rfl (at_45 hw) rfl im_X1_tell se_X1_tell cw_X1_tell ml_GP_277 ini_Finder nd_X1_tell ⟨by decide, by decide⟩ (Nat.le_of_ble_eq_true rfl) (fun r3 h4 => ?_)
    refine S_if_ne (tgt := 30) g dX11_patch_25 (by decide) ?_ ?_
    · refine S_aload_n (kk := 0) g dX11_patch_30 rfl rfl ?_
      refine S_callVv (As := []) g dX11_patch_31 (sX11_refreshBoth hw  _) rfl (at_16 hw) rfl im_X11_refreshBoth se_X11_refreshBoth cw_X11_refreshBoth ml_GP_218 ini_GP nd_X11_refreshBoth ⟨by decide, by decide⟩ (Nat.le_of_ble_eq_true rfl) (fun r5 h6 => ?_)
      refine S_aload_n (kk := 0) g dX11_patch_34 rfl rfl ?_
      refine S_getr g dX11_patch_35 fl_GP_42 (at_16 hw) rfl (rc_16_4 hw) ?_
      refine S_aload_n (kk := 0) g dX11_patch_38 rfl rfl ?_
      refine S_getr g dX11_patch_39 fl_GP_33 (at_16 hw) rfl (rc_16_3 hw) ?_
      refine S_getj g dX11_patch_42 fl_GP_280 (at_40 hw) rfl ?_
      refine S_callVi (As := [vJ (h6 40 5)]) g dX11_patch_45 (sX1_toldHangOn hw _ _) rfl (at_45 hw) rfl im_X1_toldHangOn se_X1_toldHangOn cw_X1_toldHangOn ml_GP_284 ini_Finder nd_X1_toldHangOn ⟨by decide, by decide⟩ (Nat.le_of_ble_eq_true rfl) (fun r7 h8 => ?_)
      refine S_if_eq (tgt := 54) g dX11_patch_48 (by decide) ?_ ?_
      · refine S_aload_n (kk := 0) g dX11_patch_54 rfl rfl ?_
        refine S_getr g dX11_patch_55 fl_GP_42 (at_16 hw) rfl (rc_16_4 hw) ?_
        refine S_aload_n (kk := 0) g dX11_patch_58 rfl rfl ?_
        refine S_getr g dX11_patch_59 fl_GP_33 (at_16 hw) rfl (rc_16_3 hw) ?_
        refine S_callVv (As := [vP 40]) g dX11_patch_62 (sX1_learn hw  _) rfl (at_45 hw) rfl im_X1_learn se_X1_learn cw_X1_learn ml_GP_288 ini_Finder nd_X1_learn ⟨by decide, by decide⟩ (Nat.le_of_ble_eq_true rfl) (fun r9 h10 => ?_)
        refine S_aload_n (kk := 0) g dX11_patch_65 rfl rfl ?_
        refine S_getr g dX11_patch_66 fl_GP_42 (at_16 hw) rfl (rc_16_4 hw) ?_
        refine S_callVi (As := []) g dX11_patch_69 (sX1_allow hw  _) rfl (at_45 hw) rfl im_X1_allow se_X1_allow cw_X1_allow ml_GP_292 ini_Finder nd_X1_allow ⟨by decide, by decide⟩ (Nat.le_of_ble_eq_true rfl) (fun r11 h12 => ?_)
        refine S_if_ne (tgt := 114) g dX11_patch_72 (by decide) ?_ ?_
        · refine S_aload_n (kk := 0) g dX11_patch_114 rfl rfl ?_
          refine S_getr g dX11_patch_115 fl_GP_42 (at_16 hw) rfl (rc_16_4 hw) ?_
          refine S_callVv (As := []) g dX11_patch_118 (sX1_choose hw  _) rfl (at_45 hw) rfl im_X1_choose se_X1_choose cw_X1_choose ml_GP_301 ini_Finder nd_X1_choose ⟨by decide, by decide⟩ (Nat.le_of_ble_eq_true rfl) (fun r13 h14 => ?_)
          refine S_aload_n (kk := 0) g dX11_patch_121 rfl rfl ?_
          refine S_getr g dX11_patch_122 fl_GP_56 (at_16 hw) rfl (rc_16_6 hw) ?_
          refine S_aload_n (kk := 0) g dX11_patch_125 rfl rfl ?_
          refine S_getr g dX11_patch_126 fl_GP_42 (at_16 hw) rfl (rc_16_4 hw) ?_
          refine S_callVv (As := [vP 45]) g dX11_patch_129 (sX7_keep hw  _) rfl (at_56 hw) rfl im_X7_keep se_X7_keep cw_X7_keep ml_GP_304 ini_Patch nd_X7_keep ⟨by decide, by decide⟩ (Nat.le_of_ble_eq_true rfl) (fun r15 h16 => ?_)
          refine S_aload_n (kk := 0) g dX11_patch_132 rfl rfl ?_
          refine S_getr g dX11_patch_133 fl_GP_42 (at_16 hw) rfl (rc_16_4 hw) ?_
          refine S_geti g dX11_patch_136 fl_GP_308 (at_45 hw) (Or.inl rfl) ?_
          exact S_ireturn g dX11_patch_139 rfl
        · refine S_aload_n (kk := 0) g dX11_patch_75 rfl rfl ?_
          refine S_getr g dX11_patch_76 fl_GP_42 (at_16 hw) rfl (rc_16_4 hw) ?_
          refine S_callVv (As := []) g dX11_patch_79 (sX1_findClash hw  _) rfl (at_45 hw) rfl im_X1_findClash se_X1_findClash cw_X1_findClash ml_GP_296 ini_Finder nd_X1_findClash ⟨by decide, by decide⟩ (Nat.le_of_ble_eq_true rfl) (fun r17 h18 => ?_)
          refine S_aload_n (kk := 0) g dX11_patch_82 rfl rfl ?_
          refine S_aload_n (kk := 0) g dX11_patch_83 rfl rfl ?_
          refine S_getr g dX11_patch_84 fl_GP_42 (at_16 hw) rfl (rc_16_4 hw) ?_
          refine S_geti g dX11_patch_87 fl_GP_299 (at_45 hw) (Or.inl rfl) ?_
          refine S_puti g dX11_patch_90 fp_GP_117 (at_16 hw) rfl (fun h19 => ?_)
          refine S_aload_n (kk := 0) g dX11_patch_93 rfl rfl ?_
          refine S_aload_n (kk := 0) g dX11_patch_94 rfl rfl ?_
          refine S_getr g dX11_patch_95 fl_GP_42 (at_16 hw) rfl (rc_16_4 hw) ?_
          refine S_geti g dX11_patch_98 fl_GP_300 (at_45 hw) (Or.inl rfl) ?_
          refine S_puti g dX11_patch_101 fp_GP_120 (at_16 hw) rfl (fun h20 => ?_)
          refine S_aload_n (kk := 0) g dX11_patch_104 rfl rfl ?_
          refine S_getr g dX11_patch_105 fl_GP_56 (at_16 hw) rfl (rc_16_6 hw) ?_
          refine S_callVv (As := []) g dX11_patch_108 (sX7_drop hw.1  _) rfl (at_56 hw) rfl im_X7_drop se_X7_drop cw_X7_drop ml_GP_103 ini_Patch nd_X7_drop ⟨by decide, by decide⟩ (Nat.le_of_ble_eq_true rfl) (fun r21 h22 => ?_)
          refine S_bipush g dX11_patch_111 ⟨by decide, by decide⟩ rfl ?_
          exact S_ireturn g dX11_patch_113 rfl
      · refine S_bipush g dX11_patch_51 ⟨by decide, by decide⟩ rfl ?_
        exact S_ireturn g dX11_patch_53 rfl
    · refine S_iconst g dX11_patch_28 ⟨by decide, by decide⟩ ?_
      exact S_ireturn g dX11_patch_29 rfl

def XX11_clash (x0 : Int) (h : Hp) : OR :=
  if x0 = 0 then some ((h 16 13), h) else if x0 = 1 then some ((h 16 14), h) else some ((-1), h)
theorem sX11_clash {G : GG} {w : Wd} (hw : okX w) (x0 : Int) (h : Hp) : SC G w yX11_clash (Cond.code yX11_clash cX11_clash 2 (Option.some Jvm.ClassFile.FieldType.int)) 1 0 [vP 16, vI x0] (XX11_clash x0 h) h := by
  refine SC_of (own := "GatePatch") plain_GP rfl (Nat.le_of_ble_eq_true rfl) (fun Γ hG g => ?_)
  subst hG
  show Sim Γ w 0 _ h 0 [(0, vP 16), (1, vI x0)] []
  unfold XX11_clash
  refine S_iload_n (kk := 1) g dX11_clash_0 rfl rfl ?_
  refine S_if_ne (tgt := 9) g dX11_clash_1 (by decide) ?_ ?_
  · refine S_iload_n (kk := 1) g dX11_clash_9 rfl rfl ?_
    refine S_iconst g dX11_clash_10 ⟨by decide, by decide⟩ ?_
    refine S_icmp_ne (tgt := 21) g dX11_clash_11 (by decide) ?_ ?_
    · refine S_iconst g dX11_clash_21 ⟨by decide, by decide⟩ ?_
      exact S_ireturn g dX11_clash_22 rfl
    · refine S_aload_n (kk := 0) g dX11_clash_14 rfl rfl ?_
      refine S_geti g dX11_clash_15 fl_GP_120 (at_16 hw) (Or.inl rfl) ?_
      refine S_goto (tgt := 22) g dX11_clash_18 (by decide) ?_
      exact S_ireturn g dX11_clash_22 rfl
  · refine S_aload_n (kk := 0) g dX11_clash_4 rfl rfl ?_
    refine S_geti g dX11_clash_5 fl_GP_117 (at_16 hw) (Or.inl rfl) ?_
    exact S_ireturn g dX11_clash_8 rfl

def XX11_mark_p58   (l1 l2 : Int) (h : Hp) : OR :=
  cal (XX4_give l1 l2 h) (fun r3 h4 => some ((h4 53 1), h4))
def XX11_mark (x0 : Int) (x1 : Int) (h : Hp) : OR :=
  cal (XX8_isWire 18 x0 h) (fun r1 h2 => if r1 = 0 then some ((-1), h2) else if x1 < (-1) then some ((-1), h2) else if x1 ≤ 9 then if x1 < 0 then XX11_mark_p58 x0 x1 h2 else if (h2 53 1) < 10 then XX11_mark_p58 x0 x1 h2 else inb x0 48 (if 0 ≤ (h2 54 x0.toNat) then XX11_mark_p58 x0 x1 h2 else some ((-3), h2)) else some ((-1), h2))
theorem sX11_mark_p58 {Γ : Cx} {w : Wd} (hw : okX w) (g : Gd Γ cX11_mark 3 "GatePatch" (Option.some Jvm.ClassFile.FieldType.int) (rmd 3))   (l1 l2 : Int) (h : Hp) : Sim Γ w 0 (XX11_mark_p58  l1 l2  h) h 58 [(0, vP 16), (1, vI l1), (2, vI l2)] [] := by
  unfold XX11_mark_p58
  refine S_aload_n (kk := 0) g dX11_mark_58 rfl rfl ?_
  refine S_getr g dX11_mark_59 fl_GP_49 (at_16 hw) rfl (rc_16_5 hw) ?_
  refine S_iload_n (kk := 1) g dX11_mark_62 rfl rfl ?_
  refine S_iload_n (kk := 2) g dX11_mark_63 rfl rfl ?_
  refine S_callVv (As := [vI l1, vI l2]) g dX11_mark_64 (sX4_give hw _ _ _) rfl (at_53 hw) rfl im_X4_give se_X4_give cw_X4_give ml_GP_315 ini_Marks nd_X4_give ⟨by decide, by decide⟩ (Nat.le_of_ble_eq_true rfl) (fun r3 h4 => ?_)
  refine S_aload_n (kk := 0) g dX11_mark_67 rfl rfl ?_
  refine S_getr g dX11_mark_68 fl_GP_49 (at_16 hw) rfl (rc_16_5 hw) ?_
  refine S_geti g dX11_mark_71 fl_GP_311 (at_53 hw) (Or.inl rfl) ?_
  exact S_ireturn g dX11_mark_74 rfl

theorem sX11_mark {G : GG} {w : Wd} (hw : okX w) (x0 : Int) (x1 : Int) (h : Hp) : SC G w yX11_mark (Cond.code yX11_mark cX11_mark 3 (Option.some Jvm.ClassFile.FieldType.int)) 3 0 [vP 16, vI x0, vI x1] (XX11_mark x0 x1 h) h := by
  refine SC_of (own := "GatePatch") plain_GP rfl (Nat.le_of_ble_eq_true rfl) (fun Γ hG g => ?_)
  subst hG
  show Sim Γ w 0 _ h 0 [(0, vP 16), (1, vI x0), (2, vI x1)] []
  unfold XX11_mark
  refine S_aload_n (kk := 0) g dX11_mark_0 rfl rfl ?_
  refine S_getr g dX11_mark_1 fl_GP_14 (at_16 hw) rfl (rc_16_0 hw) ?_
  refine S_getr g dX11_mark_4 fl_GP_130 (at_17 hw) rfl (rc_17_0 hw) ?_
  refine S_iload_n (kk := 1) g dX11_mark_7 rfl rfl ?_
  refine S_callVi (As := [vI x0]) g dX11_mark_8 (sX8_isWire hw 18 (pl_18 hw) _ _) rfl (at_18 hw) rfl im_X8_isWire se_X8_isWire cw_X8_isWire ml_GP_158 ini_Plan nd_X8_isWire ⟨by decide, by decide⟩ (Nat.le_of_ble_eq_true rfl) (fun r1 h2 => ?_)
  refine S_if_eq (tgt := 25) g dX11_mark_11 (by decide) ?_ ?_
  · refine S_iconst g dX11_mark_25 ⟨by decide, by decide⟩ ?_
    exact S_ireturn g dX11_mark_26 rfl
  · refine S_iload_n (kk := 2) g dX11_mark_14 rfl rfl ?_
    refine S_iconst g dX11_mark_15 ⟨by decide, by decide⟩ ?_
    refine S_icmp_lt (tgt := 25) g dX11_mark_16 (by decide) ?_ ?_
    · refine S_iconst g dX11_mark_25 ⟨by decide, by decide⟩ ?_
      exact S_ireturn g dX11_mark_26 rfl
    · refine S_iload_n (kk := 2) g dX11_mark_19 rfl rfl ?_
      refine S_bipush g dX11_mark_20 ⟨by decide, by decide⟩ rfl ?_
      refine S_icmp_le (tgt := 27) g dX11_mark_22 (by decide) ?_ ?_
      · refine S_iload_n (kk := 2) g dX11_mark_27 rfl rfl ?_
        refine S_if_lt (tgt := 58) g dX11_mark_28 (by decide) ?_ ?_
        · exact sX11_mark_p58 hw g _ _ _
        · refine S_aload_n (kk := 0) g dX11_mark_31 rfl rfl ?_
          refine S_getr g dX11_mark_32 fl_GP_49 (at_16 hw) rfl (rc_16_5 hw) ?_
          refine S_geti g dX11_mark_35 fl_GP_311 (at_53 hw) (Or.inl rfl) ?_
          refine S_bipush g dX11_mark_38 ⟨by decide, by decide⟩ rfl ?_
          refine S_icmp_lt (tgt := 58) g dX11_mark_40 (by decide) ?_ ?_
          · exact sX11_mark_p58 hw g _ _ _
          · refine S_aload_n (kk := 0) g dX11_mark_43 rfl rfl ?_
            refine S_getr g dX11_mark_44 fl_GP_49 (at_16 hw) rfl (rc_16_5 hw) ?_
            refine S_getr g dX11_mark_47 fl_GP_312 (at_53 hw) rfl (rc_53_0 hw) ?_
            refine S_iload_n (kk := 1) g dX11_mark_50 rfl rfl ?_
            refine S_iaload g dX11_mark_51 (at_54 hw) ?_
            refine S_if_ge (tgt := 58) g dX11_mark_52 (by decide) ?_ ?_
            · exact sX11_mark_p58 hw g _ _ _
            · refine S_bipush g dX11_mark_55 ⟨by decide, by decide⟩ rfl ?_
              exact S_ireturn g dX11_mark_57 rfl
      · refine S_iconst g dX11_mark_25 ⟨by decide, by decide⟩ ?_
        exact S_ireturn g dX11_mark_26 rfl

def XX11_best (x0 : Int) (h : Hp) : OR :=
  cal (XX5_aim x0 (-1) (-1) h) (fun r1 h2 => if r1 = 0 then some ((-1), h2) else cal (XX11_refreshBoth h2) (fun r3 h4 => cal (XX1_learn h4) (fun r5 h6 => cal (XX4_search 17 x0 h6) (fun r7 h8 => if r7 = 0 then cal (XX7_drop h8) (fun r11 h12 => some ((-4), h12)) else cal (XX7_keep h8) (fun r9 h10 => some ((h10 53 8), h10))))))
theorem sX11_best {G : GG} {w : Wd} (hw : okX w) (x0 : Int) (h : Hp) : SC G w yX11_best (Cond.code yX11_best cX11_best 2 (Option.some Jvm.ClassFile.FieldType.int)) 19 0 [vP 16, vI x0] (XX11_best x0 h) h := by
  refine SC_of (own := "GatePatch") plain_GP rfl (Nat.le_of_ble_eq_true rfl) (fun Γ hG g => ?_)
  subst hG
  show Sim Γ w 0 _ h 0 [(0, vP 16), (1, vI x0)] []
  unfold XX11_best
  refine S_aload_n (kk := 0) g dX11_best_0 rfl rfl ?_
  refine S_getr g dX11_best_1 fl_GP_33 (at_16 hw) rfl (rc_16_3 hw) ?_
  refine S_iload_n (kk := 1) g dX11_best_4 rfl rfl ?_
  refine S_iconst g dX11_best_5 ⟨by decide, by decide⟩ ?_
  refine S_iconst g dX11_best_6 ⟨by decide, by decide⟩ ?_
  refine S_callVi (As := [vI x0, vI (-1), vI (-1)]) g dX11_best_7 (sX5_aim hw _ _ _ _) rfl (at_40 hw) rfl im_X5_aim se_X5_aim cw_X5_aim ml_GP_225 ini_Mender nd_X5_aim ⟨by decide, by decide⟩ (Nat.le_of_ble_eq_true rfl) (fun r1 h2 => ?_)
  refine S_if_ne (tgt := 15) g dX11_best_10 (by decide) ?_ ?_
  · refine S_aload_n (kk := 0) g dX11_best_15 rfl rfl ?_
    refine S_callVv (As := []) g dX11_best_16 (sX11_refreshBoth hw  _) rfl (at_16 hw) rfl im_X11_refreshBoth se_X11_refreshBoth cw_X11_refreshBoth ml_GP_218 ini_GP nd_X11_refreshBoth ⟨by decide, by decide⟩ (Nat.le_of_ble_eq_true rfl) (fun r3 h4 => ?_)
    refine S_aload_n (kk := 0) g dX11_best_19 rfl rfl ?_
    refine S_getr g dX11_best_20 fl_GP_42 (at_16 hw) rfl (rc_16_4 hw) ?_
    refine S_aload_n (kk := 0) g dX11_best_23 rfl rfl ?_
    refine S_getr g dX11_best_24 fl_GP_33 (at_16 hw) rfl (rc_16_3 hw) ?_
    refine S_callVv (As := [vP 40]) g dX11_best_27 (sX1_learn hw  _) rfl (at_45 hw) rfl im_X1_learn se_X1_learn cw_X1_learn ml_GP_288 ini_Finder nd_X1_learn ⟨by decide, by decide⟩ (Nat.le_of_ble_eq_true rfl) (fun r5 h6 => ?_)
    refine S_aload_n (kk := 0) g dX11_best_30 rfl rfl ?_
    refine S_getr g dX11_best_31 fl_GP_49 (at_16 hw) rfl (rc_16_5 hw) ?_
    refine S_aload_n (kk := 0) g dX11_best_34 rfl rfl ?_
    refine S_getr g dX11_best_35 fl_GP_42 (at_16 hw) rfl (rc_16_4 hw) ?_
    refine S_aload_n (kk := 0) g dX11_best_38 rfl rfl ?_
    refine S_getr g dX11_best_39 fl_GP_14 (at_16 hw) rfl (rc_16_0 hw) ?_
    refine S_iload_n (kk := 1) g dX11_best_42 rfl rfl ?_
    refine S_callVi (As := [vP 45, vP 17, vI x0]) g dX11_best_43 (sX4_search hw 17 (nt_17 hw) _ _) rfl (at_53 hw) rfl im_X4_search se_X4_search cw_X4_search ml_GP_318 ini_Marks nd_X4_search ⟨by decide, by decide⟩ (Nat.le_of_ble_eq_true rfl) (fun r7 h8 => ?_)
    refine S_if_ne (tgt := 59) g dX11_best_46 (by decide) ?_ ?_
    · refine S_aload_n (kk := 0) g dX11_best_59 rfl rfl ?_
      refine S_getr g dX11_best_60 fl_GP_56 (at_16 hw) rfl (rc_16_6 hw) ?_
      refine S_aload_n (kk := 0) g dX11_best_63 rfl rfl ?_
      refine S_getr g dX11_best_64 fl_GP_42 (at_16 hw) rfl (rc_16_4 hw) ?_
      refine S_callVv (As := [vP 45]) g dX11_best_67 (sX7_keep hw  _) rfl (at_56 hw) rfl im_X7_keep se_X7_keep cw_X7_keep ml_GP_304 ini_Patch nd_X7_keep ⟨by decide, by decide⟩ (Nat.le_of_ble_eq_true rfl) (fun r9 h10 => ?_)
      refine S_aload_n (kk := 0) g dX11_best_70 rfl rfl ?_
      refine S_getr g dX11_best_71 fl_GP_49 (at_16 hw) rfl (rc_16_5 hw) ?_
      refine S_geti g dX11_best_74 fl_GP_321 (at_53 hw) (Or.inl rfl) ?_
      exact S_ireturn g dX11_best_77 rfl
    · refine S_aload_n (kk := 0) g dX11_best_49 rfl rfl ?_
      refine S_getr g dX11_best_50 fl_GP_56 (at_16 hw) rfl (rc_16_6 hw) ?_
      refine S_callVv (As := []) g dX11_best_53 (sX7_drop hw.1  _) rfl (at_56 hw) rfl im_X7_drop se_X7_drop cw_X7_drop ml_GP_103 ini_Patch nd_X7_drop ⟨by decide, by decide⟩ (Nat.le_of_ble_eq_true rfl) (fun r11 h12 => ?_)
      refine S_bipush g dX11_best_56 ⟨by decide, by decide⟩ rfl ?_
      exact S_ireturn g dX11_best_58 rfl
  · refine S_iconst g dX11_best_13 ⟨by decide, by decide⟩ ?_
    exact S_ireturn g dX11_best_14 rfl

def XX11_patched (x0 : Int) (h : Hp) : OR :=
  if (h 56 0) = 0 then some ((-1), h) else if x0 = 0 then some ((h 56 8), h) else if x0 = 1 then some ((h 56 3), h) else if x0 = 2 then some ((h 56 5), h) else if x0 = 3 then if (h 56 1) = 0 then some (0, h) else some (1, h) else some ((-1), h)
theorem sX11_patched {G : GG} {w : Wd} (hw : okX w) (x0 : Int) (h : Hp) : SC G w yX11_patched (Cond.code yX11_patched cX11_patched 2 (Option.some Jvm.ClassFile.FieldType.int)) 1 0 [vP 16, vI x0] (XX11_patched x0 h) h := by
  refine SC_of (own := "GatePatch") plain_GP rfl (Nat.le_of_ble_eq_true rfl) (fun Γ hG g => ?_)
  subst hG
  show Sim Γ w 0 _ h 0 [(0, vP 16), (1, vI x0)] []
  unfold XX11_patched
  refine S_aload_n (kk := 0) g dX11_patched_0 rfl rfl ?_
  refine S_getr g dX11_patched_1 fl_GP_56 (at_16 hw) rfl (rc_16_6 hw) ?_
  refine S_geti g dX11_patched_4 fl_GP_324 (at_56 hw) (Or.inr rfl) ?_
  refine S_if_ne (tgt := 12) g dX11_patched_7 (by decide) ?_ ?_
  · refine S_iload_n (kk := 1) g dX11_patched_12 rfl rfl ?_
    refine S_ite (fun c1 => ?_) (fun c1 => ?_)
    · refine S_tabIn (tgt := 44) g dX11_patched_13 0 c1 (by decide) (by decide) rfl (by decide) ?_
      refine S_aload_n (kk := 0) g dX11_patched_44 rfl rfl ?_
      refine S_getr g dX11_patched_45 fl_GP_56 (at_16 hw) rfl (rc_16_6 hw) ?_
      refine S_geti g dX11_patched_48 fl_GP_328 (at_56 hw) (Or.inl rfl) ?_
      exact S_ireturn g dX11_patched_51 rfl
    · skip
      refine S_ite (fun c2 => ?_) (fun c2 => ?_)
      · refine S_tabIn (tgt := 52) g dX11_patched_13 1 c2 (by decide) (by decide) rfl (by decide) ?_
        refine S_aload_n (kk := 0) g dX11_patched_52 rfl rfl ?_
        refine S_getr g dX11_patched_53 fl_GP_56 (at_16 hw) rfl (rc_16_6 hw) ?_
        refine S_geti g dX11_patched_56 fl_GP_331 (at_56 hw) (Or.inl rfl) ?_
        exact S_ireturn g dX11_patched_59 rfl
      · skip
        refine S_ite (fun c3 => ?_) (fun c3 => ?_)
        · refine S_tabIn (tgt := 60) g dX11_patched_13 2 c3 (by decide) (by decide) rfl (by decide) ?_
          refine S_aload_n (kk := 0) g dX11_patched_60 rfl rfl ?_
          refine S_getr g dX11_patched_61 fl_GP_56 (at_16 hw) rfl (rc_16_6 hw) ?_
          refine S_geti g dX11_patched_64 fl_GP_333 (at_56 hw) (Or.inl rfl) ?_
          exact S_ireturn g dX11_patched_67 rfl
        · skip
          refine S_ite (fun c4 => ?_) (fun c4 => ?_)
          · refine S_tabIn (tgt := 68) g dX11_patched_13 3 c4 (by decide) (by decide) rfl (by decide) ?_
            refine S_aload_n (kk := 0) g dX11_patched_68 rfl rfl ?_
            refine S_getr g dX11_patched_69 fl_GP_56 (at_16 hw) rfl (rc_16_6 hw) ?_
            refine S_geti g dX11_patched_72 fl_GP_336 (at_56 hw) (Or.inr rfl) ?_
            refine S_if_eq (tgt := 82) g dX11_patched_75 (by decide) ?_ ?_
            · refine S_iconst g dX11_patched_82 ⟨by decide, by decide⟩ ?_
              exact S_ireturn g dX11_patched_83 rfl
            · refine S_iconst g dX11_patched_78 ⟨by decide, by decide⟩ ?_
              refine S_goto (tgt := 83) g dX11_patched_79 (by decide) ?_
              exact S_ireturn g dX11_patched_83 rfl
          · skip
            refine S_tabOut (tgt := 84) g dX11_patched_13 (by omega) (by decide) ?_
            refine S_iconst g dX11_patched_84 ⟨by decide, by decide⟩ ?_
            exact S_ireturn g dX11_patched_85 rfl
  · refine S_iconst g dX11_patched_10 ⟨by decide, by decide⟩ ?_
    exact S_ireturn g dX11_patched_11 rfl

def XX11_function_p25   (h : Hp) : OR :=
  some ((-1), h)
def XX11_function (x0 : Int) (h : Hp) : OR :=
  if (h 56 0) = 0 then XX11_function_p25 h else if x0 < 0 then XX11_function_p25 h else if x0 < (h 56 3) then inb x0 2 (some ((h 59 x0.toNat), h)) else XX11_function_p25 h
theorem sX11_function_p25 {Γ : Cx} {w : Wd} (hw : okX w) (g : Gd Γ cX11_function 2 "GatePatch" (Option.some Jvm.ClassFile.FieldType.int) (rmd 1))   (h : Hp) : Sim Γ w 0 (XX11_function_p25    h) h 25 [] [] := by
  unfold XX11_function_p25
  refine S_iconst g dX11_function_25 ⟨by decide, by decide⟩ ?_
  refine S_goto (tgt := 38) g dX11_function_26 (by decide) ?_
  exact S_ireturn g dX11_function_38 rfl

theorem sX11_function {G : GG} {w : Wd} (hw : okX w) (x0 : Int) (h : Hp) : SC G w yX11_function (Cond.code yX11_function cX11_function 2 (Option.some Jvm.ClassFile.FieldType.int)) 1 0 [vP 16, vI x0] (XX11_function x0 h) h := by
  refine SC_of (own := "GatePatch") plain_GP rfl (Nat.le_of_ble_eq_true rfl) (fun Γ hG g => ?_)
  subst hG
  show Sim Γ w 0 _ h 0 [(0, vP 16), (1, vI x0)] []
  unfold XX11_function
  refine S_aload_n (kk := 0) g dX11_function_0 rfl rfl ?_
  refine S_getr g dX11_function_1 fl_GP_56 (at_16 hw) rfl (rc_16_6 hw) ?_
  refine S_geti g dX11_function_4 fl_GP_324 (at_56 hw) (Or.inr rfl) ?_
  refine S_if_eq (tgt := 25) g dX11_function_7 (by decide) ?_ ?_
  · refine S_sub g [] rfl ?_
    exact sX11_function_p25 hw g _
  · refine S_iload_n (kk := 1) g dX11_function_10 rfl rfl ?_
    refine S_if_lt (tgt := 25) g dX11_function_11 (by decide) ?_ ?_
    · refine S_sub g [] rfl ?_
      exact sX11_function_p25 hw g _
    · refine S_iload_n (kk := 1) g dX11_function_14 rfl rfl ?_
      refine S_aload_n (kk := 0) g dX11_function_15 rfl rfl ?_
      refine S_getr g dX11_function_16 fl_GP_56 (at_16 hw) rfl (rc_16_6 hw) ?_
      refine S_geti g dX11_function_19 fl_GP_331 (at_56 hw) (Or.inl rfl) ?_
      refine S_icmp_lt (tgt := 29) g dX11_function_22 (by decide) ?_ ?_
      · refine S_aload_n (kk := 0) g dX11_function_29 rfl rfl ?_
        refine S_getr g dX11_function_30 fl_GP_56 (at_16 hw) rfl (rc_16_6 hw) ?_
        refine S_getr g dX11_function_33 fl_GP_339 (at_56 hw) rfl (rc_56_6 hw) ?_
        refine S_iload_n (kk := 1) g dX11_function_36 rfl rfl ?_
        refine S_iaload g dX11_function_37 (at_59 hw) ?_
        exact S_ireturn g dX11_function_38 rfl
      · refine S_sub g [] rfl ?_
        exact sX11_function_p25 hw g _

def XX11_told_p25   (h : Hp) : OR :=
  some ((-1), h)
def XX11_told (x0 : Int) (h : Hp) : OR :=
  if (h 56 0) = 0 then XX11_told_p25 h else if x0 < 0 then XX11_told_p25 h else if x0 < (h 56 5) then inb x0 3 (some ((h 58 x0.toNat), h)) else XX11_told_p25 h
theorem sX11_told_p25 {Γ : Cx} {w : Wd} (hw : okX w) (g : Gd Γ cX11_told 2 "GatePatch" (Option.some Jvm.ClassFile.FieldType.int) (rmd 1))   (h : Hp) : Sim Γ w 0 (XX11_told_p25    h) h 25 [] [] := by
  unfold XX11_told_p25
  refine S_iconst g dX11_told_25 ⟨by decide, by decide⟩ ?_
  refine S_goto (tgt := 38) g dX11_told_26 (by decide) ?_
  exact S_ireturn g dX11_told_38 rfl

theorem sX11_told {G : GG} {w : Wd} (hw : okX w) (x0 : Int) (h : Hp) : SC G w yX11_told (Cond.code yX11_told cX11_told 2 (Option.some Jvm.ClassFile.FieldType.int)) 1 0 [vP 16, vI x0] (XX11_told x0 h) h := by
  refine SC_of (own := "GatePatch") plain_GP rfl (Nat.le_of_ble_eq_true rfl) (fun Γ hG g => ?_)
  subst hG
  show Sim Γ w 0 _ h 0 [(0, vP 16), (1, vI x0)] []
  unfold XX11_told
  refine S_aload_n (kk := 0) g dX11_told_0 rfl rfl ?_
  refine S_getr g dX11_told_1 fl_GP_56 (at_16 hw) rfl (rc_16_6 hw) ?_
  refine S_geti g dX11_told_4 fl_GP_324 (at_56 hw) (Or.inr rfl) ?_
  refine S_if_eq (tgt := 25) g dX11_told_7 (by decide) ?_ ?_
  · refine S_sub g [] rfl ?_
    exact sX11_told_p25 hw g _
  · refine S_iload_n (kk := 1) g dX11_told_10 rfl rfl ?_
    refine S_if_lt (tgt := 25) g dX11_told_11 (by decide) ?_ ?_
    · refine S_sub g [] rfl ?_
      exact sX11_told_p25 hw g _
    · refine S_iload_n (kk := 1) g dX11_told_14 rfl rfl ?_
      refine S_aload_n (kk := 0) g dX11_told_15 rfl rfl ?_
      refine S_getr g dX11_told_16 fl_GP_56 (at_16 hw) rfl (rc_16_6 hw) ?_
      refine S_geti g dX11_told_19 fl_GP_333 (at_56 hw) (Or.inl rfl) ?_
      refine S_icmp_lt (tgt := 29) g dX11_told_22 (by decide) ?_ ?_
      · refine S_aload_n (kk := 0) g dX11_told_29 rfl rfl ?_
        refine S_getr g dX11_told_30 fl_GP_56 (at_16 hw) rfl (rc_16_6 hw) ?_
        refine S_getr g dX11_told_33 fl_GP_342 (at_56 hw) rfl (rc_56_4 hw) ?_
        refine S_iload_n (kk := 1) g dX11_told_36 rfl rfl ?_
        refine S_iaload g dX11_told_37 (at_58 hw) ?_
        exact S_ireturn g dX11_told_38 rfl
      · refine S_sub g [] rfl ?_
        exact sX11_told_p25 hw g _

def XX11_node (x0 : Int) (x1 : Int) (h : Hp) : OR :=
  if (h 56 0) = 0 then some ((-1), h) else if x0 < 0 then some ((-1), h) else if x0 < (h 56 8) then if x1 = 0 then inb x0 8 (some ((h 61 x0.toNat), h)) else if x1 = 1 then inb x0 8 (some ((h 62 x0.toNat), h)) else if x1 = 2 then inb x0 8 (some ((h 63 x0.toNat), h)) else if x1 = 3 then inb x0 8 (some ((h 64 x0.toNat), h)) else if x1 = 4 then if (h 56 1) = 0 then some ((-2), h) else inb x0 8 (some ((h 65 x0.toNat), h)) else some ((-1), h) else some ((-1), h)
theorem sX11_node {G : GG} {w : Wd} (hw : okX w) (x0 : Int) (x1 : Int) (h : Hp) : SC G w yX11_node (Cond.code yX11_node cX11_node 3 (Option.some Jvm.ClassFile.FieldType.int)) 1 0 [vP 16, vI x0, vI x1] (XX11_node x0 x1 h) h := by
  refine SC_of (own := "GatePatch") plain_GP rfl (Nat.le_of_ble_eq_true rfl) (fun Γ hG g => ?_)
  subst hG
  show Sim Γ w 0 _ h 0 [(0, vP 16), (1, vI x0), (2, vI x1)] []
  unfold XX11_node
  refine S_aload_n (kk := 0) g dX11_node_0 rfl rfl ?_
  refine S_getr g dX11_node_1 fl_GP_56 (at_16 hw) rfl (rc_16_6 hw) ?_
  refine S_geti g dX11_node_4 fl_GP_324 (at_56 hw) (Or.inr rfl) ?_
  refine S_if_eq (tgt := 25) g dX11_node_7 (by decide) ?_ ?_
  · refine S_iconst g dX11_node_25 ⟨by decide, by decide⟩ ?_
    exact S_ireturn g dX11_node_26 rfl
  · refine S_iload_n (kk := 1) g dX11_node_10 rfl rfl ?_
    refine S_if_lt (tgt := 25) g dX11_node_11 (by decide) ?_ ?_
    · refine S_iconst g dX11_node_25 ⟨by decide, by decide⟩ ?_
      exact S_ireturn g dX11_node_26 rfl
    · refine S_iload_n (kk := 1) g dX11_node_14 rfl rfl ?_
      refine S_aload_n (kk := 0) g dX11_node_15 rfl rfl ?_
      refine S_getr g dX11_node_16 fl_GP_56 (at_16 hw) rfl (rc_16_6 hw) ?_
      refine S_geti g dX11_node_19 fl_GP_328 (at_56 hw) (Or.inl rfl) ?_
      refine S_icmp_lt (tgt := 27) g dX11_node_22 (by decide) ?_ ?_
      · refine S_iload_n (kk := 2) g dX11_node_27 rfl rfl ?_
        refine S_ite (fun c1 => ?_) (fun c1 => ?_)
        · refine S_tabIn (tgt := 64) g dX11_node_28 0 c1 (by decide) (by decide) rfl (by decide) ?_
          refine S_aload_n (kk := 0) g dX11_node_64 rfl rfl ?_
          refine S_getr g dX11_node_65 fl_GP_56 (at_16 hw) rfl (rc_16_6 hw) ?_
          refine S_getr g dX11_node_68 fl_GP_345 (at_56 hw) rfl (rc_56_9 hw) ?_
          refine S_iload_n (kk := 1) g dX11_node_71 rfl rfl ?_
          refine S_iaload g dX11_node_72 (at_61 hw) ?_
          exact S_ireturn g dX11_node_73 rfl
        · skip
          refine S_ite (fun c2 => ?_) (fun c2 => ?_)
          · refine S_tabIn (tgt := 74) g dX11_node_28 1 c2 (by decide) (by decide) rfl (by decide) ?_
            refine S_aload_n (kk := 0) g dX11_node_74 rfl rfl ?_
            refine S_getr g dX11_node_75 fl_GP_56 (at_16 hw) rfl (rc_16_6 hw) ?_
            refine S_getr g dX11_node_78 fl_GP_348 (at_56 hw) rfl (rc_56_10 hw) ?_
            refine S_iload_n (kk := 1) g dX11_node_81 rfl rfl ?_
            refine S_iaload g dX11_node_82 (at_62 hw) ?_
            exact S_ireturn g dX11_node_83 rfl
          · skip
            refine S_ite (fun c3 => ?_) (fun c3 => ?_)
            · refine S_tabIn (tgt := 84) g dX11_node_28 2 c3 (by decide) (by decide) rfl (by decide) ?_
              refine S_aload_n (kk := 0) g dX11_node_84 rfl rfl ?_
              refine S_getr g dX11_node_85 fl_GP_56 (at_16 hw) rfl (rc_16_6 hw) ?_
              refine S_getr g dX11_node_88 fl_GP_351 (at_56 hw) rfl (rc_56_11 hw) ?_
              refine S_iload_n (kk := 1) g dX11_node_91 rfl rfl ?_
              refine S_iaload g dX11_node_92 (at_63 hw) ?_
              exact S_ireturn g dX11_node_93 rfl
            · skip
              refine S_ite (fun c4 => ?_) (fun c4 => ?_)
              · refine S_tabIn (tgt := 94) g dX11_node_28 3 c4 (by decide) (by decide) rfl (by decide) ?_
                refine S_aload_n (kk := 0) g dX11_node_94 rfl rfl ?_
                refine S_getr g dX11_node_95 fl_GP_56 (at_16 hw) rfl (rc_16_6 hw) ?_
                refine S_getr g dX11_node_98 fl_GP_354 (at_56 hw) rfl (rc_56_12 hw) ?_
                refine S_iload_n (kk := 1) g dX11_node_101 rfl rfl ?_
                refine S_iaload g dX11_node_102 (at_64 hw) ?_
                exact S_ireturn g dX11_node_103 rfl
              · skip
                refine S_ite (fun c5 => ?_) (fun c5 => ?_)
                · refine S_tabIn (tgt := 104) g dX11_node_28 4 c5 (by decide) (by decide) rfl (by decide) ?_
                  refine S_aload_n (kk := 0) g dX11_node_104 rfl rfl ?_
                  refine S_getr g dX11_node_105 fl_GP_56 (at_16 hw) rfl (rc_16_6 hw) ?_
                  refine S_geti g dX11_node_108 fl_GP_336 (at_56 hw) (Or.inr rfl) ?_
                  refine S_if_eq (tgt := 126) g dX11_node_111 (by decide) ?_ ?_
                  · refine S_bipush g dX11_node_126 ⟨by decide, by decide⟩ rfl ?_
                    exact S_ireturn g dX11_node_128 rfl
                  · refine S_aload_n (kk := 0) g dX11_node_114 rfl rfl ?_
                    refine S_getr g dX11_node_115 fl_GP_56 (at_16 hw) rfl (rc_16_6 hw) ?_
                    refine S_getr g dX11_node_118 fl_GP_357 (at_56 hw) rfl (rc_56_13 hw) ?_
                    refine S_iload_n (kk := 1) g dX11_node_121 rfl rfl ?_
                    refine S_iaload g dX11_node_122 (at_65 hw) ?_
                    refine S_goto (tgt := 128) g dX11_node_123 (by decide) ?_
                    exact S_ireturn g dX11_node_128 rfl
                · skip
                  refine S_tabOut (tgt := 129) g dX11_node_28 (by omega) (by decide) ?_
                  refine S_iconst g dX11_node_129 ⟨by decide, by decide⟩ ?_
                  exact S_ireturn g dX11_node_130 rfl
      · refine S_iconst g dX11_node_25 ⟨by decide, by decide⟩ ?_
        exact S_ireturn g dX11_node_26 rfl

def XX11_cost (x0 : Int) (x1 : Int) (h : Hp) : OR :=
  if x0 < 0 then some ((-1), h) else if 3 < x0 then some ((-1), h) else if x1 < 0 then some ((-1), h) else cal (XX2_ones x0 h) (fun r1 h2 => if x1 ≤ r1 then cal (XX2_price x0 x1 h2) (fun r3 h4 => some (r3, h4)) else some ((-1), h2))
theorem sX11_cost {G : GG} {w : Wd} (hw : okX w) (x0 : Int) (x1 : Int) (h : Hp) : SC G w yX11_cost (Cond.code yX11_cost cX11_cost 3 (Option.some Jvm.ClassFile.FieldType.int)) 2 0 [vP 16, vI x0, vI x1] (XX11_cost x0 x1 h) h := by
  refine SC_of (own := "GatePatch") plain_GP rfl (Nat.le_of_ble_eq_true rfl) (fun Γ hG g => ?_)
  subst hG
  show Sim Γ w 0 _ h 0 [(0, vP 16), (1, vI x0), (2, vI x1)] []
  unfold XX11_cost
  refine S_iload_n (kk := 1) g dX11_cost_0 rfl rfl ?_
  refine S_if_lt (tgt := 21) g dX11_cost_1 (by decide) ?_ ?_
  · refine S_iconst g dX11_cost_21 ⟨by decide, by decide⟩ ?_
    exact S_ireturn g dX11_cost_22 rfl
  · refine S_iload_n (kk := 1) g dX11_cost_4 rfl rfl ?_
    refine S_iconst g dX11_cost_5 ⟨by decide, by decide⟩ ?_
    refine S_icmp_gt (tgt := 21) g dX11_cost_6 (by decide) ?_ ?_
    · refine S_iconst g dX11_cost_21 ⟨by decide, by decide⟩ ?_
      exact S_ireturn g dX11_cost_22 rfl
    · refine S_iload_n (kk := 2) g dX11_cost_9 rfl rfl ?_
      refine S_if_lt (tgt := 21) g dX11_cost_10 (by decide) ?_ ?_
      · refine S_iconst g dX11_cost_21 ⟨by decide, by decide⟩ ?_
        exact S_ireturn g dX11_cost_22 rfl
      · refine S_iload_n (kk := 2) g dX11_cost_13 rfl rfl ?_
        refine S_iload_n (kk := 1) g dX11_cost_14 rfl rfl ?_
        refine S_callSi (As := [vI x0]) g dX11_cost_15 (sX2_ones hw _ _) rfl st_X2_ones cw_X2_ones ml_GP_360 ini_Fns nd_X2_ones ⟨by decide, by decide⟩ (Nat.le_of_ble_eq_true rfl) (fun r1 h2 => ?_)
        refine S_icmp_le (tgt := 23) g dX11_cost_18 (by decide) ?_ ?_
        · refine S_iload_n (kk := 1) g dX11_cost_23 rfl rfl ?_
          refine S_iload_n (kk := 2) g dX11_cost_24 rfl rfl ?_
          refine S_callSi (As := [vI x0, vI x1]) g dX11_cost_25 (sX2_price hw _ _ _) rfl st_X2_price cw_X2_price ml_GP_365 ini_Fns nd_X2_price ⟨by decide, by decide⟩ (Nat.le_of_ble_eq_true rfl) (fun r3 h4 => ?_)
          exact S_ireturn g dX11_cost_28 rfl
        · refine S_iconst g dX11_cost_21 ⟨by decide, by decide⟩ ?_
          exact S_ireturn g dX11_cost_22 rfl

def XX11_isPlace (x0 : Int) (x1 : Int) (h : Hp) : OR :=
  if x0 < 0 then zb 0 (some (0, h)) else if 32 ≤ x0 then zb 0 (some (0, h)) else if x1 < 0 then zb 0 (some (0, h)) else if 32 ≤ x1 then zb 0 (some (0, h)) else zb 1 (some (1, h))
theorem sX11_isPlace {G : GG} {w : Wd} (hw : okX w) (x0 : Int) (x1 : Int) (h : Hp) : SC G w yX11_isPlace (Cond.code yX11_isPlace cX11_isPlace 2 (Option.some Jvm.ClassFile.FieldType.boolean)) 1 0 [vI x0, vI x1] (XX11_isPlace x0 x1 h) h := by
  refine SC_of (own := "GatePatch") plain_GP rfl (Nat.le_of_ble_eq_true rfl) (fun Γ hG g => ?_)
  subst hG
  show Sim Γ w 0 _ h 0 [(0, vI x0), (1, vI x1)] []
  unfold XX11_isPlace
  refine S_iload_n (kk := 0) g dX11_isPlace_0 rfl rfl ?_
  refine S_if_lt (tgt := 24) g dX11_isPlace_1 (by decide) ?_ ?_
  · refine S_iconst g dX11_isPlace_24 ⟨by decide, by decide⟩ ?_
    exact S_zreturn g dX11_isPlace_25 rfl
  · refine S_iload_n (kk := 0) g dX11_isPlace_4 rfl rfl ?_
    refine S_bipush g dX11_isPlace_5 ⟨by decide, by decide⟩ rfl ?_
    refine S_icmp_ge (tgt := 24) g dX11_isPlace_7 (by decide) ?_ ?_
    · refine S_iconst g dX11_isPlace_24 ⟨by decide, by decide⟩ ?_
      exact S_zreturn g dX11_isPlace_25 rfl
    · refine S_iload_n (kk := 1) g dX11_isPlace_10 rfl rfl ?_
      refine S_if_lt (tgt := 24) g dX11_isPlace_11 (by decide) ?_ ?_
      · refine S_iconst g dX11_isPlace_24 ⟨by decide, by decide⟩ ?_
        exact S_zreturn g dX11_isPlace_25 rfl
      · refine S_iload_n (kk := 1) g dX11_isPlace_14 rfl rfl ?_
        refine S_bipush g dX11_isPlace_15 ⟨by decide, by decide⟩ rfl ?_
        refine S_icmp_ge (tgt := 24) g dX11_isPlace_17 (by decide) ?_ ?_
        · refine S_iconst g dX11_isPlace_24 ⟨by decide, by decide⟩ ?_
          exact S_zreturn g dX11_isPlace_25 rfl
        · refine S_iconst g dX11_isPlace_20 ⟨by decide, by decide⟩ ?_
          refine S_goto (tgt := 25) g dX11_isPlace_21 (by decide) ?_
          exact S_zreturn g dX11_isPlace_25 rfl

def XX11_site (x0 : Int) (x1 : Int) (x2 : Int) (h : Hp) : OR :=
  cal (XX8_isWire 18 x0 h) (fun r1 h2 => if r1 = 0 then some ((-1), h2) else cal (XX11_isPlace x1 x2 h2) (fun r3 h4 => if r3 = 0 then some ((-1), h4) else inb x0 48 (nm (h4 22 x0.toNat) (fun v5 => chk (32 * x2) (chk ((32 * x2) + x1) (inb x0 48 (hm (wr h4 22 x0.toNat ((32 * x2) + x1)) (fun h6 => cal (XX11_changed 17 h6) (fun r7 h8 => some (v5, h8))))))))))
theorem sX11_site {G : GG} {w : Wd} (hw : okX w) (x0 : Int) (x1 : Int) (x2 : Int) (h : Hp) : SC G w yX11_site (Cond.code yX11_site cX11_site 5 (Option.some Jvm.ClassFile.FieldType.int)) 3 0 [vP 16, vI x0, vI x1, vI x2] (XX11_site x0 x1 x2 h) h := by
  refine SC_of (own := "GatePatch") plain_GP rfl (Nat.le_of_ble_eq_true rfl) (fun Γ hG g => ?_)
  subst hG
  show Sim Γ w 0 _ h 0 [(0, vP 16), (1, vI x0), (2, vI x1), (3, vI x2)] []
  unfold XX11_site
  refine S_aload_n (kk := 0) g dX11_site_0 rfl rfl ?_
  refine S_getr g dX11_site_1 fl_GP_14 (at_16 hw) rfl (rc_16_0 hw) ?_
  refine S_getr g dX11_site_4 fl_GP_130 (at_17 hw) rfl (rc_17_0 hw) ?_
  refine S_iload_n (kk := 1) g dX11_site_7 rfl rfl ?_
  refine S_callVi (As := [vI x0]) g dX11_site_8 (sX8_isWire hw 18 (pl_18 hw) _ _) rfl (at_18 hw) rfl im_X8_isWire se_X8_isWire cw_X8_isWire ml_GP_158 ini_Plan nd_X8_isWire ⟨by decide, by decide⟩ (Nat.le_of_ble_eq_true rfl) (fun r1 h2 => ?_)
  refine S_if_eq (tgt := 22) g dX11_site_11 (by decide) ?_ ?_
  · refine S_iconst g dX11_site_22 ⟨by decide, by decide⟩ ?_
    exact S_ireturn g dX11_site_23 rfl
  · refine S_iload_n (kk := 2) g dX11_site_14 rfl rfl ?_
    refine S_iload_n (kk := 3) g dX11_site_15 rfl rfl ?_
    refine S_callSi (As := [vI x1, vI x2]) g dX11_site_16 (sX11_isPlace hw _ _ _) rfl st_X11_isPlace cw_X11_isPlace ml_GP_369 ini_GP nd_X11_isPlace ⟨by decide, by decide⟩ (Nat.le_of_ble_eq_true rfl) (fun r3 h4 => ?_)
    refine S_if_ne (tgt := 24) g dX11_site_19 (by decide) ?_ ?_
    · refine S_aload_n (kk := 0) g dX11_site_24 rfl rfl ?_
      refine S_getr g dX11_site_25 fl_GP_14 (at_16 hw) rfl (rc_16_0 hw) ?_
      refine S_getr g dX11_site_28 fl_GP_130 (at_17 hw) rfl (rc_17_0 hw) ?_
      refine S_getr g dX11_site_31 fl_GP_372 (at_18 hw) rfl (rc_18_7 hw) ?_
      refine S_iload_n (kk := 1) g dX11_site_34 rfl rfl ?_
      refine S_iaload g dX11_site_35 (at_22 hw) ?_
      refine S_nmI (fun v5 => ?_)
      refine S_istore g dX11_site_36 (by decide) rfl ?_
      refine S_aload_n (kk := 1) g dX11_site_38 rfl rfl ?_
      refine S_getr g dX11_site_39 fl_GP_14 (at_16 hw) rfl (rc_16_0 hw) ?_
      refine S_getr g dX11_site_42 fl_GP_130 (at_17 hw) rfl (rc_17_0 hw) ?_
      refine S_getr g dX11_site_45 fl_GP_372 (at_18 hw) rfl (rc_18_7 hw) ?_
      refine S_iload_n (kk := 2) g dX11_site_48 rfl rfl ?_
      refine S_bipush g dX11_site_49 ⟨by decide, by decide⟩ rfl ?_
      refine S_iload_n (kk := 4) g dX11_site_51 rfl rfl ?_
      refine S_imul g dX11_site_52 ?_
      refine S_iload_n (kk := 3) g dX11_site_53 rfl rfl ?_
      refine S_iadd g dX11_site_54 ?_
      refine S_iastore g dX11_site_55 (at_22 hw) (fun h6 => ?_)
      refine S_aload_n (kk := 1) g dX11_site_56 rfl rfl ?_
      refine S_aload_n (kk := 1) g dX11_site_57 rfl rfl ?_
      refine S_getr g dX11_site_58 fl_GP_14 (at_16 hw) rfl (rc_16_0 hw) ?_
      refine S_callVv (As := [vP 17]) g dX11_site_61 (sX11_changed hw 17 (nt_17 hw) _) rfl (at_16 hw) rfl im_X11_changed se_X11_changed cw_X11_changed ml_GP_150 ini_GP nd_X11_changed ⟨by decide, by decide⟩ (Nat.le_of_ble_eq_true rfl) (fun r7 h8 => ?_)
      refine S_iload (kk := 0) g dX11_site_64 rfl ?_
      exact S_ireturn g dX11_site_66 rfl
    · refine S_iconst g dX11_site_22 ⟨by decide, by decide⟩ ?_
      exact S_ireturn g dX11_site_23 rfl

def XX11_spare (x0 : Int) (x1 : Int) (x2 : Int) (h : Hp) : OR :=
  if x0 < 0 then some ((-1), h) else if 5 < x0 then some ((-1), h) else cal (XX11_isPlace x1 x2 h) (fun r1 h2 => if r1 = 0 then some ((-1), h2) else if (h2 67 0) < 12 then chk (32 * x2) (chk ((32 * x2) + x1) (cal (XX9_addSpare x0 ((32 * x2) + x1) h2) (fun r3 h4 => cal (XX7_drop h4) (fun r5 h6 => hm (wr h6 72 2 0) (fun h7 => some (r3, h7)))))) else some ((-3), h2))
theorem sX11_spare {G : GG} {w : Wd} (hw : okX w) (x0 : Int) (x1 : Int) (x2 : Int) (h : Hp) : SC G w yX11_spare (Cond.code yX11_spare cX11_spare 5 (Option.some Jvm.ClassFile.FieldType.int)) 2 0 [vP 16, vI x0, vI x1, vI x2] (XX11_spare x0 x1 x2 h) h := by
  refine SC_of (own := "GatePatch") plain_GP rfl (Nat.le_of_ble_eq_true rfl) (fun Γ hG g => ?_)
  subst hG
  show Sim Γ w 0 _ h 0 [(0, vP 16), (1, vI x0), (2, vI x1), (3, vI x2)] []
  unfold XX11_spare
  refine S_iload_n (kk := 1) g dX11_spare_0 rfl rfl ?_
  refine S_if_lt (tgt := 17) g dX11_spare_1 (by decide) ?_ ?_
  · refine S_iconst g dX11_spare_17 ⟨by decide, by decide⟩ ?_
    exact S_ireturn g dX11_spare_18 rfl
  · refine S_iload_n (kk := 1) g dX11_spare_4 rfl rfl ?_
    refine S_iconst g dX11_spare_5 ⟨by decide, by decide⟩ ?_
    refine S_icmp_gt (tgt := 17) g dX11_spare_6 (by decide) ?_ ?_
    · refine S_iconst g dX11_spare_17 ⟨by decide, by decide⟩ ?_
      exact S_ireturn g dX11_spare_18 rfl
    · refine S_iload_n (kk := 2) g dX11_spare_9 rfl rfl ?_
      refine S_iload_n (kk := 3) g dX11_spare_10 rfl rfl ?_
      refine S_callSi (As := [vI x1, vI x2]) g dX11_spare_11 (sX11_isPlace hw _ _ _) rfl st_X11_isPlace cw_X11_isPlace ml_GP_369 ini_GP nd_X11_isPlace ⟨by decide, by decide⟩ (Nat.le_of_ble_eq_true rfl) (fun r1 h2 => ?_)
      refine S_if_ne (tgt := 19) g dX11_spare_14 (by decide) ?_ ?_
      · refine S_aload_n (kk := 0) g dX11_spare_19 rfl rfl ?_
        refine S_getr g dX11_spare_20 fl_GP_63 (at_16 hw) rfl (rc_16_7 hw) ?_
        refine S_geti g dX11_spare_23 fl_GP_375 (at_67 hw) (Or.inl rfl) ?_
        refine S_bipush g dX11_spare_26 ⟨by decide, by decide⟩ rfl ?_
        refine S_icmp_lt (tgt := 34) g dX11_spare_28 (by decide) ?_ ?_
        · refine S_aload_n (kk := 0) g dX11_spare_34 rfl rfl ?_
          refine S_getr g dX11_spare_35 fl_GP_63 (at_16 hw) rfl (rc_16_7 hw) ?_
          refine S_iload_n (kk := 1) g dX11_spare_38 rfl rfl ?_
          refine S_bipush g dX11_spare_39 ⟨by decide, by decide⟩ rfl ?_
          refine S_iload_n (kk := 3) g dX11_spare_41 rfl rfl ?_
          refine S_imul g dX11_spare_42 ?_
          refine S_iload_n (kk := 2) g dX11_spare_43 rfl rfl ?_
          refine S_iadd g dX11_spare_44 ?_
          refine S_callVi (As := [vI x0, vI ((32 * x2) + x1)]) g dX11_spare_45 (sX9_addSpare hw _ _ _) rfl (at_67 hw) rfl im_X9_addSpare se_X9_addSpare cw_X9_addSpare ml_GP_376 ini_Spares nd_X9_addSpare ⟨by decide, by decide⟩ (Nat.le_of_ble_eq_true rfl) (fun r3 h4 => ?_)
          refine S_istore g dX11_spare_48 (by decide) rfl ?_
          refine S_aload_n (kk := 1) g dX11_spare_50 rfl rfl ?_
          refine S_getr g dX11_spare_51 fl_GP_56 (at_16 hw) rfl (rc_16_6 hw) ?_
          refine S_callVv (As := []) g dX11_spare_54 (sX7_drop hw.1  _) rfl (at_56 hw) rfl im_X7_drop se_X7_drop cw_X7_drop ml_GP_103 ini_Patch nd_X7_drop ⟨by decide, by decide⟩ (Nat.le_of_ble_eq_true rfl) (fun r5 h6 => ?_)
          refine S_aload_n (kk := 1) g dX11_spare_57 rfl rfl ?_
          refine S_getr g dX11_spare_58 fl_GP_70 (at_16 hw) rfl (rc_16_8 hw) ?_
          refine S_iconst g dX11_spare_61 ⟨by decide, by decide⟩ ?_
          refine S_puti g dX11_spare_62 fp_GP_215 (at_72 hw) rfl (fun h7 => ?_)
          refine S_iload (kk := 0) g dX11_spare_65 rfl ?_
          exact S_ireturn g dX11_spare_67 rfl
        · refine S_bipush g dX11_spare_31 ⟨by decide, by decide⟩ rfl ?_
          exact S_ireturn g dX11_spare_33 rfl
      · refine S_iconst g dX11_spare_17 ⟨by decide, by decide⟩ ?_
        exact S_ireturn g dX11_spare_18 rfl

def XX11_place  (h : Hp) : OR :=
  if (h 56 0) = 0 then some ((-1), h) else cal (XX9_settle 22 h) (fun r1 h2 => some (r1, h2))
theorem sX11_place {G : GG} {w : Wd} (hw : okX w)  (h : Hp) : SC G w yX11_place (Cond.code yX11_place cX11_place 1 (Option.some Jvm.ClassFile.FieldType.int)) 6 0 [vP 16] (XX11_place  h) h := by
  refine SC_of (own := "GatePatch") plain_GP rfl (Nat.le_of_ble_eq_true rfl) (fun Γ hG g => ?_)
  subst hG
  show Sim Γ w 0 _ h 0 [(0, vP 16)] []
  unfold XX11_place
  refine S_aload_n (kk := 0) g dX11_place_0 rfl rfl ?_
  refine S_getr g dX11_place_1 fl_GP_56 (at_16 hw) rfl (rc_16_6 hw) ?_
  refine S_geti g dX11_place_4 fl_GP_324 (at_56 hw) (Or.inr rfl) ?_
  refine S_if_eq (tgt := 34) g dX11_place_7 (by decide) ?_ ?_
  · refine S_iconst g dX11_place_34 ⟨by decide, by decide⟩ ?_
    exact S_ireturn g dX11_place_35 rfl
  · refine S_aload_n (kk := 0) g dX11_place_10 rfl rfl ?_
    refine S_getr g dX11_place_11 fl_GP_63 (at_16 hw) rfl (rc_16_7 hw) ?_
    refine S_aload_n (kk := 0) g dX11_place_14 rfl rfl ?_
    refine S_getr g dX11_place_15 fl_GP_56 (at_16 hw) rfl (rc_16_6 hw) ?_
    refine S_aload_n (kk := 0) g dX11_place_18 rfl rfl ?_
    refine S_getr g dX11_place_19 fl_GP_14 (at_16 hw) rfl (rc_16_0 hw) ?_
    refine S_getr g dX11_place_22 fl_GP_130 (at_17 hw) rfl (rc_17_0 hw) ?_
    refine S_getr g dX11_place_25 fl_GP_372 (at_18 hw) rfl (rc_18_7 hw) ?_
    refine S_callVi (As := [vP 56, vP 22]) g dX11_place_28 (sX9_settle hw 22 (at_22 hw) _) rfl (at_67 hw) rfl im_X9_settle se_X9_settle cw_X9_settle ml_GP_379 ini_Spares nd_X9_settle ⟨by decide, by decide⟩ (Nat.le_of_ble_eq_true rfl) (fun r1 h2 => ?_)
    refine S_goto (tgt := 35) g dX11_place_31 (by decide) ?_
    exact S_ireturn g dX11_place_35 rfl

def XX11_used_p15   (h : Hp) : OR :=
  some ((-1), h)
def XX11_used (x0 : Int) (h : Hp) : OR :=
  if x0 < 0 then XX11_used_p15 h else if x0 < (h 67 0) then some ((aand (ashr (h 67 1) x0) 1), h) else XX11_used_p15 h
theorem sX11_used_p15 {Γ : Cx} {w : Wd} (hw : okX w) (g : Gd Γ cX11_used 2 "GatePatch" (Option.some Jvm.ClassFile.FieldType.int) (rmd 1))   (h : Hp) : Sim Γ w 0 (XX11_used_p15    h) h 15 [] [] := by
  unfold XX11_used_p15
  refine S_iconst g dX11_used_15 ⟨by decide, by decide⟩ ?_
  refine S_goto (tgt := 30) g dX11_used_16 (by decide) ?_
  exact S_ireturn g dX11_used_30 rfl

theorem sX11_used {G : GG} {w : Wd} (hw : okX w) (x0 : Int) (h : Hp) : SC G w yX11_used (Cond.code yX11_used cX11_used 2 (Option.some Jvm.ClassFile.FieldType.int)) 1 0 [vP 16, vI x0] (XX11_used x0 h) h := by
  refine SC_of (own := "GatePatch") plain_GP rfl (Nat.le_of_ble_eq_true rfl) (fun Γ hG g => ?_)
  subst hG
  show Sim Γ w 0 _ h 0 [(0, vP 16), (1, vI x0)] []
  unfold XX11_used
  refine S_iload_n (kk := 1) g dX11_used_0 rfl rfl ?_
  refine S_if_lt (tgt := 15) g dX11_used_1 (by decide) ?_ ?_
  · refine S_sub g [] rfl ?_
    exact sX11_used_p15 hw g _
  · refine S_iload_n (kk := 1) g dX11_used_4 rfl rfl ?_
    refine S_aload_n (kk := 0) g dX11_used_5 rfl rfl ?_
    refine S_getr g dX11_used_6 fl_GP_63 (at_16 hw) rfl (rc_16_7 hw) ?_
    refine S_geti g dX11_used_9 fl_GP_375 (at_67 hw) (Or.inl rfl) ?_
    refine S_icmp_lt (tgt := 19) g dX11_used_12 (by decide) ?_ ?_
    · refine S_aload_n (kk := 0) g dX11_used_19 rfl rfl ?_
      refine S_getr g dX11_used_20 fl_GP_63 (at_16 hw) rfl (rc_16_7 hw) ?_
      refine S_geti g dX11_used_23 fl_GP_383 (at_67 hw) (Or.inl rfl) ?_
      refine S_iload_n (kk := 1) g dX11_used_26 rfl rfl ?_
      refine S_ishr g dX11_used_27 ?_
      refine S_iconst g dX11_used_28 ⟨by decide, by decide⟩ ?_
      refine S_iand g dX11_used_29 ?_
      exact S_ireturn g dX11_used_30 rfl
    · refine S_sub g [] rfl ?_
      exact sX11_used_p15 hw g _

def XX11_delay (x0 : Int) (x1 : Int) (h : Hp) : OR :=
  if x0 < 0 then some ((-1), h) else if 9 ≤ x0 then some ((-1), h) else if x1 < 0 then some ((-1), h) else if x1 ≤ 9 then inb x0 9 (nm (h 99 x0.toNat) (fun v1 => inb x0 9 (hm (wr h 99 x0.toNat x1) (fun h2 => some (v1, h2))))) else some ((-1), h)
theorem sX11_delay {G : GG} {w : Wd} (hw : okX w) (x0 : Int) (x1 : Int) (h : Hp) : SC G w yX11_delay (Cond.code yX11_delay cX11_delay 4 (Option.some Jvm.ClassFile.FieldType.int)) 1 0 [vP 16, vI x0, vI x1] (XX11_delay x0 x1 h) h := by
  refine SC_of (own := "GatePatch") plain_GP rfl (Nat.le_of_ble_eq_true rfl) (fun Γ hG g => ?_)
  subst hG
  show Sim Γ w 0 _ h 0 [(0, vP 16), (1, vI x0), (2, vI x1)] []
  unfold XX11_delay
  refine S_iload_n (kk := 1) g dX11_delay_0 rfl rfl ?_
  refine S_if_lt (tgt := 20) g dX11_delay_1 (by decide) ?_ ?_
  · refine S_iconst g dX11_delay_20 ⟨by decide, by decide⟩ ?_
    exact S_ireturn g dX11_delay_21 rfl
  · refine S_iload_n (kk := 1) g dX11_delay_4 rfl rfl ?_
    refine S_bipush g dX11_delay_5 ⟨by decide, by decide⟩ rfl ?_
    refine S_icmp_ge (tgt := 20) g dX11_delay_7 (by decide) ?_ ?_
    · refine S_iconst g dX11_delay_20 ⟨by decide, by decide⟩ ?_
      exact S_ireturn g dX11_delay_21 rfl
    · refine S_iload_n (kk := 2) g dX11_delay_10 rfl rfl ?_
      refine S_if_lt (tgt := 20) g dX11_delay_11 (by decide) ?_ ?_
      · refine S_iconst g dX11_delay_20 ⟨by decide, by decide⟩ ?_
        exact S_ireturn g dX11_delay_21 rfl
      · refine S_iload_n (kk := 2) g dX11_delay_14 rfl rfl ?_
        refine S_bipush g dX11_delay_15 ⟨by decide, by decide⟩ rfl ?_
        refine S_icmp_le (tgt := 22) g dX11_delay_17 (by decide) ?_ ?_
        · refine S_aload_n (kk := 0) g dX11_delay_22 rfl rfl ?_
          refine S_getr g dX11_delay_23 fl_GP_80 (at_16 hw) rfl (rc_16_10 hw) ?_
          refine S_iload_n (kk := 1) g dX11_delay_26 rfl rfl ?_
          refine S_iaload g dX11_delay_27 (at_99 hw) ?_
          refine S_nmI (fun v1 => ?_)
          refine S_istore_n g dX11_delay_28 rfl (by decide) rfl ?_
          refine S_aload_n (kk := 1) g dX11_delay_29 rfl rfl ?_
          refine S_getr g dX11_delay_30 fl_GP_80 (at_16 hw) rfl (rc_16_10 hw) ?_
          refine S_iload_n (kk := 2) g dX11_delay_33 rfl rfl ?_
          refine S_iload_n (kk := 3) g dX11_delay_34 rfl rfl ?_
          refine S_iastore g dX11_delay_35 (at_99 hw) (fun h2 => ?_)
          refine S_iload_n (kk := 0) g dX11_delay_36 rfl rfl ?_
          exact S_ireturn g dX11_delay_37 rfl
        · refine S_iconst g dX11_delay_20 ⟨by decide, by decide⟩ ?_
          exact S_ireturn g dX11_delay_21 rfl

def XX11_arrive (x0 : Int) (x1 : Int) (h : Hp) : OR :=
  cal (XX11_netOf x0 h) (fun r1 h2 => if (r1.toNat) = 0 then some ((-1), h2) else asr (r1.toNat = 17 ∨ r1.toNat = 27) (cal (XX8_isWire (r1.toNat + 1) x1 h2) (fun r4 h5 => if r4 = 0 then some ((-1), h5) else cal (XX6_refresh (r1.toNat) h5) (fun r6 h7 => cal (XX6_timeAll (r1.toNat) 99 h7) (fun r8 h9 => inb x1 48 (some ((h9 (r1.toNat + 9) x1.toNat), h9)))))))
theorem sX11_arrive {G : GG} {w : Wd} (hw : okX w) (x0 : Int) (x1 : Int) (h : Hp) : SC G w yX11_arrive (Cond.code yX11_arrive cX11_arrive 4 (Option.some Jvm.ClassFile.FieldType.int)) 4 0 [vP 16, vI x0, vI x1] (XX11_arrive x0 x1 h) h := by
  refine SC_of (own := "GatePatch") plain_GP rfl (Nat.le_of_ble_eq_true rfl) (fun Γ hG g => ?_)
  subst hG
  show Sim Γ w 0 _ h 0 [(0, vP 16), (1, vI x0), (2, vI x1)] []
  unfold XX11_arrive
  refine S_aload_n (kk := 0) g dX11_arrive_0 rfl rfl ?_
  refine S_iload_n (kk := 1) g dX11_arrive_1 rfl rfl ?_
  refine S_callVp (As := [vI x0]) g dX11_arrive_2 (sX11_netOf hw _ _) rfl (at_16 hw) rfl im_X11_netOf se_X11_netOf cw_X11_netOf ml_GP_126 ini_GP nd_X11_netOf ⟨by decide, by decide⟩ (Nat.le_of_ble_eq_true rfl) (fun r1 h2 => ?_)
  refine S_astore_n g dX11_arrive_5 rfl (by decide) rfl ?_
  refine S_aload_n (kk := 0) g dX11_arrive_6 rfl rfl ?_
  refine S_ifnull (tgt := 21) g dX11_arrive_7 (by decide) ?_ ?_
  · refine S_iconst g dX11_arrive_21 ⟨by decide, by decide⟩ ?_
    exact S_ireturn g dX11_arrive_22 rfl
  · refine S_asr (fun q3 => ?_)
    refine S_aload_n (kk := 0) g dX11_arrive_10 rfl rfl ?_
    refine S_getr g dX11_arrive_11 fl_GP_130 (nt_of hw q3).1 rfl (nt_of hw q3).2.1 ?_
    refine S_iload_n (kk := 3) g dX11_arrive_14 rfl rfl ?_
    refine S_callVi (As := [vI x1]) g dX11_arrive_15 (sX8_isWire hw (r1.toNat + 1) (nt_of hw q3).2.2.2.2.2.2.1 _ _) rfl (nt_of hw q3).2.2.2.2.2.2.1.1 rfl im_X8_isWire se_X8_isWire cw_X8_isWire ml_GP_158 ini_Plan nd_X8_isWire ⟨by decide, by decide⟩ (Nat.le_of_ble_eq_true rfl) (fun r4 h5 => ?_)
    refine S_if_ne (tgt := 23) g dX11_arrive_18 (by decide) ?_ ?_
    · refine S_aload_n (kk := 0) g dX11_arrive_23 rfl rfl ?_
      refine S_callVv (As := []) g dX11_arrive_24 (sX6_refresh hw (r1.toNat) (nt_of hw q3) _) rfl (nt_of hw q3).1 rfl im_X6_refresh se_X6_refresh cw_X6_refresh ml_GP_169 ini_Net nd_X6_refresh ⟨by decide, by decide⟩ (Nat.le_of_ble_eq_true rfl) (fun r6 h7 => ?_)
      refine S_aload_n (kk := 0) g dX11_arrive_27 rfl rfl ?_
      refine S_aload_n (kk := 1) g dX11_arrive_28 rfl rfl ?_
      refine S_getr g dX11_arrive_29 fl_GP_80 (at_16 hw) rfl (rc_16_10 hw) ?_
      refine S_callVv (As := [vP 99]) g dX11_arrive_32 (sX6_timeAll hw (r1.toNat) (nt_of hw q3) 99 (at_99 hw) _) rfl (nt_of hw q3).1 rfl im_X6_timeAll se_X6_timeAll cw_X6_timeAll ml_GP_386 ini_Net nd_X6_timeAll ⟨by decide, by decide⟩ (Nat.le_of_ble_eq_true rfl) (fun r8 h9 => ?_)
      refine S_aload_n (kk := 0) g dX11_arrive_35 rfl rfl ?_
      refine S_getr g dX11_arrive_36 fl_GP_390 (nt_of hw q3).1 rfl (nt_of hw q3).2.2.2.2.2.1 ?_
      refine S_iload_n (kk := 3) g dX11_arrive_39 rfl rfl ?_
      refine S_iaload g dX11_arrive_40 (nt_of hw q3).2.2.2.2.2.2.2.2.2.2 ?_
      exact S_ireturn g dX11_arrive_41 rfl
    · refine S_iconst g dX11_arrive_21 ⟨by decide, by decide⟩ ?_
      exact S_ireturn g dX11_arrive_22 rfl

def XX11_late_p69  (self28 : Int → Int → Int → Hp → OR) (l1 l2 l3 : Int) (h : Hp) : OR :=
  chk (l3 + 1) (self28 l1 l2 (l3 + 1) h)
def XX11_late_b28   (self28 : Int → Int → Int → Hp → OR) (l1 l2 l3 : Int) (h : Hp) : OR :=
  cal (XX8_seenCount 18 h) (fun r5 h6 => if r5 ≤ l3 then some (l2, h6) else inb l3 6 (inb (h6 21 l3.toNat) 48 (if (h6 26 (h6 21 l3.toNat).toNat) ≤ l1 then XX11_late_p69 self28 l1 l2 l3 h6 else chk (l2 + 1) (XX11_late_p69 self28 l1 (l2 + 1) l3 h6))))
def XX11_late_L28   (l1 l2 l3 : Int) (h : Hp) : OR := lup3 (XX11_late_b28 ) FU l1 l2 l3 h
def XX11_late (x0 : Int) (h : Hp) : OR :=
  if 0 ≤ x0 then cal (XX6_refresh 17 h) (fun r1 h2 => cal (XX6_timeAll 17 99 h2) (fun r3 h4 => XX11_late_L28 x0 0 0 h4)) else some ((-1), h)
theorem sX11_late_p69 {Γ : Cx} {w : Wd} (hw : okX w) (g : Gd Γ cX11_late 4 "GatePatch" (Option.some Jvm.ClassFile.FieldType.int) (rmd 4))  (self28 : Int → Int → Int → Hp → OR) (hs28 : ∀ (x0 x1 x2 : Int) (h : Hp), Sim Γ w 0 (self28 x0 x1 x2 h) h 28 [(0, vP 16), (1, vI x0), (2, vI x1), (3, vI x2)] []) (l1 l2 l3 : Int) (h : Hp) : Sim Γ w 0 (XX11_late_p69 self28 l1 l2 l3  h) h 69 [(0, vP 16), (1, vI l1), (2, vI l2), (3, vI l3)] [] := by
  unfold XX11_late_p69
  refine S_iinc (kk := 3) g dX11_late_69 rfl (by decide) rfl ?_
  refine S_goto (tgt := 28) g dX11_late_72 (by decide) ?_
  refine S_sub g [1, 2, 3, 0] rfl ?_
  exact hs28 _ _ _ _

theorem sX11_late_L28 {Γ : Cx} {w : Wd} (hw : okX w) (g : Gd Γ cX11_late 4 "GatePatch" (Option.some Jvm.ClassFile.FieldType.int) (rmd 4))   : ∀ (l1 l2 l3 : Int) (h : Hp), Sim Γ w 0 (XX11_late_L28  l1 l2 l3 h) h 28 [(0, vP 16), (1, vI l1), (2, vI l2), (3, vI l3)] [] := by
  refine S_lup3 (fun l1 l2 l3 => [(0, vP 16), (1, vI l1), (2, vI l2), (3, vI l3)]) (fun self28 hs28 l1 l2 l3 h => ?_) FU
  unfold XX11_late_b28
  refine S_iload_n (kk := 3) g dX11_late_28 rfl rfl ?_
  refine S_aload_n (kk := 0) g dX11_late_29 rfl rfl ?_
  refine S_getr g dX11_late_30 fl_GP_14 (at_16 hw) rfl (rc_16_0 hw) ?_
  refine S_getr g dX11_late_33 fl_GP_130 (at_17 hw) rfl (rc_17_0 hw) ?_
  refine S_callVi (As := []) g dX11_late_36 (sX8_seenCount hw 18 (pl_18 hw) _) rfl (at_18 hw) rfl im_X8_seenCount se_X8_seenCount cw_X8_seenCount ml_GP_393 ini_Plan nd_X8_seenCount ⟨by decide, by decide⟩ (Nat.le_of_ble_eq_true rfl) (fun r5 h6 => ?_)
  refine S_icmp_ge (tgt := 75) g dX11_late_39 (by decide) ?_ ?_
  · refine S_iload_n (kk := 2) g dX11_late_75 rfl rfl ?_
    exact S_ireturn g dX11_late_76 rfl
  · refine S_aload_n (kk := 0) g dX11_late_42 rfl rfl ?_
    refine S_getr g dX11_late_43 fl_GP_14 (at_16 hw) rfl (rc_16_0 hw) ?_
    refine S_getr g dX11_late_46 fl_GP_390 (at_17 hw) rfl (rc_17_5 hw) ?_
    refine S_aload_n (kk := 0) g dX11_late_49 rfl rfl ?_
    refine S_getr g dX11_late_50 fl_GP_14 (at_16 hw) rfl (rc_16_0 hw) ?_
    refine S_getr g dX11_late_53 fl_GP_130 (at_17 hw) rfl (rc_17_0 hw) ?_
    refine S_getr g dX11_late_56 fl_GP_188 (at_18 hw) rfl (rc_18_6 hw) ?_
    refine S_iload_n (kk := 3) g dX11_late_59 rfl rfl ?_
    refine S_iaload g dX11_late_60 (at_21 hw) ?_
    refine S_iaload g dX11_late_61 (at_26 hw) ?_
    refine S_iload_n (kk := 1) g dX11_late_62 rfl rfl ?_
    refine S_icmp_le (tgt := 69) g dX11_late_63 (by decide) ?_ ?_
    · exact sX11_late_p69 hw g self28 hs28 _ _ _ _
    · refine S_iinc (kk := 2) g dX11_late_66 rfl (by decide) rfl ?_
      refine S_sub g [1, 2, 0, 3] rfl ?_
      exact sX11_late_p69 hw g self28 hs28 _ _ _ _

theorem sX11_late {G : GG} {w : Wd} (hw : okX w) (x0 : Int) (h : Hp) : SC G w yX11_late (Cond.code yX11_late cX11_late 4 (Option.some Jvm.ClassFile.FieldType.int)) 4 0 [vP 16, vI x0] (XX11_late x0 h) h := by
  refine SC_of (own := "GatePatch") plain_GP rfl (Nat.le_of_ble_eq_true rfl) (fun Γ hG g => ?_)
  subst hG
  show Sim Γ w 0 _ h 0 [(0, vP 16), (1, vI x0)] []
  unfold XX11_late
  refine S_iload_n (kk := 1) g dX11_late_0 rfl rfl ?_
  refine S_if_ge (tgt := 6) g dX11_late_1 (by decide) ?_ ?_
  · refine S_aload_n (kk := 0) g dX11_late_6 rfl rfl ?_
    refine S_getr g dX11_late_7 fl_GP_14 (at_16 hw) rfl (rc_16_0 hw) ?_
    refine S_callVv (As := []) g dX11_late_10 (sX6_refresh hw 17 (nt_17 hw) _) rfl (at_17 hw) rfl im_X6_refresh se_X6_refresh cw_X6_refresh ml_GP_169 ini_Net nd_X6_refresh ⟨by decide, by decide⟩ (Nat.le_of_ble_eq_true rfl) (fun r1 h2 => ?_)
    refine S_aload_n (kk := 0) g dX11_late_13 rfl rfl ?_
    refine S_getr g dX11_late_14 fl_GP_14 (at_16 hw) rfl (rc_16_0 hw) ?_
    refine S_aload_n (kk := 0) g dX11_late_17 rfl rfl ?_
    refine S_getr g dX11_late_18 fl_GP_80 (at_16 hw) rfl (rc_16_10 hw) ?_
    refine S_callVv (As := [vP 99]) g dX11_late_21 (sX6_timeAll hw 17 (nt_17 hw) 99 (at_99 hw) _) rfl (at_17 hw) rfl im_X6_timeAll se_X6_timeAll cw_X6_timeAll ml_GP_386 ini_Net nd_X6_timeAll ⟨by decide, by decide⟩ (Nat.le_of_ble_eq_true rfl) (fun r3 h4 => ?_)
    refine S_iconst g dX11_late_24 ⟨by decide, by decide⟩ ?_
    refine S_istore_n g dX11_late_25 rfl (by decide) rfl ?_
    refine S_iconst g dX11_late_26 ⟨by decide, by decide⟩ ?_
    refine S_istore_n g dX11_late_27 rfl (by decide) rfl ?_
    refine S_sub g [2, 3, 1, 0] rfl ?_
    exact sX11_late_L28 hw g _ _ _ _
  · refine S_iconst g dX11_late_4 ⟨by decide, by decide⟩ ?_
    exact S_ireturn g dX11_late_5 rfl

def XX11_apply_b67   (self67 : Int → Int → Hp → OR) (l1 l2 : Int) (h : Hp) : OR :=
  if (h 56 3) ≤ l2 then cal (XX6_stale 17 h) (fun r7 h8 => cal (XX6_refresh 17 h8) (fun r9 h10 => cal (XX3_findTests 17 h10) (fun r11 h12 => cal (XX7_drop h12) (fun r13 h14 => some (l1, h14))))) else cal (XX7_addTree l2 18 h) (fun r15 h16 => inb l2 2 (cal (XX3_replace 18 (h16 57 l2.toNat) r15 h16) (fun r17 h18 => chk (l2 + 1) (self67 l1 (l2 + 1) h18))))
def XX11_apply_L67   (l1 l2 : Int) (h : Hp) : OR := lup2 (XX11_apply_b67 ) FU l1 l2 h
def XX11_apply  (h : Hp) : OR :=
  if (h 56 0) = 0 then some ((-1), h) else cal (XX7_gatesToAdd h) (fun r1 h2 => chk ((h2 18 3) + r1) (if ((h2 18 3) + r1) ≤ 40 then cal (XX6_refresh 17 h2) (fun r3 h4 => cal (XX3_open 17 (h4 67 1) h4) (fun r5 h6 => XX11_apply_L67 r1 0 h6)) else some ((-3), h2)))
theorem sX11_apply_L67 {Γ : Cx} {w : Wd} (hw : okX w) (g : Gd Γ cX11_apply 4 "GatePatch" (Option.some Jvm.ClassFile.FieldType.int) (rmd 4))   : ∀ (l1 l2 : Int) (h : Hp), Sim Γ w 0 (XX11_apply_L67  l1 l2 h) h 67 [(0, vP 16), (1, vI l1), (2, vI l2)] [] := by
  refine S_lup2 (fun l1 l2 => [(0, vP 16), (1, vI l1), (2, vI l2)]) (fun self67 hs67 l1 l2 h => ?_) FU
  unfold XX11_apply_b67
  refine S_iload_n (kk := 2) g dX11_apply_67 rfl rfl ?_
  refine S_aload_n (kk := 0) g dX11_apply_68 rfl rfl ?_
  refine S_getr g dX11_apply_69 fl_GP_56 (at_16 hw) rfl (rc_16_6 hw) ?_
  refine S_geti g dX11_apply_72 fl_GP_331 (at_56 hw) (Or.inl rfl) ?_
  refine S_icmp_ge (tgt := 128) g dX11_apply_75 (by decide) ?_ ?_
  · refine S_aload_n (kk := 0) g dX11_apply_128 rfl rfl ?_
    refine S_getr g dX11_apply_129 fl_GP_14 (at_16 hw) rfl (rc_16_0 hw) ?_
    refine S_callVv (As := []) g dX11_apply_132 (sX6_stale hw 17 (nt_17 hw) _) rfl (at_17 hw) rfl im_X6_stale se_X6_stale cw_X6_stale ml_GP_212 ini_Net nd_X6_stale ⟨by decide, by decide⟩ (Nat.le_of_ble_eq_true rfl) (fun r7 h8 => ?_)
    refine S_aload_n (kk := 0) g dX11_apply_135 rfl rfl ?_
    refine S_getr g dX11_apply_136 fl_GP_14 (at_16 hw) rfl (rc_16_0 hw) ?_
    refine S_callVv (As := []) g dX11_apply_139 (sX6_refresh hw 17 (nt_17 hw) _) rfl (at_17 hw) rfl im_X6_refresh se_X6_refresh cw_X6_refresh ml_GP_169 ini_Net nd_X6_refresh ⟨by decide, by decide⟩ (Nat.le_of_ble_eq_true rfl) (fun r9 h10 => ?_)
    refine S_aload_n (kk := 0) g dX11_apply_142 rfl rfl ?_
    refine S_getr g dX11_apply_143 fl_GP_70 (at_16 hw) rfl (rc_16_8 hw) ?_
    refine S_aload_n (kk := 0) g dX11_apply_146 rfl rfl ?_
    refine S_getr g dX11_apply_147 fl_GP_14 (at_16 hw) rfl (rc_16_0 hw) ?_
    refine S_aload_n (kk := 0) g dX11_apply_150 rfl rfl ?_
    refine S_getr g dX11_apply_151 fl_GP_24 (at_16 hw) rfl (rc_16_2 hw) ?_
    refine S_callVv (As := [vP 17, vP 37]) g dX11_apply_154 (sX3_findTests hw 17 (nt_17 hw) _) rfl (at_72 hw) rfl im_X3_findTests se_X3_findTests cw_X3_findTests ml_GP_414 ini_Journal nd_X3_findTests ⟨by decide, by decide⟩ (Nat.le_of_ble_eq_true rfl) (fun r11 h12 => ?_)
    refine S_aload_n (kk := 0) g dX11_apply_157 rfl rfl ?_
    refine S_getr g dX11_apply_158 fl_GP_56 (at_16 hw) rfl (rc_16_6 hw) ?_
    refine S_callVv (As := []) g dX11_apply_161 (sX7_drop hw.1  _) rfl (at_56 hw) rfl im_X7_drop se_X7_drop cw_X7_drop ml_GP_103 ini_Patch nd_X7_drop ⟨by decide, by decide⟩ (Nat.le_of_ble_eq_true rfl) (fun r13 h14 => ?_)
    refine S_iload_n (kk := 1) g dX11_apply_164 rfl rfl ?_
    exact S_ireturn g dX11_apply_165 rfl
  · refine S_aload_n (kk := 0) g dX11_apply_78 rfl rfl ?_
    refine S_getr g dX11_apply_79 fl_GP_56 (at_16 hw) rfl (rc_16_6 hw) ?_
    refine S_iload_n (kk := 2) g dX11_apply_82 rfl rfl ?_
    refine S_aload_n (kk := 0) g dX11_apply_83 rfl rfl ?_
    refine S_getr g dX11_apply_84 fl_GP_14 (at_16 hw) rfl (rc_16_0 hw) ?_
    refine S_getr g dX11_apply_87 fl_GP_130 (at_17 hw) rfl (rc_17_0 hw) ?_
    refine S_aload_n (kk := 0) g dX11_apply_90 rfl rfl ?_
    refine S_getr g dX11_apply_91 fl_GP_63 (at_16 hw) rfl (rc_16_7 hw) ?_
    refine S_callVi (As := [vI l2, vP 18, vP 67]) g dX11_apply_94 (sX7_addTree hw _ 18 (pl_18 hw) _) rfl (at_56 hw) rfl im_X7_addTree se_X7_addTree cw_X7_addTree ml_GP_403 ini_Patch nd_X7_addTree ⟨by decide, by decide⟩ (Nat.le_of_ble_eq_true rfl) (fun r15 h16 => ?_)
    refine S_istore_n g dX11_apply_97 rfl (by decide) rfl ?_
    refine S_aload_n (kk := 1) g dX11_apply_98 rfl rfl ?_
    refine S_getr g dX11_apply_99 fl_GP_70 (at_16 hw) rfl (rc_16_8 hw) ?_
    refine S_aload_n (kk := 1) g dX11_apply_102 rfl rfl ?_
    refine S_getr g dX11_apply_103 fl_GP_14 (at_16 hw) rfl (rc_16_0 hw) ?_
    refine S_getr g dX11_apply_106 fl_GP_130 (at_17 hw) rfl (rc_17_0 hw) ?_
    refine S_aload_n (kk := 1) g dX11_apply_109 rfl rfl ?_
    refine S_getr g dX11_apply_110 fl_GP_56 (at_16 hw) rfl (rc_16_6 hw) ?_
    refine S_getr g dX11_apply_113 fl_GP_407 (at_56 hw) rfl (rc_56_2 hw) ?_
    refine S_iload_n (kk := 3) g dX11_apply_116 rfl rfl ?_
    refine S_iaload g dX11_apply_117 (at_57 hw) ?_
    refine S_iload_n (kk := 0) g dX11_apply_118 rfl rfl ?_
    refine S_callVv (As := [vP 18, vI (h16 57 l2.toNat), vI r15]) g dX11_apply_119 (sX3_replace hw 18 (pl_18 hw) _ _ _) rfl (at_72 hw) rfl im_X3_replace se_X3_replace cw_X3_replace ml_GP_410 ini_Journal nd_X3_replace ⟨by decide, by decide⟩ (Nat.le_of_ble_eq_true rfl) (fun r17 h18 => ?_)
    refine S_iinc (kk := 3) g dX11_apply_122 rfl (by decide) rfl ?_
    refine S_goto (tgt := 67) g dX11_apply_125 (by decide) ?_
    refine S_sub g [2, 3, 0] rfl ?_
    exact hs67 _ _ _

theorem sX11_apply {G : GG} {w : Wd} (hw : okX w)  (h : Hp) : SC G w yX11_apply (Cond.code yX11_apply cX11_apply 4 (Option.some Jvm.ClassFile.FieldType.int)) 4 0 [vP 16] (XX11_apply  h) h := by
  refine SC_of (own := "GatePatch") plain_GP rfl (Nat.le_of_ble_eq_true rfl) (fun Γ hG g => ?_)
  subst hG
  show Sim Γ w 0 _ h 0 [(0, vP 16)] []
  unfold XX11_apply
  refine S_aload_n (kk := 0) g dX11_apply_0 rfl rfl ?_
  refine S_getr g dX11_apply_1 fl_GP_56 (at_16 hw) rfl (rc_16_6 hw) ?_
  refine S_geti g dX11_apply_4 fl_GP_324 (at_56 hw) (Or.inr rfl) ?_
  refine S_if_ne (tgt := 12) g dX11_apply_7 (by decide) ?_ ?_
  · refine S_aload_n (kk := 0) g dX11_apply_12 rfl rfl ?_
    refine S_getr g dX11_apply_13 fl_GP_56 (at_16 hw) rfl (rc_16_6 hw) ?_
    refine S_callVi (As := []) g dX11_apply_16 (sX7_gatesToAdd hw  _) rfl (at_56 hw) rfl im_X7_gatesToAdd se_X7_gatesToAdd cw_X7_gatesToAdd ml_GP_396 ini_Patch nd_X7_gatesToAdd ⟨by decide, by decide⟩ (Nat.le_of_ble_eq_true rfl) (fun r1 h2 => ?_)
    refine S_istore_n g dX11_apply_19 rfl (by decide) rfl ?_
    refine S_aload_n (kk := 1) g dX11_apply_20 rfl rfl ?_
    refine S_getr g dX11_apply_21 fl_GP_14 (at_16 hw) rfl (rc_16_0 hw) ?_
    refine S_getr g dX11_apply_24 fl_GP_130 (at_17 hw) rfl (rc_17_0 hw) ?_
    refine S_geti g dX11_apply_27 fl_GP_138 (at_18 hw) (Or.inl rfl) ?_
    refine S_iload_n (kk := 0) g dX11_apply_30 rfl rfl ?_
    refine S_iadd g dX11_apply_31 ?_
    refine S_bipush g dX11_apply_32 ⟨by decide, by decide⟩ rfl ?_
    refine S_icmp_le (tgt := 40) g dX11_apply_34 (by decide) ?_ ?_
    · refine S_aload_n (kk := 1) g dX11_apply_40 rfl rfl ?_
      refine S_getr g dX11_apply_41 fl_GP_14 (at_16 hw) rfl (rc_16_0 hw) ?_
      refine S_callVv (As := []) g dX11_apply_44 (sX6_refresh hw 17 (nt_17 hw) _) rfl (at_17 hw) rfl im_X6_refresh se_X6_refresh cw_X6_refresh ml_GP_169 ini_Net nd_X6_refresh ⟨by decide, by decide⟩ (Nat.le_of_ble_eq_true rfl) (fun r3 h4 => ?_)
      refine S_aload_n (kk := 1) g dX11_apply_47 rfl rfl ?_
      refine S_getr g dX11_apply_48 fl_GP_70 (at_16 hw) rfl (rc_16_8 hw) ?_
      refine S_aload_n (kk := 1) g dX11_apply_51 rfl rfl ?_
      refine S_getr g dX11_apply_52 fl_GP_14 (at_16 hw) rfl (rc_16_0 hw) ?_
      refine S_aload_n (kk := 1) g dX11_apply_55 rfl rfl ?_
      refine S_getr g dX11_apply_56 fl_GP_63 (at_16 hw) rfl (rc_16_7 hw) ?_
      refine S_geti g dX11_apply_59 fl_GP_383 (at_67 hw) (Or.inl rfl) ?_
      refine S_callVv (As := [vP 17, vI (h4 67 1)]) g dX11_apply_62 (sX3_open hw 17 (nt_17 hw) _ _) rfl (at_72 hw) rfl im_X3_open se_X3_open cw_X3_open ml_GP_399 ini_Journal nd_X3_open ⟨by decide, by decide⟩ (Nat.le_of_ble_eq_true rfl) (fun r5 h6 => ?_)
      refine S_iconst g dX11_apply_65 ⟨by decide, by decide⟩ ?_
      refine S_istore_n g dX11_apply_66 rfl (by decide) rfl ?_
      refine S_sub g [2, 1, 0] rfl ?_
      exact sX11_apply_L67 hw g _ _ _
    · refine S_bipush g dX11_apply_37 ⟨by decide, by decide⟩ rfl ?_
      exact S_ireturn g dX11_apply_39 rfl
  · refine S_iconst g dX11_apply_10 ⟨by decide, by decide⟩ ?_
    exact S_ireturn g dX11_apply_11 rfl

def XX11_oldIsReplaced  (h : Hp) : OR :=
  cal (XX6_stale 17 h) (fun r1 h2 => cal (XX8_wires 18 h2) (fun r3 h4 => cal (XX4_forgetFrom r3 h4) (fun r5 h6 => cal (XX7_drop h6) (fun r7 h8 => some (0, h8)))))
theorem sX11_oldIsReplaced {G : GG} {w : Wd} (hw : okX w)  (h : Hp) : SC G w yX11_oldIsReplaced (Cond.code yX11_oldIsReplaced cX11_oldIsReplaced 1 (Option.none : Option Jvm.ClassFile.FieldType)) 3 3 [vP 16] (XX11_oldIsReplaced  h) h := by
  refine SC_of (own := "GatePatch") plain_GP rfl (Nat.le_of_ble_eq_true rfl) (fun Γ hG g => ?_)
  subst hG
  show Sim Γ w 3 _ h 0 [(0, vP 16)] []
  unfold XX11_oldIsReplaced
  refine S_aload_n (kk := 0) g dX11_oldIsReplaced_0 rfl rfl ?_
  refine S_getr g dX11_oldIsReplaced_1 fl_GP_14 (at_16 hw) rfl (rc_16_0 hw) ?_
  refine S_callVv (As := []) g dX11_oldIsReplaced_4 (sX6_stale hw 17 (nt_17 hw) _) rfl (at_17 hw) rfl im_X6_stale se_X6_stale cw_X6_stale ml_GP_212 ini_Net nd_X6_stale ⟨by decide, by decide⟩ (Nat.le_of_ble_eq_true rfl) (fun r1 h2 => ?_)
  refine S_aload_n (kk := 0) g dX11_oldIsReplaced_7 rfl rfl ?_
  refine S_getr g dX11_oldIsReplaced_8 fl_GP_49 (at_16 hw) rfl (rc_16_5 hw) ?_
  refine S_aload_n (kk := 0) g dX11_oldIsReplaced_11 rfl rfl ?_
  refine S_getr g dX11_oldIsReplaced_12 fl_GP_14 (at_16 hw) rfl (rc_16_0 hw) ?_
  refine S_getr g dX11_oldIsReplaced_15 fl_GP_130 (at_17 hw) rfl (rc_17_0 hw) ?_
  refine S_callVi (As := []) g dX11_oldIsReplaced_18 (sX8_wires hw 18 (pl_18 hw) _) rfl (at_18 hw) rfl im_X8_wires se_X8_wires cw_X8_wires ml_GP_424 ini_Plan nd_X8_wires ⟨by decide, by decide⟩ (Nat.le_of_ble_eq_true rfl) (fun r3 h4 => ?_)
  refine S_callVv (As := [vI r3]) g dX11_oldIsReplaced_21 (sX4_forgetFrom hw _ _) rfl (at_53 hw) rfl im_X4_forgetFrom se_X4_forgetFrom cw_X4_forgetFrom ml_GP_427 ini_Marks nd_X4_forgetFrom ⟨by decide, by decide⟩ (Nat.le_of_ble_eq_true rfl) (fun r5 h6 => ?_)
  refine S_aload_n (kk := 0) g dX11_oldIsReplaced_24 rfl rfl ?_
  refine S_getr g dX11_oldIsReplaced_25 fl_GP_56 (at_16 hw) rfl (rc_16_6 hw) ?_
  refine S_callVv (As := []) g dX11_oldIsReplaced_28 (sX7_drop hw.1  _) rfl (at_56 hw) rfl im_X7_drop se_X7_drop cw_X7_drop ml_GP_103 ini_Patch nd_X7_drop ⟨by decide, by decide⟩ (Nat.le_of_ble_eq_true rfl) (fun r7 h8 => ?_)
  exact S_return g dX11_oldIsReplaced_31 rfl

def XX11_undo  (h : Hp) : OR :=
  if 1 ≤ (h 72 2) then cal (XX3_takeBack 18 h) (fun r1 h2 => hm (wr h2 67 1 r1) (fun h3 => cal (XX11_oldIsReplaced h3) (fun r4 h5 => some ((h5 72 2), h5)))) else some ((-1), h)
theorem sX11_undo {G : GG} {w : Wd} (hw : okX w)  (h : Hp) : SC G w yX11_undo (Cond.code yX11_undo cX11_undo 1 (Option.some Jvm.ClassFile.FieldType.int)) 4 0 [vP 16] (XX11_undo  h) h := by
  refine SC_of (own := "GatePatch") plain_GP rfl (Nat.le_of_ble_eq_true rfl) (fun Γ hG g => ?_)
  subst hG
  show Sim Γ w 0 _ h 0 [(0, vP 16)] []
  unfold XX11_undo
  refine S_aload_n (kk := 0) g dX11_undo_0 rfl rfl ?_
  refine S_getr g dX11_undo_1 fl_GP_70 (at_16 hw) rfl (rc_16_8 hw) ?_
  refine S_geti g dX11_undo_4 fl_GP_215 (at_72 hw) (Or.inl rfl) ?_
  refine S_iconst g dX11_undo_7 ⟨by decide, by decide⟩ ?_
  refine S_icmp_ge (tgt := 13) g dX11_undo_8 (by decide) ?_ ?_
  · refine S_aload_n (kk := 0) g dX11_undo_13 rfl rfl ?_
    refine S_getr g dX11_undo_14 fl_GP_63 (at_16 hw) rfl (rc_16_7 hw) ?_
    refine S_aload_n (kk := 0) g dX11_undo_17 rfl rfl ?_
    refine S_getr g dX11_undo_18 fl_GP_70 (at_16 hw) rfl (rc_16_8 hw) ?_
    refine S_aload_n (kk := 0) g dX11_undo_21 rfl rfl ?_
    refine S_getr g dX11_undo_22 fl_GP_14 (at_16 hw) rfl (rc_16_0 hw) ?_
    refine S_getr g dX11_undo_25 fl_GP_130 (at_17 hw) rfl (rc_17_0 hw) ?_
    refine S_callVi (As := [vP 18]) g dX11_undo_28 (sX3_takeBack hw 18 (pl_18 hw) _) rfl (at_72 hw) rfl im_X3_takeBack se_X3_takeBack cw_X3_takeBack ml_GP_417 ini_Journal nd_X3_takeBack ⟨by decide, by decide⟩ (Nat.le_of_ble_eq_true rfl) (fun r1 h2 => ?_)
    refine S_puti g dX11_undo_31 fp_GP_383 (at_67 hw) rfl (fun h3 => ?_)
    refine S_aload_n (kk := 0) g dX11_undo_34 rfl rfl ?_
    refine S_callVv (As := []) g dX11_undo_35 (sX11_oldIsReplaced hw  _) rfl (at_16 hw) rfl im_X11_oldIsReplaced se_X11_oldIsReplaced cw_X11_oldIsReplaced ml_GP_421 ini_GP nd_X11_oldIsReplaced ⟨by decide, by decide⟩ (Nat.le_of_ble_eq_true rfl) (fun r4 h5 => ?_)
    refine S_aload_n (kk := 0) g dX11_undo_38 rfl rfl ?_
    refine S_getr g dX11_undo_39 fl_GP_70 (at_16 hw) rfl (rc_16_8 hw) ?_
    refine S_geti g dX11_undo_42 fl_GP_215 (at_72 hw) (Or.inl rfl) ?_
    exact S_ireturn g dX11_undo_45 rfl
  · refine S_iconst g dX11_undo_11 ⟨by decide, by decide⟩ ?_
    exact S_ireturn g dX11_undo_12 rfl

def XX11_change (x0 : Int) (x1 : Int) (h : Hp) : OR :=
  if x0 < 0 then some ((-1), h) else if (h 72 4) ≤ x0 then some ((-1), h) else if x1 < 0 then some ((-1), h) else if x1 ≤ 2 then chk (3 * x0) (chk ((3 * x0) + x1) (inb ((3 * x0) + x1) 378 (some ((h 75 ((3 * x0) + x1).toNat), h)))) else some ((-1), h)
theorem sX11_change {G : GG} {w : Wd} (hw : okX w) (x0 : Int) (x1 : Int) (h : Hp) : SC G w yX11_change (Cond.code yX11_change cX11_change 3 (Option.some Jvm.ClassFile.FieldType.int)) 1 0 [vP 16, vI x0, vI x1] (XX11_change x0 x1 h) h := by
  refine SC_of (own := "GatePatch") plain_GP rfl (Nat.le_of_ble_eq_true rfl) (fun Γ hG g => ?_)
  subst hG
  show Sim Γ w 0 _ h 0 [(0, vP 16), (1, vI x0), (2, vI x1)] []
  unfold XX11_change
  refine S_iload_n (kk := 1) g dX11_change_0 rfl rfl ?_
  refine S_if_lt (tgt := 24) g dX11_change_1 (by decide) ?_ ?_
  · refine S_iconst g dX11_change_24 ⟨by decide, by decide⟩ ?_
    exact S_ireturn g dX11_change_25 rfl
  · refine S_iload_n (kk := 1) g dX11_change_4 rfl rfl ?_
    refine S_aload_n (kk := 0) g dX11_change_5 rfl rfl ?_
    refine S_getr g dX11_change_6 fl_GP_70 (at_16 hw) rfl (rc_16_8 hw) ?_
    refine S_geti g dX11_change_9 fl_GP_430 (at_72 hw) (Or.inl rfl) ?_
    refine S_icmp_ge (tgt := 24) g dX11_change_12 (by decide) ?_ ?_
    · refine S_iconst g dX11_change_24 ⟨by decide, by decide⟩ ?_
      exact S_ireturn g dX11_change_25 rfl
    · refine S_iload_n (kk := 2) g dX11_change_15 rfl rfl ?_
      refine S_if_lt (tgt := 24) g dX11_change_16 (by decide) ?_ ?_
      · refine S_iconst g dX11_change_24 ⟨by decide, by decide⟩ ?_
        exact S_ireturn g dX11_change_25 rfl
      · refine S_iload_n (kk := 2) g dX11_change_19 rfl rfl ?_
        refine S_iconst g dX11_change_20 ⟨by decide, by decide⟩ ?_
        refine S_icmp_le (tgt := 26) g dX11_change_21 (by decide) ?_ ?_
        · refine S_aload_n (kk := 0) g dX11_change_26 rfl rfl ?_
          refine S_getr g dX11_change_27 fl_GP_70 (at_16 hw) rfl (rc_16_8 hw) ?_
          refine S_getr g dX11_change_30 fl_GP_433 (at_72 hw) rfl (rc_72_3 hw) ?_
          refine S_iconst g dX11_change_33 ⟨by decide, by decide⟩ ?_
          refine S_iload_n (kk := 1) g dX11_change_34 rfl rfl ?_
          refine S_imul g dX11_change_35 ?_
          refine S_iload_n (kk := 2) g dX11_change_36 rfl rfl ?_
          refine S_iadd g dX11_change_37 ?_
          refine S_iaload g dX11_change_38 (at_75 hw) ?_
          exact S_ireturn g dX11_change_39 rfl
        · refine S_iconst g dX11_change_24 ⟨by decide, by decide⟩ ?_
          exact S_ireturn g dX11_change_25 rfl

def XX11_test_p15   (h : Hp) : OR :=
  some ((-1), h)
def XX11_test (x0 : Int) (h : Hp) : OR :=
  if x0 < 0 then XX11_test_p15 h else if x0 < (h 72 6) then inb x0 256 (some ((h 76 x0.toNat), h)) else XX11_test_p15 h
theorem sX11_test_p15 {Γ : Cx} {w : Wd} (hw : okX w) (g : Gd Γ cX11_test 2 "GatePatch" (Option.some Jvm.ClassFile.FieldType.int) (rmd 1))   (h : Hp) : Sim Γ w 0 (XX11_test_p15    h) h 15 [] [] := by
  unfold XX11_test_p15
  refine S_iconst g dX11_test_15 ⟨by decide, by decide⟩ ?_
  refine S_goto (tgt := 28) g dX11_test_16 (by decide) ?_
  exact S_ireturn g dX11_test_28 rfl

theorem sX11_test {G : GG} {w : Wd} (hw : okX w) (x0 : Int) (h : Hp) : SC G w yX11_test (Cond.code yX11_test cX11_test 2 (Option.some Jvm.ClassFile.FieldType.int)) 1 0 [vP 16, vI x0] (XX11_test x0 h) h := by
  refine SC_of (own := "GatePatch") plain_GP rfl (Nat.le_of_ble_eq_true rfl) (fun Γ hG g => ?_)
  subst hG
  show Sim Γ w 0 _ h 0 [(0, vP 16), (1, vI x0)] []
  unfold XX11_test
  refine S_iload_n (kk := 1) g dX11_test_0 rfl rfl ?_
  refine S_if_lt (tgt := 15) g dX11_test_1 (by decide) ?_ ?_
  · refine S_sub g [] rfl ?_
    exact sX11_test_p15 hw g _
  · refine S_iload_n (kk := 1) g dX11_test_4 rfl rfl ?_
    refine S_aload_n (kk := 0) g dX11_test_5 rfl rfl ?_
    refine S_getr g dX11_test_6 fl_GP_70 (at_16 hw) rfl (rc_16_8 hw) ?_
    refine S_geti g dX11_test_9 fl_GP_436 (at_72 hw) (Or.inl rfl) ?_
    refine S_icmp_lt (tgt := 19) g dX11_test_12 (by decide) ?_ ?_
    · refine S_aload_n (kk := 0) g dX11_test_19 rfl rfl ?_
      refine S_getr g dX11_test_20 fl_GP_70 (at_16 hw) rfl (rc_16_8 hw) ?_
      refine S_getr g dX11_test_23 fl_GP_439 (at_72 hw) rfl (rc_72_5 hw) ?_
      refine S_iload_n (kk := 1) g dX11_test_26 rfl rfl ?_
      refine S_iaload g dX11_test_27 (at_76 hw) ?_
      exact S_ireturn g dX11_test_28 rfl
    · refine S_sub g [] rfl ?_
      exact sX11_test_p15 hw g _

def XX11_idle_b21 (a2 : Nat)  (self21 : Int → Int → Hp → OR) (l3 l5 : Int) (h : Hp) : OR :=
  cal (XX8_seenCount (a2 + 1) h) (fun r6 h7 => if r6 ≤ l5 then cal (XX8_sources (a2 + 1) h7) (fun r8 h9 => cal (XJ13_bitCount_95d88 (jshr l3 r8) h9) (fun r10 h11 => chk ((h7 (a2 + 1) 3) - r10) (some (((h7 (a2 + 1) 3) - r10), h11)))) else inb l5 6 (inb (h7 ((a2 + 1) + 3) l5.toNat) 48 (nm (jor l3 (h7 (a2 + 7) (h7 ((a2 + 1) + 3) l5.toNat).toNat)) (fun v12 => chk (l5 + 1) (self21 v12 (l5 + 1) h7)))))
def XX11_idle_L21 (a2 : Nat)  (l3 l5 : Int) (h : Hp) : OR := lup2 (XX11_idle_b21 a2) FU l3 l5 h
def XX11_idle (x0 : Int) (h : Hp) : OR :=
  cal (XX11_netOf x0 h) (fun r1 h2 => if (r1.toNat) = 0 then some ((-1), h2) else asr (r1.toNat = 17 ∨ r1.toNat = 27) (cal (XX6_refresh (r1.toNat) h2) (fun r4 h5 => XX11_idle_L21 (r1.toNat) 0 0 h5)))
theorem sX11_idle_L21 {Γ : Cx} {w : Wd} (hw : okX w) (g : Gd Γ cX11_idle 6 "GatePatch" (Option.some Jvm.ClassFile.FieldType.int) (rmd 4)) (a2 : Nat) (ha2 : isNt w a2)  : ∀ (l3 l5 : Int) (h : Hp), Sim Γ w 0 (XX11_idle_L21 a2 l3 l5 h) h 21 [(2, vP a2), (3, vJ l3), (5, vI l5)] [] := by
  refine S_lup2 (fun l3 l5 => [(2, vP a2), (3, vJ l3), (5, vI l5)]) (fun self21 hs21 l3 l5 h => ?_) FU
  unfold XX11_idle_b21
  refine S_iload (kk := 2) g dX11_idle_21 rfl ?_
  refine S_aload_n (kk := 0) g dX11_idle_23 rfl rfl ?_
  refine S_getr g dX11_idle_24 fl_GP_130 ha2.1 rfl ha2.2.1 ?_
  refine S_callVi (As := []) g dX11_idle_27 (sX8_seenCount hw (a2 + 1) ha2.2.2.2.2.2.2.1 _) rfl ha2.2.2.2.2.2.2.1.1 rfl im_X8_seenCount se_X8_seenCount cw_X8_seenCount ml_GP_393 ini_Plan nd_X8_seenCount ⟨by decide, by decide⟩ (Nat.le_of_ble_eq_true rfl) (fun r6 h7 => ?_)
  refine S_icmp_ge (tgt := 57) g dX11_idle_30 (by decide) ?_ ?_
  · refine S_aload_n (kk := 0) g dX11_idle_57 rfl rfl ?_
    refine S_getr g dX11_idle_58 fl_GP_130 ha2.1 rfl ha2.2.1 ?_
    refine S_geti g dX11_idle_61 fl_GP_138 ha2.2.2.2.2.2.2.1.1 (Or.inl rfl) ?_
    refine S_lload_n (kk := 1) g dX11_idle_64 rfl rfl ?_
    refine S_aload_n (kk := 0) g dX11_idle_65 rfl rfl ?_
    refine S_getr g dX11_idle_66 fl_GP_130 ha2.1 rfl ha2.2.1 ?_
    refine S_callVi (As := []) g dX11_idle_69 (sX8_sources hw (a2 + 1) ha2.2.2.2.2.2.2.1 _) rfl ha2.2.2.2.2.2.2.1.1 rfl im_X8_sources se_X8_sources cw_X8_sources ml_GP_445 ini_Plan nd_X8_sources ⟨by decide, by decide⟩ (Nat.le_of_ble_eq_true rfl) (fun r8 h9 => ?_)
    refine S_lshr g dX11_idle_72 ?_
    refine S_callSi (As := [vJ (jshr l3 r8)]) g dX11_idle_73 (sJ13_bitCount_95d88 _ _) rfl st_J13_bitCount_95d88 cw_J13_bitCount_95d88 ml_GP_448 ini_Long nd_J13_bitCount_95d88 ⟨by decide, by decide⟩ (Nat.le_of_ble_eq_true rfl) (fun r10 h11 => ?_)
    refine S_isub g dX11_idle_76 ?_
    exact S_ireturn g dX11_idle_77 rfl
  · refine S_lload_n (kk := 1) g dX11_idle_33 rfl rfl ?_
    refine S_aload_n (kk := 0) g dX11_idle_34 rfl rfl ?_
    refine S_getr g dX11_idle_35 fl_GP_442 ha2.1 rfl ha2.2.2.2.1 ?_
    refine S_aload_n (kk := 0) g dX11_idle_38 rfl rfl ?_
    refine S_getr g dX11_idle_39 fl_GP_130 ha2.1 rfl ha2.2.1 ?_
    refine S_getr g dX11_idle_42 fl_GP_188 ha2.2.2.2.2.2.2.1.1 rfl ha2.2.2.2.2.2.2.1.2.2.2.1 ?_
    refine S_iload (kk := 2) g dX11_idle_45 rfl ?_
    refine S_iaload g dX11_idle_47 ha2.2.2.2.2.2.2.1.2.2.2.2.2.2.2.1 ?_
    refine S_laload g dX11_idle_48 ha2.2.2.2.2.2.2.2.2.1 ?_
    refine S_lor g dX11_idle_49 ?_
    refine S_nmJ (fun v12 => ?_)
    refine S_lstore_n g dX11_idle_50 rfl (by decide) rfl ?_
    refine S_iinc (kk := 2) g dX11_idle_51 rfl (by decide) rfl ?_
    refine S_goto (tgt := 21) g dX11_idle_54 (by decide) ?_
    refine S_sub g [2, 1, 0] rfl ?_
    exact hs21 _ _ _

theorem sX11_idle {G : GG} {w : Wd} (hw : okX w) (x0 : Int) (h : Hp) : SC G w yX11_idle (Cond.code yX11_idle cX11_idle 6 (Option.some Jvm.ClassFile.FieldType.int)) 4 0 [vP 16, vI x0] (XX11_idle x0 h) h := by
  refine SC_of (own := "GatePatch") plain_GP rfl (Nat.le_of_ble_eq_true rfl) (fun Γ hG g => ?_)
  subst hG
  show Sim Γ w 0 _ h 0 [(0, vP 16), (1, vI x0)] []
  unfold XX11_idle
  refine S_aload_n (kk := 0) g dX11_idle_0 rfl rfl ?_
  refine S_iload_n (kk := 1) g dX11_idle_1 rfl rfl ?_
  refine S_callVp (As := [vI x0]) g dX11_idle_2 (sX11_netOf hw _ _) rfl (at_16 hw) rfl im_X11_netOf se_X11_netOf cw_X11_netOf ml_GP_126 ini_GP nd_X11_netOf ⟨by decide, by decide⟩ (Nat.le_of_ble_eq_true rfl) (fun r1 h2 => ?_)
  refine S_astore_n g dX11_idle_5 rfl (by decide) rfl ?_
  refine S_aload_n (kk := 0) g dX11_idle_6 rfl rfl ?_
  refine S_ifnonnull (tgt := 12) g dX11_idle_7 (by decide) ?_ ?_
  · refine S_asr (fun q3 => ?_)
    refine S_aload_n (kk := 0) g dX11_idle_12 rfl rfl ?_
    refine S_callVv (As := []) g dX11_idle_13 (sX6_refresh hw (r1.toNat) (nt_of hw q3) _) rfl (nt_of hw q3).1 rfl im_X6_refresh se_X6_refresh cw_X6_refresh ml_GP_169 ini_Net nd_X6_refresh ⟨by decide, by decide⟩ (Nat.le_of_ble_eq_true rfl) (fun r4 h5 => ?_)
    refine S_lconst (x := 0) g dX11_idle_16 ⟨by decide, by decide⟩ rfl ?_
    refine S_lstore_n g dX11_idle_17 rfl (by decide) rfl ?_
    refine S_iconst g dX11_idle_18 ⟨by decide, by decide⟩ ?_
    refine S_istore g dX11_idle_19 (by decide) rfl ?_
    refine S_sub g [2, 1, 0] rfl ?_
    exact sX11_idle_L21 hw g (r1.toNat) (nt_of hw q3) _ _ _
  · refine S_iconst g dX11_idle_10 ⟨by decide, by decide⟩ ?_
    exact S_ireturn g dX11_idle_11 rfl

def XX11_tape (x0 : Int) (x1 : Int) (x2 : Int) (h : Hp) : OR :=
  cal (XX11_isTape x0 h) (fun r1 h2 => if r1 = 0 then some ((-1), h2) else if x1 < 1 then some ((-1), h2) else if 4 < x1 then some ((-1), h2) else if x2 ≤ 256 then if 0 ≤ x2 then inb x0 6 (nmP (h2 98 x0.toNat).toNat (fun u3 => asr (u3 = 101 ∨ u3 = 108 ∨ u3 = 115 ∨ u3 = 122 ∨ u3 = 129 ∨ u3 = 136) (cal (XX10_hold u3 x1 x2 h2) (fun r5 h6 => some (x2, h6))))) else cal (XX11_refused (-14) h2) (fun r7 h8 => some (r7, h8)) else some ((-1), h2))
theorem sX11_tape {G : GG} {w : Wd} (hw : okX w) (x0 : Int) (x1 : Int) (x2 : Int) (h : Hp) : SC G w yX11_tape (Cond.code yX11_tape cX11_tape 4 (Option.some Jvm.ClassFile.FieldType.int)) 3 0 [vP 16, vI x0, vI x1, vI x2] (XX11_tape x0 x1 x2 h) h := by
  refine SC_of (own := "GatePatch") plain_GP rfl (Nat.le_of_ble_eq_true rfl) (fun Γ hG g => ?_)
  subst hG
  show Sim Γ w 0 _ h 0 [(0, vP 16), (1, vI x0), (2, vI x1), (3, vI x2)] []
  unfold XX11_tape
  refine S_iload_n (kk := 1) g dX11_tape_0 rfl rfl ?_
  refine S_callSi (As := [vI x0]) g dX11_tape_1 (sX11_isTape hw _ _) rfl st_X11_isTape cw_X11_isTape ml_GP_250 ini_GP nd_X11_isTape ⟨by decide, by decide⟩ (Nat.le_of_ble_eq_true rfl) (fun r1 h2 => ?_)
  refine S_if_eq (tgt := 24) g dX11_tape_4 (by decide) ?_ ?_
  · refine S_iconst g dX11_tape_24 ⟨by decide, by decide⟩ ?_
    exact S_ireturn g dX11_tape_25 rfl
  · refine S_iload_n (kk := 2) g dX11_tape_7 rfl rfl ?_
    refine S_iconst g dX11_tape_8 ⟨by decide, by decide⟩ ?_
    refine S_icmp_lt (tgt := 24) g dX11_tape_9 (by decide) ?_ ?_
    · refine S_iconst g dX11_tape_24 ⟨by decide, by decide⟩ ?_
      exact S_ireturn g dX11_tape_25 rfl
    · refine S_iload_n (kk := 2) g dX11_tape_12 rfl rfl ?_
      refine S_iconst g dX11_tape_13 ⟨by decide, by decide⟩ ?_
      refine S_icmp_gt (tgt := 24) g dX11_tape_14 (by decide) ?_ ?_
      · refine S_iconst g dX11_tape_24 ⟨by decide, by decide⟩ ?_
        exact S_ireturn g dX11_tape_25 rfl
      · refine S_iload_n (kk := 3) g dX11_tape_17 rfl rfl ?_
        refine S_sipush g dX11_tape_18 ⟨by decide, by decide⟩ rfl ?_
        refine S_icmp_le (tgt := 26) g dX11_tape_21 (by decide) ?_ ?_
        · refine S_iload_n (kk := 3) g dX11_tape_26 rfl rfl ?_
          refine S_if_ge (tgt := 37) g dX11_tape_27 (by decide) ?_ ?_
          · refine S_aload_n (kk := 0) g dX11_tape_37 rfl rfl ?_
            refine S_getr g dX11_tape_38 fl_GP_76 (at_16 hw) rfl (rc_16_9 hw) ?_
            refine S_iload_n (kk := 1) g dX11_tape_41 rfl rfl ?_
            refine S_aaload g dX11_tape_42 (at_98 hw) (Or.inr rfl) ?_
            refine S_nmP (fun u3 => ?_)
            refine S_asr (fun q4 => ?_)
            refine S_iload_n (kk := 2) g dX11_tape_43 rfl rfl ?_
            refine S_iload_n (kk := 3) g dX11_tape_44 rfl rfl ?_
            refine S_callVv (As := [vI x1, vI x2]) g dX11_tape_45 (sX10_hold hw u3 (tp_of hw q4) _ _ _) rfl (tp_of hw q4).1 rfl im_X10_hold se_X10_hold cw_X10_hold ml_GP_253 ini_Tape nd_X10_hold ⟨by decide, by decide⟩ (Nat.le_of_ble_eq_true rfl) (fun r5 h6 => ?_)
            refine S_iload_n (kk := 3) g dX11_tape_48 rfl rfl ?_
            exact S_ireturn g dX11_tape_49 rfl
          · refine S_aload_n (kk := 0) g dX11_tape_30 rfl rfl ?_
            refine S_bipush g dX11_tape_31 ⟨by decide, by decide⟩ rfl ?_
            refine S_callVi (As := [vI (-14)]) g dX11_tape_33 (sX11_refused hw _ _) rfl (at_16 hw) rfl im_X11_refused se_X11_refused cw_X11_refused ml_GP_267 ini_GP nd_X11_refused ⟨by decide, by decide⟩ (Nat.le_of_ble_eq_true rfl) (fun r7 h8 => ?_)
            exact S_ireturn g dX11_tape_36 rfl
        · refine S_iconst g dX11_tape_24 ⟨by decide, by decide⟩ ?_
          exact S_ireturn g dX11_tape_25 rfl

def XX11_image (x0 : Int) (h : Hp) : OR :=
  cal (XX11_isTape x0 h) (fun r1 h2 => if r1 = 0 then some ((-1), h2) else inb x0 6 (nmP (h2 98 x0.toNat).toNat (fun u3 => asr (u3 = 101 ∨ u3 = 108 ∨ u3 = 115 ∨ u3 = 122 ∨ u3 = 129 ∨ u3 = 136) (cal (XX10_hold u3 5 0 h2) (fun r5 h6 => inb x0 6 (nmP (h6 98 x0.toNat).toNat (fun u7 => asr (u7 = 101 ∨ u7 = 108 ∨ u7 = 115 ∨ u7 = 122 ∨ u7 = 129 ∨ u7 = 136) (cal (XX8_take (u7 + 2) 18 h6) (fun r9 h10 => some ((h10 18 3), h10))))))))))
theorem sX11_image {G : GG} {w : Wd} (hw : okX w) (x0 : Int) (h : Hp) : SC G w yX11_image (Cond.code yX11_image cX11_image 2 (Option.some Jvm.ClassFile.FieldType.int)) 3 0 [vP 16, vI x0] (XX11_image x0 h) h := by
  refine SC_of (own := "GatePatch") plain_GP rfl (Nat.le_of_ble_eq_true rfl) (fun Γ hG g => ?_)
  subst hG
  show Sim Γ w 0 _ h 0 [(0, vP 16), (1, vI x0)] []
  unfold XX11_image
  refine S_iload_n (kk := 1) g dX11_image_0 rfl rfl ?_
  refine S_callSi (As := [vI x0]) g dX11_image_1 (sX11_isTape hw _ _) rfl st_X11_isTape cw_X11_isTape ml_GP_250 ini_GP nd_X11_isTape ⟨by decide, by decide⟩ (Nat.le_of_ble_eq_true rfl) (fun r1 h2 => ?_)
  refine S_if_ne (tgt := 9) g dX11_image_4 (by decide) ?_ ?_
  · refine S_aload_n (kk := 0) g dX11_image_9 rfl rfl ?_
    refine S_getr g dX11_image_10 fl_GP_76 (at_16 hw) rfl (rc_16_9 hw) ?_
    refine S_iload_n (kk := 1) g dX11_image_13 rfl rfl ?_
    refine S_aaload g dX11_image_14 (at_98 hw) (Or.inr rfl) ?_
    refine S_nmP (fun u3 => ?_)
    refine S_asr (fun q4 => ?_)
    refine S_iconst g dX11_image_15 ⟨by decide, by decide⟩ ?_
    refine S_iconst g dX11_image_16 ⟨by decide, by decide⟩ ?_
    refine S_callVv (As := [vI 5, vI 0]) g dX11_image_17 (sX10_hold hw u3 (tp_of hw q4) _ _ _) rfl (tp_of hw q4).1 rfl im_X10_hold se_X10_hold cw_X10_hold ml_GP_253 ini_Tape nd_X10_hold ⟨by decide, by decide⟩ (Nat.le_of_ble_eq_true rfl) (fun r5 h6 => ?_)
    refine S_aload_n (kk := 0) g dX11_image_20 rfl rfl ?_
    refine S_getr g dX11_image_21 fl_GP_76 (at_16 hw) rfl (rc_16_9 hw) ?_
    refine S_iload_n (kk := 1) g dX11_image_24 rfl rfl ?_
    refine S_aaload g dX11_image_25 (at_98 hw) (Or.inr rfl) ?_
    refine S_nmP (fun u7 => ?_)
    refine S_asr (fun q8 => ?_)
    refine S_getr g dX11_image_26 fl_GP_454 (tp_of hw q8).1 rfl (tp_of hw q8).2.2.1 ?_
    refine S_aload_n (kk := 0) g dX11_image_29 rfl rfl ?_
    refine S_getr g dX11_image_30 fl_GP_14 (at_16 hw) rfl (rc_16_0 hw) ?_
    refine S_getr g dX11_image_33 fl_GP_130 (at_17 hw) rfl (rc_17_0 hw) ?_
    refine S_callVv (As := [vP 18]) g dX11_image_36 (sX8_take hw (u7 + 2) (tp_of hw q8).2.2.2.2 18 (pl_18 hw) _) rfl (tp_of hw q8).2.2.2.2.1 rfl im_X8_take se_X8_take cw_X8_take ml_GP_455 ini_Plan nd_X8_take ⟨by decide, by decide⟩ (Nat.le_of_ble_eq_true rfl) (fun r9 h10 => ?_)
    refine S_aload_n (kk := 0) g dX11_image_39 rfl rfl ?_
    refine S_getr g dX11_image_40 fl_GP_14 (at_16 hw) rfl (rc_16_0 hw) ?_
    refine S_getr g dX11_image_43 fl_GP_130 (at_17 hw) rfl (rc_17_0 hw) ?_
    refine S_geti g dX11_image_46 fl_GP_138 (at_18 hw) (Or.inl rfl) ?_
    exact S_ireturn g dX11_image_49 rfl
  · refine S_iconst g dX11_image_7 ⟨by decide, by decide⟩ ?_
    exact S_ireturn g dX11_image_8 rfl

def XX11_imageFault (x0 : Nat) (h : Hp) : OR :=
  if (h x0 0) = 0 then some ((-11), h) else if (h x0 0) = 5 then some (0, h) else some ((-12), h)
theorem sX11_imageFault {G : GG} {w : Wd} (hw : okX w) (x0 : Nat) (hx0 : isTp w x0) (h : Hp) : SC G w yX11_imageFault (Cond.code yX11_imageFault cX11_imageFault 1 (Option.some Jvm.ClassFile.FieldType.int)) 1 0 [vP x0] (XX11_imageFault x0 h) h := by
  refine SC_of (own := "GatePatch") plain_GP rfl (Nat.le_of_ble_eq_true rfl) (fun Γ hG g => ?_)
  subst hG
  show Sim Γ w 0 _ h 0 [(0, vP x0)] []
  unfold XX11_imageFault
  refine S_aload_n (kk := 0) g dX11_imageFault_0 rfl rfl ?_
  refine S_geti g dX11_imageFault_1 fl_GP_264 hx0.1 (Or.inl rfl) ?_
  refine S_if_ne (tgt := 10) g dX11_imageFault_4 (by decide) ?_ ?_
  · refine S_aload_n (kk := 0) g dX11_imageFault_10 rfl rfl ?_
    refine S_geti g dX11_imageFault_11 fl_GP_264 hx0.1 (Or.inl rfl) ?_
    refine S_iconst g dX11_imageFault_14 ⟨by decide, by decide⟩ ?_
    refine S_icmp_ne (tgt := 22) g dX11_imageFault_15 (by decide) ?_ ?_
    · refine S_bipush g dX11_imageFault_22 ⟨by decide, by decide⟩ rfl ?_
      exact S_ireturn g dX11_imageFault_24 rfl
    · refine S_iconst g dX11_imageFault_18 ⟨by decide, by decide⟩ ?_
      refine S_goto (tgt := 24) g dX11_imageFault_19 (by decide) ?_
      exact S_ireturn g dX11_imageFault_24 rfl
  · refine S_bipush g dX11_imageFault_7 ⟨by decide, by decide⟩ rfl ?_
    exact S_ireturn g dX11_imageFault_9 rfl

def XX11_back (x0 : Int) (h : Hp) : OR :=
  cal (XX11_isTape x0 h) (fun r1 h2 => if r1 = 0 then some ((-1), h2) else inb x0 6 (nmP (h2 98 x0.toNat).toNat (fun u3 => asr (u3 = 101 ∨ u3 = 108 ∨ u3 = 115 ∨ u3 = 122 ∨ u3 = 129 ∨ u3 = 136) (cal (XX11_imageFault u3 h2) (fun r5 h6 => if r5 = 0 then inb x0 6 (nmP (h6 98 x0.toNat).toNat (fun u7 => asr (u7 = 101 ∨ u7 = 108 ∨ u7 = 115 ∨ u7 = 122 ∨ u7 = 129 ∨ u7 = 136) (cal (XX8_sameShape 18 (u7 + 2) h6) (fun r9 h10 => if r9 = 0 then some ((-4), h10) else inb x0 6 (nmP (h10 98 x0.toNat).toNat (fun u11 => asr (u11 = 101 ∨ u11 = 108 ∨ u11 = 115 ∨ u11 = 122 ∨ u11 = 129 ∨ u11 = 136) (cal (XX8_take 18 (u11 + 2) h10) (fun r13 h14 => cal (XX11_oldIsReplaced h14) (fun r15 h16 => hm (wr h16 72 2 0) (fun h17 => some ((h17 18 3), h17))))))))))) else cal (XX11_refused r5 h6) (fun r18 h19 => some (r18, h19)))))))
theorem sX11_back {G : GG} {w : Wd} (hw : okX w) (x0 : Int) (h : Hp) : SC G w yX11_back (Cond.code yX11_back cX11_back 3 (Option.some Jvm.ClassFile.FieldType.int)) 4 0 [vP 16, vI x0] (XX11_back x0 h) h := by
  refine SC_of (own := "GatePatch") plain_GP rfl (Nat.le_of_ble_eq_true rfl) (fun Γ hG g => ?_)
  subst hG
  show Sim Γ w 0 _ h 0 [(0, vP 16), (1, vI x0)] []
  unfold XX11_back
  refine S_iload_n (kk := 1) g dX11_back_0 rfl rfl ?_
  refine S_callSi (As := [vI x0]) g dX11_back_1 (sX11_isTape hw _ _) rfl st_X11_isTape cw_X11_isTape ml_GP_250 ini_GP nd_X11_isTape ⟨by decide, by decide⟩ (Nat.le_of_ble_eq_true rfl) (fun r1 h2 => ?_)
  refine S_if_ne (tgt := 9) g dX11_back_4 (by decide) ?_ ?_
  · refine S_aload_n (kk := 0) g dX11_back_9 rfl rfl ?_
    refine S_getr g dX11_back_10 fl_GP_76 (at_16 hw) rfl (rc_16_9 hw) ?_
    refine S_iload_n (kk := 1) g dX11_back_13 rfl rfl ?_
    refine S_aaload g dX11_back_14 (at_98 hw) (Or.inr rfl) ?_
    refine S_nmP (fun u3 => ?_)
    refine S_asr (fun q4 => ?_)
    refine S_callSi (As := [vP u3]) g dX11_back_15 (sX11_imageFault hw u3 (tp_of hw q4) _) rfl st_X11_imageFault cw_X11_imageFault ml_GP_459 ini_GP nd_X11_imageFault ⟨by decide, by decide⟩ (Nat.le_of_ble_eq_true rfl) (fun r5 h6 => ?_)
    refine S_istore_n g dX11_back_18 rfl (by decide) rfl ?_
    refine S_iload_n (kk := 0) g dX11_back_19 rfl rfl ?_
    refine S_if_eq (tgt := 29) g dX11_back_20 (by decide) ?_ ?_
    · refine S_aload_n (kk := 1) g dX11_back_29 rfl rfl ?_
      refine S_getr g dX11_back_30 fl_GP_14 (at_16 hw) rfl (rc_16_0 hw) ?_
      refine S_getr g dX11_back_33 fl_GP_130 (at_17 hw) rfl (rc_17_0 hw) ?_
      refine S_aload_n (kk := 1) g dX11_back_36 rfl rfl ?_
      refine S_getr g dX11_back_37 fl_GP_76 (at_16 hw) rfl (rc_16_9 hw) ?_
      refine S_iload_n (kk := 2) g dX11_back_40 rfl rfl ?_
      refine S_aaload g dX11_back_41 (at_98 hw) (Or.inr rfl) ?_
      refine S_nmP (fun u7 => ?_)
      refine S_asr (fun q8 => ?_)
      refine S_getr g dX11_back_42 fl_GP_454 (tp_of hw q8).1 rfl (tp_of hw q8).2.2.1 ?_
      refine S_callVi (As := [vP (u7 + 2)]) g dX11_back_45 (sX8_sameShape hw 18 (pl_18 hw) (u7 + 2) (tp_of hw q8).2.2.2.2 _) rfl (at_18 hw) rfl im_X8_sameShape se_X8_sameShape cw_X8_sameShape ml_GP_463 ini_Plan nd_X8_sameShape ⟨by decide, by decide⟩ (Nat.le_of_ble_eq_true rfl) (fun r9 h10 => ?_)
      refine S_if_ne (tgt := 54) g dX11_back_48 (by decide) ?_ ?_
      · refine S_aload_n (kk := 1) g dX11_back_54 rfl rfl ?_
        refine S_getr g dX11_back_55 fl_GP_14 (at_16 hw) rfl (rc_16_0 hw) ?_
        refine S_getr g dX11_back_58 fl_GP_130 (at_17 hw) rfl (rc_17_0 hw) ?_
        refine S_aload_n (kk := 1) g dX11_back_61 rfl rfl ?_
        refine S_getr g dX11_back_62 fl_GP_76 (at_16 hw) rfl (rc_16_9 hw) ?_
        refine S_iload_n (kk := 2) g dX11_back_65 rfl rfl ?_
        refine S_aaload g dX11_back_66 (at_98 hw) (Or.inr rfl) ?_
        refine S_nmP (fun u11 => ?_)
        refine S_asr (fun q12 => ?_)
        refine S_getr g dX11_back_67 fl_GP_454 (tp_of hw q12).1 rfl (tp_of hw q12).2.2.1 ?_
        refine S_callVv (As := [vP (u11 + 2)]) g dX11_back_70 (sX8_take hw 18 (pl_18 hw) (u11 + 2) (tp_of hw q12).2.2.2.2 _) rfl (at_18 hw) rfl im_X8_take se_X8_take cw_X8_take ml_GP_455 ini_Plan nd_X8_take ⟨by decide, by decide⟩ (Nat.le_of_ble_eq_true rfl) (fun r13 h14 => ?_)
        refine S_aload_n (kk := 1) g dX11_back_73 rfl rfl ?_
        refine S_callVv (As := []) g dX11_back_74 (sX11_oldIsReplaced hw  _) rfl (at_16 hw) rfl im_X11_oldIsReplaced se_X11_oldIsReplaced cw_X11_oldIsReplaced ml_GP_421 ini_GP nd_X11_oldIsReplaced ⟨by decide, by decide⟩ (Nat.le_of_ble_eq_true rfl) (fun r15 h16 => ?_)
        refine S_aload_n (kk := 1) g dX11_back_77 rfl rfl ?_
        refine S_getr g dX11_back_78 fl_GP_70 (at_16 hw) rfl (rc_16_8 hw) ?_
        refine S_iconst g dX11_back_81 ⟨by decide, by decide⟩ ?_
        refine S_puti g dX11_back_82 fp_GP_215 (at_72 hw) rfl (fun h17 => ?_)
        refine S_aload_n (kk := 1) g dX11_back_85 rfl rfl ?_
        refine S_getr g dX11_back_86 fl_GP_14 (at_16 hw) rfl (rc_16_0 hw) ?_
        refine S_getr g dX11_back_89 fl_GP_130 (at_17 hw) rfl (rc_17_0 hw) ?_
        refine S_geti g dX11_back_92 fl_GP_138 (at_18 hw) (Or.inl rfl) ?_
        exact S_ireturn g dX11_back_95 rfl
      · refine S_bipush g dX11_back_51 ⟨by decide, by decide⟩ rfl ?_
        exact S_ireturn g dX11_back_53 rfl
    · refine S_aload_n (kk := 1) g dX11_back_23 rfl rfl ?_
      refine S_iload_n (kk := 0) g dX11_back_24 rfl rfl ?_
      refine S_callVi (As := [vI r5]) g dX11_back_25 (sX11_refused hw _ _) rfl (at_16 hw) rfl im_X11_refused se_X11_refused cw_X11_refused ml_GP_267 ini_GP nd_X11_refused ⟨by decide, by decide⟩ (Nat.le_of_ble_eq_true rfl) (fun r18 h19 => ?_)
      exact S_ireturn g dX11_back_28 rfl
  · refine S_iconst g dX11_back_7 ⟨by decide, by decide⟩ ?_
    exact S_ireturn g dX11_back_8 rfl

def XX11_toss (x0 : Int) (h : Hp) : OR :=
  cal (XX11_isTape x0 h) (fun r1 h2 => if r1 = 0 then some ((-1), h2) else inb x0 6 (nmP (h2 98 x0.toNat).toNat (fun u3 => asr (u3 = 101 ∨ u3 = 108 ∨ u3 = 115 ∨ u3 = 122 ∨ u3 = 129 ∨ u3 = 136) (cal (XX11_imageFault u3 h2) (fun r5 h6 => if r5 = 0 then inb x0 6 (nmP (h6 98 x0.toNat).toNat (fun u7 => asr (u7 = 101 ∨ u7 = 108 ∨ u7 = 115 ∨ u7 = 122 ∨ u7 = 129 ∨ u7 = 136) (if (h6 (u7 + 2) 3) = 0 then cal (XX11_refused (-15) h6) (fun r11 h12 => some (r11, h12)) else inb x0 6 (nmP (h6 98 x0.toNat).toNat (fun u9 => asr (u9 = 101 ∨ u9 = 108 ∨ u9 = 115 ∨ u9 = 122 ∨ u9 = 129 ∨ u9 = 136) (some ((h6 (u9 + 2) 3), h6))))))) else cal (XX11_refused r5 h6) (fun r13 h14 => some (r13, h14)))))))
theorem sX11_toss {G : GG} {w : Wd} (hw : okX w) (x0 : Int) (h : Hp) : SC G w yX11_toss (Cond.code yX11_toss cX11_toss 3 (Option.some Jvm.ClassFile.FieldType.int)) 2 0 [vP 16, vI x0] (XX11_toss x0 h) h := by
  refine SC_of (own := "GatePatch") plain_GP rfl (Nat.le_of_ble_eq_true rfl) (fun Γ hG g => ?_)
  subst hG
  show Sim Γ w 0 _ h 0 [(0, vP 16), (1, vI x0)] []
  unfold XX11_toss
  refine S_iload_n (kk := 1) g dX11_toss_0 rfl rfl ?_
  refine S_callSi (As := [vI x0]) g dX11_toss_1 (sX11_isTape hw _ _) rfl st_X11_isTape cw_X11_isTape ml_GP_250 ini_GP nd_X11_isTape ⟨by decide, by decide⟩ (Nat.le_of_ble_eq_true rfl) (fun r1 h2 => ?_)
  refine S_if_ne (tgt := 9) g dX11_toss_4 (by decide) ?_ ?_
  · refine S_aload_n (kk := 0) g dX11_toss_9 rfl rfl ?_
    refine S_getr g dX11_toss_10 fl_GP_76 (at_16 hw) rfl (rc_16_9 hw) ?_
    refine S_iload_n (kk := 1) g dX11_toss_13 rfl rfl ?_
    refine S_aaload g dX11_toss_14 (at_98 hw) (Or.inr rfl) ?_
    refine S_nmP (fun u3 => ?_)
    refine S_asr (fun q4 => ?_)
    refine S_callSi (As := [vP u3]) g dX11_toss_15 (sX11_imageFault hw u3 (tp_of hw q4) _) rfl st_X11_imageFault cw_X11_imageFault ml_GP_459 ini_GP nd_X11_imageFault ⟨by decide, by decide⟩ (Nat.le_of_ble_eq_true rfl) (fun r5 h6 => ?_)
    refine S_istore_n g dX11_toss_18 rfl (by decide) rfl ?_
    refine S_iload_n (kk := 0) g dX11_toss_19 rfl rfl ?_
    refine S_if_eq (tgt := 29) g dX11_toss_20 (by decide) ?_ ?_
    · refine S_aload_n (kk := 1) g dX11_toss_29 rfl rfl ?_
      refine S_getr g dX11_toss_30 fl_GP_76 (at_16 hw) rfl (rc_16_9 hw) ?_
      refine S_iload_n (kk := 2) g dX11_toss_33 rfl rfl ?_
      refine S_aaload g dX11_toss_34 (at_98 hw) (Or.inr rfl) ?_
      refine S_nmP (fun u7 => ?_)
      refine S_asr (fun q8 => ?_)
      refine S_getr g dX11_toss_35 fl_GP_454 (tp_of hw q8).1 rfl (tp_of hw q8).2.2.1 ?_
      refine S_geti g dX11_toss_38 fl_GP_138 (tp_of hw q8).2.2.2.2.1 (Or.inl rfl) ?_
      refine S_if_ne (tgt := 53) g dX11_toss_41 (by decide) ?_ ?_
      · refine S_aload_n (kk := 1) g dX11_toss_53 rfl rfl ?_
        refine S_getr g dX11_toss_54 fl_GP_76 (at_16 hw) rfl (rc_16_9 hw) ?_
        refine S_iload_n (kk := 2) g dX11_toss_57 rfl rfl ?_
        refine S_aaload g dX11_toss_58 (at_98 hw) (Or.inr rfl) ?_
        refine S_nmP (fun u9 => ?_)
        refine S_asr (fun q10 => ?_)
        refine S_getr g dX11_toss_59 fl_GP_454 (tp_of hw q10).1 rfl (tp_of hw q10).2.2.1 ?_
        refine S_geti g dX11_toss_62 fl_GP_138 (tp_of hw q10).2.2.2.2.1 (Or.inl rfl) ?_
        exact S_ireturn g dX11_toss_65 rfl
      · refine S_aload_n (kk := 1) g dX11_toss_44 rfl rfl ?_
        refine S_bipush g dX11_toss_45 ⟨by decide, by decide⟩ rfl ?_
        refine S_callVi (As := [vI (-15)]) g dX11_toss_47 (sX11_refused hw _ _) rfl (at_16 hw) rfl im_X11_refused se_X11_refused cw_X11_refused ml_GP_267 ini_GP nd_X11_refused ⟨by decide, by decide⟩ (Nat.le_of_ble_eq_true rfl) (fun r11 h12 => ?_)
        refine S_goto (tgt := 65) g dX11_toss_50 (by decide) ?_
        exact S_ireturn g dX11_toss_65 rfl
    · refine S_aload_n (kk := 1) g dX11_toss_23 rfl rfl ?_
      refine S_iload_n (kk := 0) g dX11_toss_24 rfl rfl ?_
      refine S_callVi (As := [vI r5]) g dX11_toss_25 (sX11_refused hw _ _) rfl (at_16 hw) rfl im_X11_refused se_X11_refused cw_X11_refused ml_GP_267 ini_GP nd_X11_refused ⟨by decide, by decide⟩ (Nat.le_of_ble_eq_true rfl) (fun r13 h14 => ?_)
      exact S_ireturn g dX11_toss_28 rfl
  · refine S_iconst g dX11_toss_7 ⟨by decide, by decide⟩ ?_
    exact S_ireturn g dX11_toss_8 rfl

def XX11_clear (x0 : Int) (h : Hp) : OR :=
  cal (XX11_isTape x0 h) (fun r1 h2 => if r1 = 0 then some ((-1), h2) else inb x0 6 (nmP (h2 98 x0.toNat).toNat (fun u3 => asr (u3 = 101 ∨ u3 = 108 ∨ u3 = 115 ∨ u3 = 122 ∨ u3 = 129 ∨ u3 = 136) (nm (h2 u3 0) (fun v5 => inb x0 6 (nmP (h2 98 x0.toNat).toNat (fun u6 => asr (u6 = 101 ∨ u6 = 108 ∨ u6 = 115 ∨ u6 = 122 ∨ u6 = 129 ∨ u6 = 136) (cal (XX10_hold u6 0 0 h2) (fun r8 h9 => some (v5, h9))))))))))
theorem sX11_clear {G : GG} {w : Wd} (hw : okX w) (x0 : Int) (h : Hp) : SC G w yX11_clear (Cond.code yX11_clear cX11_clear 3 (Option.some Jvm.ClassFile.FieldType.int)) 3 0 [vP 16, vI x0] (XX11_clear x0 h) h := by
  refine SC_of (own := "GatePatch") plain_GP rfl (Nat.le_of_ble_eq_true rfl) (fun Γ hG g => ?_)
  subst hG
  show Sim Γ w 0 _ h 0 [(0, vP 16), (1, vI x0)] []
  unfold XX11_clear
  refine S_iload_n (kk := 1) g dX11_clear_0 rfl rfl ?_
  refine S_callSi (As := [vI x0]) g dX11_clear_1 (sX11_isTape hw _ _) rfl st_X11_isTape cw_X11_isTape ml_GP_250 ini_GP nd_X11_isTape ⟨by decide, by decide⟩ (Nat.le_of_ble_eq_true rfl) (fun r1 h2 => ?_)
  refine S_if_ne (tgt := 9) g dX11_clear_4 (by decide) ?_ ?_
  · refine S_aload_n (kk := 0) g dX11_clear_9 rfl rfl ?_
    refine S_getr g dX11_clear_10 fl_GP_76 (at_16 hw) rfl (rc_16_9 hw) ?_
    refine S_iload_n (kk := 1) g dX11_clear_13 rfl rfl ?_
    refine S_aaload g dX11_clear_14 (at_98 hw) (Or.inr rfl) ?_
    refine S_nmP (fun u3 => ?_)
    refine S_asr (fun q4 => ?_)
    refine S_geti g dX11_clear_15 fl_GP_264 (tp_of hw q4).1 (Or.inl rfl) ?_
    refine S_nmI (fun v5 => ?_)
    refine S_istore_n g dX11_clear_18 rfl (by decide) rfl ?_
    refine S_aload_n (kk := 1) g dX11_clear_19 rfl rfl ?_
    refine S_getr g dX11_clear_20 fl_GP_76 (at_16 hw) rfl (rc_16_9 hw) ?_
    refine S_iload_n (kk := 2) g dX11_clear_23 rfl rfl ?_
    refine S_aaload g dX11_clear_24 (at_98 hw) (Or.inr rfl) ?_
    refine S_nmP (fun u6 => ?_)
    refine S_asr (fun q7 => ?_)
    refine S_iconst g dX11_clear_25 ⟨by decide, by decide⟩ ?_
    refine S_iconst g dX11_clear_26 ⟨by decide, by decide⟩ ?_
    refine S_callVv (As := [vI 0, vI 0]) g dX11_clear_27 (sX10_hold hw u6 (tp_of hw q7) _ _ _) rfl (tp_of hw q7).1 rfl im_X10_hold se_X10_hold cw_X10_hold ml_GP_253 ini_Tape nd_X10_hold ⟨by decide, by decide⟩ (Nat.le_of_ble_eq_true rfl) (fun r8 h9 => ?_)
    refine S_iload_n (kk := 0) g dX11_clear_30 rfl rfl ?_
    exact S_ireturn g dX11_clear_31 rfl
  · refine S_iconst g dX11_clear_7 ⟨by decide, by decide⟩ ?_
    exact S_ireturn g dX11_clear_8 rfl

def XX11_put (x0 : Int) (x1 : Int) (x2 : Int) (h : Hp) : OR :=
  cal (XX11_isTape x0 h) (fun r1 h2 => if r1 = 0 then some ((-1), h2) else inb x0 6 (nmP (h2 98 x0.toNat).toNat (fun u3 => asr (u3 = 101 ∨ u3 = 108 ∨ u3 = 115 ∨ u3 = 122 ∨ u3 = 129 ∨ u3 = 136) (if (h2 u3 0) = 0 then cal (XX11_refused (-11) h2) (fun r24 h25 => some (r24, h25)) else inb x0 6 (nmP (h2 98 x0.toNat).toNat (fun u5 => asr (u5 = 101 ∨ u5 = 108 ∨ u5 = 115 ∨ u5 = 122 ∨ u5 = 129 ∨ u5 = 136) (cal (XX10_isRow u5 h2) (fun r7 h8 => if r7 = 0 then cal (XX11_refused (-12) h8) (fun r22 h23 => some (r22, h23)) else inb x0 6 (nmP (h8 98 x0.toNat).toNat (fun u9 => asr (u9 = 101 ∨ u9 = 108 ∨ u9 = 115 ∨ u9 = 122 ∨ u9 = 129 ∨ u9 = 136) (cal (XX10_hasElement u9 x1 h8) (fun r11 h12 => if r11 = 0 then cal (XX11_refused (-13) h12) (fun r20 h21 => some (r20, h21)) else inb x0 6 (nmP (h12 98 x0.toNat).toNat (fun u13 => asr (u13 = 101 ∨ u13 = 108 ∨ u13 = 115 ∨ u13 = 122 ∨ u13 = 129 ∨ u13 = 136) (inb x0 6 (nmP (h12 98 x0.toNat).toNat (fun u15 => asr (u15 = 101 ∨ u15 = 108 ∨ u15 = 115 ∨ u15 = 122 ∨ u15 = 129 ∨ u15 = 136) (cal (XX10_narrowed u15 x2 h12) (fun r17 h18 => inb x1 256 (hm (wr h18 (u13 + 1) x1.toNat r17) (fun h19 => some (1, h19))))))))))))))))))))))
theorem sX11_put {G : GG} {w : Wd} (hw : okX w) (x0 : Int) (x1 : Int) (x2 : Int) (h : Hp) : SC G w yX11_put (Cond.code yX11_put cX11_put 5 (Option.some Jvm.ClassFile.FieldType.int)) 2 0 [vP 16, vI x0, vI x1, vJ x2] (XX11_put x0 x1 x2 h) h := by
  refine SC_of (own := "GatePatch") plain_GP rfl (Nat.le_of_ble_eq_true rfl) (fun Γ hG g => ?_)
  subst hG
  show Sim Γ w 0 _ h 0 [(0, vP 16), (1, vI x0), (2, vI x1), (3, vJ x2)] []
  unfold XX11_put
  refine S_iload_n (kk := 1) g dX11_put_0 rfl rfl ?_
  refine S_callSi (As := [vI x0]) g dX11_put_1 (sX11_isTape hw _ _) rfl st_X11_isTape cw_X11_isTape ml_GP_250 ini_GP nd_X11_isTape ⟨by decide, by decide⟩ (Nat.le_of_ble_eq_true rfl) (fun r1 h2 => ?_)
  refine S_if_ne (tgt := 9) g dX11_put_4 (by decide) ?_ ?_
  · refine S_aload_n (kk := 0) g dX11_put_9 rfl rfl ?_
    refine S_getr g dX11_put_10 fl_GP_76 (at_16 hw) rfl (rc_16_9 hw) ?_
    refine S_iload_n (kk := 1) g dX11_put_13 rfl rfl ?_
    refine S_aaload g dX11_put_14 (at_98 hw) (Or.inr rfl) ?_
    refine S_nmP (fun u3 => ?_)
    refine S_asr (fun q4 => ?_)
    refine S_geti g dX11_put_15 fl_GP_264 (tp_of hw q4).1 (Or.inl rfl) ?_
    refine S_if_ne (tgt := 28) g dX11_put_18 (by decide) ?_ ?_
    · refine S_aload_n (kk := 0) g dX11_put_28 rfl rfl ?_
      refine S_getr g dX11_put_29 fl_GP_76 (at_16 hw) rfl (rc_16_9 hw) ?_
      refine S_iload_n (kk := 1) g dX11_put_32 rfl rfl ?_
      refine S_aaload g dX11_put_33 (at_98 hw) (Or.inr rfl) ?_
      refine S_nmP (fun u5 => ?_)
      refine S_asr (fun q6 => ?_)
      refine S_callVi (As := []) g dX11_put_34 (sX10_isRow hw u5 (tp_of hw q6) _) rfl (tp_of hw q6).1 rfl im_X10_isRow se_X10_isRow cw_X10_isRow ml_GP_467 ini_Tape nd_X10_isRow ⟨by decide, by decide⟩ (Nat.le_of_ble_eq_true rfl) (fun r7 h8 => ?_)
      refine S_if_ne (tgt := 47) g dX11_put_37 (by decide) ?_ ?_
      · refine S_aload_n (kk := 0) g dX11_put_47 rfl rfl ?_
        refine S_getr g dX11_put_48 fl_GP_76 (at_16 hw) rfl (rc_16_9 hw) ?_
        refine S_iload_n (kk := 1) g dX11_put_51 rfl rfl ?_
        refine S_aaload g dX11_put_52 (at_98 hw) (Or.inr rfl) ?_
        refine S_nmP (fun u9 => ?_)
        refine S_asr (fun q10 => ?_)
        refine S_iload_n (kk := 2) g dX11_put_53 rfl rfl ?_
        refine S_callVi (As := [vI x1]) g dX11_put_54 (sX10_hasElement hw u9 (tp_of hw q10) _ _) rfl (tp_of hw q10).1 rfl im_X10_hasElement se_X10_hasElement cw_X10_hasElement ml_GP_470 ini_Tape nd_X10_hasElement ⟨by decide, by decide⟩ (Nat.le_of_ble_eq_true rfl) (fun r11 h12 => ?_)
        refine S_if_ne (tgt := 67) g dX11_put_57 (by decide) ?_ ?_
        · refine S_aload_n (kk := 0) g dX11_put_67 rfl rfl ?_
          refine S_getr g dX11_put_68 fl_GP_76 (at_16 hw) rfl (rc_16_9 hw) ?_
          refine S_iload_n (kk := 1) g dX11_put_71 rfl rfl ?_
          refine S_aaload g dX11_put_72 (at_98 hw) (Or.inr rfl) ?_
          refine S_nmP (fun u13 => ?_)
          refine S_asr (fun q14 => ?_)
          refine S_getr g dX11_put_73 fl_GP_257 (tp_of hw q14).1 rfl (tp_of hw q14).2.1 ?_
          refine S_iload_n (kk := 2) g dX11_put_76 rfl rfl ?_
          refine S_aload_n (kk := 0) g dX11_put_77 rfl rfl ?_
          refine S_getr g dX11_put_78 fl_GP_76 (at_16 hw) rfl (rc_16_9 hw) ?_
          refine S_iload_n (kk := 1) g dX11_put_81 rfl rfl ?_
          refine S_aaload g dX11_put_82 (at_98 hw) (Or.inr rfl) ?_
          refine S_nmP (fun u15 => ?_)
          refine S_asr (fun q16 => ?_)
          refine S_lload_n (kk := 3) g dX11_put_83 rfl rfl ?_
          refine S_callVj (As := [vJ x2]) g dX11_put_84 (sX10_narrowed hw u15 (tp_of hw q16) _ _) rfl (tp_of hw q16).1 rfl im_X10_narrowed se_X10_narrowed cw_X10_narrowed ml_GP_473 ini_Tape nd_X10_narrowed ⟨by decide, by decide⟩ (Nat.le_of_ble_eq_true rfl) (fun r17 h18 => ?_)
          refine S_lastore g dX11_put_87 (tp_of hw q14).2.2.2.1 (fun h19 => ?_)
          refine S_iconst g dX11_put_88 ⟨by decide, by decide⟩ ?_
          exact S_ireturn g dX11_put_89 rfl
        · refine S_aload_n (kk := 0) g dX11_put_60 rfl rfl ?_
          refine S_bipush g dX11_put_61 ⟨by decide, by decide⟩ rfl ?_
          refine S_callVi (As := [vI (-13)]) g dX11_put_63 (sX11_refused hw _ _) rfl (at_16 hw) rfl im_X11_refused se_X11_refused cw_X11_refused ml_GP_267 ini_GP nd_X11_refused ⟨by decide, by decide⟩ (Nat.le_of_ble_eq_true rfl) (fun r20 h21 => ?_)
          exact S_ireturn g dX11_put_66 rfl
      · refine S_aload_n (kk := 0) g dX11_put_40 rfl rfl ?_
        refine S_bipush g dX11_put_41 ⟨by decide, by decide⟩ rfl ?_
        refine S_callVi (As := [vI (-12)]) g dX11_put_43 (sX11_refused hw _ _) rfl (at_16 hw) rfl im_X11_refused se_X11_refused cw_X11_refused ml_GP_267 ini_GP nd_X11_refused ⟨by decide, by decide⟩ (Nat.le_of_ble_eq_true rfl) (fun r22 h23 => ?_)
        exact S_ireturn g dX11_put_46 rfl
    · refine S_aload_n (kk := 0) g dX11_put_21 rfl rfl ?_
      refine S_bipush g dX11_put_22 ⟨by decide, by decide⟩ rfl ?_
      refine S_callVi (As := [vI (-11)]) g dX11_put_24 (sX11_refused hw _ _) rfl (at_16 hw) rfl im_X11_refused se_X11_refused cw_X11_refused ml_GP_267 ini_GP nd_X11_refused ⟨by decide, by decide⟩ (Nat.le_of_ble_eq_true rfl) (fun r24 h25 => ?_)
      exact S_ireturn g dX11_put_27 rfl
  · refine S_iconst g dX11_put_7 ⟨by decide, by decide⟩ ?_
    exact S_ireturn g dX11_put_8 rfl

def XX11_copy_p48   (h : Hp) : OR :=
  cal (XX11_refused (-11) h) (fun r9 h10 => some (r9, h10))
def XX11_copy_p76   (h : Hp) : OR :=
  cal (XX11_refused (-12) h) (fun r13 h14 => some (r13, h14))
def XX11_copy_p106   (h : Hp) : OR :=
  cal (XX11_refused (-13) h) (fun r17 h18 => some (r17, h18))
def XX11_copy (x0 : Int) (x1 : Int) (x2 : Int) (x3 : Int) (x4 : Int) (h : Hp) : OR :=
  cal (XX11_isTape x0 h) (fun r1 h2 => if r1 = 0 then some ((-1), h2) else cal (XX11_isTape x2 h2) (fun r3 h4 => if r3 = 0 then some ((-1), h4) else inb x0 6 (nmP (h4 98 x0.toNat).toNat (fun u5 => asr (u5 = 101 ∨ u5 = 108 ∨ u5 = 115 ∨ u5 = 122 ∨ u5 = 129 ∨ u5 = 136) (inb x2 6 (nmP (h4 98 x2.toNat).toNat (fun u7 => asr (u7 = 101 ∨ u7 = 108 ∨ u7 = 115 ∨ u7 = 122 ∨ u7 = 129 ∨ u7 = 136) (if (h4 u5 0) = 0 then XX11_copy_p48 h4 else if (h4 u7 0) = 0 then XX11_copy_p48 h4 else cal (XX10_isRow u5 h4) (fun r11 h12 => if r11 = 0 then XX11_copy_p76 h12 else if (h12 u5 0) = (h12 u7 0) then cal (XX10_hasElements u5 x1 x4 h12) (fun r15 h16 => if r15 = 0 then XX11_copy_p106 h16 else cal (XX10_hasElements u7 x3 x4 h16) (fun r19 h20 => if r19 = 0 then XX11_copy_p106 h20 else acp x1 x3 x4 256 256 (hm (cpy h20 (u5 + 1) x1.toNat (u7 + 1) x3.toNat x4.toNat) (fun h21 => some (x4, h21))))) else XX11_copy_p76 h12)))))))))
theorem sX11_copy_p48 {Γ : Cx} {w : Wd} (hw : okX w) (g : Gd Γ cX11_copy 8 "GatePatch" (Option.some Jvm.ClassFile.FieldType.int) (rmd 2))   (h : Hp) : Sim Γ w 0 (XX11_copy_p48    h) h 48 [(0, vP 16)] [] := by
  unfold XX11_copy_p48
  refine S_aload_n (kk := 0) g dX11_copy_48 rfl rfl ?_
  refine S_bipush g dX11_copy_49 ⟨by decide, by decide⟩ rfl ?_
  refine S_callVi (As := [vI (-11)]) g dX11_copy_51 (sX11_refused hw _ _) rfl (at_16 hw) rfl im_X11_refused se_X11_refused cw_X11_refused ml_GP_267 ini_GP nd_X11_refused ⟨by decide, by decide⟩ (Nat.le_of_ble_eq_true rfl) (fun r9 h10 => ?_)
  exact S_ireturn g dX11_copy_54 rfl

theorem sX11_copy_p76 {Γ : Cx} {w : Wd} (hw : okX w) (g : Gd Γ cX11_copy 8 "GatePatch" (Option.some Jvm.ClassFile.FieldType.int) (rmd 2))   (h : Hp) : Sim Γ w 0 (XX11_copy_p76    h) h 76 [(0, vP 16)] [] := by
  unfold XX11_copy_p76
  refine S_aload_n (kk := 0) g dX11_copy_76 rfl rfl ?_
  refine S_bipush g dX11_copy_77 ⟨by decide, by decide⟩ rfl ?_
  refine S_callVi (As := [vI (-12)]) g dX11_copy_79 (sX11_refused hw _ _) rfl (at_16 hw) rfl im_X11_refused se_X11_refused cw_X11_refused ml_GP_267 ini_GP nd_X11_refused ⟨by decide, by decide⟩ (Nat.le_of_ble_eq_true rfl) (fun r13 h14 => ?_)
  exact S_ireturn g dX11_copy_82 rfl

theorem sX11_copy_p106 {Γ : Cx} {w : Wd} (hw : okX w) (g : Gd Γ cX11_copy 8 "GatePatch" (Option.some Jvm.ClassFile.FieldType.int) (rmd 2))   (h : Hp) : Sim Γ w 0 (XX11_copy_p106    h) h 106 [(0, vP 16)] [] := by
  unfold XX11_copy_p106
  refine S_aload_n (kk := 0) g dX11_copy_106 rfl rfl ?_
  refine S_bipush g dX11_copy_107 ⟨by decide, by decide⟩ rfl ?_
  refine S_callVi (As := [vI (-13)]) g dX11_copy_109 (sX11_refused hw _ _) rfl (at_16 hw) rfl im_X11_refused se_X11_refused cw_X11_refused ml_GP_267 ini_GP nd_X11_refused ⟨by decide, by decide⟩ (Nat.le_of_ble_eq_true rfl) (fun r17 h18 => ?_)
  exact S_ireturn g dX11_copy_112 rfl

theorem sX11_copy {G : GG} {w : Wd} (hw : okX w) (x0 : Int) (x1 : Int) (x2 : Int) (x3 : Int) (x4 : Int) (h : Hp) : SC G w yX11_copy (Cond.code yX11_copy cX11_copy 8 (Option.some Jvm.ClassFile.FieldType.int)) 2 0 [vP 16, vI x0, vI x1, vI x2, vI x3, vI x4] (XX11_copy x0 x1 x2 x3 x4 h) h := by
  refine SC_of (own := "GatePatch") plain_GP rfl (Nat.le_of_ble_eq_true rfl) (fun Γ hG g => ?_)
  subst hG
  show Sim Γ w 0 _ h 0 [(0, vP 16), (1, vI x0), (2, vI x1), (3, vI x2), (4, vI x3), (5, vI x4)] []
  unfold XX11_copy
  refine S_iload_n (kk := 1) g dX11_copy_0 rfl rfl ?_
  refine S_callSi (As := [vI x0]) g dX11_copy_1 (sX11_isTape hw _ _) rfl st_X11_isTape cw_X11_isTape ml_GP_250 ini_GP nd_X11_isTape ⟨by decide, by decide⟩ (Nat.le_of_ble_eq_true rfl) (fun r1 h2 => ?_)
  refine S_if_eq (tgt := 14) g dX11_copy_4 (by decide) ?_ ?_
  · refine S_iconst g dX11_copy_14 ⟨by decide, by decide⟩ ?_
    exact S_ireturn g dX11_copy_15 rfl
  · refine S_iload_n (kk := 3) g dX11_copy_7 rfl rfl ?_
    refine S_callSi (As := [vI x2]) g dX11_copy_8 (sX11_isTape hw _ _) rfl st_X11_isTape cw_X11_isTape ml_GP_250 ini_GP nd_X11_isTape ⟨by decide, by decide⟩ (Nat.le_of_ble_eq_true rfl) (fun r3 h4 => ?_)
    refine S_if_ne (tgt := 16) g dX11_copy_11 (by decide) ?_ ?_
    · refine S_aload_n (kk := 0) g dX11_copy_16 rfl rfl ?_
      refine S_getr g dX11_copy_17 fl_GP_76 (at_16 hw) rfl (rc_16_9 hw) ?_
      refine S_iload_n (kk := 1) g dX11_copy_20 rfl rfl ?_
      refine S_aaload g dX11_copy_21 (at_98 hw) (Or.inr rfl) ?_
      refine S_nmP (fun u5 => ?_)
      refine S_asr (fun q6 => ?_)
      refine S_astore g dX11_copy_22 (by decide) rfl ?_
      refine S_aload_n (kk := 1) g dX11_copy_24 rfl rfl ?_
      refine S_getr g dX11_copy_25 fl_GP_76 (at_16 hw) rfl (rc_16_9 hw) ?_
      refine S_iload_n (kk := 4) g dX11_copy_28 rfl rfl ?_
      refine S_aaload g dX11_copy_29 (at_98 hw) (Or.inr rfl) ?_
      refine S_nmP (fun u7 => ?_)
      refine S_asr (fun q8 => ?_)
      refine S_astore g dX11_copy_30 (by decide) rfl ?_
      refine S_aload (kk := 1) g dX11_copy_32 rfl ?_
      refine S_geti g dX11_copy_34 fl_GP_264 (tp_of hw q6).1 (Or.inl rfl) ?_
      refine S_if_eq (tgt := 48) g dX11_copy_37 (by decide) ?_ ?_
      · refine S_sub g [2] rfl ?_
        exact sX11_copy_p48 hw g _
      · refine S_aload (kk := 0) g dX11_copy_40 rfl ?_
        refine S_geti g dX11_copy_42 fl_GP_264 (tp_of hw q8).1 (Or.inl rfl) ?_
        refine S_if_ne (tgt := 55) g dX11_copy_45 (by decide) ?_ ?_
        · refine S_aload (kk := 1) g dX11_copy_55 rfl ?_
          refine S_callVi (As := []) g dX11_copy_57 (sX10_isRow hw u5 (tp_of hw q6) _) rfl (tp_of hw q6).1 rfl im_X10_isRow se_X10_isRow cw_X10_isRow ml_GP_467 ini_Tape nd_X10_isRow ⟨by decide, by decide⟩ (Nat.le_of_ble_eq_true rfl) (fun r11 h12 => ?_)
          refine S_if_eq (tgt := 76) g dX11_copy_60 (by decide) ?_ ?_
          · refine S_sub g [2] rfl ?_
            exact sX11_copy_p76 hw g _
          · refine S_aload (kk := 1) g dX11_copy_63 rfl ?_
            refine S_geti g dX11_copy_65 fl_GP_264 (tp_of hw q6).1 (Or.inl rfl) ?_
            refine S_aload (kk := 0) g dX11_copy_68 rfl ?_
            refine S_geti g dX11_copy_70 fl_GP_264 (tp_of hw q8).1 (Or.inl rfl) ?_
            refine S_icmp_eq (tgt := 83) g dX11_copy_73 (by decide) ?_ ?_
            · refine S_aload (kk := 1) g dX11_copy_83 rfl ?_
              refine S_iload_n (kk := 4) g dX11_copy_85 rfl rfl ?_
              refine S_iload (kk := 7) g dX11_copy_86 rfl ?_
              refine S_callVi (As := [vI x1, vI x4]) g dX11_copy_88 (sX10_hasElements hw u5 (tp_of hw q6) _ _ _) rfl (tp_of hw q6).1 rfl im_X10_hasElements se_X10_hasElements cw_X10_hasElements ml_GP_484 ini_Tape nd_X10_hasElements ⟨by decide, by decide⟩ (Nat.le_of_ble_eq_true rfl) (fun r15 h16 => ?_)
              refine S_if_eq (tgt := 106) g dX11_copy_91 (by decide) ?_ ?_
              · refine S_sub g [2] rfl ?_
                exact sX11_copy_p106 hw g _
              · refine S_aload (kk := 0) g dX11_copy_94 rfl ?_
                refine S_iload (kk := 6) g dX11_copy_96 rfl ?_
                refine S_iload (kk := 7) g dX11_copy_98 rfl ?_
                refine S_callVi (As := [vI x3, vI x4]) g dX11_copy_100 (sX10_hasElements hw u7 (tp_of hw q8) _ _ _) rfl (tp_of hw q8).1 rfl im_X10_hasElements se_X10_hasElements cw_X10_hasElements ml_GP_484 ini_Tape nd_X10_hasElements ⟨by decide, by decide⟩ (Nat.le_of_ble_eq_true rfl) (fun r19 h20 => ?_)
                refine S_if_ne (tgt := 113) g dX11_copy_103 (by decide) ?_ ?_
                · refine S_aload (kk := 1) g dX11_copy_113 rfl ?_
                  refine S_getr g dX11_copy_115 fl_GP_257 (tp_of hw q6).1 rfl (tp_of hw q6).2.1 ?_
                  refine S_iload_n (kk := 4) g dX11_copy_118 rfl rfl ?_
                  refine S_aload (kk := 0) g dX11_copy_119 rfl ?_
                  refine S_getr g dX11_copy_121 fl_GP_257 (tp_of hw q8).1 rfl (tp_of hw q8).2.1 ?_
                  refine S_iload (kk := 6) g dX11_copy_124 rfl ?_
                  refine S_iload (kk := 7) g dX11_copy_126 rfl ?_
                  refine S_copyl g dX11_copy_128 ml_GP_241 acp_nat acp_st ini_Sys (tp_of hw q6).2.2.2.1 (tp_of hw q8).2.2.2.1 (by decide) (by decide) (fun h21 => ?_)
                  refine S_iload (kk := 7) g dX11_copy_131 rfl ?_
                  exact S_ireturn g dX11_copy_133 rfl
                · refine S_sub g [2] rfl ?_
                  exact sX11_copy_p106 hw g _
            · refine S_sub g [2] rfl ?_
              exact sX11_copy_p76 hw g _
        · refine S_sub g [2] rfl ?_
          exact sX11_copy_p48 hw g _
    · refine S_iconst g dX11_copy_14 ⟨by decide, by decide⟩ ?_
      exact S_ireturn g dX11_copy_15 rfl

def XX11_count (x0 : Int) (h : Hp) : OR :=
  if x0 = 0 then some ((h 18 0), h) else if x0 = 1 then some ((h 18 1), h) else if x0 = 2 then some ((h 18 2), h) else if x0 = 3 then some ((h 18 3), h) else if x0 = 4 then some ((h 28 3), h) else if x0 = 5 then cal (XX0_freeCount h) (fun r6 h7 => some (r6, h7)) else if x0 = 6 then some ((h 67 0), h) else if x0 = 7 then some ((h 72 2), h) else if x0 = 8 then some ((h 72 4), h) else if x0 = 9 then some ((h 72 6), h) else if x0 = 10 then some ((h 16 15), h) else some ((-1), h)
theorem sX11_count {G : GG} {w : Wd} (hw : okX w) (x0 : Int) (h : Hp) : SC G w yX11_count (Cond.code yX11_count cX11_count 2 (Option.some Jvm.ClassFile.FieldType.int)) 3 0 [vP 16, vI x0] (XX11_count x0 h) h := by
  refine SC_of (own := "GatePatch") plain_GP rfl (Nat.le_of_ble_eq_true rfl) (fun Γ hG g => ?_)
  subst hG
  show Sim Γ w 0 _ h 0 [(0, vP 16), (1, vI x0)] []
  unfold XX11_count
  refine S_iload_n (kk := 1) g dX11_count_0 rfl rfl ?_
  refine S_ite (fun c1 => ?_) (fun c1 => ?_)
  · refine S_tabIn (tgt := 60) g dX11_count_1 0 c1 (by decide) (by decide) rfl (by decide) ?_
    refine S_aload_n (kk := 0) g dX11_count_60 rfl rfl ?_
    refine S_getr g dX11_count_61 fl_GP_14 (at_16 hw) rfl (rc_16_0 hw) ?_
    refine S_getr g dX11_count_64 fl_GP_130 (at_17 hw) rfl (rc_17_0 hw) ?_
    refine S_geti g dX11_count_67 fl_GP_487 (at_18 hw) (Or.inl rfl) ?_
    exact S_ireturn g dX11_count_70 rfl
  · skip
    refine S_ite (fun c2 => ?_) (fun c2 => ?_)
    · refine S_tabIn (tgt := 71) g dX11_count_1 1 c2 (by decide) (by decide) rfl (by decide) ?_
      refine S_aload_n (kk := 0) g dX11_count_71 rfl rfl ?_
      refine S_getr g dX11_count_72 fl_GP_14 (at_16 hw) rfl (rc_16_0 hw) ?_
      refine S_getr g dX11_count_75 fl_GP_130 (at_17 hw) rfl (rc_17_0 hw) ?_
      refine S_geti g dX11_count_78 fl_GP_185 (at_18 hw) (Or.inl rfl) ?_
      exact S_ireturn g dX11_count_81 rfl
    · skip
      refine S_ite (fun c3 => ?_) (fun c3 => ?_)
      · refine S_tabIn (tgt := 82) g dX11_count_1 2 c3 (by decide) (by decide) rfl (by decide) ?_
        refine S_aload_n (kk := 0) g dX11_count_82 rfl rfl ?_
        refine S_getr g dX11_count_83 fl_GP_14 (at_16 hw) rfl (rc_16_0 hw) ?_
        refine S_getr g dX11_count_86 fl_GP_130 (at_17 hw) rfl (rc_17_0 hw) ?_
        refine S_geti g dX11_count_89 fl_GP_178 (at_18 hw) (Or.inl rfl) ?_
        exact S_ireturn g dX11_count_92 rfl
      · skip
        refine S_ite (fun c4 => ?_) (fun c4 => ?_)
        · refine S_tabIn (tgt := 93) g dX11_count_1 3 c4 (by decide) (by decide) rfl (by decide) ?_
          refine S_aload_n (kk := 0) g dX11_count_93 rfl rfl ?_
          refine S_getr g dX11_count_94 fl_GP_14 (at_16 hw) rfl (rc_16_0 hw) ?_
          refine S_getr g dX11_count_97 fl_GP_130 (at_17 hw) rfl (rc_17_0 hw) ?_
          refine S_geti g dX11_count_100 fl_GP_138 (at_18 hw) (Or.inl rfl) ?_
          exact S_ireturn g dX11_count_103 rfl
        · skip
          refine S_ite (fun c5 => ?_) (fun c5 => ?_)
          · refine S_tabIn (tgt := 104) g dX11_count_1 4 c5 (by decide) (by decide) rfl (by decide) ?_
            refine S_aload_n (kk := 0) g dX11_count_104 rfl rfl ?_
            refine S_getr g dX11_count_105 fl_GP_18 (at_16 hw) rfl (rc_16_1 hw) ?_
            refine S_getr g dX11_count_108 fl_GP_130 (at_27 hw) rfl (rc_27_0 hw) ?_
            refine S_geti g dX11_count_111 fl_GP_138 (at_28 hw) (Or.inl rfl) ?_
            exact S_ireturn g dX11_count_114 rfl
          · skip
            refine S_ite (fun c8 => ?_) (fun c8 => ?_)
            · refine S_tabIn (tgt := 115) g dX11_count_1 5 c8 (by decide) (by decide) rfl (by decide) ?_
              refine S_aload_n (kk := 0) g dX11_count_115 rfl rfl ?_
              refine S_getr g dX11_count_116 fl_GP_24 (at_16 hw) rfl (rc_16_2 hw) ?_
              refine S_callVi (As := []) g dX11_count_119 (sX0_freeCount hw  _) rfl (at_37 hw) rfl im_X0_freeCount se_X0_freeCount cw_X0_freeCount ml_GP_490 ini_Cases nd_X0_freeCount ⟨by decide, by decide⟩ (Nat.le_of_ble_eq_true rfl) (fun r6 h7 => ?_)
              exact S_ireturn g dX11_count_122 rfl
            · skip
              refine S_ite (fun c9 => ?_) (fun c9 => ?_)
              · refine S_tabIn (tgt := 123) g dX11_count_1 6 c9 (by decide) (by decide) rfl (by decide) ?_
                refine S_aload_n (kk := 0) g dX11_count_123 rfl rfl ?_
                refine S_getr g dX11_count_124 fl_GP_63 (at_16 hw) rfl (rc_16_7 hw) ?_
                refine S_geti g dX11_count_127 fl_GP_375 (at_67 hw) (Or.inl rfl) ?_
                exact S_ireturn g dX11_count_130 rfl
              · skip
                refine S_ite (fun c10 => ?_) (fun c10 => ?_)
                · refine S_tabIn (tgt := 131) g dX11_count_1 7 c10 (by decide) (by decide) rfl (by decide) ?_
                  refine S_aload_n (kk := 0) g dX11_count_131 rfl rfl ?_
                  refine S_getr g dX11_count_132 fl_GP_70 (at_16 hw) rfl (rc_16_8 hw) ?_
                  refine S_geti g dX11_count_135 fl_GP_215 (at_72 hw) (Or.inl rfl) ?_
                  exact S_ireturn g dX11_count_138 rfl
                · skip
                  refine S_ite (fun c11 => ?_) (fun c11 => ?_)
                  · refine S_tabIn (tgt := 139) g dX11_count_1 8 c11 (by decide) (by decide) rfl (by decide) ?_
                    refine S_aload_n (kk := 0) g dX11_count_139 rfl rfl ?_
                    refine S_getr g dX11_count_140 fl_GP_70 (at_16 hw) rfl (rc_16_8 hw) ?_
                    refine S_geti g dX11_count_143 fl_GP_430 (at_72 hw) (Or.inl rfl) ?_
                    exact S_ireturn g dX11_count_146 rfl
                  · skip
                    refine S_ite (fun c12 => ?_) (fun c12 => ?_)
                    · refine S_tabIn (tgt := 147) g dX11_count_1 9 c12 (by decide) (by decide) rfl (by decide) ?_
                      refine S_aload_n (kk := 0) g dX11_count_147 rfl rfl ?_
                      refine S_getr g dX11_count_148 fl_GP_70 (at_16 hw) rfl (rc_16_8 hw) ?_
                      refine S_geti g dX11_count_151 fl_GP_436 (at_72 hw) (Or.inl rfl) ?_
                      exact S_ireturn g dX11_count_154 rfl
                    · skip
                      refine S_ite (fun c13 => ?_) (fun c13 => ?_)
                      · refine S_tabIn (tgt := 155) g dX11_count_1 10 c13 (by decide) (by decide) rfl (by decide) ?_
                        refine S_aload_n (kk := 0) g dX11_count_155 rfl rfl ?_
                        refine S_geti g dX11_count_156 fl_GP_123 (at_16 hw) (Or.inl rfl) ?_
                        exact S_ireturn g dX11_count_159 rfl
                      · skip
                        refine S_tabOut (tgt := 160) g dX11_count_1 (by omega) (by decide) ?_
                        refine S_iconst g dX11_count_160 ⟨by decide, by decide⟩ ?_
                        exact S_ireturn g dX11_count_161 rfl

