theorem At_new {w : Wd} {a : Nat} {S S2 : ShT} (h : At w a S) : At (wnew w S2) a S := ⟨h.1, Nat.lt_succ_of_lt h.2.1, by
  have : a ≠ w.1 := Nat.ne_of_lt h.2.1
  simp only [wnew, if_neg this]; exact h.2.2⟩
theorem At_self {w : Wd} {S : ShT} (h : 16 ≤ w.1) : At (wnew w S) w.1 S := ⟨h, Nat.lt_succ_self _, by simp [wnew]⟩
theorem At_ref {w : Wd} {a x i b : Nat} {S : ShT} (h : At w a S) : At (wref w x i b) a S := h
theorem df_Cases : ∀ j, j < 4 → defaultValue (ty_Cases j) = (if ft 0 j = 2 then .null else if ft 0 j = 1 then .long 0 else .int 0) := by decide +kernel
theorem df_Finder : ∀ j, j < 14 → defaultValue (ty_Finder j) = (if ft 1 j = 2 then .null else if ft 1 j = 1 then .long 0 else .int 0) := by decide +kernel
theorem df_Journal : ∀ j, j < 8 → defaultValue (ty_Journal j) = (if ft 2 j = 2 then .null else if ft 2 j = 1 then .long 0 else .int 0) := by decide +kernel
theorem df_Marks : ∀ j, j < 9 → defaultValue (ty_Marks j) = (if ft 3 j = 2 then .null else if ft 3 j = 1 then .long 0 else .int 0) := by decide +kernel
theorem df_Mender : ∀ j, j < 15 → defaultValue (ty_Mender j) = (if ft 4 j = 2 then .null else if ft 4 j = 1 then .long 0 else .int 0) := by decide +kernel
theorem df_Net : ∀ j, j < 7 → defaultValue (ty_Net j) = (if ft 5 j = 2 then .null else if ft 5 j = 1 then .long 0 else .int 0) := by decide +kernel
theorem df_Patch : ∀ j, j < 15 → defaultValue (ty_Patch j) = (if ft 6 j = 2 then .null else if ft 6 j = 1 then .long 0 else .int 0) := by decide +kernel
theorem df_Plan : ∀ j, j < 8 → defaultValue (ty_Plan j) = (if ft 7 j = 2 then .null else if ft 7 j = 1 then .long 0 else .int 0) := by decide +kernel
theorem df_Spares : ∀ j, j < 6 → defaultValue (ty_Spares j) = (if ft 8 j = 2 then .null else if ft 8 j = 1 then .long 0 else .int 0) := by decide +kernel
theorem df_Tape : ∀ j, j < 4 → defaultValue (ty_Tape j) = (if ft 9 j = 2 then .null else if ft 9 j = 1 then .long 0 else .int 0) := by decide +kernel
theorem df_GP : ∀ j, j < 16 → defaultValue (ty_GP j) = (if ft 10 j = 2 then .null else if ft 10 j = 1 then .long 0 else .int 0) := by decide +kernel
theorem df_Mod : ∀ j, j < 82 → defaultValue (ty_Mod j) = (if ft 11 j = 2 then .null else if ft 11 j = 1 then .long 0 else .int 0) := by decide +kernel
abbrev cX8_init_c : ByteArray := prog_10_method_1_code
def yX8_init : MethodName := ⟨"GatePatch$Plan", "<init>", "()V"⟩
abbrev cX6_init_c : ByteArray := prog_8_method_1_code
def yX6_init : MethodName := ⟨"GatePatch$Net", "<init>", "(I)V"⟩
abbrev cX10_init_c : ByteArray := prog_12_method_1_code
def yX10_init : MethodName := ⟨"GatePatch$Tape", "<init>", "()V"⟩
abbrev cX0_init_c : ByteArray := prog_2_method_1_code
def yX0_init : MethodName := ⟨"GatePatch$Cases", "<init>", "()V"⟩
abbrev cX5_init_c : ByteArray := prog_7_method_1_code
def yX5_init : MethodName := ⟨"GatePatch$Mender", "<init>", "(LGatePatch$Net;LGatePatch$Net;LGatePatch$Cases;)V"⟩
abbrev cX1_init_c : ByteArray := prog_3_method_1_code
def yX1_init : MethodName := ⟨"GatePatch$Finder", "<init>", "(LGatePatch$Net;LGatePatch$Cases;)V"⟩
abbrev cX4_init_c : ByteArray := prog_6_method_1_code
def yX4_init : MethodName := ⟨"GatePatch$Marks", "<init>", "()V"⟩
abbrev cX7_init_c : ByteArray := prog_9_method_1_code
def yX7_init : MethodName := ⟨"GatePatch$Patch", "<init>", "()V"⟩
abbrev cX9_init_c : ByteArray := prog_11_method_1_code
def yX9_init : MethodName := ⟨"GatePatch$Spares", "<init>", "()V"⟩
abbrev cX3_init_c : ByteArray := prog_5_method_1_code
def yX3_init : MethodName := ⟨"GatePatch$Journal", "<init>", "()V"⟩
abbrev cX11_init_c : ByteArray := prog_1_method_1_code
def yX11_init : MethodName := ⟨"GatePatch", "<init>", "()V"⟩
theorem ob_im : Cond.instanceMethod Lib.objectInit ∈ tblG := mem_t 30 (by decide +kernel) rfl
theorem ob_cw : Cond.code Lib.objectInit ⟨#[0xb1]⟩ 1 none ∈ tblG := mem_t 31 (by decide +kernel) rfl
theorem ml_Plan_3 : Cond.methodLink "GatePatch$Plan" 3 Lib.objectInit ∈ tblG := mem_t 43 (by decide +kernel) rfl
theorem ac_int : Cond.arrayClass .int ∈ tblG := mem_t 88 (by decide +kernel) rfl
theorem ff_Plan_9 : FF1 "GatePatch$Plan" 9 7 4 (.array .int) := ⟨R_Plan, T_Plan, 8, ty_Plan, ci_Plan, by decide, mem_t 55 (by decide +kernel) rfl, rfl, rfl, rfl⟩
theorem ff_Plan_15 : FF1 "GatePatch$Plan" 15 7 5 (.array .int) := ⟨R_Plan, T_Plan, 8, ty_Plan, ci_Plan, by decide, mem_t 59 (by decide +kernel) rfl, rfl, rfl, rfl⟩
theorem ff_Plan_18 : FF1 "GatePatch$Plan" 18 7 6 (.array .int) := ⟨R_Plan, T_Plan, 8, ty_Plan, ci_Plan, by decide, mem_t 64 (by decide +kernel) rfl, rfl, rfl, rfl⟩
theorem ff_Plan_21 : FF1 "GatePatch$Plan" 21 7 7 (.array .int) := ⟨R_Plan, T_Plan, 8, ty_Plan, ci_Plan, by decide, mem_t 68 (by decide +kernel) rfl, rfl, rfl, rfl⟩
theorem ml_Net_3 : Cond.methodLink "GatePatch$Net" 3 Lib.objectInit ∈ tblG := mem_t 37 (by decide +kernel) rfl
theorem cl_Net_9 : Cond.classLink "GatePatch$Net" 9 "GatePatch$Plan" ∈ tblG := mem_t 38 (by decide +kernel) rfl
theorem is_Plan : Cond.instantiable "GatePatch$Plan" 8 ∈ tblG := mem_t 39 (by decide +kernel) rfl
theorem mn_Net_11 : Cond.methodLinkNest "GatePatch$Net" 11 yX8_init "GatePatch" ∈ NW := by simp [NW, yX8_init]
theorem im_X8_init : Cond.instanceMethod yX8_init ∈ tblG := mem_t 41 (by decide +kernel) rfl
theorem cw_X8_init : Cond.code yX8_init cX8_init_c 1 (Option.none : Option Jvm.ClassFile.FieldType) ∈ tblG := mem_t 42 (by decide +kernel) rfl
theorem nd_X8_init : yX8_init.cls ≠ "java/lang/invoke/MethodHandle" ∧ yX8_init.cls ≠ "java/lang/invoke/VarHandle" ∧ (parseMethodDescriptor yX8_init.desc).map (fun d => d.parameters.length) = some 0 := by decide +kernel
theorem ff_Net_12 : FF1 "GatePatch$Net" 12 5 0 (.object "GatePatch$Plan") := ⟨R_Net, T_Net, 7, ty_Net, ci_Net, by decide, mem_t 89 (by decide +kernel) rfl, rfl, rfl, rfl⟩
theorem ff_Net_18 : FF1 "GatePatch$Net" 18 5 2 (.array .int) := ⟨R_Net, T_Net, 7, ty_Net, ci_Net, by decide, mem_t 97 (by decide +kernel) rfl, rfl, rfl, rfl⟩
theorem ac_long : Cond.arrayClass .long ∈ tblG := mem_t 126 (by decide +kernel) rfl
theorem ff_Net_22 : FF1 "GatePatch$Net" 22 5 3 (.array .long) := ⟨R_Net, T_Net, 7, ty_Net, ci_Net, by decide, mem_t 99 (by decide +kernel) rfl, rfl, rfl, rfl⟩
theorem ff_Net_26 : FF1 "GatePatch$Net" 26 5 4 (.array .long) := ⟨R_Net, T_Net, 7, ty_Net, ci_Net, by decide, mem_t 103 (by decide +kernel) rfl, rfl, rfl, rfl⟩
theorem ff_Net_29 : FF1 "GatePatch$Net" 29 5 5 (.array .int) := ⟨R_Net, T_Net, 7, ty_Net, ci_Net, by decide, mem_t 108 (by decide +kernel) rfl, rfl, rfl, rfl⟩
theorem ff_Net_32 : FF1 "GatePatch$Net" 32 5 1 (.int) := ⟨R_Net, T_Net, 7, ty_Net, ci_Net, by decide, mem_t 95 (by decide +kernel) rfl, rfl, rfl, rfl⟩
theorem ml_Tape_3 : Cond.methodLink "GatePatch$Tape" 3 Lib.objectInit ∈ tblG := mem_t 453 (by decide +kernel) rfl
theorem ff_Tape_9 : FF1 "GatePatch$Tape" 9 9 2 (.array .long) := ⟨R_Tape, T_Tape, 4, ty_Tape, ci_Tape, by decide, mem_t 460 (by decide +kernel) rfl, rfl, rfl, rfl⟩
theorem cl_Tape_15 : Cond.classLink "GatePatch$Tape" 15 "GatePatch$Plan" ∈ tblG := mem_t 454 (by decide +kernel) rfl
theorem mn_Tape_17 : Cond.methodLinkNest "GatePatch$Tape" 17 yX8_init "GatePatch" ∈ NW := by simp [NW, yX8_init]
theorem ff_Tape_18 : FF1 "GatePatch$Tape" 18 9 3 (.object "GatePatch$Plan") := ⟨R_Tape, T_Tape, 4, ty_Tape, ci_Tape, by decide, mem_t 462 (by decide +kernel) rfl, rfl, rfl, rfl⟩
theorem ml_GP_3 : Cond.methodLink "GatePatch" 3 Lib.objectInit ∈ tblG := mem_t 29 (by decide +kernel) rfl
theorem cl_GP_9 : Cond.classLink "GatePatch" 9 "GatePatch$Net" ∈ tblG := mem_t 32 (by decide +kernel) rfl
theorem is_Net : Cond.instantiable "GatePatch$Net" 7 ∈ tblG := mem_t 33 (by decide +kernel) rfl
theorem ml_GP_11 : Cond.methodLink "GatePatch" 11 yX6_init ∈ tblG := mem_t 34 (by decide +kernel) rfl
theorem im_X6_init : Cond.instanceMethod yX6_init ∈ tblG := mem_t 35 (by decide +kernel) rfl
theorem cw_X6_init : Cond.code yX6_init cX6_init_c 2 (Option.none : Option Jvm.ClassFile.FieldType) ∈ tblG := mem_t 36 (by decide +kernel) rfl
theorem nd_X6_init : yX6_init.cls ≠ "java/lang/invoke/MethodHandle" ∧ yX6_init.cls ≠ "java/lang/invoke/VarHandle" ∧ (parseMethodDescriptor yX6_init.desc).map (fun d => d.parameters.length) = some 1 := by decide +kernel
theorem ff_GP_14 : FF1 "GatePatch" 14 10 0 (.object "GatePatch$Net") := ⟨R_GP, T_GP, 16, ty_GP, ci_GP, by decide, mem_t 514 (by decide +kernel) rfl, rfl, rfl, rfl⟩
theorem ff_GP_18 : FF1 "GatePatch" 18 10 1 (.object "GatePatch$Net") := ⟨R_GP, T_GP, 16, ty_GP, ci_GP, by decide, mem_t 515 (by decide +kernel) rfl, rfl, rfl, rfl⟩
theorem cl_GP_21 : Cond.classLink "GatePatch" 21 "GatePatch$Cases" ∈ tblG := mem_t 127 (by decide +kernel) rfl
theorem is_Cases : Cond.instantiable "GatePatch$Cases" 4 ∈ tblG := mem_t 128 (by decide +kernel) rfl
theorem mn_GP_23 : Cond.methodLinkNest "GatePatch" 23 yX0_init "GatePatch" ∈ NW := by simp [NW, yX0_init]
theorem ml_Cases_3 : Cond.methodLink "GatePatch$Cases" 3 Lib.objectInit ∈ tblG := mem_t 132 (by decide +kernel) rfl
theorem ff_Cases_9 : FF1 "GatePatch$Cases" 9 0 2 (.array .long) := ⟨R_Cases, T_Cases, 4, ty_Cases, ci_Cases, by decide, mem_t 141 (by decide +kernel) rfl, rfl, rfl, rfl⟩
theorem ff_Cases_15 : FF1 "GatePatch$Cases" 15 0 3 (.array .long) := ⟨R_Cases, T_Cases, 4, ty_Cases, ci_Cases, by decide, mem_t 143 (by decide +kernel) rfl, rfl, rfl, rfl⟩
theorem im_X0_init : Cond.instanceMethod yX0_init ∈ tblG := mem_t 130 (by decide +kernel) rfl
theorem cw_X0_init : Cond.code yX0_init cX0_init_c 1 (Option.none : Option Jvm.ClassFile.FieldType) ∈ tblG := mem_t 131 (by decide +kernel) rfl
theorem nd_X0_init : yX0_init.cls ≠ "java/lang/invoke/MethodHandle" ∧ yX0_init.cls ≠ "java/lang/invoke/VarHandle" ∧ (parseMethodDescriptor yX0_init.desc).map (fun d => d.parameters.length) = some 0 := by decide +kernel
theorem ff_GP_24 : FF1 "GatePatch" 24 10 2 (.object "GatePatch$Cases") := ⟨R_GP, T_GP, 16, ty_GP, ci_GP, by decide, mem_t 516 (by decide +kernel) rfl, rfl, rfl, rfl⟩
theorem cl_GP_28 : Cond.classLink "GatePatch" 28 "GatePatch$Mender" ∈ tblG := mem_t 155 (by decide +kernel) rfl
theorem is_Mender : Cond.instantiable "GatePatch$Mender" 15 ∈ tblG := mem_t 156 (by decide +kernel) rfl
theorem ml_GP_30 : Cond.methodLink "GatePatch" 30 yX5_init ∈ tblG := mem_t 157 (by decide +kernel) rfl
theorem ml_Mender_3 : Cond.methodLink "GatePatch$Mender" 3 Lib.objectInit ∈ tblG := mem_t 160 (by decide +kernel) rfl
theorem ff_Mender_9 : FF1 "GatePatch$Mender" 9 4 3 (.array .int) := ⟨R_Mender, T_Mender, 15, ty_Mender, ci_Mender, by decide, mem_t 164 (by decide +kernel) rfl, rfl, rfl, rfl⟩
theorem ff_Mender_15 : FF1 "GatePatch$Mender" 15 4 6 (.array .long) := ⟨R_Mender, T_Mender, 15, ty_Mender, ci_Mender, by decide, mem_t 171 (by decide +kernel) rfl, rfl, rfl, rfl⟩
theorem ff_Mender_19 : FF1 "GatePatch$Mender" 19 4 9 (.array .long) := ⟨R_Mender, T_Mender, 15, ty_Mender, ci_Mender, by decide, mem_t 172 (by decide +kernel) rfl, rfl, rfl, rfl⟩
theorem ff_Mender_22 : FF1 "GatePatch$Mender" 22 4 7 (.array .int) := ⟨R_Mender, T_Mender, 15, ty_Mender, ci_Mender, by decide, mem_t 173 (by decide +kernel) rfl, rfl, rfl, rfl⟩
theorem ff_Mender_25 : FF1 "GatePatch$Mender" 25 4 10 (.array .long) := ⟨R_Mender, T_Mender, 15, ty_Mender, ci_Mender, by decide, mem_t 175 (by decide +kernel) rfl, rfl, rfl, rfl⟩
theorem ff_Mender_28 : FF1 "GatePatch$Mender" 28 4 13 (.array .long) := ⟨R_Mender, T_Mender, 15, ty_Mender, ci_Mender, by decide, mem_t 177 (by decide +kernel) rfl, rfl, rfl, rfl⟩
theorem ff_Mender_31 : FF1 "GatePatch$Mender" 31 4 14 (.array .long) := ⟨R_Mender, T_Mender, 15, ty_Mender, ci_Mender, by decide, mem_t 178 (by decide +kernel) rfl, rfl, rfl, rfl⟩
theorem ff_Mender_34 : FF1 "GatePatch$Mender" 34 4 0 (.object "GatePatch$Net") := ⟨R_Mender, T_Mender, 15, ty_Mender, ci_Mender, by decide, mem_t 161 (by decide +kernel) rfl, rfl, rfl, rfl⟩
theorem ff_Mender_38 : FF1 "GatePatch$Mender" 38 4 1 (.object "GatePatch$Net") := ⟨R_Mender, T_Mender, 15, ty_Mender, ci_Mender, by decide, mem_t 162 (by decide +kernel) rfl, rfl, rfl, rfl⟩
theorem ff_Mender_41 : FF1 "GatePatch$Mender" 41 4 2 (.object "GatePatch$Cases") := ⟨R_Mender, T_Mender, 15, ty_Mender, ci_Mender, by decide, mem_t 163 (by decide +kernel) rfl, rfl, rfl, rfl⟩
theorem im_X5_init : Cond.instanceMethod yX5_init ∈ tblG := mem_t 158 (by decide +kernel) rfl
theorem cw_X5_init : Cond.code yX5_init cX5_init_c 4 (Option.none : Option Jvm.ClassFile.FieldType) ∈ tblG := mem_t 159 (by decide +kernel) rfl
theorem nd_X5_init : yX5_init.cls ≠ "java/lang/invoke/MethodHandle" ∧ yX5_init.cls ≠ "java/lang/invoke/VarHandle" ∧ (parseMethodDescriptor yX5_init.desc).map (fun d => d.parameters.length) = some 3 := by decide +kernel
theorem ff_GP_33 : FF1 "GatePatch" 33 10 3 (.object "GatePatch$Mender") := ⟨R_GP, T_GP, 16, ty_GP, ci_GP, by decide, mem_t 517 (by decide +kernel) rfl, rfl, rfl, rfl⟩
theorem cl_GP_37 : Cond.classLink "GatePatch" 37 "GatePatch$Finder" ∈ tblG := mem_t 211 (by decide +kernel) rfl
theorem is_Finder : Cond.instantiable "GatePatch$Finder" 14 ∈ tblG := mem_t 212 (by decide +kernel) rfl
theorem ml_GP_39 : Cond.methodLink "GatePatch" 39 yX1_init ∈ tblG := mem_t 213 (by decide +kernel) rfl
theorem ml_Finder_3 : Cond.methodLink "GatePatch$Finder" 3 Lib.objectInit ∈ tblG := mem_t 216 (by decide +kernel) rfl
theorem ff_Finder_9 : FF1 "GatePatch$Finder" 9 1 2 (.array .int) := ⟨R_Finder, T_Finder, 14, ty_Finder, ci_Finder, by decide, mem_t 219 (by decide +kernel) rfl, rfl, rfl, rfl⟩
theorem ff_Finder_15 : FF1 "GatePatch$Finder" 15 1 4 (.array .int) := ⟨R_Finder, T_Finder, 14, ty_Finder, ci_Finder, by decide, mem_t 223 (by decide +kernel) rfl, rfl, rfl, rfl⟩
theorem ff_Finder_18 : FF1 "GatePatch$Finder" 18 1 6 (.array .long) := ⟨R_Finder, T_Finder, 14, ty_Finder, ci_Finder, by decide, mem_t 227 (by decide +kernel) rfl, rfl, rfl, rfl⟩
theorem ff_Finder_22 : FF1 "GatePatch$Finder" 22 1 7 (.array .int) := ⟨R_Finder, T_Finder, 14, ty_Finder, ci_Finder, by decide, mem_t 228 (by decide +kernel) rfl, rfl, rfl, rfl⟩
theorem ff_Finder_25 : FF1 "GatePatch$Finder" 25 1 8 (.array .int) := ⟨R_Finder, T_Finder, 14, ty_Finder, ci_Finder, by decide, mem_t 229 (by decide +kernel) rfl, rfl, rfl, rfl⟩
theorem ff_Finder_28 : FF1 "GatePatch$Finder" 28 1 9 (.array .int) := ⟨R_Finder, T_Finder, 14, ty_Finder, ci_Finder, by decide, mem_t 230 (by decide +kernel) rfl, rfl, rfl, rfl⟩
theorem ff_Finder_31 : FF1 "GatePatch$Finder" 31 1 10 (.array .int) := ⟨R_Finder, T_Finder, 14, ty_Finder, ci_Finder, by decide, mem_t 231 (by decide +kernel) rfl, rfl, rfl, rfl⟩
theorem ff_Finder_34 : FF1 "GatePatch$Finder" 34 1 0 (.object "GatePatch$Net") := ⟨R_Finder, T_Finder, 14, ty_Finder, ci_Finder, by decide, mem_t 217 (by decide +kernel) rfl, rfl, rfl, rfl⟩
theorem ff_Finder_38 : FF1 "GatePatch$Finder" 38 1 1 (.object "GatePatch$Cases") := ⟨R_Finder, T_Finder, 14, ty_Finder, ci_Finder, by decide, mem_t 218 (by decide +kernel) rfl, rfl, rfl, rfl⟩
theorem im_X1_init : Cond.instanceMethod yX1_init ∈ tblG := mem_t 214 (by decide +kernel) rfl
theorem cw_X1_init : Cond.code yX1_init cX1_init_c 3 (Option.none : Option Jvm.ClassFile.FieldType) ∈ tblG := mem_t 215 (by decide +kernel) rfl
theorem nd_X1_init : yX1_init.cls ≠ "java/lang/invoke/MethodHandle" ∧ yX1_init.cls ≠ "java/lang/invoke/VarHandle" ∧ (parseMethodDescriptor yX1_init.desc).map (fun d => d.parameters.length) = some 2 := by decide +kernel
theorem ff_GP_42 : FF1 "GatePatch" 42 10 4 (.object "GatePatch$Finder") := ⟨R_GP, T_GP, 16, ty_GP, ci_GP, by decide, mem_t 518 (by decide +kernel) rfl, rfl, rfl, rfl⟩
theorem cl_GP_46 : Cond.classLink "GatePatch" 46 "GatePatch$Marks" ∈ tblG := mem_t 269 (by decide +kernel) rfl
theorem is_Marks : Cond.instantiable "GatePatch$Marks" 9 ∈ tblG := mem_t 270 (by decide +kernel) rfl
theorem mn_GP_48 : Cond.methodLinkNest "GatePatch" 48 yX4_init "GatePatch" ∈ NW := by simp [NW, yX4_init]
theorem ml_Marks_3 : Cond.methodLink "GatePatch$Marks" 3 Lib.objectInit ∈ tblG := mem_t 274 (by decide +kernel) rfl
theorem ff_Marks_9 : FF1 "GatePatch$Marks" 9 3 0 (.array .int) := ⟨R_Marks, T_Marks, 9, ty_Marks, ci_Marks, by decide, mem_t 275 (by decide +kernel) rfl, rfl, rfl, rfl⟩
theorem ff_Marks_15 : FF1 "GatePatch$Marks" 15 3 2 (.array .int) := ⟨R_Marks, T_Marks, 9, ty_Marks, ci_Marks, by decide, mem_t 279 (by decide +kernel) rfl, rfl, rfl, rfl⟩
theorem im_X4_init : Cond.instanceMethod yX4_init ∈ tblG := mem_t 272 (by decide +kernel) rfl
theorem cw_X4_init : Cond.code yX4_init cX4_init_c 1 (Option.none : Option Jvm.ClassFile.FieldType) ∈ tblG := mem_t 273 (by decide +kernel) rfl
theorem nd_X4_init : yX4_init.cls ≠ "java/lang/invoke/MethodHandle" ∧ yX4_init.cls ≠ "java/lang/invoke/VarHandle" ∧ (parseMethodDescriptor yX4_init.desc).map (fun d => d.parameters.length) = some 0 := by decide +kernel
theorem ff_GP_49 : FF1 "GatePatch" 49 10 5 (.object "GatePatch$Marks") := ⟨R_GP, T_GP, 16, ty_GP, ci_GP, by decide, mem_t 519 (by decide +kernel) rfl, rfl, rfl, rfl⟩
theorem cl_GP_53 : Cond.classLink "GatePatch" 53 "GatePatch$Patch" ∈ tblG := mem_t 306 (by decide +kernel) rfl
theorem is_Patch : Cond.instantiable "GatePatch$Patch" 15 ∈ tblG := mem_t 307 (by decide +kernel) rfl
theorem mn_GP_55 : Cond.methodLinkNest "GatePatch" 55 yX7_init "GatePatch" ∈ NW := by simp [NW, yX7_init]
theorem ml_Patch_3 : Cond.methodLink "GatePatch$Patch" 3 Lib.objectInit ∈ tblG := mem_t 311 (by decide +kernel) rfl
theorem ff_Patch_9 : FF1 "GatePatch$Patch" 9 6 2 (.array .int) := ⟨R_Patch, T_Patch, 15, ty_Patch, ci_Patch, by decide, mem_t 317 (by decide +kernel) rfl, rfl, rfl, rfl⟩
theorem ff_Patch_15 : FF1 "GatePatch$Patch" 15 6 4 (.array .int) := ⟨R_Patch, T_Patch, 15, ty_Patch, ci_Patch, by decide, mem_t 322 (by decide +kernel) rfl, rfl, rfl, rfl⟩
theorem ff_Patch_18 : FF1 "GatePatch$Patch" 18 6 6 (.array .int) := ⟨R_Patch, T_Patch, 15, ty_Patch, ci_Patch, by decide, mem_t 328 (by decide +kernel) rfl, rfl, rfl, rfl⟩
theorem ff_Patch_21 : FF1 "GatePatch$Patch" 21 6 7 (.array .int) := ⟨R_Patch, T_Patch, 15, ty_Patch, ci_Patch, by decide, mem_t 330 (by decide +kernel) rfl, rfl, rfl, rfl⟩
theorem ff_Patch_24 : FF1 "GatePatch$Patch" 24 6 9 (.array .int) := ⟨R_Patch, T_Patch, 15, ty_Patch, ci_Patch, by decide, mem_t 334 (by decide +kernel) rfl, rfl, rfl, rfl⟩
theorem ff_Patch_27 : FF1 "GatePatch$Patch" 27 6 10 (.array .int) := ⟨R_Patch, T_Patch, 15, ty_Patch, ci_Patch, by decide, mem_t 337 (by decide +kernel) rfl, rfl, rfl, rfl⟩
theorem ff_Patch_30 : FF1 "GatePatch$Patch" 30 6 11 (.array .int) := ⟨R_Patch, T_Patch, 15, ty_Patch, ci_Patch, by decide, mem_t 340 (by decide +kernel) rfl, rfl, rfl, rfl⟩
theorem ff_Patch_33 : FF1 "GatePatch$Patch" 33 6 12 (.array .int) := ⟨R_Patch, T_Patch, 15, ty_Patch, ci_Patch, by decide, mem_t 343 (by decide +kernel) rfl, rfl, rfl, rfl⟩
theorem ff_Patch_36 : FF1 "GatePatch$Patch" 36 6 13 (.array .int) := ⟨R_Patch, T_Patch, 15, ty_Patch, ci_Patch, by decide, mem_t 346 (by decide +kernel) rfl, rfl, rfl, rfl⟩
theorem ff_Patch_39 : FF1 "GatePatch$Patch" 39 6 14 (.array .int) := ⟨R_Patch, T_Patch, 15, ty_Patch, ci_Patch, by decide, mem_t 349 (by decide +kernel) rfl, rfl, rfl, rfl⟩
theorem im_X7_init : Cond.instanceMethod yX7_init ∈ tblG := mem_t 309 (by decide +kernel) rfl
theorem cw_X7_init : Cond.code yX7_init cX7_init_c 1 (Option.none : Option Jvm.ClassFile.FieldType) ∈ tblG := mem_t 310 (by decide +kernel) rfl
theorem nd_X7_init : yX7_init.cls ≠ "java/lang/invoke/MethodHandle" ∧ yX7_init.cls ≠ "java/lang/invoke/VarHandle" ∧ (parseMethodDescriptor yX7_init.desc).map (fun d => d.parameters.length) = some 0 := by decide +kernel
theorem ff_GP_56 : FF1 "GatePatch" 56 10 6 (.object "GatePatch$Patch") := ⟨R_GP, T_GP, 16, ty_GP, ci_GP, by decide, mem_t 520 (by decide +kernel) rfl, rfl, rfl, rfl⟩
theorem cl_GP_60 : Cond.classLink "GatePatch" 60 "GatePatch$Spares" ∈ tblG := mem_t 381 (by decide +kernel) rfl
theorem is_Spares : Cond.instantiable "GatePatch$Spares" 6 ∈ tblG := mem_t 382 (by decide +kernel) rfl
theorem mn_GP_62 : Cond.methodLinkNest "GatePatch" 62 yX9_init "GatePatch" ∈ NW := by simp [NW, yX9_init]
theorem ml_Spares_3 : Cond.methodLink "GatePatch$Spares" 3 Lib.objectInit ∈ tblG := mem_t 386 (by decide +kernel) rfl
theorem ff_Spares_9 : FF1 "GatePatch$Spares" 9 8 2 (.array .int) := ⟨R_Spares, T_Spares, 6, ty_Spares, ci_Spares, by decide, mem_t 391 (by decide +kernel) rfl, rfl, rfl, rfl⟩
theorem ff_Spares_15 : FF1 "GatePatch$Spares" 15 8 3 (.array .int) := ⟨R_Spares, T_Spares, 6, ty_Spares, ci_Spares, by decide, mem_t 392 (by decide +kernel) rfl, rfl, rfl, rfl⟩
theorem ff_Spares_18 : FF1 "GatePatch$Spares" 18 8 4 (.array .int) := ⟨R_Spares, T_Spares, 6, ty_Spares, ci_Spares, by decide, mem_t 393 (by decide +kernel) rfl, rfl, rfl, rfl⟩
theorem ff_Spares_21 : FF1 "GatePatch$Spares" 21 8 5 (.array .int) := ⟨R_Spares, T_Spares, 6, ty_Spares, ci_Spares, by decide, mem_t 394 (by decide +kernel) rfl, rfl, rfl, rfl⟩
theorem im_X9_init : Cond.instanceMethod yX9_init ∈ tblG := mem_t 384 (by decide +kernel) rfl
theorem cw_X9_init : Cond.code yX9_init cX9_init_c 1 (Option.none : Option Jvm.ClassFile.FieldType) ∈ tblG := mem_t 385 (by decide +kernel) rfl
theorem nd_X9_init : yX9_init.cls ≠ "java/lang/invoke/MethodHandle" ∧ yX9_init.cls ≠ "java/lang/invoke/VarHandle" ∧ (parseMethodDescriptor yX9_init.desc).map (fun d => d.parameters.length) = some 0 := by decide +kernel
theorem ff_GP_63 : FF1 "GatePatch" 63 10 7 (.object "GatePatch$Spares") := ⟨R_GP, T_GP, 16, ty_GP, ci_GP, by decide, mem_t 521 (by decide +kernel) rfl, rfl, rfl, rfl⟩
theorem cl_GP_67 : Cond.classLink "GatePatch" 67 "GatePatch$Journal" ∈ tblG := mem_t 408 (by decide +kernel) rfl
theorem is_Journal : Cond.instantiable "GatePatch$Journal" 8 ∈ tblG := mem_t 409 (by decide +kernel) rfl
theorem ml_GP_69 : Cond.methodLink "GatePatch" 69 yX3_init ∈ tblG := mem_t 410 (by decide +kernel) rfl
theorem ml_Journal_3 : Cond.methodLink "GatePatch$Journal" 3 Lib.objectInit ∈ tblG := mem_t 413 (by decide +kernel) rfl
theorem cl_Journal_9 : Cond.classLink "GatePatch$Journal" 9 "GatePatch$Plan" ∈ tblG := mem_t 414 (by decide +kernel) rfl
theorem ff_Journal_11 : FF1 "GatePatch$Journal" 11 2 0 (.array (.object "GatePatch$Plan")) := ⟨R_Journal, T_Journal, 8, ty_Journal, ci_Journal, by decide, mem_t 417 (by decide +kernel) rfl, rfl, rfl, rfl⟩
theorem ff_Journal_17 : FF1 "GatePatch$Journal" 17 2 1 (.array .int) := ⟨R_Journal, T_Journal, 8, ty_Journal, ci_Journal, by decide, mem_t 418 (by decide +kernel) rfl, rfl, rfl, rfl⟩
theorem ff_Journal_21 : FF1 "GatePatch$Journal" 21 2 3 (.array .int) := ⟨R_Journal, T_Journal, 8, ty_Journal, ci_Journal, by decide, mem_t 421 (by decide +kernel) rfl, rfl, rfl, rfl⟩
theorem ff_Journal_24 : FF1 "GatePatch$Journal" 24 2 5 (.array .int) := ⟨R_Journal, T_Journal, 8, ty_Journal, ci_Journal, by decide, mem_t 425 (by decide +kernel) rfl, rfl, rfl, rfl⟩
theorem ff_Journal_27 : FF1 "GatePatch$Journal" 27 2 7 (.array .long) := ⟨R_Journal, T_Journal, 8, ty_Journal, ci_Journal, by decide, mem_t 429 (by decide +kernel) rfl, rfl, rfl, rfl⟩
theorem mn_Journal_31 : Cond.methodLinkNest "GatePatch$Journal" 31 yX8_init "GatePatch" ∈ NW := by simp [NW, yX8_init]
theorem im_X3_init : Cond.instanceMethod yX3_init ∈ tblG := mem_t 411 (by decide +kernel) rfl
theorem cw_X3_init : Cond.code yX3_init cX3_init_c 2 (Option.none : Option Jvm.ClassFile.FieldType) ∈ tblG := mem_t 412 (by decide +kernel) rfl
theorem nd_X3_init : yX3_init.cls ≠ "java/lang/invoke/MethodHandle" ∧ yX3_init.cls ≠ "java/lang/invoke/VarHandle" ∧ (parseMethodDescriptor yX3_init.desc).map (fun d => d.parameters.length) = some 0 := by decide +kernel
theorem ff_GP_70 : FF1 "GatePatch" 70 10 8 (.object "GatePatch$Journal") := ⟨R_GP, T_GP, 16, ty_GP, ci_GP, by decide, mem_t 522 (by decide +kernel) rfl, rfl, rfl, rfl⟩
theorem cl_GP_74 : Cond.classLink "GatePatch" 74 "GatePatch$Tape" ∈ tblG := mem_t 447 (by decide +kernel) rfl
theorem ff_GP_76 : FF1 "GatePatch" 76 10 9 (.array (.object "GatePatch$Tape")) := ⟨R_GP, T_GP, 16, ty_GP, ci_GP, by decide, mem_t 523 (by decide +kernel) rfl, rfl, rfl, rfl⟩
theorem ff_GP_80 : FF1 "GatePatch" 80 10 10 (.array .int) := ⟨R_GP, T_GP, 16, ty_GP, ci_GP, by decide, mem_t 524 (by decide +kernel) rfl, rfl, rfl, rfl⟩
theorem ff_GP_84 : FF1 "GatePatch" 84 10 11 (.array .int) := ⟨R_GP, T_GP, 16, ty_GP, ci_GP, by decide, mem_t 525 (by decide +kernel) rfl, rfl, rfl, rfl⟩
theorem is_Tape : Cond.instantiable "GatePatch$Tape" 4 ∈ tblG := mem_t 449 (by decide +kernel) rfl
theorem mn_GP_87 : Cond.methodLinkNest "GatePatch" 87 yX10_init "GatePatch" ∈ NW := by simp [NW, yX10_init]
theorem im_X10_init : Cond.instanceMethod yX10_init ∈ tblG := mem_t 451 (by decide +kernel) rfl
theorem cw_X10_init : Cond.code yX10_init cX10_init_c 1 (Option.none : Option Jvm.ClassFile.FieldType) ∈ tblG := mem_t 452 (by decide +kernel) rfl
theorem nd_X10_init : yX10_init.cls ≠ "java/lang/invoke/MethodHandle" ∧ yX10_init.cls ≠ "java/lang/invoke/VarHandle" ∧ (parseMethodDescriptor yX10_init.desc).map (fun d => d.parameters.length) = some 0 := by decide +kernel
theorem dX8_init_0 : decode cX8_init_c 0 = .ok (.aload_n 0, 1) := by decide +kernel
theorem dX8_init_1 : decode cX8_init_c 1 = .ok (.invokespecial 3, 3) := by decide +kernel
theorem dX8_init_4 : decode cX8_init_c 4 = .ok (.aload_n 0, 1) := by decide +kernel
theorem dX8_init_5 : decode cX8_init_c 5 = .ok (.bipush 48, 2) := by decide +kernel
theorem dX8_init_7 : decode cX8_init_c 7 = .ok (.newarray .int, 2) := by decide +kernel
theorem dX8_init_9 : decode cX8_init_c 9 = .ok (.putfield 9, 3) := by decide +kernel
theorem dX8_init_12 : decode cX8_init_c 12 = .ok (.aload_n 0, 1) := by decide +kernel
theorem dX8_init_13 : decode cX8_init_c 13 = .ok (.sipush 144, 3) := by decide +kernel
theorem dX8_init_16 : decode cX8_init_c 16 = .ok (.newarray .int, 2) := by decide +kernel
theorem dX8_init_18 : decode cX8_init_c 18 = .ok (.putfield 15, 3) := by decide +kernel
theorem dX8_init_21 : decode cX8_init_c 21 = .ok (.aload_n 0, 1) := by decide +kernel
theorem dX8_init_22 : decode cX8_init_c 22 = .ok (.bipush 6, 2) := by decide +kernel
theorem dX8_init_24 : decode cX8_init_c 24 = .ok (.newarray .int, 2) := by decide +kernel
theorem dX8_init_26 : decode cX8_init_c 26 = .ok (.putfield 18, 3) := by decide +kernel
theorem dX8_init_29 : decode cX8_init_c 29 = .ok (.aload_n 0, 1) := by decide +kernel
theorem dX8_init_30 : decode cX8_init_c 30 = .ok (.bipush 48, 2) := by decide +kernel
theorem dX8_init_32 : decode cX8_init_c 32 = .ok (.newarray .int, 2) := by decide +kernel
theorem dX8_init_34 : decode cX8_init_c 34 = .ok (.putfield 21, 3) := by decide +kernel
theorem dX8_init_37 : decode cX8_init_c 37 = .ok (.return_, 1) := by decide +kernel
theorem dX6_init_0 : decode cX6_init_c 0 = .ok (.aload_n 0, 1) := by decide +kernel
theorem dX6_init_1 : decode cX6_init_c 1 = .ok (.invokespecial 3, 3) := by decide +kernel
theorem dX6_init_4 : decode cX6_init_c 4 = .ok (.aload_n 0, 1) := by decide +kernel
theorem dX6_init_5 : decode cX6_init_c 5 = .ok (.new 9, 3) := by decide +kernel
theorem dX6_init_8 : decode cX6_init_c 8 = .ok (.dup, 1) := by decide +kernel
theorem dX6_init_9 : decode cX6_init_c 9 = .ok (.invokespecial 11, 3) := by decide +kernel
theorem dX6_init_12 : decode cX6_init_c 12 = .ok (.putfield 12, 3) := by decide +kernel
theorem dX6_init_15 : decode cX6_init_c 15 = .ok (.aload_n 0, 1) := by decide +kernel
theorem dX6_init_16 : decode cX6_init_c 16 = .ok (.bipush 40, 2) := by decide +kernel
theorem dX6_init_18 : decode cX6_init_c 18 = .ok (.newarray .int, 2) := by decide +kernel
theorem dX6_init_20 : decode cX6_init_c 20 = .ok (.putfield 18, 3) := by decide +kernel
theorem dX6_init_23 : decode cX6_init_c 23 = .ok (.aload_n 0, 1) := by decide +kernel
theorem dX6_init_24 : decode cX6_init_c 24 = .ok (.bipush 48, 2) := by decide +kernel
theorem dX6_init_26 : decode cX6_init_c 26 = .ok (.newarray .long, 2) := by decide +kernel
theorem dX6_init_28 : decode cX6_init_c 28 = .ok (.putfield 22, 3) := by decide +kernel
theorem dX6_init_31 : decode cX6_init_c 31 = .ok (.aload_n 0, 1) := by decide +kernel
theorem dX6_init_32 : decode cX6_init_c 32 = .ok (.sipush 192, 3) := by decide +kernel
theorem dX6_init_35 : decode cX6_init_c 35 = .ok (.newarray .long, 2) := by decide +kernel
theorem dX6_init_37 : decode cX6_init_c 37 = .ok (.putfield 26, 3) := by decide +kernel
theorem dX6_init_40 : decode cX6_init_c 40 = .ok (.aload_n 0, 1) := by decide +kernel
theorem dX6_init_41 : decode cX6_init_c 41 = .ok (.bipush 48, 2) := by decide +kernel
theorem dX6_init_43 : decode cX6_init_c 43 = .ok (.newarray .int, 2) := by decide +kernel
theorem dX6_init_45 : decode cX6_init_c 45 = .ok (.putfield 29, 3) := by decide +kernel
theorem dX6_init_48 : decode cX6_init_c 48 = .ok (.aload_n 0, 1) := by decide +kernel
theorem dX6_init_49 : decode cX6_init_c 49 = .ok (.iload_n 1, 1) := by decide +kernel
theorem dX6_init_50 : decode cX6_init_c 50 = .ok (.putfield 32, 3) := by decide +kernel
theorem dX6_init_53 : decode cX6_init_c 53 = .ok (.return_, 1) := by decide +kernel
theorem dX10_init_0 : decode cX10_init_c 0 = .ok (.aload_n 0, 1) := by decide +kernel
theorem dX10_init_1 : decode cX10_init_c 1 = .ok (.invokespecial 3, 3) := by decide +kernel
theorem dX10_init_4 : decode cX10_init_c 4 = .ok (.aload_n 0, 1) := by decide +kernel
theorem dX10_init_5 : decode cX10_init_c 5 = .ok (.sipush 256, 3) := by decide +kernel
theorem dX10_init_8 : decode cX10_init_c 8 = .ok (.newarray .long, 2) := by decide +kernel
theorem dX10_init_10 : decode cX10_init_c 10 = .ok (.putfield 9, 3) := by decide +kernel
theorem dX10_init_13 : decode cX10_init_c 13 = .ok (.aload_n 0, 1) := by decide +kernel
theorem dX10_init_14 : decode cX10_init_c 14 = .ok (.new 15, 3) := by decide +kernel
theorem dX10_init_17 : decode cX10_init_c 17 = .ok (.dup, 1) := by decide +kernel
theorem dX10_init_18 : decode cX10_init_c 18 = .ok (.invokespecial 17, 3) := by decide +kernel
theorem dX10_init_21 : decode cX10_init_c 21 = .ok (.putfield 18, 3) := by decide +kernel
theorem dX10_init_24 : decode cX10_init_c 24 = .ok (.return_, 1) := by decide +kernel
theorem dX0_init_0 : decode cX0_init_c 0 = .ok (.aload_n 0, 1) := by decide +kernel
theorem dX0_init_1 : decode cX0_init_c 1 = .ok (.invokespecial 3, 3) := by decide +kernel
theorem dX0_init_4 : decode cX0_init_c 4 = .ok (.aload_n 0, 1) := by decide +kernel
theorem dX0_init_5 : decode cX0_init_c 5 = .ok (.iconst 4, 1) := by decide +kernel
theorem dX0_init_6 : decode cX0_init_c 6 = .ok (.newarray .long, 2) := by decide +kernel
theorem dX0_init_8 : decode cX0_init_c 8 = .ok (.putfield 9, 3) := by decide +kernel
theorem dX0_init_11 : decode cX0_init_c 11 = .ok (.aload_n 0, 1) := by decide +kernel
theorem dX0_init_12 : decode cX0_init_c 12 = .ok (.iconst 4, 1) := by decide +kernel
theorem dX0_init_13 : decode cX0_init_c 13 = .ok (.newarray .long, 2) := by decide +kernel
theorem dX0_init_15 : decode cX0_init_c 15 = .ok (.putfield 15, 3) := by decide +kernel
theorem dX0_init_18 : decode cX0_init_c 18 = .ok (.return_, 1) := by decide +kernel
theorem dX5_init_0 : decode cX5_init_c 0 = .ok (.aload_n 0, 1) := by decide +kernel
theorem dX5_init_1 : decode cX5_init_c 1 = .ok (.invokespecial 3, 3) := by decide +kernel
theorem dX5_init_4 : decode cX5_init_c 4 = .ok (.aload_n 0, 1) := by decide +kernel
theorem dX5_init_5 : decode cX5_init_c 5 = .ok (.iconst 3, 1) := by decide +kernel
theorem dX5_init_6 : decode cX5_init_c 6 = .ok (.newarray .int, 2) := by decide +kernel
theorem dX5_init_8 : decode cX5_init_c 8 = .ok (.putfield 9, 3) := by decide +kernel
theorem dX5_init_11 : decode cX5_init_c 11 = .ok (.aload_n 0, 1) := by decide +kernel
theorem dX5_init_12 : decode cX5_init_c 12 = .ok (.bipush 48, 2) := by decide +kernel
theorem dX5_init_14 : decode cX5_init_c 14 = .ok (.newarray .long, 2) := by decide +kernel
theorem dX5_init_16 : decode cX5_init_c 16 = .ok (.putfield 15, 3) := by decide +kernel
theorem dX5_init_19 : decode cX5_init_c 19 = .ok (.aload_n 0, 1) := by decide +kernel
theorem dX5_init_20 : decode cX5_init_c 20 = .ok (.bipush 6, 2) := by decide +kernel
theorem dX5_init_22 : decode cX5_init_c 22 = .ok (.newarray .long, 2) := by decide +kernel
theorem dX5_init_24 : decode cX5_init_c 24 = .ok (.putfield 19, 3) := by decide +kernel
theorem dX5_init_27 : decode cX5_init_c 27 = .ok (.aload_n 0, 1) := by decide +kernel
theorem dX5_init_28 : decode cX5_init_c 28 = .ok (.bipush 40, 2) := by decide +kernel
theorem dX5_init_30 : decode cX5_init_c 30 = .ok (.newarray .int, 2) := by decide +kernel
theorem dX5_init_32 : decode cX5_init_c 32 = .ok (.putfield 22, 3) := by decide +kernel
theorem dX5_init_35 : decode cX5_init_c 35 = .ok (.aload_n 0, 1) := by decide +kernel
theorem dX5_init_36 : decode cX5_init_c 36 = .ok (.bipush 6, 2) := by decide +kernel
theorem dX5_init_38 : decode cX5_init_c 38 = .ok (.newarray .long, 2) := by decide +kernel
theorem dX5_init_40 : decode cX5_init_c 40 = .ok (.putfield 25, 3) := by decide +kernel
theorem dX5_init_43 : decode cX5_init_c 43 = .ok (.aload_n 0, 1) := by decide +kernel
theorem dX5_init_44 : decode cX5_init_c 44 = .ok (.bipush 48, 2) := by decide +kernel
theorem dX5_init_46 : decode cX5_init_c 46 = .ok (.newarray .long, 2) := by decide +kernel
theorem dX5_init_48 : decode cX5_init_c 48 = .ok (.putfield 28, 3) := by decide +kernel
theorem dX5_init_51 : decode cX5_init_c 51 = .ok (.aload_n 0, 1) := by decide +kernel
theorem dX5_init_52 : decode cX5_init_c 52 = .ok (.bipush 6, 2) := by decide +kernel
theorem dX5_init_54 : decode cX5_init_c 54 = .ok (.newarray .long, 2) := by decide +kernel
theorem dX5_init_56 : decode cX5_init_c 56 = .ok (.putfield 31, 3) := by decide +kernel
theorem dX5_init_59 : decode cX5_init_c 59 = .ok (.aload_n 0, 1) := by decide +kernel
theorem dX5_init_60 : decode cX5_init_c 60 = .ok (.aload_n 1, 1) := by decide +kernel
theorem dX5_init_61 : decode cX5_init_c 61 = .ok (.putfield 34, 3) := by decide +kernel
theorem dX5_init_64 : decode cX5_init_c 64 = .ok (.aload_n 0, 1) := by decide +kernel
theorem dX5_init_65 : decode cX5_init_c 65 = .ok (.aload_n 2, 1) := by decide +kernel
theorem dX5_init_66 : decode cX5_init_c 66 = .ok (.putfield 38, 3) := by decide +kernel
theorem dX5_init_69 : decode cX5_init_c 69 = .ok (.aload_n 0, 1) := by decide +kernel
theorem dX5_init_70 : decode cX5_init_c 70 = .ok (.aload_n 3, 1) := by decide +kernel
theorem dX5_init_71 : decode cX5_init_c 71 = .ok (.putfield 41, 3) := by decide +kernel
theorem dX5_init_74 : decode cX5_init_c 74 = .ok (.return_, 1) := by decide +kernel
theorem dX1_init_0 : decode cX1_init_c 0 = .ok (.aload_n 0, 1) := by decide +kernel
theorem dX1_init_1 : decode cX1_init_c 1 = .ok (.invokespecial 3, 3) := by decide +kernel
theorem dX1_init_4 : decode cX1_init_c 4 = .ok (.aload_n 0, 1) := by decide +kernel
theorem dX1_init_5 : decode cX1_init_c 5 = .ok (.iconst 2, 1) := by decide +kernel
theorem dX1_init_6 : decode cX1_init_c 6 = .ok (.newarray .int, 2) := by decide +kernel
theorem dX1_init_8 : decode cX1_init_c 8 = .ok (.putfield 9, 3) := by decide +kernel
theorem dX1_init_11 : decode cX1_init_c 11 = .ok (.aload_n 0, 1) := by decide +kernel
theorem dX1_init_12 : decode cX1_init_c 12 = .ok (.iconst 3, 1) := by decide +kernel
theorem dX1_init_13 : decode cX1_init_c 13 = .ok (.newarray .int, 2) := by decide +kernel
theorem dX1_init_15 : decode cX1_init_c 15 = .ok (.putfield 15, 3) := by decide +kernel
theorem dX1_init_18 : decode cX1_init_c 18 = .ok (.aload_n 0, 1) := by decide +kernel
theorem dX1_init_19 : decode cX1_init_c 19 = .ok (.bipush 16, 2) := by decide +kernel
theorem dX1_init_21 : decode cX1_init_c 21 = .ok (.newarray .long, 2) := by decide +kernel
theorem dX1_init_23 : decode cX1_init_c 23 = .ok (.putfield 18, 3) := by decide +kernel
theorem dX1_init_26 : decode cX1_init_c 26 = .ok (.aload_n 0, 1) := by decide +kernel
theorem dX1_init_27 : decode cX1_init_c 27 = .ok (.iconst 4, 1) := by decide +kernel
theorem dX1_init_28 : decode cX1_init_c 28 = .ok (.newarray .int, 2) := by decide +kernel
theorem dX1_init_30 : decode cX1_init_c 30 = .ok (.putfield 22, 3) := by decide +kernel
theorem dX1_init_33 : decode cX1_init_c 33 = .ok (.aload_n 0, 1) := by decide +kernel
theorem dX1_init_34 : decode cX1_init_c 34 = .ok (.bipush 8, 2) := by decide +kernel
theorem dX1_init_36 : decode cX1_init_c 36 = .ok (.newarray .int, 2) := by decide +kernel
theorem dX1_init_38 : decode cX1_init_c 38 = .ok (.putfield 25, 3) := by decide +kernel
theorem dX1_init_41 : decode cX1_init_c 41 = .ok (.aload_n 0, 1) := by decide +kernel
theorem dX1_init_42 : decode cX1_init_c 42 = .ok (.bipush 8, 2) := by decide +kernel
theorem dX1_init_44 : decode cX1_init_c 44 = .ok (.newarray .int, 2) := by decide +kernel
theorem dX1_init_46 : decode cX1_init_c 46 = .ok (.putfield 28, 3) := by decide +kernel
theorem dX1_init_49 : decode cX1_init_c 49 = .ok (.aload_n 0, 1) := by decide +kernel
theorem dX1_init_50 : decode cX1_init_c 50 = .ok (.iconst 2, 1) := by decide +kernel
theorem dX1_init_51 : decode cX1_init_c 51 = .ok (.newarray .int, 2) := by decide +kernel
theorem dX1_init_53 : decode cX1_init_c 53 = .ok (.putfield 31, 3) := by decide +kernel
theorem dX1_init_56 : decode cX1_init_c 56 = .ok (.aload_n 0, 1) := by decide +kernel
theorem dX1_init_57 : decode cX1_init_c 57 = .ok (.aload_n 1, 1) := by decide +kernel
theorem dX1_init_58 : decode cX1_init_c 58 = .ok (.putfield 34, 3) := by decide +kernel
theorem dX1_init_61 : decode cX1_init_c 61 = .ok (.aload_n 0, 1) := by decide +kernel
theorem dX1_init_62 : decode cX1_init_c 62 = .ok (.aload_n 2, 1) := by decide +kernel
theorem dX1_init_63 : decode cX1_init_c 63 = .ok (.putfield 38, 3) := by decide +kernel
theorem dX1_init_66 : decode cX1_init_c 66 = .ok (.return_, 1) := by decide +kernel
theorem dX4_init_0 : decode cX4_init_c 0 = .ok (.aload_n 0, 1) := by decide +kernel
theorem dX4_init_1 : decode cX4_init_c 1 = .ok (.invokespecial 3, 3) := by decide +kernel
theorem dX4_init_4 : decode cX4_init_c 4 = .ok (.aload_n 0, 1) := by decide +kernel
theorem dX4_init_5 : decode cX4_init_c 5 = .ok (.bipush 48, 2) := by decide +kernel
theorem dX4_init_7 : decode cX4_init_c 7 = .ok (.newarray .int, 2) := by decide +kernel
theorem dX4_init_9 : decode cX4_init_c 9 = .ok (.putfield 9, 3) := by decide +kernel
theorem dX4_init_12 : decode cX4_init_c 12 = .ok (.aload_n 0, 1) := by decide +kernel
theorem dX4_init_13 : decode cX4_init_c 13 = .ok (.bipush 10, 2) := by decide +kernel
theorem dX4_init_15 : decode cX4_init_c 15 = .ok (.newarray .int, 2) := by decide +kernel
theorem dX4_init_17 : decode cX4_init_c 17 = .ok (.putfield 15, 3) := by decide +kernel
theorem dX4_init_20 : decode cX4_init_c 20 = .ok (.return_, 1) := by decide +kernel
theorem dX7_init_0 : decode cX7_init_c 0 = .ok (.aload_n 0, 1) := by decide +kernel
theorem dX7_init_1 : decode cX7_init_c 1 = .ok (.invokespecial 3, 3) := by decide +kernel
theorem dX7_init_4 : decode cX7_init_c 4 = .ok (.aload_n 0, 1) := by decide +kernel
theorem dX7_init_5 : decode cX7_init_c 5 = .ok (.iconst 2, 1) := by decide +kernel
theorem dX7_init_6 : decode cX7_init_c 6 = .ok (.newarray .int, 2) := by decide +kernel
theorem dX7_init_8 : decode cX7_init_c 8 = .ok (.putfield 9, 3) := by decide +kernel
theorem dX7_init_11 : decode cX7_init_c 11 = .ok (.aload_n 0, 1) := by decide +kernel
theorem dX7_init_12 : decode cX7_init_c 12 = .ok (.iconst 3, 1) := by decide +kernel
theorem dX7_init_13 : decode cX7_init_c 13 = .ok (.newarray .int, 2) := by decide +kernel
theorem dX7_init_15 : decode cX7_init_c 15 = .ok (.putfield 15, 3) := by decide +kernel
theorem dX7_init_18 : decode cX7_init_c 18 = .ok (.aload_n 0, 1) := by decide +kernel
theorem dX7_init_19 : decode cX7_init_c 19 = .ok (.iconst 2, 1) := by decide +kernel
theorem dX7_init_20 : decode cX7_init_c 20 = .ok (.newarray .int, 2) := by decide +kernel
theorem dX7_init_22 : decode cX7_init_c 22 = .ok (.putfield 18, 3) := by decide +kernel
theorem dX7_init_25 : decode cX7_init_c 25 = .ok (.aload_n 0, 1) := by decide +kernel
theorem dX7_init_26 : decode cX7_init_c 26 = .ok (.iconst 2, 1) := by decide +kernel
theorem dX7_init_27 : decode cX7_init_c 27 = .ok (.newarray .int, 2) := by decide +kernel
theorem dX7_init_29 : decode cX7_init_c 29 = .ok (.putfield 21, 3) := by decide +kernel
theorem dX7_init_32 : decode cX7_init_c 32 = .ok (.aload_n 0, 1) := by decide +kernel
theorem dX7_init_33 : decode cX7_init_c 33 = .ok (.bipush 8, 2) := by decide +kernel
theorem dX7_init_35 : decode cX7_init_c 35 = .ok (.newarray .int, 2) := by decide +kernel
theorem dX7_init_37 : decode cX7_init_c 37 = .ok (.putfield 24, 3) := by decide +kernel
theorem dX7_init_40 : decode cX7_init_c 40 = .ok (.aload_n 0, 1) := by decide +kernel
theorem dX7_init_41 : decode cX7_init_c 41 = .ok (.bipush 8, 2) := by decide +kernel
theorem dX7_init_43 : decode cX7_init_c 43 = .ok (.newarray .int, 2) := by decide +kernel
theorem dX7_init_45 : decode cX7_init_c 45 = .ok (.putfield 27, 3) := by decide +kernel
theorem dX7_init_48 : decode cX7_init_c 48 = .ok (.aload_n 0, 1) := by decide +kernel
theorem dX7_init_49 : decode cX7_init_c 49 = .ok (.bipush 8, 2) := by decide +kernel
theorem dX7_init_51 : decode cX7_init_c 51 = .ok (.newarray .int, 2) := by decide +kernel
theorem dX7_init_53 : decode cX7_init_c 53 = .ok (.putfield 30, 3) := by decide +kernel
theorem dX7_init_56 : decode cX7_init_c 56 = .ok (.aload_n 0, 1) := by decide +kernel
theorem dX7_init_57 : decode cX7_init_c 57 = .ok (.bipush 8, 2) := by decide +kernel
theorem dX7_init_59 : decode cX7_init_c 59 = .ok (.newarray .int, 2) := by decide +kernel
theorem dX7_init_61 : decode cX7_init_c 61 = .ok (.putfield 33, 3) := by decide +kernel
theorem dX7_init_64 : decode cX7_init_c 64 = .ok (.aload_n 0, 1) := by decide +kernel
theorem dX7_init_65 : decode cX7_init_c 65 = .ok (.bipush 8, 2) := by decide +kernel
theorem dX7_init_67 : decode cX7_init_c 67 = .ok (.newarray .int, 2) := by decide +kernel
theorem dX7_init_69 : decode cX7_init_c 69 = .ok (.putfield 36, 3) := by decide +kernel
theorem dX7_init_72 : decode cX7_init_c 72 = .ok (.aload_n 0, 1) := by decide +kernel
theorem dX7_init_73 : decode cX7_init_c 73 = .ok (.bipush 8, 2) := by decide +kernel
theorem dX7_init_75 : decode cX7_init_c 75 = .ok (.newarray .int, 2) := by decide +kernel
theorem dX7_init_77 : decode cX7_init_c 77 = .ok (.putfield 39, 3) := by decide +kernel
theorem dX7_init_80 : decode cX7_init_c 80 = .ok (.return_, 1) := by decide +kernel
theorem dX9_init_0 : decode cX9_init_c 0 = .ok (.aload_n 0, 1) := by decide +kernel
theorem dX9_init_1 : decode cX9_init_c 1 = .ok (.invokespecial 3, 3) := by decide +kernel
theorem dX9_init_4 : decode cX9_init_c 4 = .ok (.aload_n 0, 1) := by decide +kernel
theorem dX9_init_5 : decode cX9_init_c 5 = .ok (.bipush 12, 2) := by decide +kernel
theorem dX9_init_7 : decode cX9_init_c 7 = .ok (.newarray .int, 2) := by decide +kernel
theorem dX9_init_9 : decode cX9_init_c 9 = .ok (.putfield 9, 3) := by decide +kernel
theorem dX9_init_12 : decode cX9_init_c 12 = .ok (.aload_n 0, 1) := by decide +kernel
theorem dX9_init_13 : decode cX9_init_c 13 = .ok (.bipush 12, 2) := by decide +kernel
theorem dX9_init_15 : decode cX9_init_c 15 = .ok (.newarray .int, 2) := by decide +kernel
theorem dX9_init_17 : decode cX9_init_c 17 = .ok (.putfield 15, 3) := by decide +kernel
theorem dX9_init_20 : decode cX9_init_c 20 = .ok (.aload_n 0, 1) := by decide +kernel
theorem dX9_init_21 : decode cX9_init_c 21 = .ok (.bipush 96, 2) := by decide +kernel
theorem dX9_init_23 : decode cX9_init_c 23 = .ok (.newarray .int, 2) := by decide +kernel
theorem dX9_init_25 : decode cX9_init_c 25 = .ok (.putfield 18, 3) := by decide +kernel
theorem dX9_init_28 : decode cX9_init_c 28 = .ok (.aload_n 0, 1) := by decide +kernel
theorem dX9_init_29 : decode cX9_init_c 29 = .ok (.sipush 4096, 3) := by decide +kernel
theorem dX9_init_32 : decode cX9_init_c 32 = .ok (.newarray .int, 2) := by decide +kernel
theorem dX9_init_34 : decode cX9_init_c 34 = .ok (.putfield 21, 3) := by decide +kernel
theorem dX9_init_37 : decode cX9_init_c 37 = .ok (.return_, 1) := by decide +kernel
theorem dX3_init_0 : decode cX3_init_c 0 = .ok (.aload_n 0, 1) := by decide +kernel
theorem dX3_init_1 : decode cX3_init_c 1 = .ok (.invokespecial 3, 3) := by decide +kernel
theorem dX3_init_4 : decode cX3_init_c 4 = .ok (.aload_n 0, 1) := by decide +kernel
theorem dX3_init_5 : decode cX3_init_c 5 = .ok (.iconst 4, 1) := by decide +kernel
theorem dX3_init_6 : decode cX3_init_c 6 = .ok (.anewarray 9, 3) := by decide +kernel
theorem dX3_init_9 : decode cX3_init_c 9 = .ok (.putfield 11, 3) := by decide +kernel
theorem dX3_init_12 : decode cX3_init_c 12 = .ok (.aload_n 0, 1) := by decide +kernel
theorem dX3_init_13 : decode cX3_init_c 13 = .ok (.iconst 4, 1) := by decide +kernel
theorem dX3_init_14 : decode cX3_init_c 14 = .ok (.newarray .int, 2) := by decide +kernel
theorem dX3_init_16 : decode cX3_init_c 16 = .ok (.putfield 17, 3) := by decide +kernel
theorem dX3_init_19 : decode cX3_init_c 19 = .ok (.aload_n 0, 1) := by decide +kernel
theorem dX3_init_20 : decode cX3_init_c 20 = .ok (.sipush 378, 3) := by decide +kernel
theorem dX3_init_23 : decode cX3_init_c 23 = .ok (.newarray .int, 2) := by decide +kernel
theorem dX3_init_25 : decode cX3_init_c 25 = .ok (.putfield 21, 3) := by decide +kernel
theorem dX3_init_28 : decode cX3_init_c 28 = .ok (.aload_n 0, 1) := by decide +kernel
theorem dX3_init_29 : decode cX3_init_c 29 = .ok (.sipush 256, 3) := by decide +kernel
theorem dX3_init_32 : decode cX3_init_c 32 = .ok (.newarray .int, 2) := by decide +kernel
theorem dX3_init_34 : decode cX3_init_c 34 = .ok (.putfield 24, 3) := by decide +kernel
theorem dX3_init_37 : decode cX3_init_c 37 = .ok (.aload_n 0, 1) := by decide +kernel
theorem dX3_init_38 : decode cX3_init_c 38 = .ok (.bipush 24, 2) := by decide +kernel
theorem dX3_init_40 : decode cX3_init_c 40 = .ok (.newarray .long, 2) := by decide +kernel
theorem dX3_init_42 : decode cX3_init_c 42 = .ok (.putfield 27, 3) := by decide +kernel
theorem dX3_init_45 : decode cX3_init_c 45 = .ok (.iconst 0, 1) := by decide +kernel
theorem dX3_init_46 : decode cX3_init_c 46 = .ok (.istore_n 1, 1) := by decide +kernel
theorem dX3_init_47 : decode cX3_init_c 47 = .ok (.iload_n 1, 1) := by decide +kernel
theorem dX3_init_48 : decode cX3_init_c 48 = .ok (.iconst 4, 1) := by decide +kernel
theorem dX3_init_49 : decode cX3_init_c 49 = .ok (.if_icmp .ge 22, 3) := by decide +kernel
theorem dX3_init_52 : decode cX3_init_c 52 = .ok (.aload_n 0, 1) := by decide +kernel
theorem dX3_init_53 : decode cX3_init_c 53 = .ok (.getfield 11, 3) := by decide +kernel
theorem dX3_init_56 : decode cX3_init_c 56 = .ok (.iload_n 1, 1) := by decide +kernel
theorem dX3_init_57 : decode cX3_init_c 57 = .ok (.new 9, 3) := by decide +kernel
theorem dX3_init_60 : decode cX3_init_c 60 = .ok (.dup, 1) := by decide +kernel
theorem dX3_init_61 : decode cX3_init_c 61 = .ok (.invokespecial 31, 3) := by decide +kernel
theorem dX3_init_64 : decode cX3_init_c 64 = .ok (.aastore, 1) := by decide +kernel
theorem dX3_init_65 : decode cX3_init_c 65 = .ok (.iinc 1 1, 3) := by decide +kernel
theorem dX3_init_68 : decode cX3_init_c 68 = .ok (.goto (-21), 3) := by decide +kernel
theorem dX3_init_71 : decode cX3_init_c 71 = .ok (.return_, 1) := by decide +kernel
theorem dX11_init_0 : decode cX11_init_c 0 = .ok (.aload_n 0, 1) := by decide +kernel
theorem dX11_init_1 : decode cX11_init_c 1 = .ok (.invokespecial 3, 3) := by decide +kernel
theorem dX11_init_4 : decode cX11_init_c 4 = .ok (.aload_n 0, 1) := by decide +kernel
theorem dX11_init_5 : decode cX11_init_c 5 = .ok (.new 9, 3) := by decide +kernel
theorem dX11_init_8 : decode cX11_init_c 8 = .ok (.dup, 1) := by decide +kernel
theorem dX11_init_9 : decode cX11_init_c 9 = .ok (.bipush 40, 2) := by decide +kernel
theorem dX11_init_11 : decode cX11_init_c 11 = .ok (.invokespecial 11, 3) := by decide +kernel
theorem dX11_init_14 : decode cX11_init_c 14 = .ok (.putfield 14, 3) := by decide +kernel
theorem dX11_init_17 : decode cX11_init_c 17 = .ok (.aload_n 0, 1) := by decide +kernel
theorem dX11_init_18 : decode cX11_init_c 18 = .ok (.new 9, 3) := by decide +kernel
theorem dX11_init_21 : decode cX11_init_c 21 = .ok (.dup, 1) := by decide +kernel
theorem dX11_init_22 : decode cX11_init_c 22 = .ok (.bipush 24, 2) := by decide +kernel
theorem dX11_init_24 : decode cX11_init_c 24 = .ok (.invokespecial 11, 3) := by decide +kernel
theorem dX11_init_27 : decode cX11_init_c 27 = .ok (.putfield 18, 3) := by decide +kernel
theorem dX11_init_30 : decode cX11_init_c 30 = .ok (.aload_n 0, 1) := by decide +kernel
theorem dX11_init_31 : decode cX11_init_c 31 = .ok (.new 21, 3) := by decide +kernel
theorem dX11_init_34 : decode cX11_init_c 34 = .ok (.dup, 1) := by decide +kernel
theorem dX11_init_35 : decode cX11_init_c 35 = .ok (.invokespecial 23, 3) := by decide +kernel
theorem dX11_init_38 : decode cX11_init_c 38 = .ok (.putfield 24, 3) := by decide +kernel
theorem dX11_init_41 : decode cX11_init_c 41 = .ok (.aload_n 0, 1) := by decide +kernel
theorem dX11_init_42 : decode cX11_init_c 42 = .ok (.new 28, 3) := by decide +kernel
theorem dX11_init_45 : decode cX11_init_c 45 = .ok (.dup, 1) := by decide +kernel
theorem dX11_init_46 : decode cX11_init_c 46 = .ok (.aload_n 0, 1) := by decide +kernel
theorem dX11_init_47 : decode cX11_init_c 47 = .ok (.getfield 14, 3) := by decide +kernel
theorem dX11_init_50 : decode cX11_init_c 50 = .ok (.aload_n 0, 1) := by decide +kernel
theorem dX11_init_51 : decode cX11_init_c 51 = .ok (.getfield 18, 3) := by decide +kernel
theorem dX11_init_54 : decode cX11_init_c 54 = .ok (.aload_n 0, 1) := by decide +kernel
theorem dX11_init_55 : decode cX11_init_c 55 = .ok (.getfield 24, 3) := by decide +kernel
theorem dX11_init_58 : decode cX11_init_c 58 = .ok (.invokespecial 30, 3) := by decide +kernel
theorem dX11_init_61 : decode cX11_init_c 61 = .ok (.putfield 33, 3) := by decide +kernel
theorem dX11_init_64 : decode cX11_init_c 64 = .ok (.aload_n 0, 1) := by decide +kernel
theorem dX11_init_65 : decode cX11_init_c 65 = .ok (.new 37, 3) := by decide +kernel
theorem dX11_init_68 : decode cX11_init_c 68 = .ok (.dup, 1) := by decide +kernel
theorem dX11_init_69 : decode cX11_init_c 69 = .ok (.aload_n 0, 1) := by decide +kernel
theorem dX11_init_70 : decode cX11_init_c 70 = .ok (.getfield 14, 3) := by decide +kernel
theorem dX11_init_73 : decode cX11_init_c 73 = .ok (.aload_n 0, 1) := by decide +kernel
theorem dX11_init_74 : decode cX11_init_c 74 = .ok (.getfield 24, 3) := by decide +kernel
theorem dX11_init_77 : decode cX11_init_c 77 = .ok (.invokespecial 39, 3) := by decide +kernel
theorem dX11_init_80 : decode cX11_init_c 80 = .ok (.putfield 42, 3) := by decide +kernel
theorem dX11_init_83 : decode cX11_init_c 83 = .ok (.aload_n 0, 1) := by decide +kernel
theorem dX11_init_84 : decode cX11_init_c 84 = .ok (.new 46, 3) := by decide +kernel
theorem dX11_init_87 : decode cX11_init_c 87 = .ok (.dup, 1) := by decide +kernel
theorem dX11_init_88 : decode cX11_init_c 88 = .ok (.invokespecial 48, 3) := by decide +kernel
theorem dX11_init_91 : decode cX11_init_c 91 = .ok (.putfield 49, 3) := by decide +kernel
theorem dX11_init_94 : decode cX11_init_c 94 = .ok (.aload_n 0, 1) := by decide +kernel
theorem dX11_init_95 : decode cX11_init_c 95 = .ok (.new 53, 3) := by decide +kernel
theorem dX11_init_98 : decode cX11_init_c 98 = .ok (.dup, 1) := by decide +kernel
theorem dX11_init_99 : decode cX11_init_c 99 = .ok (.invokespecial 55, 3) := by decide +kernel
theorem dX11_init_102 : decode cX11_init_c 102 = .ok (.putfield 56, 3) := by decide +kernel
theorem dX11_init_105 : decode cX11_init_c 105 = .ok (.aload_n 0, 1) := by decide +kernel
theorem dX11_init_106 : decode cX11_init_c 106 = .ok (.new 60, 3) := by decide +kernel
theorem dX11_init_109 : decode cX11_init_c 109 = .ok (.dup, 1) := by decide +kernel
theorem dX11_init_110 : decode cX11_init_c 110 = .ok (.invokespecial 62, 3) := by decide +kernel
theorem dX11_init_113 : decode cX11_init_c 113 = .ok (.putfield 63, 3) := by decide +kernel
theorem dX11_init_116 : decode cX11_init_c 116 = .ok (.aload_n 0, 1) := by decide +kernel
theorem dX11_init_117 : decode cX11_init_c 117 = .ok (.new 67, 3) := by decide +kernel
theorem dX11_init_120 : decode cX11_init_c 120 = .ok (.dup, 1) := by decide +kernel
theorem dX11_init_121 : decode cX11_init_c 121 = .ok (.invokespecial 69, 3) := by decide +kernel
theorem dX11_init_124 : decode cX11_init_c 124 = .ok (.putfield 70, 3) := by decide +kernel
theorem dX11_init_127 : decode cX11_init_c 127 = .ok (.aload_n 0, 1) := by decide +kernel
theorem dX11_init_128 : decode cX11_init_c 128 = .ok (.bipush 6, 2) := by decide +kernel
theorem dX11_init_130 : decode cX11_init_c 130 = .ok (.anewarray 74, 3) := by decide +kernel
theorem dX11_init_133 : decode cX11_init_c 133 = .ok (.putfield 76, 3) := by decide +kernel
theorem dX11_init_136 : decode cX11_init_c 136 = .ok (.aload_n 0, 1) := by decide +kernel
theorem dX11_init_137 : decode cX11_init_c 137 = .ok (.bipush 9, 2) := by decide +kernel
theorem dX11_init_139 : decode cX11_init_c 139 = .ok (.newarray .int, 2) := by decide +kernel
theorem dX11_init_141 : decode cX11_init_c 141 = .ok (.putfield 80, 3) := by decide +kernel
theorem dX11_init_144 : decode cX11_init_c 144 = .ok (.aload_n 0, 1) := by decide +kernel
theorem dX11_init_145 : decode cX11_init_c 145 = .ok (.iconst 3, 1) := by decide +kernel
theorem dX11_init_146 : decode cX11_init_c 146 = .ok (.newarray .int, 2) := by decide +kernel
theorem dX11_init_148 : decode cX11_init_c 148 = .ok (.putfield 84, 3) := by decide +kernel
theorem dX11_init_151 : decode cX11_init_c 151 = .ok (.iconst 0, 1) := by decide +kernel
theorem dX11_init_152 : decode cX11_init_c 152 = .ok (.istore_n 1, 1) := by decide +kernel
theorem dX11_init_153 : decode cX11_init_c 153 = .ok (.iload_n 1, 1) := by decide +kernel
theorem dX11_init_154 : decode cX11_init_c 154 = .ok (.bipush 6, 2) := by decide +kernel
theorem dX11_init_156 : decode cX11_init_c 156 = .ok (.if_icmp .ge 22, 3) := by decide +kernel
theorem dX11_init_159 : decode cX11_init_c 159 = .ok (.aload_n 0, 1) := by decide +kernel
theorem dX11_init_160 : decode cX11_init_c 160 = .ok (.getfield 76, 3) := by decide +kernel
theorem dX11_init_163 : decode cX11_init_c 163 = .ok (.iload_n 1, 1) := by decide +kernel
theorem dX11_init_164 : decode cX11_init_c 164 = .ok (.new 74, 3) := by decide +kernel
theorem dX11_init_167 : decode cX11_init_c 167 = .ok (.dup, 1) := by decide +kernel
theorem dX11_init_168 : decode cX11_init_c 168 = .ok (.invokespecial 87, 3) := by decide +kernel
theorem dX11_init_171 : decode cX11_init_c 171 = .ok (.aastore, 1) := by decide +kernel
theorem dX11_init_172 : decode cX11_init_c 172 = .ok (.iinc 1 1, 3) := by decide +kernel
theorem dX11_init_175 : decode cX11_init_c 175 = .ok (.goto (-22), 3) := by decide +kernel
theorem dX11_init_178 : decode cX11_init_c 178 = .ok (.aload_n 0, 1) := by decide +kernel
theorem dX11_init_179 : decode cX11_init_c 179 = .ok (.iconst 3, 1) := by decide +kernel
theorem dX11_init_180 : decode cX11_init_c 180 = .ok (.iconst 0, 1) := by decide +kernel
theorem dX11_init_181 : decode cX11_init_c 181 = .ok (.iconst 1, 1) := by decide +kernel
theorem dX11_init_182 : decode cX11_init_c 182 = .ok (.invokevirtual 88, 3) := by decide +kernel
theorem dX11_init_185 : decode cX11_init_c 185 = .ok (.return_, 1) := by decide +kernel
def wX8_init (w : Wd) (p : Nat) : Wd := (wref (wnew (wref (wnew (wref (wnew (wref (wnew w (2, 0, 48)) p 4 w.1) (2, 0, 144)) p 5 (w.1 + 1)) (2, 0, 6)) p 6 (w.1 + 2)) (2, 0, 48)) p 7 (w.1 + 3))
def hX8_init (w : Wd) (h : Hp) (p : Nat)  : Hp := (hz (hz (hz (hz h w.1) (wref (wnew w (2, 0, 48)) p 4 w.1).1) (wref (wnew (wref (wnew w (2, 0, 48)) p 4 w.1) (2, 0, 144)) p 5 (w.1 + 1)).1) (wref (wnew (wref (wnew (wref (wnew w (2, 0, 48)) p 4 w.1) (2, 0, 144)) p 5 (w.1 + 1)) (2, 0, 6)) p 6 (w.1 + 2)).1)
theorem aX8_init {w : Wd} {p a : Nat} {S : ShT} (h : At w a S) : At (wX8_init w p) a S := (At_ref (At_new (At_ref (At_new (At_ref (At_new (At_ref (At_new h))))))))
set_option maxRecDepth 100000 in
theorem cX8_init {G : GG} (w : Wd) (h : Hp) (p : Nat)  (hp : At w p (1, 7, 0)) (h16 : 16 ≤ w.1) : CtA G yX8_init (Cond.code yX8_init cX8_init_c 1 none) ({ frames := 1, cells := 4, slots := 246, locals := 100 } : Room) [vP p] w h (wX8_init w p) (hX8_init w h p ) := by
  have hp0 := at_ne0 hp
  refine CtA_of (own := "GatePatch$Plan") plain_Plan rfl rfl (Nat.le_of_ble_eq_true rfl) (fun Γ hG hmk hin g => ?_)
  subst hG
  show Core Γ w h 0 0 _ 0 [(0, vP p)] []
  refine Co_aload_n (kk := 0) g dX8_init_0 rfl rfl ?_
  refine Co_obj g dX8_init_1 ml_Plan_3 ob_im ob_cw (show p ≠ 0 by omega) ⟨by decide, by decide⟩ ?_
  refine Co_aload_n (kk := 0) g dX8_init_4 rfl rfl ?_
  refine Co_bipush g dX8_init_5 ⟨by decide, by decide⟩ rfl ?_
  refine Co_newi (n := 48) g hmk rfl dX8_init_7 ac_int (by decide) ⟨by decide, by decide⟩ ?_
  refine Co_putr (n := 0) g dX8_init_9 ff_Plan_9 (Or.inr ⟨_, rfl⟩) hin (At_new hp) rfl (show w.1 ≠ 0 by omega) ?_
  refine Co_aload_n (kk := 0) g dX8_init_12 rfl rfl ?_
  refine Co_sipush g dX8_init_13 ⟨by decide, by decide⟩ rfl ?_
  refine Co_newi (n := 144) g hmk rfl dX8_init_16 ac_int (by decide) ⟨by decide, by decide⟩ ?_
  refine Co_putr (n := 0) g dX8_init_18 ff_Plan_15 (Or.inr ⟨_, rfl⟩) hin (At_new (At_ref (At_new hp))) rfl (show (w.1 + 1) ≠ 0 by omega) ?_
  refine Co_aload_n (kk := 0) g dX8_init_21 rfl rfl ?_
  refine Co_bipush g dX8_init_22 ⟨by decide, by decide⟩ rfl ?_
  refine Co_newi (n := 6) g hmk rfl dX8_init_24 ac_int (by decide) ⟨by decide, by decide⟩ ?_
  refine Co_putr (n := 0) g dX8_init_26 ff_Plan_18 (Or.inr ⟨_, rfl⟩) hin (At_new (At_ref (At_new (At_ref (At_new hp))))) rfl (show (w.1 + 2) ≠ 0 by omega) ?_
  refine Co_aload_n (kk := 0) g dX8_init_29 rfl rfl ?_
  refine Co_bipush g dX8_init_30 ⟨by decide, by decide⟩ rfl ?_
  refine Co_newi (n := 48) g hmk rfl dX8_init_32 ac_int (by decide) ⟨by decide, by decide⟩ ?_
  refine Co_putr (n := 0) g dX8_init_34 ff_Plan_21 (Or.inr ⟨_, rfl⟩) hin (At_new (At_ref (At_new (At_ref (At_new (At_ref (At_new hp))))))) rfl (show (w.1 + 3) ≠ 0 by omega) ?_
  exact Co_returnA g hmk rfl dX8_init_37 rfl

def wX6_init (w : Wd) (p : Nat) : Wd := (wref (wnew (wref (wnew (wref (wnew (wref (wnew (wref (wX8_init (wnew w (1, 7, 0)) w.1) p 0 w.1) (2, 0, 40)) p 2 (w.1 + 5)) (2, 1, 48)) p 3 (w.1 + 6)) (2, 1, 192)) p 4 (w.1 + 7)) (2, 0, 48)) p 5 (w.1 + 8))
def hX6_init (w : Wd) (h : Hp) (p : Nat) (x0 : Int) : Hp := (wr (hz (hz (hz (hz (hX8_init (wnew w (1, 7, 0)) (hz h w.1) w.1 ) (wref (wX8_init (wnew w (1, 7, 0)) w.1) p 0 w.1).1) (wref (wnew (wref (wX8_init (wnew w (1, 7, 0)) w.1) p 0 w.1) (2, 0, 40)) p 2 (w.1 + 5)).1) (wref (wnew (wref (wnew (wref (wX8_init (wnew w (1, 7, 0)) w.1) p 0 w.1) (2, 0, 40)) p 2 (w.1 + 5)) (2, 1, 48)) p 3 (w.1 + 6)).1) (wref (wnew (wref (wnew (wref (wnew (wref (wX8_init (wnew w (1, 7, 0)) w.1) p 0 w.1) (2, 0, 40)) p 2 (w.1 + 5)) (2, 1, 48)) p 3 (w.1 + 6)) (2, 1, 192)) p 4 (w.1 + 7)).1) p 1 x0)
theorem aX6_init {w : Wd} {p a : Nat} {S : ShT} (h : At w a S) : At (wX6_init w p) a S := (At_ref (At_new (At_ref (At_new (At_ref (At_new (At_ref (At_new (At_ref (aX8_init (At_new h)))))))))))
set_option maxRecDepth 100000 in
theorem cX6_init {G : GG} (w : Wd) (h : Hp) (p : Nat) (x0 : Int) (hp : At w p (1, 5, 0)) (h16 : 16 ≤ w.1) : CtA G yX6_init (Cond.code yX6_init cX6_init_c 2 none) ({ frames := 2, cells := 9, slots := 582, locals := 200 } : Room) [vP p, vI x0] w h (wX6_init w p) (hX6_init w h p x0) := by
  have hp0 := at_ne0 hp
  refine CtA_of (own := "GatePatch$Net") plain_Net rfl rfl (Nat.le_of_ble_eq_true rfl) (fun Γ hG hmk hin g => ?_)
  subst hG
  show Core Γ w h 0 0 _ 0 [(0, vP p), (1, vI x0)] []
  refine Co_aload_n (kk := 0) g dX6_init_0 rfl rfl ?_
  refine Co_obj g dX6_init_1 ml_Net_3 ob_im ob_cw (show p ≠ 0 by omega) ⟨by decide, by decide⟩ ?_
  refine Co_aload_n (kk := 0) g dX6_init_4 rfl rfl ?_
  refine Co_new (C := "GatePatch$Plan") g hmk rfl dX6_init_5 ci_Plan df_Plan cl_Net_9 is_Plan ini_Plan ⟨by decide, by decide⟩ ?_
  refine Co_dup g dX6_init_8 rfl ?_
  refine Co_callIN (As := []) g hmk rfl dX6_init_9 (cX8_init (wnew w (1, 7, 0)) (hz h w.1) w.1  (At_self (show 16 ≤ w.1 by omega)) (show 16 ≤ w.1 + 1 by omega)) rfl rfl (show w.1 ≠ 0 by omega) im_X8_init cw_X8_init mn_Net_11 ini_Plan nd_X8_init ⟨by decide, by decide⟩ ⟨by decide, by decide⟩ (Nat.le_of_ble_eq_true rfl) ?_
  refine Co_putr (n := 0) g dX6_init_12 ff_Net_12 (Or.inl ⟨_, rfl⟩) hin (aX8_init (At_new hp)) rfl (show w.1 ≠ 0 by omega) ?_
  refine Co_aload_n (kk := 0) g dX6_init_15 rfl rfl ?_
  refine Co_bipush g dX6_init_16 ⟨by decide, by decide⟩ rfl ?_
  refine Co_newi (n := 40) g hmk rfl dX6_init_18 ac_int (by decide) ⟨by decide, by decide⟩ ?_
  refine Co_putr (n := 0) g dX6_init_20 ff_Net_18 (Or.inr ⟨_, rfl⟩) hin (At_new (At_ref (aX8_init (At_new hp)))) rfl (show (w.1 + 5) ≠ 0 by omega) ?_
  refine Co_aload_n (kk := 0) g dX6_init_23 rfl rfl ?_
  refine Co_bipush g dX6_init_24 ⟨by decide, by decide⟩ rfl ?_
  refine Co_newl (n := 48) g hmk rfl dX6_init_26 ac_long (by decide) ⟨by decide, by decide⟩ ?_
  refine Co_putr (n := 0) g dX6_init_28 ff_Net_22 (Or.inr ⟨_, rfl⟩) hin (At_new (At_ref (At_new (At_ref (aX8_init (At_new hp)))))) rfl (show (w.1 + 6) ≠ 0 by omega) ?_
  refine Co_aload_n (kk := 0) g dX6_init_31 rfl rfl ?_
  refine Co_sipush g dX6_init_32 ⟨by decide, by decide⟩ rfl ?_
  refine Co_newl (n := 192) g hmk rfl dX6_init_35 ac_long (by decide) ⟨by decide, by decide⟩ ?_
  refine Co_putr (n := 0) g dX6_init_37 ff_Net_26 (Or.inr ⟨_, rfl⟩) hin (At_new (At_ref (At_new (At_ref (At_new (At_ref (aX8_init (At_new hp)))))))) rfl (show (w.1 + 7) ≠ 0 by omega) ?_
  refine Co_aload_n (kk := 0) g dX6_init_40 rfl rfl ?_
  refine Co_bipush g dX6_init_41 ⟨by decide, by decide⟩ rfl ?_
  refine Co_newi (n := 48) g hmk rfl dX6_init_43 ac_int (by decide) ⟨by decide, by decide⟩ ?_
  refine Co_putr (n := 0) g dX6_init_45 ff_Net_29 (Or.inr ⟨_, rfl⟩) hin (At_new (At_ref (At_new (At_ref (At_new (At_ref (At_new (At_ref (aX8_init (At_new hp)))))))))) rfl (show (w.1 + 8) ≠ 0 by omega) ?_
  refine Co_aload_n (kk := 0) g dX6_init_48 rfl rfl ?_
  refine Co_iload_n (kk := 1) g dX6_init_49 rfl rfl ?_
  refine Co_putiF (n := 0) g dX6_init_50 ff_Net_32 hin (At_ref (At_new (At_ref (At_new (At_ref (At_new (At_ref (At_new (At_ref (aX8_init (At_new hp))))))))))) rfl ?_
  exact Co_returnA g hmk rfl dX6_init_53 rfl

def wX10_init (w : Wd) (p : Nat) : Wd := (wref (wX8_init (wnew (wref (wnew w (2, 1, 256)) p 2 w.1) (1, 7, 0)) (w.1 + 1)) p 3 (w.1 + 1))
def hX10_init (w : Wd) (h : Hp) (p : Nat)  : Hp := (hX8_init (wnew (wref (wnew w (2, 1, 256)) p 2 w.1) (1, 7, 0)) (hz (hz h w.1) (wref (wnew w (2, 1, 256)) p 2 w.1).1) (w.1 + 1) )
theorem aX10_init {w : Wd} {p a : Nat} {S : ShT} (h : At w a S) : At (wX10_init w p) a S := (At_ref (aX8_init (At_new (At_ref (At_new h)))))
set_option maxRecDepth 100000 in
theorem cX10_init {G : GG} (w : Wd) (h : Hp) (p : Nat)  (hp : At w p (1, 9, 0)) (h16 : 16 ≤ w.1) : CtA G yX10_init (Cond.code yX10_init cX10_init_c 1 none) ({ frames := 2, cells := 6, slots := 510, locals := 200 } : Room) [vP p] w h (wX10_init w p) (hX10_init w h p ) := by
  have hp0 := at_ne0 hp
  refine CtA_of (own := "GatePatch$Tape") plain_Tape rfl rfl (Nat.le_of_ble_eq_true rfl) (fun Γ hG hmk hin g => ?_)
  subst hG
  show Core Γ w h 0 0 _ 0 [(0, vP p)] []
  refine Co_aload_n (kk := 0) g dX10_init_0 rfl rfl ?_
  refine Co_obj g dX10_init_1 ml_Tape_3 ob_im ob_cw (show p ≠ 0 by omega) ⟨by decide, by decide⟩ ?_
  refine Co_aload_n (kk := 0) g dX10_init_4 rfl rfl ?_
  refine Co_sipush g dX10_init_5 ⟨by decide, by decide⟩ rfl ?_
  refine Co_newl (n := 256) g hmk rfl dX10_init_8 ac_long (by decide) ⟨by decide, by decide⟩ ?_
  refine Co_putr (n := 0) g dX10_init_10 ff_Tape_9 (Or.inr ⟨_, rfl⟩) hin (At_new hp) rfl (show w.1 ≠ 0 by omega) ?_
  refine Co_aload_n (kk := 0) g dX10_init_13 rfl rfl ?_
  refine Co_new (C := "GatePatch$Plan") g hmk rfl dX10_init_14 ci_Plan df_Plan cl_Tape_15 is_Plan ini_Plan ⟨by decide, by decide⟩ ?_
  refine Co_dup g dX10_init_17 rfl ?_
  refine Co_callIN (As := []) g hmk rfl dX10_init_18 (cX8_init (wnew (wref (wnew w (2, 1, 256)) p 2 w.1) (1, 7, 0)) (hz (hz h w.1) (wref (wnew w (2, 1, 256)) p 2 w.1).1) (w.1 + 1)  (At_self (show 16 ≤ (w.1 + 1) by omega)) (show 16 ≤ w.1 + 2 by omega)) rfl rfl (show (w.1 + 1) ≠ 0 by omega) im_X8_init cw_X8_init mn_Tape_17 ini_Plan nd_X8_init ⟨by decide, by decide⟩ ⟨by decide, by decide⟩ (Nat.le_of_ble_eq_true rfl) ?_
  refine Co_putr (n := 0) g dX10_init_21 ff_Tape_18 (Or.inl ⟨_, rfl⟩) hin (aX8_init (At_new (At_ref (At_new hp)))) rfl (show (w.1 + 1) ≠ 0 by omega) ?_
  exact Co_returnA g hmk rfl dX10_init_24 rfl

def W00 : Wd := (16, fun _ => (0, 0, 0), fun _ _ => 0)
def H00 : Hp := fun _ _ => 0
def WG0 : Wd := wnew W00 (1, 10, 0)
def HG0 : Hp := hz H00 16
def HX11_init_1 : Hp := hz HG0 WG0.1
def WX11_init_2 : Wd := wnew WG0 (1, 5, 0)
def HX11_init_3 : Hp := hX6_init WX11_init_2 HX11_init_1 17 40
def WX11_init_4 : Wd := wX6_init WX11_init_2 17
def WX11_init_5 : Wd := wref WX11_init_4 16 0 17
def HX11_init_6 : Hp := hz HX11_init_3 WX11_init_5.1
def WX11_init_7 : Wd := wnew WX11_init_5 (1, 5, 0)
def HX11_init_8 : Hp := hX6_init WX11_init_7 HX11_init_6 27 24
def WX11_init_9 : Wd := wX6_init WX11_init_7 27
def WX11_init_10 : Wd := wref WX11_init_9 16 1 27
def HX11_init_11 : Hp := hz HX11_init_8 WX11_init_10.1
def WX11_init_12 : Wd := wnew WX11_init_10 (1, 0, 0)
def HX0_init_1 : Hp := hz HX11_init_11 WX11_init_12.1
def WX0_init_2 : Wd := wnew WX11_init_12 (2, 1, 4)
def WX0_init_3 : Wd := wref WX0_init_2 37 2 38
def HX0_init_4 : Hp := hz HX0_init_1 WX0_init_3.1
def WX0_init_5 : Wd := wnew WX0_init_3 (2, 1, 4)
def WX0_init_6 : Wd := wref WX0_init_5 37 3 39
set_option maxRecDepth 100000 in
theorem cX0_init {G : GG} : CtA G yX0_init (Cond.code yX0_init cX0_init_c 1 none) ({ frames := 1, cells := 2, slots := 8, locals := 100 } : Room) [vP 37] WX11_init_12 HX11_init_11 WX0_init_6 HX0_init_4 := by
  refine CtA_of (own := "GatePatch$Cases") plain_Cases rfl rfl (Nat.le_of_ble_eq_true rfl) (fun Γ hG hmk hin g => ?_)
  subst hG
  show Core Γ WX11_init_12 HX11_init_11 0 0 _ 0 [(0, vP 37)] []
  refine Co_aload_n (kk := 0) g dX0_init_0 rfl rfl ?_
  refine Co_obj g dX0_init_1 ml_Cases_3 ob_im ob_cw (by decide) ⟨by decide, by decide⟩ ?_
  refine Co_aload_n (kk := 0) g dX0_init_4 rfl rfl ?_
  refine Co_iconst g dX0_init_5 ⟨by decide, by decide⟩ ?_
  refine Co_newl (n := 4) g hmk rfl dX0_init_6 ac_long (by decide) ⟨by decide, by decide⟩ ?_
  show Core Γ WX0_init_2 HX0_init_1 _ _ _ _ _ _
  refine Co_putr (n := 0) g dX0_init_8 ff_Cases_9 (Or.inr ⟨_, rfl⟩) hin ⟨by decide +kernel, by decide +kernel, by decide +kernel⟩ rfl (by decide) ?_
  show Core Γ WX0_init_3 HX0_init_1 _ _ _ _ _ _
  refine Co_aload_n (kk := 0) g dX0_init_11 rfl rfl ?_
  refine Co_iconst g dX0_init_12 ⟨by decide, by decide⟩ ?_
  refine Co_newl (n := 4) g hmk rfl dX0_init_13 ac_long (by decide) ⟨by decide, by decide⟩ ?_
  show Core Γ WX0_init_5 HX0_init_4 _ _ _ _ _ _
  refine Co_putr (n := 0) g dX0_init_15 ff_Cases_15 (Or.inr ⟨_, rfl⟩) hin ⟨by decide +kernel, by decide +kernel, by decide +kernel⟩ rfl (by decide) ?_
  show Core Γ WX0_init_6 HX0_init_4 _ _ _ _ _ _
  exact Co_returnA g hmk rfl dX0_init_18 rfl

def HX11_init_13 : Hp := HX0_init_4
def WX11_init_14 : Wd := WX0_init_6
def WX11_init_15 : Wd := wref WX11_init_14 16 2 37
def HX11_init_16 : Hp := hz HX11_init_13 WX11_init_15.1
def WX11_init_17 : Wd := wnew WX11_init_15 (1, 4, 0)
def HX5_init_1 : Hp := hz HX11_init_16 WX11_init_17.1
def WX5_init_2 : Wd := wnew WX11_init_17 (2, 0, 3)
def WX5_init_3 : Wd := wref WX5_init_2 40 3 41
def HX5_init_4 : Hp := hz HX5_init_1 WX5_init_3.1
def WX5_init_5 : Wd := wnew WX5_init_3 (2, 1, 48)
def WX5_init_6 : Wd := wref WX5_init_5 40 6 42
def HX5_init_7 : Hp := hz HX5_init_4 WX5_init_6.1
def WX5_init_8 : Wd := wnew WX5_init_6 (2, 1, 6)
def WX5_init_9 : Wd := wref WX5_init_8 40 9 43
def HX5_init_10 : Hp := hz HX5_init_7 WX5_init_9.1
def WX5_init_11 : Wd := wnew WX5_init_9 (2, 0, 40)
def WX5_init_12 : Wd := wref WX5_init_11 40 7 44
def HX5_init_13 : Hp := hz HX5_init_10 WX5_init_12.1
def WX5_init_14 : Wd := wnew WX5_init_12 (2, 1, 6)
def WX5_init_15 : Wd := wref WX5_init_14 40 10 45
def HX5_init_16 : Hp := hz HX5_init_13 WX5_init_15.1
def WX5_init_17 : Wd := wnew WX5_init_15 (2, 1, 48)
def WX5_init_18 : Wd := wref WX5_init_17 40 13 46
def HX5_init_19 : Hp := hz HX5_init_16 WX5_init_18.1
def WX5_init_20 : Wd := wnew WX5_init_18 (2, 1, 6)
def WX5_init_21 : Wd := wref WX5_init_20 40 14 47
def WX5_init_22 : Wd := wref WX5_init_21 40 0 17
def WX5_init_23 : Wd := wref WX5_init_22 40 1 27
def WX5_init_24 : Wd := wref WX5_init_23 40 2 37
set_option maxRecDepth 100000 in
theorem cX5_init {G : GG} : CtA G yX5_init (Cond.code yX5_init cX5_init_c 4 none) ({ frames := 1, cells := 7, slots := 157, locals := 100 } : Room) [vP 40, vP 17, vP 27, vP 37] WX11_init_17 HX11_init_16 WX5_init_24 HX5_init_19 := by
  refine CtA_of (own := "GatePatch$Mender") plain_Mender rfl rfl (Nat.le_of_ble_eq_true rfl) (fun Γ hG hmk hin g => ?_)
  subst hG
  show Core Γ WX11_init_17 HX11_init_16 0 0 _ 0 [(0, vP 40), (1, vP 17), (2, vP 27), (3, vP 37)] []
  refine Co_aload_n (kk := 0) g dX5_init_0 rfl rfl ?_
  refine Co_obj g dX5_init_1 ml_Mender_3 ob_im ob_cw (by decide) ⟨by decide, by decide⟩ ?_
  refine Co_aload_n (kk := 0) g dX5_init_4 rfl rfl ?_
  refine Co_iconst g dX5_init_5 ⟨by decide, by decide⟩ ?_
  refine Co_newi (n := 3) g hmk rfl dX5_init_6 ac_int (by decide) ⟨by decide, by decide⟩ ?_
  show Core Γ WX5_init_2 HX5_init_1 _ _ _ _ _ _
  refine Co_putr (n := 0) g dX5_init_8 ff_Mender_9 (Or.inr ⟨_, rfl⟩) hin ⟨by decide +kernel, by decide +kernel, by decide +kernel⟩ rfl (by decide) ?_
  show Core Γ WX5_init_3 HX5_init_1 _ _ _ _ _ _
  refine Co_aload_n (kk := 0) g dX5_init_11 rfl rfl ?_
  refine Co_bipush g dX5_init_12 ⟨by decide, by decide⟩ rfl ?_
  refine Co_newl (n := 48) g hmk rfl dX5_init_14 ac_long (by decide) ⟨by decide, by decide⟩ ?_
  show Core Γ WX5_init_5 HX5_init_4 _ _ _ _ _ _
  refine Co_putr (n := 0) g dX5_init_16 ff_Mender_15 (Or.inr ⟨_, rfl⟩) hin ⟨by decide +kernel, by decide +kernel, by decide +kernel⟩ rfl (by decide) ?_
  show Core Γ WX5_init_6 HX5_init_4 _ _ _ _ _ _
  refine Co_aload_n (kk := 0) g dX5_init_19 rfl rfl ?_
  refine Co_bipush g dX5_init_20 ⟨by decide, by decide⟩ rfl ?_
  refine Co_newl (n := 6) g hmk rfl dX5_init_22 ac_long (by decide) ⟨by decide, by decide⟩ ?_
  show Core Γ WX5_init_8 HX5_init_7 _ _ _ _ _ _
  refine Co_putr (n := 0) g dX5_init_24 ff_Mender_19 (Or.inr ⟨_, rfl⟩) hin ⟨by decide +kernel, by decide +kernel, by decide +kernel⟩ rfl (by decide) ?_
  show Core Γ WX5_init_9 HX5_init_7 _ _ _ _ _ _
  refine Co_aload_n (kk := 0) g dX5_init_27 rfl rfl ?_
  refine Co_bipush g dX5_init_28 ⟨by decide, by decide⟩ rfl ?_
  refine Co_newi (n := 40) g hmk rfl dX5_init_30 ac_int (by decide) ⟨by decide, by decide⟩ ?_
  show Core Γ WX5_init_11 HX5_init_10 _ _ _ _ _ _
  refine Co_putr (n := 0) g dX5_init_32 ff_Mender_22 (Or.inr ⟨_, rfl⟩) hin ⟨by decide +kernel, by decide +kernel, by decide +kernel⟩ rfl (by decide) ?_
  show Core Γ WX5_init_12 HX5_init_10 _ _ _ _ _ _
  refine Co_aload_n (kk := 0) g dX5_init_35 rfl rfl ?_
  refine Co_bipush g dX5_init_36 ⟨by decide, by decide⟩ rfl ?_
  refine Co_newl (n := 6) g hmk rfl dX5_init_38 ac_long (by decide) ⟨by decide, by decide⟩ ?_
  show Core Γ WX5_init_14 HX5_init_13 _ _ _ _ _ _
  refine Co_putr (n := 0) g dX5_init_40 ff_Mender_25 (Or.inr ⟨_, rfl⟩) hin ⟨by decide +kernel, by decide +kernel, by decide +kernel⟩ rfl (by decide) ?_
  show Core Γ WX5_init_15 HX5_init_13 _ _ _ _ _ _
  refine Co_aload_n (kk := 0) g dX5_init_43 rfl rfl ?_
  refine Co_bipush g dX5_init_44 ⟨by decide, by decide⟩ rfl ?_
  refine Co_newl (n := 48) g hmk rfl dX5_init_46 ac_long (by decide) ⟨by decide, by decide⟩ ?_
  show Core Γ WX5_init_17 HX5_init_16 _ _ _ _ _ _
  refine Co_putr (n := 0) g dX5_init_48 ff_Mender_28 (Or.inr ⟨_, rfl⟩) hin ⟨by decide +kernel, by decide +kernel, by decide +kernel⟩ rfl (by decide) ?_
  show Core Γ WX5_init_18 HX5_init_16 _ _ _ _ _ _
  refine Co_aload_n (kk := 0) g dX5_init_51 rfl rfl ?_
  refine Co_bipush g dX5_init_52 ⟨by decide, by decide⟩ rfl ?_
  refine Co_newl (n := 6) g hmk rfl dX5_init_54 ac_long (by decide) ⟨by decide, by decide⟩ ?_
  show Core Γ WX5_init_20 HX5_init_19 _ _ _ _ _ _
  refine Co_putr (n := 0) g dX5_init_56 ff_Mender_31 (Or.inr ⟨_, rfl⟩) hin ⟨by decide +kernel, by decide +kernel, by decide +kernel⟩ rfl (by decide) ?_
  show Core Γ WX5_init_21 HX5_init_19 _ _ _ _ _ _
  refine Co_aload_n (kk := 0) g dX5_init_59 rfl rfl ?_
  refine Co_aload_n (kk := 1) g dX5_init_60 rfl rfl ?_
  refine Co_putr (n := 0) g dX5_init_61 ff_Mender_34 (Or.inl ⟨_, rfl⟩) hin ⟨by decide +kernel, by decide +kernel, by decide +kernel⟩ rfl (by decide) ?_
  show Core Γ WX5_init_22 HX5_init_19 _ _ _ _ _ _
  refine Co_aload_n (kk := 0) g dX5_init_64 rfl rfl ?_
  refine Co_aload_n (kk := 2) g dX5_init_65 rfl rfl ?_
  refine Co_putr (n := 0) g dX5_init_66 ff_Mender_38 (Or.inl ⟨_, rfl⟩) hin ⟨by decide +kernel, by decide +kernel, by decide +kernel⟩ rfl (by decide) ?_
  show Core Γ WX5_init_23 HX5_init_19 _ _ _ _ _ _
  refine Co_aload_n (kk := 0) g dX5_init_69 rfl rfl ?_
  refine Co_aload_n (kk := 3) g dX5_init_70 rfl rfl ?_
  refine Co_putr (n := 0) g dX5_init_71 ff_Mender_41 (Or.inl ⟨_, rfl⟩) hin ⟨by decide +kernel, by decide +kernel, by decide +kernel⟩ rfl (by decide) ?_
  show Core Γ WX5_init_24 HX5_init_19 _ _ _ _ _ _
  exact Co_returnA g hmk rfl dX5_init_74 rfl

def HX11_init_18 : Hp := HX5_init_19
def WX11_init_19 : Wd := WX5_init_24
def WX11_init_20 : Wd := wref WX11_init_19 16 3 40
def HX11_init_21 : Hp := hz HX11_init_18 WX11_init_20.1
def WX11_init_22 : Wd := wnew WX11_init_20 (1, 1, 0)
def HX1_init_1 : Hp := hz HX11_init_21 WX11_init_22.1
def WX1_init_2 : Wd := wnew WX11_init_22 (2, 0, 2)
def WX1_init_3 : Wd := wref WX1_init_2 48 2 49
def HX1_init_4 : Hp := hz HX1_init_1 WX1_init_3.1
def WX1_init_5 : Wd := wnew WX1_init_3 (2, 0, 3)
def WX1_init_6 : Wd := wref WX1_init_5 48 4 50
def HX1_init_7 : Hp := hz HX1_init_4 WX1_init_6.1
def WX1_init_8 : Wd := wnew WX1_init_6 (2, 1, 16)
def WX1_init_9 : Wd := wref WX1_init_8 48 6 51
def HX1_init_10 : Hp := hz HX1_init_7 WX1_init_9.1
def WX1_init_11 : Wd := wnew WX1_init_9 (2, 0, 4)
def WX1_init_12 : Wd := wref WX1_init_11 48 7 52
def HX1_init_13 : Hp := hz HX1_init_10 WX1_init_12.1
def WX1_init_14 : Wd := wnew WX1_init_12 (2, 0, 8)
def WX1_init_15 : Wd := wref WX1_init_14 48 8 53
def HX1_init_16 : Hp := hz HX1_init_13 WX1_init_15.1
def WX1_init_17 : Wd := wnew WX1_init_15 (2, 0, 8)
def WX1_init_18 : Wd := wref WX1_init_17 48 9 54
def HX1_init_19 : Hp := hz HX1_init_16 WX1_init_18.1
def WX1_init_20 : Wd := wnew WX1_init_18 (2, 0, 2)
def WX1_init_21 : Wd := wref WX1_init_20 48 10 55
def WX1_init_22 : Wd := wref WX1_init_21 48 0 17
def WX1_init_23 : Wd := wref WX1_init_22 48 1 37
set_option maxRecDepth 100000 in
theorem cX1_init {G : GG} : CtA G yX1_init (Cond.code yX1_init cX1_init_c 3 none) ({ frames := 1, cells := 7, slots := 43, locals := 100 } : Room) [vP 48, vP 17, vP 37] WX11_init_22 HX11_init_21 WX1_init_23 HX1_init_19 := by
  refine CtA_of (own := "GatePatch$Finder") plain_Finder rfl rfl (Nat.le_of_ble_eq_true rfl) (fun Γ hG hmk hin g => ?_)
  subst hG
  show Core Γ WX11_init_22 HX11_init_21 0 0 _ 0 [(0, vP 48), (1, vP 17), (2, vP 37)] []
  refine Co_aload_n (kk := 0) g dX1_init_0 rfl rfl ?_
  refine Co_obj g dX1_init_1 ml_Finder_3 ob_im ob_cw (by decide) ⟨by decide, by decide⟩ ?_
  refine Co_aload_n (kk := 0) g dX1_init_4 rfl rfl ?_
  refine Co_iconst g dX1_init_5 ⟨by decide, by decide⟩ ?_
  refine Co_newi (n := 2) g hmk rfl dX1_init_6 ac_int (by decide) ⟨by decide, by decide⟩ ?_
  show Core Γ WX1_init_2 HX1_init_1 _ _ _ _ _ _
  refine Co_putr (n := 0) g dX1_init_8 ff_Finder_9 (Or.inr ⟨_, rfl⟩) hin ⟨by decide +kernel, by decide +kernel, by decide +kernel⟩ rfl (by decide) ?_
  show Core Γ WX1_init_3 HX1_init_1 _ _ _ _ _ _
  refine Co_aload_n (kk := 0) g dX1_init_11 rfl rfl ?_
  refine Co_iconst g dX1_init_12 ⟨by decide, by decide⟩ ?_
  refine Co_newi (n := 3) g hmk rfl dX1_init_13 ac_int (by decide) ⟨by decide, by decide⟩ ?_
  show Core Γ WX1_init_5 HX1_init_4 _ _ _ _ _ _
  refine Co_putr (n := 0) g dX1_init_15 ff_Finder_15 (Or.inr ⟨_, rfl⟩) hin ⟨by decide +kernel, by decide +kernel, by decide +kernel⟩ rfl (by decide) ?_
  show Core Γ WX1_init_6 HX1_init_4 _ _ _ _ _ _
  refine Co_aload_n (kk := 0) g dX1_init_18 rfl rfl ?_
  refine Co_bipush g dX1_init_19 ⟨by decide, by decide⟩ rfl ?_
  refine Co_newl (n := 16) g hmk rfl dX1_init_21 ac_long (by decide) ⟨by decide, by decide⟩ ?_
  show Core Γ WX1_init_8 HX1_init_7 _ _ _ _ _ _
  refine Co_putr (n := 0) g dX1_init_23 ff_Finder_18 (Or.inr ⟨_, rfl⟩) hin ⟨by decide +kernel, by decide +kernel, by decide +kernel⟩ rfl (by decide) ?_
  show Core Γ WX1_init_9 HX1_init_7 _ _ _ _ _ _
  refine Co_aload_n (kk := 0) g dX1_init_26 rfl rfl ?_
  refine Co_iconst g dX1_init_27 ⟨by decide, by decide⟩ ?_
  refine Co_newi (n := 4) g hmk rfl dX1_init_28 ac_int (by decide) ⟨by decide, by decide⟩ ?_
  show Core Γ WX1_init_11 HX1_init_10 _ _ _ _ _ _
  refine Co_putr (n := 0) g dX1_init_30 ff_Finder_22 (Or.inr ⟨_, rfl⟩) hin ⟨by decide +kernel, by decide +kernel, by decide +kernel⟩ rfl (by decide) ?_
  show Core Γ WX1_init_12 HX1_init_10 _ _ _ _ _ _
  refine Co_aload_n (kk := 0) g dX1_init_33 rfl rfl ?_
  refine Co_bipush g dX1_init_34 ⟨by decide, by decide⟩ rfl ?_
  refine Co_newi (n := 8) g hmk rfl dX1_init_36 ac_int (by decide) ⟨by decide, by decide⟩ ?_
  show Core Γ WX1_init_14 HX1_init_13 _ _ _ _ _ _
  refine Co_putr (n := 0) g dX1_init_38 ff_Finder_25 (Or.inr ⟨_, rfl⟩) hin ⟨by decide +kernel, by decide +kernel, by decide +kernel⟩ rfl (by decide) ?_
  show Core Γ WX1_init_15 HX1_init_13 _ _ _ _ _ _
  refine Co_aload_n (kk := 0) g dX1_init_41 rfl rfl ?_
  refine Co_bipush g dX1_init_42 ⟨by decide, by decide⟩ rfl ?_
  refine Co_newi (n := 8) g hmk rfl dX1_init_44 ac_int (by decide) ⟨by decide, by decide⟩ ?_
  show Core Γ WX1_init_17 HX1_init_16 _ _ _ _ _ _
  refine Co_putr (n := 0) g dX1_init_46 ff_Finder_28 (Or.inr ⟨_, rfl⟩) hin ⟨by decide +kernel, by decide +kernel, by decide +kernel⟩ rfl (by decide) ?_
  show Core Γ WX1_init_18 HX1_init_16 _ _ _ _ _ _
  refine Co_aload_n (kk := 0) g dX1_init_49 rfl rfl ?_
  refine Co_iconst g dX1_init_50 ⟨by decide, by decide⟩ ?_
  refine Co_newi (n := 2) g hmk rfl dX1_init_51 ac_int (by decide) ⟨by decide, by decide⟩ ?_
  show Core Γ WX1_init_20 HX1_init_19 _ _ _ _ _ _
  refine Co_putr (n := 0) g dX1_init_53 ff_Finder_31 (Or.inr ⟨_, rfl⟩) hin ⟨by decide +kernel, by decide +kernel, by decide +kernel⟩ rfl (by decide) ?_
  show Core Γ WX1_init_21 HX1_init_19 _ _ _ _ _ _
  refine Co_aload_n (kk := 0) g dX1_init_56 rfl rfl ?_
  refine Co_aload_n (kk := 1) g dX1_init_57 rfl rfl ?_
  refine Co_putr (n := 0) g dX1_init_58 ff_Finder_34 (Or.inl ⟨_, rfl⟩) hin ⟨by decide +kernel, by decide +kernel, by decide +kernel⟩ rfl (by decide) ?_
  show Core Γ WX1_init_22 HX1_init_19 _ _ _ _ _ _
  refine Co_aload_n (kk := 0) g dX1_init_61 rfl rfl ?_
  refine Co_aload_n (kk := 2) g dX1_init_62 rfl rfl ?_
  refine Co_putr (n := 0) g dX1_init_63 ff_Finder_38 (Or.inl ⟨_, rfl⟩) hin ⟨by decide +kernel, by decide +kernel, by decide +kernel⟩ rfl (by decide) ?_
  show Core Γ WX1_init_23 HX1_init_19 _ _ _ _ _ _
  exact Co_returnA g hmk rfl dX1_init_66 rfl

def HX11_init_23 : Hp := HX1_init_19
def WX11_init_24 : Wd := WX1_init_23
def WX11_init_25 : Wd := wref WX11_init_24 16 4 48
def HX11_init_26 : Hp := hz HX11_init_23 WX11_init_25.1
def WX11_init_27 : Wd := wnew WX11_init_25 (1, 3, 0)
def HX4_init_1 : Hp := hz HX11_init_26 WX11_init_27.1
def WX4_init_2 : Wd := wnew WX11_init_27 (2, 0, 48)
def WX4_init_3 : Wd := wref WX4_init_2 56 0 57
def HX4_init_4 : Hp := hz HX4_init_1 WX4_init_3.1
def WX4_init_5 : Wd := wnew WX4_init_3 (2, 0, 10)
def WX4_init_6 : Wd := wref WX4_init_5 56 2 58
set_option maxRecDepth 100000 in
theorem cX4_init {G : GG} : CtA G yX4_init (Cond.code yX4_init cX4_init_c 1 none) ({ frames := 1, cells := 2, slots := 58, locals := 100 } : Room) [vP 56] WX11_init_27 HX11_init_26 WX4_init_6 HX4_init_4 := by
  refine CtA_of (own := "GatePatch$Marks") plain_Marks rfl rfl (Nat.le_of_ble_eq_true rfl) (fun Γ hG hmk hin g => ?_)
  subst hG
  show Core Γ WX11_init_27 HX11_init_26 0 0 _ 0 [(0, vP 56)] []
  refine Co_aload_n (kk := 0) g dX4_init_0 rfl rfl ?_
  refine Co_obj g dX4_init_1 ml_Marks_3 ob_im ob_cw (by decide) ⟨by decide, by decide⟩ ?_
  refine Co_aload_n (kk := 0) g dX4_init_4 rfl rfl ?_
  refine Co_bipush g dX4_init_5 ⟨by decide, by decide⟩ rfl ?_
  refine Co_newi (n := 48) g hmk rfl dX4_init_7 ac_int (by decide) ⟨by decide, by decide⟩ ?_
  show Core Γ WX4_init_2 HX4_init_1 _ _ _ _ _ _
  refine Co_putr (n := 0) g dX4_init_9 ff_Marks_9 (Or.inr ⟨_, rfl⟩) hin ⟨by decide +kernel, by decide +kernel, by decide +kernel⟩ rfl (by decide) ?_
  show Core Γ WX4_init_3 HX4_init_1 _ _ _ _ _ _
  refine Co_aload_n (kk := 0) g dX4_init_12 rfl rfl ?_
  refine Co_bipush g dX4_init_13 ⟨by decide, by decide⟩ rfl ?_
  refine Co_newi (n := 10) g hmk rfl dX4_init_15 ac_int (by decide) ⟨by decide, by decide⟩ ?_
  show Core Γ WX4_init_5 HX4_init_4 _ _ _ _ _ _
  refine Co_putr (n := 0) g dX4_init_17 ff_Marks_15 (Or.inr ⟨_, rfl⟩) hin ⟨by decide +kernel, by decide +kernel, by decide +kernel⟩ rfl (by decide) ?_
  show Core Γ WX4_init_6 HX4_init_4 _ _ _ _ _ _
  exact Co_returnA g hmk rfl dX4_init_20 rfl

def HX11_init_28 : Hp := HX4_init_4
def WX11_init_29 : Wd := WX4_init_6
def WX11_init_30 : Wd := wref WX11_init_29 16 5 56
def HX11_init_31 : Hp := hz HX11_init_28 WX11_init_30.1
def WX11_init_32 : Wd := wnew WX11_init_30 (1, 6, 0)
def HX7_init_1 : Hp := hz HX11_init_31 WX11_init_32.1
def WX7_init_2 : Wd := wnew WX11_init_32 (2, 0, 2)
def WX7_init_3 : Wd := wref WX7_init_2 59 2 60
def HX7_init_4 : Hp := hz HX7_init_1 WX7_init_3.1
def WX7_init_5 : Wd := wnew WX7_init_3 (2, 0, 3)
def WX7_init_6 : Wd := wref WX7_init_5 59 4 61
def HX7_init_7 : Hp := hz HX7_init_4 WX7_init_6.1
def WX7_init_8 : Wd := wnew WX7_init_6 (2, 0, 2)
def WX7_init_9 : Wd := wref WX7_init_8 59 6 62
def HX7_init_10 : Hp := hz HX7_init_7 WX7_init_9.1
def WX7_init_11 : Wd := wnew WX7_init_9 (2, 0, 2)
def WX7_init_12 : Wd := wref WX7_init_11 59 7 63
def HX7_init_13 : Hp := hz HX7_init_10 WX7_init_12.1
def WX7_init_14 : Wd := wnew WX7_init_12 (2, 0, 8)
def WX7_init_15 : Wd := wref WX7_init_14 59 9 64
def HX7_init_16 : Hp := hz HX7_init_13 WX7_init_15.1
def WX7_init_17 : Wd := wnew WX7_init_15 (2, 0, 8)
def WX7_init_18 : Wd := wref WX7_init_17 59 10 65
def HX7_init_19 : Hp := hz HX7_init_16 WX7_init_18.1
def WX7_init_20 : Wd := wnew WX7_init_18 (2, 0, 8)
def WX7_init_21 : Wd := wref WX7_init_20 59 11 66
def HX7_init_22 : Hp := hz HX7_init_19 WX7_init_21.1
def WX7_init_23 : Wd := wnew WX7_init_21 (2, 0, 8)
def WX7_init_24 : Wd := wref WX7_init_23 59 12 67
def HX7_init_25 : Hp := hz HX7_init_22 WX7_init_24.1
def WX7_init_26 : Wd := wnew WX7_init_24 (2, 0, 8)
def WX7_init_27 : Wd := wref WX7_init_26 59 13 68
def HX7_init_28 : Hp := hz HX7_init_25 WX7_init_27.1
def WX7_init_29 : Wd := wnew WX7_init_27 (2, 0, 8)
def WX7_init_30 : Wd := wref WX7_init_29 59 14 69
set_option maxRecDepth 100000 in
theorem cX7_init {G : GG} : CtA G yX7_init (Cond.code yX7_init cX7_init_c 1 none) ({ frames := 1, cells := 10, slots := 57, locals := 100 } : Room) [vP 59] WX11_init_32 HX11_init_31 WX7_init_30 HX7_init_28 := by
  refine CtA_of (own := "GatePatch$Patch") plain_Patch rfl rfl (Nat.le_of_ble_eq_true rfl) (fun Γ hG hmk hin g => ?_)
  subst hG
  show Core Γ WX11_init_32 HX11_init_31 0 0 _ 0 [(0, vP 59)] []
  refine Co_aload_n (kk := 0) g dX7_init_0 rfl rfl ?_
  refine Co_obj g dX7_init_1 ml_Patch_3 ob_im ob_cw (by decide) ⟨by decide, by decide⟩ ?_
  refine Co_aload_n (kk := 0) g dX7_init_4 rfl rfl ?_
  refine Co_iconst g dX7_init_5 ⟨by decide, by decide⟩ ?_
  refine Co_newi (n := 2) g hmk rfl dX7_init_6 ac_int (by decide) ⟨by decide, by decide⟩ ?_
  show Core Γ WX7_init_2 HX7_init_1 _ _ _ _ _ _
  refine Co_putr (n := 0) g dX7_init_8 ff_Patch_9 (Or.inr ⟨_, rfl⟩) hin ⟨by decide +kernel, by decide +kernel, by decide +kernel⟩ rfl (by decide) ?_
  show Core Γ WX7_init_3 HX7_init_1 _ _ _ _ _ _
  refine Co_aload_n (kk := 0) g dX7_init_11 rfl rfl ?_
  refine Co_iconst g dX7_init_12 ⟨by decide, by decide⟩ ?_
  refine Co_newi (n := 3) g hmk rfl dX7_init_13 ac_int (by decide) ⟨by decide, by decide⟩ ?_
  show Core Γ WX7_init_5 HX7_init_4 _ _ _ _ _ _
  refine Co_putr (n := 0) g dX7_init_15 ff_Patch_15 (Or.inr ⟨_, rfl⟩) hin ⟨by decide +kernel, by decide +kernel, by decide +kernel⟩ rfl (by decide) ?_
  show Core Γ WX7_init_6 HX7_init_4 _ _ _ _ _ _
  refine Co_aload_n (kk := 0) g dX7_init_18 rfl rfl ?_
  refine Co_iconst g dX7_init_19 ⟨by decide, by decide⟩ ?_
  refine Co_newi (n := 2) g hmk rfl dX7_init_20 ac_int (by decide) ⟨by decide, by decide⟩ ?_
  show Core Γ WX7_init_8 HX7_init_7 _ _ _ _ _ _
  refine Co_putr (n := 0) g dX7_init_22 ff_Patch_18 (Or.inr ⟨_, rfl⟩) hin ⟨by decide +kernel, by decide +kernel, by decide +kernel⟩ rfl (by decide) ?_
  show Core Γ WX7_init_9 HX7_init_7 _ _ _ _ _ _
  refine Co_aload_n (kk := 0) g dX7_init_25 rfl rfl ?_
  refine Co_iconst g dX7_init_26 ⟨by decide, by decide⟩ ?_
  refine Co_newi (n := 2) g hmk rfl dX7_init_27 ac_int (by decide) ⟨by decide, by decide⟩ ?_
  show Core Γ WX7_init_11 HX7_init_10 _ _ _ _ _ _
  refine Co_putr (n := 0) g dX7_init_29 ff_Patch_21 (Or.inr ⟨_, rfl⟩) hin ⟨by decide +kernel, by decide +kernel, by decide +kernel⟩ rfl (by decide) ?_
  show Core Γ WX7_init_12 HX7_init_10 _ _ _ _ _ _
  refine Co_aload_n (kk := 0) g dX7_init_32 rfl rfl ?_
  refine Co_bipush g dX7_init_33 ⟨by decide, by decide⟩ rfl ?_
  refine Co_newi (n := 8) g hmk rfl dX7_init_35 ac_int (by decide) ⟨by decide, by decide⟩ ?_
  show Core Γ WX7_init_14 HX7_init_13 _ _ _ _ _ _
  refine Co_putr (n := 0) g dX7_init_37 ff_Patch_24 (Or.inr ⟨_, rfl⟩) hin ⟨by decide +kernel, by decide +kernel, by decide +kernel⟩ rfl (by decide) ?_
  show Core Γ WX7_init_15 HX7_init_13 _ _ _ _ _ _
  refine Co_aload_n (kk := 0) g dX7_init_40 rfl rfl ?_
  refine Co_bipush g dX7_init_41 ⟨by decide, by decide⟩ rfl ?_
  refine Co_newi (n := 8) g hmk rfl dX7_init_43 ac_int (by decide) ⟨by decide, by decide⟩ ?_
  show Core Γ WX7_init_17 HX7_init_16 _ _ _ _ _ _
  refine Co_putr (n := 0) g dX7_init_45 ff_Patch_27 (Or.inr ⟨_, rfl⟩) hin ⟨by decide +kernel, by decide +kernel, by decide +kernel⟩ rfl (by decide) ?_
  show Core Γ WX7_init_18 HX7_init_16 _ _ _ _ _ _
  refine Co_aload_n (kk := 0) g dX7_init_48 rfl rfl ?_
  refine Co_bipush g dX7_init_49 ⟨by decide, by decide⟩ rfl ?_
  refine Co_newi (n := 8) g hmk rfl dX7_init_51 ac_int (by decide) ⟨by decide, by decide⟩ ?_
  show Core Γ WX7_init_20 HX7_init_19 _ _ _ _ _ _
  refine Co_putr (n := 0) g dX7_init_53 ff_Patch_30 (Or.inr ⟨_, rfl⟩) hin ⟨by decide +kernel, by decide +kernel, by decide +kernel⟩ rfl (by decide) ?_
  show Core Γ WX7_init_21 HX7_init_19 _ _ _ _ _ _
  refine Co_aload_n (kk := 0) g dX7_init_56 rfl rfl ?_
  refine Co_bipush g dX7_init_57 ⟨by decide, by decide⟩ rfl ?_
  refine Co_newi (n := 8) g hmk rfl dX7_init_59 ac_int (by decide) ⟨by decide, by decide⟩ ?_
  show Core Γ WX7_init_23 HX7_init_22 _ _ _ _ _ _
  refine Co_putr (n := 0) g dX7_init_61 ff_Patch_33 (Or.inr ⟨_, rfl⟩) hin ⟨by decide +kernel, by decide +kernel, by decide +kernel⟩ rfl (by decide) ?_
  show Core Γ WX7_init_24 HX7_init_22 _ _ _ _ _ _
  refine Co_aload_n (kk := 0) g dX7_init_64 rfl rfl ?_
  refine Co_bipush g dX7_init_65 ⟨by decide, by decide⟩ rfl ?_
  refine Co_newi (n := 8) g hmk rfl dX7_init_67 ac_int (by decide) ⟨by decide, by decide⟩ ?_
  show Core Γ WX7_init_26 HX7_init_25 _ _ _ _ _ _
  refine Co_putr (n := 0) g dX7_init_69 ff_Patch_36 (Or.inr ⟨_, rfl⟩) hin ⟨by decide +kernel, by decide +kernel, by decide +kernel⟩ rfl (by decide) ?_
  show Core Γ WX7_init_27 HX7_init_25 _ _ _ _ _ _
  refine Co_aload_n (kk := 0) g dX7_init_72 rfl rfl ?_
  refine Co_bipush g dX7_init_73 ⟨by decide, by decide⟩ rfl ?_
  refine Co_newi (n := 8) g hmk rfl dX7_init_75 ac_int (by decide) ⟨by decide, by decide⟩ ?_
  show Core Γ WX7_init_29 HX7_init_28 _ _ _ _ _ _
  refine Co_putr (n := 0) g dX7_init_77 ff_Patch_39 (Or.inr ⟨_, rfl⟩) hin ⟨by decide +kernel, by decide +kernel, by decide +kernel⟩ rfl (by decide) ?_
  show Core Γ WX7_init_30 HX7_init_28 _ _ _ _ _ _
  exact Co_returnA g hmk rfl dX7_init_80 rfl

def HX11_init_33 : Hp := HX7_init_28
def WX11_init_34 : Wd := WX7_init_30
def WX11_init_35 : Wd := wref WX11_init_34 16 6 59
def HX11_init_36 : Hp := hz HX11_init_33 WX11_init_35.1
def WX11_init_37 : Wd := wnew WX11_init_35 (1, 8, 0)
def HX9_init_1 : Hp := hz HX11_init_36 WX11_init_37.1
def WX9_init_2 : Wd := wnew WX11_init_37 (2, 0, 12)
def WX9_init_3 : Wd := wref WX9_init_2 70 2 71
def HX9_init_4 : Hp := hz HX9_init_1 WX9_init_3.1
def WX9_init_5 : Wd := wnew WX9_init_3 (2, 0, 12)
def WX9_init_6 : Wd := wref WX9_init_5 70 3 72
def HX9_init_7 : Hp := hz HX9_init_4 WX9_init_6.1
def WX9_init_8 : Wd := wnew WX9_init_6 (2, 0, 96)
def WX9_init_9 : Wd := wref WX9_init_8 70 4 73
def HX9_init_10 : Hp := hz HX9_init_7 WX9_init_9.1
def WX9_init_11 : Wd := wnew WX9_init_9 (2, 0, 4096)
def WX9_init_12 : Wd := wref WX9_init_11 70 5 74
set_option maxRecDepth 100000 in
theorem cX9_init {G : GG} : CtA G yX9_init (Cond.code yX9_init cX9_init_c 1 none) ({ frames := 1, cells := 4, slots := 4216, locals := 100 } : Room) [vP 70] WX11_init_37 HX11_init_36 WX9_init_12 HX9_init_10 := by
  refine CtA_of (own := "GatePatch$Spares") plain_Spares rfl rfl (Nat.le_of_ble_eq_true rfl) (fun Γ hG hmk hin g => ?_)
  subst hG
  show Core Γ WX11_init_37 HX11_init_36 0 0 _ 0 [(0, vP 70)] []
  refine Co_aload_n (kk := 0) g dX9_init_0 rfl rfl ?_
  refine Co_obj g dX9_init_1 ml_Spares_3 ob_im ob_cw (by decide) ⟨by decide, by decide⟩ ?_
  refine Co_aload_n (kk := 0) g dX9_init_4 rfl rfl ?_
  refine Co_bipush g dX9_init_5 ⟨by decide, by decide⟩ rfl ?_
  refine Co_newi (n := 12) g hmk rfl dX9_init_7 ac_int (by decide) ⟨by decide, by decide⟩ ?_
  show Core Γ WX9_init_2 HX9_init_1 _ _ _ _ _ _
  refine Co_putr (n := 0) g dX9_init_9 ff_Spares_9 (Or.inr ⟨_, rfl⟩) hin ⟨by decide +kernel, by decide +kernel, by decide +kernel⟩ rfl (by decide) ?_
  show Core Γ WX9_init_3 HX9_init_1 _ _ _ _ _ _
  refine Co_aload_n (kk := 0) g dX9_init_12 rfl rfl ?_
  refine Co_bipush g dX9_init_13 ⟨by decide, by decide⟩ rfl ?_
  refine Co_newi (n := 12) g hmk rfl dX9_init_15 ac_int (by decide) ⟨by decide, by decide⟩ ?_
  show Core Γ WX9_init_5 HX9_init_4 _ _ _ _ _ _
  refine Co_putr (n := 0) g dX9_init_17 ff_Spares_15 (Or.inr ⟨_, rfl⟩) hin ⟨by decide +kernel, by decide +kernel, by decide +kernel⟩ rfl (by decide) ?_
  show Core Γ WX9_init_6 HX9_init_4 _ _ _ _ _ _
  refine Co_aload_n (kk := 0) g dX9_init_20 rfl rfl ?_
  refine Co_bipush g dX9_init_21 ⟨by decide, by decide⟩ rfl ?_
  refine Co_newi (n := 96) g hmk rfl dX9_init_23 ac_int (by decide) ⟨by decide, by decide⟩ ?_
  show Core Γ WX9_init_8 HX9_init_7 _ _ _ _ _ _
  refine Co_putr (n := 0) g dX9_init_25 ff_Spares_18 (Or.inr ⟨_, rfl⟩) hin ⟨by decide +kernel, by decide +kernel, by decide +kernel⟩ rfl (by decide) ?_
  show Core Γ WX9_init_9 HX9_init_7 _ _ _ _ _ _
  refine Co_aload_n (kk := 0) g dX9_init_28 rfl rfl ?_
  refine Co_sipush g dX9_init_29 ⟨by decide, by decide⟩ rfl ?_
  refine Co_newi (n := 4096) g hmk rfl dX9_init_32 ac_int (by decide) ⟨by decide, by decide⟩ ?_
  show Core Γ WX9_init_11 HX9_init_10 _ _ _ _ _ _
  refine Co_putr (n := 0) g dX9_init_34 ff_Spares_21 (Or.inr ⟨_, rfl⟩) hin ⟨by decide +kernel, by decide +kernel, by decide +kernel⟩ rfl (by decide) ?_
  show Core Γ WX9_init_12 HX9_init_10 _ _ _ _ _ _
  exact Co_returnA g hmk rfl dX9_init_37 rfl

def HX11_init_38 : Hp := HX9_init_10
def WX11_init_39 : Wd := WX9_init_12
def WX11_init_40 : Wd := wref WX11_init_39 16 7 70
def HX11_init_41 : Hp := hz HX11_init_38 WX11_init_40.1
def WX11_init_42 : Wd := wnew WX11_init_40 (1, 2, 0)
def HX3_init_1 : Hp := hz HX11_init_41 WX11_init_42.1
def WX3_init_2 : Wd := wnew WX11_init_42 (2, 4, 4)
def WX3_init_3 : Wd := wref WX3_init_2 75 0 76
def HX3_init_4 : Hp := hz HX3_init_1 WX3_init_3.1
def WX3_init_5 : Wd := wnew WX3_init_3 (2, 0, 4)
def WX3_init_6 : Wd := wref WX3_init_5 75 1 77
def HX3_init_7 : Hp := hz HX3_init_4 WX3_init_6.1
def WX3_init_8 : Wd := wnew WX3_init_6 (2, 0, 378)
def WX3_init_9 : Wd := wref WX3_init_8 75 3 78
def HX3_init_10 : Hp := hz HX3_init_7 WX3_init_9.1
def WX3_init_11 : Wd := wnew WX3_init_9 (2, 0, 256)
def WX3_init_12 : Wd := wref WX3_init_11 75 5 79
def HX3_init_13 : Hp := hz HX3_init_10 WX3_init_12.1
def WX3_init_14 : Wd := wnew WX3_init_12 (2, 1, 24)
def WX3_init_15 : Wd := wref WX3_init_14 75 7 80
def HX3_init_16 : Hp := hz HX3_init_13 WX3_init_15.1
def WX3_init_17 : Wd := wnew WX3_init_15 (1, 7, 0)
def HX3_init_18 : Hp := hX8_init WX3_init_17 HX3_init_16 81 
def WX3_init_19 : Wd := wX8_init WX3_init_17 81
def HX3_init_20 : Hp := wr HX3_init_18 76 (0 : Int).toNat ((81 : Nat) : Int)
def HX3_init_21 : Hp := hz HX3_init_20 WX3_init_19.1
def WX3_init_22 : Wd := wnew WX3_init_19 (1, 7, 0)
def HX3_init_23 : Hp := hX8_init WX3_init_22 HX3_init_21 86 
def WX3_init_24 : Wd := wX8_init WX3_init_22 86
def HX3_init_25 : Hp := wr HX3_init_23 76 ((0 + 1) : Int).toNat ((86 : Nat) : Int)
def HX3_init_26 : Hp := hz HX3_init_25 WX3_init_24.1
def WX3_init_27 : Wd := wnew WX3_init_24 (1, 7, 0)
def HX3_init_28 : Hp := hX8_init WX3_init_27 HX3_init_26 91 
def WX3_init_29 : Wd := wX8_init WX3_init_27 91
def HX3_init_30 : Hp := wr HX3_init_28 76 (((0 + 1) + 1) : Int).toNat ((91 : Nat) : Int)
def HX3_init_31 : Hp := hz HX3_init_30 WX3_init_29.1
def WX3_init_32 : Wd := wnew WX3_init_29 (1, 7, 0)
def HX3_init_33 : Hp := hX8_init WX3_init_32 HX3_init_31 96 
def WX3_init_34 : Wd := wX8_init WX3_init_32 96
def HX3_init_35 : Hp := wr HX3_init_33 76 ((((0 + 1) + 1) + 1) : Int).toNat ((96 : Nat) : Int)
set_option maxRecDepth 100000 in
theorem cX3_init {G : GG} : CtA G yX3_init (Cond.code yX3_init cX3_init_c 2 none) ({ frames := 2, cells := 25, slots := 1682, locals := 200 } : Room) [vP 75] WX11_init_42 HX11_init_41 WX3_init_34 HX3_init_35 := by
  refine CtA_of (own := "GatePatch$Journal") plain_Journal rfl rfl (Nat.le_of_ble_eq_true rfl) (fun Γ hG hmk hin g => ?_)
  subst hG
  show Core Γ WX11_init_42 HX11_init_41 0 0 _ 0 [(0, vP 75)] []
  refine Co_aload_n (kk := 0) g dX3_init_0 rfl rfl ?_
  refine Co_obj g dX3_init_1 ml_Journal_3 ob_im ob_cw (by decide) ⟨by decide, by decide⟩ ?_
  refine Co_aload_n (kk := 0) g dX3_init_4 rfl rfl ?_
  refine Co_iconst g dX3_init_5 ⟨by decide, by decide⟩ ?_
  refine Co_newq4 (n := 4) g hmk rfl dX3_init_6 cl_Journal_9 (by decide) ⟨by decide, by decide⟩ ?_
  show Core Γ WX3_init_2 HX3_init_1 _ _ _ _ _ _
  refine Co_putr (n := 0) g dX3_init_9 ff_Journal_11 (Or.inr ⟨_, rfl⟩) hin ⟨by decide +kernel, by decide +kernel, by decide +kernel⟩ rfl (by decide) ?_
  show Core Γ WX3_init_3 HX3_init_1 _ _ _ _ _ _
  refine Co_aload_n (kk := 0) g dX3_init_12 rfl rfl ?_
  refine Co_iconst g dX3_init_13 ⟨by decide, by decide⟩ ?_
  refine Co_newi (n := 4) g hmk rfl dX3_init_14 ac_int (by decide) ⟨by decide, by decide⟩ ?_
  show Core Γ WX3_init_5 HX3_init_4 _ _ _ _ _ _
  refine Co_putr (n := 0) g dX3_init_16 ff_Journal_17 (Or.inr ⟨_, rfl⟩) hin ⟨by decide +kernel, by decide +kernel, by decide +kernel⟩ rfl (by decide) ?_
  show Core Γ WX3_init_6 HX3_init_4 _ _ _ _ _ _
  refine Co_aload_n (kk := 0) g dX3_init_19 rfl rfl ?_
  refine Co_sipush g dX3_init_20 ⟨by decide, by decide⟩ rfl ?_
  refine Co_newi (n := 378) g hmk rfl dX3_init_23 ac_int (by decide) ⟨by decide, by decide⟩ ?_
  show Core Γ WX3_init_8 HX3_init_7 _ _ _ _ _ _
  refine Co_putr (n := 0) g dX3_init_25 ff_Journal_21 (Or.inr ⟨_, rfl⟩) hin ⟨by decide +kernel, by decide +kernel, by decide +kernel⟩ rfl (by decide) ?_
  show Core Γ WX3_init_9 HX3_init_7 _ _ _ _ _ _
  refine Co_aload_n (kk := 0) g dX3_init_28 rfl rfl ?_
  refine Co_sipush g dX3_init_29 ⟨by decide, by decide⟩ rfl ?_
  refine Co_newi (n := 256) g hmk rfl dX3_init_32 ac_int (by decide) ⟨by decide, by decide⟩ ?_
  show Core Γ WX3_init_11 HX3_init_10 _ _ _ _ _ _
  refine Co_putr (n := 0) g dX3_init_34 ff_Journal_24 (Or.inr ⟨_, rfl⟩) hin ⟨by decide +kernel, by decide +kernel, by decide +kernel⟩ rfl (by decide) ?_
  show Core Γ WX3_init_12 HX3_init_10 _ _ _ _ _ _
  refine Co_aload_n (kk := 0) g dX3_init_37 rfl rfl ?_
  refine Co_bipush g dX3_init_38 ⟨by decide, by decide⟩ rfl ?_
  refine Co_newl (n := 24) g hmk rfl dX3_init_40 ac_long (by decide) ⟨by decide, by decide⟩ ?_
  show Core Γ WX3_init_14 HX3_init_13 _ _ _ _ _ _
  refine Co_putr (n := 0) g dX3_init_42 ff_Journal_27 (Or.inr ⟨_, rfl⟩) hin ⟨by decide +kernel, by decide +kernel, by decide +kernel⟩ rfl (by decide) ?_
  show Core Γ WX3_init_15 HX3_init_13 _ _ _ _ _ _
  refine Co_iconst g dX3_init_45 ⟨by decide, by decide⟩ ?_
  refine Co_istore_n g dX3_init_46 rfl (by decide) rfl ?_
  refine Co_iload_n (kk := 0) g dX3_init_47 rfl rfl ?_
  refine Co_iconst g dX3_init_48 ⟨by decide, by decide⟩ ?_
  refine Co_icmp_ge (tgt := 71) g dX3_init_49 (by decide) (fun c => absurd c (by decide)) (fun _ => ?_)
  refine Co_aload_n (kk := 1) g dX3_init_52 rfl rfl ?_
  refine Co_getr (b := 76) g dX3_init_53 fl_Journal_11 (ci := 2) (n := 0) ⟨by decide +kernel, by decide +kernel, by decide +kernel⟩ rfl (by decide +kernel) ?_
  refine Co_iload_n (kk := 0) g dX3_init_56 rfl rfl ?_
  refine Co_new (C := "GatePatch$Plan") g hmk rfl dX3_init_57 ci_Plan df_Plan cl_Journal_9 is_Plan ini_Plan ⟨by decide, by decide⟩ ?_
  show Core Γ WX3_init_17 HX3_init_16 _ _ _ _ _ _
  refine Co_dup g dX3_init_60 rfl ?_
  refine Co_callIN (As := []) g hmk rfl dX3_init_61 (cX8_init WX3_init_17 HX3_init_16 81  ⟨by decide +kernel, by decide +kernel, by decide +kernel⟩ (by decide +kernel)) rfl rfl (by decide) im_X8_init cw_X8_init mn_Journal_31 ini_Plan nd_X8_init ⟨by decide, by decide⟩ ⟨by decide, by decide⟩ (Nat.le_of_ble_eq_true rfl) ?_
  show Core Γ WX3_init_19 HX3_init_18 _ _ _ _ _ _
  refine Co_aastore g dX3_init_64 (t := 4) (n := 4) ⟨by decide +kernel, by decide +kernel, by decide +kernel⟩ rfl (by decide) (ci := 7) (nb := 0) ⟨by decide +kernel, by decide +kernel, by decide +kernel⟩ rfl (by decide) (by decide) ?_
  show Core Γ WX3_init_19 HX3_init_20 _ _ _ _ _ _
  refine Co_iinc (kk := 0) g dX3_init_65 rfl (by decide) ⟨by decide, by decide⟩ rfl ?_
  refine Co_goto (tgt := 47) g dX3_init_68 (by decide) ?_
  refine Co_iload_n (kk := 0) g dX3_init_47 rfl rfl ?_
  refine Co_iconst g dX3_init_48 ⟨by decide, by decide⟩ ?_
  refine Co_icmp_ge (tgt := 71) g dX3_init_49 (by decide) (fun c => absurd c (by decide)) (fun _ => ?_)
  refine Co_aload_n (kk := 1) g dX3_init_52 rfl rfl ?_
  refine Co_getr (b := 76) g dX3_init_53 fl_Journal_11 (ci := 2) (n := 0) ⟨by decide +kernel, by decide +kernel, by decide +kernel⟩ rfl (by decide +kernel) ?_
  refine Co_iload_n (kk := 0) g dX3_init_56 rfl rfl ?_
  refine Co_new (C := "GatePatch$Plan") g hmk rfl dX3_init_57 ci_Plan df_Plan cl_Journal_9 is_Plan ini_Plan ⟨by decide, by decide⟩ ?_
  show Core Γ WX3_init_22 HX3_init_21 _ _ _ _ _ _
  refine Co_dup g dX3_init_60 rfl ?_
  refine Co_callIN (As := []) g hmk rfl dX3_init_61 (cX8_init WX3_init_22 HX3_init_21 86  ⟨by decide +kernel, by decide +kernel, by decide +kernel⟩ (by decide +kernel)) rfl rfl (by decide) im_X8_init cw_X8_init mn_Journal_31 ini_Plan nd_X8_init ⟨by decide, by decide⟩ ⟨by decide, by decide⟩ (Nat.le_of_ble_eq_true rfl) ?_
  show Core Γ WX3_init_24 HX3_init_23 _ _ _ _ _ _
  refine Co_aastore g dX3_init_64 (t := 4) (n := 4) ⟨by decide +kernel, by decide +kernel, by decide +kernel⟩ rfl (by decide) (ci := 7) (nb := 0) ⟨by decide +kernel, by decide +kernel, by decide +kernel⟩ rfl (by decide) (by decide) ?_
  show Core Γ WX3_init_24 HX3_init_25 _ _ _ _ _ _
  refine Co_iinc (kk := 0) g dX3_init_65 rfl (by decide) ⟨by decide, by decide⟩ rfl ?_
  refine Co_goto (tgt := 47) g dX3_init_68 (by decide) ?_
  refine Co_iload_n (kk := 0) g dX3_init_47 rfl rfl ?_
  refine Co_iconst g dX3_init_48 ⟨by decide, by decide⟩ ?_
  refine Co_icmp_ge (tgt := 71) g dX3_init_49 (by decide) (fun c => absurd c (by decide)) (fun _ => ?_)
  refine Co_aload_n (kk := 1) g dX3_init_52 rfl rfl ?_
  refine Co_getr (b := 76) g dX3_init_53 fl_Journal_11 (ci := 2) (n := 0) ⟨by decide +kernel, by decide +kernel, by decide +kernel⟩ rfl (by decide +kernel) ?_
  refine Co_iload_n (kk := 0) g dX3_init_56 rfl rfl ?_
  refine Co_new (C := "GatePatch$Plan") g hmk rfl dX3_init_57 ci_Plan df_Plan cl_Journal_9 is_Plan ini_Plan ⟨by decide, by decide⟩ ?_
  show Core Γ WX3_init_27 HX3_init_26 _ _ _ _ _ _
  refine Co_dup g dX3_init_60 rfl ?_
  refine Co_callIN (As := []) g hmk rfl dX3_init_61 (cX8_init WX3_init_27 HX3_init_26 91  ⟨by decide +kernel, by decide +kernel, by decide +kernel⟩ (by decide +kernel)) rfl rfl (by decide) im_X8_init cw_X8_init mn_Journal_31 ini_Plan nd_X8_init ⟨by decide, by decide⟩ ⟨by decide, by decide⟩ (Nat.le_of_ble_eq_true rfl) ?_
  show Core Γ WX3_init_29 HX3_init_28 _ _ _ _ _ _
  refine Co_aastore g dX3_init_64 (t := 4) (n := 4) ⟨by decide +kernel, by decide +kernel, by decide +kernel⟩ rfl (by decide) (ci := 7) (nb := 0) ⟨by decide +kernel, by decide +kernel, by decide +kernel⟩ rfl (by decide) (by decide) ?_
  show Core Γ WX3_init_29 HX3_init_30 _ _ _ _ _ _
  refine Co_iinc (kk := 0) g dX3_init_65 rfl (by decide) ⟨by decide, by decide⟩ rfl ?_
  refine Co_goto (tgt := 47) g dX3_init_68 (by decide) ?_
  refine Co_iload_n (kk := 0) g dX3_init_47 rfl rfl ?_
  refine Co_iconst g dX3_init_48 ⟨by decide, by decide⟩ ?_
  refine Co_icmp_ge (tgt := 71) g dX3_init_49 (by decide) (fun c => absurd c (by decide)) (fun _ => ?_)
  refine Co_aload_n (kk := 1) g dX3_init_52 rfl rfl ?_
  refine Co_getr (b := 76) g dX3_init_53 fl_Journal_11 (ci := 2) (n := 0) ⟨by decide +kernel, by decide +kernel, by decide +kernel⟩ rfl (by decide +kernel) ?_
  refine Co_iload_n (kk := 0) g dX3_init_56 rfl rfl ?_
  refine Co_new (C := "GatePatch$Plan") g hmk rfl dX3_init_57 ci_Plan df_Plan cl_Journal_9 is_Plan ini_Plan ⟨by decide, by decide⟩ ?_
  show Core Γ WX3_init_32 HX3_init_31 _ _ _ _ _ _
  refine Co_dup g dX3_init_60 rfl ?_
  refine Co_callIN (As := []) g hmk rfl dX3_init_61 (cX8_init WX3_init_32 HX3_init_31 96  ⟨by decide +kernel, by decide +kernel, by decide +kernel⟩ (by decide +kernel)) rfl rfl (by decide) im_X8_init cw_X8_init mn_Journal_31 ini_Plan nd_X8_init ⟨by decide, by decide⟩ ⟨by decide, by decide⟩ (Nat.le_of_ble_eq_true rfl) ?_
  show Core Γ WX3_init_34 HX3_init_33 _ _ _ _ _ _
  refine Co_aastore g dX3_init_64 (t := 4) (n := 4) ⟨by decide +kernel, by decide +kernel, by decide +kernel⟩ rfl (by decide) (ci := 7) (nb := 0) ⟨by decide +kernel, by decide +kernel, by decide +kernel⟩ rfl (by decide) (by decide) ?_
  show Core Γ WX3_init_34 HX3_init_35 _ _ _ _ _ _
  refine Co_iinc (kk := 0) g dX3_init_65 rfl (by decide) ⟨by decide, by decide⟩ rfl ?_
  refine Co_goto (tgt := 47) g dX3_init_68 (by decide) ?_
  refine Co_iload_n (kk := 0) g dX3_init_47 rfl rfl ?_
  refine Co_iconst g dX3_init_48 ⟨by decide, by decide⟩ ?_
  refine Co_icmp_ge (tgt := 71) g dX3_init_49 (by decide) (fun _ => ?_) (fun c => absurd (by decide) c)
  exact Co_returnA g hmk rfl dX3_init_71 rfl

def HX11_init_43 : Hp := HX3_init_35
def WX11_init_44 : Wd := WX3_init_34
def WX11_init_45 : Wd := wref WX11_init_44 16 8 75
def HX11_init_46 : Hp := hz HX11_init_43 WX11_init_45.1
def WX11_init_47 : Wd := wnew WX11_init_45 (2, 5, 6)
def WX11_init_48 : Wd := wref WX11_init_47 16 9 101
def HX11_init_49 : Hp := hz HX11_init_46 WX11_init_48.1
def WX11_init_50 : Wd := wnew WX11_init_48 (2, 0, 9)
def WX11_init_51 : Wd := wref WX11_init_50 16 10 102
def HX11_init_52 : Hp := hz HX11_init_49 WX11_init_51.1
def WX11_init_53 : Wd := wnew WX11_init_51 (2, 0, 3)
def WX11_init_54 : Wd := wref WX11_init_53 16 11 103
def HX11_init_55 : Hp := hz HX11_init_52 WX11_init_54.1
def WX11_init_56 : Wd := wnew WX11_init_54 (1, 9, 0)
def HX11_init_57 : Hp := hX10_init WX11_init_56 HX11_init_55 104 
def WX11_init_58 : Wd := wX10_init WX11_init_56 104
def HX11_init_59 : Hp := wr HX11_init_57 101 (0 : Int).toNat ((104 : Nat) : Int)
def HX11_init_60 : Hp := hz HX11_init_59 WX11_init_58.1
def WX11_init_61 : Wd := wnew WX11_init_58 (1, 9, 0)
def HX11_init_62 : Hp := hX10_init WX11_init_61 HX11_init_60 111 
def WX11_init_63 : Wd := wX10_init WX11_init_61 111
def HX11_init_64 : Hp := wr HX11_init_62 101 ((0 + 1) : Int).toNat ((111 : Nat) : Int)
def HX11_init_65 : Hp := hz HX11_init_64 WX11_init_63.1
def WX11_init_66 : Wd := wnew WX11_init_63 (1, 9, 0)
def HX11_init_67 : Hp := hX10_init WX11_init_66 HX11_init_65 118 
def WX11_init_68 : Wd := wX10_init WX11_init_66 118
def HX11_init_69 : Hp := wr HX11_init_67 101 (((0 + 1) + 1) : Int).toNat ((118 : Nat) : Int)
def HX11_init_70 : Hp := hz HX11_init_69 WX11_init_68.1
def WX11_init_71 : Wd := wnew WX11_init_68 (1, 9, 0)
def HX11_init_72 : Hp := hX10_init WX11_init_71 HX11_init_70 125 
def WX11_init_73 : Wd := wX10_init WX11_init_71 125
def HX11_init_74 : Hp := wr HX11_init_72 101 ((((0 + 1) + 1) + 1) : Int).toNat ((125 : Nat) : Int)
def HX11_init_75 : Hp := hz HX11_init_74 WX11_init_73.1
def WX11_init_76 : Wd := wnew WX11_init_73 (1, 9, 0)
def HX11_init_77 : Hp := hX10_init WX11_init_76 HX11_init_75 132 
def WX11_init_78 : Wd := wX10_init WX11_init_76 132
def HX11_init_79 : Hp := wr HX11_init_77 101 (((((0 + 1) + 1) + 1) + 1) : Int).toNat ((132 : Nat) : Int)
def HX11_init_80 : Hp := hz HX11_init_79 WX11_init_78.1
def WX11_init_81 : Wd := wnew WX11_init_78 (1, 9, 0)
def HX11_init_82 : Hp := hX10_init WX11_init_81 HX11_init_80 139 
def WX11_init_83 : Wd := wX10_init WX11_init_81 139
def HX11_init_84 : Hp := wr HX11_init_82 101 ((((((0 + 1) + 1) + 1) + 1) + 1) : Int).toNat ((139 : Nat) : Int)
/-- the world behind the rows of the constructor, at its codes -/
def WXF : Wd := reW rho1 sig1 WX11_init_83
def HXF : Hp := reH rho1 sig1 WX11_init_83 HX11_init_84
theorem okX0_WXF : okX0 WXF := by
  have h1 : ∀ a, a < 143 → 16 ≤ a → WXF.2.1 a = SHL.getD (a - 16) (0, 0, 0) := by decide +kernel
  have h2 : ∀ a, a < 143 → ∀ i, i < 82 → (a < 16 ∨ a = 40) ∨ WXF.2.2 a i = (RCL.getD (a - 16) []).getD i 0 := by decide +kernel
  have h3 : ∀ i, i < 82 → (i = 9 ∨ i = 13 ∨ i = 14) ∨ WXF.2.2 40 i = (RCL.getD (40 - 16) []).getD i 0 := by decide +kernel
  refine ⟨by decide +kernel, fun a l1 l2 => ⟨h1 a l2 l1, fun i hi hn => ?_⟩⟩
  by_cases q : a = 40
  · subst q
    exact (h3 i hi).resolve_left (fun z => by have := hn rfl; omega)
  · exact (h2 a l2 i hi).resolve_left (fun z => by omega)
/-- .. and back: what startAll leaves, in the order of making -/
def HXB (hh : Hp) : Hp := reH sig1 rho1 WXF hh
theorem n_WX11_init_83 : WX11_init_83.1 = 146 := by decide +kernel
theorem bij1_W : Bij rho1 sig1 WX11_init_83.1 := by rw [n_WX11_init_83]; exact bij1
theorem bij1_F : Bij sig1 rho1 WXF.1 := by rw [show WXF.1 = WX11_init_83.1 from rfl, n_WX11_init_83]; exact bij1i
set_option maxRecDepth 100000 in
theorem cX11_init {G : GG} (hh : Hp) (hX : XX11_startAll 3 0 1 HXF = some (0, hh)) : CtA G yX11_init (Cond.code yX11_init cX11_init_c 2 none) ({ frames := 5, cells := 129, slots := 10572, locals := 500 } : Room) [vP 16] WG0 HG0 WX11_init_83 (HXB hh) := by
  refine CtA_of (own := "GatePatch") plain_GP rfl rfl (Nat.le_of_ble_eq_true rfl) (fun Γ hG hmk hin g => ?_)
  subst hG
  show Core Γ WG0 HG0 0 0 _ 0 [(0, vP 16)] []
  refine Co_aload_n (kk := 0) g dX11_init_0 rfl rfl ?_
  refine Co_obj g dX11_init_1 ml_GP_3 ob_im ob_cw (by decide) ⟨by decide, by decide⟩ ?_
  refine Co_aload_n (kk := 0) g dX11_init_4 rfl rfl ?_
  refine Co_new (C := "GatePatch$Net") g hmk rfl dX11_init_5 ci_Net df_Net cl_GP_9 is_Net ini_Net ⟨by decide, by decide⟩ ?_
  show Core Γ WX11_init_2 HX11_init_1 _ _ _ _ _ _
  refine Co_dup g dX11_init_8 rfl ?_
  refine Co_bipush g dX11_init_9 ⟨by decide, by decide⟩ rfl ?_
  refine Co_callI (As := [vI 40]) g hmk rfl dX11_init_11 (cX6_init WX11_init_2 HX11_init_1 17 40 ⟨by decide +kernel, by decide +kernel, by decide +kernel⟩ (by decide +kernel)) rfl rfl (by decide) im_X6_init cw_X6_init ml_GP_11 ini_Net nd_X6_init ⟨by decide, by decide⟩ ⟨by decide, by decide⟩ (Nat.le_of_ble_eq_true rfl) ?_
  show Core Γ WX11_init_4 HX11_init_3 _ _ _ _ _ _
  refine Co_putr (n := 0) g dX11_init_14 ff_GP_14 (Or.inl ⟨_, rfl⟩) hin ⟨by decide +kernel, by decide +kernel, by decide +kernel⟩ rfl (by decide) ?_
  show Core Γ WX11_init_5 HX11_init_3 _ _ _ _ _ _
  refine Co_aload_n (kk := 0) g dX11_init_17 rfl rfl ?_
  refine Co_new (C := "GatePatch$Net") g hmk rfl dX11_init_18 ci_Net df_Net cl_GP_9 is_Net ini_Net ⟨by decide, by decide⟩ ?_
  show Core Γ WX11_init_7 HX11_init_6 _ _ _ _ _ _
  refine Co_dup g dX11_init_21 rfl ?_
  refine Co_bipush g dX11_init_22 ⟨by decide, by decide⟩ rfl ?_
  refine Co_callI (As := [vI 24]) g hmk rfl dX11_init_24 (cX6_init WX11_init_7 HX11_init_6 27 24 ⟨by decide +kernel, by decide +kernel, by decide +kernel⟩ (by decide +kernel)) rfl rfl (by decide) im_X6_init cw_X6_init ml_GP_11 ini_Net nd_X6_init ⟨by decide, by decide⟩ ⟨by decide, by decide⟩ (Nat.le_of_ble_eq_true rfl) ?_
  show Core Γ WX11_init_9 HX11_init_8 _ _ _ _ _ _
  refine Co_putr (n := 0) g dX11_init_27 ff_GP_18 (Or.inl ⟨_, rfl⟩) hin ⟨by decide +kernel, by decide +kernel, by decide +kernel⟩ rfl (by decide) ?_
  show Core Γ WX11_init_10 HX11_init_8 _ _ _ _ _ _
  refine Co_aload_n (kk := 0) g dX11_init_30 rfl rfl ?_
  refine Co_new (C := "GatePatch$Cases") g hmk rfl dX11_init_31 ci_Cases df_Cases cl_GP_21 is_Cases ini_Cases ⟨by decide, by decide⟩ ?_
  show Core Γ WX11_init_12 HX11_init_11 _ _ _ _ _ _
  refine Co_dup g dX11_init_34 rfl ?_
  refine Co_callIN (As := []) g hmk rfl dX11_init_35 cX0_init rfl rfl (by decide) im_X0_init cw_X0_init mn_GP_23 ini_Cases nd_X0_init ⟨by decide, by decide⟩ ⟨by decide, by decide⟩ (Nat.le_of_ble_eq_true rfl) ?_
  show Core Γ WX11_init_14 HX11_init_13 _ _ _ _ _ _
  refine Co_putr (n := 0) g dX11_init_38 ff_GP_24 (Or.inl ⟨_, rfl⟩) hin ⟨by decide +kernel, by decide +kernel, by decide +kernel⟩ rfl (by decide) ?_
  show Core Γ WX11_init_15 HX11_init_13 _ _ _ _ _ _
  refine Co_aload_n (kk := 0) g dX11_init_41 rfl rfl ?_
  refine Co_new (C := "GatePatch$Mender") g hmk rfl dX11_init_42 ci_Mender df_Mender cl_GP_28 is_Mender ini_Mender ⟨by decide, by decide⟩ ?_
  show Core Γ WX11_init_17 HX11_init_16 _ _ _ _ _ _
  refine Co_dup g dX11_init_45 rfl ?_
  refine Co_aload_n (kk := 0) g dX11_init_46 rfl rfl ?_
  refine Co_getr (b := 17) g dX11_init_47 fl_GP_14 (ci := 10) (n := 0) ⟨by decide +kernel, by decide +kernel, by decide +kernel⟩ rfl (by decide +kernel) ?_
  refine Co_aload_n (kk := 0) g dX11_init_50 rfl rfl ?_
  refine Co_getr (b := 27) g dX11_init_51 fl_GP_18 (ci := 10) (n := 0) ⟨by decide +kernel, by decide +kernel, by decide +kernel⟩ rfl (by decide +kernel) ?_
  refine Co_aload_n (kk := 0) g dX11_init_54 rfl rfl ?_
  refine Co_getr (b := 37) g dX11_init_55 fl_GP_24 (ci := 10) (n := 0) ⟨by decide +kernel, by decide +kernel, by decide +kernel⟩ rfl (by decide +kernel) ?_
  refine Co_callI (As := [vP 17, vP 27, vP 37]) g hmk rfl dX11_init_58 cX5_init rfl rfl (by decide) im_X5_init cw_X5_init ml_GP_30 ini_Mender nd_X5_init ⟨by decide, by decide⟩ ⟨by decide, by decide⟩ (Nat.le_of_ble_eq_true rfl) ?_
  show Core Γ WX11_init_19 HX11_init_18 _ _ _ _ _ _
  refine Co_putr (n := 0) g dX11_init_61 ff_GP_33 (Or.inl ⟨_, rfl⟩) hin ⟨by decide +kernel, by decide +kernel, by decide +kernel⟩ rfl (by decide) ?_
  show Core Γ WX11_init_20 HX11_init_18 _ _ _ _ _ _
  refine Co_aload_n (kk := 0) g dX11_init_64 rfl rfl ?_
  refine Co_new (C := "GatePatch$Finder") g hmk rfl dX11_init_65 ci_Finder df_Finder cl_GP_37 is_Finder ini_Finder ⟨by decide, by decide⟩ ?_
  show Core Γ WX11_init_22 HX11_init_21 _ _ _ _ _ _
  refine Co_dup g dX11_init_68 rfl ?_
  refine Co_aload_n (kk := 0) g dX11_init_69 rfl rfl ?_
  refine Co_getr (b := 17) g dX11_init_70 fl_GP_14 (ci := 10) (n := 0) ⟨by decide +kernel, by decide +kernel, by decide +kernel⟩ rfl (by decide +kernel) ?_
  refine Co_aload_n (kk := 0) g dX11_init_73 rfl rfl ?_
  refine Co_getr (b := 37) g dX11_init_74 fl_GP_24 (ci := 10) (n := 0) ⟨by decide +kernel, by decide +kernel, by decide +kernel⟩ rfl (by decide +kernel) ?_
  refine Co_callI (As := [vP 17, vP 37]) g hmk rfl dX11_init_77 cX1_init rfl rfl (by decide) im_X1_init cw_X1_init ml_GP_39 ini_Finder nd_X1_init ⟨by decide, by decide⟩ ⟨by decide, by decide⟩ (Nat.le_of_ble_eq_true rfl) ?_
  show Core Γ WX11_init_24 HX11_init_23 _ _ _ _ _ _
  refine Co_putr (n := 0) g dX11_init_80 ff_GP_42 (Or.inl ⟨_, rfl⟩) hin ⟨by decide +kernel, by decide +kernel, by decide +kernel⟩ rfl (by decide) ?_
  show Core Γ WX11_init_25 HX11_init_23 _ _ _ _ _ _
  refine Co_aload_n (kk := 0) g dX11_init_83 rfl rfl ?_
  refine Co_new (C := "GatePatch$Marks") g hmk rfl dX11_init_84 ci_Marks df_Marks cl_GP_46 is_Marks ini_Marks ⟨by decide, by decide⟩ ?_
  show Core Γ WX11_init_27 HX11_init_26 _ _ _ _ _ _
  refine Co_dup g dX11_init_87 rfl ?_
  refine Co_callIN (As := []) g hmk rfl dX11_init_88 cX4_init rfl rfl (by decide) im_X4_init cw_X4_init mn_GP_48 ini_Marks nd_X4_init ⟨by decide, by decide⟩ ⟨by decide, by decide⟩ (Nat.le_of_ble_eq_true rfl) ?_
  show Core Γ WX11_init_29 HX11_init_28 _ _ _ _ _ _
  refine Co_putr (n := 0) g dX11_init_91 ff_GP_49 (Or.inl ⟨_, rfl⟩) hin ⟨by decide +kernel, by decide +kernel, by decide +kernel⟩ rfl (by decide) ?_
  show Core Γ WX11_init_30 HX11_init_28 _ _ _ _ _ _
  refine Co_aload_n (kk := 0) g dX11_init_94 rfl rfl ?_
  refine Co_new (C := "GatePatch$Patch") g hmk rfl dX11_init_95 ci_Patch df_Patch cl_GP_53 is_Patch ini_Patch ⟨by decide, by decide⟩ ?_
  show Core Γ WX11_init_32 HX11_init_31 _ _ _ _ _ _
  refine Co_dup g dX11_init_98 rfl ?_
  refine Co_callIN (As := []) g hmk rfl dX11_init_99 cX7_init rfl rfl (by decide) im_X7_init cw_X7_init mn_GP_55 ini_Patch nd_X7_init ⟨by decide, by decide⟩ ⟨by decide, by decide⟩ (Nat.le_of_ble_eq_true rfl) ?_
  show Core Γ WX11_init_34 HX11_init_33 _ _ _ _ _ _
  refine Co_putr (n := 0) g dX11_init_102 ff_GP_56 (Or.inl ⟨_, rfl⟩) hin ⟨by decide +kernel, by decide +kernel, by decide +kernel⟩ rfl (by decide) ?_
  show Core Γ WX11_init_35 HX11_init_33 _ _ _ _ _ _
  refine Co_aload_n (kk := 0) g dX11_init_105 rfl rfl ?_
  refine Co_new (C := "GatePatch$Spares") g hmk rfl dX11_init_106 ci_Spares df_Spares cl_GP_60 is_Spares ini_Spares ⟨by decide, by decide⟩ ?_
  show Core Γ WX11_init_37 HX11_init_36 _ _ _ _ _ _
  refine Co_dup g dX11_init_109 rfl ?_
  refine Co_callIN (As := []) g hmk rfl dX11_init_110 cX9_init rfl rfl (by decide) im_X9_init cw_X9_init mn_GP_62 ini_Spares nd_X9_init ⟨by decide, by decide⟩ ⟨by decide, by decide⟩ (Nat.le_of_ble_eq_true rfl) ?_
  show Core Γ WX11_init_39 HX11_init_38 _ _ _ _ _ _
  refine Co_putr (n := 0) g dX11_init_113 ff_GP_63 (Or.inl ⟨_, rfl⟩) hin ⟨by decide +kernel, by decide +kernel, by decide +kernel⟩ rfl (by decide) ?_
  show Core Γ WX11_init_40 HX11_init_38 _ _ _ _ _ _
  refine Co_aload_n (kk := 0) g dX11_init_116 rfl rfl ?_
  refine Co_new (C := "GatePatch$Journal") g hmk rfl dX11_init_117 ci_Journal df_Journal cl_GP_67 is_Journal ini_Journal ⟨by decide, by decide⟩ ?_
  show Core Γ WX11_init_42 HX11_init_41 _ _ _ _ _ _
  refine Co_dup g dX11_init_120 rfl ?_
  refine Co_callI (As := []) g hmk rfl dX11_init_121 cX3_init rfl rfl (by decide) im_X3_init cw_X3_init ml_GP_69 ini_Journal nd_X3_init ⟨by decide, by decide⟩ ⟨by decide, by decide⟩ (Nat.le_of_ble_eq_true rfl) ?_
  show Core Γ WX11_init_44 HX11_init_43 _ _ _ _ _ _
  refine Co_putr (n := 0) g dX11_init_124 ff_GP_70 (Or.inl ⟨_, rfl⟩) hin ⟨by decide +kernel, by decide +kernel, by decide +kernel⟩ rfl (by decide) ?_
  show Core Γ WX11_init_45 HX11_init_43 _ _ _ _ _ _
  refine Co_aload_n (kk := 0) g dX11_init_127 rfl rfl ?_
  refine Co_bipush g dX11_init_128 ⟨by decide, by decide⟩ rfl ?_
  refine Co_newq5 (n := 6) g hmk rfl dX11_init_130 cl_GP_74 (by decide) ⟨by decide, by decide⟩ ?_
  show Core Γ WX11_init_47 HX11_init_46 _ _ _ _ _ _
  refine Co_putr (n := 0) g dX11_init_133 ff_GP_76 (Or.inr ⟨_, rfl⟩) hin ⟨by decide +kernel, by decide +kernel, by decide +kernel⟩ rfl (by decide) ?_
  show Core Γ WX11_init_48 HX11_init_46 _ _ _ _ _ _
  refine Co_aload_n (kk := 0) g dX11_init_136 rfl rfl ?_
  refine Co_bipush g dX11_init_137 ⟨by decide, by decide⟩ rfl ?_
  refine Co_newi (n := 9) g hmk rfl dX11_init_139 ac_int (by decide) ⟨by decide, by decide⟩ ?_
  show Core Γ WX11_init_50 HX11_init_49 _ _ _ _ _ _
  refine Co_putr (n := 0) g dX11_init_141 ff_GP_80 (Or.inr ⟨_, rfl⟩) hin ⟨by decide +kernel, by decide +kernel, by decide +kernel⟩ rfl (by decide) ?_
  show Core Γ WX11_init_51 HX11_init_49 _ _ _ _ _ _
  refine Co_aload_n (kk := 0) g dX11_init_144 rfl rfl ?_
  refine Co_iconst g dX11_init_145 ⟨by decide, by decide⟩ ?_
  refine Co_newi (n := 3) g hmk rfl dX11_init_146 ac_int (by decide) ⟨by decide, by decide⟩ ?_
  show Core Γ WX11_init_53 HX11_init_52 _ _ _ _ _ _
  refine Co_putr (n := 0) g dX11_init_148 ff_GP_84 (Or.inr ⟨_, rfl⟩) hin ⟨by decide +kernel, by decide +kernel, by decide +kernel⟩ rfl (by decide) ?_
  show Core Γ WX11_init_54 HX11_init_52 _ _ _ _ _ _
  refine Co_iconst g dX11_init_151 ⟨by decide, by decide⟩ ?_
  refine Co_istore_n g dX11_init_152 rfl (by decide) rfl ?_
  refine Co_iload_n (kk := 0) g dX11_init_153 rfl rfl ?_
  refine Co_bipush g dX11_init_154 ⟨by decide, by decide⟩ rfl ?_
  refine Co_icmp_ge (tgt := 178) g dX11_init_156 (by decide) (fun c => absurd c (by decide)) (fun _ => ?_)
  refine Co_aload_n (kk := 1) g dX11_init_159 rfl rfl ?_
  refine Co_getr (b := 101) g dX11_init_160 fl_GP_76 (ci := 10) (n := 0) ⟨by decide +kernel, by decide +kernel, by decide +kernel⟩ rfl (by decide +kernel) ?_
  refine Co_iload_n (kk := 0) g dX11_init_163 rfl rfl ?_
  refine Co_new (C := "GatePatch$Tape") g hmk rfl dX11_init_164 ci_Tape df_Tape cl_GP_74 is_Tape ini_Tape ⟨by decide, by decide⟩ ?_
  show Core Γ WX11_init_56 HX11_init_55 _ _ _ _ _ _
  refine Co_dup g dX11_init_167 rfl ?_
  refine Co_callIN (As := []) g hmk rfl dX11_init_168 (cX10_init WX11_init_56 HX11_init_55 104  ⟨by decide +kernel, by decide +kernel, by decide +kernel⟩ (by decide +kernel)) rfl rfl (by decide) im_X10_init cw_X10_init mn_GP_87 ini_Tape nd_X10_init ⟨by decide, by decide⟩ ⟨by decide, by decide⟩ (Nat.le_of_ble_eq_true rfl) ?_
  show Core Γ WX11_init_58 HX11_init_57 _ _ _ _ _ _
  refine Co_aastore g dX11_init_171 (t := 5) (n := 6) ⟨by decide +kernel, by decide +kernel, by decide +kernel⟩ rfl (by decide) (ci := 9) (nb := 0) ⟨by decide +kernel, by decide +kernel, by decide +kernel⟩ rfl (by decide) (by decide) ?_
  show Core Γ WX11_init_58 HX11_init_59 _ _ _ _ _ _
  refine Co_iinc (kk := 0) g dX11_init_172 rfl (by decide) ⟨by decide, by decide⟩ rfl ?_
  refine Co_goto (tgt := 153) g dX11_init_175 (by decide) ?_
  refine Co_iload_n (kk := 0) g dX11_init_153 rfl rfl ?_
  refine Co_bipush g dX11_init_154 ⟨by decide, by decide⟩ rfl ?_
  refine Co_icmp_ge (tgt := 178) g dX11_init_156 (by decide) (fun c => absurd c (by decide)) (fun _ => ?_)
  refine Co_aload_n (kk := 1) g dX11_init_159 rfl rfl ?_
  refine Co_getr (b := 101) g dX11_init_160 fl_GP_76 (ci := 10) (n := 0) ⟨by decide +kernel, by decide +kernel, by decide +kernel⟩ rfl (by decide +kernel) ?_
  refine Co_iload_n (kk := 0) g dX11_init_163 rfl rfl ?_
  refine Co_new (C := "GatePatch$Tape") g hmk rfl dX11_init_164 ci_Tape df_Tape cl_GP_74 is_Tape ini_Tape ⟨by decide, by decide⟩ ?_
  show Core Γ WX11_init_61 HX11_init_60 _ _ _ _ _ _
  refine Co_dup g dX11_init_167 rfl ?_
  refine Co_callIN (As := []) g hmk rfl dX11_init_168 (cX10_init WX11_init_61 HX11_init_60 111  ⟨by decide +kernel, by decide +kernel, by decide +kernel⟩ (by decide +kernel)) rfl rfl (by decide) im_X10_init cw_X10_init mn_GP_87 ini_Tape nd_X10_init ⟨by decide, by decide⟩ ⟨by decide, by decide⟩ (Nat.le_of_ble_eq_true rfl) ?_
  show Core Γ WX11_init_63 HX11_init_62 _ _ _ _ _ _
  refine Co_aastore g dX11_init_171 (t := 5) (n := 6) ⟨by decide +kernel, by decide +kernel, by decide +kernel⟩ rfl (by decide) (ci := 9) (nb := 0) ⟨by decide +kernel, by decide +kernel, by decide +kernel⟩ rfl (by decide) (by decide) ?_
  show Core Γ WX11_init_63 HX11_init_64 _ _ _ _ _ _
  refine Co_iinc (kk := 0) g dX11_init_172 rfl (by decide) ⟨by decide, by decide⟩ rfl ?_
  refine Co_goto (tgt := 153) g dX11_init_175 (by decide) ?_
  refine Co_iload_n (kk := 0) g dX11_init_153 rfl rfl ?_
  refine Co_bipush g dX11_init_154 ⟨by decide, by decide⟩ rfl ?_
  refine Co_icmp_ge (tgt := 178) g dX11_init_156 (by decide) (fun c => absurd c (by decide)) (fun _ => ?_)
  refine Co_aload_n (kk := 1) g dX11_init_159 rfl rfl ?_
  refine Co_getr (b := 101) g dX11_init_160 fl_GP_76 (ci := 10) (n := 0) ⟨by decide +kernel, by decide +kernel, by decide +kernel⟩ rfl (by decide +kernel) ?_
  refine Co_iload_n (kk := 0) g dX11_init_163 rfl rfl ?_
  refine Co_new (C := "GatePatch$Tape") g hmk rfl dX11_init_164 ci_Tape df_Tape cl_GP_74 is_Tape ini_Tape ⟨by decide, by decide⟩ ?_
  show Core Γ WX11_init_66 HX11_init_65 _ _ _ _ _ _
  refine Co_dup g dX11_init_167 rfl ?_
  refine Co_callIN (As := []) g hmk rfl dX11_init_168 (cX10_init WX11_init_66 HX11_init_65 118  ⟨by decide +kernel, by decide +kernel, by decide +kernel⟩ (by decide +kernel)) rfl rfl (by decide) im_X10_init cw_X10_init mn_GP_87 ini_Tape nd_X10_init ⟨by decide, by decide⟩ ⟨by decide, by decide⟩ (Nat.le_of_ble_eq_true rfl) ?_
  show Core Γ WX11_init_68 HX11_init_67 _ _ _ _ _ _
  refine Co_aastore g dX11_init_171 (t := 5) (n := 6) ⟨by decide +kernel, by decide +kernel, by decide +kernel⟩ rfl (by decide) (ci := 9) (nb := 0) ⟨by decide +kernel, by decide +kernel, by decide +kernel⟩ rfl (by decide) (by decide) ?_
  show Core Γ WX11_init_68 HX11_init_69 _ _ _ _ _ _
  refine Co_iinc (kk := 0) g dX11_init_172 rfl (by decide) ⟨by decide, by decide⟩ rfl ?_
  refine Co_goto (tgt := 153) g dX11_init_175 (by decide) ?_
  refine Co_iload_n (kk := 0) g dX11_init_153 rfl rfl ?_
  refine Co_bipush g dX11_init_154 ⟨by decide, by decide⟩ rfl ?_
  refine Co_icmp_ge (tgt := 178) g dX11_init_156 (by decide) (fun c => absurd c (by decide)) (fun _ => ?_)
  refine Co_aload_n (kk := 1) g dX11_init_159 rfl rfl ?_
  refine Co_getr (b := 101) g dX11_init_160 fl_GP_76 (ci := 10) (n := 0) ⟨by decide +kernel, by decide +kernel, by decide +kernel⟩ rfl (by decide +kernel) ?_
  refine Co_iload_n (kk := 0) g dX11_init_163 rfl rfl ?_
  refine Co_new (C := "GatePatch$Tape") g hmk rfl dX11_init_164 ci_Tape df_Tape cl_GP_74 is_Tape ini_Tape ⟨by decide, by decide⟩ ?_
  show Core Γ WX11_init_71 HX11_init_70 _ _ _ _ _ _
  refine Co_dup g dX11_init_167 rfl ?_
  refine Co_callIN (As := []) g hmk rfl dX11_init_168 (cX10_init WX11_init_71 HX11_init_70 125  ⟨by decide +kernel, by decide +kernel, by decide +kernel⟩ (by decide +kernel)) rfl rfl (by decide) im_X10_init cw_X10_init mn_GP_87 ini_Tape nd_X10_init ⟨by decide, by decide⟩ ⟨by decide, by decide⟩ (Nat.le_of_ble_eq_true rfl) ?_
  show Core Γ WX11_init_73 HX11_init_72 _ _ _ _ _ _
  refine Co_aastore g dX11_init_171 (t := 5) (n := 6) ⟨by decide +kernel, by decide +kernel, by decide +kernel⟩ rfl (by decide) (ci := 9) (nb := 0) ⟨by decide +kernel, by decide +kernel, by decide +kernel⟩ rfl (by decide) (by decide) ?_
  show Core Γ WX11_init_73 HX11_init_74 _ _ _ _ _ _
  refine Co_iinc (kk := 0) g dX11_init_172 rfl (by decide) ⟨by decide, by decide⟩ rfl ?_
  refine Co_goto (tgt := 153) g dX11_init_175 (by decide) ?_
  refine Co_iload_n (kk := 0) g dX11_init_153 rfl rfl ?_
  refine Co_bipush g dX11_init_154 ⟨by decide, by decide⟩ rfl ?_
  refine Co_icmp_ge (tgt := 178) g dX11_init_156 (by decide) (fun c => absurd c (by decide)) (fun _ => ?_)
  refine Co_aload_n (kk := 1) g dX11_init_159 rfl rfl ?_
  refine Co_getr (b := 101) g dX11_init_160 fl_GP_76 (ci := 10) (n := 0) ⟨by decide +kernel, by decide +kernel, by decide +kernel⟩ rfl (by decide +kernel) ?_
  refine Co_iload_n (kk := 0) g dX11_init_163 rfl rfl ?_
  refine Co_new (C := "GatePatch$Tape") g hmk rfl dX11_init_164 ci_Tape df_Tape cl_GP_74 is_Tape ini_Tape ⟨by decide, by decide⟩ ?_
  show Core Γ WX11_init_76 HX11_init_75 _ _ _ _ _ _
  refine Co_dup g dX11_init_167 rfl ?_
  refine Co_callIN (As := []) g hmk rfl dX11_init_168 (cX10_init WX11_init_76 HX11_init_75 132  ⟨by decide +kernel, by decide +kernel, by decide +kernel⟩ (by decide +kernel)) rfl rfl (by decide) im_X10_init cw_X10_init mn_GP_87 ini_Tape nd_X10_init ⟨by decide, by decide⟩ ⟨by decide, by decide⟩ (Nat.le_of_ble_eq_true rfl) ?_
  show Core Γ WX11_init_78 HX11_init_77 _ _ _ _ _ _
  refine Co_aastore g dX11_init_171 (t := 5) (n := 6) ⟨by decide +kernel, by decide +kernel, by decide +kernel⟩ rfl (by decide) (ci := 9) (nb := 0) ⟨by decide +kernel, by decide +kernel, by decide +kernel⟩ rfl (by decide) (by decide) ?_
  show Core Γ WX11_init_78 HX11_init_79 _ _ _ _ _ _
  refine Co_iinc (kk := 0) g dX11_init_172 rfl (by decide) ⟨by decide, by decide⟩ rfl ?_
  refine Co_goto (tgt := 153) g dX11_init_175 (by decide) ?_
  refine Co_iload_n (kk := 0) g dX11_init_153 rfl rfl ?_
  refine Co_bipush g dX11_init_154 ⟨by decide, by decide⟩ rfl ?_
  refine Co_icmp_ge (tgt := 178) g dX11_init_156 (by decide) (fun c => absurd c (by decide)) (fun _ => ?_)
  refine Co_aload_n (kk := 1) g dX11_init_159 rfl rfl ?_
  refine Co_getr (b := 101) g dX11_init_160 fl_GP_76 (ci := 10) (n := 0) ⟨by decide +kernel, by decide +kernel, by decide +kernel⟩ rfl (by decide +kernel) ?_
  refine Co_iload_n (kk := 0) g dX11_init_163 rfl rfl ?_
  refine Co_new (C := "GatePatch$Tape") g hmk rfl dX11_init_164 ci_Tape df_Tape cl_GP_74 is_Tape ini_Tape ⟨by decide, by decide⟩ ?_
  show Core Γ WX11_init_81 HX11_init_80 _ _ _ _ _ _
  refine Co_dup g dX11_init_167 rfl ?_
  refine Co_callIN (As := []) g hmk rfl dX11_init_168 (cX10_init WX11_init_81 HX11_init_80 139  ⟨by decide +kernel, by decide +kernel, by decide +kernel⟩ (by decide +kernel)) rfl rfl (by decide) im_X10_init cw_X10_init mn_GP_87 ini_Tape nd_X10_init ⟨by decide, by decide⟩ ⟨by decide, by decide⟩ (Nat.le_of_ble_eq_true rfl) ?_
  show Core Γ WX11_init_83 HX11_init_82 _ _ _ _ _ _
  refine Co_aastore g dX11_init_171 (t := 5) (n := 6) ⟨by decide +kernel, by decide +kernel, by decide +kernel⟩ rfl (by decide) (ci := 9) (nb := 0) ⟨by decide +kernel, by decide +kernel, by decide +kernel⟩ rfl (by decide) (by decide) ?_
  show Core Γ WX11_init_83 HX11_init_84 _ _ _ _ _ _
  refine Co_iinc (kk := 0) g dX11_init_172 rfl (by decide) ⟨by decide, by decide⟩ rfl ?_
  refine Co_goto (tgt := 153) g dX11_init_175 (by decide) ?_
  refine Co_iload_n (kk := 0) g dX11_init_153 rfl rfl ?_
  refine Co_bipush g dX11_init_154 ⟨by decide, by decide⟩ rfl ?_
  refine Co_icmp_ge (tgt := 178) g dX11_init_156 (by decide) (fun _ => ?_) (fun c => absurd (by decide) c)
  refine Co_aload_n (kk := 1) g dX11_init_178 rfl rfl ?_
  refine Co_iconst g dX11_init_179 ⟨by decide, by decide⟩ ?_
  refine Co_iconst g dX11_init_180 ⟨by decide, by decide⟩ ?_
  refine Co_iconst g dX11_init_181 ⟨by decide, by decide⟩ ?_
  refine Co_re rho1 sig1 bij1_W (Mk_all hmk) [(1, vI ((((((0 + 1) + 1) + 1) + 1) + 1) + 1)), (0, vP 16)] [vI 1, vI 0, vI 3, vP 16] rfl rfl ?_
  show Core (reG rho1 Γ) WXF HXF _ _ _ _ _ _
  have g1 := Gd_re rho1 rho1_l g
  refine Co_callV (E := EA) (As := [vI 3, vI 0, vI 1]) (r := none) (w' := WXF) (h' := hh) g1 dX11_init_182 (sX11_startAll okX0_WXF 3 0 1 HXF 0 hh hX) rfl (ci := 10) (n := 0) (at0_16 okX0_WXF) rfl im_X11_startAll se_X11_startAll cw_X11_startAll ml_GP_88 ini_GP nd_X11_startAll ⟨by decide, by decide⟩ ⟨by decide, by decide⟩ (Nat.le_of_ble_eq_true rfl) (fun _ _ => trivial) (fun q _ => by unfold refOk; split <;> trivial) (fun q _ => by unfold refOk; split <;> trivial) ?_
  refine Co_re sig1 rho1 bij1_F (fun a => Mk_all hmk a) [(1, vI ((((((0 + 1) + 1) + 1) + 1) + 1) + 1)), (0, vP 16)] [] rfl rfl ?_
  rw [reG_back bij1, show reW sig1 rho1 WXF = WX11_init_83 from reW_back bij1 _]
  show Core Γ WX11_init_83 (HXB hh) _ _ _ _ _ _
  exact Co_returnA g hmk rfl dX11_init_185 rfl

