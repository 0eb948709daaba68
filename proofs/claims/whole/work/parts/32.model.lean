abbrev cX12_init_c : ByteArray := prog_14_method_1_code
def yX12_init : MethodName := ⟨"GatePatchModel", "<init>", "()V"⟩
theorem ml_Mod_1 : Cond.methodLink "GatePatchModel" 1 Lib.objectInit ∈ tblG := mem_t 1333 (by decide +kernel) rfl
theorem ff_Mod_16 : FF1 "GatePatchModel" 16 11 4 (.array .int) := ⟨R_Mod, T_Mod, 82, ty_Mod, ci_Mod, by decide, mem_t 1338 (by decide +kernel) rfl, rfl, rfl, rfl⟩
theorem ff_Mod_20 : FF1 "GatePatchModel" 20 11 5 (.array .int) := ⟨R_Mod, T_Mod, 82, ty_Mod, ci_Mod, by decide, mem_t 1339 (by decide +kernel) rfl, rfl, rfl, rfl⟩
theorem ff_Mod_23 : FF1 "GatePatchModel" 23 11 6 (.array .int) := ⟨R_Mod, T_Mod, 82, ty_Mod, ci_Mod, by decide, mem_t 1340 (by decide +kernel) rfl, rfl, rfl, rfl⟩
theorem ff_Mod_26 : FF1 "GatePatchModel" 26 11 7 (.array .int) := ⟨R_Mod, T_Mod, 82, ty_Mod, ci_Mod, by decide, mem_t 1341 (by decide +kernel) rfl, rfl, rfl, rfl⟩
theorem ff_Mod_29 : FF1 "GatePatchModel" 29 11 8 (.array .int) := ⟨R_Mod, T_Mod, 82, ty_Mod, ci_Mod, by decide, mem_t 1342 (by decide +kernel) rfl, rfl, rfl, rfl⟩
theorem ac_boolean : Cond.arrayClass .boolean ∈ tblG := mem_t 1581 (by decide +kernel) rfl
theorem ff_Mod_32 : FF1 "GatePatchModel" 32 11 9 (.array .boolean) := ⟨R_Mod, T_Mod, 82, ty_Mod, ci_Mod, by decide, mem_t 1343 (by decide +kernel) rfl, rfl, rfl, rfl⟩
theorem ff_Mod_36 : FF1 "GatePatchModel" 36 11 10 (.array .int) := ⟨R_Mod, T_Mod, 82, ty_Mod, ci_Mod, by decide, mem_t 1344 (by decide +kernel) rfl, rfl, rfl, rfl⟩
theorem ff_Mod_39 : FF1 "GatePatchModel" 39 11 11 (.array .int) := ⟨R_Mod, T_Mod, 82, ty_Mod, ci_Mod, by decide, mem_t 1345 (by decide +kernel) rfl, rfl, rfl, rfl⟩
theorem ff_Mod_42 : FF1 "GatePatchModel" 42 11 13 (.array .int) := ⟨R_Mod, T_Mod, 82, ty_Mod, ci_Mod, by decide, mem_t 1347 (by decide +kernel) rfl, rfl, rfl, rfl⟩
theorem ff_Mod_45 : FF1 "GatePatchModel" 45 11 14 (.array .int) := ⟨R_Mod, T_Mod, 82, ty_Mod, ci_Mod, by decide, mem_t 1348 (by decide +kernel) rfl, rfl, rfl, rfl⟩
theorem ff_Mod_48 : FF1 "GatePatchModel" 48 11 15 (.array .int) := ⟨R_Mod, T_Mod, 82, ty_Mod, ci_Mod, by decide, mem_t 1349 (by decide +kernel) rfl, rfl, rfl, rfl⟩
theorem ff_Mod_51 : FF1 "GatePatchModel" 51 11 16 (.array .boolean) := ⟨R_Mod, T_Mod, 82, ty_Mod, ci_Mod, by decide, mem_t 1350 (by decide +kernel) rfl, rfl, rfl, rfl⟩
theorem ff_Mod_54 : FF1 "GatePatchModel" 54 11 17 (.array .int) := ⟨R_Mod, T_Mod, 82, ty_Mod, ci_Mod, by decide, mem_t 1351 (by decide +kernel) rfl, rfl, rfl, rfl⟩
theorem ff_Mod_57 : FF1 "GatePatchModel" 57 11 18 (.array .int) := ⟨R_Mod, T_Mod, 82, ty_Mod, ci_Mod, by decide, mem_t 1352 (by decide +kernel) rfl, rfl, rfl, rfl⟩
theorem ff_Mod_60 : FF1 "GatePatchModel" 60 11 20 (.array .int) := ⟨R_Mod, T_Mod, 82, ty_Mod, ci_Mod, by decide, mem_t 1354 (by decide +kernel) rfl, rfl, rfl, rfl⟩
theorem ff_Mod_69 : FF1 "GatePatchModel" 69 11 28 (.array .int) := ⟨R_Mod, T_Mod, 82, ty_Mod, ci_Mod, by decide, mem_t 1362 (by decide +kernel) rfl, rfl, rfl, rfl⟩
theorem ff_Mod_72 : FF1 "GatePatchModel" 72 11 29 (.array .int) := ⟨R_Mod, T_Mod, 82, ty_Mod, ci_Mod, by decide, mem_t 1363 (by decide +kernel) rfl, rfl, rfl, rfl⟩
theorem ff_Mod_75 : FF1 "GatePatchModel" 75 11 30 (.array .int) := ⟨R_Mod, T_Mod, 82, ty_Mod, ci_Mod, by decide, mem_t 1364 (by decide +kernel) rfl, rfl, rfl, rfl⟩
theorem ff_Mod_78 : FF1 "GatePatchModel" 78 11 31 (.array .int) := ⟨R_Mod, T_Mod, 82, ty_Mod, ci_Mod, by decide, mem_t 1365 (by decide +kernel) rfl, rfl, rfl, rfl⟩
theorem ff_Mod_81 : FF1 "GatePatchModel" 81 11 32 (.array .int) := ⟨R_Mod, T_Mod, 82, ty_Mod, ci_Mod, by decide, mem_t 1366 (by decide +kernel) rfl, rfl, rfl, rfl⟩
theorem ff_Mod_84 : FF1 "GatePatchModel" 84 11 33 (.array .int) := ⟨R_Mod, T_Mod, 82, ty_Mod, ci_Mod, by decide, mem_t 1367 (by decide +kernel) rfl, rfl, rfl, rfl⟩
theorem ff_Mod_87 : FF1 "GatePatchModel" 87 11 34 (.array .int) := ⟨R_Mod, T_Mod, 82, ty_Mod, ci_Mod, by decide, mem_t 1368 (by decide +kernel) rfl, rfl, rfl, rfl⟩
theorem ff_Mod_90 : FF1 "GatePatchModel" 90 11 35 (.array .int) := ⟨R_Mod, T_Mod, 82, ty_Mod, ci_Mod, by decide, mem_t 1369 (by decide +kernel) rfl, rfl, rfl, rfl⟩
theorem ff_Mod_93 : FF1 "GatePatchModel" 93 11 39 (.array .int) := ⟨R_Mod, T_Mod, 82, ty_Mod, ci_Mod, by decide, mem_t 1373 (by decide +kernel) rfl, rfl, rfl, rfl⟩
theorem ff_Mod_96 : FF1 "GatePatchModel" 96 11 40 (.array .int) := ⟨R_Mod, T_Mod, 82, ty_Mod, ci_Mod, by decide, mem_t 1374 (by decide +kernel) rfl, rfl, rfl, rfl⟩
theorem ff_Mod_99 : FF1 "GatePatchModel" 99 11 41 (.array .int) := ⟨R_Mod, T_Mod, 82, ty_Mod, ci_Mod, by decide, mem_t 1375 (by decide +kernel) rfl, rfl, rfl, rfl⟩
theorem ff_Mod_102 : FF1 "GatePatchModel" 102 11 42 (.array .int) := ⟨R_Mod, T_Mod, 82, ty_Mod, ci_Mod, by decide, mem_t 1376 (by decide +kernel) rfl, rfl, rfl, rfl⟩
theorem ff_Mod_105 : FF1 "GatePatchModel" 105 11 43 (.array .int) := ⟨R_Mod, T_Mod, 82, ty_Mod, ci_Mod, by decide, mem_t 1377 (by decide +kernel) rfl, rfl, rfl, rfl⟩
theorem ff_Mod_108 : FF1 "GatePatchModel" 108 11 44 (.array .int) := ⟨R_Mod, T_Mod, 82, ty_Mod, ci_Mod, by decide, mem_t 1378 (by decide +kernel) rfl, rfl, rfl, rfl⟩
theorem ff_Mod_111 : FF1 "GatePatchModel" 111 11 45 (.array .long) := ⟨R_Mod, T_Mod, 82, ty_Mod, ci_Mod, by decide, mem_t 1379 (by decide +kernel) rfl, rfl, rfl, rfl⟩
theorem ff_Mod_115 : FF1 "GatePatchModel" 115 11 46 (.array .int) := ⟨R_Mod, T_Mod, 82, ty_Mod, ci_Mod, by decide, mem_t 1380 (by decide +kernel) rfl, rfl, rfl, rfl⟩
theorem ff_Mod_118 : FF1 "GatePatchModel" 118 11 47 (.array .int) := ⟨R_Mod, T_Mod, 82, ty_Mod, ci_Mod, by decide, mem_t 1381 (by decide +kernel) rfl, rfl, rfl, rfl⟩
theorem ff_Mod_121 : FF1 "GatePatchModel" 121 11 48 (.array .int) := ⟨R_Mod, T_Mod, 82, ty_Mod, ci_Mod, by decide, mem_t 1382 (by decide +kernel) rfl, rfl, rfl, rfl⟩
theorem ff_Mod_124 : FF1 "GatePatchModel" 124 11 49 (.array .int) := ⟨R_Mod, T_Mod, 82, ty_Mod, ci_Mod, by decide, mem_t 1383 (by decide +kernel) rfl, rfl, rfl, rfl⟩
theorem ff_Mod_127 : FF1 "GatePatchModel" 127 11 50 (.array .int) := ⟨R_Mod, T_Mod, 82, ty_Mod, ci_Mod, by decide, mem_t 1384 (by decide +kernel) rfl, rfl, rfl, rfl⟩
theorem ff_Mod_130 : FF1 "GatePatchModel" 130 11 51 (.array .int) := ⟨R_Mod, T_Mod, 82, ty_Mod, ci_Mod, by decide, mem_t 1385 (by decide +kernel) rfl, rfl, rfl, rfl⟩
theorem ff_Mod_133 : FF1 "GatePatchModel" 133 11 52 (.array .int) := ⟨R_Mod, T_Mod, 82, ty_Mod, ci_Mod, by decide, mem_t 1386 (by decide +kernel) rfl, rfl, rfl, rfl⟩
theorem ff_Mod_136 : FF1 "GatePatchModel" 136 11 53 (.array .int) := ⟨R_Mod, T_Mod, 82, ty_Mod, ci_Mod, by decide, mem_t 1387 (by decide +kernel) rfl, rfl, rfl, rfl⟩
theorem ff_Mod_139 : FF1 "GatePatchModel" 139 11 54 (.array .int) := ⟨R_Mod, T_Mod, 82, ty_Mod, ci_Mod, by decide, mem_t 1388 (by decide +kernel) rfl, rfl, rfl, rfl⟩
theorem ff_Mod_142 : FF1 "GatePatchModel" 142 11 55 (.array .int) := ⟨R_Mod, T_Mod, 82, ty_Mod, ci_Mod, by decide, mem_t 1389 (by decide +kernel) rfl, rfl, rfl, rfl⟩
theorem ff_Mod_145 : FF1 "GatePatchModel" 145 11 56 (.array .boolean) := ⟨R_Mod, T_Mod, 82, ty_Mod, ci_Mod, by decide, mem_t 1390 (by decide +kernel) rfl, rfl, rfl, rfl⟩
theorem ff_Mod_148 : FF1 "GatePatchModel" 148 11 58 (.array .boolean) := ⟨R_Mod, T_Mod, 82, ty_Mod, ci_Mod, by decide, mem_t 1392 (by decide +kernel) rfl, rfl, rfl, rfl⟩
theorem ff_Mod_151 : FF1 "GatePatchModel" 151 11 59 (.array .int) := ⟨R_Mod, T_Mod, 82, ty_Mod, ci_Mod, by decide, mem_t 1393 (by decide +kernel) rfl, rfl, rfl, rfl⟩
theorem ff_Mod_154 : FF1 "GatePatchModel" 154 11 60 (.array .boolean) := ⟨R_Mod, T_Mod, 82, ty_Mod, ci_Mod, by decide, mem_t 1394 (by decide +kernel) rfl, rfl, rfl, rfl⟩
theorem ff_Mod_157 : FF1 "GatePatchModel" 157 11 61 (.array .long) := ⟨R_Mod, T_Mod, 82, ty_Mod, ci_Mod, by decide, mem_t 1395 (by decide +kernel) rfl, rfl, rfl, rfl⟩
theorem ff_Mod_160 : FF1 "GatePatchModel" 160 11 62 (.array .int) := ⟨R_Mod, T_Mod, 82, ty_Mod, ci_Mod, by decide, mem_t 1396 (by decide +kernel) rfl, rfl, rfl, rfl⟩
theorem ff_Mod_163 : FF1 "GatePatchModel" 163 11 65 (.array .long) := ⟨R_Mod, T_Mod, 82, ty_Mod, ci_Mod, by decide, mem_t 1399 (by decide +kernel) rfl, rfl, rfl, rfl⟩
theorem ff_Mod_166 : FF1 "GatePatchModel" 166 11 66 (.array .int) := ⟨R_Mod, T_Mod, 82, ty_Mod, ci_Mod, by decide, mem_t 1400 (by decide +kernel) rfl, rfl, rfl, rfl⟩
theorem ff_Mod_169 : FF1 "GatePatchModel" 169 11 67 (.array .boolean) := ⟨R_Mod, T_Mod, 82, ty_Mod, ci_Mod, by decide, mem_t 1401 (by decide +kernel) rfl, rfl, rfl, rfl⟩
theorem ff_Mod_172 : FF1 "GatePatchModel" 172 11 68 (.array .int) := ⟨R_Mod, T_Mod, 82, ty_Mod, ci_Mod, by decide, mem_t 1402 (by decide +kernel) rfl, rfl, rfl, rfl⟩
theorem ff_Mod_175 : FF1 "GatePatchModel" 175 11 69 (.array .int) := ⟨R_Mod, T_Mod, 82, ty_Mod, ci_Mod, by decide, mem_t 1403 (by decide +kernel) rfl, rfl, rfl, rfl⟩
theorem ff_Mod_178 : FF1 "GatePatchModel" 178 11 70 (.array .int) := ⟨R_Mod, T_Mod, 82, ty_Mod, ci_Mod, by decide, mem_t 1404 (by decide +kernel) rfl, rfl, rfl, rfl⟩
theorem ff_Mod_181 : FF1 "GatePatchModel" 181 11 75 (.array .int) := ⟨R_Mod, T_Mod, 82, ty_Mod, ci_Mod, by decide, mem_t 1409 (by decide +kernel) rfl, rfl, rfl, rfl⟩
theorem ff_Mod_184 : FF1 "GatePatchModel" 184 11 76 (.array .int) := ⟨R_Mod, T_Mod, 82, ty_Mod, ci_Mod, by decide, mem_t 1410 (by decide +kernel) rfl, rfl, rfl, rfl⟩
theorem ff_Mod_187 : FF1 "GatePatchModel" 187 11 77 (.array .int) := ⟨R_Mod, T_Mod, 82, ty_Mod, ci_Mod, by decide, mem_t 1411 (by decide +kernel) rfl, rfl, rfl, rfl⟩
theorem ff_Mod_190 : FF1 "GatePatchModel" 190 11 78 (.array .int) := ⟨R_Mod, T_Mod, 82, ty_Mod, ci_Mod, by decide, mem_t 1412 (by decide +kernel) rfl, rfl, rfl, rfl⟩
theorem ff_Mod_193 : FF1 "GatePatchModel" 193 11 79 (.array .int) := ⟨R_Mod, T_Mod, 82, ty_Mod, ci_Mod, by decide, mem_t 1413 (by decide +kernel) rfl, rfl, rfl, rfl⟩
theorem ff_Mod_196 : FF1 "GatePatchModel" 196 11 80 (.array .int) := ⟨R_Mod, T_Mod, 82, ty_Mod, ci_Mod, by decide, mem_t 1414 (by decide +kernel) rfl, rfl, rfl, rfl⟩
theorem ff_Mod_199 : FF1 "GatePatchModel" 199 11 81 (.array .long) := ⟨R_Mod, T_Mod, 82, ty_Mod, ci_Mod, by decide, mem_t 1415 (by decide +kernel) rfl, rfl, rfl, rfl⟩
theorem dX12_init_0 : decode cX12_init_c 0 = .ok (.aload_n 0, 1) := by decide +kernel
theorem dX12_init_1 : decode cX12_init_c 1 = .ok (.invokespecial 1, 3) := by decide +kernel
theorem dX12_init_4 : decode cX12_init_c 4 = .ok (.aload_n 0, 1) := by decide +kernel
theorem dX12_init_5 : decode cX12_init_c 5 = .ok (.iconst 3, 1) := by decide +kernel
theorem dX12_init_6 : decode cX12_init_c 6 = .ok (.putfield 7, 3) := by decide +kernel
theorem dX12_init_9 : decode cX12_init_c 9 = .ok (.aload_n 0, 1) := by decide +kernel
theorem dX12_init_10 : decode cX12_init_c 10 = .ok (.iconst 1, 1) := by decide +kernel
theorem dX12_init_11 : decode cX12_init_c 11 = .ok (.putfield 13, 3) := by decide +kernel
theorem dX12_init_14 : decode cX12_init_c 14 = .ok (.aload_n 0, 1) := by decide +kernel
theorem dX12_init_15 : decode cX12_init_c 15 = .ok (.iconst 2, 1) := by decide +kernel
theorem dX12_init_16 : decode cX12_init_c 16 = .ok (.newarray .int, 2) := by decide +kernel
theorem dX12_init_18 : decode cX12_init_c 18 = .ok (.putfield 16, 3) := by decide +kernel
theorem dX12_init_21 : decode cX12_init_c 21 = .ok (.aload_n 0, 1) := by decide +kernel
theorem dX12_init_22 : decode cX12_init_c 22 = .ok (.bipush 96, 2) := by decide +kernel
theorem dX12_init_24 : decode cX12_init_c 24 = .ok (.newarray .int, 2) := by decide +kernel
theorem dX12_init_26 : decode cX12_init_c 26 = .ok (.putfield 20, 3) := by decide +kernel
theorem dX12_init_29 : decode cX12_init_c 29 = .ok (.aload_n 0, 1) := by decide +kernel
theorem dX12_init_30 : decode cX12_init_c 30 = .ok (.sipush 288, 3) := by decide +kernel
theorem dX12_init_33 : decode cX12_init_c 33 = .ok (.newarray .int, 2) := by decide +kernel
theorem dX12_init_35 : decode cX12_init_c 35 = .ok (.putfield 23, 3) := by decide +kernel
theorem dX12_init_38 : decode cX12_init_c 38 = .ok (.aload_n 0, 1) := by decide +kernel
theorem dX12_init_39 : decode cX12_init_c 39 = .ok (.bipush 8, 2) := by decide +kernel
theorem dX12_init_41 : decode cX12_init_c 41 = .ok (.newarray .int, 2) := by decide +kernel
theorem dX12_init_43 : decode cX12_init_c 43 = .ok (.putfield 26, 3) := by decide +kernel
theorem dX12_init_46 : decode cX12_init_c 46 = .ok (.aload_n 0, 1) := by decide +kernel
theorem dX12_init_47 : decode cX12_init_c 47 = .ok (.iconst 4, 1) := by decide +kernel
theorem dX12_init_48 : decode cX12_init_c 48 = .ok (.newarray .int, 2) := by decide +kernel
theorem dX12_init_50 : decode cX12_init_c 50 = .ok (.putfield 29, 3) := by decide +kernel
theorem dX12_init_53 : decode cX12_init_c 53 = .ok (.aload_n 0, 1) := by decide +kernel
theorem dX12_init_54 : decode cX12_init_c 54 = .ok (.sipush 256, 3) := by decide +kernel
theorem dX12_init_57 : decode cX12_init_c 57 = .ok (.newarray .boolean, 2) := by decide +kernel
theorem dX12_init_59 : decode cX12_init_c 59 = .ok (.putfield 32, 3) := by decide +kernel
theorem dX12_init_62 : decode cX12_init_c 62 = .ok (.aload_n 0, 1) := by decide +kernel
theorem dX12_init_63 : decode cX12_init_c 63 = .ok (.bipush 48, 2) := by decide +kernel
theorem dX12_init_65 : decode cX12_init_c 65 = .ok (.newarray .int, 2) := by decide +kernel
theorem dX12_init_67 : decode cX12_init_c 67 = .ok (.putfield 36, 3) := by decide +kernel
theorem dX12_init_70 : decode cX12_init_c 70 = .ok (.aload_n 0, 1) := by decide +kernel
theorem dX12_init_71 : decode cX12_init_c 71 = .ok (.bipush 48, 2) := by decide +kernel
theorem dX12_init_73 : decode cX12_init_c 73 = .ok (.newarray .int, 2) := by decide +kernel
theorem dX12_init_75 : decode cX12_init_c 75 = .ok (.putfield 39, 3) := by decide +kernel
theorem dX12_init_78 : decode cX12_init_c 78 = .ok (.aload_n 0, 1) := by decide +kernel
theorem dX12_init_79 : decode cX12_init_c 79 = .ok (.bipush 12, 2) := by decide +kernel
theorem dX12_init_81 : decode cX12_init_c 81 = .ok (.newarray .int, 2) := by decide +kernel
theorem dX12_init_83 : decode cX12_init_c 83 = .ok (.putfield 42, 3) := by decide +kernel
theorem dX12_init_86 : decode cX12_init_c 86 = .ok (.aload_n 0, 1) := by decide +kernel
theorem dX12_init_87 : decode cX12_init_c 87 = .ok (.bipush 12, 2) := by decide +kernel
theorem dX12_init_89 : decode cX12_init_c 89 = .ok (.newarray .int, 2) := by decide +kernel
theorem dX12_init_91 : decode cX12_init_c 91 = .ok (.putfield 45, 3) := by decide +kernel
theorem dX12_init_94 : decode cX12_init_c 94 = .ok (.aload_n 0, 1) := by decide +kernel
theorem dX12_init_95 : decode cX12_init_c 95 = .ok (.bipush 12, 2) := by decide +kernel
theorem dX12_init_97 : decode cX12_init_c 97 = .ok (.newarray .int, 2) := by decide +kernel
theorem dX12_init_99 : decode cX12_init_c 99 = .ok (.putfield 48, 3) := by decide +kernel
theorem dX12_init_102 : decode cX12_init_c 102 = .ok (.aload_n 0, 1) := by decide +kernel
theorem dX12_init_103 : decode cX12_init_c 103 = .ok (.bipush 12, 2) := by decide +kernel
theorem dX12_init_105 : decode cX12_init_c 105 = .ok (.newarray .boolean, 2) := by decide +kernel
theorem dX12_init_107 : decode cX12_init_c 107 = .ok (.putfield 51, 3) := by decide +kernel
theorem dX12_init_110 : decode cX12_init_c 110 = .ok (.aload_n 0, 1) := by decide +kernel
theorem dX12_init_111 : decode cX12_init_c 111 = .ok (.bipush 9, 2) := by decide +kernel
theorem dX12_init_113 : decode cX12_init_c 113 = .ok (.newarray .int, 2) := by decide +kernel
theorem dX12_init_115 : decode cX12_init_c 115 = .ok (.dup, 1) := by decide +kernel
theorem dX12_init_116 : decode cX12_init_c 116 = .ok (.iconst 0, 1) := by decide +kernel
theorem dX12_init_117 : decode cX12_init_c 117 = .ok (.iconst 1, 1) := by decide +kernel
theorem dX12_init_118 : decode cX12_init_c 118 = .ok (.iastore, 1) := by decide +kernel
theorem dX12_init_119 : decode cX12_init_c 119 = .ok (.dup, 1) := by decide +kernel
theorem dX12_init_120 : decode cX12_init_c 120 = .ok (.iconst 1, 1) := by decide +kernel
theorem dX12_init_121 : decode cX12_init_c 121 = .ok (.iconst 1, 1) := by decide +kernel
theorem dX12_init_122 : decode cX12_init_c 122 = .ok (.iastore, 1) := by decide +kernel
theorem dX12_init_123 : decode cX12_init_c 123 = .ok (.dup, 1) := by decide +kernel
theorem dX12_init_124 : decode cX12_init_c 124 = .ok (.iconst 2, 1) := by decide +kernel
theorem dX12_init_125 : decode cX12_init_c 125 = .ok (.iconst 1, 1) := by decide +kernel
theorem dX12_init_126 : decode cX12_init_c 126 = .ok (.iastore, 1) := by decide +kernel
theorem dX12_init_127 : decode cX12_init_c 127 = .ok (.dup, 1) := by decide +kernel
theorem dX12_init_128 : decode cX12_init_c 128 = .ok (.iconst 3, 1) := by decide +kernel
theorem dX12_init_129 : decode cX12_init_c 129 = .ok (.iconst 1, 1) := by decide +kernel
theorem dX12_init_130 : decode cX12_init_c 130 = .ok (.iastore, 1) := by decide +kernel
theorem dX12_init_131 : decode cX12_init_c 131 = .ok (.dup, 1) := by decide +kernel
theorem dX12_init_132 : decode cX12_init_c 132 = .ok (.iconst 4, 1) := by decide +kernel
theorem dX12_init_133 : decode cX12_init_c 133 = .ok (.iconst 1, 1) := by decide +kernel
theorem dX12_init_134 : decode cX12_init_c 134 = .ok (.iastore, 1) := by decide +kernel
theorem dX12_init_135 : decode cX12_init_c 135 = .ok (.dup, 1) := by decide +kernel
theorem dX12_init_136 : decode cX12_init_c 136 = .ok (.iconst 5, 1) := by decide +kernel
theorem dX12_init_137 : decode cX12_init_c 137 = .ok (.iconst 1, 1) := by decide +kernel
theorem dX12_init_138 : decode cX12_init_c 138 = .ok (.iastore, 1) := by decide +kernel
theorem dX12_init_139 : decode cX12_init_c 139 = .ok (.dup, 1) := by decide +kernel
theorem dX12_init_140 : decode cX12_init_c 140 = .ok (.bipush 6, 2) := by decide +kernel
theorem dX12_init_142 : decode cX12_init_c 142 = .ok (.iconst 1, 1) := by decide +kernel
theorem dX12_init_143 : decode cX12_init_c 143 = .ok (.iastore, 1) := by decide +kernel
theorem dX12_init_144 : decode cX12_init_c 144 = .ok (.dup, 1) := by decide +kernel
theorem dX12_init_145 : decode cX12_init_c 145 = .ok (.bipush 7, 2) := by decide +kernel
theorem dX12_init_147 : decode cX12_init_c 147 = .ok (.iconst 1, 1) := by decide +kernel
theorem dX12_init_148 : decode cX12_init_c 148 = .ok (.iastore, 1) := by decide +kernel
theorem dX12_init_149 : decode cX12_init_c 149 = .ok (.dup, 1) := by decide +kernel
theorem dX12_init_150 : decode cX12_init_c 150 = .ok (.bipush 8, 2) := by decide +kernel
theorem dX12_init_152 : decode cX12_init_c 152 = .ok (.iconst 1, 1) := by decide +kernel
theorem dX12_init_153 : decode cX12_init_c 153 = .ok (.iastore, 1) := by decide +kernel
theorem dX12_init_154 : decode cX12_init_c 154 = .ok (.putfield 54, 3) := by decide +kernel
theorem dX12_init_157 : decode cX12_init_c 157 = .ok (.aload_n 0, 1) := by decide +kernel
theorem dX12_init_158 : decode cX12_init_c 158 = .ok (.bipush 48, 2) := by decide +kernel
theorem dX12_init_160 : decode cX12_init_c 160 = .ok (.newarray .int, 2) := by decide +kernel
theorem dX12_init_162 : decode cX12_init_c 162 = .ok (.putfield 57, 3) := by decide +kernel
theorem dX12_init_165 : decode cX12_init_c 165 = .ok (.aload_n 0, 1) := by decide +kernel
theorem dX12_init_166 : decode cX12_init_c 166 = .ok (.iconst 3, 1) := by decide +kernel
theorem dX12_init_167 : decode cX12_init_c 167 = .ok (.newarray .int, 2) := by decide +kernel
theorem dX12_init_169 : decode cX12_init_c 169 = .ok (.putfield 60, 3) := by decide +kernel
theorem dX12_init_172 : decode cX12_init_c 172 = .ok (.aload_n 0, 1) := by decide +kernel
theorem dX12_init_173 : decode cX12_init_c 173 = .ok (.iconst (-1), 1) := by decide +kernel
theorem dX12_init_174 : decode cX12_init_c 174 = .ok (.putfield 63, 3) := by decide +kernel
theorem dX12_init_177 : decode cX12_init_c 177 = .ok (.aload_n 0, 1) := by decide +kernel
theorem dX12_init_178 : decode cX12_init_c 178 = .ok (.iconst (-1), 1) := by decide +kernel
theorem dX12_init_179 : decode cX12_init_c 179 = .ok (.putfield 66, 3) := by decide +kernel
theorem dX12_init_182 : decode cX12_init_c 182 = .ok (.aload_n 0, 1) := by decide +kernel
theorem dX12_init_183 : decode cX12_init_c 183 = .ok (.iconst 2, 1) := by decide +kernel
theorem dX12_init_184 : decode cX12_init_c 184 = .ok (.newarray .int, 2) := by decide +kernel
theorem dX12_init_186 : decode cX12_init_c 186 = .ok (.putfield 69, 3) := by decide +kernel
theorem dX12_init_189 : decode cX12_init_c 189 = .ok (.aload_n 0, 1) := by decide +kernel
theorem dX12_init_190 : decode cX12_init_c 190 = .ok (.iconst 3, 1) := by decide +kernel
theorem dX12_init_191 : decode cX12_init_c 191 = .ok (.newarray .int, 2) := by decide +kernel
theorem dX12_init_193 : decode cX12_init_c 193 = .ok (.putfield 72, 3) := by decide +kernel
theorem dX12_init_196 : decode cX12_init_c 196 = .ok (.aload_n 0, 1) := by decide +kernel
theorem dX12_init_197 : decode cX12_init_c 197 = .ok (.iconst 2, 1) := by decide +kernel
theorem dX12_init_198 : decode cX12_init_c 198 = .ok (.newarray .int, 2) := by decide +kernel
theorem dX12_init_200 : decode cX12_init_c 200 = .ok (.putfield 75, 3) := by decide +kernel
theorem dX12_init_203 : decode cX12_init_c 203 = .ok (.aload_n 0, 1) := by decide +kernel
theorem dX12_init_204 : decode cX12_init_c 204 = .ok (.bipush 24, 2) := by decide +kernel
theorem dX12_init_206 : decode cX12_init_c 206 = .ok (.newarray .int, 2) := by decide +kernel
theorem dX12_init_208 : decode cX12_init_c 208 = .ok (.putfield 78, 3) := by decide +kernel
theorem dX12_init_211 : decode cX12_init_c 211 = .ok (.aload_n 0, 1) := by decide +kernel
theorem dX12_init_212 : decode cX12_init_c 212 = .ok (.bipush 24, 2) := by decide +kernel
theorem dX12_init_214 : decode cX12_init_c 214 = .ok (.newarray .int, 2) := by decide +kernel
theorem dX12_init_216 : decode cX12_init_c 216 = .ok (.putfield 81, 3) := by decide +kernel
theorem dX12_init_219 : decode cX12_init_c 219 = .ok (.aload_n 0, 1) := by decide +kernel
theorem dX12_init_220 : decode cX12_init_c 220 = .ok (.bipush 24, 2) := by decide +kernel
theorem dX12_init_222 : decode cX12_init_c 222 = .ok (.newarray .int, 2) := by decide +kernel
theorem dX12_init_224 : decode cX12_init_c 224 = .ok (.putfield 84, 3) := by decide +kernel
theorem dX12_init_227 : decode cX12_init_c 227 = .ok (.aload_n 0, 1) := by decide +kernel
theorem dX12_init_228 : decode cX12_init_c 228 = .ok (.bipush 24, 2) := by decide +kernel
theorem dX12_init_230 : decode cX12_init_c 230 = .ok (.newarray .int, 2) := by decide +kernel
theorem dX12_init_232 : decode cX12_init_c 232 = .ok (.putfield 87, 3) := by decide +kernel
theorem dX12_init_235 : decode cX12_init_c 235 = .ok (.aload_n 0, 1) := by decide +kernel
theorem dX12_init_236 : decode cX12_init_c 236 = .ok (.bipush 24, 2) := by decide +kernel
theorem dX12_init_238 : decode cX12_init_c 238 = .ok (.newarray .int, 2) := by decide +kernel
theorem dX12_init_240 : decode cX12_init_c 240 = .ok (.putfield 90, 3) := by decide +kernel
theorem dX12_init_243 : decode cX12_init_c 243 = .ok (.aload_n 0, 1) := by decide +kernel
theorem dX12_init_244 : decode cX12_init_c 244 = .ok (.sipush 200, 3) := by decide +kernel
theorem dX12_init_247 : decode cX12_init_c 247 = .ok (.newarray .int, 2) := by decide +kernel
theorem dX12_init_249 : decode cX12_init_c 249 = .ok (.putfield 93, 3) := by decide +kernel
theorem dX12_init_252 : decode cX12_init_c 252 = .ok (.aload_n 0, 1) := by decide +kernel
theorem dX12_init_253 : decode cX12_init_c 253 = .ok (.sipush 200, 3) := by decide +kernel
theorem dX12_init_256 : decode cX12_init_c 256 = .ok (.newarray .int, 2) := by decide +kernel
theorem dX12_init_258 : decode cX12_init_c 258 = .ok (.putfield 96, 3) := by decide +kernel
theorem dX12_init_261 : decode cX12_init_c 261 = .ok (.aload_n 0, 1) := by decide +kernel
theorem dX12_init_262 : decode cX12_init_c 262 = .ok (.sipush 200, 3) := by decide +kernel
theorem dX12_init_265 : decode cX12_init_c 265 = .ok (.newarray .int, 2) := by decide +kernel
theorem dX12_init_267 : decode cX12_init_c 267 = .ok (.putfield 99, 3) := by decide +kernel
theorem dX12_init_270 : decode cX12_init_c 270 = .ok (.aload_n 0, 1) := by decide +kernel
theorem dX12_init_271 : decode cX12_init_c 271 = .ok (.sipush 256, 3) := by decide +kernel
theorem dX12_init_274 : decode cX12_init_c 274 = .ok (.newarray .int, 2) := by decide +kernel
theorem dX12_init_276 : decode cX12_init_c 276 = .ok (.putfield 102, 3) := by decide +kernel
theorem dX12_init_279 : decode cX12_init_c 279 = .ok (.aload_n 0, 1) := by decide +kernel
theorem dX12_init_280 : decode cX12_init_c 280 = .ok (.bipush 6, 2) := by decide +kernel
theorem dX12_init_282 : decode cX12_init_c 282 = .ok (.newarray .int, 2) := by decide +kernel
theorem dX12_init_284 : decode cX12_init_c 284 = .ok (.putfield 105, 3) := by decide +kernel
theorem dX12_init_287 : decode cX12_init_c 287 = .ok (.aload_n 0, 1) := by decide +kernel
theorem dX12_init_288 : decode cX12_init_c 288 = .ok (.bipush 6, 2) := by decide +kernel
theorem dX12_init_290 : decode cX12_init_c 290 = .ok (.newarray .int, 2) := by decide +kernel
theorem dX12_init_292 : decode cX12_init_c 292 = .ok (.putfield 108, 3) := by decide +kernel
theorem dX12_init_295 : decode cX12_init_c 295 = .ok (.aload_n 0, 1) := by decide +kernel
theorem dX12_init_296 : decode cX12_init_c 296 = .ok (.sipush 1536, 3) := by decide +kernel
theorem dX12_init_299 : decode cX12_init_c 299 = .ok (.newarray .long, 2) := by decide +kernel
theorem dX12_init_301 : decode cX12_init_c 301 = .ok (.putfield 111, 3) := by decide +kernel
theorem dX12_init_304 : decode cX12_init_c 304 = .ok (.aload_n 0, 1) := by decide +kernel
theorem dX12_init_305 : decode cX12_init_c 305 = .ok (.bipush 10, 2) := by decide +kernel
theorem dX12_init_307 : decode cX12_init_c 307 = .ok (.newarray .int, 2) := by decide +kernel
theorem dX12_init_309 : decode cX12_init_c 309 = .ok (.putfield 115, 3) := by decide +kernel
theorem dX12_init_312 : decode cX12_init_c 312 = .ok (.aload_n 0, 1) := by decide +kernel
theorem dX12_init_313 : decode cX12_init_c 313 = .ok (.bipush 10, 2) := by decide +kernel
theorem dX12_init_315 : decode cX12_init_c 315 = .ok (.newarray .int, 2) := by decide +kernel
theorem dX12_init_317 : decode cX12_init_c 317 = .ok (.putfield 118, 3) := by decide +kernel
theorem dX12_init_320 : decode cX12_init_c 320 = .ok (.aload_n 0, 1) := by decide +kernel
theorem dX12_init_321 : decode cX12_init_c 321 = .ok (.bipush 10, 2) := by decide +kernel
theorem dX12_init_323 : decode cX12_init_c 323 = .ok (.newarray .int, 2) := by decide +kernel
theorem dX12_init_325 : decode cX12_init_c 325 = .ok (.putfield 121, 3) := by decide +kernel
theorem dX12_init_328 : decode cX12_init_c 328 = .ok (.aload_n 0, 1) := by decide +kernel
theorem dX12_init_329 : decode cX12_init_c 329 = .ok (.bipush 10, 2) := by decide +kernel
theorem dX12_init_331 : decode cX12_init_c 331 = .ok (.newarray .int, 2) := by decide +kernel
theorem dX12_init_333 : decode cX12_init_c 333 = .ok (.putfield 124, 3) := by decide +kernel
theorem dX12_init_336 : decode cX12_init_c 336 = .ok (.aload_n 0, 1) := by decide +kernel
theorem dX12_init_337 : decode cX12_init_c 337 = .ok (.sipush 480, 3) := by decide +kernel
theorem dX12_init_340 : decode cX12_init_c 340 = .ok (.newarray .int, 2) := by decide +kernel
theorem dX12_init_342 : decode cX12_init_c 342 = .ok (.putfield 127, 3) := by decide +kernel
theorem dX12_init_345 : decode cX12_init_c 345 = .ok (.aload_n 0, 1) := by decide +kernel
theorem dX12_init_346 : decode cX12_init_c 346 = .ok (.sipush 1440, 3) := by decide +kernel
theorem dX12_init_349 : decode cX12_init_c 349 = .ok (.newarray .int, 2) := by decide +kernel
theorem dX12_init_351 : decode cX12_init_c 351 = .ok (.putfield 130, 3) := by decide +kernel
theorem dX12_init_354 : decode cX12_init_c 354 = .ok (.aload_n 0, 1) := by decide +kernel
theorem dX12_init_355 : decode cX12_init_c 355 = .ok (.bipush 40, 2) := by decide +kernel
theorem dX12_init_357 : decode cX12_init_c 357 = .ok (.newarray .int, 2) := by decide +kernel
theorem dX12_init_359 : decode cX12_init_c 359 = .ok (.putfield 133, 3) := by decide +kernel
theorem dX12_init_362 : decode cX12_init_c 362 = .ok (.aload_n 0, 1) := by decide +kernel
theorem dX12_init_363 : decode cX12_init_c 363 = .ok (.bipush 20, 2) := by decide +kernel
theorem dX12_init_365 : decode cX12_init_c 365 = .ok (.newarray .int, 2) := by decide +kernel
theorem dX12_init_367 : decode cX12_init_c 367 = .ok (.putfield 136, 3) := by decide +kernel
theorem dX12_init_370 : decode cX12_init_c 370 = .ok (.aload_n 0, 1) := by decide +kernel
theorem dX12_init_371 : decode cX12_init_c 371 = .ok (.sipush 480, 3) := by decide +kernel
theorem dX12_init_374 : decode cX12_init_c 374 = .ok (.newarray .int, 2) := by decide +kernel
theorem dX12_init_376 : decode cX12_init_c 376 = .ok (.putfield 139, 3) := by decide +kernel
theorem dX12_init_379 : decode cX12_init_c 379 = .ok (.aload_n 0, 1) := by decide +kernel
theorem dX12_init_380 : decode cX12_init_c 380 = .ok (.sipush 480, 3) := by decide +kernel
theorem dX12_init_383 : decode cX12_init_c 383 = .ok (.newarray .int, 2) := by decide +kernel
theorem dX12_init_385 : decode cX12_init_c 385 = .ok (.putfield 142, 3) := by decide +kernel
theorem dX12_init_388 : decode cX12_init_c 388 = .ok (.aload_n 0, 1) := by decide +kernel
theorem dX12_init_389 : decode cX12_init_c 389 = .ok (.bipush 120, 2) := by decide +kernel
theorem dX12_init_391 : decode cX12_init_c 391 = .ok (.newarray .boolean, 2) := by decide +kernel
theorem dX12_init_393 : decode cX12_init_c 393 = .ok (.putfield 145, 3) := by decide +kernel
theorem dX12_init_396 : decode cX12_init_c 396 = .ok (.aload_n 0, 1) := by decide +kernel
theorem dX12_init_397 : decode cX12_init_c 397 = .ok (.bipush 48, 2) := by decide +kernel
theorem dX12_init_399 : decode cX12_init_c 399 = .ok (.newarray .boolean, 2) := by decide +kernel
theorem dX12_init_401 : decode cX12_init_c 401 = .ok (.putfield 148, 3) := by decide +kernel
theorem dX12_init_404 : decode cX12_init_c 404 = .ok (.aload_n 0, 1) := by decide +kernel
theorem dX12_init_405 : decode cX12_init_c 405 = .ok (.bipush 80, 2) := by decide +kernel
theorem dX12_init_407 : decode cX12_init_c 407 = .ok (.newarray .int, 2) := by decide +kernel
theorem dX12_init_409 : decode cX12_init_c 409 = .ok (.putfield 151, 3) := by decide +kernel
theorem dX12_init_412 : decode cX12_init_c 412 = .ok (.aload_n 0, 1) := by decide +kernel
theorem dX12_init_413 : decode cX12_init_c 413 = .ok (.bipush 48, 2) := by decide +kernel
theorem dX12_init_415 : decode cX12_init_c 415 = .ok (.newarray .boolean, 2) := by decide +kernel
theorem dX12_init_417 : decode cX12_init_c 417 = .ok (.putfield 154, 3) := by decide +kernel
theorem dX12_init_420 : decode cX12_init_c 420 = .ok (.aload_n 0, 1) := by decide +kernel
theorem dX12_init_421 : decode cX12_init_c 421 = .ok (.sipush 384, 3) := by decide +kernel
theorem dX12_init_424 : decode cX12_init_c 424 = .ok (.newarray .long, 2) := by decide +kernel
theorem dX12_init_426 : decode cX12_init_c 426 = .ok (.putfield 157, 3) := by decide +kernel
theorem dX12_init_429 : decode cX12_init_c 429 = .ok (.aload_n 0, 1) := by decide +kernel
theorem dX12_init_430 : decode cX12_init_c 430 = .ok (.iconst 3, 1) := by decide +kernel
theorem dX12_init_431 : decode cX12_init_c 431 = .ok (.newarray .int, 2) := by decide +kernel
theorem dX12_init_433 : decode cX12_init_c 433 = .ok (.putfield 160, 3) := by decide +kernel
theorem dX12_init_436 : decode cX12_init_c 436 = .ok (.aload_n 0, 1) := by decide +kernel
theorem dX12_init_437 : decode cX12_init_c 437 = .ok (.bipush 32, 2) := by decide +kernel
theorem dX12_init_439 : decode cX12_init_c 439 = .ok (.newarray .long, 2) := by decide +kernel
theorem dX12_init_441 : decode cX12_init_c 441 = .ok (.putfield 163, 3) := by decide +kernel
theorem dX12_init_444 : decode cX12_init_c 444 = .ok (.aload_n 0, 1) := by decide +kernel
theorem dX12_init_445 : decode cX12_init_c 445 = .ok (.sipush 256, 3) := by decide +kernel
theorem dX12_init_448 : decode cX12_init_c 448 = .ok (.newarray .int, 2) := by decide +kernel
theorem dX12_init_450 : decode cX12_init_c 450 = .ok (.putfield 166, 3) := by decide +kernel
theorem dX12_init_453 : decode cX12_init_c 453 = .ok (.aload_n 0, 1) := by decide +kernel
theorem dX12_init_454 : decode cX12_init_c 454 = .ok (.iconst 4, 1) := by decide +kernel
theorem dX12_init_455 : decode cX12_init_c 455 = .ok (.newarray .boolean, 2) := by decide +kernel
theorem dX12_init_457 : decode cX12_init_c 457 = .ok (.putfield 169, 3) := by decide +kernel
theorem dX12_init_460 : decode cX12_init_c 460 = .ok (.aload_n 0, 1) := by decide +kernel
theorem dX12_init_461 : decode cX12_init_c 461 = .ok (.sipush 1024, 3) := by decide +kernel
theorem dX12_init_464 : decode cX12_init_c 464 = .ok (.newarray .int, 2) := by decide +kernel
theorem dX12_init_466 : decode cX12_init_c 466 = .ok (.putfield 172, 3) := by decide +kernel
theorem dX12_init_469 : decode cX12_init_c 469 = .ok (.aload_n 0, 1) := by decide +kernel
theorem dX12_init_470 : decode cX12_init_c 470 = .ok (.bipush 8, 2) := by decide +kernel
theorem dX12_init_472 : decode cX12_init_c 472 = .ok (.newarray .int, 2) := by decide +kernel
theorem dX12_init_474 : decode cX12_init_c 474 = .ok (.putfield 175, 3) := by decide +kernel
theorem dX12_init_477 : decode cX12_init_c 477 = .ok (.aload_n 0, 1) := by decide +kernel
theorem dX12_init_478 : decode cX12_init_c 478 = .ok (.iconst 3, 1) := by decide +kernel
theorem dX12_init_479 : decode cX12_init_c 479 = .ok (.newarray .int, 2) := by decide +kernel
theorem dX12_init_481 : decode cX12_init_c 481 = .ok (.putfield 178, 3) := by decide +kernel
theorem dX12_init_484 : decode cX12_init_c 484 = .ok (.aload_n 0, 1) := by decide +kernel
theorem dX12_init_485 : decode cX12_init_c 485 = .ok (.iconst 3, 1) := by decide +kernel
theorem dX12_init_486 : decode cX12_init_c 486 = .ok (.newarray .int, 2) := by decide +kernel
theorem dX12_init_488 : decode cX12_init_c 488 = .ok (.putfield 181, 3) := by decide +kernel
theorem dX12_init_491 : decode cX12_init_c 491 = .ok (.aload_n 0, 1) := by decide +kernel
theorem dX12_init_492 : decode cX12_init_c 492 = .ok (.bipush 10, 2) := by decide +kernel
theorem dX12_init_494 : decode cX12_init_c 494 = .ok (.newarray .int, 2) := by decide +kernel
theorem dX12_init_496 : decode cX12_init_c 496 = .ok (.putfield 184, 3) := by decide +kernel
theorem dX12_init_499 : decode cX12_init_c 499 = .ok (.aload_n 0, 1) := by decide +kernel
theorem dX12_init_500 : decode cX12_init_c 500 = .ok (.sipush 4096, 3) := by decide +kernel
theorem dX12_init_503 : decode cX12_init_c 503 = .ok (.newarray .int, 2) := by decide +kernel
theorem dX12_init_505 : decode cX12_init_c 505 = .ok (.putfield 187, 3) := by decide +kernel
theorem dX12_init_508 : decode cX12_init_c 508 = .ok (.aload_n 0, 1) := by decide +kernel
theorem dX12_init_509 : decode cX12_init_c 509 = .ok (.bipush 48, 2) := by decide +kernel
theorem dX12_init_511 : decode cX12_init_c 511 = .ok (.newarray .int, 2) := by decide +kernel
theorem dX12_init_513 : decode cX12_init_c 513 = .ok (.putfield 190, 3) := by decide +kernel
theorem dX12_init_516 : decode cX12_init_c 516 = .ok (.aload_n 0, 1) := by decide +kernel
theorem dX12_init_517 : decode cX12_init_c 517 = .ok (.bipush 24, 2) := by decide +kernel
theorem dX12_init_519 : decode cX12_init_c 519 = .ok (.newarray .int, 2) := by decide +kernel
theorem dX12_init_521 : decode cX12_init_c 521 = .ok (.putfield 193, 3) := by decide +kernel
theorem dX12_init_524 : decode cX12_init_c 524 = .ok (.aload_n 0, 1) := by decide +kernel
theorem dX12_init_525 : decode cX12_init_c 525 = .ok (.sipush 256, 3) := by decide +kernel
theorem dX12_init_528 : decode cX12_init_c 528 = .ok (.newarray .int, 2) := by decide +kernel
theorem dX12_init_530 : decode cX12_init_c 530 = .ok (.putfield 196, 3) := by decide +kernel
theorem dX12_init_533 : decode cX12_init_c 533 = .ok (.aload_n 0, 1) := by decide +kernel
theorem dX12_init_534 : decode cX12_init_c 534 = .ok (.sipush 256, 3) := by decide +kernel
theorem dX12_init_537 : decode cX12_init_c 537 = .ok (.newarray .long, 2) := by decide +kernel
theorem dX12_init_539 : decode cX12_init_c 539 = .ok (.putfield 199, 3) := by decide +kernel
theorem dX12_init_542 : decode cX12_init_c 542 = .ok (.iconst 0, 1) := by decide +kernel
theorem dX12_init_543 : decode cX12_init_c 543 = .ok (.istore_n 1, 1) := by decide +kernel
theorem dX12_init_544 : decode cX12_init_c 544 = .ok (.iload_n 1, 1) := by decide +kernel
theorem dX12_init_545 : decode cX12_init_c 545 = .ok (.bipush 48, 2) := by decide +kernel
theorem dX12_init_547 : decode cX12_init_c 547 = .ok (.if_icmp .ge 16, 3) := by decide +kernel
theorem dX12_init_550 : decode cX12_init_c 550 = .ok (.aload_n 0, 1) := by decide +kernel
theorem dX12_init_551 : decode cX12_init_c 551 = .ok (.getfield 57, 3) := by decide +kernel
theorem dX12_init_554 : decode cX12_init_c 554 = .ok (.iload_n 1, 1) := by decide +kernel
theorem dX12_init_555 : decode cX12_init_c 555 = .ok (.iconst (-1), 1) := by decide +kernel
theorem dX12_init_556 : decode cX12_init_c 556 = .ok (.iastore, 1) := by decide +kernel
theorem dX12_init_557 : decode cX12_init_c 557 = .ok (.iinc 1 1, 3) := by decide +kernel
theorem dX12_init_560 : decode cX12_init_c 560 = .ok (.goto (-16), 3) := by decide +kernel
theorem dX12_init_563 : decode cX12_init_c 563 = .ok (.return_, 1) := by decide +kernel
def WM0 : Wd := wnew WX11_init_83 (1, 11, 0)
def HM0 (h : Hp) : Hp := hz h 146
def HX12_init_1 (h : Hp) : Hp := wr (HM0 h) 146 1 3
def HX12_init_2 (h : Hp) : Hp := wr (HX12_init_1 h) 146 3 1
def HX12_init_3 (h : Hp) : Hp := hz (HX12_init_2 h) WM0.1
def WX12_init_4 : Wd := wnew WM0 (2, 0, 2)
def WX12_init_5 : Wd := wref WX12_init_4 146 4 147
def HX12_init_6 (h : Hp) : Hp := hz (HX12_init_3 h) WX12_init_5.1
def WX12_init_7 : Wd := wnew WX12_init_5 (2, 0, 96)
def WX12_init_8 : Wd := wref WX12_init_7 146 5 148
def HX12_init_9 (h : Hp) : Hp := hz (HX12_init_6 h) WX12_init_8.1
def WX12_init_10 : Wd := wnew WX12_init_8 (2, 0, 288)
def WX12_init_11 : Wd := wref WX12_init_10 146 6 149
def HX12_init_12 (h : Hp) : Hp := hz (HX12_init_9 h) WX12_init_11.1
def WX12_init_13 : Wd := wnew WX12_init_11 (2, 0, 8)
def WX12_init_14 : Wd := wref WX12_init_13 146 7 150
def HX12_init_15 (h : Hp) : Hp := hz (HX12_init_12 h) WX12_init_14.1
def WX12_init_16 : Wd := wnew WX12_init_14 (2, 0, 4)
def WX12_init_17 : Wd := wref WX12_init_16 146 8 151
def HX12_init_18 (h : Hp) : Hp := hz (HX12_init_15 h) WX12_init_17.1
def WX12_init_19 : Wd := wnew WX12_init_17 (2, 3, 256)
def WX12_init_20 : Wd := wref WX12_init_19 146 9 152
def HX12_init_21 (h : Hp) : Hp := hz (HX12_init_18 h) WX12_init_20.1
def WX12_init_22 : Wd := wnew WX12_init_20 (2, 0, 48)
def WX12_init_23 : Wd := wref WX12_init_22 146 10 153
def HX12_init_24 (h : Hp) : Hp := hz (HX12_init_21 h) WX12_init_23.1
def WX12_init_25 : Wd := wnew WX12_init_23 (2, 0, 48)
def WX12_init_26 : Wd := wref WX12_init_25 146 11 154
def HX12_init_27 (h : Hp) : Hp := hz (HX12_init_24 h) WX12_init_26.1
def WX12_init_28 : Wd := wnew WX12_init_26 (2, 0, 12)
def WX12_init_29 : Wd := wref WX12_init_28 146 13 155
def HX12_init_30 (h : Hp) : Hp := hz (HX12_init_27 h) WX12_init_29.1
def WX12_init_31 : Wd := wnew WX12_init_29 (2, 0, 12)
def WX12_init_32 : Wd := wref WX12_init_31 146 14 156
def HX12_init_33 (h : Hp) : Hp := hz (HX12_init_30 h) WX12_init_32.1
def WX12_init_34 : Wd := wnew WX12_init_32 (2, 0, 12)
def WX12_init_35 : Wd := wref WX12_init_34 146 15 157
def HX12_init_36 (h : Hp) : Hp := hz (HX12_init_33 h) WX12_init_35.1
def WX12_init_37 : Wd := wnew WX12_init_35 (2, 3, 12)
def WX12_init_38 : Wd := wref WX12_init_37 146 16 158
def HX12_init_39 (h : Hp) : Hp := hz (HX12_init_36 h) WX12_init_38.1
def WX12_init_40 : Wd := wnew WX12_init_38 (2, 0, 9)
def HX12_init_41 (h : Hp) : Hp := wr (HX12_init_39 h) 159 (0 : Int).toNat 1
def HX12_init_42 (h : Hp) : Hp := wr (HX12_init_41 h) 159 (1 : Int).toNat 1
def HX12_init_43 (h : Hp) : Hp := wr (HX12_init_42 h) 159 (2 : Int).toNat 1
def HX12_init_44 (h : Hp) : Hp := wr (HX12_init_43 h) 159 (3 : Int).toNat 1
def HX12_init_45 (h : Hp) : Hp := wr (HX12_init_44 h) 159 (4 : Int).toNat 1
def HX12_init_46 (h : Hp) : Hp := wr (HX12_init_45 h) 159 (5 : Int).toNat 1
def HX12_init_47 (h : Hp) : Hp := wr (HX12_init_46 h) 159 (6 : Int).toNat 1
def HX12_init_48 (h : Hp) : Hp := wr (HX12_init_47 h) 159 (7 : Int).toNat 1
def HX12_init_49 (h : Hp) : Hp := wr (HX12_init_48 h) 159 (8 : Int).toNat 1
def WX12_init_50 : Wd := wref WX12_init_40 146 17 159
def HX12_init_51 (h : Hp) : Hp := hz (HX12_init_49 h) WX12_init_50.1
def WX12_init_52 : Wd := wnew WX12_init_50 (2, 0, 48)
def WX12_init_53 : Wd := wref WX12_init_52 146 18 160
def HX12_init_54 (h : Hp) : Hp := hz (HX12_init_51 h) WX12_init_53.1
def WX12_init_55 : Wd := wnew WX12_init_53 (2, 0, 3)
def WX12_init_56 : Wd := wref WX12_init_55 146 20 161
def HX12_init_57 (h : Hp) : Hp := wr (HX12_init_54 h) 146 21 (-1)
def HX12_init_58 (h : Hp) : Hp := wr (HX12_init_57 h) 146 22 (-1)
def HX12_init_59 (h : Hp) : Hp := hz (HX12_init_58 h) WX12_init_56.1
def WX12_init_60 : Wd := wnew WX12_init_56 (2, 0, 2)
def WX12_init_61 : Wd := wref WX12_init_60 146 28 162
def HX12_init_62 (h : Hp) : Hp := hz (HX12_init_59 h) WX12_init_61.1
def WX12_init_63 : Wd := wnew WX12_init_61 (2, 0, 3)
def WX12_init_64 : Wd := wref WX12_init_63 146 29 163
def HX12_init_65 (h : Hp) : Hp := hz (HX12_init_62 h) WX12_init_64.1
def WX12_init_66 : Wd := wnew WX12_init_64 (2, 0, 2)
def WX12_init_67 : Wd := wref WX12_init_66 146 30 164
def HX12_init_68 (h : Hp) : Hp := hz (HX12_init_65 h) WX12_init_67.1
def WX12_init_69 : Wd := wnew WX12_init_67 (2, 0, 24)
def WX12_init_70 : Wd := wref WX12_init_69 146 31 165
def HX12_init_71 (h : Hp) : Hp := hz (HX12_init_68 h) WX12_init_70.1
def WX12_init_72 : Wd := wnew WX12_init_70 (2, 0, 24)
def WX12_init_73 : Wd := wref WX12_init_72 146 32 166
def HX12_init_74 (h : Hp) : Hp := hz (HX12_init_71 h) WX12_init_73.1
def WX12_init_75 : Wd := wnew WX12_init_73 (2, 0, 24)
def WX12_init_76 : Wd := wref WX12_init_75 146 33 167
def HX12_init_77 (h : Hp) : Hp := hz (HX12_init_74 h) WX12_init_76.1
def WX12_init_78 : Wd := wnew WX12_init_76 (2, 0, 24)
def WX12_init_79 : Wd := wref WX12_init_78 146 34 168
def HX12_init_80 (h : Hp) : Hp := hz (HX12_init_77 h) WX12_init_79.1
def WX12_init_81 : Wd := wnew WX12_init_79 (2, 0, 24)
def WX12_init_82 : Wd := wref WX12_init_81 146 35 169
def HX12_init_83 (h : Hp) : Hp := hz (HX12_init_80 h) WX12_init_82.1
def WX12_init_84 : Wd := wnew WX12_init_82 (2, 0, 200)
def WX12_init_85 : Wd := wref WX12_init_84 146 39 170
def HX12_init_86 (h : Hp) : Hp := hz (HX12_init_83 h) WX12_init_85.1
def WX12_init_87 : Wd := wnew WX12_init_85 (2, 0, 200)
def WX12_init_88 : Wd := wref WX12_init_87 146 40 171
def HX12_init_89 (h : Hp) : Hp := hz (HX12_init_86 h) WX12_init_88.1
def WX12_init_90 : Wd := wnew WX12_init_88 (2, 0, 200)
def WX12_init_91 : Wd := wref WX12_init_90 146 41 172
def HX12_init_92 (h : Hp) : Hp := hz (HX12_init_89 h) WX12_init_91.1
def WX12_init_93 : Wd := wnew WX12_init_91 (2, 0, 256)
def WX12_init_94 : Wd := wref WX12_init_93 146 42 173
def HX12_init_95 (h : Hp) : Hp := hz (HX12_init_92 h) WX12_init_94.1
def WX12_init_96 : Wd := wnew WX12_init_94 (2, 0, 6)
def WX12_init_97 : Wd := wref WX12_init_96 146 43 174
def HX12_init_98 (h : Hp) : Hp := hz (HX12_init_95 h) WX12_init_97.1
def WX12_init_99 : Wd := wnew WX12_init_97 (2, 0, 6)
def WX12_init_100 : Wd := wref WX12_init_99 146 44 175
def HX12_init_101 (h : Hp) : Hp := hz (HX12_init_98 h) WX12_init_100.1
def WX12_init_102 : Wd := wnew WX12_init_100 (2, 1, 1536)
def WX12_init_103 : Wd := wref WX12_init_102 146 45 176
def HX12_init_104 (h : Hp) : Hp := hz (HX12_init_101 h) WX12_init_103.1
def WX12_init_105 : Wd := wnew WX12_init_103 (2, 0, 10)
def WX12_init_106 : Wd := wref WX12_init_105 146 46 177
def HX12_init_107 (h : Hp) : Hp := hz (HX12_init_104 h) WX12_init_106.1
def WX12_init_108 : Wd := wnew WX12_init_106 (2, 0, 10)
def WX12_init_109 : Wd := wref WX12_init_108 146 47 178
def HX12_init_110 (h : Hp) : Hp := hz (HX12_init_107 h) WX12_init_109.1
def WX12_init_111 : Wd := wnew WX12_init_109 (2, 0, 10)
def WX12_init_112 : Wd := wref WX12_init_111 146 48 179
def HX12_init_113 (h : Hp) : Hp := hz (HX12_init_110 h) WX12_init_112.1
def WX12_init_114 : Wd := wnew WX12_init_112 (2, 0, 10)
def WX12_init_115 : Wd := wref WX12_init_114 146 49 180
def HX12_init_116 (h : Hp) : Hp := hz (HX12_init_113 h) WX12_init_115.1
def WX12_init_117 : Wd := wnew WX12_init_115 (2, 0, 480)
def WX12_init_118 : Wd := wref WX12_init_117 146 50 181
def HX12_init_119 (h : Hp) : Hp := hz (HX12_init_116 h) WX12_init_118.1
def WX12_init_120 : Wd := wnew WX12_init_118 (2, 0, 1440)
def WX12_init_121 : Wd := wref WX12_init_120 146 51 182
def HX12_init_122 (h : Hp) : Hp := hz (HX12_init_119 h) WX12_init_121.1
def WX12_init_123 : Wd := wnew WX12_init_121 (2, 0, 40)
def WX12_init_124 : Wd := wref WX12_init_123 146 52 183
def HX12_init_125 (h : Hp) : Hp := hz (HX12_init_122 h) WX12_init_124.1
def WX12_init_126 : Wd := wnew WX12_init_124 (2, 0, 20)
def WX12_init_127 : Wd := wref WX12_init_126 146 53 184
def HX12_init_128 (h : Hp) : Hp := hz (HX12_init_125 h) WX12_init_127.1
def WX12_init_129 : Wd := wnew WX12_init_127 (2, 0, 480)
def WX12_init_130 : Wd := wref WX12_init_129 146 54 185
def HX12_init_131 (h : Hp) : Hp := hz (HX12_init_128 h) WX12_init_130.1
def WX12_init_132 : Wd := wnew WX12_init_130 (2, 0, 480)
def WX12_init_133 : Wd := wref WX12_init_132 146 55 186
def HX12_init_134 (h : Hp) : Hp := hz (HX12_init_131 h) WX12_init_133.1
def WX12_init_135 : Wd := wnew WX12_init_133 (2, 3, 120)
def WX12_init_136 : Wd := wref WX12_init_135 146 56 187
def HX12_init_137 (h : Hp) : Hp := hz (HX12_init_134 h) WX12_init_136.1
def WX12_init_138 : Wd := wnew WX12_init_136 (2, 3, 48)
def WX12_init_139 : Wd := wref WX12_init_138 146 58 188
def HX12_init_140 (h : Hp) : Hp := hz (HX12_init_137 h) WX12_init_139.1
def WX12_init_141 : Wd := wnew WX12_init_139 (2, 0, 80)
def WX12_init_142 : Wd := wref WX12_init_141 146 59 189
def HX12_init_143 (h : Hp) : Hp := hz (HX12_init_140 h) WX12_init_142.1
def WX12_init_144 : Wd := wnew WX12_init_142 (2, 3, 48)
def WX12_init_145 : Wd := wref WX12_init_144 146 60 190
def HX12_init_146 (h : Hp) : Hp := hz (HX12_init_143 h) WX12_init_145.1
def WX12_init_147 : Wd := wnew WX12_init_145 (2, 1, 384)
def WX12_init_148 : Wd := wref WX12_init_147 146 61 191
def HX12_init_149 (h : Hp) : Hp := hz (HX12_init_146 h) WX12_init_148.1
def WX12_init_150 : Wd := wnew WX12_init_148 (2, 0, 3)
def WX12_init_151 : Wd := wref WX12_init_150 146 62 192
def HX12_init_152 (h : Hp) : Hp := hz (HX12_init_149 h) WX12_init_151.1
def WX12_init_153 : Wd := wnew WX12_init_151 (2, 1, 32)
def WX12_init_154 : Wd := wref WX12_init_153 146 65 193
def HX12_init_155 (h : Hp) : Hp := hz (HX12_init_152 h) WX12_init_154.1
def WX12_init_156 : Wd := wnew WX12_init_154 (2, 0, 256)
def WX12_init_157 : Wd := wref WX12_init_156 146 66 194
def HX12_init_158 (h : Hp) : Hp := hz (HX12_init_155 h) WX12_init_157.1
def WX12_init_159 : Wd := wnew WX12_init_157 (2, 3, 4)
def WX12_init_160 : Wd := wref WX12_init_159 146 67 195
def HX12_init_161 (h : Hp) : Hp := hz (HX12_init_158 h) WX12_init_160.1
def WX12_init_162 : Wd := wnew WX12_init_160 (2, 0, 1024)
def WX12_init_163 : Wd := wref WX12_init_162 146 68 196
def HX12_init_164 (h : Hp) : Hp := hz (HX12_init_161 h) WX12_init_163.1
def WX12_init_165 : Wd := wnew WX12_init_163 (2, 0, 8)
def WX12_init_166 : Wd := wref WX12_init_165 146 69 197
def HX12_init_167 (h : Hp) : Hp := hz (HX12_init_164 h) WX12_init_166.1
def WX12_init_168 : Wd := wnew WX12_init_166 (2, 0, 3)
def WX12_init_169 : Wd := wref WX12_init_168 146 70 198
def HX12_init_170 (h : Hp) : Hp := hz (HX12_init_167 h) WX12_init_169.1
def WX12_init_171 : Wd := wnew WX12_init_169 (2, 0, 3)
def WX12_init_172 : Wd := wref WX12_init_171 146 75 199
def HX12_init_173 (h : Hp) : Hp := hz (HX12_init_170 h) WX12_init_172.1
def WX12_init_174 : Wd := wnew WX12_init_172 (2, 0, 10)
def WX12_init_175 : Wd := wref WX12_init_174 146 76 200
def HX12_init_176 (h : Hp) : Hp := hz (HX12_init_173 h) WX12_init_175.1
def WX12_init_177 : Wd := wnew WX12_init_175 (2, 0, 4096)
def WX12_init_178 : Wd := wref WX12_init_177 146 77 201
def HX12_init_179 (h : Hp) : Hp := hz (HX12_init_176 h) WX12_init_178.1
def WX12_init_180 : Wd := wnew WX12_init_178 (2, 0, 48)
def WX12_init_181 : Wd := wref WX12_init_180 146 78 202
def HX12_init_182 (h : Hp) : Hp := hz (HX12_init_179 h) WX12_init_181.1
def WX12_init_183 : Wd := wnew WX12_init_181 (2, 0, 24)
def WX12_init_184 : Wd := wref WX12_init_183 146 79 203
def HX12_init_185 (h : Hp) : Hp := hz (HX12_init_182 h) WX12_init_184.1
def WX12_init_186 : Wd := wnew WX12_init_184 (2, 0, 256)
def WX12_init_187 : Wd := wref WX12_init_186 146 80 204
def HX12_init_188 (h : Hp) : Hp := hz (HX12_init_185 h) WX12_init_187.1
def WX12_init_189 : Wd := wnew WX12_init_187 (2, 1, 256)
def WX12_init_190 : Wd := wref WX12_init_189 146 81 205
def fillP (h : Hp) (k : Nat) : Hp := fun a i => if a = 160 ∧ i < k then -1 else h a i
theorem at_mod : At WX12_init_190 146 (1, 11, 0) := ⟨by decide, by decide +kernel, by decide +kernel⟩
theorem at_prc : At WX12_init_190 160 (2, 0, 48) := ⟨by decide, by decide +kernel, by decide +kernel⟩
theorem rc_prc : WX12_init_190.2.2 146 18 = 160 := by decide +kernel
theorem fillP_s (h : Hp) (k : Nat) : wr (fillP h k) 160 k (-1) = fillP h (k + 1) := by
  funext a i
  unfold wr fillP
  by_cases q : a = 160 ∧ i = k
  · rw [if_pos q, if_pos ⟨q.1, by omega⟩]
  · rw [if_neg q]
    by_cases q2 : a = 160 ∧ i < k
    · rw [if_pos q2, if_pos ⟨q2.1, by omega⟩]
    · rw [if_neg q2, if_neg (fun z => by rcases Nat.lt_or_ge i k with y | y; exact q2 ⟨z.1, y⟩; exact q ⟨z.1, by omega⟩)]
theorem fillP_0 (h : Hp) : fillP h 0 = h := by funext a i; unfold fillP; rw [if_neg (fun z => by omega)]
set_option maxRecDepth 100000 in
theorem X12_init_loop {Γ : Cx} (g : Gd Γ cX12_init_c 2 "GatePatchModel" none ({ frames := 1, cells := 59, slots := 13072, locals := 100 } : Room)) (hmk : Mk Γ WM0.1) (h : Hp) : ∀ (n k : Nat), k + n = 48 → Core Γ WX12_init_190 (fillP h k) 59 13072 (QA Γ 59 13072 WX12_init_190 (fillP h 48)) 544 [(1, vI (k : Int)), (0, vP 146)] [] := by
  intro n
  induction n with
  | zero =>
    intro k hk
    have : k = 48 := by omega
    subst this
    refine Co_iload_n (kk := 0) g dX12_init_544 rfl rfl ?_
    refine Co_bipush g dX12_init_545 ⟨by decide, by decide⟩ rfl ?_
    refine Co_icmp_ge (tgt := 563) g dX12_init_547 (by decide) (fun _ => ?_) (fun c => absurd (by decide) c)
    exact Co_returnA g hmk rfl dX12_init_563 rfl
  | succ n ih =>
    intro k hk
    refine Co_iload_n (kk := 0) g dX12_init_544 rfl rfl ?_
    refine Co_bipush g dX12_init_545 ⟨by decide, by decide⟩ rfl ?_
    refine Co_icmp_ge (tgt := 563) g dX12_init_547 (by decide) (fun c => absurd c (by omega)) (fun _ => ?_)
    refine Co_aload_n (kk := 1) g dX12_init_550 rfl rfl ?_
    refine Co_getr (b := 160) g dX12_init_551 fl_Mod_57 at_mod rfl rc_prc ?_
    refine Co_iload_n (kk := 0) g dX12_init_554 rfl rfl ?_
    refine Co_iconst g dX12_init_555 ⟨by decide, by decide⟩ ?_
    refine Co_iastore g dX12_init_556 at_prc (by omega) (by omega) ?_
    rw [show ((k : Int)).toNat = k by omega, fillP_s]
    refine Co_iinc (kk := 0) (ls' := [(1, vI ((k : Int) + 1)), (0, vP 146)]) g dX12_init_557 rfl (by decide) ⟨by omega, by omega⟩ rfl ?_
    refine Co_goto (tgt := 544) g dX12_init_560 (by decide) ?_
    have := ih (k + 1) (by omega)
    rw [show ((k + 1 : Nat) : Int) = (k : Int) + 1 by omega] at this
    exact this
set_option maxRecDepth 100000 in
theorem cX12_init {G : GG} (h : Hp) : CtA G yX12_init (Cond.code yX12_init cX12_init_c 2 none) ({ frames := 1, cells := 59, slots := 13072, locals := 100 } : Room) [vP 146] WM0 (HM0 h) WX12_init_190 (fillP (HX12_init_188 h) 48) := by
  refine CtA_of (own := "GatePatchModel") plain_Mod rfl rfl (Nat.le_of_ble_eq_true rfl) (fun Γ hG hmk hin g => ?_)
  subst hG
  show Core Γ WM0 (HM0 h) 0 0 _ 0 [(0, vP 146)] []
  refine Co_aload_n (kk := 0) g dX12_init_0 rfl rfl ?_
  refine Co_obj g dX12_init_1 ml_Mod_1 ob_im ob_cw (by decide) ⟨by decide, by decide⟩ ?_
  refine Co_aload_n (kk := 0) g dX12_init_4 rfl rfl ?_
  refine Co_iconst g dX12_init_5 ⟨by decide, by decide⟩ ?_
  refine Co_puti (n := 0) g dX12_init_6 fp_Mod_7 ⟨by decide +kernel, by decide +kernel, by decide +kernel⟩ rfl ?_
  show Core Γ WM0 (HX12_init_1 h) _ _ _ _ _ _
  refine Co_aload_n (kk := 0) g dX12_init_9 rfl rfl ?_
  refine Co_iconst g dX12_init_10 ⟨by decide, by decide⟩ ?_
  refine Co_puti (n := 0) g dX12_init_11 fp_Mod_13 ⟨by decide +kernel, by decide +kernel, by decide +kernel⟩ rfl ?_
  show Core Γ WM0 (HX12_init_2 h) _ _ _ _ _ _
  refine Co_aload_n (kk := 0) g dX12_init_14 rfl rfl ?_
  refine Co_iconst g dX12_init_15 ⟨by decide, by decide⟩ ?_
  refine Co_newi (n := 2) g hmk rfl dX12_init_16 ac_int (by decide) ⟨by decide, by decide⟩ ?_
  show Core Γ WX12_init_4 (HX12_init_3 h) _ _ _ _ _ _
  refine Co_putr (n := 0) g dX12_init_18 ff_Mod_16 (Or.inr ⟨_, rfl⟩) hin ⟨by decide +kernel, by decide +kernel, by decide +kernel⟩ rfl (by decide) ?_
  show Core Γ WX12_init_5 (HX12_init_3 h) _ _ _ _ _ _
  refine Co_aload_n (kk := 0) g dX12_init_21 rfl rfl ?_
  refine Co_bipush g dX12_init_22 ⟨by decide, by decide⟩ rfl ?_
  refine Co_newi (n := 96) g hmk rfl dX12_init_24 ac_int (by decide) ⟨by decide, by decide⟩ ?_
  show Core Γ WX12_init_7 (HX12_init_6 h) _ _ _ _ _ _
  refine Co_putr (n := 0) g dX12_init_26 ff_Mod_20 (Or.inr ⟨_, rfl⟩) hin ⟨by decide +kernel, by decide +kernel, by decide +kernel⟩ rfl (by decide) ?_
  show Core Γ WX12_init_8 (HX12_init_6 h) _ _ _ _ _ _
  refine Co_aload_n (kk := 0) g dX12_init_29 rfl rfl ?_
  refine Co_sipush g dX12_init_30 ⟨by decide, by decide⟩ rfl ?_
  refine Co_newi (n := 288) g hmk rfl dX12_init_33 ac_int (by decide) ⟨by decide, by decide⟩ ?_
  show Core Γ WX12_init_10 (HX12_init_9 h) _ _ _ _ _ _
  refine Co_putr (n := 0) g dX12_init_35 ff_Mod_23 (Or.inr ⟨_, rfl⟩) hin ⟨by decide +kernel, by decide +kernel, by decide +kernel⟩ rfl (by decide) ?_
  show Core Γ WX12_init_11 (HX12_init_9 h) _ _ _ _ _ _
  refine Co_aload_n (kk := 0) g dX12_init_38 rfl rfl ?_
  refine Co_bipush g dX12_init_39 ⟨by decide, by decide⟩ rfl ?_
  refine Co_newi (n := 8) g hmk rfl dX12_init_41 ac_int (by decide) ⟨by decide, by decide⟩ ?_
  show Core Γ WX12_init_13 (HX12_init_12 h) _ _ _ _ _ _
  refine Co_putr (n := 0) g dX12_init_43 ff_Mod_26 (Or.inr ⟨_, rfl⟩) hin ⟨by decide +kernel, by decide +kernel, by decide +kernel⟩ rfl (by decide) ?_
  show Core Γ WX12_init_14 (HX12_init_12 h) _ _ _ _ _ _
  refine Co_aload_n (kk := 0) g dX12_init_46 rfl rfl ?_
  refine Co_iconst g dX12_init_47 ⟨by decide, by decide⟩ ?_
  refine Co_newi (n := 4) g hmk rfl dX12_init_48 ac_int (by decide) ⟨by decide, by decide⟩ ?_
  show Core Γ WX12_init_16 (HX12_init_15 h) _ _ _ _ _ _
  refine Co_putr (n := 0) g dX12_init_50 ff_Mod_29 (Or.inr ⟨_, rfl⟩) hin ⟨by decide +kernel, by decide +kernel, by decide +kernel⟩ rfl (by decide) ?_
  show Core Γ WX12_init_17 (HX12_init_15 h) _ _ _ _ _ _
  refine Co_aload_n (kk := 0) g dX12_init_53 rfl rfl ?_
  refine Co_sipush g dX12_init_54 ⟨by decide, by decide⟩ rfl ?_
  refine Co_newz (n := 256) g hmk rfl dX12_init_57 ac_boolean (by decide) ⟨by decide, by decide⟩ ?_
  show Core Γ WX12_init_19 (HX12_init_18 h) _ _ _ _ _ _
  refine Co_putr (n := 0) g dX12_init_59 ff_Mod_32 (Or.inr ⟨_, rfl⟩) hin ⟨by decide +kernel, by decide +kernel, by decide +kernel⟩ rfl (by decide) ?_
  show Core Γ WX12_init_20 (HX12_init_18 h) _ _ _ _ _ _
  refine Co_aload_n (kk := 0) g dX12_init_62 rfl rfl ?_
  refine Co_bipush g dX12_init_63 ⟨by decide, by decide⟩ rfl ?_
  refine Co_newi (n := 48) g hmk rfl dX12_init_65 ac_int (by decide) ⟨by decide, by decide⟩ ?_
  show Core Γ WX12_init_22 (HX12_init_21 h) _ _ _ _ _ _
  refine Co_putr (n := 0) g dX12_init_67 ff_Mod_36 (Or.inr ⟨_, rfl⟩) hin ⟨by decide +kernel, by decide +kernel, by decide +kernel⟩ rfl (by decide) ?_
  show Core Γ WX12_init_23 (HX12_init_21 h) _ _ _ _ _ _
  refine Co_aload_n (kk := 0) g dX12_init_70 rfl rfl ?_
  refine Co_bipush g dX12_init_71 ⟨by decide, by decide⟩ rfl ?_
  refine Co_newi (n := 48) g hmk rfl dX12_init_73 ac_int (by decide) ⟨by decide, by decide⟩ ?_
  show Core Γ WX12_init_25 (HX12_init_24 h) _ _ _ _ _ _
  refine Co_putr (n := 0) g dX12_init_75 ff_Mod_39 (Or.inr ⟨_, rfl⟩) hin ⟨by decide +kernel, by decide +kernel, by decide +kernel⟩ rfl (by decide) ?_
  show Core Γ WX12_init_26 (HX12_init_24 h) _ _ _ _ _ _
  refine Co_aload_n (kk := 0) g dX12_init_78 rfl rfl ?_
  refine Co_bipush g dX12_init_79 ⟨by decide, by decide⟩ rfl ?_
  refine Co_newi (n := 12) g hmk rfl dX12_init_81 ac_int (by decide) ⟨by decide, by decide⟩ ?_
  show Core Γ WX12_init_28 (HX12_init_27 h) _ _ _ _ _ _
  refine Co_putr (n := 0) g dX12_init_83 ff_Mod_42 (Or.inr ⟨_, rfl⟩) hin ⟨by decide +kernel, by decide +kernel, by decide +kernel⟩ rfl (by decide) ?_
  show Core Γ WX12_init_29 (HX12_init_27 h) _ _ _ _ _ _
  refine Co_aload_n (kk := 0) g dX12_init_86 rfl rfl ?_
  refine Co_bipush g dX12_init_87 ⟨by decide, by decide⟩ rfl ?_
  refine Co_newi (n := 12) g hmk rfl dX12_init_89 ac_int (by decide) ⟨by decide, by decide⟩ ?_
  show Core Γ WX12_init_31 (HX12_init_30 h) _ _ _ _ _ _
  refine Co_putr (n := 0) g dX12_init_91 ff_Mod_45 (Or.inr ⟨_, rfl⟩) hin ⟨by decide +kernel, by decide +kernel, by decide +kernel⟩ rfl (by decide) ?_
  show Core Γ WX12_init_32 (HX12_init_30 h) _ _ _ _ _ _
  refine Co_aload_n (kk := 0) g dX12_init_94 rfl rfl ?_
  refine Co_bipush g dX12_init_95 ⟨by decide, by decide⟩ rfl ?_
  refine Co_newi (n := 12) g hmk rfl dX12_init_97 ac_int (by decide) ⟨by decide, by decide⟩ ?_
  show Core Γ WX12_init_34 (HX12_init_33 h) _ _ _ _ _ _
  refine Co_putr (n := 0) g dX12_init_99 ff_Mod_48 (Or.inr ⟨_, rfl⟩) hin ⟨by decide +kernel, by decide +kernel, by decide +kernel⟩ rfl (by decide) ?_
  show Core Γ WX12_init_35 (HX12_init_33 h) _ _ _ _ _ _
  refine Co_aload_n (kk := 0) g dX12_init_102 rfl rfl ?_
  refine Co_bipush g dX12_init_103 ⟨by decide, by decide⟩ rfl ?_
  refine Co_newz (n := 12) g hmk rfl dX12_init_105 ac_boolean (by decide) ⟨by decide, by decide⟩ ?_
  show Core Γ WX12_init_37 (HX12_init_36 h) _ _ _ _ _ _
  refine Co_putr (n := 0) g dX12_init_107 ff_Mod_51 (Or.inr ⟨_, rfl⟩) hin ⟨by decide +kernel, by decide +kernel, by decide +kernel⟩ rfl (by decide) ?_
  show Core Γ WX12_init_38 (HX12_init_36 h) _ _ _ _ _ _
  refine Co_aload_n (kk := 0) g dX12_init_110 rfl rfl ?_
  refine Co_bipush g dX12_init_111 ⟨by decide, by decide⟩ rfl ?_
  refine Co_newi (n := 9) g hmk rfl dX12_init_113 ac_int (by decide) ⟨by decide, by decide⟩ ?_
  show Core Γ WX12_init_40 (HX12_init_39 h) _ _ _ _ _ _
  refine Co_dup g dX12_init_115 rfl ?_
  refine Co_iconst g dX12_init_116 ⟨by decide, by decide⟩ ?_
  refine Co_iconst g dX12_init_117 ⟨by decide, by decide⟩ ?_
  refine Co_iastore g dX12_init_118 (n := 9) ⟨by decide +kernel, by decide +kernel, by decide +kernel⟩ (by decide) (by decide) ?_
  show Core Γ WX12_init_40 (HX12_init_41 h) _ _ _ _ _ _
  refine Co_dup g dX12_init_119 rfl ?_
  refine Co_iconst g dX12_init_120 ⟨by decide, by decide⟩ ?_
  refine Co_iconst g dX12_init_121 ⟨by decide, by decide⟩ ?_
  refine Co_iastore g dX12_init_122 (n := 9) ⟨by decide +kernel, by decide +kernel, by decide +kernel⟩ (by decide) (by decide) ?_
  show Core Γ WX12_init_40 (HX12_init_42 h) _ _ _ _ _ _
  refine Co_dup g dX12_init_123 rfl ?_
  refine Co_iconst g dX12_init_124 ⟨by decide, by decide⟩ ?_
  refine Co_iconst g dX12_init_125 ⟨by decide, by decide⟩ ?_
  refine Co_iastore g dX12_init_126 (n := 9) ⟨by decide +kernel, by decide +kernel, by decide +kernel⟩ (by decide) (by decide) ?_
  show Core Γ WX12_init_40 (HX12_init_43 h) _ _ _ _ _ _
  refine Co_dup g dX12_init_127 rfl ?_
  refine Co_iconst g dX12_init_128 ⟨by decide, by decide⟩ ?_
  refine Co_iconst g dX12_init_129 ⟨by decide, by decide⟩ ?_
  refine Co_iastore g dX12_init_130 (n := 9) ⟨by decide +kernel, by decide +kernel, by decide +kernel⟩ (by decide) (by decide) ?_
  show Core Γ WX12_init_40 (HX12_init_44 h) _ _ _ _ _ _
  refine Co_dup g dX12_init_131 rfl ?_
  refine Co_iconst g dX12_init_132 ⟨by decide, by decide⟩ ?_
  refine Co_iconst g dX12_init_133 ⟨by decide, by decide⟩ ?_
  refine Co_iastore g dX12_init_134 (n := 9) ⟨by decide +kernel, by decide +kernel, by decide +kernel⟩ (by decide) (by decide) ?_
  show Core Γ WX12_init_40 (HX12_init_45 h) _ _ _ _ _ _
  refine Co_dup g dX12_init_135 rfl ?_
  refine Co_iconst g dX12_init_136 ⟨by decide, by decide⟩ ?_
  refine Co_iconst g dX12_init_137 ⟨by decide, by decide⟩ ?_
  refine Co_iastore g dX12_init_138 (n := 9) ⟨by decide +kernel, by decide +kernel, by decide +kernel⟩ (by decide) (by decide) ?_
  show Core Γ WX12_init_40 (HX12_init_46 h) _ _ _ _ _ _
  refine Co_dup g dX12_init_139 rfl ?_
  refine Co_bipush g dX12_init_140 ⟨by decide, by decide⟩ rfl ?_
  refine Co_iconst g dX12_init_142 ⟨by decide, by decide⟩ ?_
  refine Co_iastore g dX12_init_143 (n := 9) ⟨by decide +kernel, by decide +kernel, by decide +kernel⟩ (by decide) (by decide) ?_
  show Core Γ WX12_init_40 (HX12_init_47 h) _ _ _ _ _ _
  refine Co_dup g dX12_init_144 rfl ?_
  refine Co_bipush g dX12_init_145 ⟨by decide, by decide⟩ rfl ?_
  refine Co_iconst g dX12_init_147 ⟨by decide, by decide⟩ ?_
  refine Co_iastore g dX12_init_148 (n := 9) ⟨by decide +kernel, by decide +kernel, by decide +kernel⟩ (by decide) (by decide) ?_
  show Core Γ WX12_init_40 (HX12_init_48 h) _ _ _ _ _ _
  refine Co_dup g dX12_init_149 rfl ?_
  refine Co_bipush g dX12_init_150 ⟨by decide, by decide⟩ rfl ?_
  refine Co_iconst g dX12_init_152 ⟨by decide, by decide⟩ ?_
  refine Co_iastore g dX12_init_153 (n := 9) ⟨by decide +kernel, by decide +kernel, by decide +kernel⟩ (by decide) (by decide) ?_
  show Core Γ WX12_init_40 (HX12_init_49 h) _ _ _ _ _ _
  refine Co_putr (n := 0) g dX12_init_154 ff_Mod_54 (Or.inr ⟨_, rfl⟩) hin ⟨by decide +kernel, by decide +kernel, by decide +kernel⟩ rfl (by decide) ?_
  show Core Γ WX12_init_50 (HX12_init_49 h) _ _ _ _ _ _
  refine Co_aload_n (kk := 0) g dX12_init_157 rfl rfl ?_
  refine Co_bipush g dX12_init_158 ⟨by decide, by decide⟩ rfl ?_
  refine Co_newi (n := 48) g hmk rfl dX12_init_160 ac_int (by decide) ⟨by decide, by decide⟩ ?_
  show Core Γ WX12_init_52 (HX12_init_51 h) _ _ _ _ _ _
  refine Co_putr (n := 0) g dX12_init_162 ff_Mod_57 (Or.inr ⟨_, rfl⟩) hin ⟨by decide +kernel, by decide +kernel, by decide +kernel⟩ rfl (by decide) ?_
  show Core Γ WX12_init_53 (HX12_init_51 h) _ _ _ _ _ _
  refine Co_aload_n (kk := 0) g dX12_init_165 rfl rfl ?_
  refine Co_iconst g dX12_init_166 ⟨by decide, by decide⟩ ?_
  refine Co_newi (n := 3) g hmk rfl dX12_init_167 ac_int (by decide) ⟨by decide, by decide⟩ ?_
  show Core Γ WX12_init_55 (HX12_init_54 h) _ _ _ _ _ _
  refine Co_putr (n := 0) g dX12_init_169 ff_Mod_60 (Or.inr ⟨_, rfl⟩) hin ⟨by decide +kernel, by decide +kernel, by decide +kernel⟩ rfl (by decide) ?_
  show Core Γ WX12_init_56 (HX12_init_54 h) _ _ _ _ _ _
  refine Co_aload_n (kk := 0) g dX12_init_172 rfl rfl ?_
  refine Co_iconst g dX12_init_173 ⟨by decide, by decide⟩ ?_
  refine Co_puti (n := 0) g dX12_init_174 fp_Mod_63 ⟨by decide +kernel, by decide +kernel, by decide +kernel⟩ rfl ?_
  show Core Γ WX12_init_56 (HX12_init_57 h) _ _ _ _ _ _
  refine Co_aload_n (kk := 0) g dX12_init_177 rfl rfl ?_
  refine Co_iconst g dX12_init_178 ⟨by decide, by decide⟩ ?_
  refine Co_puti (n := 0) g dX12_init_179 fp_Mod_66 ⟨by decide +kernel, by decide +kernel, by decide +kernel⟩ rfl ?_
  show Core Γ WX12_init_56 (HX12_init_58 h) _ _ _ _ _ _
  refine Co_aload_n (kk := 0) g dX12_init_182 rfl rfl ?_
  refine Co_iconst g dX12_init_183 ⟨by decide, by decide⟩ ?_
  refine Co_newi (n := 2) g hmk rfl dX12_init_184 ac_int (by decide) ⟨by decide, by decide⟩ ?_
  show Core Γ WX12_init_60 (HX12_init_59 h) _ _ _ _ _ _
  refine Co_putr (n := 0) g dX12_init_186 ff_Mod_69 (Or.inr ⟨_, rfl⟩) hin ⟨by decide +kernel, by decide +kernel, by decide +kernel⟩ rfl (by decide) ?_
  show Core Γ WX12_init_61 (HX12_init_59 h) _ _ _ _ _ _
  refine Co_aload_n (kk := 0) g dX12_init_189 rfl rfl ?_
  refine Co_iconst g dX12_init_190 ⟨by decide, by decide⟩ ?_
  refine Co_newi (n := 3) g hmk rfl dX12_init_191 ac_int (by decide) ⟨by decide, by decide⟩ ?_
  show Core Γ WX12_init_63 (HX12_init_62 h) _ _ _ _ _ _
  refine Co_putr (n := 0) g dX12_init_193 ff_Mod_72 (Or.inr ⟨_, rfl⟩) hin ⟨by decide +kernel, by decide +kernel, by decide +kernel⟩ rfl (by decide) ?_
  show Core Γ WX12_init_64 (HX12_init_62 h) _ _ _ _ _ _
  refine Co_aload_n (kk := 0) g dX12_init_196 rfl rfl ?_
  refine Co_iconst g dX12_init_197 ⟨by decide, by decide⟩ ?_
  refine Co_newi (n := 2) g hmk rfl dX12_init_198 ac_int (by decide) ⟨by decide, by decide⟩ ?_
  show Core Γ WX12_init_66 (HX12_init_65 h) _ _ _ _ _ _
  refine Co_putr (n := 0) g dX12_init_200 ff_Mod_75 (Or.inr ⟨_, rfl⟩) hin ⟨by decide +kernel, by decide +kernel, by decide +kernel⟩ rfl (by decide) ?_
  show Core Γ WX12_init_67 (HX12_init_65 h) _ _ _ _ _ _
  refine Co_aload_n (kk := 0) g dX12_init_203 rfl rfl ?_
  refine Co_bipush g dX12_init_204 ⟨by decide, by decide⟩ rfl ?_
  refine Co_newi (n := 24) g hmk rfl dX12_init_206 ac_int (by decide) ⟨by decide, by decide⟩ ?_
  show Core Γ WX12_init_69 (HX12_init_68 h) _ _ _ _ _ _
  refine Co_putr (n := 0) g dX12_init_208 ff_Mod_78 (Or.inr ⟨_, rfl⟩) hin ⟨by decide +kernel, by decide +kernel, by decide +kernel⟩ rfl (by decide) ?_
  show Core Γ WX12_init_70 (HX12_init_68 h) _ _ _ _ _ _
  refine Co_aload_n (kk := 0) g dX12_init_211 rfl rfl ?_
  refine Co_bipush g dX12_init_212 ⟨by decide, by decide⟩ rfl ?_
  refine Co_newi (n := 24) g hmk rfl dX12_init_214 ac_int (by decide) ⟨by decide, by decide⟩ ?_
  show Core Γ WX12_init_72 (HX12_init_71 h) _ _ _ _ _ _
  refine Co_putr (n := 0) g dX12_init_216 ff_Mod_81 (Or.inr ⟨_, rfl⟩) hin ⟨by decide +kernel, by decide +kernel, by decide +kernel⟩ rfl (by decide) ?_
  show Core Γ WX12_init_73 (HX12_init_71 h) _ _ _ _ _ _
  refine Co_aload_n (kk := 0) g dX12_init_219 rfl rfl ?_
  refine Co_bipush g dX12_init_220 ⟨by decide, by decide⟩ rfl ?_
  refine Co_newi (n := 24) g hmk rfl dX12_init_222 ac_int (by decide) ⟨by decide, by decide⟩ ?_
  show Core Γ WX12_init_75 (HX12_init_74 h) _ _ _ _ _ _
  refine Co_putr (n := 0) g dX12_init_224 ff_Mod_84 (Or.inr ⟨_, rfl⟩) hin ⟨by decide +kernel, by decide +kernel, by decide +kernel⟩ rfl (by decide) ?_
  show Core Γ WX12_init_76 (HX12_init_74 h) _ _ _ _ _ _
  refine Co_aload_n (kk := 0) g dX12_init_227 rfl rfl ?_
  refine Co_bipush g dX12_init_228 ⟨by decide, by decide⟩ rfl ?_
  refine Co_newi (n := 24) g hmk rfl dX12_init_230 ac_int (by decide) ⟨by decide, by decide⟩ ?_
  show Core Γ WX12_init_78 (HX12_init_77 h) _ _ _ _ _ _
  refine Co_putr (n := 0) g dX12_init_232 ff_Mod_87 (Or.inr ⟨_, rfl⟩) hin ⟨by decide +kernel, by decide +kernel, by decide +kernel⟩ rfl (by decide) ?_
  show Core Γ WX12_init_79 (HX12_init_77 h) _ _ _ _ _ _
  refine Co_aload_n (kk := 0) g dX12_init_235 rfl rfl ?_
  refine Co_bipush g dX12_init_236 ⟨by decide, by decide⟩ rfl ?_
  refine Co_newi (n := 24) g hmk rfl dX12_init_238 ac_int (by decide) ⟨by decide, by decide⟩ ?_
  show Core Γ WX12_init_81 (HX12_init_80 h) _ _ _ _ _ _
  refine Co_putr (n := 0) g dX12_init_240 ff_Mod_90 (Or.inr ⟨_, rfl⟩) hin ⟨by decide +kernel, by decide +kernel, by decide +kernel⟩ rfl (by decide) ?_
  show Core Γ WX12_init_82 (HX12_init_80 h) _ _ _ _ _ _
  refine Co_aload_n (kk := 0) g dX12_init_243 rfl rfl ?_
  refine Co_sipush g dX12_init_244 ⟨by decide, by decide⟩ rfl ?_
  refine Co_newi (n := 200) g hmk rfl dX12_init_247 ac_int (by decide) ⟨by decide, by decide⟩ ?_
  show Core Γ WX12_init_84 (HX12_init_83 h) _ _ _ _ _ _
  refine Co_putr (n := 0) g dX12_init_249 ff_Mod_93 (Or.inr ⟨_, rfl⟩) hin ⟨by decide +kernel, by decide +kernel, by decide +kernel⟩ rfl (by decide) ?_
  show Core Γ WX12_init_85 (HX12_init_83 h) _ _ _ _ _ _
  refine Co_aload_n (kk := 0) g dX12_init_252 rfl rfl ?_
  refine Co_sipush g dX12_init_253 ⟨by decide, by decide⟩ rfl ?_
  refine Co_newi (n := 200) g hmk rfl dX12_init_256 ac_int (by decide) ⟨by decide, by decide⟩ ?_
  show Core Γ WX12_init_87 (HX12_init_86 h) _ _ _ _ _ _
  refine Co_putr (n := 0) g dX12_init_258 ff_Mod_96 (Or.inr ⟨_, rfl⟩) hin ⟨by decide +kernel, by decide +kernel, by decide +kernel⟩ rfl (by decide) ?_
  show Core Γ WX12_init_88 (HX12_init_86 h) _ _ _ _ _ _
  refine Co_aload_n (kk := 0) g dX12_init_261 rfl rfl ?_
  refine Co_sipush g dX12_init_262 ⟨by decide, by decide⟩ rfl ?_
  refine Co_newi (n := 200) g hmk rfl dX12_init_265 ac_int (by decide) ⟨by decide, by decide⟩ ?_
  show Core Γ WX12_init_90 (HX12_init_89 h) _ _ _ _ _ _
  refine Co_putr (n := 0) g dX12_init_267 ff_Mod_99 (Or.inr ⟨_, rfl⟩) hin ⟨by decide +kernel, by decide +kernel, by decide +kernel⟩ rfl (by decide) ?_
  show Core Γ WX12_init_91 (HX12_init_89 h) _ _ _ _ _ _
  refine Co_aload_n (kk := 0) g dX12_init_270 rfl rfl ?_
  refine Co_sipush g dX12_init_271 ⟨by decide, by decide⟩ rfl ?_
  refine Co_newi (n := 256) g hmk rfl dX12_init_274 ac_int (by decide) ⟨by decide, by decide⟩ ?_
  show Core Γ WX12_init_93 (HX12_init_92 h) _ _ _ _ _ _
  refine Co_putr (n := 0) g dX12_init_276 ff_Mod_102 (Or.inr ⟨_, rfl⟩) hin ⟨by decide +kernel, by decide +kernel, by decide +kernel⟩ rfl (by decide) ?_
  show Core Γ WX12_init_94 (HX12_init_92 h) _ _ _ _ _ _
  refine Co_aload_n (kk := 0) g dX12_init_279 rfl rfl ?_
  refine Co_bipush g dX12_init_280 ⟨by decide, by decide⟩ rfl ?_
  refine Co_newi (n := 6) g hmk rfl dX12_init_282 ac_int (by decide) ⟨by decide, by decide⟩ ?_
  show Core Γ WX12_init_96 (HX12_init_95 h) _ _ _ _ _ _
  refine Co_putr (n := 0) g dX12_init_284 ff_Mod_105 (Or.inr ⟨_, rfl⟩) hin ⟨by decide +kernel, by decide +kernel, by decide +kernel⟩ rfl (by decide) ?_
  show Core Γ WX12_init_97 (HX12_init_95 h) _ _ _ _ _ _
  refine Co_aload_n (kk := 0) g dX12_init_287 rfl rfl ?_
  refine Co_bipush g dX12_init_288 ⟨by decide, by decide⟩ rfl ?_
  refine Co_newi (n := 6) g hmk rfl dX12_init_290 ac_int (by decide) ⟨by decide, by decide⟩ ?_
  show Core Γ WX12_init_99 (HX12_init_98 h) _ _ _ _ _ _
  refine Co_putr (n := 0) g dX12_init_292 ff_Mod_108 (Or.inr ⟨_, rfl⟩) hin ⟨by decide +kernel, by decide +kernel, by decide +kernel⟩ rfl (by decide) ?_
  show Core Γ WX12_init_100 (HX12_init_98 h) _ _ _ _ _ _
  refine Co_aload_n (kk := 0) g dX12_init_295 rfl rfl ?_
  refine Co_sipush g dX12_init_296 ⟨by decide, by decide⟩ rfl ?_
  refine Co_newl (n := 1536) g hmk rfl dX12_init_299 ac_long (by decide) ⟨by decide, by decide⟩ ?_
  show Core Γ WX12_init_102 (HX12_init_101 h) _ _ _ _ _ _
  refine Co_putr (n := 0) g dX12_init_301 ff_Mod_111 (Or.inr ⟨_, rfl⟩) hin ⟨by decide +kernel, by decide +kernel, by decide +kernel⟩ rfl (by decide) ?_
  show Core Γ WX12_init_103 (HX12_init_101 h) _ _ _ _ _ _
  refine Co_aload_n (kk := 0) g dX12_init_304 rfl rfl ?_
  refine Co_bipush g dX12_init_305 ⟨by decide, by decide⟩ rfl ?_
  refine Co_newi (n := 10) g hmk rfl dX12_init_307 ac_int (by decide) ⟨by decide, by decide⟩ ?_
  show Core Γ WX12_init_105 (HX12_init_104 h) _ _ _ _ _ _
  refine Co_putr (n := 0) g dX12_init_309 ff_Mod_115 (Or.inr ⟨_, rfl⟩) hin ⟨by decide +kernel, by decide +kernel, by decide +kernel⟩ rfl (by decide) ?_
  show Core Γ WX12_init_106 (HX12_init_104 h) _ _ _ _ _ _
  refine Co_aload_n (kk := 0) g dX12_init_312 rfl rfl ?_
  refine Co_bipush g dX12_init_313 ⟨by decide, by decide⟩ rfl ?_
  refine Co_newi (n := 10) g hmk rfl dX12_init_315 ac_int (by decide) ⟨by decide, by decide⟩ ?_
  show Core Γ WX12_init_108 (HX12_init_107 h) _ _ _ _ _ _
  refine Co_putr (n := 0) g dX12_init_317 ff_Mod_118 (Or.inr ⟨_, rfl⟩) hin ⟨by decide +kernel, by decide +kernel, by decide +kernel⟩ rfl (by decide) ?_
  show Core Γ WX12_init_109 (HX12_init_107 h) _ _ _ _ _ _
  refine Co_aload_n (kk := 0) g dX12_init_320 rfl rfl ?_
  refine Co_bipush g dX12_init_321 ⟨by decide, by decide⟩ rfl ?_
  refine Co_newi (n := 10) g hmk rfl dX12_init_323 ac_int (by decide) ⟨by decide, by decide⟩ ?_
  show Core Γ WX12_init_111 (HX12_init_110 h) _ _ _ _ _ _
  refine Co_putr (n := 0) g dX12_init_325 ff_Mod_121 (Or.inr ⟨_, rfl⟩) hin ⟨by decide +kernel, by decide +kernel, by decide +kernel⟩ rfl (by decide) ?_
  show Core Γ WX12_init_112 (HX12_init_110 h) _ _ _ _ _ _
  refine Co_aload_n (kk := 0) g dX12_init_328 rfl rfl ?_
  refine Co_bipush g dX12_init_329 ⟨by decide, by decide⟩ rfl ?_
  refine Co_newi (n := 10) g hmk rfl dX12_init_331 ac_int (by decide) ⟨by decide, by decide⟩ ?_
  show Core Γ WX12_init_114 (HX12_init_113 h) _ _ _ _ _ _
  refine Co_putr (n := 0) g dX12_init_333 ff_Mod_124 (Or.inr ⟨_, rfl⟩) hin ⟨by decide +kernel, by decide +kernel, by decide +kernel⟩ rfl (by decide) ?_
  show Core Γ WX12_init_115 (HX12_init_113 h) _ _ _ _ _ _
  refine Co_aload_n (kk := 0) g dX12_init_336 rfl rfl ?_
  refine Co_sipush g dX12_init_337 ⟨by decide, by decide⟩ rfl ?_
  refine Co_newi (n := 480) g hmk rfl dX12_init_340 ac_int (by decide) ⟨by decide, by decide⟩ ?_
  show Core Γ WX12_init_117 (HX12_init_116 h) _ _ _ _ _ _
  refine Co_putr (n := 0) g dX12_init_342 ff_Mod_127 (Or.inr ⟨_, rfl⟩) hin ⟨by decide +kernel, by decide +kernel, by decide +kernel⟩ rfl (by decide) ?_
  show Core Γ WX12_init_118 (HX12_init_116 h) _ _ _ _ _ _
  refine Co_aload_n (kk := 0) g dX12_init_345 rfl rfl ?_
  refine Co_sipush g dX12_init_346 ⟨by decide, by decide⟩ rfl ?_
  refine Co_newi (n := 1440) g hmk rfl dX12_init_349 ac_int (by decide) ⟨by decide, by decide⟩ ?_
  show Core Γ WX12_init_120 (HX12_init_119 h) _ _ _ _ _ _
  refine Co_putr (n := 0) g dX12_init_351 ff_Mod_130 (Or.inr ⟨_, rfl⟩) hin ⟨by decide +kernel, by decide +kernel, by decide +kernel⟩ rfl (by decide) ?_
  show Core Γ WX12_init_121 (HX12_init_119 h) _ _ _ _ _ _
  refine Co_aload_n (kk := 0) g dX12_init_354 rfl rfl ?_
  refine Co_bipush g dX12_init_355 ⟨by decide, by decide⟩ rfl ?_
  refine Co_newi (n := 40) g hmk rfl dX12_init_357 ac_int (by decide) ⟨by decide, by decide⟩ ?_
  show Core Γ WX12_init_123 (HX12_init_122 h) _ _ _ _ _ _
  refine Co_putr (n := 0) g dX12_init_359 ff_Mod_133 (Or.inr ⟨_, rfl⟩) hin ⟨by decide +kernel, by decide +kernel, by decide +kernel⟩ rfl (by decide) ?_
  show Core Γ WX12_init_124 (HX12_init_122 h) _ _ _ _ _ _
  refine Co_aload_n (kk := 0) g dX12_init_362 rfl rfl ?_
  refine Co_bipush g dX12_init_363 ⟨by decide, by decide⟩ rfl ?_
  refine Co_newi (n := 20) g hmk rfl dX12_init_365 ac_int (by decide) ⟨by decide, by decide⟩ ?_
  show Core Γ WX12_init_126 (HX12_init_125 h) _ _ _ _ _ _
  refine Co_putr (n := 0) g dX12_init_367 ff_Mod_136 (Or.inr ⟨_, rfl⟩) hin ⟨by decide +kernel, by decide +kernel, by decide +kernel⟩ rfl (by decide) ?_
  show Core Γ WX12_init_127 (HX12_init_125 h) _ _ _ _ _ _
  refine Co_aload_n (kk := 0) g dX12_init_370 rfl rfl ?_
  refine Co_sipush g dX12_init_371 ⟨by decide, by decide⟩ rfl ?_
  refine Co_newi (n := 480) g hmk rfl dX12_init_374 ac_int (by decide) ⟨by decide, by decide⟩ ?_
  show Core Γ WX12_init_129 (HX12_init_128 h) _ _ _ _ _ _
  refine Co_putr (n := 0) g dX12_init_376 ff_Mod_139 (Or.inr ⟨_, rfl⟩) hin ⟨by decide +kernel, by decide +kernel, by decide +kernel⟩ rfl (by decide) ?_
  show Core Γ WX12_init_130 (HX12_init_128 h) _ _ _ _ _ _
  refine Co_aload_n (kk := 0) g dX12_init_379 rfl rfl ?_
  refine Co_sipush g dX12_init_380 ⟨by decide, by decide⟩ rfl ?_
  refine Co_newi (n := 480) g hmk rfl dX12_init_383 ac_int (by decide) ⟨by decide, by decide⟩ ?_
  show Core Γ WX12_init_132 (HX12_init_131 h) _ _ _ _ _ _
  refine Co_putr (n := 0) g dX12_init_385 ff_Mod_142 (Or.inr ⟨_, rfl⟩) hin ⟨by decide +kernel, by decide +kernel, by decide +kernel⟩ rfl (by decide) ?_
  show Core Γ WX12_init_133 (HX12_init_131 h) _ _ _ _ _ _
  refine Co_aload_n (kk := 0) g dX12_init_388 rfl rfl ?_
  refine Co_bipush g dX12_init_389 ⟨by decide, by decide⟩ rfl ?_
  refine Co_newz (n := 120) g hmk rfl dX12_init_391 ac_boolean (by decide) ⟨by decide, by decide⟩ ?_
  show Core Γ WX12_init_135 (HX12_init_134 h) _ _ _ _ _ _
  refine Co_putr (n := 0) g dX12_init_393 ff_Mod_145 (Or.inr ⟨_, rfl⟩) hin ⟨by decide +kernel, by decide +kernel, by decide +kernel⟩ rfl (by decide) ?_
  show Core Γ WX12_init_136 (HX12_init_134 h) _ _ _ _ _ _
  refine Co_aload_n (kk := 0) g dX12_init_396 rfl rfl ?_
  refine Co_bipush g dX12_init_397 ⟨by decide, by decide⟩ rfl ?_
  refine Co_newz (n := 48) g hmk rfl dX12_init_399 ac_boolean (by decide) ⟨by decide, by decide⟩ ?_
  show Core Γ WX12_init_138 (HX12_init_137 h) _ _ _ _ _ _
  refine Co_putr (n := 0) g dX12_init_401 ff_Mod_148 (Or.inr ⟨_, rfl⟩) hin ⟨by decide +kernel, by decide +kernel, by decide +kernel⟩ rfl (by decide) ?_
  show Core Γ WX12_init_139 (HX12_init_137 h) _ _ _ _ _ _
  refine Co_aload_n (kk := 0) g dX12_init_404 rfl rfl ?_
  refine Co_bipush g dX12_init_405 ⟨by decide, by decide⟩ rfl ?_
  refine Co_newi (n := 80) g hmk rfl dX12_init_407 ac_int (by decide) ⟨by decide, by decide⟩ ?_
  show Core Γ WX12_init_141 (HX12_init_140 h) _ _ _ _ _ _
  refine Co_putr (n := 0) g dX12_init_409 ff_Mod_151 (Or.inr ⟨_, rfl⟩) hin ⟨by decide +kernel, by decide +kernel, by decide +kernel⟩ rfl (by decide) ?_
  show Core Γ WX12_init_142 (HX12_init_140 h) _ _ _ _ _ _
  refine Co_aload_n (kk := 0) g dX12_init_412 rfl rfl ?_
  refine Co_bipush g dX12_init_413 ⟨by decide, by decide⟩ rfl ?_
  refine Co_newz (n := 48) g hmk rfl dX12_init_415 ac_boolean (by decide) ⟨by decide, by decide⟩ ?_
  show Core Γ WX12_init_144 (HX12_init_143 h) _ _ _ _ _ _
  refine Co_putr (n := 0) g dX12_init_417 ff_Mod_154 (Or.inr ⟨_, rfl⟩) hin ⟨by decide +kernel, by decide +kernel, by decide +kernel⟩ rfl (by decide) ?_
  show Core Γ WX12_init_145 (HX12_init_143 h) _ _ _ _ _ _
  refine Co_aload_n (kk := 0) g dX12_init_420 rfl rfl ?_
  refine Co_sipush g dX12_init_421 ⟨by decide, by decide⟩ rfl ?_
  refine Co_newl (n := 384) g hmk rfl dX12_init_424 ac_long (by decide) ⟨by decide, by decide⟩ ?_
  show Core Γ WX12_init_147 (HX12_init_146 h) _ _ _ _ _ _
  refine Co_putr (n := 0) g dX12_init_426 ff_Mod_157 (Or.inr ⟨_, rfl⟩) hin ⟨by decide +kernel, by decide +kernel, by decide +kernel⟩ rfl (by decide) ?_
  show Core Γ WX12_init_148 (HX12_init_146 h) _ _ _ _ _ _
  refine Co_aload_n (kk := 0) g dX12_init_429 rfl rfl ?_
  refine Co_iconst g dX12_init_430 ⟨by decide, by decide⟩ ?_
  refine Co_newi (n := 3) g hmk rfl dX12_init_431 ac_int (by decide) ⟨by decide, by decide⟩ ?_
  show Core Γ WX12_init_150 (HX12_init_149 h) _ _ _ _ _ _
  refine Co_putr (n := 0) g dX12_init_433 ff_Mod_160 (Or.inr ⟨_, rfl⟩) hin ⟨by decide +kernel, by decide +kernel, by decide +kernel⟩ rfl (by decide) ?_
  show Core Γ WX12_init_151 (HX12_init_149 h) _ _ _ _ _ _
  refine Co_aload_n (kk := 0) g dX12_init_436 rfl rfl ?_
  refine Co_bipush g dX12_init_437 ⟨by decide, by decide⟩ rfl ?_
  refine Co_newl (n := 32) g hmk rfl dX12_init_439 ac_long (by decide) ⟨by decide, by decide⟩ ?_
  show Core Γ WX12_init_153 (HX12_init_152 h) _ _ _ _ _ _
  refine Co_putr (n := 0) g dX12_init_441 ff_Mod_163 (Or.inr ⟨_, rfl⟩) hin ⟨by decide +kernel, by decide +kernel, by decide +kernel⟩ rfl (by decide) ?_
  show Core Γ WX12_init_154 (HX12_init_152 h) _ _ _ _ _ _
  refine Co_aload_n (kk := 0) g dX12_init_444 rfl rfl ?_
  refine Co_sipush g dX12_init_445 ⟨by decide, by decide⟩ rfl ?_
  refine Co_newi (n := 256) g hmk rfl dX12_init_448 ac_int (by decide) ⟨by decide, by decide⟩ ?_
  show Core Γ WX12_init_156 (HX12_init_155 h) _ _ _ _ _ _
  refine Co_putr (n := 0) g dX12_init_450 ff_Mod_166 (Or.inr ⟨_, rfl⟩) hin ⟨by decide +kernel, by decide +kernel, by decide +kernel⟩ rfl (by decide) ?_
  show Core Γ WX12_init_157 (HX12_init_155 h) _ _ _ _ _ _
  refine Co_aload_n (kk := 0) g dX12_init_453 rfl rfl ?_
  refine Co_iconst g dX12_init_454 ⟨by decide, by decide⟩ ?_
  refine Co_newz (n := 4) g hmk rfl dX12_init_455 ac_boolean (by decide) ⟨by decide, by decide⟩ ?_
  show Core Γ WX12_init_159 (HX12_init_158 h) _ _ _ _ _ _
  refine Co_putr (n := 0) g dX12_init_457 ff_Mod_169 (Or.inr ⟨_, rfl⟩) hin ⟨by decide +kernel, by decide +kernel, by decide +kernel⟩ rfl (by decide) ?_
  show Core Γ WX12_init_160 (HX12_init_158 h) _ _ _ _ _ _
  refine Co_aload_n (kk := 0) g dX12_init_460 rfl rfl ?_
  refine Co_sipush g dX12_init_461 ⟨by decide, by decide⟩ rfl ?_
  refine Co_newi (n := 1024) g hmk rfl dX12_init_464 ac_int (by decide) ⟨by decide, by decide⟩ ?_
  show Core Γ WX12_init_162 (HX12_init_161 h) _ _ _ _ _ _
  refine Co_putr (n := 0) g dX12_init_466 ff_Mod_172 (Or.inr ⟨_, rfl⟩) hin ⟨by decide +kernel, by decide +kernel, by decide +kernel⟩ rfl (by decide) ?_
  show Core Γ WX12_init_163 (HX12_init_161 h) _ _ _ _ _ _
  refine Co_aload_n (kk := 0) g dX12_init_469 rfl rfl ?_
  refine Co_bipush g dX12_init_470 ⟨by decide, by decide⟩ rfl ?_
  refine Co_newi (n := 8) g hmk rfl dX12_init_472 ac_int (by decide) ⟨by decide, by decide⟩ ?_
  show Core Γ WX12_init_165 (HX12_init_164 h) _ _ _ _ _ _
  refine Co_putr (n := 0) g dX12_init_474 ff_Mod_175 (Or.inr ⟨_, rfl⟩) hin ⟨by decide +kernel, by decide +kernel, by decide +kernel⟩ rfl (by decide) ?_
  show Core Γ WX12_init_166 (HX12_init_164 h) _ _ _ _ _ _
  refine Co_aload_n (kk := 0) g dX12_init_477 rfl rfl ?_
  refine Co_iconst g dX12_init_478 ⟨by decide, by decide⟩ ?_
  refine Co_newi (n := 3) g hmk rfl dX12_init_479 ac_int (by decide) ⟨by decide, by decide⟩ ?_
  show Core Γ WX12_init_168 (HX12_init_167 h) _ _ _ _ _ _
  refine Co_putr (n := 0) g dX12_init_481 ff_Mod_178 (Or.inr ⟨_, rfl⟩) hin ⟨by decide +kernel, by decide +kernel, by decide +kernel⟩ rfl (by decide) ?_
  show Core Γ WX12_init_169 (HX12_init_167 h) _ _ _ _ _ _
  refine Co_aload_n (kk := 0) g dX12_init_484 rfl rfl ?_
  refine Co_iconst g dX12_init_485 ⟨by decide, by decide⟩ ?_
  refine Co_newi (n := 3) g hmk rfl dX12_init_486 ac_int (by decide) ⟨by decide, by decide⟩ ?_
  show Core Γ WX12_init_171 (HX12_init_170 h) _ _ _ _ _ _
  refine Co_putr (n := 0) g dX12_init_488 ff_Mod_181 (Or.inr ⟨_, rfl⟩) hin ⟨by decide +kernel, by decide +kernel, by decide +kernel⟩ rfl (by decide) ?_
  show Core Γ WX12_init_172 (HX12_init_170 h) _ _ _ _ _ _
  refine Co_aload_n (kk := 0) g dX12_init_491 rfl rfl ?_
  refine Co_bipush g dX12_init_492 ⟨by decide, by decide⟩ rfl ?_
  refine Co_newi (n := 10) g hmk rfl dX12_init_494 ac_int (by decide) ⟨by decide, by decide⟩ ?_
  show Core Γ WX12_init_174 (HX12_init_173 h) _ _ _ _ _ _
  refine Co_putr (n := 0) g dX12_init_496 ff_Mod_184 (Or.inr ⟨_, rfl⟩) hin ⟨by decide +kernel, by decide +kernel, by decide +kernel⟩ rfl (by decide) ?_
  show Core Γ WX12_init_175 (HX12_init_173 h) _ _ _ _ _ _
  refine Co_aload_n (kk := 0) g dX12_init_499 rfl rfl ?_
  refine Co_sipush g dX12_init_500 ⟨by decide, by decide⟩ rfl ?_
  refine Co_newi (n := 4096) g hmk rfl dX12_init_503 ac_int (by decide) ⟨by decide, by decide⟩ ?_
  show Core Γ WX12_init_177 (HX12_init_176 h) _ _ _ _ _ _
  refine Co_putr (n := 0) g dX12_init_505 ff_Mod_187 (Or.inr ⟨_, rfl⟩) hin ⟨by decide +kernel, by decide +kernel, by decide +kernel⟩ rfl (by decide) ?_
  show Core Γ WX12_init_178 (HX12_init_176 h) _ _ _ _ _ _
  refine Co_aload_n (kk := 0) g dX12_init_508 rfl rfl ?_
  refine Co_bipush g dX12_init_509 ⟨by decide, by decide⟩ rfl ?_
  refine Co_newi (n := 48) g hmk rfl dX12_init_511 ac_int (by decide) ⟨by decide, by decide⟩ ?_
  show Core Γ WX12_init_180 (HX12_init_179 h) _ _ _ _ _ _
  refine Co_putr (n := 0) g dX12_init_513 ff_Mod_190 (Or.inr ⟨_, rfl⟩) hin ⟨by decide +kernel, by decide +kernel, by decide +kernel⟩ rfl (by decide) ?_
  show Core Γ WX12_init_181 (HX12_init_179 h) _ _ _ _ _ _
  refine Co_aload_n (kk := 0) g dX12_init_516 rfl rfl ?_
  refine Co_bipush g dX12_init_517 ⟨by decide, by decide⟩ rfl ?_
  refine Co_newi (n := 24) g hmk rfl dX12_init_519 ac_int (by decide) ⟨by decide, by decide⟩ ?_
  show Core Γ WX12_init_183 (HX12_init_182 h) _ _ _ _ _ _
  refine Co_putr (n := 0) g dX12_init_521 ff_Mod_193 (Or.inr ⟨_, rfl⟩) hin ⟨by decide +kernel, by decide +kernel, by decide +kernel⟩ rfl (by decide) ?_
  show Core Γ WX12_init_184 (HX12_init_182 h) _ _ _ _ _ _
  refine Co_aload_n (kk := 0) g dX12_init_524 rfl rfl ?_
  refine Co_sipush g dX12_init_525 ⟨by decide, by decide⟩ rfl ?_
  refine Co_newi (n := 256) g hmk rfl dX12_init_528 ac_int (by decide) ⟨by decide, by decide⟩ ?_
  show Core Γ WX12_init_186 (HX12_init_185 h) _ _ _ _ _ _
  refine Co_putr (n := 0) g dX12_init_530 ff_Mod_196 (Or.inr ⟨_, rfl⟩) hin ⟨by decide +kernel, by decide +kernel, by decide +kernel⟩ rfl (by decide) ?_
  show Core Γ WX12_init_187 (HX12_init_185 h) _ _ _ _ _ _
  refine Co_aload_n (kk := 0) g dX12_init_533 rfl rfl ?_
  refine Co_sipush g dX12_init_534 ⟨by decide, by decide⟩ rfl ?_
  refine Co_newl (n := 256) g hmk rfl dX12_init_537 ac_long (by decide) ⟨by decide, by decide⟩ ?_
  show Core Γ WX12_init_189 (HX12_init_188 h) _ _ _ _ _ _
  refine Co_putr (n := 0) g dX12_init_539 ff_Mod_199 (Or.inr ⟨_, rfl⟩) hin ⟨by decide +kernel, by decide +kernel, by decide +kernel⟩ rfl (by decide) ?_
  show Core Γ WX12_init_190 (HX12_init_188 h) _ _ _ _ _ _
  refine Co_iconst g dX12_init_542 ⟨by decide, by decide⟩ ?_
  refine Co_istore_n g dX12_init_543 rfl (by decide) rfl ?_
  have := X12_init_loop g hmk (HX12_init_188 h) 48 0 rfl
  rw [fillP_0] at this
  exact this
