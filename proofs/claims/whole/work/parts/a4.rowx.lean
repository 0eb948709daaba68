abbrev cX11_row : ByteArray := prog_1_method_12_code
def yX11_row : MethodName := ⟨"GatePatch", "row", "(III)J"⟩
theorem dX11_row_0 : decode cX11_row 0 = .ok (.aload_n 0, 1) := by decide +kernel
theorem dX11_row_1 : decode cX11_row 1 = .ok (.iload_n 1, 1) := by decide +kernel
theorem dX11_row_2 : decode cX11_row 2 = .ok (.invokevirtual 126, 3) := by decide +kernel
theorem dX11_row_5 : decode cX11_row 5 = .ok (.astore 4, 2) := by decide +kernel
theorem dX11_row_7 : decode cX11_row 7 = .ok (.aload 4, 2) := by decide +kernel
theorem dX11_row_9 : decode cX11_row 9 = .ok (.ifnull 24, 3) := by decide +kernel
theorem dX11_row_12 : decode cX11_row 12 = .ok (.aload 4, 2) := by decide +kernel
theorem dX11_row_14 : decode cX11_row 14 = .ok (.getfield 130, 3) := by decide +kernel
theorem dX11_row_17 : decode cX11_row 17 = .ok (.iload_n 2, 1) := by decide +kernel
theorem dX11_row_18 : decode cX11_row 18 = .ok (.invokevirtual 158, 3) := by decide +kernel
theorem dX11_row_21 : decode cX11_row 21 = .ok (.ifCond .eq 12, 3) := by decide +kernel
theorem dX11_row_24 : decode cX11_row 24 = .ok (.iload_n 3, 1) := by decide +kernel
theorem dX11_row_25 : decode cX11_row 25 = .ok (.ifCond .lt 8, 3) := by decide +kernel
theorem dX11_row_28 : decode cX11_row 28 = .ok (.iload_n 3, 1) := by decide +kernel
theorem dX11_row_29 : decode cX11_row 29 = .ok (.iconst 4, 1) := by decide +kernel
theorem dX11_row_30 : decode cX11_row 30 = .ok (.if_icmp .lt 13, 3) := by decide +kernel
theorem dX11_row_33 : decode cX11_row 33 = .ok (.new 202, 3) := by decide +kernel
theorem dX11_row_36 : decode cX11_row 36 = .ok (.dup, 1) := by decide +kernel
theorem dX11_row_37 : decode cX11_row 37 = .ok (.ldc 204, 2) := by decide +kernel
theorem dX11_row_39 : decode cX11_row 39 = .ok (.invokespecial 206, 3) := by decide +kernel
theorem dX11_row_42 : decode cX11_row 42 = .ok (.athrow, 1) := by decide +kernel
theorem dX11_row_43 : decode cX11_row 43 = .ok (.aload 4, 2) := by decide +kernel
theorem dX11_row_45 : decode cX11_row 45 = .ok (.invokevirtual 169, 3) := by decide +kernel
theorem dX11_row_48 : decode cX11_row 48 = .ok (.aload 4, 2) := by decide +kernel
theorem dX11_row_50 : decode cX11_row 50 = .ok (.getfield 198, 3) := by decide +kernel
theorem dX11_row_53 : decode cX11_row 53 = .ok (.iconst 4, 1) := by decide +kernel
theorem dX11_row_54 : decode cX11_row 54 = .ok (.iload_n 2, 1) := by decide +kernel
theorem dX11_row_55 : decode cX11_row 55 = .ok (.imul, 1) := by decide +kernel
theorem dX11_row_56 : decode cX11_row 56 = .ok (.iload_n 3, 1) := by decide +kernel
theorem dX11_row_57 : decode cX11_row 57 = .ok (.iadd, 1) := by decide +kernel
theorem dX11_row_58 : decode cX11_row 58 = .ok (.laload, 1) := by decide +kernel
theorem dX11_row_59 : decode cX11_row 59 = .ok (.aload_n 0, 1) := by decide +kernel
theorem dX11_row_60 : decode cX11_row 60 = .ok (.getfield 24, 3) := by decide +kernel
theorem dX11_row_63 : decode cX11_row 63 = .ok (.getfield 209, 3) := by decide +kernel
theorem dX11_row_66 : decode cX11_row 66 = .ok (.iload_n 3, 1) := by decide +kernel
theorem dX11_row_67 : decode cX11_row 67 = .ok (.laload, 1) := by decide +kernel
theorem dX11_row_68 : decode cX11_row 68 = .ok (.land, 1) := by decide +kernel
theorem dX11_row_69 : decode cX11_row 69 = .ok (.lreturn, 1) := by decide +kernel
abbrev cX11_at : ByteArray := prog_1_method_54_code
def yX11_at : MethodName := ⟨"GatePatch", "at", "(II)J"⟩
theorem dX11_at_0 : decode cX11_at 0 = .ok (.iload_n 1, 1) := by decide +kernel
theorem dX11_at_1 : decode cX11_at 1 = .ok (.invokestatic 250, 3) := by decide +kernel
theorem dX11_at_4 : decode cX11_at 4 = .ok (.ifCond .ne 14, 3) := by decide +kernel
theorem dX11_at_7 : decode cX11_at 7 = .ok (.new 202, 3) := by decide +kernel
theorem dX11_at_10 : decode cX11_at 10 = .ok (.dup, 1) := by decide +kernel
theorem dX11_at_11 : decode cX11_at 11 = .ok (.ldc_w 477, 3) := by decide +kernel
theorem dX11_at_14 : decode cX11_at 14 = .ok (.invokespecial 206, 3) := by decide +kernel
theorem dX11_at_17 : decode cX11_at 17 = .ok (.athrow, 1) := by decide +kernel
theorem dX11_at_18 : decode cX11_at 18 = .ok (.aload_n 0, 1) := by decide +kernel
theorem dX11_at_19 : decode cX11_at 19 = .ok (.getfield 76, 3) := by decide +kernel
theorem dX11_at_22 : decode cX11_at 22 = .ok (.iload_n 1, 1) := by decide +kernel
theorem dX11_at_23 : decode cX11_at 23 = .ok (.aaload, 1) := by decide +kernel
theorem dX11_at_24 : decode cX11_at 24 = .ok (.invokevirtual 467, 3) := by decide +kernel
theorem dX11_at_27 : decode cX11_at 27 = .ok (.ifCond .eq 16, 3) := by decide +kernel
theorem dX11_at_30 : decode cX11_at 30 = .ok (.aload_n 0, 1) := by decide +kernel
theorem dX11_at_31 : decode cX11_at 31 = .ok (.getfield 76, 3) := by decide +kernel
theorem dX11_at_34 : decode cX11_at 34 = .ok (.iload_n 1, 1) := by decide +kernel
theorem dX11_at_35 : decode cX11_at 35 = .ok (.aaload, 1) := by decide +kernel
theorem dX11_at_36 : decode cX11_at 36 = .ok (.iload_n 2, 1) := by decide +kernel
theorem dX11_at_37 : decode cX11_at 37 = .ok (.invokevirtual 470, 3) := by decide +kernel
theorem dX11_at_40 : decode cX11_at 40 = .ok (.ifCond .ne 14, 3) := by decide +kernel
theorem dX11_at_43 : decode cX11_at 43 = .ok (.new 479, 3) := by decide +kernel
theorem dX11_at_46 : decode cX11_at 46 = .ok (.dup, 1) := by decide +kernel
theorem dX11_at_47 : decode cX11_at 47 = .ok (.ldc_w 481, 3) := by decide +kernel
theorem dX11_at_50 : decode cX11_at 50 = .ok (.invokespecial 483, 3) := by decide +kernel
theorem dX11_at_53 : decode cX11_at 53 = .ok (.athrow, 1) := by decide +kernel
theorem dX11_at_54 : decode cX11_at 54 = .ok (.aload_n 0, 1) := by decide +kernel
theorem dX11_at_55 : decode cX11_at 55 = .ok (.getfield 76, 3) := by decide +kernel
theorem dX11_at_58 : decode cX11_at 58 = .ok (.iload_n 1, 1) := by decide +kernel
theorem dX11_at_59 : decode cX11_at 59 = .ok (.aaload, 1) := by decide +kernel
theorem dX11_at_60 : decode cX11_at 60 = .ok (.getfield 257, 3) := by decide +kernel
theorem dX11_at_63 : decode cX11_at 63 = .ok (.iload_n 2, 1) := by decide +kernel
theorem dX11_at_64 : decode cX11_at 64 = .ok (.laload, 1) := by decide +kernel
theorem dX11_at_65 : decode cX11_at 65 = .ok (.lreturn, 1) := by decide +kernel
theorem fl_GP_209 : FL "GatePatch" 209 0 2 := ⟨R_Cases, T_Cases, 4, ty_Cases, ci_Cases, by decide, mem_t 142 (by decide +kernel) rfl⟩
theorem cl_GP_202 : Cond.classLink "GatePatch" 202 IAE ∈ tblG := mem_t 1236 (by decide +kernel) rfl
theorem cl_GP_479 : Cond.classLink "GatePatch" 479 ISE ∈ tblG := mem_t 1312 (by decide +kernel) rfl
theorem ini_IAE : Cond.initialized IAE ∈ tblG := mem_t 18 (by decide +kernel) rfl
theorem ini_ISE : Cond.initialized ISE ∈ tblG := mem_t 23 (by decide +kernel) rfl
def rmX : Room := { frames := 20, cells := 1, slots := 6, locals := 2000 }
def SimX (Γ : Cx) (w : Wd) (X : OR) (h : Hp) (pc : Nat) (ls : List (Nat × AV)) (st : List AV) : Prop := ∀ r h', X = some (r, h') → Core Γ w h 0 0 (QX Γ 1 6 w h' r) pc ls st
theorem SX_aaload {Γ : Cx} {cc : ByteArray} {nL : Nat} {own : String} {ret : Option FieldType} {rr : Room} (g : Gd Γ cc nL own ret rr) {w : Wd} {h : Hp} {pc : Nat} {ls : List (Nat × AV)} {st : List AV} {X : OR} {a n t : Nat} {i : Int} (hd : decode cc pc = .ok (.aaload, 1)) (hs : At w a (2, t, n)) (ht : t = 4 ∨ t = 5) (kq : SimX Γ w X h (pc + 1) ls (vP (h a i.toNat).toNat :: st)) : SimX Γ w (inb i n (X)) h pc ls (vI i :: vP a :: st) := by
  intro r h9 e
  obtain ⟨c1, c2, e⟩ := inb_e e
  exact Co_aaload g hd hs ht c1 c2 (kq r h9 e)
theorem SX_aload {Γ : Cx} {cc : ByteArray} {nL : Nat} {own : String} {ret : Option FieldType} {rr : Room} (g : Gd Γ cc nL own ret rr) {w : Wd} {h : Hp} {pc : Nat} {ls : List (Nat × AV)} {st : List AV} {X : OR} {kk i : Nat} {a : Nat} (hd : decode cc pc = .ok (.aload i, 2)) (hl : ls[kk]? = some (i, vP a)) (kq : SimX Γ w X h (pc + 2) ls (vP a :: st)) : SimX Γ w (X) h pc ls (st) := by
  intro r h9 e
  exact Co_aload g hd hl (kq r h9 e)
theorem SX_aload_n {Γ : Cx} {cc : ByteArray} {nL : Nat} {own : String} {ret : Option FieldType} {rr : Room} (g : Gd Γ cc nL own ret rr) {w : Wd} {h : Hp} {pc : Nat} {ls : List (Nat × AV)} {st : List AV} {X : OR} {kk i : Nat} {j : Fin 4} {a : Nat} (hd : decode cc pc = .ok (.aload_n j, 1)) (hi : (j : Nat) = i) (hl : ls[kk]? = some (i, vP a)) (kq : SimX Γ w X h (pc + 1) ls (vP a :: st)) : SimX Γ w (X) h pc ls (st) := by
  intro r h9 e
  exact Co_aload_n g hd hi hl (kq r h9 e)
theorem SX_asr {Γ : Cx} {w : Wd} {h : Hp} {pc : Nat} {ls : List (Nat × AV)} {st : List AV} {p : Prop} [Decidable p] {X : OR} (k : p → SimX Γ w X h pc ls st) : SimX Γ w (asr p X) h pc ls st := by
  intro r h9 e
  unfold asr at e
  by_cases c : p
  · exact k c r h9 (if_t e c)
  · rw [if_neg c] at e; cases e
theorem SX_astore {Γ : Cx} {cc : ByteArray} {nL : Nat} {own : String} {ret : Option FieldType} {rr : Room} (g : Gd Γ cc nL own ret rr) {w : Wd} {h : Hp} {pc : Nat} {ls : List (Nat × AV)} {st : List AV} {X : OR} {i a : Nat} {ls' : List (Nat × AV)} (hd : decode cc pc = .ok (.astore i, 2)) (hn : i < nL) (hl : stL i (vP a) ls = ls') (kq : SimX Γ w X h (pc + 2) ls' st) : SimX Γ w (X) h pc ls (vP a :: st) := by
  intro r h9 e
  exact Co_astore g hd hn hl (kq r h9 e)
theorem SX_callSi {Γ : Cx} {cc : ByteArray} {nL : Nat} {own : String} {ret : Option FieldType} (g : Gd Γ cc nL own ret rmX) {w : Wd} {h : Hp} {pc : Nat} {ls : List (Nat × AV)} {st : List AV} {y : MethodName} {bytes : ByteArray} {maxL d idx : Nat} {ret' : Option FieldType} {As S : List AV} {Y : OR} {f : Int → Hp → OR} (hd : decode cc pc = .ok (.invokestatic idx, 3)) (hC : SC Γ.1 w y (Cond.code y bytes maxL ret') d 0 As Y h) (hst : S = As.reverse ++ st) (hsta : Cond.static y ∈ tblG) (hcw : Cond.code y bytes maxL ret' ∈ tblG) (hml1 : Cond.methodLink own idx y ∈ tblG) (hini : Cond.initialized y.cls ∈ tblG) (hd3 : y.cls ≠ "java/lang/invoke/MethodHandle" ∧ y.cls ≠ "java/lang/invoke/VarHandle" ∧ (parseMethodDescriptor y.desc).map (fun d => d.parameters.length) = some As.length) (hR : d < 20 ∧ maxL ≤ 81) (hroom : aw st ≤ 8) (k : ∀ r h2, SimX Γ w (f r h2) h2 (pc + 3) ls (vI r :: st)) : SimX Γ w (cal Y f) h pc ls S := by
  intro r h9 e
  obtain ⟨r1, h1, e1, e2⟩ := cal_e e
  exact Co_callS g hd (hC r1 h1 e1) hst hsta hcw hml1 hini hd3 ⟨hR.1, by show 8 + (maxL + 11) + 100 * d ≤ 2000; have := hR.1; have := hR.2; omega⟩ ⟨Nat.zero_le _, Nat.zero_le _⟩ hroom (fun _ _ => trivial) (fun q _ => by unfold refOk; split <;> trivial) (fun q _ => by unfold refOk; split <;> trivial) (k r1 h1 r h9 e2)
theorem SX_callVi {Γ : Cx} {cc : ByteArray} {nL : Nat} {own : String} {ret : Option FieldType} (g : Gd Γ cc nL own ret rmX) {w : Wd} {h : Hp} {pc : Nat} {ls : List (Nat × AV)} {st : List AV} {y : MethodName} {bytes : ByteArray} {maxL d idx b ci n N : Nat} {T : u_T} {ret' : Option FieldType} {As S : List AV} {Y : OR} {f : Int → Hp → OR} (hd : decode cc pc = .ok (.invokevirtual idx, 3)) (hC : SC Γ.1 w y (Cond.code y bytes maxL ret') d 0 (vP b :: As) Y h) (hst : S = As.reverse ++ vP b :: st) (hs : At w b (1, ci, n)) (hc : clT[ci]? = some (y.cls, T, N)) (him : Cond.instanceMethod y ∈ tblG) (hse : Cond.selects y.cls y y ∈ tblG) (hcw : Cond.code y bytes maxL ret' ∈ tblG) (hml1 : Cond.methodLink own idx y ∈ tblG) (hini : Cond.initialized y.cls ∈ tblG) (hd3 : y.cls ≠ "java/lang/invoke/MethodHandle" ∧ y.cls ≠ "java/lang/invoke/VarHandle" ∧ (parseMethodDescriptor y.desc).map (fun d => d.parameters.length) = some As.length) (hR : d < 20 ∧ maxL ≤ 81) (hroom : aw st ≤ 8) (k : ∀ r h2, SimX Γ w (f r h2) h2 (pc + 3) ls (vI r :: st)) : SimX Γ w (cal Y f) h pc ls S := by
  intro r h9 e
  obtain ⟨r1, h1, e1, e2⟩ := cal_e e
  exact Co_callV g hd (hC r1 h1 e1) hst hs hc him hse hcw hml1 hini hd3 ⟨hR.1, by show 8 + (maxL + 11) + 100 * d ≤ 2000; have := hR.1; have := hR.2; omega⟩ ⟨Nat.zero_le _, Nat.zero_le _⟩ hroom (fun _ _ => trivial) (fun q _ => by unfold refOk; split <;> trivial) (fun q _ => by unfold refOk; split <;> trivial) (k r1 h1 r h9 e2)
theorem SX_callVp {Γ : Cx} {cc : ByteArray} {nL : Nat} {own : String} {ret : Option FieldType} (g : Gd Γ cc nL own ret rmX) {w : Wd} {h : Hp} {pc : Nat} {ls : List (Nat × AV)} {st : List AV} {y : MethodName} {bytes : ByteArray} {maxL d idx b ci n N : Nat} {T : u_T} {ret' : Option FieldType} {As S : List AV} {Y : OR} {f : Int → Hp → OR} (hd : decode cc pc = .ok (.invokevirtual idx, 3)) (hC : SC Γ.1 w y (Cond.code y bytes maxL ret') d 2 (vP b :: As) Y h) (hst : S = As.reverse ++ vP b :: st) (hs : At w b (1, ci, n)) (hc : clT[ci]? = some (y.cls, T, N)) (him : Cond.instanceMethod y ∈ tblG) (hse : Cond.selects y.cls y y ∈ tblG) (hcw : Cond.code y bytes maxL ret' ∈ tblG) (hml1 : Cond.methodLink own idx y ∈ tblG) (hini : Cond.initialized y.cls ∈ tblG) (hd3 : y.cls ≠ "java/lang/invoke/MethodHandle" ∧ y.cls ≠ "java/lang/invoke/VarHandle" ∧ (parseMethodDescriptor y.desc).map (fun d => d.parameters.length) = some As.length) (hR : d < 20 ∧ maxL ≤ 81) (hroom : aw st ≤ 8) (k : ∀ r h2, SimX Γ w (f r h2) h2 (pc + 3) ls (vP r.toNat :: st)) : SimX Γ w (cal Y f) h pc ls S := by
  intro r h9 e
  obtain ⟨r1, h1, e1, e2⟩ := cal_e e
  exact Co_callV g hd (hC r1 h1 e1) hst hs hc him hse hcw hml1 hini hd3 ⟨hR.1, by show 8 + (maxL + 11) + 100 * d ≤ 2000; have := hR.1; have := hR.2; omega⟩ ⟨Nat.zero_le _, Nat.zero_le _⟩ hroom (fun _ _ => trivial) (fun q _ => by unfold refOk; split <;> trivial) (fun q _ => by unfold refOk; split <;> trivial) (k r1 h1 r h9 e2)
theorem SX_callVv {Γ : Cx} {cc : ByteArray} {nL : Nat} {own : String} {ret : Option FieldType} (g : Gd Γ cc nL own ret rmX) {w : Wd} {h : Hp} {pc : Nat} {ls : List (Nat × AV)} {st : List AV} {y : MethodName} {bytes : ByteArray} {maxL d idx b ci n N : Nat} {T : u_T} {ret' : Option FieldType} {As S : List AV} {Y : OR} {f : Int → Hp → OR} (hd : decode cc pc = .ok (.invokevirtual idx, 3)) (hC : SC Γ.1 w y (Cond.code y bytes maxL ret') d 3 (vP b :: As) Y h) (hst : S = As.reverse ++ vP b :: st) (hs : At w b (1, ci, n)) (hc : clT[ci]? = some (y.cls, T, N)) (him : Cond.instanceMethod y ∈ tblG) (hse : Cond.selects y.cls y y ∈ tblG) (hcw : Cond.code y bytes maxL ret' ∈ tblG) (hml1 : Cond.methodLink own idx y ∈ tblG) (hini : Cond.initialized y.cls ∈ tblG) (hd3 : y.cls ≠ "java/lang/invoke/MethodHandle" ∧ y.cls ≠ "java/lang/invoke/VarHandle" ∧ (parseMethodDescriptor y.desc).map (fun d => d.parameters.length) = some As.length) (hR : d < 20 ∧ maxL ≤ 81) (hroom : aw st ≤ 8) (k : ∀ r h2, SimX Γ w (f r h2) h2 (pc + 3) ls st) : SimX Γ w (cal Y f) h pc ls S := by
  intro r h9 e
  obtain ⟨r1, h1, e1, e2⟩ := cal_e e
  exact Co_callV g hd (hC r1 h1 e1) hst hs hc him hse hcw hml1 hini hd3 ⟨hR.1, by show 8 + (maxL + 11) + 100 * d ≤ 2000; have := hR.1; have := hR.2; omega⟩ ⟨Nat.zero_le _, Nat.zero_le _⟩ hroom (fun _ _ => trivial) (fun q _ => by unfold refOk; split <;> trivial) (fun q _ => by unfold refOk; split <;> trivial) (k r1 h1 r h9 e2)
theorem SX_getr {Γ : Cx} {cc : ByteArray} {nL : Nat} {own : String} {ret : Option FieldType} {rr : Room} (g : Gd Γ cc nL own ret rr) {w : Wd} {h : Hp} {pc : Nat} {ls : List (Nat × AV)} {st : List AV} {X : OR} {a idx ci k n b : Nat} (hd : decode cc pc = .ok (.getfield idx, 3)) (hf : FL own idx ci k) (hs : At w a (1, ci, n)) (ht : ft ci k = 2) (hr : w.2.2 a k = b) (kq : SimX Γ w X h (pc + 3) ls (vP b :: st)) : SimX Γ w (X) h pc ls (vP a :: st) := by
  intro r h9 e
  exact Co_getr g hd hf hs ht hr (kq r h9 e)
theorem SX_iadd {Γ : Cx} {cc : ByteArray} {nL : Nat} {own : String} {ret : Option FieldType} {rr : Room} (g : Gd Γ cc nL own ret rr) {w : Wd} {h : Hp} {pc : Nat} {ls : List (Nat × AV)} {st : List AV} {X : OR} {a b : Int} (hd : decode cc pc = .ok (.iadd, 1)) (kq : SimX Γ w X h (pc + 1) ls (vI (a + b) :: st)) : SimX Γ w (chk (a + b) (X)) h pc ls (vI b :: vI a :: st) := by
  intro r h9 e
  obtain ⟨c1, e⟩ := chk_e e
  exact Co_iadd g hd c1 (kq r h9 e)
theorem SX_iconst {Γ : Cx} {cc : ByteArray} {nL : Nat} {own : String} {ret : Option FieldType} {rr : Room} (g : Gd Γ cc nL own ret rr) {w : Wd} {h : Hp} {pc : Nat} {ls : List (Nat × AV)} {st : List AV} {X : OR} {n : Int} (hd : decode cc pc = .ok (.iconst n, 1)) (hr : inI n) (kq : SimX Γ w X h (pc + 1) ls (vI n :: st)) : SimX Γ w (X) h pc ls (st) := by
  intro r h9 e
  exact Co_iconst g hd hr (kq r h9 e)
theorem SX_if_eq {Γ : Cx} {cc : ByteArray} {nL : Nat} {own : String} {ret : Option FieldType} {rr : Room} (g : Gd Γ cc nL own ret rr) {w : Wd} {h : Hp} {pc : Nat} {ls : List (Nat × AV)} {st : List AV} {X Y : OR} {a : Int} {off : Int} {tgt : Nat} (hd : decode cc pc = .ok (.ifCond .eq off, 3)) (ht : (pc : Int) + off = (tgt : Int)) (kt : SimX Γ w X h tgt ls st) (kf : SimX Γ w Y h (pc + 3) ls st) : SimX Γ w (if a = 0 then X else Y) h pc ls (vI a :: st) := fun r h9 e => Co_if_eq g hd ht (fun c => kt r h9 (if_t e c)) (fun c => kf r h9 (if_f e c))
theorem SX_if_lt {Γ : Cx} {cc : ByteArray} {nL : Nat} {own : String} {ret : Option FieldType} {rr : Room} (g : Gd Γ cc nL own ret rr) {w : Wd} {h : Hp} {pc : Nat} {ls : List (Nat × AV)} {st : List AV} {X Y : OR} {a : Int} {off : Int} {tgt : Nat} (hd : decode cc pc = .ok (.ifCond .lt off, 3)) (ht : (pc : Int) + off = (tgt : Int)) (kt : SimX Γ w X h tgt ls st) (kf : SimX Γ w Y h (pc + 3) ls st) : SimX Γ w (if a < 0 then X else Y) h pc ls (vI a :: st) := fun r h9 e => Co_if_lt g hd ht (fun c => kt r h9 (if_t e c)) (fun c => kf r h9 (if_f e c))
theorem SX_if_ne {Γ : Cx} {cc : ByteArray} {nL : Nat} {own : String} {ret : Option FieldType} {rr : Room} (g : Gd Γ cc nL own ret rr) {w : Wd} {h : Hp} {pc : Nat} {ls : List (Nat × AV)} {st : List AV} {X Y : OR} {a : Int} {off : Int} {tgt : Nat} (hd : decode cc pc = .ok (.ifCond .ne off, 3)) (ht : (pc : Int) + off = (tgt : Int)) (kt : SimX Γ w X h tgt ls st) (kf : SimX Γ w Y h (pc + 3) ls st) : SimX Γ w (if a = 0 then Y else X) h pc ls (vI a :: st) := fun r h9 e => Co_if_ne g hd ht (fun c => kt r h9 (if_f e c)) (fun c => kf r h9 (if_t e c))
theorem SX_ifnull {Γ : Cx} {cc : ByteArray} {nL : Nat} {own : String} {ret : Option FieldType} {rr : Room} (g : Gd Γ cc nL own ret rr) {w : Wd} {h : Hp} {pc : Nat} {ls : List (Nat × AV)} {st : List AV} {X Y : OR} {a : Nat} {off : Int} {tgt : Nat} (hd : decode cc pc = .ok (.ifnull off, 3)) (ht : (pc : Int) + off = (tgt : Int)) (kt : SimX Γ w X h tgt ls st) (kf : SimX Γ w Y h (pc + 3) ls st) : SimX Γ w (if a = 0 then X else Y) h pc ls (vP a :: st) := fun r h9 e => Co_ifnull g hd ht (fun c => kt r h9 (if_t e c)) (fun c => kf r h9 (if_f e c))
theorem SX_iload_n {Γ : Cx} {cc : ByteArray} {nL : Nat} {own : String} {ret : Option FieldType} {rr : Room} (g : Gd Γ cc nL own ret rr) {w : Wd} {h : Hp} {pc : Nat} {ls : List (Nat × AV)} {st : List AV} {X : OR} {kk i : Nat} {j : Fin 4} {x : Int} (hd : decode cc pc = .ok (.iload_n j, 1)) (hi : (j : Nat) = i) (hl : ls[kk]? = some (i, vI x)) (kq : SimX Γ w X h (pc + 1) ls (vI x :: st)) : SimX Γ w (X) h pc ls (st) := by
  intro r h9 e
  exact Co_iload_n g hd hi hl (kq r h9 e)
theorem SX_imul {Γ : Cx} {cc : ByteArray} {nL : Nat} {own : String} {ret : Option FieldType} {rr : Room} (g : Gd Γ cc nL own ret rr) {w : Wd} {h : Hp} {pc : Nat} {ls : List (Nat × AV)} {st : List AV} {X : OR} {a b : Int} (hd : decode cc pc = .ok (.imul, 1)) (kq : SimX Γ w X h (pc + 1) ls (vI (a * b) :: st)) : SimX Γ w (chk (a * b) (X)) h pc ls (vI b :: vI a :: st) := by
  intro r h9 e
  obtain ⟨c1, e⟩ := chk_e e
  exact Co_imul g hd c1 (kq r h9 e)
theorem SX_laload {Γ : Cx} {cc : ByteArray} {nL : Nat} {own : String} {ret : Option FieldType} {rr : Room} (g : Gd Γ cc nL own ret rr) {w : Wd} {h : Hp} {pc : Nat} {ls : List (Nat × AV)} {st : List AV} {X : OR} {a n : Nat} {i : Int} (hd : decode cc pc = .ok (.laload, 1)) (hs : At w a (2, 1, n)) (kq : SimX Γ w X h (pc + 1) ls (vJ (h a i.toNat) :: st)) : SimX Γ w (inb i n (X)) h pc ls (vI i :: vP a :: st) := by
  intro r h9 e
  obtain ⟨c1, c2, e⟩ := inb_e e
  exact Co_laload g hd hs c1 c2 (kq r h9 e)
theorem SX_land {Γ : Cx} {cc : ByteArray} {nL : Nat} {own : String} {ret : Option FieldType} {rr : Room} (g : Gd Γ cc nL own ret rr) {w : Wd} {h : Hp} {pc : Nat} {ls : List (Nat × AV)} {st : List AV} {X : OR} {a b : Int} (hd : decode cc pc = .ok (.land, 1)) (kq : SimX Γ w X h (pc + 1) ls (vJ (jand a b) :: st)) : SimX Γ w (X) h pc ls (vJ b :: vJ a :: st) := by
  intro r h9 e
  exact Co_land g hd (kq r h9 e)
theorem SX_nmP {Γ : Cx} {w : Wd} {h : Hp} {pc : Nat} {ls : List (Nat × AV)} {st : List AV} {x : Nat} {f : Nat → OR} (k : ∀ y, SimX Γ w (f y) h pc ls (vP y :: st)) : SimX Γ w (nmP x f) h pc ls (vP x :: st) := k x
theorem SX_sub {Γ : Cx} {cc : ByteArray} {nL : Nat} {own : String} {ret : Option FieldType} {rr : Room} (g : Gd Γ cc nL own ret rr) {w : Wd} {h : Hp} {pc : Nat} {ls : List (Nat × AV)} {st : List AV} {X : OR} {ls' : List (Nat × AV)} (is : List Nat) (hs : is.filterMap (fun i => ls[i]?) = ls') (kq : SimX Γ w X h pc ls' st) : SimX Γ w (X) h pc ls st := by
  intro r h9 e
  exact Co_sub g is hs (kq r h9 e)
theorem SX_icmp_ltN {Γ : Cx} {cc : ByteArray} {nL : Nat} {own : String} {ret : Option FieldType} {rr : Room} (g : Gd Γ cc nL own ret rr) {w : Wd} {h : Hp} {pc : Nat} {ls : List (Nat × AV)} {st : List AV} {X Y : OR} {a b : Int} {off : Int} {tgt : Nat} (hd : decode cc pc = .ok (.if_icmp .lt off, 3)) (ht : (pc : Int) + off = (tgt : Int)) (kt : SimX Γ w X h tgt ls st) (kf : SimX Γ w Y h (pc + 3) ls st) : SimX Γ w (if b ≤ a then Y else X) h pc ls (vI b :: vI a :: st) := by
  intro r h9 e
  refine Co_icmp_lt g hd ht (fun c => ?_) (fun c => ?_)
  · rw [if_neg (by omega)] at e; exact kt r h9 e
  · rw [if_pos (by omega)] at e; exact kf r h9 e
theorem SX_lreturn {Γ : Cx} {cc : ByteArray} {nL : Nat} {own : String} {ret : Option FieldType} {rr : Room} (g : Gd Γ cc nL own ret rr) {w : Wd} {h : Hp} {pc : Nat} {ls : List (Nat × AV)} {x : Int} (hd : decode cc pc = .ok (.lreturn, 1)) (hrt : ret = some .long) : SimX Γ w (some (x, h)) h pc ls [vJ x] := by
  intro r h9 e
  cases e
  exact Co_retX g hd hrt ⟨by decide, by decide⟩
theorem SX_thr {Γ : Cx} {cc : ByteArray} {nL : Nat} {ret : Option FieldType} (g : Gd Γ cc nL "GatePatch" ret rmX) {sa : Nat → Nat} (gx : GX Γ sa) (nt : NT Γ) {w : Wd} {h : Hp} {pc : Nat} {ls : List (Nat × AV)} {st : List AV} {ik is ic k : Nat} {cls text : String} {r : Int} (hr : (r = TH1 ∧ cls = IAE) ∨ (r = TH2 ∧ cls = ISE)) (hfit : Bundle.fit cls = true) (hs0 : ∀ {U : State} {H : Heap}, KX Γ.1.2.1 sa U H → vk_R "GatePatch" is text (sa k) U) (hcl : Cond.classLink "GatePatch" ik cls ∈ tblG) (hini : Cond.initialized cls ∈ tblG) (ha : ∀ w ∈ (vx_atS "GatePatch" ic cls exN).filter goodWord, w ∈ tblG) (hn : ∀ w ∈ (vx_atS "GatePatch" ic cls exN).filter (fun w => !goodWord w), w ∈ NX) (hg : ∀ w ∈ Cond.classLink "GatePatch" ik cls :: Cond.initialized cls :: vx_atS "GatePatch" ic cls exN, vx_ot w = true)
    (d0 : decode cc pc = .ok (.new ik, 3)) (d3 : decode cc (pc + 3) = .ok (.dup, 1)) (d4 : decode cc (pc + 4) = .ok (.ldc is, 2)) (d6 : decode cc (pc + 6) = .ok (.invokespecial ic, 3)) (d9 : decode cc (pc + 9) = .ok (.athrow, 1)) (hR : aw st ≤ 1000) : SimX Γ w (some (r, h)) h pc ls st := by
  intro r9 h9 e9
  cases e9
  exact Co_thr (k := k) g gx nt hr hfit hs0 hcl hini ha hn hg d0 d3 d4 d6 d9 ⟨by decide, by show aw st + 82 ≤ 2000; omega, by decide, by decide⟩ ⟨by decide, by decide⟩
theorem SX_thrW {Γ : Cx} {cc : ByteArray} {nL : Nat} {ret : Option FieldType} (g : Gd Γ cc nL "GatePatch" ret rmX) {sa : Nat → Nat} (gx : GX Γ sa) (nt : NT Γ) {w : Wd} {h : Hp} {pc : Nat} {ls : List (Nat × AV)} {st : List AV} {ik is ic k : Nat} {cls text : String} {r : Int} (hr : (r = TH1 ∧ cls = IAE) ∨ (r = TH2 ∧ cls = ISE)) (hfit : Bundle.fit cls = true) (hs0 : ∀ {U : State} {H : Heap}, KX Γ.1.2.1 sa U H → vk_R "GatePatch" is text (sa k) U) (hcl : Cond.classLink "GatePatch" ik cls ∈ tblG) (hini : Cond.initialized cls ∈ tblG) (ha : ∀ w ∈ (vx_atS "GatePatch" ic cls exN).filter goodWord, w ∈ tblG) (hn : ∀ w ∈ (vx_atS "GatePatch" ic cls exN).filter (fun w => !goodWord w), w ∈ NX) (hg : ∀ w ∈ Cond.classLink "GatePatch" ik cls :: Cond.initialized cls :: vx_atS "GatePatch" ic cls exN, vx_ot w = true)
    (d0 : decode cc pc = .ok (.new ik, 3)) (d3 : decode cc (pc + 3) = .ok (.dup, 1)) (d4 : decode cc (pc + 4) = .ok (.ldc_w is, 3)) (d7 : decode cc (pc + 7) = .ok (.invokespecial ic, 3)) (d10 : decode cc (pc + 10) = .ok (.athrow, 1)) (hR : aw st ≤ 1000) : SimX Γ w (some (r, h)) h pc ls st := by
  intro r9 h9 e9
  cases e9
  exact Co_thrW (k := k) g gx nt hr hfit hs0 hcl hini ha hn hg d0 d3 d4 d7 d10 ⟨by decide, by show aw st + 82 ≤ 2000; omega, by decide, by decide⟩ ⟨by decide, by decide⟩
theorem sx_X11_row_p {Γ : Cx} {w : Wd} (g : Gd Γ cX11_row 5 "GatePatch" (Option.some Jvm.ClassFile.FieldType.long) rmX) {sa : Nat → Nat} (gx : GX Γ sa) (nt : NT Γ) (h : Hp) : SimX Γ w (some (TH1, h)) h 33 [] [] := by
  exact SX_thr (k := 0) g gx nt (Or.inl ⟨rfl, rfl⟩) (by decide +kernel) (fun z => z.2.1.1) cl_GP_202 ini_IAE at_IAE nx_IAE (ot_IAE _ (by decide)) dX11_row_33 dX11_row_36 dX11_row_37 dX11_row_39 dX11_row_42 (by decide)
theorem cx_X11_row {G : GG} {sa : Nat → Nat} (hl : G.1.stackTraces = false) {w : Wd} (hw : okX w) (x0 x1 x2 : Int) (h : Hp) {r : Int} {h9 : Hp} (e9 : XX11_row x0 x1 x2 h = some (r, h9)) : CtX G EA sa yX11_row (Cond.code yX11_row cX11_row 5 (Option.some Jvm.ClassFile.FieldType.long)) rmX [vP 16, vI x0, vI x1, vI x2] w h h9 r := by
  refine CtX_of (own := "GatePatch") plain_GP rfl (fun _ _ => trivial) (Nat.le_of_ble_eq_true rfl) hl (fun Γ hG hE g gx nt => ?_)
  subst hG
  have key : SimX Γ w (XX11_row x0 x1 x2 h) h 0 [(0, vP 16), (1, vI x0), (2, vI x1), (3, vI x2)] [] := by
    unfold XX11_row
    refine SX_aload_n (kk := 0) g dX11_row_0 rfl rfl ?_
    refine SX_iload_n (kk := 1) g dX11_row_1 rfl rfl ?_
    refine SX_callVp (As := [vI x0]) g dX11_row_2 (sX11_netOf hw _ _) rfl (at_16 hw) rfl im_X11_netOf se_X11_netOf cw_X11_netOf ml_GP_126 ini_GP nd_X11_netOf ⟨by decide, by decide⟩ (Nat.le_of_ble_eq_true rfl) (fun r1 h2 => ?_)
    refine SX_astore g dX11_row_5 (by decide) rfl ?_
    refine SX_aload (kk := 0) g dX11_row_7 rfl ?_
    refine SX_ifnull (tgt := 33) g dX11_row_9 (by decide) ?_ ?_
    · refine SX_sub g [] rfl ?_
      exact sx_X11_row_p g gx nt _
    · refine SX_asr (fun q3 => ?_)
      refine SX_aload (kk := 0) g dX11_row_12 rfl ?_
      refine SX_getr g dX11_row_14 fl_GP_130 (nt_of hw q3).1 rfl (nt_of hw q3).2.1 ?_
      refine SX_iload_n (kk := 3) g dX11_row_17 rfl rfl ?_
      refine SX_callVi (As := [vI x1]) g dX11_row_18 (sX8_isWire hw (r1.toNat + 1) (nt_of hw q3).2.2.2.2.2.2.1 _ _) rfl (nt_of hw q3).2.2.2.2.2.2.1.1 rfl im_X8_isWire se_X8_isWire cw_X8_isWire ml_GP_158 ini_Plan nd_X8_isWire ⟨by decide, by decide⟩ (Nat.le_of_ble_eq_true rfl) (fun r4 h5 => ?_)
      refine SX_if_eq (tgt := 33) g dX11_row_21 (by decide) ?_ ?_
      · refine SX_sub g [] rfl ?_
        exact sx_X11_row_p g gx nt _
      · refine SX_iload_n (kk := 4) g dX11_row_24 rfl rfl ?_
        refine SX_if_lt (tgt := 33) g dX11_row_25 (by decide) ?_ ?_
        · refine SX_sub g [] rfl ?_
          exact sx_X11_row_p g gx nt _
        · refine SX_iload_n (kk := 4) g dX11_row_28 rfl rfl ?_
          refine SX_iconst g dX11_row_29 ⟨by decide, by decide⟩ ?_
          refine SX_icmp_ltN (tgt := 43) g dX11_row_30 (by decide) ?_ ?_
          · refine SX_aload (kk := 0) g dX11_row_43 rfl ?_
            refine SX_callVv (As := []) g dX11_row_45 (sX6_refresh hw (r1.toNat) (nt_of hw q3) _) rfl (nt_of hw q3).1 rfl im_X6_refresh se_X6_refresh cw_X6_refresh ml_GP_169 ini_Net nd_X6_refresh ⟨by decide, by decide⟩ (Nat.le_of_ble_eq_true rfl) (fun r6 h7 => ?_)
            refine SX_aload (kk := 0) g dX11_row_48 rfl ?_
            refine SX_getr g dX11_row_50 fl_GP_198 (nt_of hw q3).1 rfl (nt_of hw q3).2.2.2.2.1 ?_
            refine SX_iconst g dX11_row_53 ⟨by decide, by decide⟩ ?_
            refine SX_iload_n (kk := 3) g dX11_row_54 rfl rfl ?_
            refine SX_imul g dX11_row_55 ?_
            refine SX_iload_n (kk := 4) g dX11_row_56 rfl rfl ?_
            refine SX_iadd g dX11_row_57 ?_
            refine SX_laload g dX11_row_58 (nt_of hw q3).2.2.2.2.2.2.2.2.2.1 ?_
            refine SX_aload_n (kk := 1) g dX11_row_59 rfl rfl ?_
            refine SX_getr g dX11_row_60 fl_GP_24 (at_16 hw) rfl (rc_16_2 hw) ?_
            refine SX_getr g dX11_row_63 fl_GP_209 (at_37 hw) rfl (rc_37_2 hw) ?_
            refine SX_iload_n (kk := 4) g dX11_row_66 rfl rfl ?_
            refine SX_laload g dX11_row_67 (at_38 hw) ?_
            refine SX_land g dX11_row_68 ?_
            exact SX_lreturn g dX11_row_69 rfl
          · refine SX_sub g [] rfl ?_
            exact sx_X11_row_p g gx nt _
  exact key r h9 e9
theorem sx_X11_at_p {Γ : Cx} {w : Wd} (g : Gd Γ cX11_at 3 "GatePatch" (Option.some Jvm.ClassFile.FieldType.long) rmX) {sa : Nat → Nat} (gx : GX Γ sa) (nt : NT Γ) (h : Hp) : SimX Γ w (some (TH2, h)) h 43 [] [] := by
  exact SX_thrW (k := 2) g gx nt (Or.inr ⟨rfl, rfl⟩) (by decide +kernel) (fun z => z.2.1.2.2) cl_GP_479 ini_ISE at_ISE nx_ISE (ot_ISE _ (by decide)) dX11_at_43 dX11_at_46 dX11_at_47 dX11_at_50 dX11_at_53 (by decide)
theorem cx_X11_at {G : GG} {sa : Nat → Nat} (hl : G.1.stackTraces = false) {w : Wd} (hw : okX w) (x0 x1 : Int) (h : Hp) {r : Int} {h9 : Hp} (e9 : XX11_at x0 x1 h = some (r, h9)) : CtX G EA sa yX11_at (Cond.code yX11_at cX11_at 3 (Option.some Jvm.ClassFile.FieldType.long)) rmX [vP 16, vI x0, vI x1] w h h9 r := by
  refine CtX_of (own := "GatePatch") plain_GP rfl (fun _ _ => trivial) (Nat.le_of_ble_eq_true rfl) hl (fun Γ hG hE g gx nt => ?_)
  subst hG
  have key : SimX Γ w (XX11_at x0 x1 h) h 0 [(0, vP 16), (1, vI x0), (2, vI x1)] [] := by
    unfold XX11_at
    refine SX_iload_n (kk := 1) g dX11_at_0 rfl rfl ?_
    refine SX_callSi (As := [vI x0]) g dX11_at_1 (sX11_isTape hw _ _) rfl st_X11_isTape cw_X11_isTape ml_GP_250 ini_GP nd_X11_isTape ⟨by decide, by decide⟩ (Nat.le_of_ble_eq_true rfl) (fun r1 h2 => ?_)
    refine SX_if_ne (tgt := 18) g dX11_at_4 (by decide) ?_ ?_
    · refine SX_aload_n (kk := 0) g dX11_at_18 rfl rfl ?_
      refine SX_getr g dX11_at_19 fl_GP_76 (at_16 hw) rfl (rc_16_9 hw) ?_
      refine SX_iload_n (kk := 1) g dX11_at_22 rfl rfl ?_
      refine SX_aaload g dX11_at_23 (at_98 hw) (Or.inr rfl) ?_
      refine SX_nmP (fun u3 => ?_)
      refine SX_asr (fun q4 => ?_)
      refine SX_callVi (As := []) g dX11_at_24 (sX10_isRow hw u3 (tp_of hw q4) _) rfl (tp_of hw q4).1 rfl im_X10_isRow se_X10_isRow cw_X10_isRow ml_GP_467 ini_Tape nd_X10_isRow ⟨by decide, by decide⟩ (Nat.le_of_ble_eq_true rfl) (fun r5 h6 => ?_)
      refine SX_if_eq (tgt := 43) g dX11_at_27 (by decide) ?_ ?_
      · refine SX_sub g [] rfl ?_
        exact sx_X11_at_p g gx nt _
      · refine SX_aload_n (kk := 0) g dX11_at_30 rfl rfl ?_
        refine SX_getr g dX11_at_31 fl_GP_76 (at_16 hw) rfl (rc_16_9 hw) ?_
        refine SX_iload_n (kk := 1) g dX11_at_34 rfl rfl ?_
        refine SX_aaload g dX11_at_35 (at_98 hw) (Or.inr rfl) ?_
        refine SX_nmP (fun u7 => ?_)
        refine SX_asr (fun q8 => ?_)
        refine SX_iload_n (kk := 2) g dX11_at_36 rfl rfl ?_
        refine SX_callVi (As := [vI x1]) g dX11_at_37 (sX10_hasElement hw u7 (tp_of hw q8) _ _) rfl (tp_of hw q8).1 rfl im_X10_hasElement se_X10_hasElement cw_X10_hasElement ml_GP_470 ini_Tape nd_X10_hasElement ⟨by decide, by decide⟩ (Nat.le_of_ble_eq_true rfl) (fun r9 h10 => ?_)
        refine SX_if_ne (tgt := 54) g dX11_at_40 (by decide) ?_ ?_
        · refine SX_aload_n (kk := 0) g dX11_at_54 rfl rfl ?_
          refine SX_getr g dX11_at_55 fl_GP_76 (at_16 hw) rfl (rc_16_9 hw) ?_
          refine SX_iload_n (kk := 1) g dX11_at_58 rfl rfl ?_
          refine SX_aaload g dX11_at_59 (at_98 hw) (Or.inr rfl) ?_
          refine SX_nmP (fun u11 => ?_)
          refine SX_asr (fun q12 => ?_)
          refine SX_getr g dX11_at_60 fl_GP_257 (tp_of hw q12).1 rfl (tp_of hw q12).2.1 ?_
          refine SX_iload_n (kk := 2) g dX11_at_63 rfl rfl ?_
          refine SX_laload g dX11_at_64 (tp_of hw q12).2.2.2.1 ?_
          exact SX_lreturn g dX11_at_65 rfl
        · refine SX_sub g [] rfl ?_
          exact sx_X11_at_p g gx nt _
    · exact SX_thrW (k := 1) g gx nt (Or.inl ⟨rfl, rfl⟩) (by decide +kernel) (fun z => z.2.1.2.1) cl_GP_202 ini_IAE at_IAE nx_IAE (ot_IAE _ (by decide)) dX11_at_7 dX11_at_10 dX11_at_11 dX11_at_14 dX11_at_17 (by decide)
  exact key r h9 e9
