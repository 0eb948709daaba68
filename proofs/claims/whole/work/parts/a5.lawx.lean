abbrev cL_row : ByteArray := method_3_code
def yL_row : MethodName := ⟨"GatePatchLaw", "row", "(LGatePatch;III[J)I"⟩
theorem dL_row_0 : decode cL_row 0 = .ok (.aload 4, 2) := by decide +kernel
theorem dL_row_2 : decode cL_row 2 = .ok (.iconst 0, 1) := by decide +kernel
theorem dL_row_3 : decode cL_row 3 = .ok (.aload_n 0, 1) := by decide +kernel
theorem dL_row_4 : decode cL_row 4 = .ok (.iload_n 1, 1) := by decide +kernel
theorem dL_row_5 : decode cL_row 5 = .ok (.iload_n 2, 1) := by decide +kernel
theorem dL_row_6 : decode cL_row 6 = .ok (.iload_n 3, 1) := by decide +kernel
theorem dL_row_7 : decode cL_row 7 = .ok (.invokevirtual 7, 3) := by decide +kernel
theorem dL_row_10 : decode cL_row 10 = .ok (.lastore, 1) := by decide +kernel
theorem dL_row_11 : decode cL_row 11 = .ok (.goto 7, 3) := by decide +kernel
theorem dL_row_14 : decode cL_row 14 = .ok (.astore 5, 2) := by decide +kernel
theorem dL_row_16 : decode cL_row 16 = .ok (.iconst 1, 1) := by decide +kernel
theorem dL_row_17 : decode cL_row 17 = .ok (.ireturn, 1) := by decide +kernel
theorem dL_row_18 : decode cL_row 18 = .ok (.iconst 0, 1) := by decide +kernel
theorem dL_row_19 : decode cL_row 19 = .ok (.ireturn, 1) := by decide +kernel
abbrev cL_at : ByteArray := method_4_code
def yL_at : MethodName := ⟨"GatePatchLaw", "at", "(LGatePatch;II[J)I"⟩
theorem dL_at_0 : decode cL_at 0 = .ok (.aload_n 3, 1) := by decide +kernel
theorem dL_at_1 : decode cL_at 1 = .ok (.iconst 0, 1) := by decide +kernel
theorem dL_at_2 : decode cL_at 2 = .ok (.aload_n 0, 1) := by decide +kernel
theorem dL_at_3 : decode cL_at 3 = .ok (.iload_n 1, 1) := by decide +kernel
theorem dL_at_4 : decode cL_at 4 = .ok (.iload_n 2, 1) := by decide +kernel
theorem dL_at_5 : decode cL_at 5 = .ok (.invokevirtual 15, 3) := by decide +kernel
theorem dL_at_8 : decode cL_at 8 = .ok (.lastore, 1) := by decide +kernel
theorem dL_at_9 : decode cL_at 9 = .ok (.goto 11, 3) := by decide +kernel
theorem dL_at_12 : decode cL_at 12 = .ok (.astore 4, 2) := by decide +kernel
theorem dL_at_14 : decode cL_at 14 = .ok (.iconst 1, 1) := by decide +kernel
theorem dL_at_15 : decode cL_at 15 = .ok (.ireturn, 1) := by decide +kernel
theorem dL_at_16 : decode cL_at 16 = .ok (.astore 4, 2) := by decide +kernel
theorem dL_at_18 : decode cL_at 18 = .ok (.iconst 2, 1) := by decide +kernel
theorem dL_at_19 : decode cL_at 19 = .ok (.ireturn, 1) := by decide +kernel
theorem dL_at_20 : decode cL_at 20 = .ok (.iconst 0, 1) := by decide +kernel
theorem dL_at_21 : decode cL_at 21 = .ok (.ireturn, 1) := by decide +kernel
theorem cw_L_row : Cond.codeWith yL_row cL_row 6 (Option.some Jvm.ClassFile.FieldType.int) [((0 : Nat), (11 : Nat), (14 : Nat), (13 : Nat))] ∈ tblG := mem_t 1230 (by decide +kernel) rfl
theorem st_L_row : Cond.static yL_row ∈ tblG := mem_t 1229 (by decide +kernel) rfl
theorem nd_L_row : yL_row.cls ≠ "java/lang/invoke/MethodHandle" ∧ yL_row.cls ≠ "java/lang/invoke/VarHandle" ∧ (parseMethodDescriptor yL_row.desc).map (fun d => d.parameters.length) = some 5 := by decide +kernel
theorem cw_L_at : Cond.codeWith yL_at cL_at 5 (Option.some Jvm.ClassFile.FieldType.int) [((0 : Nat), (9 : Nat), (12 : Nat), (13 : Nat)), ((0 : Nat), (9 : Nat), (16 : Nat), (19 : Nat))] ∈ tblG := mem_t 1305 (by decide +kernel) rfl
theorem st_L_at : Cond.static yL_at ∈ tblG := mem_t 1304 (by decide +kernel) rfl
theorem nd_L_at : yL_at.cls ≠ "java/lang/invoke/MethodHandle" ∧ yL_at.cls ≠ "java/lang/invoke/VarHandle" ∧ (parseMethodDescriptor yL_at.desc).map (fun d => d.parameters.length) = some 4 := by decide +kernel
theorem ml_Law_57 : Cond.methodLink "GatePatchLaw" 57 yL_row ∈ tblG := mem_t 1228 (by decide +kernel) rfl
theorem ml_Law_211 : Cond.methodLink "GatePatchLaw" 211 yL_at ∈ tblG := mem_t 1303 (by decide +kernel) rfl
theorem ini_Law : Cond.initialized "GatePatchLaw" ∈ tblG := mem_t 0 (by decide +kernel) rfl
theorem cl_Law_13 : Cond.classLink "GatePatchLaw" 13 IAE ∈ tblG := mem_t 1231 (by decide +kernel) rfl
theorem cl_Law_19 : Cond.classLink "GatePatchLaw" 19 ISE ∈ tblG := mem_t 1306 (by decide +kernel) rfl
theorem ml_Law_7 : Cond.methodLink "GatePatchLaw" 7 yX11_row ∈ tblG := mem_t 1232 (by decide +kernel) rfl
theorem ml_Law_15 : Cond.methodLink "GatePatchLaw" 15 yX11_at ∈ tblG := mem_t 1307 (by decide +kernel) rfl
theorem im_X11_row : Cond.instanceMethod yX11_row ∈ tblG := mem_t 1233 (by decide +kernel) rfl
theorem se_X11_row : Cond.selects "GatePatch" yX11_row yX11_row ∈ tblG := mem_t 1234 (by decide +kernel) rfl
theorem cw_X11_row : Cond.code yX11_row cX11_row 5 (Option.some Jvm.ClassFile.FieldType.long) ∈ tblG := mem_t 1235 (by decide +kernel) rfl
theorem nd_X11_row : yX11_row.cls ≠ "java/lang/invoke/MethodHandle" ∧ yX11_row.cls ≠ "java/lang/invoke/VarHandle" ∧ (parseMethodDescriptor yX11_row.desc).map (fun d => d.parameters.length) = some 3 := by decide +kernel
theorem im_X11_at : Cond.instanceMethod yX11_at ∈ tblG := mem_t 1308 (by decide +kernel) rfl
theorem se_X11_at : Cond.selects "GatePatch" yX11_at yX11_at ∈ tblG := mem_t 1309 (by decide +kernel) rfl
theorem cw_X11_at : Cond.code yX11_at cX11_at 3 (Option.some Jvm.ClassFile.FieldType.long) ∈ tblG := mem_t 1310 (by decide +kernel) rfl
theorem nd_X11_at : yX11_at.cls ≠ "java/lang/invoke/MethodHandle" ∧ yX11_at.cls ≠ "java/lang/invoke/VarHandle" ∧ (parseMethodDescriptor yX11_at.desc).map (fun d => d.parameters.length) = some 2 := by decide +kernel
theorem plain_Law : plainName "GatePatchLaw" = true := by decide +kernel
def rmY : Room := { frames := 21, cells := 1, slots := 6, locals := 2100 }
theorem GX_k {Γ : Cx} {sa : Nat → Nat} (gx : GX Γ sa) : KX Γ.1.2.1 sa Γ.2.1.2.2.2.1 (Γ.2.1.2.2.2.1).heap := by
  obtain ⟨⟨l, b0, D, dA⟩, ⟨p, e, R, s, m, args, below, meth, c⟩, adE, NE⟩ := Γ
  exact gx.2
theorem TH12 : ¬ TH1 = TH2 := by unfold TH1 TH2; decide
theorem inJ_TH {r : Int} (h : inJ r) {E : String} (q : (r = TH1 ∧ E = IAE) ∨ (r = TH2 ∧ E = ISE)) : False := q.elim (fun u => (TH_ne h).1 u.1) (fun u => (TH_ne h).2 u.1)
theorem cw9_row {G : GG} {sa : Nat → Nat} (hl : G.1.stackTraces = false) {w : Wd} (hw : okX w) (ho : At w 206 (2, 1, 1)) (x0 x1 x2 : Int) (h : Hp) {r : Int} {h1 h2 : Hp} {c : Int} (e : XX11_row x0 x1 x2 h = some (r, h1)) (hc : (r = TH1 ∧ h2 = h1 ∧ c = 1) ∨ (inJ r ∧ h2 = wr h1 206 0 r ∧ c = 0)) : CtW G EA sa yL_row (Cond.codeWith yL_row cL_row 6 (Option.some Jvm.ClassFile.FieldType.int) [((0 : Nat), (11 : Nat), (14 : Nat), (13 : Nat))]) rmY [vP 16, vI x0, vI x1, vI x2, vP 206] w h h2 c := by
  refine CtW_of (own := "GatePatchLaw") plain_Law rfl (fun _ _ => trivial) (Nat.le_of_ble_eq_true rfl) hl (fun Γ hG hE g gx ht => ?_)
  subst hG
  show Core Γ w h 0 0 (QM Γ 1 6 w h2 (some (vI c))) 0 [(0, vP 16), (1, vI x0), (2, vI x1), (3, vI x2), (4, vP 206)] []
  refine Co_aload (kk := 4) g dL_row_0 rfl ?_
  refine Co_iconst g dL_row_2 ⟨by decide, by decide⟩ ?_
  refine Co_aload_n (kk := 0) g dL_row_3 rfl rfl ?_
  refine Co_iload_n (kk := 1) g dL_row_4 rfl rfl ?_
  refine Co_iload_n (kk := 2) g dL_row_5 rfl rfl ?_
  refine Co_iload_n (kk := 3) g dL_row_6 rfl rfl ?_
  refine Co_callVX (As := [vI x0, vI x1, vI x2]) g gx dL_row_7 (cx_X11_row hl hw _ _ _ _ e) rfl (at_16 hw) rfl im_X11_row se_X11_row cw_X11_row ml_Law_7 ini_GP nd_X11_row ⟨by decide, by decide⟩ ⟨by decide, by decide⟩ (by decide) (fun E hE => ?_) (fun hne => ?_)
  · rcases hc with ⟨z, rfl, rfl⟩ | ⟨z, _, _⟩
    · have hEI : E = IAE := hE.elim (fun u => u.2) (fun u => absurd (z.symm.trans u.1) TH12)
      subst hEI
      refine Co_catch (i := 5) g [] ⟨0, 11, 14, 13⟩ [] (by rw [ht]; rfl) (fun z hz => by cases hz) (by decide) (by decide) cl_Law_13 (va_Nw.use (NX_on _ List.mem_cons_self) ((GX_k gx).2.2.1 _ List.mem_cons_self)) dL_row_14 (by decide) ?_
      refine Co_iconst g dL_row_16 ⟨by decide, by decide⟩ ?_
      exact Co_ireturn g dL_row_17 rfl
    · exact (inJ_TH z hE).elim
  · rcases hc with ⟨z, _, _⟩ | ⟨z, rfl, rfl⟩
    · exact absurd z hne.1
    · refine Co_lastore g dL_row_10 ho (by decide) (by decide) ?_
      refine Co_goto (tgt := 18) g dL_row_11 (by decide) ?_
      refine Co_iconst g dL_row_18 ⟨by decide, by decide⟩ ?_
      exact Co_ireturn g dL_row_19 rfl
theorem cw9_at {G : GG} {sa : Nat → Nat} (hl : G.1.stackTraces = false) {w : Wd} (hw : okX w) (ho : At w 206 (2, 1, 1)) (x0 x1 : Int) (h : Hp) {r : Int} {h1 h2 : Hp} {c : Int} (e : XX11_at x0 x1 h = some (r, h1)) (hc : (r = TH1 ∧ h2 = h1 ∧ c = 1) ∨ (r = TH2 ∧ h2 = h1 ∧ c = 2) ∨ (inJ r ∧ h2 = wr h1 206 0 r ∧ c = 0)) : CtW G EA sa yL_at (Cond.codeWith yL_at cL_at 5 (Option.some Jvm.ClassFile.FieldType.int) [((0 : Nat), (9 : Nat), (12 : Nat), (13 : Nat)), ((0 : Nat), (9 : Nat), (16 : Nat), (19 : Nat))]) rmY [vP 16, vI x0, vI x1, vP 206] w h h2 c := by
  refine CtW_of (own := "GatePatchLaw") plain_Law rfl (fun _ _ => trivial) (Nat.le_of_ble_eq_true rfl) hl (fun Γ hG hE g gx ht => ?_)
  subst hG
  show Core Γ w h 0 0 (QM Γ 1 6 w h2 (some (vI c))) 0 [(0, vP 16), (1, vI x0), (2, vI x1), (3, vP 206)] []
  refine Co_aload_n (kk := 3) g dL_at_0 rfl rfl ?_
  refine Co_iconst g dL_at_1 ⟨by decide, by decide⟩ ?_
  refine Co_aload_n (kk := 0) g dL_at_2 rfl rfl ?_
  refine Co_iload_n (kk := 1) g dL_at_3 rfl rfl ?_
  refine Co_iload_n (kk := 2) g dL_at_4 rfl rfl ?_
  refine Co_callVX (As := [vI x0, vI x1]) g gx dL_at_5 (cx_X11_at hl hw _ _ _ e) rfl (at_16 hw) rfl im_X11_at se_X11_at cw_X11_at ml_Law_15 ini_GP nd_X11_at ⟨by decide, by decide⟩ ⟨by decide, by decide⟩ (by decide) (fun E hE => ?_) (fun hne => ?_)
  · rcases hc with ⟨z, rfl, rfl⟩ | ⟨z, rfl, rfl⟩ | ⟨z, _, _⟩
    · have hEI : E = IAE := hE.elim (fun u => u.2) (fun u => absurd (z.symm.trans u.1) TH12)
      subst hEI
      refine Co_catch (i := 4) g [] ⟨0, 9, 12, 13⟩ [⟨0, 9, 16, 19⟩] (by rw [ht]; rfl) (fun z hz => by cases hz) (by decide) (by decide) cl_Law_13 (va_Nw.use (NX_on _ List.mem_cons_self) ((GX_k gx).2.2.1 _ List.mem_cons_self)) dL_at_12 (by decide) ?_
      refine Co_iconst g dL_at_14 ⟨by decide, by decide⟩ ?_
      exact Co_ireturn g dL_at_15 rfl
    · have hEI : E = ISE := hE.elim (fun u => absurd (u.1.symm.trans z) TH12) (fun u => u.2)
      subst hEI
      refine Co_catch (i := 4) g [⟨0, 9, 12, 13⟩] ⟨0, 9, 16, 19⟩ [] (by rw [ht]; rfl) (fun z hz => ?_) (by decide) (by decide) cl_Law_19 (va_Nw.use (NX_on _ (List.mem_cons_of_mem _ List.mem_cons_self)) ((GX_k gx).2.2.1 _ (List.mem_cons_of_mem _ List.mem_cons_self))) dL_at_16 (by decide) ?_
      · rw [List.mem_singleton] at hz
        subst hz
        exact Or.inr ⟨by decide, IAE, cl_Law_13, (GX_k gx).2.2.2⟩
      · refine Co_iconst g dL_at_18 ⟨by decide, by decide⟩ ?_
        exact Co_ireturn g dL_at_19 rfl
    · exact (inJ_TH z hE).elim
  · rcases hc with ⟨z, _, _⟩ | ⟨z, _, _⟩ | ⟨z, rfl, rfl⟩
    · exact absurd z hne.1
    · exact absurd z hne.2
    · refine Co_lastore g dL_at_8 ho (by decide) (by decide) ?_
      refine Co_goto (tgt := 20) g dL_at_9 (by decide) ?_
      refine Co_iconst g dL_at_20 ⟨by decide, by decide⟩ ?_
      exact Co_ireturn g dL_at_21 rfl
