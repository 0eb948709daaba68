/-! THE LAW'S START: both objects made, then the loop -/
theorem cl_Law_8 : Cond.classLink "GatePatchLaw" 8 "GatePatch" ∈ tblG := mem_t 24 (by decide +kernel) rfl
theorem is_GP : Cond.instantiable "GatePatch" 16 ∈ tblG := mem_t 25 (by decide +kernel) rfl
theorem ml_Law_21i : Cond.methodLink "GatePatchLaw" 21 yX11_init ∈ tblG := mem_t 26 (by decide +kernel) rfl
theorem im_X11_init : Cond.instanceMethod yX11_init ∈ tblG := mem_t 27 (by decide +kernel) rfl
theorem cw_X11_init : Cond.code yX11_init cX11_init_c 2 (Option.none : Option Jvm.ClassFile.FieldType) ∈ tblG := mem_t 28 (by decide +kernel) rfl
theorem nd_X11_init : yX11_init.cls ≠ "java/lang/invoke/MethodHandle" ∧ yX11_init.cls ≠ "java/lang/invoke/VarHandle" ∧ (parseMethodDescriptor yX11_init.desc).map (fun d => d.parameters.length) = some 0 := by decide +kernel
theorem cl_Law_22 : Cond.classLink "GatePatchLaw" 22 "GatePatchModel" ∈ tblG := mem_t 1328 (by decide +kernel) rfl
theorem is_Mod : Cond.instantiable "GatePatchModel" 82 ∈ tblG := mem_t 1329 (by decide +kernel) rfl
theorem ml_Law_24i : Cond.methodLink "GatePatchLaw" 24 yX12_init ∈ tblG := mem_t 1330 (by decide +kernel) rfl
theorem im_X12_init : Cond.instanceMethod yX12_init ∈ tblG := mem_t 1331 (by decide +kernel) rfl
theorem cw_X12_init : Cond.code yX12_init cX12_init_c 2 (Option.none : Option Jvm.ClassFile.FieldType) ∈ tblG := mem_t 1332 (by decide +kernel) rfl
theorem nd_X12_init : yX12_init.cls ≠ "java/lang/invoke/MethodHandle" ∧ yX12_init.cls ≠ "java/lang/invoke/VarHandle" ∧ (parseMethodDescriptor yX12_init.desc).map (fun d => d.parameters.length) = some 0 := by decide +kernel
theorem okX_W9 : okX W9 := ⟨okX0_W9, by decide +kernel, by decide +kernel, by decide +kernel, by decide +kernel, by decide +kernel, by decide +kernel, by decide +kernel⟩
theorem okM_W9 : okM W9 := by
  refine ⟨by decide +kernel, ?_⟩
  have h : ∀ a, a < 203 → 143 ≤ a → W9.2.1 a = SHL.getD (a - 16) (0, 0, 0) ∧ ∀ i, i < 82 → W9.2.2 a i = (RCL.getD (a - 16) []).getD i 0 := by decide +kernel
  exact fun a h1 h2 => h a h2 h1
theorem at_own : At W9 206 (2, 1, 1) := ⟨by decide, by decide +kernel, by decide +kernel⟩
theorem bij2_W : Bij rho2 sig2 W9r.1 := by rw [n_W9r]; exact bij2
theorem GX_re {Γ : Cx} {sa : Nat → Nat} (ρ : Nat → Nat) (gx : GX Γ sa) : GX (reG ρ Γ) sa := by
  obtain ⟨⟨l, b0, D, dA⟩, ⟨p, e, R, s, m, args, below, meth, c⟩, adE, NE⟩ := Γ
  exact gx
theorem LX_re {Γ : Cx} {L : Nat} {xs : Nat → Int32} (ρ : Nat → Nat) (h4 : ρ 4 = 4) (gl : LX Γ L xs) : LX (reG ρ Γ) L xs := by
  obtain ⟨⟨l, b0, D, dA⟩, ⟨p, e, R, s, m, args, below, meth, c⟩, adE, NE⟩ := Γ
  show va_X (adE (ρ 4)) L xs s s.heap ∧ adE (ρ 4) < s.heap.size ∧ adE (ρ 4) < b0
  rw [h4]; exact gl
set_option maxRecDepth 100000 in
theorem law_body {Γ : Cx} {rt : Option FieldType} (g : Gd Γ code 8 "GatePatchLaw" rt room_1) (hmk : Mk Γ 16) {sa : Nat → Nat} (gx : GX Γ sa) {L : Nat} {xs : Nat → Int32} (gl : LX Γ L xs) (hL : L ≤ 3072) {Q : State → Prop} (kend : ∀ h kc ks i, kc ≤ 601024 → ks ≤ 7293034 → Core (reG rho2 Γ) W9 h kc ks Q 2076 (LSt i) []) : Core Γ W00 H00 0 0 Q 0 [(0, vP 4)] [] := by
  obtain ⟨hh, eX, hI, hN⟩ := init_Inv
  have hl := law_loop (Gd_re rho2 rho2_l g) (GX_re rho2 gx) (LX_re rho2 (rho2_l 4 (by decide)) gl) hL okX_W9 okM_W9 at_own (c0 := 191) (s0 := 23743) ⟨by decide, by decide⟩ (fun h kc ks i h1 h2 => kend h kc ks i (by omega) (by omega)) 3100 0 (HF hh) 0 rfl (by omega) (by omega) hI hN
  refine Co_new (C := "GatePatch") g hmk rfl dL_law_0 ci_GP df_GP cl_Law_8 is_GP ini_GP ⟨by decide, by decide⟩ ?_
  show Core Γ WG0 HG0 _ _ _ _ _ _
  refine Co_dup g dL_law_3 rfl ?_
  refine Co_callI (As := []) g hmk rfl dL_law_4 (cX11_init hh eX) rfl rfl (by decide) im_X11_init cw_X11_init ml_Law_21i ini_GP nd_X11_init ⟨by decide, by decide⟩ ⟨by decide, by decide⟩ (Nat.le_of_ble_eq_true rfl) ?_
  refine Co_astore_n (i := 1) (a := 16) (ls' := [(1, vP 16), (0, vP 4)]) g dL_law_7 rfl (by decide) rfl ?_
  refine Co_new (C := "GatePatchModel") g hmk (by decide +kernel) dL_law_8 ci_Mod df_Mod cl_Law_22 is_Mod ini_Mod ⟨by decide, by decide⟩ ?_
  show Core Γ WM0 (HM0 (HXB hh)) _ _ _ _ _ _
  refine Co_dup g dL_law_11 rfl ?_
  refine Co_callI (As := []) g hmk (by decide +kernel) dL_law_12 (cX12_init (HXB hh)) rfl rfl (by decide) im_X12_init cw_X12_init ml_Law_24i ini_Mod nd_X12_init ⟨by decide, by decide⟩ ⟨by decide, by decide⟩ (Nat.le_of_ble_eq_true rfl) ?_
  refine Co_astore_n (i := 2) (a := 146) (ls' := [(2, vP 146), (1, vP 16), (0, vP 4)]) g dL_law_15 rfl (by decide) rfl ?_
  refine Co_iconst g dL_law_16 ⟨by decide, by decide⟩ ?_
  refine Co_newl (n := 1) g hmk (by decide +kernel) dL_law_17 ac_long (by decide) ⟨by decide, by decide⟩ ?_
  show Core Γ W9r (HFr hh) _ _ _ _ _ _
  refine Co_astore_n (i := 3) (a := 206) (ls' := [(3, vP 206), (2, vP 146), (1, vP 16), (0, vP 4)]) g dL_law_19 rfl (by decide) rfl ?_
  refine Co_iconst g dL_law_20 ⟨by decide, by decide⟩ ?_
  refine Co_istore (i := 4) (ls' := [(4, vI 0), (3, vP 206), (2, vP 146), (1, vP 16), (0, vP 4)]) g dL_law_21 (by decide) rfl ?_
  refine Co_re rho2 sig2 bij2_W (Mk_all hmk) (LSt 0) [] (by decide +kernel) rfl ?_
  exact hl
