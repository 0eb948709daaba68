theorem law_c0 {Γ : Cx} {rt : Option FieldType} (g : Gd Γ code 8 "GatePatchLaw" rt room_1) {sa : Nat → Nat} (gx : GX Γ sa) {L : Nat} {xs : Nat → Int32} (gl : LX Γ L xs) (hL : L ≤ 3072) {w : Wd} (hw : okX w) (hm : okM w) (ho : At w 206 (2, 1, 1)) {n : Nat} {h : Hp} (hI : Inv n h) (hH : HN h) (hn : n ≤ 1000) {i : Int} (hi : 0 ≤ i ∧ i + 6 ≤ L) {kc ks : Nat} (hk : kc + 1 ≤ room_1.cells ∧ ks + 6 ≤ room_1.slots) {Q : State → Prop} (k : ∀ h2, Inv (n + 1) h2 → HN h2 → Core Γ w h2 (kc + 1) (ks + 6) Q 2070 (LSt i) []) : Core Γ w h kc ks Q 240 (LSt i) [] := by
  obtain ⟨r, h1, h2, e1, e2, hI2⟩ := m_begin hI (xi xs (i + 1).toNat) (xi xs (i + 2).toNat) (xi xs (i + 3).toNat)
  have hH2 : HN h2 := by
    unfold HN
    rw [fr_XX12_begin e2 40 12 (by first | omega | exact fun hh => hh), fr_XX11_begin e1 40 12 (by first | omega | exact fun hh => hh)]; exact hH
  have hk : kc ≤ room_1.cells ∧ ks ≤ room_1.slots := ⟨Nat.le_of_succ_le hk.1, Nat.le_trans (Nat.le_add_right _ _) hk.2⟩
  refine Co_aload_n (kk := 3) g dL_law_240 rfl rfl ?_
  refine Co_aload_n (kk := 4) g dL_law_241 rfl rfl ?_
  refine Co_iload (kk := 0) g dL_law_242 rfl ?_
  refine Co_iconst g dL_law_244 ⟨by decide, by decide⟩ ?_
  refine Co_iadd g dL_law_245 ⟨by omega, by omega⟩ ?_
  refine Co_sld g gl dL_law_246 (by omega) (by omega) ?_
  refine Co_aload_n (kk := 4) g dL_law_247 rfl rfl ?_
  refine Co_iload (kk := 0) g dL_law_248 rfl ?_
  refine Co_iconst g dL_law_250 ⟨by decide, by decide⟩ ?_
  refine Co_iadd g dL_law_251 ⟨by omega, by omega⟩ ?_
  refine Co_sld g gl dL_law_252 (by omega) (by omega) ?_
  refine Co_aload_n (kk := 4) g dL_law_253 rfl rfl ?_
  refine Co_iload (kk := 0) g dL_law_254 rfl ?_
  refine Co_iconst g dL_law_256 ⟨by decide, by decide⟩ ?_
  refine Co_iadd g dL_law_257 ⟨by omega, by omega⟩ ?_
  refine Co_sld g gl dL_law_258 (by omega) (by omega) ?_
  refine Lw_callV (As := [vI (xi xs (i + 1).toNat), vI (xi xs (i + 2).toNat), vI (xi xs (i + 3).toNat)]) g dL_law_259 (sX11_begin hw _ _ _ _) e1 rfl (at_16 hw) rfl im_X11_begin se_X11_begin cw_X11_begin ml_Law_25 ini_GP nd_X11_begin ⟨by decide, by decide⟩ hk (Nat.le_of_ble_eq_true rfl) ?_
  refine Co_aload_n (kk := 2) g dL_law_262 rfl rfl ?_
  refine Co_aload_n (kk := 4) g dL_law_263 rfl rfl ?_
  refine Co_iload (kk := 0) g dL_law_264 rfl ?_
  refine Co_iconst g dL_law_266 ⟨by decide, by decide⟩ ?_
  refine Co_iadd g dL_law_267 ⟨by omega, by omega⟩ ?_
  refine Co_sld g gl dL_law_268 (by omega) (by omega) ?_
  refine Co_aload_n (kk := 4) g dL_law_269 rfl rfl ?_
  refine Co_iload (kk := 0) g dL_law_270 rfl ?_
  refine Co_iconst g dL_law_272 ⟨by decide, by decide⟩ ?_
  refine Co_iadd g dL_law_273 ⟨by omega, by omega⟩ ?_
  refine Co_sld g gl dL_law_274 (by omega) (by omega) ?_
  refine Co_aload_n (kk := 4) g dL_law_275 rfl rfl ?_
  refine Co_iload (kk := 0) g dL_law_276 rfl ?_
  refine Co_iconst g dL_law_278 ⟨by decide, by decide⟩ ?_
  refine Co_iadd g dL_law_279 ⟨by omega, by omega⟩ ?_
  refine Co_sld g gl dL_law_280 (by omega) (by omega) ?_
  refine Lw_callV (As := [vI (xi xs (i + 1).toNat), vI (xi xs (i + 2).toNat), vI (xi xs (i + 3).toNat)]) g dL_law_281 (sX12_begin hm _ _ _ _) e2 rfl (at_143 hm) rfl im_X12_begin se_X12_begin cw_X12_begin ml_Law_29 ini_Mod nd_X12_begin ⟨by decide, by decide⟩ hk (Nat.le_of_ble_eq_true rfl) ?_
  refine Co_icmp_eq (tgt := 2070) g dL_law_284 (by decide) (fun _ => ?_) (fun z => absurd rfl z)
  exact Co_widen (Nat.le_succ _) (Nat.le_add_right _ _) (k h2 hI2 hH2)
theorem law_c1 {Γ : Cx} {rt : Option FieldType} (g : Gd Γ code 8 "GatePatchLaw" rt room_1) {sa : Nat → Nat} (gx : GX Γ sa) {L : Nat} {xs : Nat → Int32} (gl : LX Γ L xs) (hL : L ≤ 3072) {w : Wd} (hw : okX w) (hm : okM w) (ho : At w 206 (2, 1, 1)) {n : Nat} {h : Hp} (hI : Inv n h) (hH : HN h) (hn : n ≤ 1000) {i : Int} (hi : 0 ≤ i ∧ i + 6 ≤ L) {kc ks : Nat} (hk : kc + 1 ≤ room_1.cells ∧ ks + 6 ≤ room_1.slots) {Q : State → Prop} (k : ∀ h2, Inv (n + 1) h2 → HN h2 → Core Γ w h2 (kc + 1) (ks + 6) Q 2070 (LSt i) []) : Core Γ w h kc ks Q 289 (LSt i) [] := by
  obtain ⟨r, h1, h2, e1, e2, hI2⟩ := m_gate hI (xi xs (i + 1).toNat) (xi xs (i + 2).toNat) (xi xs (i + 3).toNat) (xi xs (i + 4).toNat) (xi xs (i + 5).toNat)
  have hH2 : HN h2 := by
    unfold HN
    rw [fr_XX12_gate e2 40 12 (by first | omega | exact fun hh => hh), fr_XX11_gate e1 40 12 (by first | omega | exact fun hh => hh)]; exact hH
  have hk : kc ≤ room_1.cells ∧ ks ≤ room_1.slots := ⟨Nat.le_of_succ_le hk.1, Nat.le_trans (Nat.le_add_right _ _) hk.2⟩
  refine Co_aload_n (kk := 3) g dL_law_289 rfl rfl ?_
  refine Co_aload_n (kk := 4) g dL_law_290 rfl rfl ?_
  refine Co_iload (kk := 0) g dL_law_291 rfl ?_
  refine Co_iconst g dL_law_293 ⟨by decide, by decide⟩ ?_
  refine Co_iadd g dL_law_294 ⟨by omega, by omega⟩ ?_
  refine Co_sld g gl dL_law_295 (by omega) (by omega) ?_
  refine Co_aload_n (kk := 4) g dL_law_296 rfl rfl ?_
  refine Co_iload (kk := 0) g dL_law_297 rfl ?_
  refine Co_iconst g dL_law_299 ⟨by decide, by decide⟩ ?_
  refine Co_iadd g dL_law_300 ⟨by omega, by omega⟩ ?_
  refine Co_sld g gl dL_law_301 (by omega) (by omega) ?_
  refine Co_aload_n (kk := 4) g dL_law_302 rfl rfl ?_
  refine Co_iload (kk := 0) g dL_law_303 rfl ?_
  refine Co_iconst g dL_law_305 ⟨by decide, by decide⟩ ?_
  refine Co_iadd g dL_law_306 ⟨by omega, by omega⟩ ?_
  refine Co_sld g gl dL_law_307 (by omega) (by omega) ?_
  refine Co_aload_n (kk := 4) g dL_law_308 rfl rfl ?_
  refine Co_iload (kk := 0) g dL_law_309 rfl ?_
  refine Co_iconst g dL_law_311 ⟨by decide, by decide⟩ ?_
  refine Co_iadd g dL_law_312 ⟨by omega, by omega⟩ ?_
  refine Co_sld g gl dL_law_313 (by omega) (by omega) ?_
  refine Co_aload_n (kk := 4) g dL_law_314 rfl rfl ?_
  refine Co_iload (kk := 0) g dL_law_315 rfl ?_
  refine Co_iconst g dL_law_317 ⟨by decide, by decide⟩ ?_
  refine Co_iadd g dL_law_318 ⟨by omega, by omega⟩ ?_
  refine Co_sld g gl dL_law_319 (by omega) (by omega) ?_
  refine Lw_callV (As := [vI (xi xs (i + 1).toNat), vI (xi xs (i + 2).toNat), vI (xi xs (i + 3).toNat), vI (xi xs (i + 4).toNat), vI (xi xs (i + 5).toNat)]) g dL_law_320 (sX11_gate hw _ _ _ _ _ _) e1 rfl (at_16 hw) rfl im_X11_gate se_X11_gate cw_X11_gate ml_Law_30 ini_GP nd_X11_gate ⟨by decide, by decide⟩ hk (Nat.le_of_ble_eq_true rfl) ?_
  refine Co_aload_n (kk := 2) g dL_law_323 rfl rfl ?_
  refine Co_aload_n (kk := 4) g dL_law_324 rfl rfl ?_
  refine Co_iload (kk := 0) g dL_law_325 rfl ?_
  refine Co_iconst g dL_law_327 ⟨by decide, by decide⟩ ?_
  refine Co_iadd g dL_law_328 ⟨by omega, by omega⟩ ?_
  refine Co_sld g gl dL_law_329 (by omega) (by omega) ?_
  refine Co_aload_n (kk := 4) g dL_law_330 rfl rfl ?_
  refine Co_iload (kk := 0) g dL_law_331 rfl ?_
  refine Co_iconst g dL_law_333 ⟨by decide, by decide⟩ ?_
  refine Co_iadd g dL_law_334 ⟨by omega, by omega⟩ ?_
  refine Co_sld g gl dL_law_335 (by omega) (by omega) ?_
  refine Co_aload_n (kk := 4) g dL_law_336 rfl rfl ?_
  refine Co_iload (kk := 0) g dL_law_337 rfl ?_
  refine Co_iconst g dL_law_339 ⟨by decide, by decide⟩ ?_
  refine Co_iadd g dL_law_340 ⟨by omega, by omega⟩ ?_
  refine Co_sld g gl dL_law_341 (by omega) (by omega) ?_
  refine Co_aload_n (kk := 4) g dL_law_342 rfl rfl ?_
  refine Co_iload (kk := 0) g dL_law_343 rfl ?_
  refine Co_iconst g dL_law_345 ⟨by decide, by decide⟩ ?_
  refine Co_iadd g dL_law_346 ⟨by omega, by omega⟩ ?_
  refine Co_sld g gl dL_law_347 (by omega) (by omega) ?_
  refine Co_aload_n (kk := 4) g dL_law_348 rfl rfl ?_
  refine Co_iload (kk := 0) g dL_law_349 rfl ?_
  refine Co_iconst g dL_law_351 ⟨by decide, by decide⟩ ?_
  refine Co_iadd g dL_law_352 ⟨by omega, by omega⟩ ?_
  refine Co_sld g gl dL_law_353 (by omega) (by omega) ?_
  refine Lw_callV (As := [vI (xi xs (i + 1).toNat), vI (xi xs (i + 2).toNat), vI (xi xs (i + 3).toNat), vI (xi xs (i + 4).toNat), vI (xi xs (i + 5).toNat)]) g dL_law_354 (sX12_gate hm _ _ _ _ _ _) e2 rfl (at_143 hm) rfl im_X12_gate se_X12_gate cw_X12_gate ml_Law_34 ini_Mod nd_X12_gate ⟨by decide, by decide⟩ hk (Nat.le_of_ble_eq_true rfl) ?_
  refine Co_icmp_eq (tgt := 2070) g dL_law_357 (by decide) (fun _ => ?_) (fun z => absurd rfl z)
  exact Co_widen (Nat.le_succ _) (Nat.le_add_right _ _) (k h2 hI2 hH2)
theorem law_c2 {Γ : Cx} {rt : Option FieldType} (g : Gd Γ code 8 "GatePatchLaw" rt room_1) {sa : Nat → Nat} (gx : GX Γ sa) {L : Nat} {xs : Nat → Int32} (gl : LX Γ L xs) (hL : L ≤ 3072) {w : Wd} (hw : okX w) (hm : okM w) (ho : At w 206 (2, 1, 1)) {n : Nat} {h : Hp} (hI : Inv n h) (hH : HN h) (hn : n ≤ 1000) {i : Int} (hi : 0 ≤ i ∧ i + 6 ≤ L) {kc ks : Nat} (hk : kc + 1 ≤ room_1.cells ∧ ks + 6 ≤ room_1.slots) {Q : State → Prop} (k : ∀ h2, Inv (n + 1) h2 → HN h2 → Core Γ w h2 (kc + 1) (ks + 6) Q 2070 (LSt i) []) : Core Γ w h kc ks Q 362 (LSt i) [] := by
  obtain ⟨r, h1, h2, e1, e2, hI2⟩ := m_rewire hI (xi xs (i + 1).toNat) (xi xs (i + 2).toNat) (xi xs (i + 3).toNat) (xi xs (i + 4).toNat)
  have hH2 : HN h2 := by
    unfold HN
    rw [fr_XX12_rewire e2 40 12 (by first | omega | exact fun hh => hh), fr_XX11_rewire e1 40 12 (by first | omega | exact fun hh => hh)]; exact hH
  have hk : kc ≤ room_1.cells ∧ ks ≤ room_1.slots := ⟨Nat.le_of_succ_le hk.1, Nat.le_trans (Nat.le_add_right _ _) hk.2⟩
  refine Co_aload_n (kk := 3) g dL_law_362 rfl rfl ?_
  refine Co_aload_n (kk := 4) g dL_law_363 rfl rfl ?_
  refine Co_iload (kk := 0) g dL_law_364 rfl ?_
  refine Co_iconst g dL_law_366 ⟨by decide, by decide⟩ ?_
  refine Co_iadd g dL_law_367 ⟨by omega, by omega⟩ ?_
  refine Co_sld g gl dL_law_368 (by omega) (by omega) ?_
  refine Co_aload_n (kk := 4) g dL_law_369 rfl rfl ?_
  refine Co_iload (kk := 0) g dL_law_370 rfl ?_
  refine Co_iconst g dL_law_372 ⟨by decide, by decide⟩ ?_
  refine Co_iadd g dL_law_373 ⟨by omega, by omega⟩ ?_
  refine Co_sld g gl dL_law_374 (by omega) (by omega) ?_
  refine Co_aload_n (kk := 4) g dL_law_375 rfl rfl ?_
  refine Co_iload (kk := 0) g dL_law_376 rfl ?_
  refine Co_iconst g dL_law_378 ⟨by decide, by decide⟩ ?_
  refine Co_iadd g dL_law_379 ⟨by omega, by omega⟩ ?_
  refine Co_sld g gl dL_law_380 (by omega) (by omega) ?_
  refine Co_aload_n (kk := 4) g dL_law_381 rfl rfl ?_
  refine Co_iload (kk := 0) g dL_law_382 rfl ?_
  refine Co_iconst g dL_law_384 ⟨by decide, by decide⟩ ?_
  refine Co_iadd g dL_law_385 ⟨by omega, by omega⟩ ?_
  refine Co_sld g gl dL_law_386 (by omega) (by omega) ?_
  refine Lw_callV (As := [vI (xi xs (i + 1).toNat), vI (xi xs (i + 2).toNat), vI (xi xs (i + 3).toNat), vI (xi xs (i + 4).toNat)]) g dL_law_387 (sX11_rewire hw _ _ _ _ _) e1 rfl (at_16 hw) rfl im_X11_rewire se_X11_rewire cw_X11_rewire ml_Law_35 ini_GP nd_X11_rewire ⟨by decide, by decide⟩ hk (Nat.le_of_ble_eq_true rfl) ?_
  refine Co_aload_n (kk := 2) g dL_law_390 rfl rfl ?_
  refine Co_aload_n (kk := 4) g dL_law_391 rfl rfl ?_
  refine Co_iload (kk := 0) g dL_law_392 rfl ?_
  refine Co_iconst g dL_law_394 ⟨by decide, by decide⟩ ?_
  refine Co_iadd g dL_law_395 ⟨by omega, by omega⟩ ?_
  refine Co_sld g gl dL_law_396 (by omega) (by omega) ?_
  refine Co_aload_n (kk := 4) g dL_law_397 rfl rfl ?_
  refine Co_iload (kk := 0) g dL_law_398 rfl ?_
  refine Co_iconst g dL_law_400 ⟨by decide, by decide⟩ ?_
  refine Co_iadd g dL_law_401 ⟨by omega, by omega⟩ ?_
  refine Co_sld g gl dL_law_402 (by omega) (by omega) ?_
  refine Co_aload_n (kk := 4) g dL_law_403 rfl rfl ?_
  refine Co_iload (kk := 0) g dL_law_404 rfl ?_
  refine Co_iconst g dL_law_406 ⟨by decide, by decide⟩ ?_
  refine Co_iadd g dL_law_407 ⟨by omega, by omega⟩ ?_
  refine Co_sld g gl dL_law_408 (by omega) (by omega) ?_
  refine Co_aload_n (kk := 4) g dL_law_409 rfl rfl ?_
  refine Co_iload (kk := 0) g dL_law_410 rfl ?_
  refine Co_iconst g dL_law_412 ⟨by decide, by decide⟩ ?_
  refine Co_iadd g dL_law_413 ⟨by omega, by omega⟩ ?_
  refine Co_sld g gl dL_law_414 (by omega) (by omega) ?_
  refine Lw_callV (As := [vI (xi xs (i + 1).toNat), vI (xi xs (i + 2).toNat), vI (xi xs (i + 3).toNat), vI (xi xs (i + 4).toNat)]) g dL_law_415 (sX12_rewire hm _ _ _ _ _) e2 rfl (at_143 hm) rfl im_X12_rewire se_X12_rewire cw_X12_rewire ml_Law_39 ini_Mod nd_X12_rewire ⟨by decide, by decide⟩ hk (Nat.le_of_ble_eq_true rfl) ?_
  refine Co_icmp_eq (tgt := 2070) g dL_law_418 (by decide) (fun _ => ?_) (fun z => absurd rfl z)
  exact Co_widen (Nat.le_succ _) (Nat.le_add_right _ _) (k h2 hI2 hH2)
theorem law_c3 {Γ : Cx} {rt : Option FieldType} (g : Gd Γ code 8 "GatePatchLaw" rt room_1) {sa : Nat → Nat} (gx : GX Γ sa) {L : Nat} {xs : Nat → Int32} (gl : LX Γ L xs) (hL : L ≤ 3072) {w : Wd} (hw : okX w) (hm : okM w) (ho : At w 206 (2, 1, 1)) {n : Nat} {h : Hp} (hI : Inv n h) (hH : HN h) (hn : n ≤ 1000) {i : Int} (hi : 0 ≤ i ∧ i + 6 ≤ L) {kc ks : Nat} (hk : kc + 1 ≤ room_1.cells ∧ ks + 6 ≤ room_1.slots) {Q : State → Prop} (k : ∀ h2, Inv (n + 1) h2 → HN h2 → Core Γ w h2 (kc + 1) (ks + 6) Q 2070 (LSt i) []) : Core Γ w h kc ks Q 423 (LSt i) [] := by
  obtain ⟨r, h1, h2, e1, e2, hI2⟩ := m_out hI (xi xs (i + 1).toNat) (xi xs (i + 2).toNat) (xi xs (i + 3).toNat)
  have hH2 : HN h2 := by
    unfold HN
    rw [fr_XX12_out e2 40 12 (by first | omega | exact fun hh => hh), fr_XX11_out e1 40 12 (by first | omega | exact fun hh => hh)]; exact hH
  have hk : kc ≤ room_1.cells ∧ ks ≤ room_1.slots := ⟨Nat.le_of_succ_le hk.1, Nat.le_trans (Nat.le_add_right _ _) hk.2⟩
  refine Co_aload_n (kk := 3) g dL_law_423 rfl rfl ?_
  refine Co_aload_n (kk := 4) g dL_law_424 rfl rfl ?_
  refine Co_iload (kk := 0) g dL_law_425 rfl ?_
  refine Co_iconst g dL_law_427 ⟨by decide, by decide⟩ ?_
  refine Co_iadd g dL_law_428 ⟨by omega, by omega⟩ ?_
  refine Co_sld g gl dL_law_429 (by omega) (by omega) ?_
  refine Co_aload_n (kk := 4) g dL_law_430 rfl rfl ?_
  refine Co_iload (kk := 0) g dL_law_431 rfl ?_
  refine Co_iconst g dL_law_433 ⟨by decide, by decide⟩ ?_
  refine Co_iadd g dL_law_434 ⟨by omega, by omega⟩ ?_
  refine Co_sld g gl dL_law_435 (by omega) (by omega) ?_
  refine Co_aload_n (kk := 4) g dL_law_436 rfl rfl ?_
  refine Co_iload (kk := 0) g dL_law_437 rfl ?_
  refine Co_iconst g dL_law_439 ⟨by decide, by decide⟩ ?_
  refine Co_iadd g dL_law_440 ⟨by omega, by omega⟩ ?_
  refine Co_sld g gl dL_law_441 (by omega) (by omega) ?_
  refine Lw_callV (As := [vI (xi xs (i + 1).toNat), vI (xi xs (i + 2).toNat), vI (xi xs (i + 3).toNat)]) g dL_law_442 (sX11_out hw _ _ _ _) e1 rfl (at_16 hw) rfl im_X11_out se_X11_out cw_X11_out ml_Law_40 ini_GP nd_X11_out ⟨by decide, by decide⟩ hk (Nat.le_of_ble_eq_true rfl) ?_
  refine Co_aload_n (kk := 2) g dL_law_445 rfl rfl ?_
  refine Co_aload_n (kk := 4) g dL_law_446 rfl rfl ?_
  refine Co_iload (kk := 0) g dL_law_447 rfl ?_
  refine Co_iconst g dL_law_449 ⟨by decide, by decide⟩ ?_
  refine Co_iadd g dL_law_450 ⟨by omega, by omega⟩ ?_
  refine Co_sld g gl dL_law_451 (by omega) (by omega) ?_
  refine Co_aload_n (kk := 4) g dL_law_452 rfl rfl ?_
  refine Co_iload (kk := 0) g dL_law_453 rfl ?_
  refine Co_iconst g dL_law_455 ⟨by decide, by decide⟩ ?_
  refine Co_iadd g dL_law_456 ⟨by omega, by omega⟩ ?_
  refine Co_sld g gl dL_law_457 (by omega) (by omega) ?_
  refine Co_aload_n (kk := 4) g dL_law_458 rfl rfl ?_
  refine Co_iload (kk := 0) g dL_law_459 rfl ?_
  refine Co_iconst g dL_law_461 ⟨by decide, by decide⟩ ?_
  refine Co_iadd g dL_law_462 ⟨by omega, by omega⟩ ?_
  refine Co_sld g gl dL_law_463 (by omega) (by omega) ?_
  refine Lw_callV (As := [vI (xi xs (i + 1).toNat), vI (xi xs (i + 2).toNat), vI (xi xs (i + 3).toNat)]) g dL_law_464 (sX12_out hm _ _ _ _) e2 rfl (at_143 hm) rfl im_X12_out se_X12_out cw_X12_out ml_Law_43 ini_Mod nd_X12_out ⟨by decide, by decide⟩ hk (Nat.le_of_ble_eq_true rfl) ?_
  refine Co_icmp_eq (tgt := 2070) g dL_law_467 (by decide) (fun _ => ?_) (fun z => absurd rfl z)
  exact Co_widen (Nat.le_succ _) (Nat.le_add_right _ _) (k h2 hI2 hH2)
theorem law_c4 {Γ : Cx} {rt : Option FieldType} (g : Gd Γ code 8 "GatePatchLaw" rt room_1) {sa : Nat → Nat} (gx : GX Γ sa) {L : Nat} {xs : Nat → Int32} (gl : LX Γ L xs) (hL : L ≤ 3072) {w : Wd} (hw : okX w) (hm : okM w) (ho : At w 206 (2, 1, 1)) {n : Nat} {h : Hp} (hI : Inv n h) (hH : HN h) (hn : n ≤ 1000) {i : Int} (hi : 0 ≤ i ∧ i + 6 ≤ L) {kc ks : Nat} (hk : kc + 1 ≤ room_1.cells ∧ ks + 6 ≤ room_1.slots) {Q : State → Prop} (k : ∀ h2, Inv (n + 1) h2 → HN h2 → Core Γ w h2 (kc + 1) (ks + 6) Q 2070 (LSt i) []) : Core Γ w h kc ks Q 472 (LSt i) [] := by
  obtain ⟨r, h1, h2, e1, e2, hI2⟩ := m_next hI (xi xs (i + 1).toNat) (xi xs (i + 2).toNat) (xi xs (i + 3).toNat)
  have hH2 : HN h2 := by
    unfold HN
    rw [fr_XX12_next e2 40 12 (by first | omega | exact fun hh => hh), fr_XX11_next e1 40 12 (by first | omega | exact fun hh => hh)]; exact hH
  have hk : kc ≤ room_1.cells ∧ ks ≤ room_1.slots := ⟨Nat.le_of_succ_le hk.1, Nat.le_trans (Nat.le_add_right _ _) hk.2⟩
  refine Co_aload_n (kk := 3) g dL_law_472 rfl rfl ?_
  refine Co_aload_n (kk := 4) g dL_law_473 rfl rfl ?_
  refine Co_iload (kk := 0) g dL_law_474 rfl ?_
  refine Co_iconst g dL_law_476 ⟨by decide, by decide⟩ ?_
  refine Co_iadd g dL_law_477 ⟨by omega, by omega⟩ ?_
  refine Co_sld g gl dL_law_478 (by omega) (by omega) ?_
  refine Co_aload_n (kk := 4) g dL_law_479 rfl rfl ?_
  refine Co_iload (kk := 0) g dL_law_480 rfl ?_
  refine Co_iconst g dL_law_482 ⟨by decide, by decide⟩ ?_
  refine Co_iadd g dL_law_483 ⟨by omega, by omega⟩ ?_
  refine Co_sld g gl dL_law_484 (by omega) (by omega) ?_
  refine Co_aload_n (kk := 4) g dL_law_485 rfl rfl ?_
  refine Co_iload (kk := 0) g dL_law_486 rfl ?_
  refine Co_iconst g dL_law_488 ⟨by decide, by decide⟩ ?_
  refine Co_iadd g dL_law_489 ⟨by omega, by omega⟩ ?_
  refine Co_sld g gl dL_law_490 (by omega) (by omega) ?_
  refine Lw_callV (As := [vI (xi xs (i + 1).toNat), vI (xi xs (i + 2).toNat), vI (xi xs (i + 3).toNat)]) g dL_law_491 (sX11_next hw _ _ _ _) e1 rfl (at_16 hw) rfl im_X11_next se_X11_next cw_X11_next ml_Law_44 ini_GP nd_X11_next ⟨by decide, by decide⟩ hk (Nat.le_of_ble_eq_true rfl) ?_
  refine Co_aload_n (kk := 2) g dL_law_494 rfl rfl ?_
  refine Co_aload_n (kk := 4) g dL_law_495 rfl rfl ?_
  refine Co_iload (kk := 0) g dL_law_496 rfl ?_
  refine Co_iconst g dL_law_498 ⟨by decide, by decide⟩ ?_
  refine Co_iadd g dL_law_499 ⟨by omega, by omega⟩ ?_
  refine Co_sld g gl dL_law_500 (by omega) (by omega) ?_
  refine Co_aload_n (kk := 4) g dL_law_501 rfl rfl ?_
  refine Co_iload (kk := 0) g dL_law_502 rfl ?_
  refine Co_iconst g dL_law_504 ⟨by decide, by decide⟩ ?_
  refine Co_iadd g dL_law_505 ⟨by omega, by omega⟩ ?_
  refine Co_sld g gl dL_law_506 (by omega) (by omega) ?_
  refine Co_aload_n (kk := 4) g dL_law_507 rfl rfl ?_
  refine Co_iload (kk := 0) g dL_law_508 rfl ?_
  refine Co_iconst g dL_law_510 ⟨by decide, by decide⟩ ?_
  refine Co_iadd g dL_law_511 ⟨by omega, by omega⟩ ?_
  refine Co_sld g gl dL_law_512 (by omega) (by omega) ?_
  refine Lw_callV (As := [vI (xi xs (i + 1).toNat), vI (xi xs (i + 2).toNat), vI (xi xs (i + 3).toNat)]) g dL_law_513 (sX12_next hm _ _ _ _) e2 rfl (at_143 hm) rfl im_X12_next se_X12_next cw_X12_next ml_Law_47 ini_Mod nd_X12_next ⟨by decide, by decide⟩ hk (Nat.le_of_ble_eq_true rfl) ?_
  refine Co_icmp_eq (tgt := 2070) g dL_law_516 (by decide) (fun _ => ?_) (fun z => absurd rfl z)
  exact Co_widen (Nat.le_succ _) (Nat.le_add_right _ _) (k h2 hI2 hH2)
theorem law_c5 {Γ : Cx} {rt : Option FieldType} (g : Gd Γ code 8 "GatePatchLaw" rt room_1) {sa : Nat → Nat} (gx : GX Γ sa) {L : Nat} {xs : Nat → Int32} (gl : LX Γ L xs) (hL : L ≤ 3072) {w : Wd} (hw : okX w) (hm : okM w) (ho : At w 206 (2, 1, 1)) {n : Nat} {h : Hp} (hI : Inv n h) (hH : HN h) (hn : n ≤ 1000) {i : Int} (hi : 0 ≤ i ∧ i + 6 ≤ L) {kc ks : Nat} (hk : kc + 1 ≤ room_1.cells ∧ ks + 6 ≤ room_1.slots) {Q : State → Prop} (k : ∀ h2, Inv (n + 1) h2 → HN h2 → Core Γ w h2 (kc + 1) (ks + 6) Q 2070 (LSt i) []) : Core Γ w h kc ks Q 521 (LSt i) [] := by
  obtain ⟨r, h1, h2, e1, e2, hI2⟩ := m_free hI (xi xs (i + 1).toNat)
  have hH2 : HN h2 := by
    unfold HN
    rw [fr_XX12_free e2 40 12 (by first | omega | exact fun hh => hh), fr_XX11_free e1 40 12 (by first | omega | exact fun hh => hh)]; exact hH
  have hk : kc ≤ room_1.cells ∧ ks ≤ room_1.slots := ⟨Nat.le_of_succ_le hk.1, Nat.le_trans (Nat.le_add_right _ _) hk.2⟩
  refine Co_aload_n (kk := 3) g dL_law_521 rfl rfl ?_
  refine Co_aload_n (kk := 4) g dL_law_522 rfl rfl ?_
  refine Co_iload (kk := 0) g dL_law_523 rfl ?_
  refine Co_iconst g dL_law_525 ⟨by decide, by decide⟩ ?_
  refine Co_iadd g dL_law_526 ⟨by omega, by omega⟩ ?_
  refine Co_sld g gl dL_law_527 (by omega) (by omega) ?_
  refine Lw_callV (As := [vI (xi xs (i + 1).toNat)]) g dL_law_528 (sX11_free hw _ _) e1 rfl (at_16 hw) rfl im_X11_free se_X11_free cw_X11_free ml_Law_48 ini_GP nd_X11_free ⟨by decide, by decide⟩ hk (Nat.le_of_ble_eq_true rfl) ?_
  refine Co_aload_n (kk := 2) g dL_law_531 rfl rfl ?_
  refine Co_aload_n (kk := 4) g dL_law_532 rfl rfl ?_
  refine Co_iload (kk := 0) g dL_law_533 rfl ?_
  refine Co_iconst g dL_law_535 ⟨by decide, by decide⟩ ?_
  refine Co_iadd g dL_law_536 ⟨by omega, by omega⟩ ?_
  refine Co_sld g gl dL_law_537 (by omega) (by omega) ?_
  refine Lw_callV (As := [vI (xi xs (i + 1).toNat)]) g dL_law_538 (sX12_free hm _ _) e2 rfl (at_143 hm) rfl im_X12_free se_X12_free cw_X12_free ml_Law_52 ini_Mod nd_X12_free ⟨by decide, by decide⟩ hk (Nat.le_of_ble_eq_true rfl) ?_
  refine Co_icmp_eq (tgt := 2070) g dL_law_541 (by decide) (fun _ => ?_) (fun z => absurd rfl z)
  exact Co_widen (Nat.le_succ _) (Nat.le_add_right _ _) (k h2 hI2 hH2)
theorem law_c6 {Γ : Cx} {rt : Option FieldType} (g : Gd Γ code 8 "GatePatchLaw" rt room_1) {sa : Nat → Nat} (gx : GX Γ sa) {L : Nat} {xs : Nat → Int32} (gl : LX Γ L xs) (hL : L ≤ 3072) {w : Wd} (hw : okX w) (hm : okM w) (ho : At w 206 (2, 1, 1)) {n : Nat} {h : Hp} (hI : Inv n h) (hH : HN h) (hn : n ≤ 1000) {i : Int} (hi : 0 ≤ i ∧ i + 6 ≤ L) {kc ks : Nat} (hk : kc + 1 ≤ room_1.cells ∧ ks + 6 ≤ room_1.slots) {Q : State → Prop} (k : ∀ h2, Inv (n + 1) h2 → HN h2 → Core Γ w h2 (kc + 1) (ks + 6) Q 2070 (LSt i) []) : Core Γ w h kc ks Q 546 (LSt i) [] := by
  obtain ⟨r, h1, h2, e1, e2, hI2⟩ := m_value hI (xi xs (i + 1).toNat) (xi xs (i + 2).toNat) (xi xs (i + 3).toNat)
  have hH2 : HN h2 := by
    unfold HN
    rw [fr_XX12_value e2 40 12 (by first | omega | exact fun hh => hh), fr_XX11_value e1 40 12 (by first | omega | exact fun hh => hh)]; exact hH
  have hk : kc ≤ room_1.cells ∧ ks ≤ room_1.slots := ⟨Nat.le_of_succ_le hk.1, Nat.le_trans (Nat.le_add_right _ _) hk.2⟩
  refine Co_aload_n (kk := 3) g dL_law_546 rfl rfl ?_
  refine Co_aload_n (kk := 4) g dL_law_547 rfl rfl ?_
  refine Co_iload (kk := 0) g dL_law_548 rfl ?_
  refine Co_iconst g dL_law_550 ⟨by decide, by decide⟩ ?_
  refine Co_iadd g dL_law_551 ⟨by omega, by omega⟩ ?_
  refine Co_sld g gl dL_law_552 (by omega) (by omega) ?_
  refine Co_aload_n (kk := 4) g dL_law_553 rfl rfl ?_
  refine Co_iload (kk := 0) g dL_law_554 rfl ?_
  refine Co_iconst g dL_law_556 ⟨by decide, by decide⟩ ?_
  refine Co_iadd g dL_law_557 ⟨by omega, by omega⟩ ?_
  refine Co_sld g gl dL_law_558 (by omega) (by omega) ?_
  refine Co_aload_n (kk := 4) g dL_law_559 rfl rfl ?_
  refine Co_iload (kk := 0) g dL_law_560 rfl ?_
  refine Co_iconst g dL_law_562 ⟨by decide, by decide⟩ ?_
  refine Co_iadd g dL_law_563 ⟨by omega, by omega⟩ ?_
  refine Co_sld g gl dL_law_564 (by omega) (by omega) ?_
  refine Lw_callV (As := [vI (xi xs (i + 1).toNat), vI (xi xs (i + 2).toNat), vI (xi xs (i + 3).toNat)]) g dL_law_565 (sX11_value hw _ _ _ _) e1 rfl (at_16 hw) rfl im_X11_value se_X11_value cw_X11_value ml_Law_53 ini_GP nd_X11_value ⟨by decide, by decide⟩ hk (Nat.le_of_ble_eq_true rfl) ?_
  refine Co_aload_n (kk := 2) g dL_law_568 rfl rfl ?_
  refine Co_aload_n (kk := 4) g dL_law_569 rfl rfl ?_
  refine Co_iload (kk := 0) g dL_law_570 rfl ?_
  refine Co_iconst g dL_law_572 ⟨by decide, by decide⟩ ?_
  refine Co_iadd g dL_law_573 ⟨by omega, by omega⟩ ?_
  refine Co_sld g gl dL_law_574 (by omega) (by omega) ?_
  refine Co_aload_n (kk := 4) g dL_law_575 rfl rfl ?_
  refine Co_iload (kk := 0) g dL_law_576 rfl ?_
  refine Co_iconst g dL_law_578 ⟨by decide, by decide⟩ ?_
  refine Co_iadd g dL_law_579 ⟨by omega, by omega⟩ ?_
  refine Co_sld g gl dL_law_580 (by omega) (by omega) ?_
  refine Co_aload_n (kk := 4) g dL_law_581 rfl rfl ?_
  refine Co_iload (kk := 0) g dL_law_582 rfl ?_
  refine Co_iconst g dL_law_584 ⟨by decide, by decide⟩ ?_
  refine Co_iadd g dL_law_585 ⟨by omega, by omega⟩ ?_
  refine Co_sld g gl dL_law_586 (by omega) (by omega) ?_
  refine Lw_callV (As := [vI (xi xs (i + 1).toNat), vI (xi xs (i + 2).toNat), vI (xi xs (i + 3).toNat)]) g dL_law_587 (sX12_value hm _ _ _ _) e2 rfl (at_143 hm) rfl im_X12_value se_X12_value cw_X12_value ml_Law_56 ini_Mod nd_X12_value ⟨by decide, by decide⟩ hk (Nat.le_of_ble_eq_true rfl) ?_
  refine Co_icmp_eq (tgt := 2070) g dL_law_590 (by decide) (fun _ => ?_) (fun z => absurd rfl z)
  exact Co_widen (Nat.le_succ _) (Nat.le_add_right _ _) (k h2 hI2 hH2)
theorem law_c7 {Γ : Cx} {rt : Option FieldType} (g : Gd Γ code 8 "GatePatchLaw" rt room_1) {sa : Nat → Nat} (gx : GX Γ sa) {L : Nat} {xs : Nat → Int32} (gl : LX Γ L xs) (hL : L ≤ 3072) {w : Wd} (hw : okX w) (hm : okM w) (ho : At w 206 (2, 1, 1)) {n : Nat} {h : Hp} (hI : Inv n h) (hH : HN h) (hn : n ≤ 1000) {i : Int} (hi : 0 ≤ i ∧ i + 6 ≤ L) {kc ks : Nat} (hk : kc + 1 ≤ room_1.cells ∧ ks + 6 ≤ room_1.slots) {Q : State → Prop} (k : ∀ h2, Inv (n + 1) h2 → HN h2 → Core Γ w h2 (kc + 1) (ks + 6) Q 2070 (LSt i) []) : Core Γ w h kc ks Q 595 (LSt i) [] := by
  obtain ⟨r, h1, e1, hr, hu⟩ := u_row hI (xi xs (i + 1).toNat) (xi xs (i + 2).toNat) (xi xs (i + 3).toNat)
  obtain ⟨h1', c, hc, hg⟩ : ∃ (h1' : Hp) (c : Int), ((r = TH1 ∧ h1' = h1 ∧ c = 1) ∨ (inJ r ∧ h1' = wr h1 206 0 r ∧ c = 0)) ∧ ∀ a i, a ≠ 206 → h1' a i = h1 a i := by
    rcases hr with z | z | z
    · exact ⟨h1, 1, Or.inl ⟨z, rfl, rfl⟩, fun _ _ _ => rfl⟩
    · exact absurd z.1 id
    · exact ⟨_, 0, Or.inr ⟨z, rfl, rfl⟩, fun a i hh => wq_ne (fun u => hh u.1)⟩
  obtain ⟨v, h2, e2, hI2, hv⟩ := hu h1' hg
  have f203 : h2 206 0 = h1' 206 0 := fr_XX12_row e2 206 0 (by omega)
  have ec : h2 143 0 = c := by
    rcases hv with z | z | z <;> rcases hc with y | y
    · rw [z.2, y.2.2]
    · exact absurd z.1 (TH_ne y.1).1
    · exact absurd (y.1.symm.trans z.2.1) TH12
    · exact absurd z.2.1 (TH_ne y.1).2
    · exact absurd y.1 (TH_ne z.1).1
    · rw [z.2.2, y.2.2]
  have ez : c = 0 → jcmp (h2 206 0) v = 0 := fun cz => by
    rcases hc with y | y
    · rw [y.2.2] at cz; cases cz
    · rcases hv with z | z | z
      · exact absurd z.1 (TH_ne y.1).1
      · exact absurd z.2.1 (TH_ne y.1).2
      · rw [f203, y.2.1, wr_at, z.2.1]; exact jcmp0.mpr rfl
  have hH2 : HN h2 := by
    unfold HN
    rw [fr_XX12_row e2 40 12 (by omega), hg 40 12 (by omega), hn_row e1]; exact hH
  have hl := GX_l gx
  have hk2 : kc + 1 ≤ room_1.cells ∧ ks + 6 ≤ room_1.slots := hk
  refine Co_aload_n (kk := 3) g dL_law_595 rfl rfl ?_
  refine Co_aload_n (kk := 4) g dL_law_596 rfl rfl ?_
  refine Co_iload (kk := 0) g dL_law_597 rfl ?_
  refine Co_iconst g dL_law_599 ⟨by decide, by decide⟩ ?_
  refine Co_iadd g dL_law_600 ⟨by omega, by omega⟩ ?_
  refine Co_sld g gl dL_law_601 (by omega) (by omega) ?_
  refine Co_aload_n (kk := 4) g dL_law_602 rfl rfl ?_
  refine Co_iload (kk := 0) g dL_law_603 rfl ?_
  refine Co_iconst g dL_law_605 ⟨by decide, by decide⟩ ?_
  refine Co_iadd g dL_law_606 ⟨by omega, by omega⟩ ?_
  refine Co_sld g gl dL_law_607 (by omega) (by omega) ?_
  refine Co_aload_n (kk := 4) g dL_law_608 rfl rfl ?_
  refine Co_iload (kk := 0) g dL_law_609 rfl ?_
  refine Co_iconst g dL_law_611 ⟨by decide, by decide⟩ ?_
  refine Co_iadd g dL_law_612 ⟨by omega, by omega⟩ ?_
  refine Co_sld g gl dL_law_613 (by omega) (by omega) ?_
  refine Co_aload_n (kk := 1) g dL_law_614 rfl rfl ?_
  refine Co_callSW (As := [vP 16, vI (xi xs (i + 1).toNat), vI (xi xs (i + 2).toNat), vI (xi xs (i + 3).toNat), vP 206]) g gx dL_law_615 (cw9_row hl hw ho _ _ _ _ e1 hc) rfl st_L_row cw_L_row ml_Law_57 ini_Law nd_L_row ⟨Nat.le_of_ble_eq_true rfl, Nat.le_of_ble_eq_true rfl⟩ hk (Nat.le_of_ble_eq_true rfl) ?_
  refine Co_istore g dL_law_618 (by decide) rfl ?_
  refine Co_aload_n (kk := 3) g dL_law_620 rfl rfl ?_
  refine Co_aload_n (kk := 5) g dL_law_621 rfl rfl ?_
  refine Co_iload (kk := 1) g dL_law_622 rfl ?_
  refine Co_iconst g dL_law_624 ⟨by decide, by decide⟩ ?_
  refine Co_iadd g dL_law_625 ⟨by omega, by omega⟩ ?_
  refine Co_sld g gl dL_law_626 (by omega) (by omega) ?_
  refine Co_aload_n (kk := 5) g dL_law_627 rfl rfl ?_
  refine Co_iload (kk := 1) g dL_law_628 rfl ?_
  refine Co_iconst g dL_law_630 ⟨by decide, by decide⟩ ?_
  refine Co_iadd g dL_law_631 ⟨by omega, by omega⟩ ?_
  refine Co_sld g gl dL_law_632 (by omega) (by omega) ?_
  refine Co_aload_n (kk := 5) g dL_law_633 rfl rfl ?_
  refine Co_iload (kk := 1) g dL_law_634 rfl ?_
  refine Co_iconst g dL_law_636 ⟨by decide, by decide⟩ ?_
  refine Co_iadd g dL_law_637 ⟨by omega, by omega⟩ ?_
  refine Co_sld g gl dL_law_638 (by omega) (by omega) ?_
  refine Lw_callV (As := [vI (xi xs (i + 1).toNat), vI (xi xs (i + 2).toNat), vI (xi xs (i + 3).toNat)]) g dL_law_639 (sX12_row hm _ _ _ _) e2 rfl (at_143 hm) rfl im_X12_row se_X12_row cw_X12_row ml_Law_62 ini_Mod nd_X12_row ⟨by decide, by decide⟩ hk2 (Nat.le_of_ble_eq_true rfl) ?_
  refine Co_lstore g dL_law_642 (by decide) rfl ?_
  refine Co_aload_n (kk := 4) g dL_law_644 rfl rfl ?_
  refine Lw_callV (As := []) g dL_law_645 (sX12_thrown hm  _) rfl rfl (at_143 hm) rfl im_X12_thrown se_X12_thrown cw_X12_thrown ml_Law_63 ini_Mod nd_X12_thrown ⟨by decide, by decide⟩ hk2 (Nat.le_of_ble_eq_true rfl) ?_
  refine Co_iload (kk := 1) g dL_law_648 rfl ?_
  refine Co_icmp_eq (tgt := 655) g dL_law_650 (by decide) (fun _ => ?_) (fun z => absurd ec z)
  refine Co_iload (kk := 1) g dL_law_655 rfl ?_
  refine Co_if_ne (tgt := 671) g dL_law_657 (by decide) (fun _ => ?_) (fun z => ?_)
  · refine Co_goto (tgt := 2070) g dL_law_671 (by decide) ?_
    refine Co_sub g [2, 3, 4, 5, 6] rfl ?_
    exact k h2 hI2 hH2
  have ev := ez z
  refine Co_aload_n (kk := 3) g dL_law_660 rfl rfl ?_
  refine Co_iconst g dL_law_661 ⟨by decide, by decide⟩ ?_
  refine Co_laload g dL_law_662 ho (by decide) (by decide) ?_
  refine Co_lload (kk := 0) g dL_law_663 rfl ?_
  refine Co_lcmp g dL_law_665 ?_
  refine Co_if_eq (tgt := 671) g dL_law_666 (by decide) (fun _ => ?_) (fun z => absurd ev z)
  refine Co_goto (tgt := 2070) g dL_law_671 (by decide) ?_
  refine Co_sub g [2, 3, 4, 5, 6] rfl ?_
  exact k h2 hI2 hH2
theorem law_c8 {Γ : Cx} {rt : Option FieldType} (g : Gd Γ code 8 "GatePatchLaw" rt room_1) {sa : Nat → Nat} (gx : GX Γ sa) {L : Nat} {xs : Nat → Int32} (gl : LX Γ L xs) (hL : L ≤ 3072) {w : Wd} (hw : okX w) (hm : okM w) (ho : At w 206 (2, 1, 1)) {n : Nat} {h : Hp} (hI : Inv n h) (hH : HN h) (hn : n ≤ 1000) {i : Int} (hi : 0 ≤ i ∧ i + 6 ≤ L) {kc ks : Nat} (hk : kc + 1 ≤ room_1.cells ∧ ks + 6 ≤ room_1.slots) {Q : State → Prop} (k : ∀ h2, Inv (n + 1) h2 → HN h2 → Core Γ w h2 (kc + 1) (ks + 6) Q 2070 (LSt i) []) : Core Γ w h kc ks Q 674 (LSt i) [] := by
  obtain ⟨r, h1, h2, e1, e2, hI2⟩ := m_hangs hI (xi xs (i + 1).toNat) (xi xs (i + 2).toNat) (xi xs (i + 3).toNat)
  have hH2 : HN h2 := by
    unfold HN
    rw [fr_XX12_hangs e2 40 12 (by first | omega | exact fun hh => hh), fr_XX11_hangs e1 40 12 (by first | omega | exact fun hh => hh)]; exact hH
  have hk : kc ≤ room_1.cells ∧ ks ≤ room_1.slots := ⟨Nat.le_of_succ_le hk.1, Nat.le_trans (Nat.le_add_right _ _) hk.2⟩
  refine Co_aload_n (kk := 3) g dL_law_674 rfl rfl ?_
  refine Co_aload_n (kk := 4) g dL_law_675 rfl rfl ?_
  refine Co_iload (kk := 0) g dL_law_676 rfl ?_
  refine Co_iconst g dL_law_678 ⟨by decide, by decide⟩ ?_
  refine Co_iadd g dL_law_679 ⟨by omega, by omega⟩ ?_
  refine Co_sld g gl dL_law_680 (by omega) (by omega) ?_
  refine Co_aload_n (kk := 4) g dL_law_681 rfl rfl ?_
  refine Co_iload (kk := 0) g dL_law_682 rfl ?_
  refine Co_iconst g dL_law_684 ⟨by decide, by decide⟩ ?_
  refine Co_iadd g dL_law_685 ⟨by omega, by omega⟩ ?_
  refine Co_sld g gl dL_law_686 (by omega) (by omega) ?_
  refine Co_aload_n (kk := 4) g dL_law_687 rfl rfl ?_
  refine Co_iload (kk := 0) g dL_law_688 rfl ?_
  refine Co_iconst g dL_law_690 ⟨by decide, by decide⟩ ?_
  refine Co_iadd g dL_law_691 ⟨by omega, by omega⟩ ?_
  refine Co_sld g gl dL_law_692 (by omega) (by omega) ?_
  refine Lw_callV (As := [vI (xi xs (i + 1).toNat), vI (xi xs (i + 2).toNat), vI (xi xs (i + 3).toNat)]) g dL_law_693 (sX11_hangs hw _ _ _ _) e1 rfl (at_16 hw) rfl im_X11_hangs se_X11_hangs cw_X11_hangs ml_Law_67 ini_GP nd_X11_hangs ⟨by decide, by decide⟩ hk (Nat.le_of_ble_eq_true rfl) ?_
  refine Co_aload_n (kk := 2) g dL_law_696 rfl rfl ?_
  refine Co_aload_n (kk := 4) g dL_law_697 rfl rfl ?_
  refine Co_iload (kk := 0) g dL_law_698 rfl ?_
  refine Co_iconst g dL_law_700 ⟨by decide, by decide⟩ ?_
  refine Co_iadd g dL_law_701 ⟨by omega, by omega⟩ ?_
  refine Co_sld g gl dL_law_702 (by omega) (by omega) ?_
  refine Co_aload_n (kk := 4) g dL_law_703 rfl rfl ?_
  refine Co_iload (kk := 0) g dL_law_704 rfl ?_
  refine Co_iconst g dL_law_706 ⟨by decide, by decide⟩ ?_
  refine Co_iadd g dL_law_707 ⟨by omega, by omega⟩ ?_
  refine Co_sld g gl dL_law_708 (by omega) (by omega) ?_
  refine Co_aload_n (kk := 4) g dL_law_709 rfl rfl ?_
  refine Co_iload (kk := 0) g dL_law_710 rfl ?_
  refine Co_iconst g dL_law_712 ⟨by decide, by decide⟩ ?_
  refine Co_iadd g dL_law_713 ⟨by omega, by omega⟩ ?_
  refine Co_sld g gl dL_law_714 (by omega) (by omega) ?_
  refine Lw_callV (As := [vI (xi xs (i + 1).toNat), vI (xi xs (i + 2).toNat), vI (xi xs (i + 3).toNat)]) g dL_law_715 (sX12_hangs hm _ _ _ _) e2 rfl (at_143 hm) rfl im_X12_hangs se_X12_hangs cw_X12_hangs ml_Law_70 ini_Mod nd_X12_hangs ⟨by decide, by decide⟩ hk (Nat.le_of_ble_eq_true rfl) ?_
  refine Co_icmp_eq (tgt := 2070) g dL_law_718 (by decide) (fun _ => ?_) (fun z => absurd rfl z)
  exact Co_widen (Nat.le_succ _) (Nat.le_add_right _ _) (k h2 hI2 hH2)
theorem law_c9 {Γ : Cx} {rt : Option FieldType} (g : Gd Γ code 8 "GatePatchLaw" rt room_1) {sa : Nat → Nat} (gx : GX Γ sa) {L : Nat} {xs : Nat → Int32} (gl : LX Γ L xs) (hL : L ≤ 3072) {w : Wd} (hw : okX w) (hm : okM w) (ho : At w 206 (2, 1, 1)) {n : Nat} {h : Hp} (hI : Inv n h) (hH : HN h) (hn : n ≤ 1000) {i : Int} (hi : 0 ≤ i ∧ i + 6 ≤ L) {kc ks : Nat} (hk : kc + 1 ≤ room_1.cells ∧ ks + 6 ≤ room_1.slots) {Q : State → Prop} (k : ∀ h2, Inv (n + 1) h2 → HN h2 → Core Γ w h2 (kc + 1) (ks + 6) Q 2070 (LSt i) []) : Core Γ w h kc ks Q 723 (LSt i) [] := by
  obtain ⟨r, h1, h2, e1, e2, hI2⟩ := m_differ hI 
  have hH2 : HN h2 := by
    unfold HN
    rw [fr_XX12_differ e2 40 12 (by first | omega | exact fun hh => hh), fr_XX11_differ e1 40 12 (by first | omega | exact fun hh => hh)]; exact hH
  have hk : kc ≤ room_1.cells ∧ ks ≤ room_1.slots := ⟨Nat.le_of_succ_le hk.1, Nat.le_trans (Nat.le_add_right _ _) hk.2⟩
  refine Co_aload_n (kk := 3) g dL_law_723 rfl rfl ?_
  refine Lw_callV (As := []) g dL_law_724 (sX11_differ hw  _) e1 rfl (at_16 hw) rfl im_X11_differ se_X11_differ cw_X11_differ ml_Law_71 ini_GP nd_X11_differ ⟨by decide, by decide⟩ hk (Nat.le_of_ble_eq_true rfl) ?_
  refine Co_aload_n (kk := 2) g dL_law_727 rfl rfl ?_
  refine Lw_callV (As := []) g dL_law_728 (sX12_differ hm  _) e2 rfl (at_143 hm) rfl im_X12_differ se_X12_differ cw_X12_differ ml_Law_74 ini_Mod nd_X12_differ ⟨by decide, by decide⟩ hk (Nat.le_of_ble_eq_true rfl) ?_
  refine Co_icmp_eq (tgt := 2070) g dL_law_731 (by decide) (fun _ => ?_) (fun z => absurd rfl z)
  exact Co_widen (Nat.le_succ _) (Nat.le_add_right _ _) (k h2 hI2 hH2)
theorem law_c10 {Γ : Cx} {rt : Option FieldType} (g : Gd Γ code 8 "GatePatchLaw" rt room_1) {sa : Nat → Nat} (gx : GX Γ sa) {L : Nat} {xs : Nat → Int32} (gl : LX Γ L xs) (hL : L ≤ 3072) {w : Wd} (hw : okX w) (hm : okM w) (ho : At w 206 (2, 1, 1)) {n : Nat} {h : Hp} (hI : Inv n h) (hH : HN h) (hn : n ≤ 1000) {i : Int} (hi : 0 ≤ i ∧ i + 6 ≤ L) {kc ks : Nat} (hk : kc + 1 ≤ room_1.cells ∧ ks + 6 ≤ room_1.slots) {Q : State → Prop} (k : ∀ h2, Inv (n + 1) h2 → HN h2 → Core Γ w h2 (kc + 1) (ks + 6) Q 2070 (LSt i) []) : Core Γ w h kc ks Q 736 (LSt i) [] := by
  obtain ⟨r, h1, h2, e1, e2, hI2⟩ := m_enough hI (xi xs (i + 1).toNat) (xi xs (i + 2).toNat) (xi xs (i + 3).toNat)
  have hH2 : HN h2 := by
    unfold HN
    rw [fr_XX12_enough e2 40 12 (by first | omega | exact fun hh => hh), fr_XX11_enough e1 40 12 (by first | omega | exact fun hh => hh)]; exact hH
  have hk : kc ≤ room_1.cells ∧ ks ≤ room_1.slots := ⟨Nat.le_of_succ_le hk.1, Nat.le_trans (Nat.le_add_right _ _) hk.2⟩
  refine Co_aload_n (kk := 3) g dL_law_736 rfl rfl ?_
  refine Co_aload_n (kk := 4) g dL_law_737 rfl rfl ?_
  refine Co_iload (kk := 0) g dL_law_738 rfl ?_
  refine Co_iconst g dL_law_740 ⟨by decide, by decide⟩ ?_
  refine Co_iadd g dL_law_741 ⟨by omega, by omega⟩ ?_
  refine Co_sld g gl dL_law_742 (by omega) (by omega) ?_
  refine Co_aload_n (kk := 4) g dL_law_743 rfl rfl ?_
  refine Co_iload (kk := 0) g dL_law_744 rfl ?_
  refine Co_iconst g dL_law_746 ⟨by decide, by decide⟩ ?_
  refine Co_iadd g dL_law_747 ⟨by omega, by omega⟩ ?_
  refine Co_sld g gl dL_law_748 (by omega) (by omega) ?_
  refine Co_aload_n (kk := 4) g dL_law_749 rfl rfl ?_
  refine Co_iload (kk := 0) g dL_law_750 rfl ?_
  refine Co_iconst g dL_law_752 ⟨by decide, by decide⟩ ?_
  refine Co_iadd g dL_law_753 ⟨by omega, by omega⟩ ?_
  refine Co_sld g gl dL_law_754 (by omega) (by omega) ?_
  refine Lw_callV (As := [vI (xi xs (i + 1).toNat), vI (xi xs (i + 2).toNat), vI (xi xs (i + 3).toNat)]) g dL_law_755 (sX11_enough hw _ _ _ _) e1 rfl (at_16 hw) rfl im_X11_enough se_X11_enough cw_X11_enough ml_Law_75 ini_GP nd_X11_enough ⟨by decide, by decide⟩ hk (Nat.le_of_ble_eq_true rfl) ?_
  refine Co_aload_n (kk := 2) g dL_law_758 rfl rfl ?_
  refine Co_aload_n (kk := 4) g dL_law_759 rfl rfl ?_
  refine Co_iload (kk := 0) g dL_law_760 rfl ?_
  refine Co_iconst g dL_law_762 ⟨by decide, by decide⟩ ?_
  refine Co_iadd g dL_law_763 ⟨by omega, by omega⟩ ?_
  refine Co_sld g gl dL_law_764 (by omega) (by omega) ?_
  refine Co_aload_n (kk := 4) g dL_law_765 rfl rfl ?_
  refine Co_iload (kk := 0) g dL_law_766 rfl ?_
  refine Co_iconst g dL_law_768 ⟨by decide, by decide⟩ ?_
  refine Co_iadd g dL_law_769 ⟨by omega, by omega⟩ ?_
  refine Co_sld g gl dL_law_770 (by omega) (by omega) ?_
  refine Co_aload_n (kk := 4) g dL_law_771 rfl rfl ?_
  refine Co_iload (kk := 0) g dL_law_772 rfl ?_
  refine Co_iconst g dL_law_774 ⟨by decide, by decide⟩ ?_
  refine Co_iadd g dL_law_775 ⟨by omega, by omega⟩ ?_
  refine Co_sld g gl dL_law_776 (by omega) (by omega) ?_
  refine Lw_callV (As := [vI (xi xs (i + 1).toNat), vI (xi xs (i + 2).toNat), vI (xi xs (i + 3).toNat)]) g dL_law_777 (sX12_enough hm _ _ _ _) e2 rfl (at_143 hm) rfl im_X12_enough se_X12_enough cw_X12_enough ml_Law_78 ini_Mod nd_X12_enough ⟨by decide, by decide⟩ hk (Nat.le_of_ble_eq_true rfl) ?_
  refine Co_icmp_eq (tgt := 2070) g dL_law_780 (by decide) (fun _ => ?_) (fun z => absurd rfl z)
  exact Co_widen (Nat.le_succ _) (Nat.le_add_right _ _) (k h2 hI2 hH2)
theorem law_c11 {Γ : Cx} {rt : Option FieldType} (g : Gd Γ code 8 "GatePatchLaw" rt room_1) {sa : Nat → Nat} (gx : GX Γ sa) {L : Nat} {xs : Nat → Int32} (gl : LX Γ L xs) (hL : L ≤ 3072) {w : Wd} (hw : okX w) (hm : okM w) (ho : At w 206 (2, 1, 1)) {n : Nat} {h : Hp} (hI : Inv n h) (hH : HN h) (hn : n ≤ 1000) {i : Int} (hi : 0 ≤ i ∧ i + 6 ≤ L) {kc ks : Nat} (hk : kc + 1 ≤ room_1.cells ∧ ks + 6 ≤ room_1.slots) {Q : State → Prop} (k : ∀ h2, Inv (n + 1) h2 → HN h2 → Core Γ w h2 (kc + 1) (ks + 6) Q 2070 (LSt i) []) : Core Γ w h kc ks Q 785 (LSt i) [] := by
  obtain ⟨r, h1, h2, e1, e2, hI2⟩ := m_points hI hH (xi xs (i + 1).toNat)
  have hH2 : HN h2 := by
    unfold HN
    rw [fr_XX12_points e2 40 12 (by omega)]; exact n_points hI hH _ e1
  have hk : kc ≤ room_1.cells ∧ ks ≤ room_1.slots := ⟨Nat.le_of_succ_le hk.1, Nat.le_trans (Nat.le_add_right _ _) hk.2⟩
  refine Co_aload_n (kk := 3) g dL_law_785 rfl rfl ?_
  refine Co_aload_n (kk := 4) g dL_law_786 rfl rfl ?_
  refine Co_iload (kk := 0) g dL_law_787 rfl ?_
  refine Co_iconst g dL_law_789 ⟨by decide, by decide⟩ ?_
  refine Co_iadd g dL_law_790 ⟨by omega, by omega⟩ ?_
  refine Co_sld g gl dL_law_791 (by omega) (by omega) ?_
  refine Lw_callV (As := [vI (xi xs (i + 1).toNat)]) g dL_law_792 (sX11_points hw _ _) e1 rfl (at_16 hw) rfl im_X11_points se_X11_points cw_X11_points ml_Law_79 ini_GP nd_X11_points ⟨by decide, by decide⟩ hk (Nat.le_of_ble_eq_true rfl) ?_
  refine Co_aload_n (kk := 2) g dL_law_795 rfl rfl ?_
  refine Co_aload_n (kk := 4) g dL_law_796 rfl rfl ?_
  refine Co_iload (kk := 0) g dL_law_797 rfl ?_
  refine Co_iconst g dL_law_799 ⟨by decide, by decide⟩ ?_
  refine Co_iadd g dL_law_800 ⟨by omega, by omega⟩ ?_
  refine Co_sld g gl dL_law_801 (by omega) (by omega) ?_
  refine Lw_callV (As := [vI (xi xs (i + 1).toNat)]) g dL_law_802 (sX12_points hm _ _) e2 rfl (at_143 hm) rfl im_X12_points se_X12_points cw_X12_points ml_Law_82 ini_Mod nd_X12_points ⟨by decide, by decide⟩ hk (Nat.le_of_ble_eq_true rfl) ?_
  refine Co_icmp_eq (tgt := 2070) g dL_law_805 (by decide) (fun _ => ?_) (fun z => absurd rfl z)
  exact Co_widen (Nat.le_succ _) (Nat.le_add_right _ _) (k h2 hI2 hH2)
