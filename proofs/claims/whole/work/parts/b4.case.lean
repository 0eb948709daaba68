theorem law_c24 {Γ : Cx} {rt : Option FieldType} (g : Gd Γ code 8 "GatePatchLaw" rt room_1) {sa : Nat → Nat} (gx : GX Γ sa) {L : Nat} {xs : Nat → Int32} (gl : LX Γ L xs) (hL : L ≤ 3072) {w : Wd} (hw : okX w) (hm : okM w) (ho : At w 206 (2, 1, 1)) {n : Nat} {h : Hp} (hI : Inv n h) (hH : HN h) (hn : n ≤ 1000) {i : Int} (hi : 0 ≤ i ∧ i + 6 ≤ L) {kc ks : Nat} (hk : kc + 1 ≤ room_1.cells ∧ ks + 6 ≤ room_1.slots) {Q : State → Prop} (k : ∀ h2, Inv (n + 1) h2 → HN h2 → Core Γ w h2 (kc + 1) (ks + 6) Q 2070 (LSt i) []) : Core Γ w h kc ks Q 1290 (LSt i) [] := by
  obtain ⟨r, h1, h2, e1, e2, hI2⟩ := m_cost hI (xi xs (i + 1).toNat) (xi xs (i + 2).toNat)
  have hH2 : HN h2 := by
    unfold HN
    rw [fr_XX12_cost e2 40 12 (by first | omega | exact fun hh => hh), fr_XX11_cost e1 40 12 (by first | omega | exact fun hh => hh)]; exact hH
  have hk : kc ≤ room_1.cells ∧ ks ≤ room_1.slots := ⟨Nat.le_of_succ_le hk.1, Nat.le_trans (Nat.le_add_right _ _) hk.2⟩
  refine Co_aload_n (kk := 3) g dL_law_1290 rfl rfl ?_
  refine Co_aload_n (kk := 4) g dL_law_1291 rfl rfl ?_
  refine Co_iload (kk := 0) g dL_law_1292 rfl ?_
  refine Co_iconst g dL_law_1294 ⟨by decide, by decide⟩ ?_
  refine Co_iadd g dL_law_1295 ⟨by omega, by omega⟩ ?_
  refine Co_sld g gl dL_law_1296 (by omega) (by omega) ?_
  refine Co_aload_n (kk := 4) g dL_law_1297 rfl rfl ?_
  refine Co_iload (kk := 0) g dL_law_1298 rfl ?_
  refine Co_iconst g dL_law_1300 ⟨by decide, by decide⟩ ?_
  refine Co_iadd g dL_law_1301 ⟨by omega, by omega⟩ ?_
  refine Co_sld g gl dL_law_1302 (by omega) (by omega) ?_
  refine Lw_callV (As := [vI (xi xs (i + 1).toNat), vI (xi xs (i + 2).toNat)]) g dL_law_1303 (sX11_cost hw _ _ _) e1 rfl (at_16 hw) rfl im_X11_cost se_X11_cost cw_X11_cost ml_Law_132 ini_GP nd_X11_cost ⟨by decide, by decide⟩ hk (Nat.le_of_ble_eq_true rfl) ?_
  refine Co_aload_n (kk := 2) g dL_law_1306 rfl rfl ?_
  refine Co_aload_n (kk := 4) g dL_law_1307 rfl rfl ?_
  refine Co_iload (kk := 0) g dL_law_1308 rfl ?_
  refine Co_iconst g dL_law_1310 ⟨by decide, by decide⟩ ?_
  refine Co_iadd g dL_law_1311 ⟨by omega, by omega⟩ ?_
  refine Co_sld g gl dL_law_1312 (by omega) (by omega) ?_
  refine Co_aload_n (kk := 4) g dL_law_1313 rfl rfl ?_
  refine Co_iload (kk := 0) g dL_law_1314 rfl ?_
  refine Co_iconst g dL_law_1316 ⟨by decide, by decide⟩ ?_
  refine Co_iadd g dL_law_1317 ⟨by omega, by omega⟩ ?_
  refine Co_sld g gl dL_law_1318 (by omega) (by omega) ?_
  refine Lw_callV (As := [vI (xi xs (i + 1).toNat), vI (xi xs (i + 2).toNat)]) g dL_law_1319 (sX12_cost hm _ _ _) e2 rfl (at_143 hm) rfl im_X12_cost se_X12_cost cw_X12_cost ml_Law_135 ini_Mod nd_X12_cost ⟨by decide, by decide⟩ hk (Nat.le_of_ble_eq_true rfl) ?_
  refine Co_icmp_eq (tgt := 2070) g dL_law_1322 (by decide) (fun _ => ?_) (fun z => absurd rfl z)
  exact Co_widen (Nat.le_succ _) (Nat.le_add_right _ _) (k h2 hI2 hH2)
theorem law_c25 {Γ : Cx} {rt : Option FieldType} (g : Gd Γ code 8 "GatePatchLaw" rt room_1) {sa : Nat → Nat} (gx : GX Γ sa) {L : Nat} {xs : Nat → Int32} (gl : LX Γ L xs) (hL : L ≤ 3072) {w : Wd} (hw : okX w) (hm : okM w) (ho : At w 206 (2, 1, 1)) {n : Nat} {h : Hp} (hI : Inv n h) (hH : HN h) (hn : n ≤ 1000) {i : Int} (hi : 0 ≤ i ∧ i + 6 ≤ L) {kc ks : Nat} (hk : kc + 1 ≤ room_1.cells ∧ ks + 6 ≤ room_1.slots) {Q : State → Prop} (k : ∀ h2, Inv (n + 1) h2 → HN h2 → Core Γ w h2 (kc + 1) (ks + 6) Q 2070 (LSt i) []) : Core Γ w h kc ks Q 1327 (LSt i) [] := by
  obtain ⟨r, h1, h2, e1, e2, hI2⟩ := m_site hI (xi xs (i + 1).toNat) (xi xs (i + 2).toNat) (xi xs (i + 3).toNat)
  have hH2 : HN h2 := by
    unfold HN
    rw [fr_XX12_site e2 40 12 (by first | omega | exact fun hh => hh), fr_XX11_site e1 40 12 (by first | omega | exact fun hh => hh)]; exact hH
  have hk : kc ≤ room_1.cells ∧ ks ≤ room_1.slots := ⟨Nat.le_of_succ_le hk.1, Nat.le_trans (Nat.le_add_right _ _) hk.2⟩
  refine Co_aload_n (kk := 3) g dL_law_1327 rfl rfl ?_
  refine Co_aload_n (kk := 4) g dL_law_1328 rfl rfl ?_
  refine Co_iload (kk := 0) g dL_law_1329 rfl ?_
  refine Co_iconst g dL_law_1331 ⟨by decide, by decide⟩ ?_
  refine Co_iadd g dL_law_1332 ⟨by omega, by omega⟩ ?_
  refine Co_sld g gl dL_law_1333 (by omega) (by omega) ?_
  refine Co_aload_n (kk := 4) g dL_law_1334 rfl rfl ?_
  refine Co_iload (kk := 0) g dL_law_1335 rfl ?_
  refine Co_iconst g dL_law_1337 ⟨by decide, by decide⟩ ?_
  refine Co_iadd g dL_law_1338 ⟨by omega, by omega⟩ ?_
  refine Co_sld g gl dL_law_1339 (by omega) (by omega) ?_
  refine Co_aload_n (kk := 4) g dL_law_1340 rfl rfl ?_
  refine Co_iload (kk := 0) g dL_law_1341 rfl ?_
  refine Co_iconst g dL_law_1343 ⟨by decide, by decide⟩ ?_
  refine Co_iadd g dL_law_1344 ⟨by omega, by omega⟩ ?_
  refine Co_sld g gl dL_law_1345 (by omega) (by omega) ?_
  refine Lw_callV (As := [vI (xi xs (i + 1).toNat), vI (xi xs (i + 2).toNat), vI (xi xs (i + 3).toNat)]) g dL_law_1346 (sX11_site hw _ _ _ _) e1 rfl (at_16 hw) rfl im_X11_site se_X11_site cw_X11_site ml_Law_136 ini_GP nd_X11_site ⟨by decide, by decide⟩ hk (Nat.le_of_ble_eq_true rfl) ?_
  refine Co_aload_n (kk := 2) g dL_law_1349 rfl rfl ?_
  refine Co_aload_n (kk := 4) g dL_law_1350 rfl rfl ?_
  refine Co_iload (kk := 0) g dL_law_1351 rfl ?_
  refine Co_iconst g dL_law_1353 ⟨by decide, by decide⟩ ?_
  refine Co_iadd g dL_law_1354 ⟨by omega, by omega⟩ ?_
  refine Co_sld g gl dL_law_1355 (by omega) (by omega) ?_
  refine Co_aload_n (kk := 4) g dL_law_1356 rfl rfl ?_
  refine Co_iload (kk := 0) g dL_law_1357 rfl ?_
  refine Co_iconst g dL_law_1359 ⟨by decide, by decide⟩ ?_
  refine Co_iadd g dL_law_1360 ⟨by omega, by omega⟩ ?_
  refine Co_sld g gl dL_law_1361 (by omega) (by omega) ?_
  refine Co_aload_n (kk := 4) g dL_law_1362 rfl rfl ?_
  refine Co_iload (kk := 0) g dL_law_1363 rfl ?_
  refine Co_iconst g dL_law_1365 ⟨by decide, by decide⟩ ?_
  refine Co_iadd g dL_law_1366 ⟨by omega, by omega⟩ ?_
  refine Co_sld g gl dL_law_1367 (by omega) (by omega) ?_
  refine Lw_callV (As := [vI (xi xs (i + 1).toNat), vI (xi xs (i + 2).toNat), vI (xi xs (i + 3).toNat)]) g dL_law_1368 (sX12_site hm _ _ _ _) e2 rfl (at_143 hm) rfl im_X12_site se_X12_site cw_X12_site ml_Law_139 ini_Mod nd_X12_site ⟨by decide, by decide⟩ hk (Nat.le_of_ble_eq_true rfl) ?_
  refine Co_icmp_eq (tgt := 2070) g dL_law_1371 (by decide) (fun _ => ?_) (fun z => absurd rfl z)
  exact Co_widen (Nat.le_succ _) (Nat.le_add_right _ _) (k h2 hI2 hH2)
theorem law_c26 {Γ : Cx} {rt : Option FieldType} (g : Gd Γ code 8 "GatePatchLaw" rt room_1) {sa : Nat → Nat} (gx : GX Γ sa) {L : Nat} {xs : Nat → Int32} (gl : LX Γ L xs) (hL : L ≤ 3072) {w : Wd} (hw : okX w) (hm : okM w) (ho : At w 206 (2, 1, 1)) {n : Nat} {h : Hp} (hI : Inv n h) (hH : HN h) (hn : n ≤ 1000) {i : Int} (hi : 0 ≤ i ∧ i + 6 ≤ L) {kc ks : Nat} (hk : kc + 1 ≤ room_1.cells ∧ ks + 6 ≤ room_1.slots) {Q : State → Prop} (k : ∀ h2, Inv (n + 1) h2 → HN h2 → Core Γ w h2 (kc + 1) (ks + 6) Q 2070 (LSt i) []) : Core Γ w h kc ks Q 1376 (LSt i) [] := by
  obtain ⟨r, h1, h2, e1, e2, hI2⟩ := m_spare hI (xi xs (i + 1).toNat) (xi xs (i + 2).toNat) (xi xs (i + 3).toNat)
  have hH2 : HN h2 := by
    unfold HN
    rw [fr_XX12_spare e2 40 12 (by first | omega | exact fun hh => hh), fr_XX11_spare e1 40 12 (by first | omega | exact fun hh => hh)]; exact hH
  have hk : kc ≤ room_1.cells ∧ ks ≤ room_1.slots := ⟨Nat.le_of_succ_le hk.1, Nat.le_trans (Nat.le_add_right _ _) hk.2⟩
  refine Co_aload_n (kk := 3) g dL_law_1376 rfl rfl ?_
  refine Co_aload_n (kk := 4) g dL_law_1377 rfl rfl ?_
  refine Co_iload (kk := 0) g dL_law_1378 rfl ?_
  refine Co_iconst g dL_law_1380 ⟨by decide, by decide⟩ ?_
  refine Co_iadd g dL_law_1381 ⟨by omega, by omega⟩ ?_
  refine Co_sld g gl dL_law_1382 (by omega) (by omega) ?_
  refine Co_aload_n (kk := 4) g dL_law_1383 rfl rfl ?_
  refine Co_iload (kk := 0) g dL_law_1384 rfl ?_
  refine Co_iconst g dL_law_1386 ⟨by decide, by decide⟩ ?_
  refine Co_iadd g dL_law_1387 ⟨by omega, by omega⟩ ?_
  refine Co_sld g gl dL_law_1388 (by omega) (by omega) ?_
  refine Co_aload_n (kk := 4) g dL_law_1389 rfl rfl ?_
  refine Co_iload (kk := 0) g dL_law_1390 rfl ?_
  refine Co_iconst g dL_law_1392 ⟨by decide, by decide⟩ ?_
  refine Co_iadd g dL_law_1393 ⟨by omega, by omega⟩ ?_
  refine Co_sld g gl dL_law_1394 (by omega) (by omega) ?_
  refine Lw_callV (As := [vI (xi xs (i + 1).toNat), vI (xi xs (i + 2).toNat), vI (xi xs (i + 3).toNat)]) g dL_law_1395 (sX11_spare hw _ _ _ _) e1 rfl (at_16 hw) rfl im_X11_spare se_X11_spare cw_X11_spare ml_Law_140 ini_GP nd_X11_spare ⟨by decide, by decide⟩ hk (Nat.le_of_ble_eq_true rfl) ?_
  refine Co_aload_n (kk := 2) g dL_law_1398 rfl rfl ?_
  refine Co_aload_n (kk := 4) g dL_law_1399 rfl rfl ?_
  refine Co_iload (kk := 0) g dL_law_1400 rfl ?_
  refine Co_iconst g dL_law_1402 ⟨by decide, by decide⟩ ?_
  refine Co_iadd g dL_law_1403 ⟨by omega, by omega⟩ ?_
  refine Co_sld g gl dL_law_1404 (by omega) (by omega) ?_
  refine Co_aload_n (kk := 4) g dL_law_1405 rfl rfl ?_
  refine Co_iload (kk := 0) g dL_law_1406 rfl ?_
  refine Co_iconst g dL_law_1408 ⟨by decide, by decide⟩ ?_
  refine Co_iadd g dL_law_1409 ⟨by omega, by omega⟩ ?_
  refine Co_sld g gl dL_law_1410 (by omega) (by omega) ?_
  refine Co_aload_n (kk := 4) g dL_law_1411 rfl rfl ?_
  refine Co_iload (kk := 0) g dL_law_1412 rfl ?_
  refine Co_iconst g dL_law_1414 ⟨by decide, by decide⟩ ?_
  refine Co_iadd g dL_law_1415 ⟨by omega, by omega⟩ ?_
  refine Co_sld g gl dL_law_1416 (by omega) (by omega) ?_
  refine Lw_callV (As := [vI (xi xs (i + 1).toNat), vI (xi xs (i + 2).toNat), vI (xi xs (i + 3).toNat)]) g dL_law_1417 (sX12_spare hm _ _ _ _) e2 rfl (at_143 hm) rfl im_X12_spare se_X12_spare cw_X12_spare ml_Law_143 ini_Mod nd_X12_spare ⟨by decide, by decide⟩ hk (Nat.le_of_ble_eq_true rfl) ?_
  refine Co_icmp_eq (tgt := 2070) g dL_law_1420 (by decide) (fun _ => ?_) (fun z => absurd rfl z)
  exact Co_widen (Nat.le_succ _) (Nat.le_add_right _ _) (k h2 hI2 hH2)
theorem law_c27 {Γ : Cx} {rt : Option FieldType} (g : Gd Γ code 8 "GatePatchLaw" rt room_1) {sa : Nat → Nat} (gx : GX Γ sa) {L : Nat} {xs : Nat → Int32} (gl : LX Γ L xs) (hL : L ≤ 3072) {w : Wd} (hw : okX w) (hm : okM w) (ho : At w 206 (2, 1, 1)) {n : Nat} {h : Hp} (hI : Inv n h) (hH : HN h) (hn : n ≤ 1000) {i : Int} (hi : 0 ≤ i ∧ i + 6 ≤ L) {kc ks : Nat} (hk : kc + 1 ≤ room_1.cells ∧ ks + 6 ≤ room_1.slots) {Q : State → Prop} (k : ∀ h2, Inv (n + 1) h2 → HN h2 → Core Γ w h2 (kc + 1) (ks + 6) Q 2070 (LSt i) []) : Core Γ w h kc ks Q 1425 (LSt i) [] := by
  obtain ⟨r, h1, h2, e1, e2, hI2⟩ := m_place hI 
  have hH2 : HN h2 := by
    unfold HN
    rw [fr_XX12_place e2 40 12 (by first | omega | exact fun hh => hh), fr_XX11_place e1 40 12 (by first | omega | exact fun hh => hh)]; exact hH
  have hk : kc ≤ room_1.cells ∧ ks ≤ room_1.slots := ⟨Nat.le_of_succ_le hk.1, Nat.le_trans (Nat.le_add_right _ _) hk.2⟩
  refine Co_aload_n (kk := 3) g dL_law_1425 rfl rfl ?_
  refine Lw_callV (As := []) g dL_law_1426 (sX11_place hw  _) e1 rfl (at_16 hw) rfl im_X11_place se_X11_place cw_X11_place ml_Law_144 ini_GP nd_X11_place ⟨by decide, by decide⟩ hk (Nat.le_of_ble_eq_true rfl) ?_
  refine Co_aload_n (kk := 2) g dL_law_1429 rfl rfl ?_
  refine Lw_callV (As := []) g dL_law_1430 (sX12_place hm  _) e2 rfl (at_143 hm) rfl im_X12_place se_X12_place cw_X12_place ml_Law_147 ini_Mod nd_X12_place ⟨by decide, by decide⟩ hk (Nat.le_of_ble_eq_true rfl) ?_
  refine Co_icmp_eq (tgt := 2070) g dL_law_1433 (by decide) (fun _ => ?_) (fun z => absurd rfl z)
  exact Co_widen (Nat.le_succ _) (Nat.le_add_right _ _) (k h2 hI2 hH2)
theorem law_c28 {Γ : Cx} {rt : Option FieldType} (g : Gd Γ code 8 "GatePatchLaw" rt room_1) {sa : Nat → Nat} (gx : GX Γ sa) {L : Nat} {xs : Nat → Int32} (gl : LX Γ L xs) (hL : L ≤ 3072) {w : Wd} (hw : okX w) (hm : okM w) (ho : At w 206 (2, 1, 1)) {n : Nat} {h : Hp} (hI : Inv n h) (hH : HN h) (hn : n ≤ 1000) {i : Int} (hi : 0 ≤ i ∧ i + 6 ≤ L) {kc ks : Nat} (hk : kc + 1 ≤ room_1.cells ∧ ks + 6 ≤ room_1.slots) {Q : State → Prop} (k : ∀ h2, Inv (n + 1) h2 → HN h2 → Core Γ w h2 (kc + 1) (ks + 6) Q 2070 (LSt i) []) : Core Γ w h kc ks Q 1438 (LSt i) [] := by
  obtain ⟨r, h1, h2, e1, e2, hI2⟩ := m_used hI (xi xs (i + 1).toNat)
  have hH2 : HN h2 := by
    unfold HN
    rw [fr_XX12_used e2 40 12 (by first | omega | exact fun hh => hh), fr_XX11_used e1 40 12 (by first | omega | exact fun hh => hh)]; exact hH
  have hk : kc ≤ room_1.cells ∧ ks ≤ room_1.slots := ⟨Nat.le_of_succ_le hk.1, Nat.le_trans (Nat.le_add_right _ _) hk.2⟩
  refine Co_aload_n (kk := 3) g dL_law_1438 rfl rfl ?_
  refine Co_aload_n (kk := 4) g dL_law_1439 rfl rfl ?_
  refine Co_iload (kk := 0) g dL_law_1440 rfl ?_
  refine Co_iconst g dL_law_1442 ⟨by decide, by decide⟩ ?_
  refine Co_iadd g dL_law_1443 ⟨by omega, by omega⟩ ?_
  refine Co_sld g gl dL_law_1444 (by omega) (by omega) ?_
  refine Lw_callV (As := [vI (xi xs (i + 1).toNat)]) g dL_law_1445 (sX11_used hw _ _) e1 rfl (at_16 hw) rfl im_X11_used se_X11_used cw_X11_used ml_Law_148 ini_GP nd_X11_used ⟨by decide, by decide⟩ hk (Nat.le_of_ble_eq_true rfl) ?_
  refine Co_aload_n (kk := 2) g dL_law_1448 rfl rfl ?_
  refine Co_aload_n (kk := 4) g dL_law_1449 rfl rfl ?_
  refine Co_iload (kk := 0) g dL_law_1450 rfl ?_
  refine Co_iconst g dL_law_1452 ⟨by decide, by decide⟩ ?_
  refine Co_iadd g dL_law_1453 ⟨by omega, by omega⟩ ?_
  refine Co_sld g gl dL_law_1454 (by omega) (by omega) ?_
  refine Lw_callV (As := [vI (xi xs (i + 1).toNat)]) g dL_law_1455 (sX12_used hm _ _) e2 rfl (at_143 hm) rfl im_X12_used se_X12_used cw_X12_used ml_Law_151 ini_Mod nd_X12_used ⟨by decide, by decide⟩ hk (Nat.le_of_ble_eq_true rfl) ?_
  refine Co_icmp_eq (tgt := 2070) g dL_law_1458 (by decide) (fun _ => ?_) (fun z => absurd rfl z)
  exact Co_widen (Nat.le_succ _) (Nat.le_add_right _ _) (k h2 hI2 hH2)
theorem law_c29 {Γ : Cx} {rt : Option FieldType} (g : Gd Γ code 8 "GatePatchLaw" rt room_1) {sa : Nat → Nat} (gx : GX Γ sa) {L : Nat} {xs : Nat → Int32} (gl : LX Γ L xs) (hL : L ≤ 3072) {w : Wd} (hw : okX w) (hm : okM w) (ho : At w 206 (2, 1, 1)) {n : Nat} {h : Hp} (hI : Inv n h) (hH : HN h) (hn : n ≤ 1000) {i : Int} (hi : 0 ≤ i ∧ i + 6 ≤ L) {kc ks : Nat} (hk : kc + 1 ≤ room_1.cells ∧ ks + 6 ≤ room_1.slots) {Q : State → Prop} (k : ∀ h2, Inv (n + 1) h2 → HN h2 → Core Γ w h2 (kc + 1) (ks + 6) Q 2070 (LSt i) []) : Core Γ w h kc ks Q 1463 (LSt i) [] := by
  obtain ⟨r, h1, h2, e1, e2, hI2⟩ := m_delay hI (xi xs (i + 1).toNat) (xi xs (i + 2).toNat)
  have hH2 : HN h2 := by
    unfold HN
    rw [fr_XX12_delay e2 40 12 (by first | omega | exact fun hh => hh), fr_XX11_delay e1 40 12 (by first | omega | exact fun hh => hh)]; exact hH
  have hk : kc ≤ room_1.cells ∧ ks ≤ room_1.slots := ⟨Nat.le_of_succ_le hk.1, Nat.le_trans (Nat.le_add_right _ _) hk.2⟩
  refine Co_aload_n (kk := 3) g dL_law_1463 rfl rfl ?_
  refine Co_aload_n (kk := 4) g dL_law_1464 rfl rfl ?_
  refine Co_iload (kk := 0) g dL_law_1465 rfl ?_
  refine Co_iconst g dL_law_1467 ⟨by decide, by decide⟩ ?_
  refine Co_iadd g dL_law_1468 ⟨by omega, by omega⟩ ?_
  refine Co_sld g gl dL_law_1469 (by omega) (by omega) ?_
  refine Co_aload_n (kk := 4) g dL_law_1470 rfl rfl ?_
  refine Co_iload (kk := 0) g dL_law_1471 rfl ?_
  refine Co_iconst g dL_law_1473 ⟨by decide, by decide⟩ ?_
  refine Co_iadd g dL_law_1474 ⟨by omega, by omega⟩ ?_
  refine Co_sld g gl dL_law_1475 (by omega) (by omega) ?_
  refine Lw_callV (As := [vI (xi xs (i + 1).toNat), vI (xi xs (i + 2).toNat)]) g dL_law_1476 (sX11_delay hw _ _ _) e1 rfl (at_16 hw) rfl im_X11_delay se_X11_delay cw_X11_delay ml_Law_152 ini_GP nd_X11_delay ⟨by decide, by decide⟩ hk (Nat.le_of_ble_eq_true rfl) ?_
  refine Co_aload_n (kk := 2) g dL_law_1479 rfl rfl ?_
  refine Co_aload_n (kk := 4) g dL_law_1480 rfl rfl ?_
  refine Co_iload (kk := 0) g dL_law_1481 rfl ?_
  refine Co_iconst g dL_law_1483 ⟨by decide, by decide⟩ ?_
  refine Co_iadd g dL_law_1484 ⟨by omega, by omega⟩ ?_
  refine Co_sld g gl dL_law_1485 (by omega) (by omega) ?_
  refine Co_aload_n (kk := 4) g dL_law_1486 rfl rfl ?_
  refine Co_iload (kk := 0) g dL_law_1487 rfl ?_
  refine Co_iconst g dL_law_1489 ⟨by decide, by decide⟩ ?_
  refine Co_iadd g dL_law_1490 ⟨by omega, by omega⟩ ?_
  refine Co_sld g gl dL_law_1491 (by omega) (by omega) ?_
  refine Lw_callV (As := [vI (xi xs (i + 1).toNat), vI (xi xs (i + 2).toNat)]) g dL_law_1492 (sX12_delay hm _ _ _) e2 rfl (at_143 hm) rfl im_X12_delay se_X12_delay cw_X12_delay ml_Law_155 ini_Mod nd_X12_delay ⟨by decide, by decide⟩ hk (Nat.le_of_ble_eq_true rfl) ?_
  refine Co_icmp_eq (tgt := 2070) g dL_law_1495 (by decide) (fun _ => ?_) (fun z => absurd rfl z)
  exact Co_widen (Nat.le_succ _) (Nat.le_add_right _ _) (k h2 hI2 hH2)
theorem law_c30 {Γ : Cx} {rt : Option FieldType} (g : Gd Γ code 8 "GatePatchLaw" rt room_1) {sa : Nat → Nat} (gx : GX Γ sa) {L : Nat} {xs : Nat → Int32} (gl : LX Γ L xs) (hL : L ≤ 3072) {w : Wd} (hw : okX w) (hm : okM w) (ho : At w 206 (2, 1, 1)) {n : Nat} {h : Hp} (hI : Inv n h) (hH : HN h) (hn : n ≤ 1000) {i : Int} (hi : 0 ≤ i ∧ i + 6 ≤ L) {kc ks : Nat} (hk : kc + 1 ≤ room_1.cells ∧ ks + 6 ≤ room_1.slots) {Q : State → Prop} (k : ∀ h2, Inv (n + 1) h2 → HN h2 → Core Γ w h2 (kc + 1) (ks + 6) Q 2070 (LSt i) []) : Core Γ w h kc ks Q 1500 (LSt i) [] := by
  obtain ⟨r, h1, h2, e1, e2, hI2⟩ := m_arrive hI (xi xs (i + 1).toNat) (xi xs (i + 2).toNat)
  have hH2 : HN h2 := by
    unfold HN
    rw [fr_XX12_arrive e2 40 12 (by first | omega | exact fun hh => hh), fr_XX11_arrive e1 40 12 (by first | omega | exact fun hh => hh)]; exact hH
  have hk : kc ≤ room_1.cells ∧ ks ≤ room_1.slots := ⟨Nat.le_of_succ_le hk.1, Nat.le_trans (Nat.le_add_right _ _) hk.2⟩
  refine Co_aload_n (kk := 3) g dL_law_1500 rfl rfl ?_
  refine Co_aload_n (kk := 4) g dL_law_1501 rfl rfl ?_
  refine Co_iload (kk := 0) g dL_law_1502 rfl ?_
  refine Co_iconst g dL_law_1504 ⟨by decide, by decide⟩ ?_
  refine Co_iadd g dL_law_1505 ⟨by omega, by omega⟩ ?_
  refine Co_sld g gl dL_law_1506 (by omega) (by omega) ?_
  refine Co_aload_n (kk := 4) g dL_law_1507 rfl rfl ?_
  refine Co_iload (kk := 0) g dL_law_1508 rfl ?_
  refine Co_iconst g dL_law_1510 ⟨by decide, by decide⟩ ?_
  refine Co_iadd g dL_law_1511 ⟨by omega, by omega⟩ ?_
  refine Co_sld g gl dL_law_1512 (by omega) (by omega) ?_
  refine Lw_callV (As := [vI (xi xs (i + 1).toNat), vI (xi xs (i + 2).toNat)]) g dL_law_1513 (sX11_arrive hw _ _ _) e1 rfl (at_16 hw) rfl im_X11_arrive se_X11_arrive cw_X11_arrive ml_Law_156 ini_GP nd_X11_arrive ⟨by decide, by decide⟩ hk (Nat.le_of_ble_eq_true rfl) ?_
  refine Co_aload_n (kk := 2) g dL_law_1516 rfl rfl ?_
  refine Co_aload_n (kk := 4) g dL_law_1517 rfl rfl ?_
  refine Co_iload (kk := 0) g dL_law_1518 rfl ?_
  refine Co_iconst g dL_law_1520 ⟨by decide, by decide⟩ ?_
  refine Co_iadd g dL_law_1521 ⟨by omega, by omega⟩ ?_
  refine Co_sld g gl dL_law_1522 (by omega) (by omega) ?_
  refine Co_aload_n (kk := 4) g dL_law_1523 rfl rfl ?_
  refine Co_iload (kk := 0) g dL_law_1524 rfl ?_
  refine Co_iconst g dL_law_1526 ⟨by decide, by decide⟩ ?_
  refine Co_iadd g dL_law_1527 ⟨by omega, by omega⟩ ?_
  refine Co_sld g gl dL_law_1528 (by omega) (by omega) ?_
  refine Lw_callV (As := [vI (xi xs (i + 1).toNat), vI (xi xs (i + 2).toNat)]) g dL_law_1529 (sX12_arrive hm _ _ _) e2 rfl (at_143 hm) rfl im_X12_arrive se_X12_arrive cw_X12_arrive ml_Law_159 ini_Mod nd_X12_arrive ⟨by decide, by decide⟩ hk (Nat.le_of_ble_eq_true rfl) ?_
  refine Co_icmp_eq (tgt := 2070) g dL_law_1532 (by decide) (fun _ => ?_) (fun z => absurd rfl z)
  exact Co_widen (Nat.le_succ _) (Nat.le_add_right _ _) (k h2 hI2 hH2)
theorem law_c31 {Γ : Cx} {rt : Option FieldType} (g : Gd Γ code 8 "GatePatchLaw" rt room_1) {sa : Nat → Nat} (gx : GX Γ sa) {L : Nat} {xs : Nat → Int32} (gl : LX Γ L xs) (hL : L ≤ 3072) {w : Wd} (hw : okX w) (hm : okM w) (ho : At w 206 (2, 1, 1)) {n : Nat} {h : Hp} (hI : Inv n h) (hH : HN h) (hn : n ≤ 1000) {i : Int} (hi : 0 ≤ i ∧ i + 6 ≤ L) {kc ks : Nat} (hk : kc + 1 ≤ room_1.cells ∧ ks + 6 ≤ room_1.slots) {Q : State → Prop} (k : ∀ h2, Inv (n + 1) h2 → HN h2 → Core Γ w h2 (kc + 1) (ks + 6) Q 2070 (LSt i) []) : Core Γ w h kc ks Q 1537 (LSt i) [] := by
  obtain ⟨r, h1, h2, e1, e2, hI2⟩ := m_late hI (xi xs (i + 1).toNat)
  have hH2 : HN h2 := by
    unfold HN
    rw [fr_XX12_late e2 40 12 (by first | omega | exact fun hh => hh), fr_XX11_late e1 40 12 (by first | omega | exact fun hh => hh)]; exact hH
  have hk : kc ≤ room_1.cells ∧ ks ≤ room_1.slots := ⟨Nat.le_of_succ_le hk.1, Nat.le_trans (Nat.le_add_right _ _) hk.2⟩
  refine Co_aload_n (kk := 3) g dL_law_1537 rfl rfl ?_
  refine Co_aload_n (kk := 4) g dL_law_1538 rfl rfl ?_
  refine Co_iload (kk := 0) g dL_law_1539 rfl ?_
  refine Co_iconst g dL_law_1541 ⟨by decide, by decide⟩ ?_
  refine Co_iadd g dL_law_1542 ⟨by omega, by omega⟩ ?_
  refine Co_sld g gl dL_law_1543 (by omega) (by omega) ?_
  refine Lw_callV (As := [vI (xi xs (i + 1).toNat)]) g dL_law_1544 (sX11_late hw _ _) e1 rfl (at_16 hw) rfl im_X11_late se_X11_late cw_X11_late ml_Law_160 ini_GP nd_X11_late ⟨by decide, by decide⟩ hk (Nat.le_of_ble_eq_true rfl) ?_
  refine Co_aload_n (kk := 2) g dL_law_1547 rfl rfl ?_
  refine Co_aload_n (kk := 4) g dL_law_1548 rfl rfl ?_
  refine Co_iload (kk := 0) g dL_law_1549 rfl ?_
  refine Co_iconst g dL_law_1551 ⟨by decide, by decide⟩ ?_
  refine Co_iadd g dL_law_1552 ⟨by omega, by omega⟩ ?_
  refine Co_sld g gl dL_law_1553 (by omega) (by omega) ?_
  refine Lw_callV (As := [vI (xi xs (i + 1).toNat)]) g dL_law_1554 (sX12_late hm _ _) e2 rfl (at_143 hm) rfl im_X12_late se_X12_late cw_X12_late ml_Law_163 ini_Mod nd_X12_late ⟨by decide, by decide⟩ hk (Nat.le_of_ble_eq_true rfl) ?_
  refine Co_icmp_eq (tgt := 2070) g dL_law_1557 (by decide) (fun _ => ?_) (fun z => absurd rfl z)
  exact Co_widen (Nat.le_succ _) (Nat.le_add_right _ _) (k h2 hI2 hH2)
theorem law_c32 {Γ : Cx} {rt : Option FieldType} (g : Gd Γ code 8 "GatePatchLaw" rt room_1) {sa : Nat → Nat} (gx : GX Γ sa) {L : Nat} {xs : Nat → Int32} (gl : LX Γ L xs) (hL : L ≤ 3072) {w : Wd} (hw : okX w) (hm : okM w) (ho : At w 206 (2, 1, 1)) {n : Nat} {h : Hp} (hI : Inv n h) (hH : HN h) (hn : n ≤ 1000) {i : Int} (hi : 0 ≤ i ∧ i + 6 ≤ L) {kc ks : Nat} (hk : kc + 1 ≤ room_1.cells ∧ ks + 6 ≤ room_1.slots) {Q : State → Prop} (k : ∀ h2, Inv (n + 1) h2 → HN h2 → Core Γ w h2 (kc + 1) (ks + 6) Q 2070 (LSt i) []) : Core Γ w h kc ks Q 1562 (LSt i) [] := by
  obtain ⟨r, h1, h2, e1, e2, hI2⟩ := m_apply hI 
  have hH2 : HN h2 := by
    unfold HN
    rw [fr_XX12_apply e2 40 12 (by first | omega | exact fun hh => hh), fr_XX11_apply e1 40 12 (by first | omega | exact fun hh => hh)]; exact hH
  have hk : kc ≤ room_1.cells ∧ ks ≤ room_1.slots := ⟨Nat.le_of_succ_le hk.1, Nat.le_trans (Nat.le_add_right _ _) hk.2⟩
  refine Co_aload_n (kk := 3) g dL_law_1562 rfl rfl ?_
  refine Lw_callV (As := []) g dL_law_1563 (sX11_apply hw  _) e1 rfl (at_16 hw) rfl im_X11_apply se_X11_apply cw_X11_apply ml_Law_164 ini_GP nd_X11_apply ⟨by decide, by decide⟩ hk (Nat.le_of_ble_eq_true rfl) ?_
  refine Co_aload_n (kk := 2) g dL_law_1566 rfl rfl ?_
  refine Lw_callV (As := []) g dL_law_1567 (sX12_apply hm  _) e2 rfl (at_143 hm) rfl im_X12_apply se_X12_apply cw_X12_apply ml_Law_167 ini_Mod nd_X12_apply ⟨by decide, by decide⟩ hk (Nat.le_of_ble_eq_true rfl) ?_
  refine Co_icmp_eq (tgt := 2070) g dL_law_1570 (by decide) (fun _ => ?_) (fun z => absurd rfl z)
  exact Co_widen (Nat.le_succ _) (Nat.le_add_right _ _) (k h2 hI2 hH2)
theorem law_c33 {Γ : Cx} {rt : Option FieldType} (g : Gd Γ code 8 "GatePatchLaw" rt room_1) {sa : Nat → Nat} (gx : GX Γ sa) {L : Nat} {xs : Nat → Int32} (gl : LX Γ L xs) (hL : L ≤ 3072) {w : Wd} (hw : okX w) (hm : okM w) (ho : At w 206 (2, 1, 1)) {n : Nat} {h : Hp} (hI : Inv n h) (hH : HN h) (hn : n ≤ 1000) {i : Int} (hi : 0 ≤ i ∧ i + 6 ≤ L) {kc ks : Nat} (hk : kc + 1 ≤ room_1.cells ∧ ks + 6 ≤ room_1.slots) {Q : State → Prop} (k : ∀ h2, Inv (n + 1) h2 → HN h2 → Core Γ w h2 (kc + 1) (ks + 6) Q 2070 (LSt i) []) : Core Γ w h kc ks Q 1575 (LSt i) [] := by
  obtain ⟨r, h1, h2, e1, e2, hI2⟩ := m_undo hI 
  have hH2 : HN h2 := by
    unfold HN
    rw [fr_XX12_undo e2 40 12 (by first | omega | exact fun hh => hh), fr_XX11_undo e1 40 12 (by first | omega | exact fun hh => hh)]; exact hH
  have hk : kc ≤ room_1.cells ∧ ks ≤ room_1.slots := ⟨Nat.le_of_succ_le hk.1, Nat.le_trans (Nat.le_add_right _ _) hk.2⟩
  refine Co_aload_n (kk := 3) g dL_law_1575 rfl rfl ?_
  refine Lw_callV (As := []) g dL_law_1576 (sX11_undo hw  _) e1 rfl (at_16 hw) rfl im_X11_undo se_X11_undo cw_X11_undo ml_Law_168 ini_GP nd_X11_undo ⟨by decide, by decide⟩ hk (Nat.le_of_ble_eq_true rfl) ?_
  refine Co_aload_n (kk := 2) g dL_law_1579 rfl rfl ?_
  refine Lw_callV (As := []) g dL_law_1580 (sX12_undo hm  _) e2 rfl (at_143 hm) rfl im_X12_undo se_X12_undo cw_X12_undo ml_Law_171 ini_Mod nd_X12_undo ⟨by decide, by decide⟩ hk (Nat.le_of_ble_eq_true rfl) ?_
  refine Co_icmp_eq (tgt := 2070) g dL_law_1583 (by decide) (fun _ => ?_) (fun z => absurd rfl z)
  exact Co_widen (Nat.le_succ _) (Nat.le_add_right _ _) (k h2 hI2 hH2)
theorem law_c34 {Γ : Cx} {rt : Option FieldType} (g : Gd Γ code 8 "GatePatchLaw" rt room_1) {sa : Nat → Nat} (gx : GX Γ sa) {L : Nat} {xs : Nat → Int32} (gl : LX Γ L xs) (hL : L ≤ 3072) {w : Wd} (hw : okX w) (hm : okM w) (ho : At w 206 (2, 1, 1)) {n : Nat} {h : Hp} (hI : Inv n h) (hH : HN h) (hn : n ≤ 1000) {i : Int} (hi : 0 ≤ i ∧ i + 6 ≤ L) {kc ks : Nat} (hk : kc + 1 ≤ room_1.cells ∧ ks + 6 ≤ room_1.slots) {Q : State → Prop} (k : ∀ h2, Inv (n + 1) h2 → HN h2 → Core Γ w h2 (kc + 1) (ks + 6) Q 2070 (LSt i) []) : Core Γ w h kc ks Q 1588 (LSt i) [] := by
  obtain ⟨r, h1, h2, e1, e2, hI2⟩ := m_change hI (xi xs (i + 1).toNat) (xi xs (i + 2).toNat)
  have hH2 : HN h2 := by
    unfold HN
    rw [fr_XX12_change e2 40 12 (by first | omega | exact fun hh => hh), fr_XX11_change e1 40 12 (by first | omega | exact fun hh => hh)]; exact hH
  have hk : kc ≤ room_1.cells ∧ ks ≤ room_1.slots := ⟨Nat.le_of_succ_le hk.1, Nat.le_trans (Nat.le_add_right _ _) hk.2⟩
  refine Co_aload_n (kk := 3) g dL_law_1588 rfl rfl ?_
  refine Co_aload_n (kk := 4) g dL_law_1589 rfl rfl ?_
  refine Co_iload (kk := 0) g dL_law_1590 rfl ?_
  refine Co_iconst g dL_law_1592 ⟨by decide, by decide⟩ ?_
  refine Co_iadd g dL_law_1593 ⟨by omega, by omega⟩ ?_
  refine Co_sld g gl dL_law_1594 (by omega) (by omega) ?_
  refine Co_aload_n (kk := 4) g dL_law_1595 rfl rfl ?_
  refine Co_iload (kk := 0) g dL_law_1596 rfl ?_
  refine Co_iconst g dL_law_1598 ⟨by decide, by decide⟩ ?_
  refine Co_iadd g dL_law_1599 ⟨by omega, by omega⟩ ?_
  refine Co_sld g gl dL_law_1600 (by omega) (by omega) ?_
  refine Lw_callV (As := [vI (xi xs (i + 1).toNat), vI (xi xs (i + 2).toNat)]) g dL_law_1601 (sX11_change hw _ _ _) e1 rfl (at_16 hw) rfl im_X11_change se_X11_change cw_X11_change ml_Law_172 ini_GP nd_X11_change ⟨by decide, by decide⟩ hk (Nat.le_of_ble_eq_true rfl) ?_
  refine Co_aload_n (kk := 2) g dL_law_1604 rfl rfl ?_
  refine Co_aload_n (kk := 4) g dL_law_1605 rfl rfl ?_
  refine Co_iload (kk := 0) g dL_law_1606 rfl ?_
  refine Co_iconst g dL_law_1608 ⟨by decide, by decide⟩ ?_
  refine Co_iadd g dL_law_1609 ⟨by omega, by omega⟩ ?_
  refine Co_sld g gl dL_law_1610 (by omega) (by omega) ?_
  refine Co_aload_n (kk := 4) g dL_law_1611 rfl rfl ?_
  refine Co_iload (kk := 0) g dL_law_1612 rfl ?_
  refine Co_iconst g dL_law_1614 ⟨by decide, by decide⟩ ?_
  refine Co_iadd g dL_law_1615 ⟨by omega, by omega⟩ ?_
  refine Co_sld g gl dL_law_1616 (by omega) (by omega) ?_
  refine Lw_callV (As := [vI (xi xs (i + 1).toNat), vI (xi xs (i + 2).toNat)]) g dL_law_1617 (sX12_change hm _ _ _) e2 rfl (at_143 hm) rfl im_X12_change se_X12_change cw_X12_change ml_Law_175 ini_Mod nd_X12_change ⟨by decide, by decide⟩ hk (Nat.le_of_ble_eq_true rfl) ?_
  refine Co_icmp_eq (tgt := 2070) g dL_law_1620 (by decide) (fun _ => ?_) (fun z => absurd rfl z)
  exact Co_widen (Nat.le_succ _) (Nat.le_add_right _ _) (k h2 hI2 hH2)
theorem law_c35 {Γ : Cx} {rt : Option FieldType} (g : Gd Γ code 8 "GatePatchLaw" rt room_1) {sa : Nat → Nat} (gx : GX Γ sa) {L : Nat} {xs : Nat → Int32} (gl : LX Γ L xs) (hL : L ≤ 3072) {w : Wd} (hw : okX w) (hm : okM w) (ho : At w 206 (2, 1, 1)) {n : Nat} {h : Hp} (hI : Inv n h) (hH : HN h) (hn : n ≤ 1000) {i : Int} (hi : 0 ≤ i ∧ i + 6 ≤ L) {kc ks : Nat} (hk : kc + 1 ≤ room_1.cells ∧ ks + 6 ≤ room_1.slots) {Q : State → Prop} (k : ∀ h2, Inv (n + 1) h2 → HN h2 → Core Γ w h2 (kc + 1) (ks + 6) Q 2070 (LSt i) []) : Core Γ w h kc ks Q 1625 (LSt i) [] := by
  obtain ⟨r, h1, h2, e1, e2, hI2⟩ := m_test hI (xi xs (i + 1).toNat)
  have hH2 : HN h2 := by
    unfold HN
    rw [fr_XX12_test e2 40 12 (by first | omega | exact fun hh => hh), fr_XX11_test e1 40 12 (by first | omega | exact fun hh => hh)]; exact hH
  have hk : kc ≤ room_1.cells ∧ ks ≤ room_1.slots := ⟨Nat.le_of_succ_le hk.1, Nat.le_trans (Nat.le_add_right _ _) hk.2⟩
  refine Co_aload_n (kk := 3) g dL_law_1625 rfl rfl ?_
  refine Co_aload_n (kk := 4) g dL_law_1626 rfl rfl ?_
  refine Co_iload (kk := 0) g dL_law_1627 rfl ?_
  refine Co_iconst g dL_law_1629 ⟨by decide, by decide⟩ ?_
  refine Co_iadd g dL_law_1630 ⟨by omega, by omega⟩ ?_
  refine Co_sld g gl dL_law_1631 (by omega) (by omega) ?_
  refine Lw_callV (As := [vI (xi xs (i + 1).toNat)]) g dL_law_1632 (sX11_test hw _ _) e1 rfl (at_16 hw) rfl im_X11_test se_X11_test cw_X11_test ml_Law_176 ini_GP nd_X11_test ⟨by decide, by decide⟩ hk (Nat.le_of_ble_eq_true rfl) ?_
  refine Co_aload_n (kk := 2) g dL_law_1635 rfl rfl ?_
  refine Co_aload_n (kk := 4) g dL_law_1636 rfl rfl ?_
  refine Co_iload (kk := 0) g dL_law_1637 rfl ?_
  refine Co_iconst g dL_law_1639 ⟨by decide, by decide⟩ ?_
  refine Co_iadd g dL_law_1640 ⟨by omega, by omega⟩ ?_
  refine Co_sld g gl dL_law_1641 (by omega) (by omega) ?_
  refine Lw_callV (As := [vI (xi xs (i + 1).toNat)]) g dL_law_1642 (sX12_test hm _ _) e2 rfl (at_143 hm) rfl im_X12_test se_X12_test cw_X12_test ml_Law_179 ini_Mod nd_X12_test ⟨by decide, by decide⟩ hk (Nat.le_of_ble_eq_true rfl) ?_
  refine Co_icmp_eq (tgt := 2070) g dL_law_1645 (by decide) (fun _ => ?_) (fun z => absurd rfl z)
  exact Co_widen (Nat.le_succ _) (Nat.le_add_right _ _) (k h2 hI2 hH2)
