theorem changed17 (h : Hp) : XX11_changed 17 h = some (0, wr (wr (wr h 17 6 0) 56 0 0) 72 2 0) := by
  unfold XX11_changed XX6_stale XX7_drop; rw [zb_0, hm_eq, cal_eq, zb_0, hm_eq, cal_eq, if_pos rfl, hm_eq]
theorem changed27 (h : Hp) : XX11_changed 27 h = some (0, wr (wr h 27 6 0) 56 0 0) := by
  unfold XX11_changed XX6_stale XX7_drop; rw [zb_0, hm_eq, cal_eq, zb_0, hm_eq, cal_eq, if_neg (by decide)]
theorem changedM0 (h : Hp) : XX12_changed 0 h = some (0, wr (wr h 143 23 0) 143 36 0) := by
  unfold XX12_changed XX12_changed_p18; rw [zb_0, hm_eq, if_pos rfl, hm_eq]
theorem changedM1 (h : Hp) : XX12_changed 1 h = some (0, wr (wr h 143 23 0) 143 36 (h 143 36)) := by
  unfold XX12_changed XX12_changed_p18; rw [zb_0, hm_eq, if_neg (by decide), hm_eq, wq_ne (by decide)]
theorem stale_ok {lim : Int} {p : Nat} {h : Hp} (hz : h p 6 = 0) (hP : Pl lim (p + 1) h) : NetOK lim p h := ⟨hP, Or.inl hz, fun hh => by rw [hz] at hh; cases hh⟩
theorem J4_up {h h1 : Hp} (e : ∀ a i, (a = 54 ∨ a = 157 ∨ (a = 53 ∧ i = 1)) → h1 a i = h a i) (hw : wn 18 h ≤ wn 18 h1) (j : J4 h) : J4 h1 := by
  have e54 : h1 54 = h 54 := funext (fun i => e 54 i (by omega))
  have e157 : h1 157 = h 157 := funext (fun i => e 157 i (by omega))
  unfold J4
  rw [e54, e157, e 53 1 (by omega)]
  exact ⟨j.1, j.2.1, j.2.2.1, fun w h1 h2 => j.2.2.2 w (by omega) h2⟩
theorem Inv_chg0 {n : Nat} {h h2 : Hp} (hI : Inv n h)
    (e : ∀ a i, ¬ ((19 ≤ a ∧ a ≤ 25) ∨ (a = 18 ∧ i = 3) ∨ (a = 17 ∧ i = 6) ∨ (a = 56 ∧ i = 0) ∨ (a = 72 ∧ i = 2) ∨ (a = 143 ∧ (i = 23 ∨ i = 36)) ∨ (144 ≤ a ∧ a ≤ 148) ∨ (150 ≤ a ∧ a ≤ 151) ∨ (185 ≤ a ∧ a ≤ 187)) → h2 a i = h a i)
    (z1 : h2 17 6 = 0) (z2 : h2 56 0 = 0) (z3 : h2 72 2 = 0) (z4 : h2 143 23 = 0) (z5 : h2 143 36 = 0) (hP : Pl 40 18 h2) (hR : RelN h2) (h2J : J2 h2) (hw : wn 18 h ≤ wn 18 h2) : Inv (n + 1) h2 := by
  obtain ⟨i1, i2, i3, i4, i5, i6, i7, i8, i9, i10, i11, i12, i13, i14, i15⟩ := hI
  exact ⟨⟨stale_ok z1 hP, NetOK_tr (fun a i hh => e a i (by omega)) i1.2.1, by rw [e 17 1 (by omega)]; exact i1.2.2.1, by rw [e 27 1 (by omega)]; exact i1.2.2.2⟩, hR, h2J, J3_tr (fun a i hh => e a i (by omega)) i4, J4_up (fun a i hh => e a i (by omega)) hw i5, J5_tr (fun a i hh => e a i (by omega)) i6, J6_tr (fun a i hh => e a i (by omega)) i7, J7_tr (fun a i hh => e a i (by omega)) i8, J8_no z2 z4, J9_tr (fun a i hh => e a i (by omega)) i10, J10_no (fun i => e 73 i (by omega)) z3 z5 i11, J11_tr (fun a i hh => e a i (by omega)) i12, J12_tr (fun a i hh => e a i (by omega)) i13, J13_tr (fun a i hh => e a i (by omega)) i14, J14_tr (fun a i hh => e a i (by omega)) i15⟩
theorem Inv_chg1 {n : Nat} {h h2 : Hp} (hI : Inv n h)
    (e : ∀ a i, ¬ ((29 ≤ a ∧ a ≤ 35) ∨ (a = 28 ∧ i = 3) ∨ (a = 27 ∧ i = 6) ∨ (a = 56 ∧ i = 0) ∨ (a = 143 ∧ i = 23) ∨ (144 ≤ a ∧ a ≤ 148) ∨ (185 ≤ a ∧ a ≤ 187)) → h2 a i = h a i)
    (z1 : h2 27 6 = 0) (z2 : h2 56 0 = 0) (z4 : h2 143 23 = 0) (hP : Pl 24 28 h2) (hR : RelN h2) : Inv (n + 1) h2 := by
  obtain ⟨i1, i2, i3, i4, i5, i6, i7, i8, i9, i10, i11, i12, i13, i14, i15⟩ := hI
  exact ⟨⟨NetOK_tr (fun a i hh => e a i (by omega)) i1.1, stale_ok z1 hP, by rw [e 17 1 (by omega)]; exact i1.2.2.1, by rw [e 27 1 (by omega)]; exact i1.2.2.2⟩, hR, J2_tr (fun a i hh => e a i (by omega)) i3, J3_tr (fun a i hh => e a i (by omega)) i4, J4_tr (fun a i hh => e a i (by omega)) i5, J5_tr (fun a i hh => e a i (by omega)) i6, J6_tr (fun a i hh => e a i (by omega)) i7, J7_tr (fun a i hh => e a i (by omega)) i8, J8_no z2 z4, J9_tr (fun a i hh => e a i (by omega)) i10, J10_tr (fun a i hh => e a i (by omega)) i11, J11_tr (fun a i hh => e a i (by omega)) i12, J12_tr (fun a i hh => e a i (by omega)) i13, J13_tr (fun a i hh => e a i (by omega)) i14, J14_tr (fun a i hh => e a i (by omega)) i15⟩
theorem Both_mk {n : Nat} {h : Hp} {X Y : Hp → OR} {r : Int} {h1 h2 : Hp} (e1 : X h = some (r, h1)) (e2 : Y h1 = some (r, h2)) (hI : Inv (n + 1) h2) : Both n h X Y := ⟨r, h1, h2, e1, e2, hI⟩
theorem m_delay {n : Nat} {h : Hp} (hI : Inv n h) (x y : Int) : Both n h (XX11_delay x y) (XX12_delay x y) := by
  obtain ⟨i1, i2, i3, i4, i5, i6, i7, i8, i9, i10, i11, i12, i13, i14, i15⟩ := id hI
  by_cases q : 0 ≤ x ∧ x ≤ 8
  · by_cases q2 : 0 ≤ y ∧ y ≤ 9
    · refine Both_mk (r := h 99 x.toNat) (h1 := wr h 99 x.toNat y) (h2 := wr (wr h 99 x.toNat y) 156 x.toNat y) ?_ ?_ ?_
      · unfold XX11_delay; rw [if_neg (by omega), if_neg (by omega), if_neg (by omega), if_pos (by omega), inb_pos (by omega), nm_eq, inb_pos (by omega), hm_eq]
      · unfold XX12_delay; rw [in_eq, cal_eq, if1 (by omega), if_neg n10, in_eq, cal_eq, if1 (by omega), if_neg n10, inb_pos (by omega), nm_eq, inb_pos (by omega), hm_eq, wr_ne (by omega), (i14 x.toNat (by omega)).1]
      · have e : ∀ a i, ¬ (a = 99 ∨ a = 156) → wr (wr h 99 x.toNat y) 156 x.toNat y a i = h a i := fun a i hh => by rw [wq_ne (by omega), wq_ne (by omega)]
        refine ⟨J1_tr (fun a i hh => e a i (by omega)) i1, RelN_congr (fun a i hh => e a i (by omega)) i2, J2_tr (fun a i hh => e a i (by omega)) i3, J3_tr (fun a i hh => e a i (by omega)) i4, J4_tr (fun a i hh => e a i (by omega)) i5, J5_tr (fun a i hh => e a i (by omega)) i6, J6_tr (fun a i hh => e a i (by omega)) i7, J7_tr (fun a i hh => e a i (by omega)) i8, J8_tr (fun a i hh => e a i (by omega)) i9, J9_tr (fun a i hh => e a i (by omega)) i10, J10_tr (fun a i hh => e a i (by omega)) i11, J11_tr (fun a i hh => e a i (by omega)) i12, J12_tr (fun a i hh => e a i (by omega)) i13, fun k hk => ?_, J14_tr (fun a i hh => e a i (by omega)) i15⟩
        by_cases qk : k = x.toNat
        · rw [wr_ne (by omega), qk, wr_at, wr_at]; exact ⟨rfl, q2⟩
        · rw [wr_ne (by omega), wr_o qk, wr_o qk, wr_ne (by omega)]; exact i14 k hk
    · refine Both_ro (r := -1) ?_ ?_ hI
      · unfold XX11_delay
        rw [if_neg (by omega), if_neg (by omega)]
        by_cases q3 : y < 0
        · rw [if_pos q3]
        · rw [if_neg q3, if_neg (by omega)]
      · unfold XX12_delay; rw [in_eq, cal_eq, if1 (by omega), if_neg n10, in_eq, cal_eq, if0 (by omega), if_pos rfl]
  · refine Both_ro (r := -1) ?_ ?_ hI
    · unfold XX11_delay
      by_cases q3 : x < 0
      · rw [if_pos q3]
      · rw [if_neg q3, if_pos (by omega)]
    · unfold XX12_delay; rw [in_eq, cal_eq, if0 (by omega), if_pos rfl]
theorem Inv_MS {n : Nat} {h : Hp} (hI : Inv n h) : MS h := Rel_MS hI.2.1 hI.1.1.1 hI.1.2.1.1
theorem Inv_N0 {n : Nat} {h : Hp} (hI : Inv n h) : Nums 40 18 h := hI.1.1.1.1
theorem Inv_N1 {n : Nat} {h : Hp} (hI : Inv n h) : Nums 24 28 h := hI.1.2.1.1.1
theorem isPlace_eq (x y : Int) (h : Hp) : XX11_isPlace x y h = some (if (0 ≤ x ∧ x < 32) ∧ (0 ≤ y ∧ y < 32) then 1 else 0, h) := by
  unfold XX11_isPlace
  by_cases q1 : x < 0
  · rw [if_pos q1, if_neg (by omega), zb_0]
  rw [if_neg q1]
  by_cases q2 : 32 ≤ x
  · rw [if_pos q2, if_neg (by omega), zb_0]
  rw [if_neg q2]
  by_cases q3 : y < 0
  · rw [if_pos q3, if_neg (by omega), zb_0]
  rw [if_neg q3]
  by_cases q4 : 32 ≤ y
  · rw [if_pos q4, if_neg (by omega), zb_0]
  rw [if_neg q4, if_pos (by omega), zb_1]
theorem isPlaceM_eq (x y : Int) (h : Hp) : XX12_isPlace x y h = some (if (0 ≤ x ∧ x < 32) ∧ (0 ≤ y ∧ y < 32) then 1 else 0, h) := by
  unfold XX12_isPlace
  rw [in_eq, cal_eq]
  by_cases q1 : 0 ≤ x ∧ x ≤ 31
  · rw [if1 q1, if_neg n10, in_eq, cal_eq]
    by_cases q2 : 0 ≤ y ∧ y ≤ 31
    · rw [if1 q2, if_neg n10, zb_1, if_pos (by omega)]
    · rw [if0 q2, if_pos rfl, zb_0, if_neg (by omega)]
  · rw [if0 q1, if_pos rfl, zb_0, if_neg (by omega)]
theorem m_site {n : Nat} {h : Hp} (hI : Inv n h) (x y z : Int) : Both n h (XX11_site x y z) (XX12_site x y z) := by
  have hN := Inv_N0 hI
  have hMS := Inv_MS hI
  obtain ⟨r1, r2, r3, r4⟩ := Rel_s hI.2.1
  have hlt := Pl_lt (by decide) hN
  by_cases q : 0 ≤ x ∧ x < wn 18 h
  · by_cases q2 : (0 ≤ y ∧ y < 32) ∧ (0 ≤ z ∧ z < 32)
    · obtain ⟨t1, t2, t3⟩ := hI.2.2.1 x.toNat (by omega)
      refine Both_mk (r := h 22 x.toNat) (h1 := wr (wr (wr (wr h 22 x.toNat (32 * z + y)) 17 6 0) 56 0 0) 72 2 0) (h2 := wr (wr (wr (wr (wr (wr (wr (wr h 22 x.toNat (32 * z + y)) 17 6 0) 56 0 0) 72 2 0) 150 x.toNat y) 151 x.toNat z) 143 23 0) 143 36 0) ?_ ?_ ?_
      · unfold XX11_site; rw [isWire_eq (by decide) hN, cal_eq, if1 q, if_neg n10, isPlace_eq, cal_eq, if1 q2, if_neg n10, inb_pos (by omega), nm_eq, chk_pos (by omega), chk_pos (by omega), inb_pos (by omega), hm_eq, changed17, cal_eq]
      · have e1 : ∀ a i, ¬ (a = 22 ∨ a = 17 ∨ a = 56 ∨ a = 72) → wr (wr (wr (wr h 22 x.toNat (32 * z + y)) 17 6 0) 56 0 0) 72 2 0 a i = h a i := fun a i hh => by rw [wq_ne (by omega), wq_ne (by omega), wq_ne (by omega), wq_ne (by omega)]
        have hM1 : MN (wr (wr (wr (wr h 22 x.toNat (32 * z + y)) 17 6 0) 56 0 0) 72 2 0) := MN_congr (e1 _ _ (by omega)) (e1 _ _ (by omega)) (e1 _ _ (by omega)) (funext (fun i => e1 _ _ (by omega))) hMS.1.1
        unfold XX12_site
        rw [isWireM_eq hM1 (by omega), cal_eq, nM_congr (h := h) (e1 _ _ (by omega)) (e1 _ _ (by omega)) (funext (fun i => e1 _ _ (by omega))), r3, if1 q, if_neg n10, isPlaceM_eq, cal_eq, if1 q2, if_neg n10, inb_pos (by omega), e1 151 _ (by omega), chk_pos (by omega), inb_pos (by omega), e1 150 _ (by omega), chk_pos (by omega), nm_eq, inb_pos (by omega), hm_eq, inb_pos (by omega), hm_eq, changedM0, cal_eq, t3]
      · have e : ∀ a i, ¬ (a = 22 ∨ (a = 17 ∧ i = 6) ∨ (a = 56 ∧ i = 0) ∨ (a = 72 ∧ i = 2) ∨ a = 150 ∨ a = 151 ∨ (a = 143 ∧ (i = 23 ∨ i = 36))) → wr (wr (wr (wr (wr (wr (wr (wr h 22 x.toNat (32 * z + y)) 17 6 0) 56 0 0) 72 2 0) 150 x.toNat y) 151 x.toNat z) 143 23 0) 143 36 0 a i = h a i := fun a i hh => by rw [wq_ne (by omega), wq_ne (by omega), wq_ne (by omega), wq_ne (by omega), wq_ne (by omega), wq_ne (by omega), wq_ne (by omega), wq_ne (by omega)]
        have e22 : ∀ w, wr (wr (wr (wr (wr (wr (wr (wr h 22 x.toNat (32 * z + y)) 17 6 0) 56 0 0) 72 2 0) 150 x.toNat y) 151 x.toNat z) 143 23 0) 143 36 0 22 w = if w = x.toNat then 32 * z + y else h 22 w := fun w => by
          rw [wq_ne (by omega), wq_ne (by omega), wq_ne (by omega), wq_ne (by omega), wq_ne (by omega), wq_ne (by omega), wq_ne (by omega)]
          by_cases qw : w = x.toNat
          · rw [if_pos qw, qw, wr_at]
          · rw [if_neg qw, wr_o qw]
        have e150 : ∀ w, wr (wr (wr (wr (wr (wr (wr (wr h 22 x.toNat (32 * z + y)) 17 6 0) 56 0 0) 72 2 0) 150 x.toNat y) 151 x.toNat z) 143 23 0) 143 36 0 150 w = if w = x.toNat then y else h 150 w := fun w => by
          rw [wq_ne (by omega), wq_ne (by omega), wq_ne (by omega)]
          by_cases qw : w = x.toNat
          · rw [if_pos qw, qw, wr_at]
          · rw [if_neg qw, wr_o qw, wq_ne (by omega), wq_ne (by omega), wq_ne (by omega), wq_ne (by omega)]
        have e151 : ∀ w, wr (wr (wr (wr (wr (wr (wr (wr h 22 x.toNat (32 * z + y)) 17 6 0) 56 0 0) 72 2 0) 150 x.toNat y) 151 x.toNat z) 143 23 0) 143 36 0 151 w = if w = x.toNat then z else h 151 w := fun w => by
          rw [wq_ne (by omega), wq_ne (by omega)]
          by_cases qw : w = x.toNat
          · rw [if_pos qw, qw, wr_at]
          · rw [if_neg qw, wr_o qw, wq_ne (by omega), wq_ne (by omega), wq_ne (by omega), wq_ne (by omega), wq_ne (by omega)]
        have z1 : wr (wr (wr (wr (wr (wr (wr (wr h 22 x.toNat (32 * z + y)) 17 6 0) 56 0 0) 72 2 0) 150 x.toNat y) 151 x.toNat z) 143 23 0) 143 36 0 17 6 = 0 := by rw [wq_ne (by omega), wq_ne (by omega), wq_ne (by omega), wq_ne (by omega), wq_ne (by omega), wq_ne (by omega), wr_at]
        have z2 : wr (wr (wr (wr (wr (wr (wr (wr h 22 x.toNat (32 * z + y)) 17 6 0) 56 0 0) 72 2 0) 150 x.toNat y) 151 x.toNat z) 143 23 0) 143 36 0 56 0 = 0 := by rw [wq_ne (by omega), wq_ne (by omega), wq_ne (by omega), wq_ne (by omega), wq_ne (by omega), wr_at]
        have z3 : wr (wr (wr (wr (wr (wr (wr (wr h 22 x.toNat (32 * z + y)) 17 6 0) 56 0 0) 72 2 0) 150 x.toNat y) 151 x.toNat z) 143 23 0) 143 36 0 72 2 = 0 := by rw [wq_ne (by omega), wq_ne (by omega), wq_ne (by omega), wq_ne (by omega), wr_at]
        have z4 : wr (wr (wr (wr (wr (wr (wr (wr h 22 x.toNat (32 * z + y)) 17 6 0) 56 0 0) 72 2 0) 150 x.toNat y) 151 x.toNat z) 143 23 0) 143 36 0 143 23 = 0 := by rw [wq_ne (by omega), wr_at]
        have z5 : wr (wr (wr (wr (wr (wr (wr (wr h 22 x.toNat (32 * z + y)) 17 6 0) 56 0 0) 72 2 0) 150 x.toNat y) 151 x.toNat z) 143 23 0) 143 36 0 143 36 = 0 := wr_at
        generalize wr (wr (wr (wr (wr (wr (wr (wr h 22 x.toNat (32 * z + y)) 17 6 0) 56 0 0) 72 2 0) 150 x.toNat y) 151 x.toNat z) 143 23 0) 143 36 0 = g at *
        have x18 : g 18 = h 18 := funext (fun i => e 18 i (by omega))
        refine Inv_chg0 hI (fun a i hh => e a i (by omega)) z1 z2 z3 z4 z5 ?_ (RelN_congr (fun a i hh => e a i (by omega)) hI.2.1) (fun w hw => ?_) (by rw [wn_congr x18]; exact Int.le_refl _)
        · have hP := hI.1.1.1
          unfold Pl at hP ⊢
          rw [sc_congr x18, wn_congr x18, x18, show g (18 + 1) = h (18 + 1) from funext (fun i => e _ i (by omega)), show g (18 + 2) = h (18 + 2) from funext (fun i => e _ i (by omega)), show g (18 + 3) = h (18 + 3) from funext (fun i => e _ i (by omega))]
          refine ⟨Nums_congr x18 hN, hP.2.1, hP.2.2.1, hP.2.2.2.1, fun w hw => ?_⟩
          show 0 ≤ g 22 w ∧ g 22 w < 1024
          rw [e22]
          split
          · omega
          · exact hP.2.2.2.2 w hw
        · rw [e22, e150, e151]
          split
          · exact ⟨q2.1, q2.2, rfl⟩
          · exact hI.2.2.1 w hw
    · refine Both_ro (r := -1) ?_ ?_ hI
      · unfold XX11_site; rw [isWire_eq (by decide) hN, cal_eq, if1 q, if_neg n10, isPlace_eq, cal_eq, if0 q2, if_pos rfl]
      · unfold XX12_site; rw [isWireM_eq hMS.1.1 (by omega), cal_eq, r3, if1 q, if_neg n10, isPlaceM_eq, cal_eq, if0 q2, if_pos rfl]
  · refine Both_ro (r := -1) ?_ ?_ hI
    · unfold XX11_site; rw [isWire_eq (by decide) hN, cal_eq, if0 q, if_pos rfl]
    · unfold XX12_site; rw [isWireM_eq hMS.1.1 (by omega), cal_eq, r3, if0 q, if_pos rfl]
