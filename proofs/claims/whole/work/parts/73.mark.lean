theorem cntB_upd {f g : Nat → Bool} {n j : Nat} (hj : j < n) (h : ∀ i, i < n → i ≠ j → g i = f i) : (cntB g n : Int) = cntB f n - (if f j = true then 1 else 0) + (if g j = true then 1 else 0) := by
  induction n with
  | zero => exact absurd hj (Nat.not_lt_zero _)
  | succ n ih =>
    show ((cntB g n + _ : Nat) : Int) = ((cntB f n + _ : Nat) : Int) - _ + _
    by_cases q : j = n
    · subst q
      rw [cntB_congr (fun i hi => h i (by omega) (by omega))]
      split <;> split <;> omega
    · have := ih (by omega) (fun i hi hne => h i (by omega) hne)
      rw [h n (by omega) (by omega)]
      split <;> omega
theorem cnt_alike {n : Nat} {h : Hp} (hI : Inv n h) : cntB (fun w => decide (¬ h 157 w = -1)) 48 = cntB (fun w => decide (0 ≤ h 54 w)) 48 := by
  refine cntB_congr (fun i hi => ?_)
  have := hI.2.2.2.2.1.1 i hi
  rw [this.1]
  exact decide_eq_decide.mpr ⟨fun t => by omega, fun t => by omega⟩
theorem give_eq {h : Hp} {w : Int} (hw : 0 ≤ w ∧ w < 48) (hn : 0 ≤ h 53 1 ∧ h 53 1 ≤ 100) (p : Int) : XX4_give w p h = some (0, wr (wr h 53 1 (h 53 1 + ((if p < 0 then 0 else 1) - (if h 54 w.toNat < 0 then 0 else 1)))) 54 w.toNat p) := by
  have p28 : ∀ s2 s3 : Int, (s2 = 0 ∨ s2 = 1) → (s3 = 0 ∨ s3 = 1) → XX4_give_p28 w p (h 53 1) s2 s3 h = some (0, wr (wr h 53 1 (h 53 1 + (s2 - s3))) 54 w.toNat p) := by
    intro s2 s3 h2 h3
    unfold XX4_give_p28
    rw [chk_pos (by omega), chk_pos (by omega), hm_eq, inb_pos (by omega), hm_eq]
  have p14 : ∀ s2 : Int, (s2 = 0 ∨ s2 = 1) → XX4_give_p14 w p (h 53 1) s2 h = some (0, wr (wr h 53 1 (h 53 1 + (s2 - (if h 54 w.toNat < 0 then 0 else 1)))) 54 w.toNat p) := by
    intro s2 h2
    unfold XX4_give_p14
    rw [inb_pos (by omega)]
    by_cases q : h 54 w.toNat < 0
    · rw [if_pos q, if_pos q, p28 s2 0 h2 (Or.inl rfl)]
    · rw [if_neg q, if_neg q, p28 s2 1 h2 (Or.inr rfl)]
  unfold XX4_give
  by_cases q : p < 0
  · rw [if_pos q, if_pos q, p14 0 (Or.inl rfl)]
  · rw [if_neg q, if_neg q, p14 1 (Or.inr rfl)]
theorem m_mark {n : Nat} {h : Hp} (hI : Inv n h) (x y : Int) : Both n h (XX11_mark x y) (XX12_mark x y) := by
  obtain ⟨i1, i2, i3, i4, i5, i6, i7, i8, i9, i10, i11, i12, i13, i14, i15⟩ := id hI
  obtain ⟨a1, a2, a3, a4⟩ := id i5
  have hN := Inv_N0 hI
  have hMS := Inv_MS hI
  obtain ⟨r1, r2, r3, r4⟩ := Rel_s hI.2.1
  have hlt := Pl_lt (by decide) hN
  by_cases q : 0 ≤ x ∧ x < wn 18 h
  · have ax := a1 x.toNat (by omega)
    by_cases q2 : -1 ≤ y ∧ y ≤ 9
    · by_cases qf : 0 ≤ y ∧ h 54 x.toNat = -1 ∧ h 53 1 = 10
      · -- full
        obtain ⟨rm, hm, em, rfl, er⟩ := marked_ok (h := h)
        rw [cnt_alike hI, ← a2] at er
        refine Both_ro (r := -3) ?_ ?_ hI
        · unfold XX11_mark
          rw [isWire_eq (by decide) hN, cal_eq, if1 q, if_neg n10, if_neg (by omega), if_pos (by omega), if_neg (by omega), if_neg (by omega), inb_pos (by omega), if_neg (by omega)]
        · unfold XX12_mark
          rw [isWireM_eq hMS.1.1 (by omega), cal_eq, r3, if1 q, if_neg n10, in_eq, cal_eq, if1 q2, if_neg n10, if_neg (by omega), inb_pos (by omega), ax.1, if_pos (by omega), em, cal_eq, if_pos (by omega)]
      · -- it is given
        have E1 : XX11_mark x y h = XX11_mark_p58 x y h := by
          unfold XX11_mark
          rw [isWire_eq (by decide) hN, cal_eq, if1 q, if_neg n10, if_neg (by omega), if_pos (by omega)]
          by_cases qy : y < 0
          · rw [if_pos qy]
          · rw [if_neg qy]
            by_cases q10 : h 53 1 < 10
            · rw [if_pos q10]
            · rw [if_neg q10, inb_pos (by omega), if_pos (by omega)]
        have hnum : 0 ≤ h 53 1 ∧ h 53 1 ≤ 100 := ⟨by rw [a2]; omega, by omega⟩
        have E2 : XX11_mark_p58 x y h = some (h 53 1 + ((if y < 0 then 0 else 1) - (if h 54 x.toNat < 0 then 0 else 1)), wr (wr h 53 1 (h 53 1 + ((if y < 0 then 0 else 1) - (if h 54 x.toNat < 0 then 0 else 1)))) 54 x.toNat y) := by
          unfold XX11_mark_p58
          rw [give_eq (by omega) hnum, cal_eq, wq_ne (by omega), wr_at]
        generalize hv : h 53 1 + ((if y < 0 then (0 : Int) else 1) - (if h 54 x.toNat < 0 then (0 : Int) else 1)) = v at *
        have e1 : ∀ a i, ¬ ((a = 53 ∧ i = 1) ∨ a = 54) → wr (wr h 53 1 v) 54 x.toNat y a i = h a i := fun a i hh => by rw [wq_ne (by omega), wq_ne (by omega)]
        have g54 : ∀ w, wr (wr h 53 1 v) 54 x.toNat y 54 w = if w = x.toNat then y else h 54 w := fun w => by
          by_cases qw : w = x.toNat
          · rw [if_pos qw, qw, wr_at]
          · rw [if_neg qw, wr_o qw, wq_ne (by omega)]
        have g531 : wr (wr h 53 1 v) 54 x.toNat y 53 1 = v := by rw [wq_ne (by omega), wr_at]
        generalize hg : wr (wr h 53 1 v) 54 x.toNat y = g at *
        have hcnt : v = (cntB (fun w => decide (0 ≤ g 54 w)) 48 : Nat) := by
          rw [cntB_upd (f := fun w => decide (0 ≤ h 54 w)) (j := x.toNat) (by omega) (fun i hi hne => by rw [g54, if_neg hne]), ← a2, ← hv]
          rw [g54, if_pos rfl]
          simp only [decide_eq_true_eq]
          split <;> split <;> split <;> split <;> omega
        have hv10 : v ≤ 10 := by
          rw [← hv]
          split <;> split <;> omega
        -- the model's new heap
        have w157 : ∀ w, wr g 157 x.toNat y 157 w = if w = x.toNat then y else h 157 w := fun w => by
          by_cases qw : w = x.toNat
          · rw [if_pos qw, qw, wr_at]
          · rw [if_neg qw, wr_o qw, e1 157 w (by omega)]
        have hI2 : Inv (n + 1) (wr g 157 x.toNat y) := by
          have e : ∀ a i, ¬ ((a = 53 ∧ i = 1) ∨ a = 54 ∨ a = 157) → wr g 157 x.toNat y a i = h a i := fun a i hh => by rw [wq_ne (by omega)]; exact e1 a i (by omega)
          refine ⟨J1_tr (fun a i hh => e a i (by omega)) i1, RelN_congr (fun a i hh => e a i (by omega)) i2, J2_tr (fun a i hh => e a i (by omega)) i3, J3_tr (fun a i hh => e a i (by omega)) i4, ⟨fun w hw => ?_, ?_, ?_, fun w hw1 hw2 => ?_⟩, J5_tr (fun a i hh => e a i (by omega)) i6, J6_tr (fun a i hh => e a i (by omega)) i7, J7_tr (fun a i hh => e a i (by omega)) i8, J8_tr (fun a i hh => e a i (by omega)) i9, J9_tr (fun a i hh => e a i (by omega)) i10, J10_tr (fun a i hh => e a i (by omega)) i11, J11_tr (fun a i hh => e a i (by omega)) i12, J12_tr (fun a i hh => e a i (by omega)) i13, J13_tr (fun a i hh => e a i (by omega)) i14, J14_tr (fun a i hh => e a i (by omega)) i15⟩
          · rw [w157, wr_ne (by omega), g54]
            split
            · exact ⟨rfl, q2.1, q2.2⟩
            · exact a1 w hw
          · rw [wq_ne (by omega), g531, wr_ne (by omega)]; exact hcnt
          · rw [wq_ne (by omega), g531]; exact hv10
          · rw [wn_congr (show wr g 157 x.toNat y 18 = h 18 from funext (fun i => e 18 i (by omega)))] at hw1
            rw [wr_ne (by omega), g54, if_neg (by omega)]; exact a4 w hw1 hw2
        obtain ⟨rm, hm, em, hme, er⟩ := marked_ok (h := wr g 157 x.toNat y)
        rw [cnt_alike hI2] at er
        have er2 : rm = v := by rw [er, hcnt, wr_ne (by omega)]
        have E3 : XX12_mark_p48 x y g = some (v, wr g 157 x.toNat y) := by
          unfold XX12_mark_p48
          rw [inb_pos (by omega), hm_eq, em, cal_eq, hme, er2]
        obtain ⟨rg, hgm, egm, rfl, erg⟩ := marked_ok (h := g)
        have mg : rg = h 53 1 := by
          rw [erg, show hgm 157 = h 157 from funext (fun i => e1 157 i (by omega)), cnt_alike hI, ← a2]
        obtain ⟨m1, m2, m3, m4⟩ := MN_of (h1 := hgm) (fun a i hh => e1 a i (by omega)) hMS.1.1
        refine Both_mk (r := v) (h1 := hgm) (h2 := wr hgm 157 x.toNat y) (by rw [E1, E2]) ?_ hI2
        unfold XX12_mark
        rw [isWireM_eq m1 (by omega), cal_eq, m2, r3, if1 q, if_neg n10, in_eq, cal_eq, if1 q2, if_neg n10]
        by_cases qy : y = -1
        · rw [if_pos qy, E3]
        · rw [if_neg qy, inb_pos (by omega), e1 157 _ (by omega), ax.1]
          by_cases qx : h 54 x.toNat = -1
          · rw [if_pos qx, egm, cal_eq, if_neg (by omega), E3]
          · rw [if_neg qx, E3]
    · refine Both_ro (r := -1) ?_ ?_ hI
      · unfold XX11_mark
        rw [isWire_eq (by decide) hN, cal_eq, if1 q, if_neg n10]
        by_cases q3 : y < -1
        · rw [if_pos q3]
        · rw [if_neg q3, if_neg (by omega)]
      · unfold XX12_mark
        rw [isWireM_eq hMS.1.1 (by omega), cal_eq, r3, if1 q, if_neg n10, in_eq, cal_eq, if0 q2, if_pos rfl]
  · refine Both_ro (r := -1) ?_ ?_ hI
    · unfold XX11_mark; rw [isWire_eq (by decide) hN, cal_eq, if0 q, if_pos rfl]
    · unfold XX12_mark; rw [isWireM_eq hMS.1.1 (by omega), cal_eq, r3, if0 q, if_pos rfl]
