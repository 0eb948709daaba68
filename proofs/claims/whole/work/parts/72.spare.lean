theorem m_spare {n : Nat} {h : Hp} (hI : Inv n h) (x y z : Int) : Both n h (XX11_spare x y z) (XX12_spare x y z) := by
  obtain ⟨i1, i2, i3, i4, i5, i6, i7, i8, i9, i10, i11, i12, i13, i14, i15⟩ := id hI
  obtain ⟨e1, e2, e3, e4, e5⟩ := id i10
  by_cases q : 0 ≤ x ∧ x ≤ 5
  · by_cases q2 : (0 ≤ y ∧ y < 32) ∧ (0 ≤ z ∧ z < 32)
    · by_cases qf : h 67 0 < 12
      · -- the class
        have hcl : ∃ g, XX11_spare x y z h = some (h 67 0, g) ∧ (∀ a i, ¬ (a = 68 ∨ a = 69 ∨ (a = 67 ∧ i = 0) ∨ (a = 56 ∧ i = 0) ∨ (a = 72 ∧ i = 2)) → g a i = h a i) ∧ g 67 0 = h 67 0 + 1 ∧ (∀ s, g 68 s = if s = (h 67 0).toNat then x else h 68 s) ∧ (∀ s, g 69 s = if s = (h 67 0).toNat then 32 * z + y else h 69 s) ∧ g 56 0 = 0 ∧ g 72 2 = 0 := by
          refine ⟨wr (wr (wr (wr (wr h 68 (h 67 0).toNat x) 69 (h 67 0).toNat (32 * z + y)) 67 0 (h 67 0 + 1)) 56 0 0) 72 2 0, ?_, fun a i hh => by rw [wq_ne (by omega), wq_ne (by omega), wq_ne (by omega), wq_ne (by omega), wq_ne (by omega)], by rw [wq_ne (by omega), wq_ne (by omega), wr_at], fun s => ?_, fun s => ?_, by rw [wq_ne (by omega), wr_at], wr_at⟩
          · unfold XX11_spare XX9_addSpare XX7_drop
            rw [if_neg (by omega), if_neg (by omega), isPlace_eq, cal_eq, if1 q2, if_neg n10, if_pos qf, chk_pos (by omega), chk_pos (by omega), inb_pos (by omega), hm_eq]
            have w1 : wr h 68 (h 67 0).toNat x 67 0 = h 67 0 := wq_ne (by omega)
            rw [w1, inb_pos (by omega), hm_eq]
            have w2 : wr (wr h 68 (h 67 0).toNat x) 69 (h 67 0).toNat (32 * z + y) 67 0 = h 67 0 := by rw [wq_ne (by omega)]; exact w1
            rw [w2, chk_pos (by omega), hm_eq, wr_at, chk_pos (by omega), cal_eq, zb_0, hm_eq, cal_eq, hm_eq]
            congr 2
            omega
          · rw [wq_ne (by omega), wq_ne (by omega), wq_ne (by omega), wq_ne (by omega)]
            by_cases qs : s = (h 67 0).toNat
            · rw [if_pos qs, qs, wr_at]
            · rw [if_neg qs, wr_o qs]
          · rw [wq_ne (by omega), wq_ne (by omega), wq_ne (by omega)]
            by_cases qs : s = (h 67 0).toNat
            · rw [if_pos qs, qs, wr_at]
            · rw [if_neg qs, wr_o qs, wq_ne (by omega)]
        obtain ⟨g, eg, fg, g1, g2, g3, g4, g5⟩ := hcl
        have n12 : g 143 12 = h 67 0 := by rw [fg 143 12 (by omega)]; exact e1.symm
        have hmo : ∃ f, XX12_spare x y z g = some (h 67 0, f) ∧ (∀ a i, ¬ ((152 ≤ a ∧ a ≤ 155) ∨ (a = 143 ∧ (i = 12 ∨ i = 23 ∨ i = 36))) → f a i = g a i) ∧ f 143 12 = h 67 0 + 1 ∧ (∀ s, f 152 s = if s = (h 67 0).toNat then x else g 152 s) ∧ (∀ s, f 153 s = if s = (h 67 0).toNat then y else g 153 s) ∧ (∀ s, f 154 s = if s = (h 67 0).toNat then z else g 154 s) ∧ (∀ s, f 155 s = if s = (h 67 0).toNat then 0 else g 155 s) ∧ f 143 23 = 0 ∧ f 143 36 = 0 := by
          refine ⟨wr (wr (wr (wr (wr (wr (wr g 152 (h 67 0).toNat x) 153 (h 67 0).toNat y) 154 (h 67 0).toNat z) 155 (h 67 0).toNat 0) 143 12 (h 67 0 + 1)) 143 23 0) 143 36 0, ?_, fun a i hh => by rw [wq_ne (by omega), wq_ne (by omega), wq_ne (by omega), wq_ne (by omega), wq_ne (by omega), wq_ne (by omega), wq_ne (by omega)], by rw [wq_ne (by omega), wq_ne (by omega), wr_at], fun s => ?_, fun s => ?_, fun s => ?_, fun s => ?_, by rw [wq_ne (by omega), wr_at], wr_at⟩
          · unfold XX12_spare
            have w1 : wr g 152 (h 67 0).toNat x 143 12 = h 67 0 := by rw [wq_ne (by omega)]; exact n12
            have w2 : wr (wr g 152 (h 67 0).toNat x) 153 (h 67 0).toNat y 143 12 = h 67 0 := by rw [wq_ne (by omega)]; exact w1
            have w3 : wr (wr (wr g 152 (h 67 0).toNat x) 153 (h 67 0).toNat y) 154 (h 67 0).toNat z 143 12 = h 67 0 := by rw [wq_ne (by omega)]; exact w2
            have w4 : wr (wr (wr (wr g 152 (h 67 0).toNat x) 153 (h 67 0).toNat y) 154 (h 67 0).toNat z) 155 (h 67 0).toNat 0 143 12 = h 67 0 := by rw [wq_ne (by omega)]; exact w3
            rw [in_eq, cal_eq, if1 (by omega), if_neg n10, isPlaceM_eq, cal_eq, if1 q2, if_neg n10, n12, if_neg (by omega), inb_pos (by omega), hm_eq, w1, inb_pos (by omega), hm_eq, w2, inb_pos (by omega), hm_eq, w3, inb_pos (by omega), zb_0, hm_eq, w4, chk_pos (by omega), hm_eq, changedM0, cal_eq, wq_ne (by omega), wq_ne (by omega), wr_at, chk_pos (by omega)]
            congr 2
            omega
          · rw [wq_ne (by omega), wq_ne (by omega), wq_ne (by omega), wq_ne (by omega), wq_ne (by omega), wq_ne (by omega)]
            by_cases qs : s = (h 67 0).toNat
            · rw [if_pos qs, qs, wr_at]
            · rw [if_neg qs, wr_o qs]
          · rw [wq_ne (by omega), wq_ne (by omega), wq_ne (by omega), wq_ne (by omega), wq_ne (by omega)]
            by_cases qs : s = (h 67 0).toNat
            · rw [if_pos qs, qs, wr_at]
            · rw [if_neg qs, wr_o qs, wq_ne (by omega)]
          · rw [wq_ne (by omega), wq_ne (by omega), wq_ne (by omega), wq_ne (by omega)]
            by_cases qs : s = (h 67 0).toNat
            · rw [if_pos qs, qs, wr_at]
            · rw [if_neg qs, wr_o qs, wq_ne (by omega), wq_ne (by omega)]
          · rw [wq_ne (by omega), wq_ne (by omega), wq_ne (by omega)]
            by_cases qs : s = (h 67 0).toNat
            · rw [if_pos qs, qs, wr_at]
            · rw [if_neg qs, wr_o qs, wq_ne (by omega), wq_ne (by omega), wq_ne (by omega)]
        obtain ⟨f, ef, ff, f1, f2, f3, f4, f5, f6, f7⟩ := hmo
        refine Both_mk eg ef ?_
        have fx : ∀ a i, ¬ (a = 68 ∨ a = 69 ∨ (a = 67 ∧ i = 0) ∨ (a = 56 ∧ i = 0) ∨ (a = 72 ∧ i = 2) ∨ (152 ≤ a ∧ a ≤ 155) ∨ (a = 143 ∧ (i = 12 ∨ i = 23 ∨ i = 36))) → f a i = h a i := fun a i hh => by rw [ff a i (by omega), fg a i (by omega)]
        have p0 : f 56 0 = 0 := by rw [ff 56 0 (by omega)]; exact g4
        have u0 : f 72 2 = 0 := by rw [ff 72 2 (by omega)]; exact g5
        refine ⟨J1_tr (fun a i hh => fx a i (by omega)) i1, RelN_congr (fun a i hh => fx a i (by omega)) i2, J2_tr (fun a i hh => fx a i (by omega)) i3, J3_tr (fun a i hh => fx a i (by omega)) i4, J4_tr (fun a i hh => fx a i (by omega)) i5, J5_tr (fun a i hh => fx a i (by omega)) i6, J6_tr (fun a i hh => fx a i (by omega)) i7, J7_tr (fun a i hh => fx a i (by omega)) i8, J8_no p0 f6, ?_, J10_no (fun i => fx 73 i (by omega)) u0 f7 i11, J11_tr (fun a i hh => fx a i (by omega)) i12, J12_tr (fun a i hh => fx a i (by omega)) i13, J13_tr (fun a i hh => fx a i (by omega)) i14, ⟨fun m hm => ?_, fun k hk => ?_, fun i hi => by rw [fx 184 i (by omega)]; exact i15.2.2 i hi⟩⟩
        rotate_left
        · rw [fx 192 m (by omega)]
          refine ⟨(i15.1 m hm).1, fun hh v hv => ?_⟩
          rw [fx 193 _ (by omega)]; exact (i15.1 m hm).2 hh v hv
        · rw [f5 k]; split
          · exact Or.inl rfl
          · rw [fg 155 k (by omega)]; exact i15.2.1 k hk
        have z0 : f 67 0 = h 67 0 + 1 := by rw [ff 67 0 (by omega)]; exact g1
        have z1 : f 67 1 = h 67 1 := fx 67 1 (by omega)
        have hp : (2 : Int) ^ (h 67 0 + 1).toNat = 2 * 2 ^ (h 67 0).toNat := by
          rw [show (h 67 0 + 1).toNat = (h 67 0).toNat + 1 by omega, Int.pow_succ]; omega
        unfold J9
        rw [z0, z1, f1, hp]
        refine ⟨rfl, by omega, by omega, ⟨e4.1, by omega⟩, fun s hs => ?_⟩
        rw [f2, f3, f4, f5, show f 68 s = if s = (h 67 0).toNat then x else h 68 s by rw [ff 68 s (by omega)]; exact g2 s, show f 69 s = if s = (h 67 0).toNat then 32 * z + y else h 69 s by rw [ff 69 s (by omega)]; exact g3 s]
        by_cases qs : s = (h 67 0).toNat
        · rw [if_pos qs, if_pos qs, if_pos qs, if_pos qs, if_pos qs, if_pos qs]
          refine ⟨⟨rfl, q⟩, q2.1, q2.2, rfl, Or.inl rfl, ?_⟩
          have hp12 : (2 : Nat) ^ (h 67 0).toNat ≤ 2 ^ 12 := Nat.pow_le_pow_right (by decide) (by omega)
          have hpc : ((2 ^ (h 67 0).toNat : Nat) : Int) = (2 : Int) ^ (h 67 0).toNat := by rw [Int.natCast_pow]; rfl
          rw [ti_nat e4.1 (by omega), qs]
          have : (h 67 1).toNat < 2 ^ (h 67 0).toNat := by omega
          rw [Nat.testBit_lt_two_pow this]; rfl
        · rw [if_neg qs, if_neg qs, if_neg qs, if_neg qs, if_neg qs, if_neg qs]
          rw [fg 152 s (by omega), fg 153 s (by omega), fg 154 s (by omega), fg 155 s (by omega)]
          exact e5 s (by omega)
      · refine Both_ro (r := -3) ?_ ?_ hI
        · unfold XX11_spare; rw [if_neg (by omega), if_neg (by omega), isPlace_eq, cal_eq, if1 q2, if_neg n10, if_neg qf]
        · unfold XX12_spare; rw [in_eq, cal_eq, if1 (by omega), if_neg n10, isPlaceM_eq, cal_eq, if1 q2, if_neg n10, ← e1, if_pos (by omega)]
    · refine Both_ro (r := -1) ?_ ?_ hI
      · unfold XX11_spare; rw [if_neg (by omega), if_neg (by omega), isPlace_eq, cal_eq, if0 q2, if_pos rfl]
      · unfold XX12_spare; rw [in_eq, cal_eq, if1 (by omega), if_neg n10, isPlaceM_eq, cal_eq, if0 q2, if_pos rfl]
  · refine Both_ro (r := -1) ?_ ?_ hI
    · unfold XX11_spare
      by_cases q3 : x < 0
      · rw [if_pos q3]
      · rw [if_neg q3, if_pos (by omega)]
    · unfold XX12_spare; rw [in_eq, cal_eq, if0 (by omega), if_pos rfl]
theorem marked_ok {h : Hp} : En (XX12_marked h) (fun r h1 => h1 = h ∧ r = (cntB (fun w => decide (¬ h 157 w = -1)) 48 : Nat)) := by
  unfold XX12_marked XX12_marked_L4
  refine En_lup2 (fun _ l2 _ => (48 - l2).toNat) (fun l1 l2 h1 => h = h1 ∧ 0 ≤ l2 ∧ l2 ≤ 48 ∧ l1 = (cntB (fun w => decide (¬ h 157 w = -1)) l2.toNat : Nat)) ?_ FU _ _ _ (by unfold FU; omega) ⟨rfl, by omega, by omega, rfl⟩
  rintro self l1 l2 h1 ih ⟨rfl, c0, c1, c2⟩
  have hc := cntB_le (fun w => decide (¬ h 157 w = -1)) l2.toNat
  unfold XX12_marked_b4
  by_cases q : 48 ≤ l2
  · rw [if_pos q]; exact En_some ⟨rfl, by rw [c2, show l2.toNat = 48 by omega]⟩
  · rw [if_neg q, inb_pos (by omega)]
    have st : ∀ v : Int, (v = if ¬ h 157 l2.toNat = -1 then 1 else 0) → En (XX12_marked_p26 self l2 l1 v h) (fun r h1 => h1 = h ∧ r = (cntB (fun w => decide (¬ h 157 w = -1)) 48 : Nat)) := by
      intro v hv
      have hvb : v = 0 ∨ v = 1 := by rw [hv]; split <;> simp
      unfold XX12_marked_p26
      rw [chk_pos (by omega), nm_eq, chk_pos (by omega)]
      refine ih _ _ _ (by omega) ⟨rfl, by omega, by omega, ?_⟩
      rw [show (l2 + 1).toNat = l2.toNat + 1 by omega, c2, hv]
      show _ = ((cntB _ _ + _ : Nat) : Int)
      by_cases qm : h 157 l2.toNat = -1
      · simp [qm]
      · simp [qm]
    by_cases qm : h 157 l2.toNat = -1
    · rw [if_pos qm]; exact st 0 (by rw [if_neg (by simp [qm])])
    · rw [if_neg qm]; exact st 1 (by rw [if_pos qm])
