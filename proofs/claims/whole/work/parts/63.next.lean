theorem m_next {n : Nat} {h : Hp} (hI : Inv n h) (x y z : Int) : Both n h (XX11_next x y z) (XX12_next x y z) := by
  have hMS := Inv_MS hI
  obtain ⟨r1, r2, r3, r4⟩ := Rel_s hI.2.1
  have l0 := Pl_lt (by decide) (Inv_N0 hI)
  have l1 := Pl_lt (by decide) (Inv_N1 hI)
  have hN := Inv_N0 hI
  have hN1 := Inv_N1 hI
  have a1 := hI.2.1.1
  have a2 := hI.2.1.2.1
  have ob : 1 ≤ h 18 2 ∧ h 18 2 ≤ 4 ∧ 0 ≤ h 18 1 ∧ h 18 1 ≤ 2 := by obtain ⟨_, n1, n2, _, _, n5, n6, _, _⟩ := hN; omega
  by_cases q0 : x = 0
  · subst q0
    by_cases q1 : 0 ≤ y ∧ y < h 18 1
    · by_cases q2 : 0 ≤ z ∧ z < wn 18 h
      · have hs := hI.2.1.2.2.2.2.2.2 (h 18 2 + y).toNat (by omega)
        have hsn : sn 0 (h 18 2 + y).toNat h = h 148 y.toNat := by unfold sn; rw [if_neg (by omega), show 2 * (0 : Int).toNat + (h 18 2 + y).toNat - (h 143 3).toNat = y.toNat by simp; omega]
        refine Both_mk (r := h 21 (h 18 2 + y).toNat) (h1 := wr (wr (wr (wr h 21 (h 18 2 + y).toNat z) 17 6 0) 56 0 0) 72 2 0) (h2 := wr (wr (wr (wr (wr (wr (wr h 21 (h 18 2 + y).toNat z) 17 6 0) 56 0 0) 72 2 0) 148 y.toNat z) 143 23 0) 143 36 0) ?_ ?_ ?_
        · unfold XX11_next; rw [netOf0, cal_eq, if_neg (by decide), asr_pos (by decide), if_neg (by omega)]
          show (if h 18 1 ≤ y then _ else cal (XX8_isWire 18 z h) _) = _
          rw [if_neg (by omega), isWire_eq (by decide) hN, cal_eq, if1 q2, if_neg n10]
          show chk (h 18 2 + y) (cal (XX11_see 17 (h 18 2 + y) z h) _) = _
          rw [chk_pos (by omega), see17 (by omega), cal_eq]
        · have e1 : ∀ a i, ¬ (a = 21 ∨ a = 17 ∨ a = 56 ∨ a = 72) → wr (wr (wr (wr h 21 (h 18 2 + y).toNat z) 17 6 0) 56 0 0) 72 2 0 a i = h a i := fun a i hh => by rw [wq_ne (by omega), wq_ne (by omega), wq_ne (by omega), wq_ne (by omega)]
          obtain ⟨m1, m2, m3, m4⟩ := MN_of (fun a i hh => e1 a i (by omega)) hMS.1.1
          unfold XX12_next
          rw [isNet_eq, cal_eq, if1 (by decide), if_neg n10, e1 143 2 (by omega), ← a1.2.1, chk_pos (by omega), in_eq, cal_eq, if1 (by omega), if_neg n10, isWireM_eq m1 (by omega), cal_eq, m2, r3, if1 q2, if_neg n10, chk_pos (by omega), chk_pos (by omega), inb_pos (by omega), nm_eq, chk_pos (by omega), chk_pos (by omega), inb_pos (by omega), hm_eq, changedM0, cal_eq, show (2 * 0 + y).toNat = y.toNat by omega, e1 148 _ (by omega), ← hsn, hs.1]
        · have e : ∀ a i, ¬ (a = 21 ∨ (a = 17 ∧ i = 6) ∨ (a = 56 ∧ i = 0) ∨ (a = 72 ∧ i = 2) ∨ a = 147 ∨ a = 148 ∨ (a = 143 ∧ (i = 23 ∨ i = 36))) → wr (wr (wr (wr (wr (wr (wr h 21 (h 18 2 + y).toNat z) 17 6 0) 56 0 0) 72 2 0) 148 y.toNat z) 143 23 0) 143 36 0 a i = h a i := fun a i hh => by rw [wq_ne (by omega), wq_ne (by omega), wq_ne (by omega), wq_ne (by omega), wq_ne (by omega), wq_ne (by omega), wq_ne (by omega)]
          refine seen_chg0 hI (pl := (h 18 2 + y).toNat) (w := z) q2 e ?_ ?_ ?_ ?_ ?_ (fun k => ?_) (fun k hk => ?_)
          · rw [wq_ne (by omega), wq_ne (by omega), wq_ne (by omega), wq_ne (by omega), wq_ne (by omega), wr_at]
          · rw [wq_ne (by omega), wq_ne (by omega), wq_ne (by omega), wq_ne (by omega), wr_at]
          · rw [wq_ne (by omega), wq_ne (by omega), wq_ne (by omega), wr_at]
          · rw [wq_ne (by omega), wr_at]
          · exact wr_at
          · rw [wq_ne (by omega), wq_ne (by omega), wq_ne (by omega), wq_ne (by omega), wq_ne (by omega), wq_ne (by omega)]
            by_cases qw : k = (h 18 2 + y).toNat
            · rw [if_pos qw, qw, wr_at]
            · rw [if_neg qw, wr_o qw]
          · have e148 : ∀ j, wr (wr (wr (wr (wr (wr (wr h 21 (h 18 2 + y).toNat z) 17 6 0) 56 0 0) 72 2 0) 148 y.toNat z) 143 23 0) 143 36 0 148 j = if j = y.toNat then z else h 148 j := fun j => by
              rw [wq_ne (by omega), wq_ne (by omega)]
              by_cases qw : j = y.toNat
              · rw [if_pos qw, qw, wr_at]
              · rw [if_neg qw, wr_o qw, wq_ne (by omega), wq_ne (by omega), wq_ne (by omega), wq_ne (by omega)]
            have e147 : ∀ j, wr (wr (wr (wr (wr (wr (wr h 21 (h 18 2 + y).toNat z) 17 6 0) 56 0 0) 72 2 0) 148 y.toNat z) 143 23 0) 143 36 0 147 j = h 147 j := fun j => by
              rw [wq_ne (by omega), wq_ne (by omega), wq_ne (by omega), wq_ne (by omega), wq_ne (by omega), wq_ne (by omega), wq_ne (by omega)]
            unfold sn
            rw [e 143 3 (by omega)]
            simp only [e147, e148]
            constructor
            · by_cases qk : (k : Int) < h 143 3
              · rw [if_pos qk, if_pos qk, if_neg (by omega)]
              · rw [if_neg qk, if_neg qk]
                by_cases qy : k = (h 18 2 + y).toNat
                · rw [if_pos qy, if_pos (by simp; omega)]
                · rw [if_neg qy, if_neg (by simp; omega)]
            · by_cases qk : (k : Int) < h 143 3
              · rw [if_pos qk, if_pos qk]
              · rw [if_neg qk, if_neg qk, if_neg (by simp; omega)]
      · refine Both_ro (r := -1) ?_ ?_ hI
        · unfold XX11_next; rw [netOf0, cal_eq, if_neg (by decide), asr_pos (by decide), if_neg (by omega)]
          show (if h 18 1 ≤ y then _ else cal (XX8_isWire 18 z h) _) = _
          rw [if_neg (by omega), isWire_eq (by decide) hN, cal_eq, if0 q2, if_pos rfl]
        · unfold XX12_next; rw [isNet_eq, cal_eq, if1 (by decide), if_neg n10, ← a1.2.1, chk_pos (by omega), in_eq, cal_eq, if1 (by omega), if_neg n10, isWireM_eq hMS.1.1 (by omega), cal_eq, r3, if0 q2, if_pos rfl]
    · refine Both_ro (r := -1) ?_ ?_ hI
      · unfold XX11_next; rw [netOf0, cal_eq, if_neg (by decide), asr_pos (by decide)]
        show (if y < 0 then _ else if h 18 1 ≤ y then _ else _) = _
        by_cases qy : y < 0
        · rw [if_pos qy]
        · rw [if_neg qy, if_pos (by omega)]
      · unfold XX12_next; rw [isNet_eq, cal_eq, if1 (by decide), if_neg n10, ← a1.2.1, chk_pos (by omega), in_eq, cal_eq, if0 (by omega), if_pos rfl]
  by_cases q01 : x = 1
  · subst q01
    by_cases q1 : 0 ≤ y ∧ y < h 18 1
    · by_cases q2 : 0 ≤ z ∧ z < wn 28 h
      · have hs := hI.2.1.2.2.2.2.2.2 (h 18 2 + y).toNat (by omega)
        have hsn : sn 1 (h 18 2 + y).toNat h = h 148 (2 + y.toNat) := by unfold sn; rw [if_neg (by omega), show 2 * (1 : Int).toNat + (h 18 2 + y).toNat - (h 143 3).toNat = 2 + y.toNat by simp; omega]
        refine Both_mk (r := h 31 (h 18 2 + y).toNat) (h1 := wr (wr (wr h 31 (h 18 2 + y).toNat z) 27 6 0) 56 0 0) (h2 := wr (wr (wr (wr (wr (wr h 31 (h 18 2 + y).toNat z) 27 6 0) 56 0 0) 148 (2 + y.toNat) z) 143 23 0) 143 36 (h 143 36)) ?_ ?_ ?_
        · unfold XX11_next; rw [netOf1, cal_eq, if_neg (by decide), asr_pos (by decide), if_neg (by omega)]
          show (if h 28 1 ≤ y then _ else cal (XX8_isWire 28 z h) _) = _
          rw [if_neg (by omega), isWire_eq (by decide) hN1, cal_eq, if1 q2, if_neg n10]
          show chk (h 28 2 + y) (cal (XX11_see 27 (h 28 2 + y) z h) _) = _
          rw [chk_pos (by omega), show h 28 2 + y = h 18 2 + y by omega, see27 (by omega), cal_eq]
        · have e1 : ∀ a i, ¬ (a = 31 ∨ a = 27 ∨ a = 56) → wr (wr (wr h 31 (h 18 2 + y).toNat z) 27 6 0) 56 0 0 a i = h a i := fun a i hh => by rw [wq_ne (by omega), wq_ne (by omega), wq_ne (by omega)]
          obtain ⟨m1, m2, m3, m4⟩ := MN_of (fun a i hh => e1 a i (by omega)) hMS.1.1
          unfold XX12_next
          rw [isNet_eq, cal_eq, if1 (by decide), if_neg n10, e1 143 2 (by omega), ← a1.2.1, chk_pos (by omega), in_eq, cal_eq, if1 (by omega), if_neg n10, isWireM_eq m1 (by omega), cal_eq, m2, r4, if1 q2, if_neg n10, chk_pos (by omega), chk_pos (by omega), inb_pos (by omega), nm_eq, chk_pos (by omega), chk_pos (by omega), inb_pos (by omega), hm_eq, changedM1, cal_eq, show (2 * 1 + y).toNat = 2 + y.toNat by omega, e1 148 _ (by omega), ← hsn, hs.2, wr_ne (by omega), e1 143 36 (by omega)]
        · have e : ∀ a i, ¬ (a = 31 ∨ (a = 27 ∧ i = 6) ∨ (a = 56 ∧ i = 0) ∨ a = 147 ∨ a = 148 ∨ (a = 143 ∧ i = 23)) → wr (wr (wr (wr (wr (wr h 31 (h 18 2 + y).toNat z) 27 6 0) 56 0 0) 148 (2 + y.toNat) z) 143 23 0) 143 36 (h 143 36) a i = h a i := fun a i hh => by
            by_cases qa : a = 143 ∧ i = 36
            · rw [qa.1, qa.2, wr_at]
            · rw [wq_ne qa, wq_ne (by omega), wq_ne (by omega), wq_ne (by omega), wq_ne (by omega), wq_ne (by omega)]
          refine seen_chg1 hI (pl := (h 18 2 + y).toNat) (w := z) q2 e ?_ ?_ ?_ (fun k => ?_) (fun k hk => ?_)
          · rw [wq_ne (by omega), wq_ne (by omega), wq_ne (by omega), wq_ne (by omega), wr_at]
          · rw [wq_ne (by omega), wq_ne (by omega), wq_ne (by omega), wr_at]
          · rw [wq_ne (by omega), wr_at]
          · rw [wq_ne (by omega), wq_ne (by omega), wq_ne (by omega), wq_ne (by omega), wq_ne (by omega)]
            by_cases qw : k = (h 18 2 + y).toNat
            · rw [if_pos qw, qw, wr_at]
            · rw [if_neg qw, wr_o qw]
          · have e148 : ∀ j, wr (wr (wr (wr (wr (wr h 31 (h 18 2 + y).toNat z) 27 6 0) 56 0 0) 148 (2 + y.toNat) z) 143 23 0) 143 36 (h 143 36) 148 j = if j = 2 + y.toNat then z else h 148 j := fun j => by
              rw [wq_ne (by omega), wq_ne (by omega)]
              by_cases qw : j = 2 + y.toNat
              · rw [if_pos qw, qw, wr_at]
              · rw [if_neg qw, wr_o qw, wq_ne (by omega), wq_ne (by omega), wq_ne (by omega)]
            have e147 : ∀ j, wr (wr (wr (wr (wr (wr h 31 (h 18 2 + y).toNat z) 27 6 0) 56 0 0) 148 (2 + y.toNat) z) 143 23 0) 143 36 (h 143 36) 147 j = h 147 j := fun j => by
              rw [wq_ne (by omega), wq_ne (by omega), wq_ne (by omega), wq_ne (by omega), wq_ne (by omega), wq_ne (by omega)]
            unfold sn
            rw [e 143 3 (by omega)]
            simp only [e147, e148]
            constructor
            · by_cases qk : (k : Int) < h 143 3
              · rw [if_pos qk, if_pos qk, if_neg (by omega)]
              · rw [if_neg qk, if_neg qk]
                by_cases qy : k = (h 18 2 + y).toNat
                · rw [if_pos qy, if_pos (by simp; omega)]
                · rw [if_neg qy, if_neg (by simp; omega)]
            · by_cases qk : (k : Int) < h 143 3
              · rw [if_pos qk, if_pos qk]
              · rw [if_neg qk, if_neg qk, if_neg (by simp; omega)]
      · refine Both_ro (r := -1) ?_ ?_ hI
        · unfold XX11_next; rw [netOf1, cal_eq, if_neg (by decide), asr_pos (by decide), if_neg (by omega)]
          show (if h 28 1 ≤ y then _ else cal (XX8_isWire 28 z h) _) = _
          rw [if_neg (by omega), isWire_eq (by decide) hN1, cal_eq, if0 q2, if_pos rfl]
        · unfold XX12_next; rw [isNet_eq, cal_eq, if1 (by decide), if_neg n10, ← a1.2.1, chk_pos (by omega), in_eq, cal_eq, if1 (by omega), if_neg n10, isWireM_eq hMS.1.1 (by omega), cal_eq, r4, if0 q2, if_pos rfl]
    · refine Both_ro (r := -1) ?_ ?_ hI
      · unfold XX11_next; rw [netOf1, cal_eq, if_neg (by decide), asr_pos (by decide)]
        show (if y < 0 then _ else if h 28 1 ≤ y then _ else _) = _
        by_cases qy : y < 0
        · rw [if_pos qy]
        · rw [if_neg qy, if_pos (by omega)]
      · unfold XX12_next; rw [isNet_eq, cal_eq, if1 (by decide), if_neg n10, ← a1.2.1, chk_pos (by omega), in_eq, cal_eq, if0 (by omega), if_pos rfl]
  · refine Both_ro (r := -1) ?_ ?_ hI
    · unfold XX11_next; rw [netOfx q0 q01, cal_eq]; rfl
    · unfold XX12_next; rw [isNet_eq, cal_eq, if0 (by omega), if_pos rfl]
