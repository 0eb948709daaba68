theorem m_begin {n : Nat} {h : Hp} (hI : Inv n h) (x y z : Int) : Both n h (XX11_begin x y z) (XX12_begin x y z) := by
  by_cases q : ((0 ≤ x ∧ x ≤ 8) ∧ (0 ≤ y ∧ y ≤ 2)) ∧ ((1 ≤ z ∧ z ≤ 4) ∧ (1 ≤ x + y ∧ x + y ≤ 8))
  · obtain ⟨⟨hx, hy⟩, hz, hs⟩ := q
    obtain ⟨g, eg, fg, c1, c2, c3, c4, c5, c6⟩ := startAll_ok (z := z) hs h
    obtain ⟨r, f, ef, er, m1, m2, m3, m4, m5, m6, m7⟩ := beginM_ok hx hy hz hs g
    have ff := fr_XX12_begin ef
    have lo : ∀ a i, a < 143 → f a i = g a i := fun a i ha => ff a i (by omega)
    refine Both_mk (r := 2 ^ (x + y).toNat) (h1 := g) (h2 := f) ?_ (by rw [ef, er]) ?_
    · unfold XX11_begin
      rw [if_neg (by omega), if_neg (by omega), if_neg (by omega), if_pos (by omega), chk_pos (by omega), nm_eq, if_neg (by omega), if_neg (by omega), if_neg (by omega), if_pos (by omega), eg, cal_eq, c4.1]
    · obtain ⟨i1, i2, i3, i4, i5, i6, i7, i8, i9, i10, i11, i12, i13, i14, i15⟩ := hI
      obtain ⟨p1, p2, p3', p4, p5, p6, p7⟩ := i2
      have gm : ∀ a i, 143 ≤ a → g a i = h a i := fun a i ha => fg a i (by omega)
      refine begin_Inv hx hy hz hs ⟨by rw [lo 17 1 (by omega), fg 17 1 (by omega)]; exact i1.2.2.1, by rw [lo 27 1 (by omega), fg 27 1 (by omega)]; exact i1.2.2.2⟩ ⟨fun w hw => ?_, fun w hw => ?_, fun j hj => ?_, fun j hj => ?_⟩ ⟨fun u hu => ?_, fun u v h1 h2 => ?_⟩ (J12_tr (fun a i hh => ?_) i13) (J14_tr (fun a i hh => by rw [ff a i (by omega), gm a i (by omega)]) i15) ?_ (fun k hk => ?_) (fun w hw => ?_) ?_ ?_ (fun k hk => ?_) m1 m2 m3 m4 m5 m6 m7
      · rw [ff 145 w (by omega), gm 145 w (by omega), lo 19 w (by omega), fg 19 w (by omega)]; exact p3' w hw
      · rw [ff 145 _ (by omega), gm 145 _ (by omega), lo 29 w (by omega), fg 29 w (by omega)]; exact p4 w hw
      · rw [ff 146 j (by omega), gm 146 j (by omega), lo 20 j (by omega), fg 20 j (by omega)]; exact p5 j hj
      · rw [ff 146 _ (by omega), gm 146 _ (by omega), lo 30 j (by omega), fg 30 j (by omega)]; exact p6 j hj
      · rw [lo 73 u (by omega), fg 73 u (by omega)]; exact i11.2.2.2.1 u hu
      · rw [lo 73 u (by omega), fg 73 u (by omega), lo 73 v (by omega), fg 73 v (by omega)]; exact i11.2.2.2.2.1 u v h1 h2
      · rw [ff a i (by omega)]
        by_cases qa : 143 ≤ a
        · exact gm a i qa
        · exact fg a i (by omega)
      · rw [lo 17 6 (by omega), lo 27 6 (by omega), lo 18 0 (by omega), lo 18 1 (by omega), lo 18 2 (by omega), lo 18 3 (by omega), lo 28 0 (by omega), lo 28 1 (by omega), lo 28 2 (by omega), lo 28 3 (by omega)]; exact c1
      · rw [lo 21 k (by omega), lo 31 k (by omega)]; exact c2 k hk
      · rw [lo 22 w (by omega), lo 32 w (by omega), lo 54 w (by omega)]; exact c3 w hw
      · rw [lo 37 0 (by omega), lo 37 1 (by omega), show f 38 = g 38 from funext (fun i => lo 38 i (by omega)), show f 39 = g 39 from funext (fun i => lo 39 i (by omega))]; exact c4
      · rw [lo 53 1 (by omega), lo 56 0 (by omega), lo 67 0 (by omega), lo 67 1 (by omega), lo 72 2 (by omega), lo 72 4 (by omega), lo 72 6 (by omega), lo 16 12 (by omega), lo 16 13 (by omega), lo 16 14 (by omega), lo 16 15 (by omega)]; exact c5
      · rw [lo 99 k (by omega)]; exact c6 k hk
  · refine Both_ro (r := -1) ?_ ?_ hI
    · unfold XX11_begin
      by_cases q1 : x < 0
      · rw [if_pos q1]
      rw [if_neg q1]
      by_cases q2 : 8 < x
      · rw [if_pos q2]
      rw [if_neg q2]
      by_cases q3 : y < 0
      · rw [if_pos q3]
      rw [if_neg q3]
      by_cases q4 : y ≤ 2
      · rw [if_pos q4, chk_pos (by omega), nm_eq]
        by_cases q5 : x + y < 1
        · rw [if_pos q5]
        rw [if_neg q5]
        by_cases q6 : 8 < x + y
        · rw [if_pos q6]
        rw [if_neg q6]
        by_cases q7 : z < 1
        · rw [if_pos q7]
        rw [if_neg q7, if_neg (by omega)]
      · rw [if_neg q4]
    · unfold XX12_begin
      rw [in_eq, cal_eq]
      by_cases q1 : 0 ≤ x ∧ x ≤ 8
      · rw [if1 q1, if_neg n10, in_eq, cal_eq]
        by_cases q2 : 0 ≤ y ∧ y ≤ 2
        · rw [if1 q2, if_neg n10, in_eq, cal_eq]
          by_cases q3 : 1 ≤ z ∧ z ≤ 4
          · rw [if1 q3, if_neg n10, chk_pos (by omega), in_eq, cal_eq, if0 (by omega), if_pos rfl]
          · rw [if0 q3, if_pos rfl]
        · rw [if0 q2, if_pos rfl]
      · rw [if0 q1, if_pos rfl]
