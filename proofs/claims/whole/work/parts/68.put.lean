theorem isRow_eq (p : Nat) (h : Hp) : XX10_isRow p h = some (if 1 ≤ h p 0 ∧ h p 0 ≤ 4 then 1 else 0, h) := by
  unfold XX10_isRow
  by_cases q : h p 0 < 1
  · rw [if_pos q, if_neg (by omega), zb_0]
  · rw [if_neg q]
    by_cases q2 : 4 < h p 0
    · rw [if_pos q2, if_neg (by omega), zb_0]
    · rw [if_neg q2, if_pos (by omega), zb_1]
theorem hasElement_eq (p : Nat) (x : Int) (h : Hp) : XX10_hasElement p x h = some (if 0 ≤ x ∧ x < h p 1 then 1 else 0, h) := by
  unfold XX10_hasElement
  by_cases q : x < 0
  · rw [if_pos q, if_neg (by omega), zb_0]
  · rw [if_neg q]
    by_cases q2 : h p 1 ≤ x
    · rw [if_pos q2, if_neg (by omega), zb_0]
    · rw [if_neg q2, if_pos (by omega), zb_1]
def nrw (s v : Int) : Int := if s = 1 then ai2b (al2i v) else if s = 2 then ai2s (al2i v) else if s = 3 then al2i v else v
theorem narrowed_eq (p : Nat) (v : Int) (h : Hp) : XX10_narrowed p v h = some (nrw (h p 0) v, h) := by
  unfold XX10_narrowed nrw; rw [nm_eq]; repeat' split
  all_goals first | rfl | omega
theorem narrowedM_eq (s v : Int) (h : Hp) : XX12_narrowed s v h = some (nrw s v, h) := by
  unfold XX12_narrowed nrw; repeat' split
  all_goals first | rfl | omega
theorem Both_ref {n : Nat} {h : Hp} (hI : Inv n h) (hn : n ≤ 1000) (c : Int) {X Y : Hp → OR} (e1 : X h = some (c, wr h 16 15 (h 16 15 + 1))) (e2 : Y (wr h 16 15 (h 16 15 + 1)) = XX12_refuse c (wr h 16 15 (h 16 15 + 1))) : Both n h X Y :=
  ⟨c, _, _, e1, by rw [e2]; exact (both_refuse hI hn c).1, (both_refuse hI hn c).2⟩
theorem cal_id (X : OR) : cal X (fun r h => some (r, h)) = X := by
  cases X with
  | none => rfl
  | some q => rfl
theorem m_put {n : Nat} {h : Hp} (hI : Inv n h) (hn : n ≤ 1000) (x y v : Int) : Both n h (XX11_put x y v) (XX12_put x y v) := by
  by_cases q : 0 ≤ x ∧ x < 6
  · obtain ⟨d, rfl⟩ := Int.eq_ofNat_of_zero_le q.1
    obtain ⟨jd, t1, t2, t3, t4⟩ := hI.2.2.2.2.2.2.2.2.2.2.2.2.1 d (by omega)
    have I6 : ∀ X : OR, inb (d : Int) 6 X = X := fun X => inb_pos (by omega)
    have A6 : ∀ X : OR, asr (101 + 7 * d = 101 ∨ 101 + 7 * d = 108 ∨ 101 + 7 * d = 115 ∨ 101 + 7 * d = 122 ∨ 101 + 7 * d = 129 ∨ 101 + 7 * d = 136) X = X := fun X => asr_pos (tp_asr (by omega))
    have jd2 : (h 98 d).toNat = 101 + 7 * d := by omega
    have w : ∀ a i, a ≠ 16 → wr h 16 15 (h 16 15 + 1) a i = h a i := fun a i ha => by rw [wr_ne ha]
    by_cases q0 : h 171 d = 0
    · refine Both_ref hI hn (-11) ?_ ?_
      · unfold XX11_put; simp only [isTape_eq, cal_eq, if1 q, if_neg n10, I6, nmP_eq, Int.toNat_natCast, jd2, A6]
        rw [if_pos (by rw [t1]; exact q0), cal_id, refused_eq hI hn]
      · unfold XX12_put; simp only [isTapeM_eq, cal_eq, if1 q, if_neg n10, I6, Int.toNat_natCast]
        rw [w 171 d (by omega), if_pos q0, cal_id]
    · by_cases q5 : h 171 d = 5
      · refine Both_ref hI hn (-12) ?_ ?_
        · unfold XX11_put; simp only [isTape_eq, cal_eq, if1 q, if_neg n10, I6, nmP_eq, Int.toNat_natCast, jd2, A6]
          rw [if_neg (by rw [t1]; exact q0), isRow_eq, cal_eq, if0 (by omega), if_pos rfl, cal_id, refused_eq hI hn]
        · unfold XX12_put; simp only [isTapeM_eq, cal_eq, if1 q, if_neg n10, I6, Int.toNat_natCast]
          rw [w 171 d (by omega), if_neg q0, if_pos q5, cal_id]
      · obtain ⟨a1, a2, a3, a4⟩ := t3 q0
        by_cases qy : 0 ≤ y ∧ y < h 172 d
        · refine Both_mk (r := 1) (h1 := wr h (101 + 7 * d + 1) y.toNat (nrw (h 171 d) v)) (h2 := wr (wr h (101 + 7 * d + 1) y.toNat (nrw (h 171 d) v)) 173 (256 * d + y.toNat) (nrw (h 171 d) v)) ?_ ?_ ?_
          · unfold XX11_put; simp only [isTape_eq, cal_eq, if1 q, if_neg n10, I6, nmP_eq, Int.toNat_natCast, jd2, A6]
            rw [if_neg (by rw [t1]; exact q0), isRow_eq, cal_eq, if1 (by omega), if_neg n10]
            simp only [I6, nmP_eq, Int.toNat_natCast, jd2, A6]
            rw [hasElement_eq, cal_eq, if1 (by omega), if_neg n10]
            simp only [I6, nmP_eq, Int.toNat_natCast, jd2, A6]
            rw [narrowed_eq, cal_eq, inb_pos (by omega), hm_eq, t1]
          · have e1 : ∀ a i, (171 ≤ a) → wr h (101 + 7 * d + 1) y.toNat (nrw (h 171 d) v) a i = h a i := fun a i ha => by rw [wr_ne (by omega)]
            unfold XX12_put; simp only [isTapeM_eq, cal_eq, if1 q, if_neg n10, I6, Int.toNat_natCast]
            rw [e1 171 d (by omega), if_neg q0, if_neg q5, e1 172 d (by omega), chk_pos (by omega), in_eq, cal_eq, if1 (by omega), if_neg n10, chk_pos (by omega), chk_pos (by omega), narrowedM_eq, cal_eq, inb_pos (by omega), hm_eq, show (256 * (d : Int) + y).toNat = 256 * d + y.toNat by omega, e1 171 d (by omega)]
          · have e : ∀ a i, ¬ ((101 ≤ a ∧ a ≤ 142) ∨ a = 173) → wr (wr h (101 + 7 * d + 1) y.toNat (nrw (h 171 d) v)) 173 (256 * d + y.toNat) (nrw (h 171 d) v) a i = h a i := fun a i hh => by rw [wr_ne (by omega), wr_ne (by omega)]
            refine Inv_tape hI (fun a i hh => e a i (by omega)) (J12_one (d := d) hI.2.2.2.2.2.2.2.2.2.2.2.2.1 (fun i => e 98 i (by omega)) (fun k hk hne => ⟨fun i => ⟨?_, ?_, fun hi => ?_⟩, fun a i ha => ?_, ?_⟩) (fun hd => ?_))
            · exact e 171 k (by omega)
            · exact e 172 k (by omega)
            · rw [wr_o (by omega), wr_ne (by omega)]
            · rw [wr_ne (by omega), wr_ne (by omega)]
            · exact PRel_same (fun a i ha => by rw [wr_ne (by omega), wr_ne (by omega)])
            · unfold Tap
              rw [e 171 d (by omega), e 172 d (by omega), wr_ne (by omega), wr_ne (by omega)]
              refine ⟨t1, t2, fun _ => ⟨a1, a2, a3, fun i hi => ?_⟩, fun hh => absurd hh q5⟩
              rw [wr_ne (by omega)]
              by_cases qi : i = y.toNat
              · rw [qi, wr_at, wr_at]
              · rw [wr_o qi, wr_o (by omega), wr_ne (by omega)]; exact a4 i hi
        · refine Both_ref hI hn (-13) ?_ ?_
          · unfold XX11_put; simp only [isTape_eq, cal_eq, if1 q, if_neg n10, I6, nmP_eq, Int.toNat_natCast, jd2, A6]
            rw [if_neg (by rw [t1]; exact q0), isRow_eq, cal_eq, if1 (by omega), if_neg n10]
            simp only [I6, nmP_eq, Int.toNat_natCast, jd2, A6]
            rw [hasElement_eq, cal_eq, if0 (by omega), if_pos rfl, cal_id, refused_eq hI hn]
          · unfold XX12_put; simp only [isTapeM_eq, cal_eq, if1 q, if_neg n10, I6, Int.toNat_natCast]
            rw [w 171 d (by omega), if_neg q0, if_neg q5, w 172 d (by omega), chk_pos (by omega), in_eq, cal_eq, if0 (by omega), if_pos rfl, cal_id]
  · refine Both_ro (r := -1) ?_ ?_ hI
    · unfold XX11_put; rw [isTape_eq, cal_eq, if0 q, if_pos rfl]
    · unfold XX12_put; rw [isTapeM_eq, cal_eq, if0 q, if_pos rfl]
theorem m_toss {n : Nat} {h : Hp} (hI : Inv n h) (hn : n ≤ 1000) (x : Int) : Both n h (XX11_toss x) (XX12_toss x) := by
  by_cases q : 0 ≤ x ∧ x < 6
  · obtain ⟨d, rfl⟩ := Int.eq_ofNat_of_zero_le q.1
    obtain ⟨jd, t1, t2, t3, t4⟩ := hI.2.2.2.2.2.2.2.2.2.2.2.2.1 d (by omega)
    have I6 : ∀ X : OR, inb (d : Int) 6 X = X := fun X => inb_pos (by omega)
    have I10 : ∀ X : OR, inb (d : Int) 10 X = X := fun X => inb_pos (by omega)
    have A6 : ∀ X : OR, asr (101 + 7 * d = 101 ∨ 101 + 7 * d = 108 ∨ 101 + 7 * d = 115 ∨ 101 + 7 * d = 122 ∨ 101 + 7 * d = 129 ∨ 101 + 7 * d = 136) X = X := fun X => asr_pos (tp_asr (by omega))
    have jd2 : (h 98 d).toNat = 101 + 7 * d := by omega
    have w : ∀ a i, a ≠ 16 → wr h 16 15 (h 16 15 + 1) a i = h a i := fun a i ha => by rw [wr_ne ha]
    by_cases q0 : h 171 d = 0
    · refine Both_ref hI hn (-11) ?_ ?_
      · unfold XX11_toss XX11_imageFault; simp only [isTape_eq, cal_eq, if1 q, if_neg n10, I6, nmP_eq, Int.toNat_natCast, jd2, A6]
        rw [if_pos (show h (101 + 7 * d) 0 = 0 by rw [t1]; exact q0), cal_eq, if_neg (by decide), cal_id, refused_eq hI hn]
      · unfold XX12_toss; simp only [isTapeM_eq, cal_eq, if1 q, if_neg n10, I6, Int.toNat_natCast]
        rw [w 171 d (by omega), if_pos q0, cal_id]
    · by_cases q5 : h 171 d = 5
      · obtain ⟨p1, p2⟩ := t4 q5
        have h3 := p2.1.2.2.2
        by_cases qz : h 177 d = 0
        · refine Both_ref hI hn (-15) ?_ ?_
          · unfold XX11_toss XX11_imageFault; simp only [isTape_eq, cal_eq, if1 q, if_neg n10, I6, nmP_eq, Int.toNat_natCast, jd2, A6]
            rw [if_neg (show ¬ h (101 + 7 * d) 0 = 0 by rw [t1]; exact q0), if_pos (show h (101 + 7 * d) 0 = 5 by rw [t1]; exact q5), cal_eq, if_pos rfl]
            simp only [I6, nmP_eq, Int.toNat_natCast, jd2, A6]
            rw [if_pos (show h (101 + 7 * d + 2) 3 = 0 by rw [h3]; exact qz), cal_id, refused_eq hI hn]
          · unfold XX12_toss; simp only [isTapeM_eq, cal_eq, if1 q, if_neg n10, I6, I10, Int.toNat_natCast]
            rw [w 171 d (by omega), if_neg q0, if_pos q5, w 177 d (by omega), if_pos qz, cal_id]
        · refine Both_ro (r := h 177 d) ?_ ?_ hI
          · unfold XX11_toss XX11_imageFault; simp only [isTape_eq, cal_eq, if1 q, if_neg n10, I6, nmP_eq, Int.toNat_natCast, jd2, A6]
            rw [if_neg (show ¬ h (101 + 7 * d) 0 = 0 by rw [t1]; exact q0), if_pos (show h (101 + 7 * d) 0 = 5 by rw [t1]; exact q5), cal_eq, if_pos rfl]
            simp only [I6, nmP_eq, Int.toNat_natCast, jd2, A6]
            rw [if_neg (show ¬ h (101 + 7 * d + 2) 3 = 0 by rw [h3]; exact qz), h3]
          · unfold XX12_toss; simp only [isTapeM_eq, cal_eq, if1 q, if_neg n10, I6, I10, Int.toNat_natCast]
            rw [if_neg q0, if_pos q5, if_neg qz]
      · refine Both_ref hI hn (-12) ?_ ?_
        · unfold XX11_toss XX11_imageFault; simp only [isTape_eq, cal_eq, if1 q, if_neg n10, I6, nmP_eq, Int.toNat_natCast, jd2, A6]
          rw [if_neg (show ¬ h (101 + 7 * d) 0 = 0 by rw [t1]; exact q0), if_neg (show ¬ h (101 + 7 * d) 0 = 5 by rw [t1]; exact q5), cal_eq, if_neg (by decide), cal_id, refused_eq hI hn]
        · unfold XX12_toss; simp only [isTapeM_eq, cal_eq, if1 q, if_neg n10, I6, I10, Int.toNat_natCast]
          rw [w 171 d (by omega), if_neg q0, if_neg q5, cal_id]
  · refine Both_ro (r := -1) ?_ ?_ hI
    · unfold XX11_toss; rw [isTape_eq, cal_eq, if0 q, if_pos rfl]
    · unfold XX12_toss; rw [isTapeM_eq, cal_eq, if0 q, if_pos rfl]
theorem tapeL_ok {d : Nat} (hd : d < 6) (x : Int) (h : Hp) : En (XX12_tape_L53 d x 0 h) (fun r g => r = x ∧ ∀ a i, g a i = if a = 173 ∧ (256 * d ≤ i ∧ i < 256 * d + 256) then 0 else h a i) := by
  unfold XX12_tape_L53
  refine En_lup3 (fun _ _ l4 _ => (256 - l4).toNat) (fun l1 l3 l4 g => (d : Int) = l1 ∧ x = l3 ∧ 0 ≤ l4 ∧ l4 ≤ 256 ∧ ∀ a i, g a i = if a = 173 ∧ (256 * d ≤ i ∧ (i : Int) < 256 * d + l4) then 0 else h a i) ?_ FU _ _ _ _ (by unfold FU; omega) ⟨rfl, rfl, by omega, by omega, fun a i => by rw [if_neg (by omega)]⟩
  rintro self l1 l3 l4 g ih ⟨rfl, rfl, c0, c1, c2⟩
  unfold XX12_tape_b53
  by_cases q : 256 ≤ l4
  · rw [if_pos q]
    refine En_some ⟨rfl, fun a i => ?_⟩
    rw [c2 a i]
    by_cases qb : a = 173 ∧ (256 * d ≤ i ∧ i < 256 * d + 256)
    · rw [if_pos qb, if_pos (by omega)]
    · rw [if_neg qb, if_neg (by omega)]
  · rw [if_neg q, chk_pos (by omega), chk_pos (by omega), inb_pos (by omega), hm_eq, chk_pos (by omega)]
    refine ih _ _ _ _ (by omega) ⟨rfl, rfl, by omega, by omega, fun a i => ?_⟩
    by_cases qb : a = 173 ∧ i = (256 * (d : Int) + l4).toNat
    · rw [wq_is qb, if_pos (by omega)]
    · rw [wq_ne qb, c2 a i]
      by_cases qc : a = 173 ∧ (256 * d ≤ i ∧ (i : Int) < 256 * d + l4)
      · rw [if_pos qc, if_pos (by omega)]
      · rw [if_neg qc, if_neg (by omega)]
theorem m_tape {n : Nat} {h : Hp} (hI : Inv n h) (hn : n ≤ 1000) (x y z : Int) : Both n h (XX11_tape x y z) (XX12_tape x y z) := by
  by_cases q : 0 ≤ x ∧ x < 6
  · obtain ⟨d, rfl⟩ := Int.eq_ofNat_of_zero_le q.1
    obtain ⟨jd, t1, t2, t3, t4⟩ := hI.2.2.2.2.2.2.2.2.2.2.2.2.1 d (by omega)
    have I6 : ∀ X : OR, inb (d : Int) 6 X = X := fun X => inb_pos (by omega)
    have A6 : ∀ X : OR, asr (101 + 7 * d = 101 ∨ 101 + 7 * d = 108 ∨ 101 + 7 * d = 115 ∨ 101 + 7 * d = 122 ∨ 101 + 7 * d = 129 ∨ 101 + 7 * d = 136) X = X := fun X => asr_pos (tp_asr (by omega))
    have jd2 : (h 98 d).toNat = 101 + 7 * d := by omega
    by_cases qy : 1 ≤ y ∧ y ≤ 4
    · by_cases qz : z ≤ 256
      · by_cases qz0 : 0 ≤ z
        · obtain ⟨g, eg, hg⟩ := hold_eq (101 + 7 * d) y z h
          obtain ⟨r, g2, e2, er, hg2⟩ := tapeL_ok (d := d) (by omega) z (wr (wr g 171 d y) 172 d z)
          have e : ∀ a i, ¬ ((101 ≤ a ∧ a ≤ 142) ∨ (171 ≤ a ∧ a ≤ 173)) → g2 a i = h a i := fun a i hh => by rw [hg2, if_neg (by omega), wr_ne (by omega), wr_ne (by omega), hg, if_neg (by omega), if_neg (by omega), if_neg (by omega)]
          refine Both_mk (r := z) (h1 := g) (h2 := g2) ?_ ?_ ?_
          · unfold XX11_tape; simp only [isTape_eq, cal_eq, if1 q, if_neg n10, I6, nmP_eq, Int.toNat_natCast, jd2, A6]
            rw [if_neg (by omega), if_neg (by omega), if_pos qz, if_pos qz0, eg, cal_eq]
          · unfold XX12_tape; simp only [isTapeM_eq, cal_eq, if1 q, if_neg n10, I6, Int.toNat_natCast]
            rw [in_eq, cal_eq, if1 qy, if_neg n10, if_pos qz, if_pos qz0, hm_eq, hm_eq, e2, er]
          · refine Inv_tape hI (fun a i hh => e a i (by omega)) (J12_one (d := d) hI.2.2.2.2.2.2.2.2.2.2.2.2.1 (fun i => e 98 i (by omega)) (fun k hk hne => ⟨fun i => ⟨?_, ?_, fun hi => ?_⟩, fun a i ha => ?_, ?_⟩) (fun hd => ?_))
            · rw [hg2, if_neg (by omega), wr_ne (by omega), wr_o hne, hg, if_neg (by omega), if_neg (by omega), if_neg (by omega)]
            · rw [hg2, if_neg (by omega), wr_o hne, wr_ne (by omega), hg, if_neg (by omega), if_neg (by omega), if_neg (by omega)]
            · rw [hg2, if_neg (by omega), wr_ne (by omega), wr_ne (by omega), hg, if_neg (by omega), if_neg (by omega), if_neg (by omega)]
            · rw [hg2, if_neg (by omega), wr_ne (by omega), wr_ne (by omega), hg, if_neg (by omega), if_neg (by omega), if_neg (by omega)]
            · exact PRel_same (fun a i ha => by rw [hg2, if_neg (by omega), wr_ne (by omega), wr_ne (by omega), hg, if_neg (by omega), if_neg (by omega), if_neg (by omega)])
            · have z1 : g2 171 d = y := by rw [hg2, if_neg (by omega), wr_ne (by omega), wr_at]
              have z2 : g2 172 d = z := by rw [hg2, if_neg (by omega), wr_at]
              have z3 : g2 (101 + 7 * d) 0 = y := by rw [hg2, if_neg (by omega), wr_ne (by omega), wr_ne (by omega), hg, if_neg (by omega), if_neg (by omega), if_pos (by omega)]
              have z4 : g2 (101 + 7 * d) 1 = z := by rw [hg2, if_neg (by omega), wr_ne (by omega), wr_ne (by omega), hg, if_neg (by omega), if_pos (by omega)]
              unfold Tap
              rw [z1, z2, z3, z4]
              refine ⟨rfl, by omega, fun _ => ⟨rfl, qz0, qz, fun i hi => ?_⟩, fun hh => by omega⟩
              rw [hg2, if_neg (by omega), wr_ne (by omega), wr_ne (by omega), hg, if_pos (by omega), hg2, if_pos (by omega)]
        · refine Both_ref hI hn (-14) ?_ ?_
          · unfold XX11_tape; simp only [isTape_eq, cal_eq, if1 q, if_neg n10, I6, nmP_eq, Int.toNat_natCast, jd2, A6]
            rw [if_neg (by omega), if_neg (by omega), if_pos qz, if_neg qz0, cal_id, refused_eq hI hn]
          · unfold XX12_tape; simp only [isTapeM_eq, cal_eq, if1 q, if_neg n10, I6, Int.toNat_natCast]
            rw [in_eq, cal_eq, if1 qy, if_neg n10, if_pos qz, if_neg qz0, cal_id]
      · refine Both_ro (r := -1) ?_ ?_ hI
        · unfold XX11_tape; simp only [isTape_eq, cal_eq, if1 q, if_neg n10, I6, nmP_eq, Int.toNat_natCast, jd2, A6]
          rw [if_neg (by omega), if_neg (by omega), if_neg qz]
        · unfold XX12_tape; simp only [isTapeM_eq, cal_eq, if1 q, if_neg n10, I6, Int.toNat_natCast]
          rw [in_eq, cal_eq, if1 qy, if_neg n10, if_neg qz]
    · refine Both_ro (r := -1) ?_ ?_ hI
      · unfold XX11_tape; simp only [isTape_eq, cal_eq, if1 q, if_neg n10, I6, nmP_eq, Int.toNat_natCast, jd2, A6]
        by_cases qy1 : y < 1
        · rw [if_pos qy1]
        · rw [if_neg qy1, if_pos (by omega)]
      · unfold XX12_tape; simp only [isTapeM_eq, cal_eq, if1 q, if_neg n10, I6, Int.toNat_natCast]
        rw [in_eq, cal_eq, if0 qy, if_pos rfl]
  · refine Both_ro (r := -1) ?_ ?_ hI
    · unfold XX11_tape; rw [isTape_eq, cal_eq, if0 q, if_pos rfl]
    · unfold XX12_tape; rw [isTapeM_eq, cal_eq, if0 q, if_pos rfl]
