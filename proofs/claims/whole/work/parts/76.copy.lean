theorem hasElements_eq {p : Nat} {h : Hp} (hl : 0 ≤ h p 1 ∧ h p 1 ≤ 256) (x y : Int) (hx : -2147483648 ≤ x ∧ x < 2147483648) : XX10_hasElements p x y h = some (if 0 ≤ x ∧ 0 ≤ y ∧ y ≤ h p 1 - x then 1 else 0, h) := by
  unfold XX10_hasElements
  by_cases q : x < 0
  · rw [if_pos q, if_neg (by omega), zb_0]
  · rw [if_neg q]
    by_cases q2 : y < 0
    · rw [if_pos q2, if_neg (by omega), zb_0]
    · rw [if_neg q2, chk_pos (by omega)]
      by_cases q3 : h p 1 - x < y
      · rw [if_pos q3, if_neg (by omega), zb_0]
      · rw [if_neg q3, if_pos (by omega), zb_1]
theorem copyL_ok {d e : Nat} (hd : d < 6) (he : e < 6) {i j n : Int} (hi : 0 ≤ i) (hj : 0 ≤ j) (hn : 0 ≤ n) (h1 : i + n ≤ 256) (h2 : j + n ≤ 256) (h : Hp) : En (XX12_copy_L124 d i e j n 0 h) (fun r g => r = n ∧ (∀ a y, ¬ (a = 202 ∨ a = 173) → g a y = h a y) ∧ ∀ y, g 173 y = if (256 * e + j.toNat ≤ y ∧ (y : Int) < 256 * e + j + n) then h 173 (256 * d + i.toNat + (y - (256 * e + j.toNat))) else h 173 y) := by
  unfold XX12_copy_L124
  refine En_lup6 (fun _ _ _ _ _ l6 _ => (n - l6).toNat) (fun l1 l2 l3 l4 l5 l6 g => (d : Int) = l1 ∧ i = l2 ∧ (e : Int) = l3 ∧ j = l4 ∧ n = l5 ∧ 0 ≤ l6 ∧ l6 ≤ n ∧ (∀ a y, a ≠ 202 → g a y = h a y) ∧ ∀ k : Nat, (k : Int) < l6 → g 202 k = h 173 (256 * d + i.toNat + k)) ?_ FU _ _ _ _ _ _ _ (by unfold FU; omega) ⟨rfl, rfl, rfl, rfl, rfl, by omega, by omega, fun _ _ _ => rfl, fun k hk => by omega⟩
  rintro self l1 l2 l3 l4 l5 l6 g ih ⟨rfl, rfl, rfl, rfl, rfl, c0, c1, c2, c3⟩
  unfold XX12_copy_b124
  by_cases q : n ≤ l6
  · rw [if_pos q]
    have c3' : ∀ k : Nat, (k : Int) < n → g 202 k = h 173 (256 * d + i.toNat + k) := fun k hk => c3 k (by omega)
    unfold XX12_copy_L162
    refine En_lup4 (fun _ _ _ l6 _ => (n - l6).toNat) (fun l3 l4 l5 l6 f => (e : Int) = l3 ∧ j = l4 ∧ n = l5 ∧ 0 ≤ l6 ∧ l6 ≤ n ∧ (∀ a y, a ≠ 173 → f a y = g a y) ∧ ∀ y, f 173 y = if (256 * e + j.toNat ≤ y ∧ (y : Int) < 256 * e + j + l6) then h 173 (256 * d + i.toNat + (y - (256 * e + j.toNat))) else h 173 y) ?_ FU _ _ _ _ _ (by unfold FU; omega) ⟨rfl, rfl, rfl, by omega, by omega, fun _ _ _ => rfl, fun y => by rw [if_neg (by omega), c2 173 y (by omega)]⟩
    rintro self2 l3 l4 l5 l6 f ih2 ⟨rfl, rfl, rfl, d0, d1, d2, d3⟩
    unfold XX12_copy_b162
    by_cases q2 : n ≤ l6
    · rw [if_pos q2]
      refine En_some ⟨rfl, fun a y hh => by rw [d2 a y (by omega), c2 a y (by omega)], fun y => ?_⟩
      rw [d3 y, show l6 = n by omega]
    · rw [if_neg q2, chk_pos (by omega), chk_pos (by omega), chk_pos (by omega), inb_pos (by omega), inb_pos (by omega), hm_eq, chk_pos (by omega)]
      refine ih2 _ _ _ _ _ (by omega) ⟨rfl, rfl, rfl, by omega, by omega, fun a y ha => by rw [wr_ne ha]; exact d2 a y ha, fun y => ?_⟩
      by_cases qy : y = (256 * (e : Int) + j + l6).toNat
      · rw [qy, wr_at, if_pos (by omega), d2 202 _ (by omega), c3' _ (by omega)]
        congr 1
        omega
      · rw [wr_o qy, d3 y]
        by_cases qb : 256 * e + j.toNat ≤ y ∧ (y : Int) < 256 * e + j + l6
        · rw [if_pos qb, if_pos (by omega)]
        · rw [if_neg qb, if_neg (by omega)]
  · rw [if_neg q, chk_pos (by omega), chk_pos (by omega), chk_pos (by omega), inb_pos (by omega), inb_pos (by omega), hm_eq, chk_pos (by omega)]
    refine ih _ _ _ _ _ _ _ (by omega) ⟨rfl, rfl, rfl, rfl, rfl, by omega, by omega, fun a y ha => by rw [wr_ne ha]; exact c2 a y ha, fun k hk => ?_⟩
    by_cases qk : k = l6.toNat
    · rw [qk, wr_at, c2 173 _ (by omega)]
      congr 1
      omega
    · rw [wr_o qk]; exact c3 k (by omega)
theorem m_copy {n : Nat} {h : Hp} (hI : Inv n h) (hn : n ≤ 1000) (x i y j m : Int) (hi : -2147483648 ≤ i ∧ i < 2147483648) (hj : -2147483648 ≤ j ∧ j < 2147483648) : Both n h (XX11_copy x i y j m) (XX12_copy x i y j m) := by
  by_cases q : 0 ≤ x ∧ x < 6
  · by_cases q' : 0 ≤ y ∧ y < 6
    · obtain ⟨d, rfl⟩ := Int.eq_ofNat_of_zero_le q.1
      obtain ⟨e, rfl⟩ := Int.eq_ofNat_of_zero_le q'.1
      obtain ⟨jd, t1, t2, t3, t4⟩ := hI.2.2.2.2.2.2.2.2.2.2.2.2.1 d (by omega)
      obtain ⟨je, u1, u2, u3, u4⟩ := hI.2.2.2.2.2.2.2.2.2.2.2.2.1 e (by omega)
      have I6 : ∀ X : OR, inb (d : Int) 6 X = X := fun X => inb_pos (by omega)
      have I6' : ∀ X : OR, inb (e : Int) 6 X = X := fun X => inb_pos (by omega)
      have A6 : ∀ X : OR, asr (101 + 7 * d = 101 ∨ 101 + 7 * d = 108 ∨ 101 + 7 * d = 115 ∨ 101 + 7 * d = 122 ∨ 101 + 7 * d = 129 ∨ 101 + 7 * d = 136) X = X := fun X => asr_pos (tp_asr (by omega))
      have A6' : ∀ X : OR, asr (101 + 7 * e = 101 ∨ 101 + 7 * e = 108 ∨ 101 + 7 * e = 115 ∨ 101 + 7 * e = 122 ∨ 101 + 7 * e = 129 ∨ 101 + 7 * e = 136) X = X := fun X => asr_pos (tp_asr (by omega))
      have jd2 : (h 98 d).toNat = 101 + 7 * d := by omega
      have je2 : (h 98 e).toNat = 101 + 7 * e := by omega
      have w : ∀ a i, a ≠ 16 → wr h 16 15 (h 16 15 + 1) a i = h a i := fun a i ha => by rw [wr_ne ha]
      by_cases q0 : h 171 d = 0
      · refine Both_ref hI hn (-11) ?_ ?_
        · unfold XX11_copy XX11_copy_p48; simp only [isTape_eq, cal_eq, if1 q, if1 q', if_neg n10, I6, I6', nmP_eq, Int.toNat_natCast, jd2, je2, A6, A6']
          rw [if_pos (show h (101 + 7 * d) 0 = 0 by rw [t1]; exact q0), cal_id, refused_eq hI hn]
        · unfold XX12_copy XX12_copy_p34; simp only [isTapeM_eq, cal_eq, if1 q, if1 q', if_neg n10, I6, I6', Int.toNat_natCast]
          rw [w 171 d (by omega), if_pos q0, cal_id]
      by_cases q0' : h 171 e = 0
      · refine Both_ref hI hn (-11) ?_ ?_
        · unfold XX11_copy XX11_copy_p48; simp only [isTape_eq, cal_eq, if1 q, if1 q', if_neg n10, I6, I6', nmP_eq, Int.toNat_natCast, jd2, je2, A6, A6']
          rw [if_neg (show ¬ h (101 + 7 * d) 0 = 0 by rw [t1]; exact q0), if_pos (show h (101 + 7 * e) 0 = 0 by rw [u1]; exact q0'), cal_id, refused_eq hI hn]
        · unfold XX12_copy XX12_copy_p34; simp only [isTapeM_eq, cal_eq, if1 q, if1 q', if_neg n10, I6, I6', Int.toNat_natCast]
          rw [w 171 d (by omega), w 171 e (by omega), if_neg q0, if_pos q0', cal_id]
      by_cases q5 : h 171 d = 5
      · refine Both_ref hI hn (-12) ?_ ?_
        · unfold XX11_copy XX11_copy_p76; simp only [isTape_eq, cal_eq, if1 q, if1 q', if_neg n10, I6, I6', nmP_eq, Int.toNat_natCast, jd2, je2, A6, A6']
          rw [if_neg (show ¬ h (101 + 7 * d) 0 = 0 by rw [t1]; exact q0), if_neg (show ¬ h (101 + 7 * e) 0 = 0 by rw [u1]; exact q0'), isRow_eq, cal_eq, if0 (by omega), if_pos rfl, cal_id, refused_eq hI hn]
        · unfold XX12_copy XX12_copy_p66; simp only [isTapeM_eq, cal_eq, if1 q, if1 q', if_neg n10, I6, I6', Int.toNat_natCast]
          rw [w 171 d (by omega), w 171 e (by omega), if_neg q0, if_neg q0', if_pos q5, cal_id]
      by_cases qs : h 171 d = h 171 e
      · obtain ⟨a1, a2, a3, a4⟩ := t3 q0
        obtain ⟨b1, b2, b3, b4⟩ := u3 q0'
        by_cases qm : (0 ≤ i ∧ 0 ≤ m ∧ m ≤ h 172 d - i) ∧ (0 ≤ j ∧ 0 ≤ m ∧ m ≤ h 172 e - j)
        · obtain ⟨⟨qi, qm0, qmd⟩, ⟨qj, _, qme⟩⟩ := qm
          have E1 : XX11_copy d i e j m h = some (m, cpy h (101 + 7 * d + 1) i.toNat (101 + 7 * e + 1) j.toNat m.toNat) := by
            unfold XX11_copy; simp only [isTape_eq, cal_eq, if1 q, if1 q', if_neg n10, I6, I6', nmP_eq, Int.toNat_natCast, jd2, je2, A6, A6']
            rw [if_neg (show ¬ h (101 + 7 * d) 0 = 0 by rw [t1]; exact q0), if_neg (show ¬ h (101 + 7 * e) 0 = 0 by rw [u1]; exact q0'), isRow_eq, cal_eq, if1 (by omega), if_neg n10, if_pos (by rw [t1, u1]; exact qs), hasElements_eq (by omega) _ _ hi, cal_eq, if1 (by omega), if_neg n10, hasElements_eq (by omega) _ _ hj, cal_eq, if1 (by omega), if_neg n10, acp_pos (by omega), hm_eq]
          have ec : ∀ a y, a ≠ 101 + 7 * e + 1 → cpy h (101 + 7 * d + 1) i.toNat (101 + 7 * e + 1) j.toNat m.toNat a y = h a y := fun a y ha => cpy_ne (by omega)
          have ecy : ∀ y, cpy h (101 + 7 * d + 1) i.toNat (101 + 7 * e + 1) j.toNat m.toNat (101 + 7 * e + 1) y = if j.toNat ≤ y ∧ y < j.toNat + m.toNat then h (101 + 7 * d + 1) (i.toNat + (y - j.toNat)) else h (101 + 7 * e + 1) y := fun y => by
            by_cases qy : j.toNat ≤ y ∧ y < j.toNat + m.toNat
            · rw [if_pos qy, cpy_is ⟨rfl, qy⟩]
            · rw [if_neg qy, cpy_ne (fun t => qy t.2)]
          generalize cpy h (101 + 7 * d + 1) i.toNat (101 + 7 * e + 1) j.toNat m.toNat = g at *
          obtain ⟨r2, f, e2, er, ff, f173⟩ := copyL_ok (d := d) (e := e) (by omega) (by omega) qi qj qm0 (by omega) (by omega) g
          have E2 : XX12_copy d i e j m g = some (m, f) := by
            unfold XX12_copy; simp only [isTapeM_eq, cal_eq, if1 q, if1 q', if_neg n10, I6, I6', Int.toNat_natCast]
            simp only [show g 171 d = h 171 d from ec 171 d (by omega), show g 171 e = h 171 e from ec 171 e (by omega), show g 172 d = h 172 d from ec 172 d (by omega), show g 172 e = h 172 e from ec 172 e (by omega)]
            rw [if_neg q0, if_neg q0', if_neg q5, if_pos qs, if_neg (by omega), if_neg (by omega), if_neg (by omega), chk_pos (by omega), if_neg (by omega), chk_pos (by omega), if_pos (by omega), e2, er]
          refine Both_mk E1 E2 ?_
          have fx : ∀ a y, ¬ ((101 ≤ a ∧ a ≤ 142) ∨ a = 173 ∨ a = 202) → f a y = h a y := fun a y hh => by rw [ff a y (by omega), ec a y (by omega)]
          refine Inv_tape hI (fun a y hh => fx a y (by omega)) (J12_one (d := e) hI.2.2.2.2.2.2.2.2.2.2.2.2.1 (fun y => fx 98 y (by omega)) (fun k hk hne => ⟨fun y => ⟨fx 171 k (by omega), fx 172 k (by omega), fun hy => ?_⟩, fun a y ha => ?_, ?_⟩) (fun he => ?_))
          · rw [f173, if_neg (by omega), ec 173 _ (by omega)]
          · rw [ff a y (by omega), ec a y (by omega)]
          · exact PRel_same (fun a y ha => by rw [ff a y (by omega), ec a y (by omega)])
          · unfold Tap
            rw [ff (101 + 7 * e) 0 (by omega), ff (101 + 7 * e) 1 (by omega), ec (101 + 7 * e) 0 (by omega), ec (101 + 7 * e) 1 (by omega), fx 171 e (by omega), fx 172 e (by omega)]
            refine ⟨u1, u2, fun _ => ⟨b1, b2, b3, fun y hy => ?_⟩, fun hh => absurd (qs.trans hh) q5⟩
            rw [ff _ y (by omega), ecy, f173]
            by_cases qy : j.toNat ≤ y ∧ y < j.toNat + m.toNat
            · rw [if_pos qy, if_pos (by omega), ec 173 _ (by omega), a4 _ (by omega)]
              congr 1
              omega
            · rw [if_neg qy, if_neg (by omega), ec 173 _ (by omega)]; exact b4 y hy
        · refine Both_ref hI hn (-13) ?_ ?_
          · unfold XX11_copy XX11_copy_p106; simp only [isTape_eq, cal_eq, if1 q, if1 q', if_neg n10, I6, I6', nmP_eq, Int.toNat_natCast, jd2, je2, A6, A6']
            rw [if_neg (show ¬ h (101 + 7 * d) 0 = 0 by rw [t1]; exact q0), if_neg (show ¬ h (101 + 7 * e) 0 = 0 by rw [u1]; exact q0'), isRow_eq, cal_eq, if1 (by omega), if_neg n10, if_pos (by rw [t1, u1]; exact qs), hasElements_eq (by omega) _ _ hi, cal_eq]
            by_cases q1 : 0 ≤ i ∧ 0 ≤ m ∧ m ≤ h (101 + 7 * d) 1 - i
            · rw [if1 q1, if_neg n10, hasElements_eq (by omega) _ _ hj, cal_eq, if0 (by omega), if_pos rfl, cal_id, refused_eq hI hn]
            · rw [if0 q1, if_pos rfl, cal_id, refused_eq hI hn]
          · unfold XX12_copy XX12_copy_p114; simp only [isTapeM_eq, cal_eq, if1 q, if1 q', if_neg n10, I6, I6', Int.toNat_natCast]
            simp only [w 171 d (by omega), w 171 e (by omega), w 172 d (by omega), w 172 e (by omega)]
            rw [if_neg q0, if_neg q0', if_neg q5, if_pos qs]
            by_cases z1 : m < 0
            · rw [if_pos z1, cal_id]
            rw [if_neg z1]
            by_cases z2 : i < 0
            · rw [if_pos z2, cal_id]
            rw [if_neg z2]
            by_cases z3 : j < 0
            · rw [if_pos z3, cal_id]
            rw [if_neg z3, chk_pos (by omega)]
            by_cases z4 : h 172 d - i < m
            · rw [if_pos z4, cal_id]
            rw [if_neg z4, chk_pos (by omega), if_neg (by omega), cal_id]
      · refine Both_ref hI hn (-12) ?_ ?_
        · unfold XX11_copy XX11_copy_p76; simp only [isTape_eq, cal_eq, if1 q, if1 q', if_neg n10, I6, I6', nmP_eq, Int.toNat_natCast, jd2, je2, A6, A6']
          rw [if_neg (show ¬ h (101 + 7 * d) 0 = 0 by rw [t1]; exact q0), if_neg (show ¬ h (101 + 7 * e) 0 = 0 by rw [u1]; exact q0'), isRow_eq, cal_eq, if1 (by omega), if_neg n10, if_neg (by rw [t1, u1]; exact qs), cal_id, refused_eq hI hn]
        · unfold XX12_copy XX12_copy_p66; simp only [isTapeM_eq, cal_eq, if1 q, if1 q', if_neg n10, I6, I6', Int.toNat_natCast]
          rw [w 171 d (by omega), w 171 e (by omega), if_neg q0, if_neg q0', if_neg q5, if_neg qs, cal_id]
    · refine Both_ro (r := -1) ?_ ?_ hI
      · unfold XX11_copy; rw [isTape_eq, cal_eq, if1 q, if_neg n10, isTape_eq, cal_eq, if0 q', if_pos rfl]
      · unfold XX12_copy; rw [isTapeM_eq, cal_eq, if1 q, if_neg n10, isTapeM_eq, cal_eq, if0 q', if_pos rfl]
  · refine Both_ro (r := -1) ?_ ?_ hI
    · unfold XX11_copy; rw [isTape_eq, cal_eq, if0 q, if_pos rfl]
    · unfold XX12_copy; rw [isTapeM_eq, cal_eq, if0 q, if_pos rfl]
