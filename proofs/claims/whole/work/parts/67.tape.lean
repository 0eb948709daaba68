theorem fill_ok (a m : Nat) (v : Int) (h : Hp) (hm : m ≤ 100000) : XJ7_fill_53178 a m v h = some (0, fun b j => if b = a ∧ j < m then v else h b j) := by
  have : En (XJ7_fill_53178 a m v h) (fun r h1 => r = 0 ∧ ∀ b j, h1 b j = if b = a ∧ j < m then v else h b j) := by
    unfold XJ7_fill_53178 XJ7_fill_53178_L5
    rw [nm_eq]
    refine En_lup3 (fun _ l2 _ _ => (m - l2).toNat) (fun l1 l2 l3 h1 => v = l1 ∧ (m : Int) = l3 ∧ 0 ≤ l2 ∧ l2 ≤ m ∧ ∀ b j, h1 b j = if b = a ∧ (j : Int) < l2 then v else h b j) ?_ FU _ _ _ _ (by unfold FU; omega) ⟨rfl, rfl, by omega, by omega, fun b j => by rw [if_neg (by omega)]⟩
    rintro self l1 l2 l3 h1 ih ⟨rfl, rfl, c0, c1, c2⟩
    unfold XJ7_fill_53178_b5
    by_cases q : (m : Int) ≤ l2
    · rw [if_pos q]
      refine En_some ⟨rfl, fun b j => ?_⟩
      rw [c2 b j]
      by_cases qb : b = a ∧ j < m
      · rw [if_pos qb, if_pos (by omega)]
      · rw [if_neg qb, if_neg (by omega)]
    · rw [if_neg q, inb_pos (by omega), hm_eq, chk_pos (by omega)]
      refine ih _ _ _ _ (by omega) ⟨rfl, rfl, by omega, by omega, fun b j => ?_⟩
      by_cases qb : b = a ∧ j = l2.toNat
      · rw [wq_is qb, if_pos (by omega)]
      · rw [wq_ne qb, c2 b j]
        by_cases qc : b = a ∧ (j : Int) < l2
        · rw [if_pos qc, if_pos (by omega)]
        · rw [if_neg qc, if_neg (by omega)]
  obtain ⟨r, h1, e, rfl, hh⟩ := this
  rw [e]; congr 2; funext b j; exact hh b j
theorem fillJ_ok (a m : Nat) (v : Int) (h : Hp) (hm : m ≤ 100000) : XJ7_fill_d0a16 a m v h = some (0, fun b j => if b = a ∧ j < m then v else h b j) := fill_ok a m v h hm
theorem hold_eq (p : Nat) (x y : Int) (h : Hp) : ∃ g, XX10_hold p x y h = some (0, g) ∧ (∀ b j, g b j = if b = p + 1 ∧ j < 256 then 0 else if b = p ∧ j = 1 then y else if b = p ∧ j = 0 then x else h b j) := by
  refine ⟨_, by unfold XX10_hold; rw [hm_eq, hm_eq, fillJ_ok _ _ _ _ (by omega), cal_eq], fun b j => ?_⟩
  by_cases q : b = p + 1 ∧ j < 256
  · rw [if_pos q, if_pos q]
  · rw [if_neg q, if_neg q]; rfl
theorem isTape_eq (x : Int) (h : Hp) : XX11_isTape x h = some (if 0 ≤ x ∧ x < 6 then 1 else 0, h) := by
  unfold XX11_isTape
  by_cases q : x < 0
  · rw [if_pos q, if_neg (by omega), zb_0]
  · rw [if_neg q]
    by_cases q2 : 6 ≤ x
    · rw [if_pos q2, if_neg (by omega), zb_0]
    · rw [if_neg q2, if_pos (by omega), zb_1]
theorem isTapeM_eq (x : Int) (h : Hp) : XX12_isTape x h = some (if 0 ≤ x ∧ x < 6 then 1 else 0, h) := by
  unfold XX12_isTape
  rw [in_eq, cal_eq, zbi]
  congr 3
  exact propext ⟨fun q => by omega, fun q => by omega⟩
theorem tp_asr {d : Nat} (hd : d < 6) : 101 + 7 * d = 101 ∨ 101 + 7 * d = 108 ∨ 101 + 7 * d = 115 ∨ 101 + 7 * d = 122 ∨ 101 + 7 * d = 129 ∨ 101 + 7 * d = 136 := by omega
/-- all but the tapes and the refusals -/
theorem Inv_tape {n : Nat} {h g : Hp} (hI : Inv n h) (e : ∀ a i, ¬ ((101 ≤ a ∧ a ≤ 142) ∨ (171 ≤ a ∧ a ≤ 173) ∨ a = 202) → g a i = h a i) (j : J12 g) : Inv (n + 1) g := by
  obtain ⟨i1, i2, i3, i4, i5, i6, i7, i8, i9, i10, i11, i12, i13, i14, i15⟩ := hI
  exact ⟨J1_tr (fun a i hh => e a i (by omega)) i1, RelN_congr (fun a i hh => e a i (by omega)) i2, J2_tr (fun a i hh => e a i (by omega)) i3, J3_tr (fun a i hh => e a i (by omega)) i4, J4_tr (fun a i hh => e a i (by omega)) i5, J5_tr (fun a i hh => e a i (by omega)) i6, J6_tr (fun a i hh => e a i (by omega)) i7, J7_tr (fun a i hh => e a i (by omega)) i8, J8_tr (fun a i hh => e a i (by omega)) i9, J9_tr (fun a i hh => e a i (by omega)) i10, J10_tr (fun a i hh => e a i (by omega)) i11, J11_tr (fun a i hh => e a i (by omega)) i12, j, J13_tr (fun a i hh => e a i (by omega)) i14, J14_tr (fun a i hh => e a i (by omega)) i15⟩
/-- one tape changes -/
theorem J12_one {h g : Hp} (j : J12 h) {d : Nat} (e98 : ∀ i, g 98 i = h 98 i) (e : ∀ k, k < 6 → k ≠ d → (∀ i, g 171 k = h 171 k ∧ g 172 k = h 172 k ∧ (i < 256 → g 173 (256 * k + i) = h 173 (256 * k + i))) ∧ (∀ a i, (101 + 7 * k ≤ a ∧ a ≤ 107 + 7 * k) → g a i = h a i) ∧ PRel (101 + 7 * k + 2) k g = PRel (101 + 7 * k + 2) k h) (hd : d < 6 → Tap g d) : J12 g := by
  intro k hk
  refine ⟨by rw [e98]; exact (j k hk).1, ?_⟩
  by_cases q : k = d
  · rw [q]; exact hd (by omega)
  · obtain ⟨e1, e2, e3⟩ := e k hk q
    obtain ⟨t1, t2, t3, t4⟩ := (j k hk).2
    have u := e1 0
    unfold Tap
    rw [u.1, u.2.1, e2 _ 0 (by omega), e2 _ 1 (by omega), e3]
    refine ⟨t1, t2, fun hh => ?_, fun hh => ⟨Pl_tr (fun a i ha => e2 a i (by omega)) (t4 hh).1, (t4 hh).2⟩⟩
    obtain ⟨a1, a2, a3, a4⟩ := t3 hh
    exact ⟨a1, a2, a3, fun i hi => by rw [e2 _ i (by omega), (e1 i).2.2 (by omega)]; exact a4 i hi⟩
theorem PRel_same {b sl : Nat} {h g : Hp} (e : ∀ a i, ((b ≤ a ∧ a ≤ b + 4) ∨ (174 ≤ a ∧ a ≤ 183)) → g a i = h a i) : PRel b sl g = PRel b sl h :=
  propext ⟨fun j => PRel_tr (fun a i ha => (e a i ha).symm) j, fun j => PRel_tr e j⟩
theorem refused_eq {n : Nat} {h : Hp} (hI : Inv n h) (hn : n ≤ 1000) (c : Int) : XX11_refused c h = some (c, wr h 16 15 (h 16 15 + 1)) := by
  have := hI.2.2.2.2.2.2.2.1
  unfold XX11_refused; rw [chk_pos (by have := this.2; omega), hm_eq]
theorem both_refuse {n : Nat} {h : Hp} (hI : Inv n h) (hn : n ≤ 1000) (c : Int) : XX12_refuse c (wr h 16 15 (h 16 15 + 1)) = some (c, wr (wr h 16 15 (h 16 15 + 1)) 143 57 (h 143 57 + 1)) ∧ Inv (n + 1) (wr (wr h 16 15 (h 16 15 + 1)) 143 57 (h 143 57 + 1)) := by
  obtain ⟨i1, i2, i3, i4, i5, i6, i7, i8, i9, i10, i11, i12, i13, i14, i15⟩ := id hI
  have e : ∀ a i, ¬ ((a = 16 ∧ i = 15) ∨ (a = 143 ∧ i = 57)) → wr (wr h 16 15 (h 16 15 + 1)) 143 57 (h 143 57 + 1) a i = h a i := fun a i hh => by rw [wq_ne (by omega), wq_ne (by omega)]
  refine ⟨?_, J1_tr (fun a i hh => e a i (by omega)) i1, RelN_congr (fun a i hh => e a i (by omega)) i2, J2_tr (fun a i hh => e a i (by omega)) i3, J3_tr (fun a i hh => e a i (by omega)) i4, J4_tr (fun a i hh => e a i (by omega)) i5, J5_tr (fun a i hh => e a i (by omega)) i6, J6_tr (fun a i hh => e a i (by omega)) i7, ?_, J8_tr (fun a i hh => e a i (by omega)) i9, J9_tr (fun a i hh => e a i (by omega)) i10, J10_tr (fun a i hh => e a i (by omega)) i11, J11_tr (fun a i hh => e a i (by omega)) i12, J12_tr (fun a i hh => e a i (by omega)) i13, J13_tr (fun a i hh => e a i (by omega)) i14, J14_tr (fun a i hh => e a i (by omega)) i15⟩
  · unfold XX12_refuse
    rw [wq_ne (by omega), chk_pos (by have := i8; unfold J7 at this; omega), hm_eq]
  · unfold J7
    rw [wq_ne (by omega), wr_at, wr_at, i8.1]
    have := i8.1; have := i8.2.1; have := i8.2.2
    exact ⟨rfl, by omega, by omega⟩
theorem m_clear {n : Nat} {h : Hp} (hI : Inv n h) (x : Int) : Both n h (XX11_clear x) (XX12_clear x) := by
  by_cases q : 0 ≤ x ∧ x < 6
  · obtain ⟨d, rfl⟩ := Int.eq_ofNat_of_zero_le q.1
    obtain ⟨jd, t1, t2, t3, t4⟩ := hI.2.2.2.2.2.2.2.2.2.2.2.2.1 d (by omega)
    obtain ⟨g, eg, hg⟩ := hold_eq (101 + 7 * d) 0 0 h
    have e : ∀ a i, ¬ ((101 ≤ a ∧ a ≤ 142)) → g a i = h a i := fun a i hh => by rw [hg, if_neg (by omega), if_neg (by omega), if_neg (by omega)]
    refine Both_mk (r := h 171 d) (h1 := g) (h2 := wr g 171 d 0) ?_ ?_ ?_
    · unfold XX11_clear
      rw [isTape_eq, cal_eq, if1 q, if_neg n10, inb_pos (by omega), nmP_eq, Int.toNat_natCast, jd, show ((101 + 7 * (d : Int))).toNat = 101 + 7 * d by omega, asr_pos (tp_asr (by omega)), nm_eq, inb_pos (by omega), nmP_eq, asr_pos (tp_asr (by omega)), eg, cal_eq, t1]
    · unfold XX12_clear
      rw [isTapeM_eq, cal_eq, if1 q, if_neg n10, inb_pos (by omega), nm_eq, inb_pos (by omega), hm_eq, Int.toNat_natCast, e 171 d (by omega)]
    · refine Inv_tape hI (fun a i hh => by rw [wq_ne (by omega)]; exact e a i (by omega)) (J12_one (d := d) hI.2.2.2.2.2.2.2.2.2.2.2.2.1 (fun i => by rw [wq_ne (by omega)]; exact e 98 i (by omega)) (fun k hk hne => ⟨fun i => ⟨?_, ?_, fun _ => ?_⟩, fun a i ha => ?_, ?_⟩) (fun hd => ?_))
      · rw [wr_o hne]; exact e 171 k (by omega)
      · rw [wq_ne (by omega)]; exact e 172 k (by omega)
      · rw [wq_ne (by omega)]; exact e 173 _ (by omega)
      · rw [wq_ne (by omega), hg, if_neg (by omega), if_neg (by omega), if_neg (by omega)]
      · refine PRel_same (fun a i ha => ?_)
        rw [wq_ne (by omega), hg, if_neg (by omega), if_neg (by omega), if_neg (by omega)]
      · unfold Tap
        rw [wr_at, wq_ne (by omega), hg, if_neg (by omega), if_neg (by omega), if_pos (by omega)]
        exact ⟨rfl, by decide, fun hh => absurd rfl hh, fun hh => by cases hh⟩
  · refine Both_ro (r := -1) ?_ ?_ hI
    · unfold XX11_clear; rw [isTape_eq, cal_eq, if0 q, if_pos rfl]
    · unfold XX12_clear; rw [isTapeM_eq, cal_eq, if0 q, if_pos rfl]
