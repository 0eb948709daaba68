theorem Both_ro {n : Nat} {h : Hp} {X Y : Hp → OR} {r : Int} (e1 : X h = some (r, h)) (e2 : Y h = some (r, h)) (hI : Inv n h) : Both n h X Y := ⟨r, h, h, e1, e2, Inv_up hI⟩
theorem if1 {c : Prop} [Decidable c] (hc : c) : (if c then (1 : Int) else 0) = 1 := if_pos hc
theorem if0 {c : Prop} [Decidable c] (hc : ¬ c) : (if c then (1 : Int) else 0) = 0 := if_neg hc
theorem n10 : ¬ ((1 : Int) = 0) := by decide
theorem m_point {n : Nat} {h : Hp} (hI : Inv n h) (x : Int) : Both n h (XX11_point x) (XX12_point x) := by
  obtain ⟨e, k0, k1, k2⟩ := hI.2.2.2.2.2.1
  by_cases q : 0 ≤ x ∧ x < h 16 12
  · refine Both_ro (r := h 100 x.toNat) ?_ ?_ hI
    · unfold XX11_point; rw [if_neg (by omega), if_pos (by omega), inb_pos (by omega)]
    · unfold XX12_point; rw [chk_pos (by omega), in_eq, cal_eq, if1 (by omega), if_neg n10, inb_pos (by omega), k2 _ (by omega)]
  · refine Both_ro (r := -1) ?_ ?_ hI
    · unfold XX11_point XX11_point_p12
      by_cases q2 : x < 0
      · rw [if_pos q2]
      · rw [if_neg q2, if_neg (by omega)]
    · unfold XX12_point; rw [chk_pos (by omega), in_eq, cal_eq, if0 (by omega), if_pos rfl]
theorem m_clash {n : Nat} {h : Hp} (hI : Inv n h) (x : Int) : Both n h (XX11_clash x) (XX12_clash x) := by
  obtain ⟨e1, e2⟩ := hI.2.2.2.2.2.2.1
  refine Both_ro (r := if x = 0 then h 16 13 else if x = 1 then h 16 14 else -1) ?_ ?_ hI
  · unfold XX11_clash; repeat' split
    all_goals first | rfl | omega
  · unfold XX12_clash; rw [e1, e2]; repeat' split
    all_goals first | rfl | omega
theorem m_patched {n : Nat} {h : Hp} (hI : Inv n h) (x : Int) : Both n h (XX11_patched x) (XX12_patched x) := by
  obtain ⟨e1, e2, e3⟩ := hI.2.2.2.2.2.2.2.2.1
  by_cases q : h 56 0 = 0
  · refine Both_ro (r := -1) ?_ ?_ hI
    · unfold XX11_patched; rw [if_pos q]
    · unfold XX12_patched; rw [← e1, if_pos q]
  · obtain ⟨⟨p1, _⟩, ⟨p2, _⟩, ⟨p3, _⟩, ⟨p4, _⟩, _⟩ := e3 (by omega)
    refine Both_ro (r := if x = 0 then h 56 8 else if x = 1 then h 56 3 else if x = 2 then h 56 5 else if x = 3 then (if h 56 1 = 0 then 0 else 1) else -1) ?_ ?_ hI
    · unfold XX11_patched; rw [if_neg q]; repeat' split
      all_goals first | rfl | omega
    · unfold XX12_patched; rw [← e1, if_neg q, p1, p2, p3, p4]; repeat' split
      all_goals first | rfl | omega
theorem m_function {n : Nat} {h : Hp} (hI : Inv n h) (x : Int) : Both n h (XX11_function x) (XX12_function x) := by
  obtain ⟨e1, e2, e3⟩ := hI.2.2.2.2.2.2.2.2.1
  by_cases q : h 56 0 = 0
  · refine Both_ro (r := -1) ?_ ?_ hI
    · unfold XX11_function XX11_function_p25; rw [if_pos q]
    · unfold XX12_function; rw [← e1, if_pos q]
  · obtain ⟨⟨p1, _⟩, ⟨p2, p21, p22⟩, ⟨p3, _⟩, ⟨p4, _⟩, p5, _⟩ := e3 (by omega)
    by_cases q2 : 0 ≤ x ∧ x < h 56 3
    · refine Both_ro (r := h 59 x.toNat) ?_ ?_ hI
      · unfold XX11_function; rw [if_neg q, if_neg (by omega), if_pos (by omega), inb_pos (by omega)]
      · unfold XX12_function; rw [← e1, if_neg q, ← p2, chk_pos (by omega), in_eq, cal_eq, if1 (by omega), if_neg n10, inb_pos (by omega), (p5 x.toNat (by omega)).2.2.2.1]
    · refine Both_ro (r := -1) ?_ ?_ hI
      · unfold XX11_function XX11_function_p25
        rw [if_neg q]
        by_cases q3 : x < 0
        · rw [if_pos q3]
        · rw [if_neg q3, if_neg (by omega)]
      · unfold XX12_function; rw [← e1, if_neg q, ← p2, chk_pos (by omega), in_eq, cal_eq, if0 (by omega), if_pos rfl]
theorem m_told {n : Nat} {h : Hp} (hI : Inv n h) (x : Int) : Both n h (XX11_told x) (XX12_told x) := by
  obtain ⟨e1, e2, e3⟩ := hI.2.2.2.2.2.2.2.2.1
  by_cases q : h 56 0 = 0
  · refine Both_ro (r := -1) ?_ ?_ hI
    · unfold XX11_told XX11_told_p25; rw [if_pos q]
    · unfold XX12_told; rw [← e1, if_pos q]
  · obtain ⟨⟨p1, _⟩, ⟨p2, p21, p22⟩, ⟨p3, p31, p32⟩, ⟨p4, _⟩, p5, _, p6, _⟩ := e3 (by omega)
    by_cases q2 : 0 ≤ x ∧ x < h 56 5
    · refine Both_ro (r := h 58 x.toNat) ?_ ?_ hI
      · unfold XX11_told; rw [if_neg q, if_neg (by omega), if_pos (by omega), inb_pos (by omega)]
      · unfold XX12_told; rw [← e1, if_neg q, ← p3, chk_pos (by omega), in_eq, cal_eq, if1 (by omega), if_neg n10, inb_pos (by omega), (p6 x.toNat (by omega)).1]
    · refine Both_ro (r := -1) ?_ ?_ hI
      · unfold XX11_told XX11_told_p25
        rw [if_neg q]
        by_cases q3 : x < 0
        · rw [if_pos q3]
        · rw [if_neg q3, if_neg (by omega)]
      · unfold XX12_told; rw [← e1, if_neg q, ← p3, chk_pos (by omega), in_eq, cal_eq, if0 (by omega), if_pos rfl]
theorem m_node {n : Nat} {h : Hp} (hI : Inv n h) (x y : Int) : Both n h (XX11_node x y) (XX12_node x y) := by
  obtain ⟨e1, e2, e3⟩ := hI.2.2.2.2.2.2.2.2.1
  by_cases q : h 56 0 = 0
  · refine Both_ro (r := -1) ?_ ?_ hI
    · unfold XX11_node; rw [if_pos q]
    · unfold XX12_node; rw [← e1, if_pos q]
  · obtain ⟨⟨p1, p11⟩, ⟨p2, p21, p22⟩, ⟨p3, p31, p32⟩, ⟨p4, p41, p42⟩, p5, _, p6, p7, _⟩ := e3 (by omega)
    by_cases q2 : 0 ≤ x ∧ x < h 56 8
    · obtain ⟨⟨a1, _⟩, ⟨a2, _⟩, ⟨a3, _⟩, ⟨a4, _⟩, a5⟩ := p7 x.toNat (by omega)
      refine Both_ro (r := if y = 0 then h 61 x.toNat else if y = 1 then h 62 x.toNat else if y = 2 then h 63 x.toNat else if y = 3 then h 64 x.toNat else if y = 4 then h 166 x.toNat else -1) ?_ ?_ hI
      · unfold XX11_node; rw [if_neg q, if_neg (by omega), if_pos (by omega), inb_pos (by omega), inb_pos (by omega), inb_pos (by omega), inb_pos (by omega), inb_pos (by omega)]
        by_cases qp : h 56 1 = 0
        · rw [if_neg (by omega)] at a5
          rw [if_pos qp, a5]
          repeat' split
          all_goals first | rfl | omega
        · rw [if_pos (by omega)] at a5
          rw [if_neg qp, a5.1]
          repeat' split
          all_goals first | rfl | omega
      · unfold XX12_node; rw [← e1, if_neg q, ← p4, chk_pos (by omega), in_eq, cal_eq, if1 (by omega), if_neg n10, inb_pos (by omega), inb_pos (by omega), inb_pos (by omega), inb_pos (by omega), inb_pos (by omega), ← a1, ← a2, ← a3, ← a4]
        repeat' split
        all_goals first | rfl | omega
    · refine Both_ro (r := -1) ?_ ?_ hI
      · unfold XX11_node
        rw [if_neg q]
        by_cases q3 : x < 0
        · rw [if_pos q3]
        · rw [if_neg q3, if_neg (by omega)]
      · unfold XX12_node; rw [← e1, if_neg q, ← p4, chk_pos (by omega), in_eq, cal_eq, if0 (by omega), if_pos rfl]
theorem m_used {n : Nat} {h : Hp} (hI : Inv n h) (x : Int) : Both n h (XX11_used x) (XX12_used x) := by
  obtain ⟨e1, e2, e3, e4, e5⟩ := hI.2.2.2.2.2.2.2.2.2.1
  by_cases q2 : 0 ≤ x ∧ x < h 67 0
  · obtain ⟨_, _, _, _, a5, a6⟩ := e5 x.toNat (by omega)
    refine Both_ro (r := if h 155 x.toNat = 0 then 0 else 1) ?_ ?_ hI
    · unfold XX11_used; rw [if_neg (by omega), if_pos (by omega), abit _ (by omega) (by omega), a6]
      rcases a5 with a | a <;> rw [a] <;> rfl
    · unfold XX12_used; rw [← e1, chk_pos (by omega), in_eq, cal_eq, if1 (by omega), if_neg n10, inb_pos (by omega)]
      split <;> rfl
  · refine Both_ro (r := -1) ?_ ?_ hI
    · unfold XX11_used XX11_used_p15
      by_cases q3 : x < 0
      · rw [if_pos q3]
      · rw [if_neg q3, if_neg (by omega)]
    · unfold XX12_used; rw [← e1, chk_pos (by omega), in_eq, cal_eq, if0 (by omega), if_pos rfl]
theorem m_change {n : Nat} {h : Hp} (hI : Inv n h) (x y : Int) : Both n h (XX11_change x y) (XX12_change x y) := by
  obtain ⟨⟨e1, e2, e3⟩, e4, _⟩ := hI.2.2.2.2.2.2.2.2.2.2.2.1
  by_cases q2 : 0 ≤ x ∧ x < h 72 4
  · obtain ⟨a1, a2, a3⟩ := e4 x.toNat (by omega)
    by_cases q3 : 0 ≤ y ∧ y ≤ 2
    · have : y = 0 ∨ y = 1 ∨ y = 2 := by omega
      rcases this with rfl | rfl | rfl
      · refine Both_ro (r := h 167 x.toNat) ?_ ?_ hI
        · unfold XX11_change; rw [if_neg (by omega), if_neg (by omega), if_neg (by omega), if_pos (by omega), chk_pos (by omega), chk_pos (by omega), inb_pos (by omega), show (3 * x + 0).toNat = 3 * x.toNat by omega, a1]
        · unfold XX12_change; rw [← e1, chk_pos (by omega), in_eq, cal_eq, if1 (by omega), if_neg n10, if_pos rfl, inb_pos (by omega)]
      · refine Both_ro (r := h 168 x.toNat) ?_ ?_ hI
        · unfold XX11_change; rw [if_neg (by omega), if_neg (by omega), if_neg (by omega), if_pos (by omega), chk_pos (by omega), chk_pos (by omega), inb_pos (by omega), show (3 * x + 1).toNat = 3 * x.toNat + 1 by omega, a2]
        · unfold XX12_change; rw [← e1, chk_pos (by omega), in_eq, cal_eq, if1 (by omega), if_neg n10, if_neg (by omega), if_pos rfl, inb_pos (by omega)]
      · refine Both_ro (r := h 169 x.toNat) ?_ ?_ hI
        · unfold XX11_change; rw [if_neg (by omega), if_neg (by omega), if_neg (by omega), if_pos (by omega), chk_pos (by omega), chk_pos (by omega), inb_pos (by omega), show (3 * x + 2).toNat = 3 * x.toNat + 2 by omega, a3]
        · unfold XX12_change; rw [← e1, chk_pos (by omega), in_eq, cal_eq, if1 (by omega), if_neg n10, if_neg (by omega), if_neg (by omega), if_pos rfl, inb_pos (by omega)]
    · refine Both_ro (r := -1) ?_ ?_ hI
      · unfold XX11_change
        rw [if_neg (by omega), if_neg (by omega)]
        by_cases q4 : y < 0
        · rw [if_pos q4]
        · rw [if_neg q4, if_neg (by omega)]
      · unfold XX12_change; rw [← e1, chk_pos (by omega), in_eq, cal_eq, if1 (by omega), if_neg n10, if_neg (by omega), if_neg (by omega), if_neg (by omega)]
  · refine Both_ro (r := -1) ?_ ?_ hI
    · unfold XX11_change
      by_cases q3 : x < 0
      · rw [if_pos q3]
      · rw [if_neg q3, if_pos (by omega)]
    · unfold XX12_change; rw [← e1, chk_pos (by omega), in_eq, cal_eq, if0 (by omega), if_pos rfl]
theorem m_test {n : Nat} {h : Hp} (hI : Inv n h) (x : Int) : Both n h (XX11_test x) (XX12_test x) := by
  obtain ⟨_, _, ⟨e1, e2, e3⟩, e4⟩ := hI.2.2.2.2.2.2.2.2.2.2.2.1
  by_cases q : 0 ≤ x ∧ x < h 72 6
  · refine Both_ro (r := h 76 x.toNat) ?_ ?_ hI
    · unfold XX11_test; rw [if_neg (by omega), if_pos (by omega), inb_pos (by omega)]
    · unfold XX12_test; rw [← e1, chk_pos (by omega), in_eq, cal_eq, if1 (by omega), if_neg n10, inb_pos (by omega), e4 _ (by omega)]
  · refine Both_ro (r := -1) ?_ ?_ hI
    · unfold XX11_test XX11_test_p15
      by_cases q2 : x < 0
      · rw [if_pos q2]
      · rw [if_neg q2, if_neg (by omega)]
    · unfold XX12_test; rw [← e1, chk_pos (by omega), in_eq, cal_eq, if0 (by omega), if_pos rfl]
