/-- a slot of the model being filled from another -/
def MovP (sa sl w j o n u : Nat) (h g : Hp) : Prop :=
  (∀ a i, ¬ (174 ≤ a ∧ a ≤ 184) → g a i = h a i) ∧ ((∀ i, g 174 i = if i = sl then h 174 sa else h 174 i) ∧ (∀ i, g 175 i = if i = sl then h 175 sa else h 175 i) ∧ (∀ i, g 176 i = if i = sl then h 176 sa else h 176 i) ∧ (∀ i, g 177 i = if i = sl then h 177 sa else h 177 i)) ∧
  Win (48 * sl) w (fun i => h 178 (48 * sa + i)) (h 178) (g 178) ∧ Win (48 * sl) w (fun i => h 182 (48 * sa + i)) (h 182) (g 182) ∧ Win (48 * sl) w (fun i => h 183 (48 * sa + i)) (h 183) (g 183) ∧
  Win (144 * sl) j (fun i => h 179 (144 * sa + i)) (h 179) (g 179) ∧ Win (4 * sl) o (fun i => h 180 (4 * sa + i)) (h 180) (g 180) ∧ Win (2 * sl) n (fun i => h 181 (2 * sa + i)) (h 181) (g 181) ∧ Win (12 * sl) u (fun i => h 184 (12 * sa + i)) (h 184) (g 184)
theorem moves_ok {sa sl : Nat} (hsa : sa < 10) (hsl : sl < 10) (hne : sa ≠ sl) {h : Hp} (hz : ∀ i, i < 120 → h 184 i = 0 ∨ h 184 i = 1) : En (XX12_moves sa sl h) (fun _ g => MovP sa sl 48 144 4 2 12 h g) := by
  unfold XX12_moves
  rw [inb_pos (by omega), inb_pos (by omega), hm_eq, inb_pos (by omega), inb_pos (by omega), hm_eq, inb_pos (by omega), inb_pos (by omega), hm_eq, inb_pos (by omega), inb_pos (by omega), hm_eq]
  rw [wr_ne (h := h) (a := 174) (b := 175) (by omega), wr_ne (h := wr h 174 _ _) (a := 175) (b := 176) (by omega), wr_ne (h := h) (a := 174) (b := 176) (by omega), wr_ne (h := wr (wr h 174 _ _) 175 _ _) (a := 176) (b := 177) (by omega), wr_ne (h := wr h 174 _ _) (a := 175) (b := 177) (by omega), wr_ne (h := h) (a := 174) (b := 177) (by omega), Int.toNat_natCast, Int.toNat_natCast]
  unfold XX12_moves_L50
  refine En_lup3 (fun _ _ l2 _ => (48 - l2).toNat) (fun l0 l1 l2 g => (sa : Int) = l0 ∧ (sl : Int) = l1 ∧ 0 ≤ l2 ∧ l2 ≤ 48 ∧ MovP sa sl l2.toNat (3 * l2.toNat) 0 0 0 h g) ?_ FU _ _ _ _ (by unfold FU; omega) ⟨rfl, rfl, by omega, by omega, ?_⟩
  rotate_left
  · refine ⟨fun a i hh => by rw [wq_ne (by omega), wq_ne (by omega), wq_ne (by omega), wq_ne (by omega)], ⟨fun i => ?_, fun i => ?_, fun i => ?_, fun i => ?_⟩, ?_, ?_, ?_, ?_, ?_, ?_, ?_⟩
    · rw [wr_ne (by omega), wr_ne (by omega), wr_ne (by omega), wr_row]
    · rw [wr_ne (by omega), wr_ne (by omega), wr_row, wr_ne (by omega)]
    · rw [wr_ne (by omega), wr_row, wr_ne (by omega), wr_ne (by omega)]
    · rw [wr_row, wr_ne (by omega), wr_ne (by omega), wr_ne (by omega)]
    all_goals
      rw [wr_ne (by omega), wr_ne (by omega), wr_ne (by omega), wr_ne (by omega)]
      exact Win_0 _ _ _
  rintro self44 l0 l1 l2 g ih44 ⟨rfl, rfl, c0, c1, hS⟩
  unfold XX12_moves_b50
  by_cases q : 48 ≤ l2
  · rw [if_pos q]
    have e2 : l2.toNat = 48 := by omega
    rw [e2] at hS
    unfold XX12_moves_L177
    refine En_lup3 (fun _ _ l2 _ => (4 - l2).toNat) (fun l0 l1 l2 g => (sa : Int) = l0 ∧ (sl : Int) = l1 ∧ 0 ≤ l2 ∧ l2 ≤ 4 ∧ MovP sa sl 48 144 l2.toNat 0 0 h g) ?_ FU _ _ _ _ (by unfold FU; omega) ⟨rfl, rfl, by omega, by omega, hS⟩
    clear hS
    rintro self147 l0 l1 l2 g ih147 ⟨rfl, rfl, c0, c1, hS⟩
    unfold XX12_moves_b177
    by_cases q : 4 ≤ l2
    · rw [if_pos q]
      have e2 : l2.toNat = 4 := by omega
      rw [e2] at hS
      unfold XX12_moves_L210
      refine En_lup3 (fun _ _ l2 _ => (2 - l2).toNat) (fun l0 l1 l2 g => (sa : Int) = l0 ∧ (sl : Int) = l1 ∧ 0 ≤ l2 ∧ l2 ≤ 2 ∧ MovP sa sl 48 144 4 l2.toNat 0 h g) ?_ FU _ _ _ _ (by unfold FU; omega) ⟨rfl, rfl, by omega, by omega, hS⟩
      clear hS
      rintro self176 l0 l1 l2 g ih176 ⟨rfl, rfl, c0, c1, hS⟩
      unfold XX12_moves_b210
      by_cases q : 2 ≤ l2
      · rw [if_pos q]
        have e2 : l2.toNat = 2 := by omega
        rw [e2] at hS
        unfold XX12_moves_L243
        refine En_lup3 (fun _ _ l2 _ => (12 - l2).toNat) (fun l0 l1 l2 g => (sa : Int) = l0 ∧ (sl : Int) = l1 ∧ 0 ≤ l2 ∧ l2 ≤ 12 ∧ MovP sa sl 48 144 4 2 l2.toNat h g) ?_ FU _ _ _ _ (by unfold FU; omega) ⟨rfl, rfl, by omega, by omega, hS⟩
        clear hS
        rintro self205 l0 l1 l2 g ih205 ⟨rfl, rfl, c0, c1, hS⟩
        unfold XX12_moves_b243
        by_cases q : 12 ≤ l2
        · rw [if_pos q]
          have e2 : l2.toNat = 12 := by omega
          rw [e2] at hS
          exact En_some hS
        · obtain ⟨s1, s2, s3, s4, s5, s6, s7, s8, s9⟩ := hS
          obtain ⟨k, rfl⟩ := Int.eq_ofNat_of_zero_le c0
          rw [Int.toNat_natCast] at s9
          have rd : g 184 (12 * (sa : Int) + (k : Int)).toNat = h 184 (12 * sa + k) := by
            rw [show (12 * (sa : Int) + (k : Int)).toNat = 12 * sa + k by omega]
            exact Win_no s9 (by omega)
          rw [if_neg q, chk_pos (by omega), chk_pos (by omega), chk_pos (by omega), chk_pos (by omega), inb_pos (by omega), inb_pos (by omega), rd, zb_pos (hz _ (by omega)), hm_eq, chk_pos (by omega)]
          refine ih205 _ _ _ _ (by omega) ⟨rfl, rfl, by omega, by omega, fun a i hh => by rw [wq_ne (by omega)]; exact s1 a i hh, ⟨fun i => by rw [wr_ne (by omega)]; exact s2.1 i, fun i => by rw [wr_ne (by omega)]; exact s2.2.1 i, fun i => by rw [wr_ne (by omega)]; exact s2.2.2.1 i, fun i => by rw [wr_ne (by omega)]; exact s2.2.2.2 i⟩, Win_ne s3 (by omega), Win_ne s4 (by omega), Win_ne s5 (by omega), Win_ne s6 (by omega), Win_ne s7 (by omega), Win_ne s8 (by omega), ?_⟩
          rw [show ((k : Int) + 1).toNat = k + 1 by omega]
          exact Win_wr s9 (by omega) rfl
      · obtain ⟨s1, s2, s3, s4, s5, s6, s7, s8, s9⟩ := hS
        obtain ⟨k, rfl⟩ := Int.eq_ofNat_of_zero_le c0
        rw [Int.toNat_natCast] at s8
        have rd : g 181 (2 * (sa : Int) + (k : Int)).toNat = h 181 (2 * sa + k) := by
          rw [show (2 * (sa : Int) + (k : Int)).toNat = 2 * sa + k by omega]
          exact Win_no s8 (by omega)
        rw [if_neg q, chk_pos (by omega), chk_pos (by omega), chk_pos (by omega), chk_pos (by omega), inb_pos (by omega), inb_pos (by omega), rd, hm_eq, chk_pos (by omega)]
        refine ih176 _ _ _ _ (by omega) ⟨rfl, rfl, by omega, by omega, fun a i hh => by rw [wq_ne (by omega)]; exact s1 a i hh, ⟨fun i => by rw [wr_ne (by omega)]; exact s2.1 i, fun i => by rw [wr_ne (by omega)]; exact s2.2.1 i, fun i => by rw [wr_ne (by omega)]; exact s2.2.2.1 i, fun i => by rw [wr_ne (by omega)]; exact s2.2.2.2 i⟩, Win_ne s3 (by omega), Win_ne s4 (by omega), Win_ne s5 (by omega), Win_ne s6 (by omega), Win_ne s7 (by omega), ?_, Win_ne s9 (by omega)⟩
        rw [show ((k : Int) + 1).toNat = k + 1 by omega]
        exact Win_wr s8 (by omega) rfl
    · obtain ⟨s1, s2, s3, s4, s5, s6, s7, s8, s9⟩ := hS
      obtain ⟨k, rfl⟩ := Int.eq_ofNat_of_zero_le c0
      rw [Int.toNat_natCast] at s7
      have rd : g 180 (4 * (sa : Int) + (k : Int)).toNat = h 180 (4 * sa + k) := by
        rw [show (4 * (sa : Int) + (k : Int)).toNat = 4 * sa + k by omega]
        exact Win_no s7 (by omega)
      rw [if_neg q, chk_pos (by omega), chk_pos (by omega), chk_pos (by omega), chk_pos (by omega), inb_pos (by omega), inb_pos (by omega), rd, hm_eq, chk_pos (by omega)]
      refine ih147 _ _ _ _ (by omega) ⟨rfl, rfl, by omega, by omega, fun a i hh => by rw [wq_ne (by omega)]; exact s1 a i hh, ⟨fun i => by rw [wr_ne (by omega)]; exact s2.1 i, fun i => by rw [wr_ne (by omega)]; exact s2.2.1 i, fun i => by rw [wr_ne (by omega)]; exact s2.2.2.1 i, fun i => by rw [wr_ne (by omega)]; exact s2.2.2.2 i⟩, Win_ne s3 (by omega), Win_ne s4 (by omega), Win_ne s5 (by omega), Win_ne s6 (by omega), ?_, Win_ne s8 (by omega), Win_ne s9 (by omega)⟩
      rw [show ((k : Int) + 1).toNat = k + 1 by omega]
      exact Win_wr s7 (by omega) rfl
  · obtain ⟨s1, s2, s3, s4, s5, s6, s7, s8, s9⟩ := hS
    obtain ⟨w, rfl⟩ := Int.eq_ofNat_of_zero_le c0
    rw [Int.toNat_natCast] at s3 s4 s5 s6
    have i1 : (48 * (sa : Int) + (w : Int)).toNat = 48 * sa + w := by omega
    have i2 : (48 * (sl : Int) + (w : Int)).toNat = 48 * sl + w := by omega
    rw [if_neg q, chk_pos (by omega), chk_pos (by omega), chk_pos (by omega), chk_pos (by omega), inb_pos (by omega), inb_pos (by omega), hm_eq, chk_pos (by omega), chk_pos (by omega), chk_pos (by omega), chk_pos (by omega), inb_pos (by omega), inb_pos (by omega), hm_eq, chk_pos (by omega), chk_pos (by omega), chk_pos (by omega), chk_pos (by omega), inb_pos (by omega), inb_pos (by omega), hm_eq]
    rw [wr_ne (h := g) (a := 178) (b := 182) (by omega), wr_ne (h := wr g 178 _ _) (a := 182) (b := 183) (by omega), wr_ne (h := g) (a := 178) (b := 183) (by omega)]
    rw [i1, i2, Win_no s3 (show ¬ (48 * sl ≤ 48 * sa + w ∧ 48 * sa + w < 48 * sl + w) by omega), Win_no s4 (show ¬ (48 * sl ≤ 48 * sa + w ∧ 48 * sa + w < 48 * sl + w) by omega), Win_no s5 (show ¬ (48 * sl ≤ 48 * sa + w ∧ 48 * sa + w < 48 * sl + w) by omega)]
    unfold XX12_moves_L125
    refine En_lup4 (fun _ _ _ l3 _ => (3 - l3).toNat) (fun l0 l1 l2 l3 g => (sa : Int) = l0 ∧ (sl : Int) = l1 ∧ (w : Int) = l2 ∧ 0 ≤ l3 ∧ l3 ≤ 3 ∧ MovP sa sl (w + 1) (3 * w + l3.toNat) 0 0 0 h g) ?_ FU _ _ _ _ _ (by unfold FU; omega) ⟨rfl, rfl, rfl, by omega, by omega, ?_⟩
    rotate_left
    · refine ⟨fun a i hh => by rw [wq_ne (by omega), wq_ne (by omega), wq_ne (by omega)]; exact s1 a i hh, ⟨fun i => by rw [wr_ne (by omega), wr_ne (by omega), wr_ne (by omega)]; exact s2.1 i, fun i => by rw [wr_ne (by omega), wr_ne (by omega), wr_ne (by omega)]; exact s2.2.1 i, fun i => by rw [wr_ne (by omega), wr_ne (by omega), wr_ne (by omega)]; exact s2.2.2.1 i, fun i => by rw [wr_ne (by omega), wr_ne (by omega), wr_ne (by omega)]; exact s2.2.2.2 i⟩, ?_, ?_, ?_, ?_, ?_, ?_, ?_⟩
      · exact Win_ne (Win_ne (Win_wr s3 rfl rfl) (by omega)) (by omega)
      · exact Win_ne (Win_wr (Win_ne s4 (by omega)) rfl rfl) (by omega)
      · exact Win_wr (Win_ne (Win_ne s5 (by omega)) (by omega)) rfl rfl
      · exact Win_ne (Win_ne (Win_ne s6 (by omega)) (by omega)) (by omega)
      · exact Win_ne (Win_ne (Win_ne s7 (by omega)) (by omega)) (by omega)
      · exact Win_ne (Win_ne (Win_ne s8 (by omega)) (by omega)) (by omega)
      · exact Win_ne (Win_ne (Win_ne s9 (by omega)) (by omega)) (by omega)
    clear s1 s2 s3 s4 s5 s6 s7 s8 s9
    rintro self103 l0 l1 l2 l3 g ih103 ⟨rfl, rfl, rfl, d0, d1, hS⟩
    unfold XX12_moves_b125
    by_cases q3 : 3 ≤ l3
    · rw [if_pos q3, chk_pos (by omega)]
      refine ih44 _ _ _ _ (by omega) ⟨rfl, rfl, by omega, by omega, ?_⟩
      rw [show ((w : Int) + 1).toNat = w + 1 by omega]
      rw [show 3 * w + l3.toNat = 3 * (w + 1) by omega] at hS
      exact hS
    · obtain ⟨s1, s2, s3, s4, s5, s6, s7, s8, s9⟩ := hS
      have rd : g 179 (3 * (48 * (sa : Int) + (w : Int)) + l3).toNat = h 179 (144 * sa + (3 * w + l3.toNat)) := by
        rw [show (3 * (48 * (sa : Int) + (w : Int)) + l3).toNat = 144 * sa + (3 * w + l3.toNat) by omega]
        exact Win_no s6 (by omega)
      rw [if_neg q3, chk_pos (by omega), chk_pos (by omega), chk_pos (by omega), chk_pos (by omega), chk_pos (by omega), chk_pos (by omega), chk_pos (by omega), chk_pos (by omega), inb_pos (by omega), inb_pos (by omega), rd, hm_eq, chk_pos (by omega)]
      refine ih103 _ _ _ _ _ (by omega) ⟨rfl, rfl, rfl, by omega, by omega, fun a i hh => by rw [wq_ne (by omega)]; exact s1 a i hh, ⟨fun i => by rw [wr_ne (by omega)]; exact s2.1 i, fun i => by rw [wr_ne (by omega)]; exact s2.2.1 i, fun i => by rw [wr_ne (by omega)]; exact s2.2.2.1 i, fun i => by rw [wr_ne (by omega)]; exact s2.2.2.2 i⟩, Win_ne s3 (by omega), Win_ne s4 (by omega), Win_ne s5 (by omega), ?_, Win_ne s7 (by omega), Win_ne s8 (by omega), Win_ne s9 (by omega)⟩
      rw [show 3 * w + (l3 + 1).toNat = (3 * w + l3.toNat) + 1 by omega]
      exact Win_wr s6 (by omega) rfl
