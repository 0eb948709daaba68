theorem wr_row (h : Hp) (a k : Nat) (v : Int) (i : Nat) : wr h a k v a i = if i = k then v else h a i := by
  by_cases q : i = k
  · rw [if_pos q, q, wr_at]
  · rw [if_neg q, wr_o q]
/-- a window of a row that is filled from b on -/
def Win (b w : Nat) (s o f : Nat → Int) : Prop := ∀ i, f i = if b ≤ i ∧ i < b + w then s (i - b) else o i
theorem Win_0 (b : Nat) (s o : Nat → Int) : Win b 0 s o o := fun i => by rw [if_neg (by omega)]
theorem Win_at {b w : Nat} {s o f : Nat → Int} (h : Win b w s o f) {k : Nat} (hk : k < w) : f (b + k) = s k := by
  rw [h, if_pos (by omega), show b + k - b = k by omega]
theorem Win_no {b w : Nat} {s o f : Nat → Int} (h : Win b w s o f) {i : Nat} (hi : ¬ (b ≤ i ∧ i < b + w)) : f i = o i := by rw [h, if_neg hi]
theorem Win_wr {b w : Nat} {s o : Nat → Int} {g : Hp} {c k : Nat} (h : Win b w s o (g c)) {v : Int} (hk : k = b + w) (hv : v = s w) : Win b (w + 1) s o (wr g c k v c) := by
  intro i
  rw [wr_row, hk]
  by_cases q : i = b + w
  · rw [if_pos q, if_pos (by omega), hv, show i - b = w by omega]
  · rw [if_neg q, h]
    by_cases q2 : b ≤ i ∧ i < b + w
    · rw [if_pos q2, if_pos (by omega)]
    · rw [if_neg q2, if_neg (by omega)]
theorem Win_ne {b w : Nat} {s o : Nat → Int} {g : Hp} {c d k : Nat} {v : Int} (h : Win b w s o (g c)) (hd : c ≠ d) : Win b w s o (wr g d k v c) := by
  rw [wr_ne hd]; exact h
/-- a slot of the model being filled: w wires, j pins, o outputs, n nexts, u used -/
def StoP (sl w j o n u : Nat) (h g : Hp) : Prop :=
  (∀ a i, ¬ (174 ≤ a ∧ a ≤ 184) → g a i = h a i) ∧ ((∀ i, g 174 i = if i = sl then h 143 1 else h 174 i) ∧ (∀ i, g 175 i = if i = sl then h 143 2 else h 175 i) ∧ (∀ i, g 176 i = if i = sl then h 143 3 else h 176 i) ∧ (∀ i, g 177 i = if i = sl then h 144 0 else h 177 i)) ∧
  Win (48 * sl) w (h 145) (h 178) (g 178) ∧ Win (48 * sl) w (h 150) (h 182) (g 182) ∧ Win (48 * sl) w (h 151) (h 183) (g 183) ∧
  Win (144 * sl) j (h 146) (h 179) (g 179) ∧ Win (4 * sl) o (h 147) (h 180) (g 180) ∧ Win (2 * sl) n (h 148) (h 181) (g 181) ∧ Win (12 * sl) u (h 155) (h 184) (g 184)
theorem stores_ok {sl : Nat} (hsl : sl < 10) {h : Hp} (hz : ∀ k, k < 12 → h 155 k = 0 ∨ h 155 k = 1) : En (XX12_stores sl h) (fun _ g => StoP sl 48 144 4 2 12 h g) := by
  unfold XX12_stores
  rw [inb_pos (by omega), hm_eq, inb_pos (by omega), hm_eq, inb_pos (by omega), hm_eq, inb_pos (by omega), inb_pos (by omega), hm_eq]
  rw [wr_ne (h := h) (a := 174) (b := 143) (by omega), wr_ne (h := wr h 174 _ _) (a := 175) (b := 143) (by omega), wr_ne (h := h) (a := 174) (b := 143) (by omega), wr_ne (h := wr (wr h 174 _ _) 175 _ _) (a := 176) (b := 144) (by omega), wr_ne (h := wr h 174 _ _) (a := 175) (b := 144) (by omega), wr_ne (h := h) (a := 174) (b := 144) (by omega), Int.toNat_natCast, show (0 : Int).toNat = 0 from rfl]
  unfold XX12_stores_L44
  refine En_lup2 (fun _ l2 _ => (48 - l2).toNat) (fun l1 l2 g => (sl : Int) = l1 ∧ 0 ≤ l2 ∧ l2 ≤ 48 ∧ StoP sl l2.toNat (3 * l2.toNat) 0 0 0 h g) ?_ FU _ _ _ (by unfold FU; omega) ⟨rfl, by omega, by omega, ?_⟩
  rotate_left
  · refine ⟨fun a i hh => by rw [wq_ne (by omega), wq_ne (by omega), wq_ne (by omega), wq_ne (by omega)], ⟨fun i => ?_, fun i => ?_, fun i => ?_, fun i => ?_⟩, ?_, ?_, ?_, ?_, ?_, ?_, ?_⟩
    · rw [wr_ne (by omega), wr_ne (by omega), wr_ne (by omega), wr_row]
    · rw [wr_ne (by omega), wr_ne (by omega), wr_row, wr_ne (by omega)]
    · rw [wr_ne (by omega), wr_row, wr_ne (by omega), wr_ne (by omega)]
    · rw [wr_row, wr_ne (by omega), wr_ne (by omega), wr_ne (by omega)]
    all_goals
      rw [wr_ne (by omega), wr_ne (by omega), wr_ne (by omega), wr_ne (by omega)]
      exact Win_0 _ _ _
  rintro self44 l1 l2 g ih44 ⟨rfl, c0, c1, hS⟩
  unfold XX12_stores_b44
  by_cases q : 48 ≤ l2
  · rw [if_pos q]
    have e2 : l2.toNat = 48 := by omega
    rw [e2] at hS
    unfold XX12_stores_L147
    refine En_lup2 (fun _ l2 _ => (4 - l2).toNat) (fun l1 l2 g => (sl : Int) = l1 ∧ 0 ≤ l2 ∧ l2 ≤ 4 ∧ StoP sl 48 144 l2.toNat 0 0 h g) ?_ FU _ _ _ (by unfold FU; omega) ⟨rfl, by omega, by omega, hS⟩
    clear hS
    rintro self147 l1 l2 g ih147 ⟨rfl, c0, c1, hS⟩
    unfold XX12_stores_b147
    by_cases q : 4 ≤ l2
    · rw [if_pos q]
      have e2 : l2.toNat = 4 := by omega
      rw [e2] at hS
      unfold XX12_stores_L176
      refine En_lup2 (fun _ l2 _ => (2 - l2).toNat) (fun l1 l2 g => (sl : Int) = l1 ∧ 0 ≤ l2 ∧ l2 ≤ 2 ∧ StoP sl 48 144 4 l2.toNat 0 h g) ?_ FU _ _ _ (by unfold FU; omega) ⟨rfl, by omega, by omega, hS⟩
      clear hS
      rintro self176 l1 l2 g ih176 ⟨rfl, c0, c1, hS⟩
      unfold XX12_stores_b176
      by_cases q : 2 ≤ l2
      · rw [if_pos q]
        have e2 : l2.toNat = 2 := by omega
        rw [e2] at hS
        unfold XX12_stores_L205
        refine En_lup2 (fun _ l2 _ => (12 - l2).toNat) (fun l1 l2 g => (sl : Int) = l1 ∧ 0 ≤ l2 ∧ l2 ≤ 12 ∧ StoP sl 48 144 4 2 l2.toNat h g) ?_ FU _ _ _ (by unfold FU; omega) ⟨rfl, by omega, by omega, hS⟩
        clear hS
        rintro self205 l1 l2 g ih205 ⟨rfl, c0, c1, hS⟩
        unfold XX12_stores_b205
        by_cases q : 12 ≤ l2
        · rw [if_pos q]
          have e2 : l2.toNat = 12 := by omega
          rw [e2] at hS
          exact En_some hS
        · obtain ⟨s1, s2, s3, s4, s5, s6, s7, s8, s9⟩ := hS
          rw [if_neg q, chk_pos (by omega), chk_pos (by omega), inb_pos (by omega), inb_pos (by omega), zb_pos (by rw [s1 155 _ (by omega)]; exact hz _ (by omega)), hm_eq, chk_pos (by omega)]
          refine ih205 _ _ _ (by omega) ⟨rfl, by omega, by omega, fun a i hh => by rw [wq_ne (by omega)]; exact s1 a i hh, ⟨fun i => by rw [wr_ne (by omega)]; exact s2.1 i, fun i => by rw [wr_ne (by omega)]; exact s2.2.1 i, fun i => by rw [wr_ne (by omega)]; exact s2.2.2.1 i, fun i => by rw [wr_ne (by omega)]; exact s2.2.2.2 i⟩, Win_ne s3 (by omega), Win_ne s4 (by omega), Win_ne s5 (by omega), Win_ne s6 (by omega), Win_ne s7 (by omega), Win_ne s8 (by omega), ?_⟩
          rw [show (l2 + 1).toNat = l2.toNat + 1 by omega]
          exact Win_wr s9 (by omega) (s1 155 _ (by omega))
      · obtain ⟨s1, s2, s3, s4, s5, s6, s7, s8, s9⟩ := hS
        rw [if_neg q, chk_pos (by omega), chk_pos (by omega), inb_pos (by omega), inb_pos (by omega), hm_eq, chk_pos (by omega)]
        refine ih176 _ _ _ (by omega) ⟨rfl, by omega, by omega, fun a i hh => by rw [wq_ne (by omega)]; exact s1 a i hh, ⟨fun i => by rw [wr_ne (by omega)]; exact s2.1 i, fun i => by rw [wr_ne (by omega)]; exact s2.2.1 i, fun i => by rw [wr_ne (by omega)]; exact s2.2.2.1 i, fun i => by rw [wr_ne (by omega)]; exact s2.2.2.2 i⟩, Win_ne s3 (by omega), Win_ne s4 (by omega), Win_ne s5 (by omega), Win_ne s6 (by omega), Win_ne s7 (by omega), ?_, Win_ne s9 (by omega)⟩
        rw [show (l2 + 1).toNat = l2.toNat + 1 by omega]
        exact Win_wr s8 (by omega) (s1 148 _ (by omega))
    · obtain ⟨s1, s2, s3, s4, s5, s6, s7, s8, s9⟩ := hS
      rw [if_neg q, chk_pos (by omega), chk_pos (by omega), inb_pos (by omega), inb_pos (by omega), hm_eq, chk_pos (by omega)]
      refine ih147 _ _ _ (by omega) ⟨rfl, by omega, by omega, fun a i hh => by rw [wq_ne (by omega)]; exact s1 a i hh, ⟨fun i => by rw [wr_ne (by omega)]; exact s2.1 i, fun i => by rw [wr_ne (by omega)]; exact s2.2.1 i, fun i => by rw [wr_ne (by omega)]; exact s2.2.2.1 i, fun i => by rw [wr_ne (by omega)]; exact s2.2.2.2 i⟩, Win_ne s3 (by omega), Win_ne s4 (by omega), Win_ne s5 (by omega), Win_ne s6 (by omega), ?_, Win_ne s8 (by omega), Win_ne s9 (by omega)⟩
      rw [show (l2 + 1).toNat = l2.toNat + 1 by omega]
      exact Win_wr s7 (by omega) (s1 147 _ (by omega))
  · obtain ⟨s1, s2, s3, s4, s5, s6, s7, s8, s9⟩ := hS
    rw [if_neg q, chk_pos (by omega), chk_pos (by omega), inb_pos (by omega), inb_pos (by omega), hm_eq, chk_pos (by omega), chk_pos (by omega), inb_pos (by omega), inb_pos (by omega), hm_eq, chk_pos (by omega), chk_pos (by omega), inb_pos (by omega), inb_pos (by omega), hm_eq]
    rw [wr_ne (h := g) (a := 178) (b := 150) (by omega), wr_ne (h := wr g 178 _ _) (a := 182) (b := 151) (by omega), wr_ne (h := g) (a := 178) (b := 151) (by omega)]
    obtain ⟨w, rfl⟩ := Int.eq_ofNat_of_zero_le c0
    rw [show (48 * (sl : Int) + (w : Int)).toNat = 48 * sl + w by omega, Int.toNat_natCast, s1 145 _ (by omega), s1 150 _ (by omega), s1 151 _ (by omega)]
    rw [Int.toNat_natCast] at s3 s4 s5 s6
    unfold XX12_stores_L103
    refine En_lup3 (fun _ _ l3 _ => (3 - l3).toNat) (fun l1 l2 l3 g => (sl : Int) = l1 ∧ (w : Int) = l2 ∧ 0 ≤ l3 ∧ l3 ≤ 3 ∧ StoP sl (w + 1) (3 * w + l3.toNat) 0 0 0 h g) ?_ FU _ _ _ _ (by unfold FU; omega) ⟨rfl, rfl, by omega, by omega, ?_⟩
    rotate_left
    · refine ⟨fun a i hh => by rw [wq_ne (by omega), wq_ne (by omega), wq_ne (by omega)]; exact s1 a i hh, ⟨fun i => by rw [wr_ne (by omega), wr_ne (by omega), wr_ne (by omega)]; exact s2.1 i, fun i => by rw [wr_ne (by omega), wr_ne (by omega), wr_ne (by omega)]; exact s2.2.1 i, fun i => by rw [wr_ne (by omega), wr_ne (by omega), wr_ne (by omega)]; exact s2.2.2.1 i, fun i => by rw [wr_ne (by omega), wr_ne (by omega), wr_ne (by omega)]; exact s2.2.2.2 i⟩, ?_, ?_, ?_, ?_, ?_, ?_, ?_⟩
      · exact Win_ne (Win_ne (Win_wr s3 rfl rfl) (by omega)) (by omega)
      · exact Win_ne (Win_wr (Win_ne s4 (by omega)) rfl rfl) (by omega)
      · exact Win_wr (Win_ne (Win_ne s5 (by omega)) (by omega)) rfl rfl
      · exact Win_ne (Win_ne (Win_ne s6 (by omega)) (by omega)) (by omega)
      · exact Win_ne (Win_ne (Win_ne s7 (by omega)) (by omega)) (by omega)
      · exact Win_ne (Win_ne (Win_ne s8 (by omega)) (by omega)) (by omega)
      · exact Win_ne (Win_ne (Win_ne s9 (by omega)) (by omega)) (by omega)
    clear s1 s2 s3 s4 s5 s6 s7 s8 s9
    rintro self103 l1 l2 l3 g ih103 ⟨rfl, rfl, d0, d1, hS⟩
    unfold XX12_stores_b103
    by_cases q3 : 3 ≤ l3
    · rw [if_pos q3, chk_pos (by omega)]
      refine ih44 _ _ _ (by omega) ⟨rfl, by omega, by omega, ?_⟩
      rw [show ((w : Int) + 1).toNat = w + 1 by omega]
      rw [show 3 * w + l3.toNat = 3 * (w + 1) by omega] at hS
      exact hS
    · obtain ⟨s1, s2, s3, s4, s5, s6, s7, s8, s9⟩ := hS
      rw [if_neg q3, chk_pos (by omega), chk_pos (by omega), chk_pos (by omega), chk_pos (by omega), chk_pos (by omega), chk_pos (by omega), inb_pos (by omega), inb_pos (by omega), hm_eq, chk_pos (by omega)]
      refine ih103 _ _ _ _ (by omega) ⟨rfl, rfl, by omega, by omega, fun a i hh => by rw [wq_ne (by omega)]; exact s1 a i hh, ⟨fun i => by rw [wr_ne (by omega)]; exact s2.1 i, fun i => by rw [wr_ne (by omega)]; exact s2.2.1 i, fun i => by rw [wr_ne (by omega)]; exact s2.2.2.1 i, fun i => by rw [wr_ne (by omega)]; exact s2.2.2.2 i⟩, Win_ne s3 (by omega), Win_ne s4 (by omega), Win_ne s5 (by omega), ?_, Win_ne s7 (by omega), Win_ne s8 (by omega), Win_ne s9 (by omega)⟩
      rw [show 3 * w + (l3 + 1).toNat = (3 * w + l3.toNat) + 1 by omega]
      refine Win_wr s6 (by omega) ?_
      rw [s1 146 _ (by omega)]
      congr 1
      omega
/-- the model's OLD being brought from a slot -/
def BriP (sl w j o n : Nat) (nw : Int) (h g : Hp) : Prop :=
  (∀ a i, ¬ ((a = 144 ∧ i = 0) ∨ (145 ≤ a ∧ a ≤ 148) ∨ (150 ≤ a ∧ a ≤ 151) ∨ a = 157 ∨ (a = 143 ∧ i = 23)) → g a i = h a i) ∧ g 144 0 = h 177 sl ∧
  Win 0 w (fun i => h 178 (48 * sl + i)) (h 145) (g 145) ∧ Win 0 w (fun i => h 182 (48 * sl + i)) (h 150) (g 150) ∧ Win 0 w (fun i => h 183 (48 * sl + i)) (h 151) (g 151) ∧
  Win 0 w (fun i => if (i : Int) < nw then h 157 i else -1) (h 157) (g 157) ∧
  Win 0 j (fun i => h 179 (144 * sl + i)) (h 146) (g 146) ∧ Win 0 o (fun i => h 180 (4 * sl + i)) (h 147) (g 147) ∧ Win 0 n (fun i => h 181 (2 * sl + i)) (h 148) (g 148)
theorem brings_ok {sl : Nat} (hsl : sl < 10) {h : Hp} (hM : MN h) (hg : 0 ≤ h 177 sl ∧ h 177 sl ≤ 40) : En (XX12_brings sl h) (fun _ g => BriP sl 48 144 4 2 (sM h + h 177 sl) h g ∧ g 143 23 = 0) := by
  unfold XX12_brings
  rw [inb_pos (by omega), inb_pos (by omega), hm_eq, Int.toNat_natCast, show (0 : Int).toNat = 0 from rfl]
  unfold XX12_brings_L14
  have hMx : ∀ g : Hp, (∀ a i, ¬ ((a = 144 ∧ i = 0) ∨ (145 ≤ a ∧ a ≤ 148) ∨ (150 ≤ a ∧ a ≤ 151) ∨ a = 157 ∨ (a = 143 ∧ i = 23)) → g a i = h a i) → g 144 0 = h 177 sl → XX12_wires 0 g = some (sM h + h 177 sl, g) := by
    intro g f f0
    obtain ⟨h0, h1, h2, h3, h4, h5, h6, h7, h8, h9, h10⟩ := hM
    have hg' : MN g := by
      unfold MN
      rw [f 143 1 (by omega), f 143 2 (by omega), f 143 3 (by omega), f 144 1 (by omega), f0]
      exact ⟨h0, h1, h2, h3, h4, h5, h6, hg.1, hg.2, h9, h10⟩
    rw [wiresM_eq hg' (by omega)]
    unfold nM sM
    rw [f 143 1 (by omega), f 143 2 (by omega), show (0 : Int).toNat = 0 from rfl, f0]
  refine En_lup2 (fun _ l2 _ => (48 - l2).toNat) (fun l1 l2 g => (sl : Int) = l1 ∧ 0 ≤ l2 ∧ l2 ≤ 48 ∧ BriP sl l2.toNat (3 * l2.toNat) 0 0 (sM h + h 177 sl) h g) ?_ FU _ _ _ (by unfold FU; omega) ⟨rfl, by omega, by omega, ?_⟩
  rotate_left
  · refine ⟨fun a i hh => by rw [wq_ne (by omega)], wr_at, ?_, ?_, ?_, ?_, ?_, ?_, ?_⟩
    all_goals
      rw [wr_ne (by omega)]
      exact Win_0 _ _ _
  rintro self14 l1 l2 g ih14 ⟨rfl, c0, c1, hS⟩
  unfold XX12_brings_b14
  by_cases q : 48 ≤ l2
  · rw [if_pos q]
    have e2 : l2.toNat = 48 := by omega
    rw [e2] at hS
    unfold XX12_brings_L142
    refine En_lup2 (fun _ l2 _ => (4 - l2).toNat) (fun l1 l2 g => (sl : Int) = l1 ∧ 0 ≤ l2 ∧ l2 ≤ 4 ∧ BriP sl 48 144 l2.toNat 0 (sM h + h 177 sl) h g) ?_ FU _ _ _ (by unfold FU; omega) ⟨rfl, by omega, by omega, hS⟩
    clear hS
    rintro self142 l1 l2 g ih142 ⟨rfl, c0, c1, hS⟩
    unfold XX12_brings_b142
    by_cases q : 4 ≤ l2
    · rw [if_pos q]
      have e2 : l2.toNat = 4 := by omega
      rw [e2] at hS
      unfold XX12_brings_L171
      refine En_lup2 (fun _ l2 _ => (2 - l2).toNat) (fun l1 l2 g => (sl : Int) = l1 ∧ 0 ≤ l2 ∧ l2 ≤ 2 ∧ BriP sl 48 144 4 l2.toNat (sM h + h 177 sl) h g) ?_ FU _ _ _ (by unfold FU; omega) ⟨rfl, by omega, by omega, hS⟩
      clear hS
      rintro self171 l1 l2 g ih171 ⟨rfl, c0, c1, hS⟩
      unfold XX12_brings_b171
      obtain ⟨s1, s2, s3, s4, s5, s6, s7, s8, s9⟩ := hS
      by_cases q : 2 ≤ l2
      · rw [if_pos q, zb_0, hm_eq]
        have e2 : l2.toNat = 2 := by omega
        rw [e2] at s9
        exact En_some ⟨⟨fun a i hh => by rw [wq_ne (by omega)]; exact s1 a i hh, by rw [wq_ne (by omega)]; exact s2, Win_ne s3 (by omega), Win_ne s4 (by omega), Win_ne s5 (by omega), Win_ne s6 (by omega), Win_ne s7 (by omega), Win_ne s8 (by omega), Win_ne s9 (by omega)⟩, wr_at⟩
      · rw [if_neg q, chk_pos (by omega), chk_pos (by omega), inb_pos (by omega), inb_pos (by omega), hm_eq, chk_pos (by omega)]
        refine ih171 _ _ _ (by omega) ⟨rfl, by omega, by omega, fun a i hh => by rw [wq_ne (by omega)]; exact s1 a i hh, by rw [wq_ne (by omega)]; exact s2, Win_ne s3 (by omega), Win_ne s4 (by omega), Win_ne s5 (by omega), Win_ne s6 (by omega), Win_ne s7 (by omega), Win_ne s8 (by omega), ?_⟩
        rw [show (l2 + 1).toNat = l2.toNat + 1 by omega]
        refine Win_wr s9 (by omega) ?_
        rw [s1 181 _ (by omega)]
        congr 1; omega
    · obtain ⟨s1, s2, s3, s4, s5, s6, s7, s8, s9⟩ := hS
      rw [if_neg q, chk_pos (by omega), chk_pos (by omega), inb_pos (by omega), inb_pos (by omega), hm_eq, chk_pos (by omega)]
      refine ih142 _ _ _ (by omega) ⟨rfl, by omega, by omega, fun a i hh => by rw [wq_ne (by omega)]; exact s1 a i hh, by rw [wq_ne (by omega)]; exact s2, Win_ne s3 (by omega), Win_ne s4 (by omega), Win_ne s5 (by omega), Win_ne s6 (by omega), Win_ne s7 (by omega), ?_, Win_ne s9 (by omega)⟩
      rw [show (l2 + 1).toNat = l2.toNat + 1 by omega]
      refine Win_wr s8 (by omega) ?_
      rw [s1 180 _ (by omega)]
      congr 1; omega
  · obtain ⟨s1, s2, s3, s4, s5, s6, s7, s8, s9⟩ := hS
    rw [if_neg q, chk_pos (by omega), chk_pos (by omega), inb_pos (by omega), inb_pos (by omega), hm_eq, chk_pos (by omega), chk_pos (by omega), inb_pos (by omega), inb_pos (by omega), hm_eq, chk_pos (by omega), chk_pos (by omega), inb_pos (by omega), inb_pos (by omega), hm_eq]
    rw [wr_ne (h := g) (a := 145) (b := 182) (by omega), wr_ne (h := wr g 145 _ _) (a := 150) (b := 183) (by omega), wr_ne (h := g) (a := 145) (b := 183) (by omega)]
    obtain ⟨w, rfl⟩ := Int.eq_ofNat_of_zero_le c0
    rw [show (48 * (sl : Int) + (w : Int)).toNat = 48 * sl + w by omega, Int.toNat_natCast, s1 178 _ (by omega), s1 182 _ (by omega), s1 183 _ (by omega)]
    rw [Int.toNat_natCast] at s3 s4 s5 s6 s7
    have f3 : ∀ a i, ¬ ((a = 144 ∧ i = 0) ∨ (145 ≤ a ∧ a ≤ 148) ∨ (150 ≤ a ∧ a ≤ 151) ∨ a = 157 ∨ (a = 143 ∧ i = 23)) → wr (wr (wr g 145 w (h 178 (48 * sl + w))) 150 w (h 182 (48 * sl + w))) 151 w (h 183 (48 * sl + w)) a i = h a i := fun a i hh => by rw [wq_ne (by omega), wq_ne (by omega), wq_ne (by omega)]; exact s1 a i hh
    rw [hMx _ f3 (by rw [wq_ne (by omega), wq_ne (by omega), wq_ne (by omega)]; exact s2), cal_eq]
    have go : ∀ v : Int, v = (if (w : Int) < sM h + h 177 sl then h 157 w else -1) → En (XX12_brings_p95 self14 sl w w v (wr (wr (wr g 145 w (h 178 (48 * sl + w))) 150 w (h 182 (48 * sl + w))) 151 w (h 183 (48 * sl + w)))) (fun _ g => BriP sl 48 144 4 2 (sM h + h 177 sl) h g ∧ g 143 23 = 0) := by
      intro v hv
      unfold XX12_brings_p95
      rw [inb_pos (by omega), hm_eq, Int.toNat_natCast]
      unfold XX12_brings_L98
      refine En_lup3 (fun _ _ l3 _ => (3 - l3).toNat) (fun l1 l2 l3 g => (sl : Int) = l1 ∧ (w : Int) = l2 ∧ 0 ≤ l3 ∧ l3 ≤ 3 ∧ BriP sl (w + 1) (3 * w + l3.toNat) 0 0 (sM h + h 177 sl) h g) ?_ FU _ _ _ _ (by unfold FU; omega) ⟨rfl, rfl, by omega, by omega, ?_⟩
      rotate_left
      · refine ⟨fun a i hh => by rw [wq_ne (by omega)]; exact f3 a i hh, by rw [wq_ne (by omega), wq_ne (by omega), wq_ne (by omega), wq_ne (by omega)]; exact s2, ?_, ?_, ?_, ?_, ?_, ?_, ?_⟩
        · exact Win_ne (Win_ne (Win_ne (Win_wr s3 (by omega) rfl) (by omega)) (by omega)) (by omega)
        · exact Win_ne (Win_ne (Win_wr (Win_ne s4 (by omega)) (by omega) rfl) (by omega)) (by omega)
        · exact Win_ne (Win_wr (Win_ne (Win_ne s5 (by omega)) (by omega)) (by omega) rfl) (by omega)
        · exact Win_wr (Win_ne (Win_ne (Win_ne s6 (by omega)) (by omega)) (by omega)) (by omega) hv
        · exact Win_ne (Win_ne (Win_ne (Win_ne s7 (by omega)) (by omega)) (by omega)) (by omega)
        · exact Win_ne (Win_ne (Win_ne (Win_ne s8 (by omega)) (by omega)) (by omega)) (by omega)
        · exact Win_ne (Win_ne (Win_ne (Win_ne s9 (by omega)) (by omega)) (by omega)) (by omega)
      clear s1 s2 s3 s4 s5 s6 s7 s8 s9
      rintro self98 l1 l2 l3 g ih98 ⟨rfl, rfl, d0, d1, hS⟩
      unfold XX12_brings_b98
      by_cases q3 : 3 ≤ l3
      · rw [if_pos q3, chk_pos (by omega)]
        refine ih14 _ _ _ (by omega) ⟨rfl, by omega, by omega, ?_⟩
        rw [show ((w : Int) + 1).toNat = w + 1 by omega]
        rw [show 3 * w + l3.toNat = 3 * (w + 1) by omega] at hS
        exact hS
      · obtain ⟨s1, s2, s3, s4, s5, s6, s7, s8, s9⟩ := hS
        rw [if_neg q3, chk_pos (by omega), chk_pos (by omega), chk_pos (by omega), chk_pos (by omega), chk_pos (by omega), chk_pos (by omega), inb_pos (by omega), inb_pos (by omega), hm_eq, chk_pos (by omega)]
        refine ih98 _ _ _ _ (by omega) ⟨rfl, rfl, by omega, by omega, fun a i hh => by rw [wq_ne (by omega)]; exact s1 a i hh, by rw [wq_ne (by omega)]; exact s2, Win_ne s3 (by omega), Win_ne s4 (by omega), Win_ne s5 (by omega), Win_ne s6 (by omega), ?_, Win_ne s8 (by omega), Win_ne s9 (by omega)⟩
        rw [show 3 * w + (l3 + 1).toNat = (3 * w + l3.toNat) + 1 by omega]
        refine Win_wr s7 (by omega) ?_
        rw [s1 179 _ (by omega)]
        congr 1
        omega
    by_cases qw : sM h + h 177 sl ≤ (w : Int)
    · rw [if_pos qw]; exact go _ (by rw [if_neg (by omega)])
    · rw [if_neg qw, inb_pos (by omega)]
      refine go _ ?_
      rw [if_pos (by omega), wr_ne (by omega), wr_ne (by omega), wr_ne (by omega), Win_no s6 (by omega)]
