/-- the class's nets and the model's are alike -/
def RelN (h : Hp) : Prop :=
  (h 18 0 = h 143 1 ∧ h 18 1 = h 143 2 ∧ h 18 2 = h 143 3 ∧ h 18 3 = h 144 0) ∧ (h 28 0 = h 143 1 ∧ h 28 1 = h 143 2 ∧ h 28 2 = h 143 3 ∧ h 28 3 = h 144 1) ∧
  (∀ w, w < 48 → h 145 w = h 19 w) ∧ (∀ w, w < 48 → h 145 (48 + w) = h 29 w) ∧ (∀ j, j < 144 → h 146 j = h 20 j) ∧ (∀ j, j < 144 → h 146 (144 + j) = h 30 j) ∧
  (∀ k : Nat, (k : Int) < h 18 2 + h 18 1 → sn 0 k h = h 21 k ∧ sn 1 k h = h 31 k)
theorem Rel_s {h : Hp} (hR : RelN h) : sM h = sc 18 h ∧ sM h = sc 28 h ∧ nM 0 h = wn 18 h ∧ nM 1 h = wn 28 h := by
  obtain ⟨⟨a1, a2, a3, a4⟩, ⟨b1, b2, b3, b4⟩, _⟩ := hR
  unfold sM nM sc wn
  rw [a1, a2, a4, b1, b2, b4]
  exact ⟨rfl, rfl, rfl, rfl⟩
theorem kM0 {h : Hp} (hR : RelN h) : ∀ w, w < 48 → kM 0 h w = h 19 w := fun w hw => by
  show h 145 (48 * 0 + w) = _
  rw [Nat.mul_zero, Nat.zero_add]; exact hR.2.2.1 w hw
theorem kM1 {h : Hp} (hR : RelN h) : ∀ w, w < 48 → kM 1 h w = h 29 w := fun w hw => hR.2.2.2.1 w hw
theorem pM0 {h : Hp} (hR : RelN h) : ∀ w, w < 144 → pM 0 h w = h 20 w := fun w hw => by
  show h 146 (144 * 0 + w) = _
  rw [Nat.mul_zero, Nat.zero_add]; exact hR.2.2.2.2.1 w hw
theorem pM1 {h : Hp} (hR : RelN h) : ∀ w, w < 144 → pM 1 h w = h 30 w := fun w hw => hR.2.2.2.2.2.1 w hw
theorem Rel_MS {h : Hp} (hR : RelN h) (h0 : Pl 40 18 h) (h1 : Pl 24 28 h) : MS h := by
  obtain ⟨r1, r2, r3, r4⟩ := Rel_s hR
  have l0 := Pl_lt (by decide) h0.1
  have l1 := Pl_lt (by decide) h1.1
  refine ⟨⟨?_, ?_⟩, ?_⟩
  · obtain ⟨⟨a1, a2, a3, a4⟩, ⟨b1, b2, b3, b4⟩, _⟩ := hR
    obtain ⟨x0, x1, x2, x3, x4, x5, x6, x7, x8⟩ := h0.1
    obtain ⟨y0, y1, y2, y3, y4, y5, y6, y7, y8⟩ := h1.1
    unfold MN
    omega
  · intro e he
    have : e = 0 ∨ e = 1 := by omega
    rcases this with rfl | rfl
    · rw [r1, r3]
      exact ⟨PinOK_congr l0.2.2.1 (kM0 hR) (pM0 hR) h0.2.1, Acy_congr l0.2.2.1 (kM0 hR) (pM0 hR) h0.2.2.1⟩
    · rw [r2, r4]
      exact ⟨PinOK_congr l1.2.2.1 (kM1 hR) (pM1 hR) h1.2.1, Acy_congr l1.2.2.1 (kM1 hR) (pM1 hR) h1.2.2.1⟩
  · intro e he k hk
    have hk2 : (k : Int) < h 18 2 + h 18 1 := by have := hR.1; omega
    have hk3 : (k : Int) < h 28 2 + h 28 1 := by have := hR.1; have := hR.2.1; omega
    have := hR.2.2.2.2.2.2 k hk2
    have : e = 0 ∨ e = 1 := by omega
    rcases this with rfl | rfl
    · rw [(hR.2.2.2.2.2.2 k hk2).1, r3]; exact h0.2.2.2.1 k hk2
    · rw [(hR.2.2.2.2.2.2 k hk2).2, r4]; exact h1.2.2.2.1 k hk3
theorem mdM_mdW {h : Hp} (hR : RelN h) (h0 : Pl 40 18 h) (h1 : Pl 24 28 h) (fc : Nat → Option Int) (part : Int) : mdM h fc part = mdW h fc part := by
  obtain ⟨r1, r2, r3, r4⟩ := Rel_s hR
  have l0 := Pl_lt (by decide) h0.1
  have l1 := Pl_lt (by decide) h1.1
  unfold mdM mdW
  have e : h 143 3 + h 143 2 = h 18 2 + h 18 1 := by have := hR.1; omega
  rw [e]
  refine smF_congr (fun k hk => ?_)
  have hs := hR.2.2.2.2.2.2 k (by omega)
  rw [hs.1, hs.2]
  constructor
  · rw [r1, r3, solW_congr (l0.2.2.1) (kM0 hR) (pM0 hR)]; rfl
  · rw [r2, r4, solW_congr (l1.2.2.1) (kM1 hR) (pM1 hR)]; rfl
theorem RelN_congr {h h1 : Hp} (e : ∀ a i, ((18 ≤ a ∧ a ≤ 21) ∨ (28 ≤ a ∧ a ≤ 31) ∨ (144 ≤ a ∧ a ≤ 148) ∨ (a = 143 ∧ 1 ≤ i ∧ i ≤ 3)) → h1 a i = h a i) (hR : RelN h) : RelN h1 := by
  have e' : ∀ a, ((18 ≤ a ∧ a ≤ 21) ∨ (28 ≤ a ∧ a ≤ 31) ∨ (144 ≤ a ∧ a ≤ 148)) → h1 a = h a := fun a ha => funext (fun i => e a i (by omega))
  unfold RelN
  rw [e' 18 (by omega), e' 19 (by omega), e' 20 (by omega), e' 21 (by omega), e' 28 (by omega), e' 29 (by omega), e' 30 (by omega), e' 31 (by omega), e' 144 (by omega), e' 145 (by omega), e' 146 (by omega), e 143 1 (by omega), e 143 2 (by omega), e 143 3 (by omega)]
  obtain ⟨a1, a2, a3, a4, a5, a6, a7⟩ := hR
  refine ⟨a1, a2, a3, a4, a5, a6, fun k hk => ?_⟩
  rw [sn_congr (e 143 3 (by omega)) (e' 147 (by omega)) (e' 148 (by omega)), sn_congr (e 143 3 (by omega)) (e' 147 (by omega)) (e' 148 (by omega))]
  exact a7 k hk
theorem isAt_eq (h : Hp) {e : Int} (he : 0 ≤ e ∧ e < 2) {w c : Nat} (hw : w < 48) (hc : c < 256) : XX12_isAt e w c h = some (if tb (vM e (c / 64) h w) (c % 64) = true then 1 else 0, h) := by
  unfold XX12_isAt vM
  have ed : (c : Int).tdiv 64 = ((c / 64 : Nat) : Int) := rfl
  rw [ed, chk_pos (by omega), chk_pos (by omega), chk_pos (by omega), chk_pos (by omega), chk_pos (by omega), inb_pos (by omega), chk_pos (by omega), show (c : Int) - ((c / 64 : Nat) : Int) * 64 = ((c % 64 : Nat) : Int) by omega, show (4 * (48 * e + (w : Int)) + ((c / 64 : Nat) : Int)).toNat = 4 * (48 * e.toNat + w) + c / 64 by omega]
  generalize h 188 (4 * (48 * e.toNat + w) + c / 64) = x
  by_cases qb : tb x (c % 64) = true
  · rw [if_pos ((jbit1 _ (by omega) (by omega)).2 (by rw [Int.toNat_natCast]; exact qb)), if_pos qb, zb_1]
  · rw [if_neg (fun hh => qb (by have := (jbit1 x (k := ((c % 64 : Nat) : Int)) (by omega) (by omega)).1 hh; rw [Int.toNat_natCast] at this; exact this)), if_neg qb, zb_0]
/-- what the model knows of a net -/
def Vals (e : Int) (h : Hp) : Prop := ∀ part : Nat, part < 4 → WEq (sM h) (nM e h) (kM e h) (pM e h) part noF (vM e part h)
theorem Vals_0 {h : Hp} (hR : RelN h) (h0 : Pl 40 18 h) (hV : Vals 0 h) {part w : Nat} (hp : part < 4) (hw : (w : Int) < wn 18 h) : vM 0 part h w = fOl h noF part w := by
  obtain ⟨r1, r2, r3, r4⟩ := Rel_s hR
  have l0 := Pl_lt (by decide) h0.1
  have := hV part hp
  rw [r1, r3, WEq_congr l0.2.2.1 (kM0 hR) (pM0 hR)] at this
  exact solW_eq h0.2.1 h0.2.2.1 this w hw
theorem Vals_1 {h : Hp} (hR : RelN h) (h1 : Pl 24 28 h) (hV : Vals 1 h) {part w : Nat} (hp : part < 4) (hw : (w : Int) < wn 28 h) : vM 1 part h w = fWi h part w := by
  obtain ⟨r1, r2, r3, r4⟩ := Rel_s hR
  have l0 := Pl_lt (by decide) h1.1
  have := hV part hp
  rw [r2, r4, WEq_congr l0.2.2.1 (kM1 hR) (pM1 hR)] at this
  exact solW_eq h1.2.1 h1.2.2.1 this w hw
theorem areOne_ok {h : Hp} (hR : RelN h) (h0 : Pl 40 18 h) (h1 : Pl 24 28 h) (hV0 : Vals 0 h) (hV1 : Vals 1 h) {c : Nat} (hc : c < 256) : En (XX12_areOne c h) (fun r h2 => h2 = h ∧ ((r = 1 ∧ Agr h c) ∨ (r = 0 ∧ ¬ Agr h c))) := by
  have hMS := Rel_MS hR h0 h1
  obtain ⟨r1, r2, r3, r4⟩ := Rel_s hR
  have l0 := Pl_lt (by decide) h0.1
  have l1 := Pl_lt (by decide) h1.1
  have e : h 143 3 + h 143 2 = h 18 2 + h 18 1 := by have := hR.1; omega
  have hn6 : 1 ≤ h 18 2 + h 18 1 ∧ h 18 2 + h 18 1 ≤ 6 := by obtain ⟨_, n1, n2, _, _, n5, n6, _, _⟩ := h0.1; omega
  have hag : ∀ r : Int, ((r = 1 ∧ ∀ k : Nat, (k : Int) < h 18 2 + h 18 1 → tb (fOl h noF ((c / 64 : Nat) : Int) (h 21 k).toNat) (c % 64) = tb (fWi h ((c / 64 : Nat) : Int) (h 31 k).toNat) (c % 64)) ∨ (r = 0 ∧ ∃ k : Nat, (k : Int) < h 18 2 + h 18 1 ∧ tb (fOl h noF ((c / 64 : Nat) : Int) (h 21 k).toNat) (c % 64) ≠ tb (fWi h ((c / 64 : Nat) : Int) (h 31 k).toNat) (c % 64))) → ((r = 1 ∧ Agr h c) ∨ (r = 0 ∧ ¬ Agr h c)) := by
    intro r hh
    unfold Agr mdW
    rw [tb_smF (by omega)]
    rcases hh with ⟨a, b⟩ | ⟨a, k, hk, b⟩
    · exact Or.inl ⟨a, fun k hk => b k (by omega)⟩
    · exact Or.inr ⟨a, fun hh => b (hh k (by omega))⟩
  unfold XX12_areOne XX12_areOne_L4
  refine En_lup3 (fun _ _ l3 _ => (6 - l3).toNat) (fun l1 l2 l3 h2 => (c : Int) = l1 ∧ h = h2 ∧ 0 ≤ l3 ∧ l3 ≤ h 18 2 + h 18 1 ∧ ((l2 = 1 ∧ ∀ k : Nat, (k : Int) < l3 → tb (fOl h noF ((c / 64 : Nat) : Int) (h 21 k).toNat) (c % 64) = tb (fWi h ((c / 64 : Nat) : Int) (h 31 k).toNat) (c % 64)) ∨ (l2 = 0 ∧ ∃ k : Nat, (k : Int) < h 18 2 + h 18 1 ∧ tb (fOl h noF ((c / 64 : Nat) : Int) (h 21 k).toNat) (c % 64) ≠ tb (fWi h ((c / 64 : Nat) : Int) (h 31 k).toNat) (c % 64)))) ?_ FU _ _ _ _ (by unfold FU; omega) ⟨rfl, rfl, by omega, by omega, Or.inl ⟨rfl, fun k hk => by omega⟩⟩
  rintro self l1 l2 l3 h2 ih ⟨rfl, rfl, c0, c1, c2⟩
  unfold XX12_areOne_b4
  rw [observed_eq hMS.1.1, cal_eq, e]
  by_cases q : h 18 2 + h 18 1 ≤ l3
  · rw [if_pos q, zb_pos (by rcases c2 with ⟨a, _⟩ | ⟨a, _⟩; exact Or.inr a; exact Or.inl a)]
    refine En_some ⟨rfl, hag _ ?_⟩
    rcases c2 with ⟨a, b⟩ | b
    · exact Or.inl ⟨a, fun k hk => b k (by omega)⟩
    · exact Or.inr b
  rw [if_neg q]
  obtain ⟨k, rfl⟩ := Int.eq_ofNat_of_zero_le c0
  by_cases q2 : l2 = 0
  · rw [if_pos q2]
    unfold XX12_areOne_p47 XX12_areOne_p48
    rw [chk_pos (by omega)]
    refine ih _ _ _ _ (by omega) ⟨rfl, rfl, by omega, by omega, ?_⟩
    rcases c2 with ⟨a, b⟩ | b
    · exact absurd q2 (by rw [a]; decide)
    · exact Or.inr ⟨rfl, b.2⟩
  · rw [if_neg q2]
    have c2 : l2 = 1 ∧ ∀ k2 : Nat, (k2 : Int) < k → tb (fOl h noF ((c / 64 : Nat) : Int) (h 21 k2).toNat) (c % 64) = tb (fWi h ((c / 64 : Nat) : Int) (h 31 k2).toNat) (c % 64) := by
      rcases c2 with a | ⟨a, _⟩
      · exact a
      · exact absurd a q2
    have hs := hR.2.2.2.2.2.2 k (by omega)
    have t0 := h0.2.2.2.1 k (by omega)
    have t1 := h1.2.2.2.1 k (by have := hR.1; have := hR.2.1; omega)
    obtain ⟨w0, hw0⟩ := Int.eq_ofNat_of_zero_le t0.1
    obtain ⟨w1, hw1⟩ := Int.eq_ofNat_of_zero_le t1.1
    have hw0 : h 21 k = (w0 : Int) := hw0
    have hw1 : h 31 k = (w1 : Int) := hw1
    have t0 : h 21 k < wn 18 h := t0.2
    have t1 : h 31 k < wn 28 h := t1.2
    rw [seen_eq hMS.1.1 (by omega) (by omega), cal_eq, hs.1, hw0, isAt_eq h (by omega) (by omega) hc, cal_eq, seen_eq hMS.1.1 (by omega) (by omega), cal_eq, hs.2, hw1, isAt_eq h (by omega) (by omega) hc, cal_eq, Vals_0 hR h0 hV0 (by omega) (by omega), Vals_1 hR h1 hV1 (by omega) (by omega)]
    by_cases qe : tb (fOl h noF ((c / 64 : Nat) : Int) w0) (c % 64) = tb (fWi h ((c / 64 : Nat) : Int) w1) (c % 64)
    · rw [if_pos (by rw [qe])]
      unfold XX12_areOne_p48
      rw [chk_pos (by omega)]
      refine ih _ _ _ _ (by omega) ⟨rfl, rfl, by omega, by omega, Or.inl ⟨rfl, fun k2 hk2 => ?_⟩⟩
      by_cases qk : k2 = k
      · rw [qk, hw0, hw1]; exact qe
      · exact c2.2 k2 (by omega)
    · rw [if_neg (by revert qe; cases tb (fOl h noF ((c / 64 : Nat) : Int) w0) (c % 64) <;> cases tb (fWi h ((c / 64 : Nat) : Int) w1) (c % 64) <;> simp)]
      unfold XX12_areOne_p47 XX12_areOne_p48
      rw [chk_pos (by omega)]
      exact ih _ _ _ _ (by omega) ⟨rfl, rfl, by omega, by omega, Or.inr ⟨rfl, k, by omega, by rw [hw0, hw1]; exact qe⟩⟩
theorem Vals_congr {h h1 : Hp} {e : Int} (e1 : h1 143 1 = h 143 1) (e2 : h1 143 2 = h 143 2) (e4 : h1 144 = h 144) (e5 : h1 145 = h 145) (e6 : h1 146 = h 146) (hv : ∀ part : Nat, part < 4 → WEq (sM h) (nM e h) (kM e h) (pM e h) part noF (vM e part h1)) : Vals e h1 := by
  intro part hp
  rw [sM_congr e1 e2, nM_congr e1 e2 e4, kM_congr e5, pM_congr e6]
  exact hv part hp
/-- both of the model's nets are known -/
theorem differ_ok {h : Hp} (hR : RelN h) (h0 : Pl 40 18 h) (h1 : Pl 24 28 h) : En (XX12_differ h) (fun r h2 => Lst (2 ^ (sM h).toNat) (fun c => h 149 c = 0 ∧ ¬ Agr h c) r) := by
  have hMS := Rel_MS hR h0 h1
  have hMO := hMS.1
  obtain ⟨b0, b1, _⟩ := MN_lt hMO.1 (e := 0) (by omega)
  unfold XX12_differ
  refine En_cal (knows_ok hMO.1 (e := 0) (by omega) (hMO.2 0 (by omega)).1 (hMO.2 0 (by omega)).2) (fun r2 h2 e2 hk2 => ?_)
  have f2 := fr_XX12_knows e2
  have g2 : ∀ a i, ((18 ≤ a ∧ a ≤ 22) ∨ (28 ≤ a ∧ a ≤ 32) ∨ (144 ≤ a ∧ a ≤ 149) ∨ (a = 143 ∧ 1 ≤ i ∧ i ≤ 3)) → h2 a i = h a i := fun a i hh => f2 a i (by omega)
  have hM2 := MO_congr (g2 143 1 (by omega)) (g2 143 2 (by omega)) (g2 143 3 (by omega)) (funext (fun i => g2 144 i (by omega))) (funext (fun i => g2 145 i (by omega))) (funext (fun i => g2 146 i (by omega))) hMO
  refine En_cal (knows_ok hM2.1 (e := 1) (by omega) (hM2.2 1 (by omega)).1 (hM2.2 1 (by omega)).2) (fun r3 h3 e3 hk3 => ?_)
  have f3 := fr_XX12_knows e3
  have g3 : ∀ a i, ((18 ≤ a ∧ a ≤ 22) ∨ (28 ≤ a ∧ a ≤ 32) ∨ (144 ≤ a ∧ a ≤ 149) ∨ (a = 143 ∧ 1 ≤ i ∧ i ≤ 3)) → h3 a i = h a i := fun a i hh => by rw [f3 a i (by omega)]; exact g2 a i hh
  have x18 : h3 18 = h 18 := funext (fun i => g3 18 i (by omega))
  have x28 : h3 28 = h 28 := funext (fun i => g3 28 i (by omega))
  have P0 : Pl 40 18 h3 := by
    unfold Pl at h0 ⊢
    rw [sc_congr x18, wn_congr x18, x18, show h3 (18 + 1) = h (18 + 1) from funext (fun i => g3 _ i (by omega)), show h3 (18 + 2) = h (18 + 2) from funext (fun i => g3 _ i (by omega)), show h3 (18 + 3) = h (18 + 3) from funext (fun i => g3 _ i (by omega)), show h3 (18 + 4) = h (18 + 4) from funext (fun i => g3 _ i (by omega))]
    exact ⟨Nums_congr x18 h0.1, h0.2⟩
  have P1 : Pl 24 28 h3 := by
    unfold Pl at h1 ⊢
    rw [sc_congr x28, wn_congr x28, x28, show h3 (28 + 1) = h (28 + 1) from funext (fun i => g3 _ i (by omega)), show h3 (28 + 2) = h (28 + 2) from funext (fun i => g3 _ i (by omega)), show h3 (28 + 3) = h (28 + 3) from funext (fun i => g3 _ i (by omega)), show h3 (28 + 4) = h (28 + 4) from funext (fun i => g3 _ i (by omega))]
    exact ⟨Nums_congr x28 h1.1, h1.2⟩
  have hR3 : RelN h3 := RelN_congr (fun a i hh => g3 a i (by omega)) hR
  have w1 : h3 143 1 = h2 143 1 := f3 143 1 (by omega)
  have w2 : h3 143 2 = h2 143 2 := f3 143 2 (by omega)
  have w4 : h3 144 = h2 144 := funext (fun i => f3 144 i (by omega))
  have w5 : h3 145 = h2 145 := funext (fun i => f3 145 i (by omega))
  have w6 : h3 146 = h2 146 := funext (fun i => f3 146 i (by omega))
  have V1 : Vals 1 h3 := Vals_congr w1 w2 w4 w5 w6 hk3.1
  have V0 : Vals 0 h3 := by
    have l2 := MN_lt hM2.1 (e := 0) (by omega)
    refine Vals_congr (h := h2) w1 w2 w4 w5 w6 (fun part hp => ?_)
    refine WEq_agree (hM2.2 0 (by omega)).1 (by omega) (fun w hw => ?_) (W := vM 0 part h2) ?_
    · show h3 188 _ = h2 188 _
      exact hk3.2 _ (by simp; omega)
    · have := hk2.1 part hp
      rw [sM_congr (g2 143 1 (by omega)) (g2 143 2 (by omega)), nM_congr (g2 143 1 (by omega)) (g2 143 2 (by omega)) (funext (fun i => g2 144 i (by omega))), kM_congr (funext (fun i => g2 145 i (by omega))), pM_congr (funext (fun i => g2 146 i (by omega)))]
      exact this
  have hMN3 := (Rel_MS hR3 P0 P1).1.1
  have sM3 : sM h3 = sM h := sM_congr (g3 143 1 (by omega)) (g3 143 2 (by omega))
  have hAg : Agr h3 = Agr h := by
    funext c; unfold Agr; rw [mdW_congr (fun a i hh => g3 a i (by omega))]
  have hash : ashl 1 (sM h) = 2 ^ (sM h).toNat := ashl1 (by omega) (by omega)
  have hpl := pow_list b0 b1
  have hpn : ((2 ^ (sM h).toNat : Nat) : Int) = (2 : Int) ^ (sM h).toNat := by rw [Int.natCast_pow]; rfl
  unfold XX12_differ_L12
  refine En_lup1 (fun l1 _ => (256 - l1).toNat) (fun l1 h4 => h3 = h4 ∧ 0 ≤ l1 ∧ l1 ≤ 2 ^ (sM h).toNat ∧ ∀ c : Nat, (c : Int) < l1 → ¬ (h 149 c = 0 ∧ ¬ Agr h c)) ?_ FU _ _ (by unfold FU; omega) ⟨rfl, by omega, by omega, fun c hc => by omega⟩
  rintro self l1 h4 ih ⟨rfl, c0, c1, c2⟩
  unfold XX12_differ_b12
  rw [cases_eq hMN3, cal_eq, sM3, hash]
  by_cases q : (2 : Int) ^ (sM h).toNat ≤ l1
  · rw [if_pos q]; exact En_some (Or.inl ⟨rfl, fun c hc => c2 c (by omega)⟩)
  rw [if_neg q, inb_pos (by omega)]
  obtain ⟨c, rfl⟩ := Int.eq_ofNat_of_zero_le c0
  rw [Int.toNat_natCast, g3 149 c (by omega)]
  have nx : ¬ (h 149 c = 0 ∧ ¬ Agr h c) → En (XX12_differ_p39 self c h3) (fun r h2 => Lst (2 ^ (sM h).toNat) (fun c => h 149 c = 0 ∧ ¬ Agr h c) r) := by
    intro hno
    unfold XX12_differ_p39
    rw [chk_pos (by omega)]
    refine ih _ _ (by omega) ⟨rfl, by omega, by omega, fun d hd => ?_⟩
    by_cases qd : d = c
    · rw [qd]; exact hno
    · exact c2 d (by omega)
  by_cases qf : h 149 c = 0
  · rw [if_pos qf]
    refine En_cal (areOne_ok hR3 P0 P1 V0 V1 (c := c) (by omega)) (fun r h5 _ hr => ?_)
    obtain ⟨rfl, hr⟩ := hr
    rw [hAg] at hr
    rcases hr with ⟨rfl, hr⟩ | ⟨rfl, hr⟩
    · rw [if_neg (by decide)]
      exact nx (fun hh => hh.2 hr)
    · rw [if_pos rfl]
      exact En_some (Or.inr ⟨c, by omega, rfl, ⟨qf, hr⟩, fun d hd => c2 d (by omega)⟩)
  · rw [if_neg qf]
    exact nx (fun hh => qf hh.1)
