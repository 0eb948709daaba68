theorem WEq_agree {s n : Int} {kd pn : Nat → Int} {part : Int} {fc : Nat → Option Int} {W W2 : Nat → Int} (hP : PinOK s n kd pn) (hsn : s ≤ n) (e : ∀ w : Nat, (w : Int) < n → W2 w = W w) (h : WEq s n kd pn part fc W) : WEq s n kd pn part fc W2 := by
  refine ⟨fun w hw => by rw [e w (by omega)]; exact h.1 w hw, fun w h1 h2 => ?_⟩
  rw [e w h2, h.2 w h1 h2]
  refine Loc_f fc kd pn _ _ w (fun k hk => ?_)
  have hb := pinC_b (kd w).toNat
  have := ((hP w h1 h2).2 k (by omega)).1 hk
  rw [e _ (by omega)]
theorem kM_congr {h h1 : Hp} (e1 : h1 145 = h 145) (e : Int) : kM e h1 = kM e h := by unfold kM; rw [e1]
theorem pM_congr {h h1 : Hp} (e1 : h1 146 = h 146) (e : Int) : pM e h1 = pM e h := by unfold pM; rw [e1]
theorem begins_ok {h : Hp} (hM : MN h) {e : Int} (he : 0 ≤ e ∧ e < 2) (hP : PinOK (sM h) (nM e h) (kM e h) (pM e h)) (hA : Acy (sM h) (nM e h) (kM e h) (pM e h)) :
    En (XX12_begins e h) (fun _ h1 => Ord (sM h) (nM e h) (kM e h) (pM e h) (fun i => h1 186 (40 * e.toNat + i)) ∧ (∀ w : Nat, (w : Int) < sM h → ∀ part : Nat, part < 4 → vM e part h1 w = srcW w part) ∧ ∀ j, ¬ (192 * e.toNat ≤ j ∧ j < 192 * e.toNat + 192) → h1 188 j = h 188 j) := by
  obtain ⟨b0, b1, b2, b3, b4, b5⟩ := MN_lt hM he
  unfold XX12_begins
  refine En_cal (sorts_ok hM he hP hA) (fun r0 h0 e0 hO => ?_)
  have f0 := fr_XX12_sorts e0
  have x0 : ∀ a, a ≠ 186 → a ≠ 187 → h0 a = h a := fun a h1 h2 => funext (fun i => f0 a i (by omega))
  unfold XX12_begins_L7
  have mnx : ∀ h1, Eqx 188 h0 h1 → XX12_begun h1 = some (sM h, h1) := by
    intro h1 e1
    have c1 : h1 143 = h 143 := (e1 _ (by omega)).trans (x0 _ (by omega) (by omega))
    have c2 : h1 144 = h 144 := (e1 _ (by omega)).trans (x0 _ (by omega) (by omega))
    have hM1 := MN_congr (by rw [c1]) (by rw [c1]) (by rw [c1]) c2 hM
    rw [begun_eq hM1, sM_congr (by rw [c1]) (by rw [c1])]
  have h188 : h0 188 = h 188 := x0 _ (by omega) (by omega)
  generalize hs : sM h = s at *
  generalize hn : nM e h = n at *
  refine En_lup2 (fun _ l2 _ => (s - l2).toNat) (fun l1 l2 h1 => e = l1 ∧ 0 ≤ l2 ∧ l2 ≤ s ∧ Eqx 188 h0 h1 ∧ (∀ w : Nat, (w : Int) < l2 → ∀ part : Nat, part < 4 → vM e part h1 w = srcW w part) ∧ ∀ j, ¬ (192 * e.toNat ≤ j ∧ j < 192 * e.toNat + 192) → h1 188 j = h 188 j) ?_ FU _ _ _ (by unfold FU; omega) ⟨rfl, by omega, by omega, Eqx_refl _ _, fun w hw => by omega, fun j _ => by rw [h188]⟩
  rintro self7 l1 l2 h1 ih7 ⟨rfl, c0, c1, e1, c2, c3⟩
  unfold XX12_begins_b7
  rw [mnx h1 e1, cal_eq]
  by_cases q : s ≤ l2
  · rw [if_pos q]
    refine En_some ⟨?_, fun w hw => c2 w (by omega), c3⟩
    rw [e1 186 (by omega)]; exact hO
  rw [if_neg q]
  obtain ⟨w0, rfl⟩ := Int.eq_ofNat_of_zero_le c0
  unfold XX12_begins_L17
  refine En_lup3 (fun _ _ l3 _ => (4 - l3).toNat) (fun l1 l2 l3 h2 => e = l1 ∧ (w0 : Int) = l2 ∧ 0 ≤ l3 ∧ l3 ≤ 4 ∧ Eqx 188 h0 h2 ∧ (∀ w : Nat, (w : Int) < w0 → ∀ part : Nat, part < 4 → vM e part h2 w = srcW w part) ∧ (∀ part : Nat, (part : Int) < l3 → vM e part h2 w0 = srcW w0 part) ∧ ∀ j, ¬ (192 * e.toNat ≤ j ∧ j < 192 * e.toNat + 192) → h2 188 j = h 188 j) ?_ FU _ _ _ _ (by unfold FU; omega) ⟨rfl, rfl, by omega, by omega, e1, c2, fun part hp => by omega, c3⟩
  rintro self17 l1 l2 l3 h2 ih17 ⟨rfl, rfl, d0, d1, e2, d2, d3, d4⟩
  unfold XX12_begins_b17
  by_cases q4 : 4 ≤ l3
  · rw [if_pos q4, chk_pos (by omega)]
    refine ih7 _ _ _ (by omega) ⟨rfl, by omega, by omega, e2, fun w hw part hp => ?_, d4⟩
    by_cases qw : w = w0
    · rw [qw]; exact d3 part (by omega)
    · exact d2 w (by omega) part hp
  rw [if_neg q4, chk_pos (by omega), chk_pos (by omega), chk_pos (by omega), chk_pos (by omega)]
  obtain ⟨pt, rfl⟩ := Int.eq_ofNat_of_zero_le d0
  rw [inputWord_eq (by omega) (by omega), cal_eq, inb_pos (by omega), hm_eq, chk_pos (by omega), show (4 * (48 * e + (w0 : Int)) + (pt : Int)).toNat = 4 * (48 * e.toNat + w0) + pt by omega]
  refine ih17 _ _ _ _ (by omega) ⟨rfl, rfl, by omega, by omega, Eqx_wr e2 _ _, fun w hw part hp => ?_, fun part hp => ?_, fun j hj => ?_⟩
  · show wr h2 188 _ _ 188 _ = _
    rw [wr_o (by omega)]; exact d2 w hw part hp
  · show wr h2 188 _ _ 188 _ = _
    by_cases qp : part = pt
    · rw [qp, wr_at]
    · rw [wr_o (by omega)]; exact d3 part (by omega)
  · rw [wr_o (by omega)]; exact d4 j hj
theorem fcM_none {h : Hp} (hz : h 143 63 = 0) (e : Int) : fcM e h = noF := by
  unfold fcM
  split
  · rw [hz]; rfl
  · rfl
theorem knows_ok {h : Hp} (hM : MN h) {e : Int} (he : 0 ≤ e ∧ e < 2) (hP : PinOK (sM h) (nM e h) (kM e h) (pM e h)) (hA : Acy (sM h) (nM e h) (kM e h) (pM e h)) :
    En (XX12_knows e h) (fun _ h1 => (∀ part : Nat, part < 4 → WEq (sM h) (nM e h) (kM e h) (pM e h) part noF (vM e part h1)) ∧ (∀ j, ¬ (192 * e.toNat ≤ j ∧ j < 192 * e.toNat + 192) → h1 188 j = h 188 j)) := by
  unfold XX12_knows
  rw [hm_eq]
  have y : ∀ a i, ¬ (a = 143 ∧ i = 63) → wr h 143 63 0 a i = h a i := fun a i hh => wq_ne hh
  have y1 := y 143 1 (by omega)
  have y2 := y 143 2 (by omega)
  have y3 := y 143 3 (by omega)
  have y4 : wr h 143 63 0 144 = h 144 := wr_ne (by omega)
  have y5 : wr h 143 63 0 145 = h 145 := wr_ne (by omega)
  have y6 : wr h 143 63 0 146 = h 146 := wr_ne (by omega)
  have y8 : wr h 143 63 0 188 = h 188 := wr_ne (by omega)
  have hM1 := MN_congr y1 y2 y3 y4 hM
  have s1 := sM_congr y1 y2
  have n1 := nM_congr y1 y2 y4 e
  have k1 := kM_congr y5 e
  have p1 := pM_congr y6 e
  refine En_cal (begins_ok hM1 he (by rw [s1, n1, k1, p1]; exact hP) (by rw [s1, n1, k1, p1]; exact hA)) (fun r2 h2 e2 hb => ?_)
  have f2 := fr_XX12_begins e2
  obtain ⟨hO, hS, hR⟩ := hb
  have z1 : h2 143 = wr h 143 63 0 143 := funext (fun i => f2 143 i (by omega))
  have z4 : h2 144 = h 144 := by rw [← y4]; exact funext (fun i => f2 144 i (by omega))
  have z5 : h2 145 = h 145 := by rw [← y5]; exact funext (fun i => f2 145 i (by omega))
  have z6 : h2 146 = h 146 := by rw [← y6]; exact funext (fun i => f2 146 i (by omega))
  have hM2 := MN_congr (h := h) (by rw [z1, y1]) (by rw [z1, y2]) (by rw [z1, y3]) z4 hM
  have s2 := sM_congr (h := h) (h1 := h2) (by rw [z1, y1]) (by rw [z1, y2])
  have n2 := nM_congr (h := h) (h1 := h2) (by rw [z1, y1]) (by rw [z1, y2]) z4 e
  have k2 := kM_congr z5 e
  have p2 := pM_congr z6 e
  have h63 : h2 143 63 = 0 := by rw [z1, wr_at]
  rw [s1, n1, k1, p1] at hO
  rw [s1] at hS
  refine En_cal (works_ok hM2 he (by rw [s2, n2, k2, p2]; exact hP) (by rw [s2, n2, k2, p2]; exact hO) (by omega) (by rw [s2]; exact hS)) (fun r4 h4 e4 hw => ?_)
  obtain ⟨hW, hR2⟩ := hw
  rw [s2, n2, k2, p2, fcM_none h63] at hW
  exact En_some ⟨hW, fun j hj => by rw [hR2 j hj, hR j hj, y8]⟩
/-- the model's nets in order -/
def MO (h : Hp) : Prop := MN h ∧ ∀ e : Int, 0 ≤ e ∧ e < 2 → PinOK (sM h) (nM e h) (kM e h) (pM e h) ∧ Acy (sM h) (nM e h) (kM e h) (pM e h)
theorem MO_congr {h h1 : Hp} (e1 : h1 143 1 = h 143 1) (e2 : h1 143 2 = h 143 2) (e3 : h1 143 3 = h 143 3) (e4 : h1 144 = h 144) (e5 : h1 145 = h 145) (e6 : h1 146 = h 146) (hM : MO h) : MO h1 := by
  refine ⟨MN_congr e1 e2 e3 e4 hM.1, fun e he => ?_⟩
  rw [sM_congr e1 e2, nM_congr e1 e2 e4, kM_congr e5, pM_congr e6]
  exact hM.2 e he
theorem prepares_ok {h : Hp} (hM : MO h) :
    En (XX12_prepares h) (fun _ h1 => (∀ part : Nat, part < 4 → WEq (sM h) (nM 1 h) (kM 1 h) (pM 1 h) part noF (vM 1 part h1)) ∧ Ord (sM h) (nM 0 h) (kM 0 h) (pM 0 h) (fun i => h1 186 i) ∧ (∀ w : Nat, (w : Int) < sM h → ∀ part : Nat, part < 4 → vM 0 part h1 w = srcW w part) ∧ h1 143 63 = 0) := by
  unfold XX12_prepares
  refine En_cal (knows_ok hM.1 (e := 1) (by omega) (hM.2 1 (by omega)).1 (hM.2 1 (by omega)).2) (fun r2 h2 e2 hk => ?_)
  have f2 := fr_XX12_knows e2
  rw [hm_eq]
  have y : ∀ a i, ¬ ((186 ≤ a ∧ a ≤ 188) ∨ (a = 143 ∧ i = 63)) → wr h2 143 63 0 a i = h a i := fun a i hh => by rw [wq_ne (by omega)]; exact f2 a i hh
  have y4 : wr h2 143 63 0 144 = h 144 := funext (fun i => y 144 i (by omega))
  have y5 : wr h2 143 63 0 145 = h 145 := funext (fun i => y 145 i (by omega))
  have y6 : wr h2 143 63 0 146 = h 146 := funext (fun i => y 146 i (by omega))
  have y1 := y 143 1 (by omega)
  have y2 := y 143 2 (by omega)
  have y3 := y 143 3 (by omega)
  have hM1 := MO_congr y1 y2 y3 y4 y5 y6 hM
  refine En_cal (begins_ok hM1.1 (e := 0) (by omega) (hM1.2 0 (by omega)).1 (hM1.2 0 (by omega)).2) (fun r4 h4 e4 hb => ?_)
  have f4 := fr_XX12_begins e4
  obtain ⟨hO, hS, hR⟩ := hb
  rw [sM_congr y1 y2, nM_congr y1 y2 y4, kM_congr y5, pM_congr y6] at hO
  rw [sM_congr y1 y2] at hS
  refine En_some ⟨fun part hp => ?_, ?_, hS, ?_⟩
  · have hlt := MN_lt hM.1 (e := 1) (by omega)
    refine WEq_agree (hM.2 1 (by omega)).1 (by omega) (fun w hw => ?_) (hk.1 part hp)
    show h4 188 _ = h2 188 _
    rw [hR _ (by simp; omega), wr_ne (by omega)]
  · have : (fun i => h4 186 (40 * (0 : Int).toNat + i)) = fun i => h4 186 i := funext (fun i => by simp)
    rw [← this]; exact hO
  · rw [f4 143 63 (by omega)]; exact wr_at
