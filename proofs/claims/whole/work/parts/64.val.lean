theorem Inv_scr {n : Nat} {h h2 : Hp} (e : ∀ a i, ¬ (a = 26 ∨ a = 36 ∨ (40 ≤ a ∧ a ≤ 52) ∨ (203 ≤ a ∧ a ≤ 205) ∨ (a = 53 ∧ 3 ≤ i) ∨ a = 55 ∨ a = 66 ∨ (70 ≤ a ∧ a ≤ 71) ∨ a = 77 ∨ (185 ≤ a ∧ a ≤ 191) ∨ (194 ≤ a ∧ a ≤ 202) ∨ (a = 143 ∧ (i = 0 ∨ (63 ≤ i ∧ i ≤ 64) ∨ (71 ≤ i ∧ i ≤ 74)))) → h2 a i = h a i) (hI : Inv n h) : Inv n h2 := by
  obtain ⟨i1, i2, i3, i4, i5, i6, i7, i8, i9, i10, i11, i12, i13, i14, i15⟩ := hI
  refine ⟨J1_tr (fun a i hh => e a i (by omega)) i1, RelN_congr (fun a i hh => e a i (by omega)) i2, J2_tr (fun a i hh => e a i (by omega)) i3, J3_tr (fun a i hh => e a i (by omega)) i4, J4_tr (fun a i hh => e a i (by omega)) i5, J5_tr (fun a i hh => e a i (by omega)) i6, J6_tr (fun a i hh => e a i (by omega)) i7, ?_, J8_tr (fun a i hh => e a i (by omega)) i9, J9_tr (fun a i hh => e a i (by omega)) i10, J10_tr (fun a i hh => e a i (by omega)) i11, J11_tr (fun a i hh => e a i (by omega)) i12, J12_tr (fun a i hh => e a i (by omega)) i13, J13_tr (fun a i hh => e a i (by omega)) i14, J14_tr (fun a i hh => e a i (by omega)) i15⟩
  unfold J7
  rw [e 16 15 (by omega), e 143 57 (by omega)]
  exact i8
theorem Inv_net {n : Nat} {h h2 : Hp} (e : ∀ a i, ¬ ((23 ≤ a ∧ a ≤ 25) ∨ (33 ≤ a ∧ a ≤ 35) ∨ (a = 17 ∧ i = 6) ∨ (a = 27 ∧ i = 6)) → h2 a i = h a i) (h0 : NetOK 40 17 h2) (h1 : NetOK 24 27 h2) (hI : Inv n h) : Inv n h2 := by
  obtain ⟨i1, i2, i3, i4, i5, i6, i7, i8, i9, i10, i11, i12, i13, i14, i15⟩ := hI
  refine ⟨⟨h0, h1, by rw [e 17 1 (by omega)]; exact i1.2.2.1, by rw [e 27 1 (by omega)]; exact i1.2.2.2⟩, RelN_congr (fun a i hh => e a i (by omega)) i2, J2_tr (fun a i hh => e a i (by omega)) i3, J3_tr (fun a i hh => e a i (by omega)) i4, J4_tr (fun a i hh => e a i (by omega)) i5, J5_tr (fun a i hh => e a i (by omega)) i6, J6_tr (fun a i hh => e a i (by omega)) i7, ?_, J8_tr (fun a i hh => e a i (by omega)) i9, J9_tr (fun a i hh => e a i (by omega)) i10, J10_tr (fun a i hh => e a i (by omega)) i11, J11_tr (fun a i hh => e a i (by omega)) i12, J12_tr (fun a i hh => e a i (by omega)) i13, J13_tr (fun a i hh => e a i (by omega)) i14, J14_tr (fun a i hh => e a i (by omega)) i15⟩
  unfold J7
  rw [e 16 15 (by omega), e 143 57 (by omega)]
  exact i8
/-- a net of the class beside one of the model -/
def Side (e : Int) (p : Nat) (lim : Int) (h : Hp) : Prop :=
  ((e = 0 ∧ p = 17 ∧ lim = 40) ∨ (e = 1 ∧ p = 27 ∧ lim = 24)) ∧ NetOK lim p h ∧ sM h = sc (p + 1) h ∧ nM e h = wn (p + 1) h ∧ (∀ w, w < 48 → kM e h w = h (p + 1 + 1) w) ∧ (∀ j, j < 144 → pM e h j = h (p + 1 + 2) j)
theorem Side_0 {n : Nat} {h : Hp} (hI : Inv n h) : Side 0 17 40 h := ⟨Or.inl ⟨rfl, rfl, rfl⟩, hI.1.1, (Rel_s hI.2.1).1, (Rel_s hI.2.1).2.2.1, kM0 hI.2.1, pM0 hI.2.1⟩
theorem Side_1 {n : Nat} {h : Hp} (hI : Inv n h) : Side 1 27 24 h := ⟨Or.inr ⟨rfl, rfl, rfl⟩, hI.1.2.1, (Rel_s hI.2.1).2.1, (Rel_s hI.2.1).2.2.2, kM1 hI.2.1, pM1 hI.2.1⟩
theorem refresh_Inv {n : Nat} {h : Hp} (hI : Inv n h) {e : Int} {p : Nat} {lim : Int} (hS : Side e p lim h) : En (XX6_refresh p h) (fun _ h1 => Inv n h1 ∧ Side e p lim h1 ∧ Cch p h1 ∧ h1 p 6 = 1 ∧ ∀ a i, ¬ ((a = p ∧ i = 6) ∨ a = p + 6 ∨ a = p + 7 ∨ a = p + 8) → h1 a i = h a i) := by
  obtain ⟨hx, hN, _⟩ := hS
  have hl : lim ≤ 40 := by omega
  refine En_mono (refresh_ok hl hN) (fun r h1 _ hr => ?_)
  obtain ⟨r1, r2, r3, r4⟩ := hr
  rcases hx with ⟨rfl, rfl, rfl⟩ | ⟨rfl, rfl, rfl⟩
  · have hI1 : Inv n h1 := Inv_net (fun a i hh => r4 a i (by omega)) r1 (NetOK_tr (fun a i hh => r4 a i (by omega)) hI.1.2.1) hI
    exact ⟨hI1, Side_0 hI1, r2, r3, r4⟩
  · have hI1 : Inv n h1 := Inv_net (fun a i hh => r4 a i (by omega)) (NetOK_tr (fun a i hh => r4 a i (by omega)) hI.1.1) r1 hI
    exact ⟨hI1, Side_1 hI1, r2, r3, r4⟩
/-- the word of a wire of a net -/
noncomputable def fN (p : Nat) (h : Hp) (part : Int) : Nat → Int := solW (sc (p + 1) h) (wn (p + 1) h) (h (p + 1 + 1)) (h (p + 1 + 2)) part noF
theorem knows_Inv {n : Nat} {h : Hp} (hI : Inv n h) {e : Int} {p : Nat} {lim : Int} (hS : Side e p lim h) : En (XX12_knows e h) (fun _ h1 => Inv n h1 ∧ (∀ part w : Nat, part < 4 → (w : Int) < wn (p + 1) h → vM e part h1 w = fN p h part w) ∧ ∀ a i, ¬ ((186 ≤ a ∧ a ≤ 188) ∨ (a = 143 ∧ i = 63)) → h1 a i = h a i) := by
  have hMS := Inv_MS hI
  have hS' := hS
  obtain ⟨hx, hN, s1, s2, s3, s4⟩ := hS
  have hl : lim ≤ 40 := by omega
  have he : 0 ≤ e ∧ e < 2 := by omega
  have l0 := Pl_lt hl hN.1.1
  refine En_mono (knows_ok hMS.1.1 he (hMS.1.2 e he).1 (hMS.1.2 e he).2) (fun r h1 e1 hr => ?_)
  have f1 := fr_XX12_knows e1
  refine ⟨Inv_scr (fun a i hh => f1 a i (by omega)) hI, fun part w hp hw => ?_, f1⟩
  have := hr.1 part hp
  rw [s1, s2, WEq_congr l0.2.2.1 s3 s4] at this
  exact solW_eq hN.1.2.1 hN.1.2.2.1 this w hw
theorem Cch_fN {lim : Int} {p : Nat} {h : Hp} (hN : NetOK lim p h) (hC : Cch p h) {part w : Nat} (hp : part < 4) (hw : (w : Int) < wn (p + 1) h) : h (p + 8) (4 * w + part) = fN p h part w :=
  solW_eq (W := fun w => h (p + 8) (4 * w + part)) hN.1.2.1 hN.1.2.2.1 (hC.2.2 part hp) w hw
theorem fN_congr {p : Nat} {h h1 : Hp} (e : ∀ a i, (p + 1 ≤ a ∧ a ≤ p + 3) → h1 a i = h a i) (part : Int) : fN p h1 part = fN p h part := by
  have e' : ∀ a, (p + 1 ≤ a ∧ a ≤ p + 3) → h1 a = h a := fun a ha => funext (fun i => e a i ha)
  unfold fN; rw [sc_congr (e' _ (by omega)), wn_congr (e' _ (by omega)), e' (p + 1 + 1) (by omega), e' (p + 1 + 2) (by omega)]
theorem has_eq (h : Hp) (x : Int) : XX0_has x h = some (if 0 ≤ x ∧ x < h 37 0 then 1 else 0, h) := by
  unfold XX0_has
  by_cases q : x < 0
  · rw [if_pos q, if_neg (by omega), zb_0]
  · rw [if_neg q]
    by_cases q2 : h 37 0 ≤ x
    · rw [if_pos q2, if_neg (by omega), zb_0]
    · rw [if_neg q2, if_pos (by omega), zb_1]
theorem isCase_eq {n : Nat} {h : Hp} (hI : Inv n h) (x : Int) : XX12_isCase x h = some (if 0 ≤ x ∧ x < h 37 0 then 1 else 0, h) := by
  have hMS := Inv_MS hI
  obtain ⟨b0, b1, _⟩ := MN_lt hMS.1.1 (e := 0) (by omega)
  have hash : ashl 1 (sM h) = 2 ^ (sM h).toNat := ashl1 (by omega) (by omega)
  have hpl := pow_list b0 b1
  have hn : h 37 0 = 2 ^ (sM h).toNat := by rw [(Rel_s hI.2.1).1]; exact hI.2.2.2.1.1.1
  unfold XX12_isCase
  rw [cases_eq hMS.1.1, cal_eq, hash, ← hn]
  rw [← hn] at hpl
  rw [chk_pos (by omega), in_eq, cal_eq, zbi]
  congr 3
  exact propext ⟨fun q => by omega, fun q => by omega⟩
theorem num_le {n : Nat} {h : Hp} (hI : Inv n h) : 2 ≤ h 37 0 ∧ h 37 0 ≤ 256 := by
  have := Cas_num hI.2.2.2.1.1 (Inv_N0 hI); omega
def vB (p : Nat) (x1 x2 : Int) (h2 : Hp) : OR := cal (XX8_isWire (p + 1) x1 h2) (fun r4 h5 => if r4 = 0 then some ((-1), h5) else cal (XX0_has x2 h5) (fun r6 h7 => if r6 = 0 then some ((-1), h7) else cal (XX6_refresh p h7) (fun r8 h9 => chk (4 * x1) (chk (x2.tdiv 64) (chk ((4 * x1) + (x2.tdiv 64)) (inb ((4 * x1) + (x2.tdiv 64)) 192 (chk (x2 - x2.tdiv 64 * 64) (some ((al2i (jand (jshr (h9 (p + 8) ((4 * x1) + (x2.tdiv 64)).toNat) (x2 - x2.tdiv 64 * 64)) 1)), h9)))))))))
theorem valN {n : Nat} {h : Hp} (hI : Inv n h) {e : Int} {p : Nat} {lim : Int} (hS : Side e p lim h) (x y : Int) : Both n h (vB p x y) (XX12_value e x y) := by
  obtain ⟨hx, hN, s1, s2, s3, s4⟩ := id hS
  have hl : lim ≤ 40 := by omega
  have he : 0 ≤ e ∧ e < 2 := by omega
  have hMS := Inv_MS hI
  have hnum := num_le hI
  have l0 := Pl_lt hl hN.1.1
  by_cases q1 : 0 ≤ x ∧ x < wn (p + 1) h
  · by_cases q2 : 0 ≤ y ∧ y < h 37 0
    · obtain ⟨w, rfl⟩ := Int.eq_ofNat_of_zero_le q1.1
      obtain ⟨c, rfl⟩ := Int.eq_ofNat_of_zero_le q2.1
      obtain ⟨r1, h1, e1, i1, hS1, c1, c2, c3⟩ := refresh_Inv hI hS
      have ed : (c : Int).tdiv 64 = ((c / 64 : Nat) : Int) := rfl
      have x18 : h1 (p + 1) = h (p + 1) := funext (fun i => c3 _ i (by omega))
      have hw1 : (w : Int) < wn (p + 1) h1 := by rw [wn_congr x18]; exact q1.2
      have hcf : h1 (p + 8) (4 * w + c / 64) = fN p h1 ((c / 64 : Nat) : Int) w := Cch_fN hS1.2.1 c1 (by omega) hw1
      have E1 : vB p w c h = some (if tb (fN p h1 ((c / 64 : Nat) : Int) w) (c % 64) = true then 1 else 0, h1) := by
        unfold vB
        rw [isWire_eq hl hN.1.1, cal_eq, if1 q1, if_neg n10, has_eq, cal_eq, if1 q2, if_neg n10, e1, cal_eq, ed, chk_pos (by omega), chk_pos (by omega), chk_pos (by omega), inb_pos (by omega), chk_pos (by omega), show (c : Int) - ((c / 64 : Nat) : Int) * 64 = ((c % 64 : Nat) : Int) by omega, show (4 * (w : Int) + ((c / 64 : Nat) : Int)).toNat = 4 * w + c / 64 by omega, hcf, jbit _ (by omega) (by omega), Int.toNat_natCast]
        split <;> rfl
      obtain ⟨r2, h2, e2, i2, v2, f2⟩ := knows_Inv i1 hS1
      have hMS1 := Inv_MS i1
      have n1 : h1 37 0 = h 37 0 := c3 37 0 (by omega)
      refine Both_mk (h2 := h2) E1 ?_ (Inv_up i2)
      unfold XX12_value
      rw [isNet_eq, cal_eq, if1 (by omega), if_neg n10, isWireM_eq hMS1.1.1 he, cal_eq, hS1.2.2.2.1, if1 (by omega), if_neg n10, isCase_eq i1, cal_eq, n1, if1 q2, if_neg n10, e2, cal_eq, isAt_eq h2 he (by omega) (by omega), cal_eq, v2 (c / 64) w (by omega) hw1]
      split <;> rfl
    · refine Both_ro (r := -1) ?_ ?_ hI
      · unfold vB; rw [isWire_eq hl hN.1.1, cal_eq, if1 q1, if_neg n10, has_eq, cal_eq, if0 q2, if_pos rfl]
      · unfold XX12_value; rw [isNet_eq, cal_eq, if1 (by omega), if_neg n10, isWireM_eq hMS.1.1 he, cal_eq, s2, if1 q1, if_neg n10, isCase_eq hI, cal_eq, if0 q2, if_pos rfl]
  · refine Both_ro (r := -1) ?_ ?_ hI
    · unfold vB; rw [isWire_eq hl hN.1.1, cal_eq, if0 q1, if_pos rfl]
    · unfold XX12_value; rw [isNet_eq, cal_eq, if1 (by omega), if_neg n10, isWireM_eq hMS.1.1 he, cal_eq, s2, if0 q1, if_pos rfl]
theorem m_value {n : Nat} {h : Hp} (hI : Inv n h) (x y z : Int) : Both n h (XX11_value x y z) (XX12_value x y z) := by
  by_cases q0 : x = 0
  · subst q0; exact valN hI (Side_0 hI) y z
  by_cases q1 : x = 1
  · subst q1; exact valN hI (Side_1 hI) y z
  refine Both_ro (r := -1) ?_ ?_ hI
  · unfold XX11_value; rw [netOfx q0 q1, cal_eq]; rfl
  · unfold XX12_value; rw [isNet_eq, cal_eq, if0 (by omega), if_pos rfl]
theorem hangsOn_eq {p : Nat} {h : Hp} {w v : Int} (hw : 0 ≤ w ∧ w < 48) (hv : 0 ≤ v ∧ v < 48) : XX6_hangsOn p w v h = some (if tb (h (p + 7) w.toNat) v.toNat = true then 1 else 0, h) := by
  unfold XX6_hangsOn
  rw [inb_pos (by omega)]
  by_cases q : tb (h (p + 7) w.toNat) v.toNat = true
  · rw [if_pos ((jbit1 _ (by omega) (by omega)).2 q), if_pos q, zb_1]
  · rw [if_neg (fun hh => q ((jbit1 _ (by omega) (by omega)).1 hh)), if_neg q, zb_0]
theorem doesHang_Inv {n : Nat} {h : Hp} (hI : Inv n h) {e : Int} {p : Nat} {lim : Int} (hS : Side e p lim h) (hC : Cch p h) {w v : Int} (hw : 0 ≤ w ∧ w < wn (p + 1) h) (hv : 0 ≤ v ∧ v < wn (p + 1) h) : En (XX12_doesHang e w v h) (fun r h1 => r = (if tb (h (p + 7) w.toNat) v.toNat = true then 1 else 0) ∧ Inv n h1 ∧ ∀ a i, a ≠ 185 → h1 a i = h a i) := by
  obtain ⟨hx, hN, s1, s2, s3, s4⟩ := id hS
  have hl : lim ≤ 40 := by omega
  have he : 0 ≤ e ∧ e < 2 := by omega
  have hMS := Inv_MS hI
  have l0 := Pl_lt hl hN.1.1
  obtain ⟨w0, rfl⟩ := Int.eq_ofNat_of_zero_le hw.1
  have hB : Hang (sM h) (nM e h) (kM e h) (pM e h) (fun w v => tb (h (p + 7) w) v) := by
    rw [s1, s2]; exact Hang_congr l0.2.2.1 s3 s4 hC.2.1
  unfold XX12_doesHang
  refine En_cal (looks_ok hMS.1.1 he (hMS.1.2 e he).1 (hMS.1.2 e he).2 hB (w := w0) (by rw [s2]; exact hw.2)) (fun r h1 e1 hr => ?_)
  have f1 := fr_XX12_looks e1
  have hv' := hr v.toNat (by omega)
  rw [inb_pos (by omega), hv', zbi]
  exact En_some ⟨rfl, Inv_scr (fun a i hh => f1 a i (by omega)) hI, fun a i ha => f1 a i (by omega)⟩
def hB (p : Nat) (x1 x2 : Int) (h2 : Hp) : OR := cal (XX8_isWire (p + 1) x1 h2) (fun r4 h5 => if r4 = 0 then some ((-1), h5) else cal (XX8_isWire (p + 1) x2 h5) (fun r6 h7 => if r6 = 0 then some ((-1), h7) else cal (XX6_refresh p h7) (fun r8 h9 => cal (XX6_hangsOn p x1 x2 h9) (fun r10 h11 => if r10 = 0 then some (0, h11) else some (1, h11)))))
theorem hanN {n : Nat} {h : Hp} (hI : Inv n h) {e : Int} {p : Nat} {lim : Int} (hS : Side e p lim h) (x y : Int) : Both n h (hB p x y) (XX12_hangs e x y) := by
  obtain ⟨hx, hN, s1, s2, s3, s4⟩ := id hS
  have hl : lim ≤ 40 := by omega
  have he : 0 ≤ e ∧ e < 2 := by omega
  have hMS := Inv_MS hI
  have l0 := Pl_lt hl hN.1.1
  by_cases q1 : 0 ≤ x ∧ x < wn (p + 1) h
  · by_cases q2 : 0 ≤ y ∧ y < wn (p + 1) h
    · obtain ⟨r1, h1, e1, i1, hS1, c1, c2, c3⟩ := refresh_Inv hI hS
      have x18 : h1 (p + 1) = h (p + 1) := funext (fun i => c3 _ i (by omega))
      have hMS1 := Inv_MS i1
      obtain ⟨r2, h2, e2, rr, i2, f2⟩ := doesHang_Inv i1 hS1 c1 (w := x) (v := y) (by rw [wn_congr x18]; exact q1) (by rw [wn_congr x18]; exact q2)
      have E1 : hB p x y h = some (if tb (h1 (p + 7) x.toNat) y.toNat = true then 1 else 0, h1) := by
        unfold hB
        rw [isWire_eq hl hN.1.1, cal_eq, if1 q1, if_neg n10, isWire_eq hl hN.1.1, cal_eq, if1 q2, if_neg n10, e1, cal_eq, hangsOn_eq (by omega) (by omega), cal_eq]
        split <;> rfl
      refine Both_mk (h2 := h2) E1 ?_ (Inv_up i2)
      unfold XX12_hangs
      rw [isNet_eq, cal_eq, if1 (by omega), if_neg n10, isWireM_eq hMS1.1.1 he, cal_eq, hS1.2.2.2.1, wn_congr x18, if1 q1, if_neg n10, isWireM_eq hMS1.1.1 he, cal_eq, hS1.2.2.2.1, wn_congr x18, if1 q2, if_neg n10, e2, cal_eq, rr]
      split <;> rfl
    · refine Both_ro (r := -1) ?_ ?_ hI
      · unfold hB; rw [isWire_eq hl hN.1.1, cal_eq, if1 q1, if_neg n10, isWire_eq hl hN.1.1, cal_eq, if0 q2, if_pos rfl]
      · unfold XX12_hangs; rw [isNet_eq, cal_eq, if1 (by omega), if_neg n10, isWireM_eq hMS.1.1 he, cal_eq, s2, if1 q1, if_neg n10, isWireM_eq hMS.1.1 he, cal_eq, s2, if0 q2, if_pos rfl]
  · refine Both_ro (r := -1) ?_ ?_ hI
    · unfold hB; rw [isWire_eq hl hN.1.1, cal_eq, if0 q1, if_pos rfl]
    · unfold XX12_hangs; rw [isNet_eq, cal_eq, if1 (by omega), if_neg n10, isWireM_eq hMS.1.1 he, cal_eq, s2, if0 q1, if_pos rfl]
theorem m_hangs {n : Nat} {h : Hp} (hI : Inv n h) (x y z : Int) : Both n h (XX11_hangs x y z) (XX12_hangs x y z) := by
  by_cases q0 : x = 0
  · subst q0; exact hanN hI (Side_0 hI) y z
  by_cases q1 : x = 1
  · subst q1; exact hanN hI (Side_1 hI) y z
  refine Both_ro (r := -1) ?_ ?_ hI
  · unfold XX11_hangs; rw [netOfx q0 q1, cal_eq]; rfl
  · unfold XX12_hangs; rw [isNet_eq, cal_eq, if0 (by omega), if_pos rfl]
