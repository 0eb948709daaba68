theorem mxP_pn {pn pn2 W : Nat → Int} {w : Nat} : ∀ {m : Nat}, (∀ k, k < m → pn2 (3 * w + k) = pn (3 * w + k)) → mxP pn2 W w m = mxP pn W w m := by
  intro m
  induction m with
  | zero => intro _; rfl
  | succ m ih => intro h; show imax _ _ = imax _ _; rw [ih (fun k hk => h k (by omega)), h m (by omega)]
theorem TEq_congr {s n : Int} {dl dl2 kd pn kd2 pn2 W : Nat → Int} (hP : PinOK s n kd pn) (hn : n ≤ 48) (e1 : ∀ w, w < 48 → kd2 w = kd w) (e2 : ∀ j, j < 144 → pn2 j = pn j) (ed : ∀ k, k < 9 → dl2 k = dl k) (h : TEq s n dl2 kd2 pn2 W) : TEq s n dl kd pn W := by
  refine ⟨h.1, fun w h1 h2 => ?_⟩
  rw [h.2 w h1 h2]
  have hk := (hP w h1 h2).1
  have hb := pinC_b (kd w).toNat
  unfold Ft
  rw [e1 w (by omega), ed _ (by omega), mxP_pn (fun k hk => e2 _ (by omega))]
/-- both sides' ticks of a net -/
theorem ticks_both {n : Nat} {h : Hp} (hI : Inv n h) {e : Int} {p : Nat} {lim : Int} (hS : Side e p lim h) : ∃ r1 h1 r2 h2 r3 h3, XX6_refresh p h = some (r1, h1) ∧ XX6_timeAll p 99 h1 = some (r2, h2) ∧ Inv n h2 ∧ XX12_arrivals e h2 = some (r3, h3) ∧ Inv n h3 ∧ (∀ w : Nat, (w : Int) < wn (p + 1) h → h2 (p + 9) w = h3 199 w) ∧ (∀ a i, ¬ ((a = p ∧ i = 6) ∨ a = p + 6 ∨ a = p + 7 ∨ a = p + 8 ∨ a = p + 9) → h2 a i = h a i) ∧ (∀ a i, ¬ ((186 ≤ a ∧ a ≤ 187) ∨ a = 199) → h3 a i = h2 a i) := by
  obtain ⟨hx, hN, s1, s2, s3, s4⟩ := id hS
  have hl : lim ≤ 40 := by omega
  have he : 0 ≤ e ∧ e < 2 := by omega
  have l0 := Pl_lt hl hN.1.1
  obtain ⟨r1, h1, e1, i1, hS1, c1, c2, c3⟩ := refresh_Inv hI hS
  have x18 : h1 (p + 1) = h (p + 1) := funext (fun i => c3 _ i (by omega))
  obtain ⟨_, hN1, s11, s12, s13, s14⟩ := id hS1
  have j13 := i1.2.2.2.2.2.2.2.2.2.2.2.2.2.1
  obtain ⟨r2, h2, e2, t2⟩ := timeAll_ok (p := p) (h := h1) (by omega) hl hN1.1.1 hN1.1.2.1 c1.1 (fun k hk => (j13 k hk).2)
  have f2 := fr_XX6_timeAll e2
  have i2 : Inv n h2 := by
    rcases hx with ⟨_, rfl, _⟩ | ⟨_, rfl, _⟩
    · exact Inv_scr (fun a i hh => f2 a i (by omega)) i1
    · exact Inv_scr (fun a i hh => f2 a i (by omega)) i1
  have hMS2 := Inv_MS i2
  have j132 := i2.2.2.2.2.2.2.2.2.2.2.2.2.2.1
  obtain ⟨r3, h3, e3, t3⟩ := arrivals_ok hMS2.1.1 he (hMS2.1.2 e he).1 (hMS2.1.2 e he).2 (fun k hk => by rw [← (j132 k hk).1]; exact (j132 k hk).2)
  have f3 := fr_XX12_arrivals e3
  have i3 : Inv n h3 := Inv_scr (fun a i hh => f3 a i (by omega)) i2
  refine ⟨r1, h1, r2, h2, r3, h3, e1, e2, i2, e3, i3, fun w hw => ?_, fun a i hh => by rw [f2 a i (by omega), c3 a i (by omega)], f3⟩
  have g : ∀ a i, ((p + 1 ≤ a ∧ a ≤ p + 5) ∨ 143 ≤ a) → h2 a i = h1 a i := fun a i hh => f2 a i (by omega)
  have t3' : TEq (sc (p + 1) h1) (wn (p + 1) h1) (h1 99) (h1 (p + 1 + 1)) (h1 (p + 1 + 2)) (h3 199) := by
    rw [sM_congr (g 143 1 (by omega)) (g 143 2 (by omega)), nM_congr (g 143 1 (by omega)) (g 143 2 (by omega)) (funext (fun i => g 144 i (by omega))), kM_congr (funext (fun i => g 145 i (by omega))), pM_congr (funext (fun i => g 146 i (by omega))), s11, s12] at t3
    exact TEq_congr hN1.1.2.1 (by rw [wn_congr x18]; omega) s13 s14 (fun k hk => by rw [g 156 k (by omega)]; exact (j13 k hk).1.symm) t3
  exact TEq_uniq hN1.1.2.1 hN1.1.2.2.1 t2 t3' w (by rw [wn_congr x18]; exact hw)
def aB (p : Nat) (x1 : Int) (h2 : Hp) : OR := cal (XX8_isWire (p + 1) x1 h2) (fun r4 h5 => if r4 = 0 then some ((-1), h5) else cal (XX6_refresh p h5) (fun r6 h7 => cal (XX6_timeAll p 99 h7) (fun r8 h9 => inb x1 48 (some ((h9 (p + 9) x1.toNat), h9)))))
theorem arrN {n : Nat} {h : Hp} (hI : Inv n h) {e : Int} {p : Nat} {lim : Int} (hS : Side e p lim h) (x : Int) : Both n h (aB p x) (XX12_arrive e x) := by
  obtain ⟨hx, hN, s1, s2, s3, s4⟩ := id hS
  have hl : lim ≤ 40 := by omega
  have he : 0 ≤ e ∧ e < 2 := by omega
  have hMS := Inv_MS hI
  have l0 := Pl_lt hl hN.1.1
  by_cases q1 : 0 ≤ x ∧ x < wn (p + 1) h
  · obtain ⟨r1, h1, r2, h2, r3, h3, e1, e2, i2, e3, i3, hw, f2, f3⟩ := ticks_both hI hS
    refine Both_mk (r := h2 (p + 9) x.toNat) (h1 := h2) (h2 := h3) ?_ ?_ (Inv_up i3)
    · unfold aB
      rw [isWire_eq hl hN.1.1, cal_eq, if1 q1, if_neg n10, e1, cal_eq, e2, cal_eq, inb_pos (by omega)]
    · have n2 : nM e h2 = wn (p + 1) h := by rw [nM_congr (f2 143 1 (by omega)) (f2 143 2 (by omega)) (funext (fun i => f2 144 i (by omega))), s2]
      unfold XX12_arrive
      rw [isNet_eq, cal_eq, if1 (by omega), if_neg n10, isWireM_eq (Inv_MS i2).1.1 he, cal_eq, n2, if1 q1, if_neg n10, e3, cal_eq, inb_pos (by omega), hw x.toNat (by omega)]
  · refine Both_ro (r := -1) ?_ ?_ hI
    · unfold aB; rw [isWire_eq hl hN.1.1, cal_eq, if0 q1, if_pos rfl]
    · unfold XX12_arrive; rw [isNet_eq, cal_eq, if1 (by omega), if_neg n10, isWireM_eq hMS.1.1 he, cal_eq, s2, if0 q1, if_pos rfl]
theorem m_arrive {n : Nat} {h : Hp} (hI : Inv n h) (x y : Int) : Both n h (XX11_arrive x y) (XX12_arrive x y) := by
  by_cases q0 : x = 0
  · subst q0; exact arrN hI (Side_0 hI) y
  by_cases q1 : x = 1
  · subst q1; exact arrN hI (Side_1 hI) y
  refine Both_ro (r := -1) ?_ ?_ hI
  · unfold XX11_arrive; rw [netOfx q0 q1, cal_eq]; rfl
  · unfold XX12_arrive; rw [isNet_eq, cal_eq, if0 (by omega), if_pos rfl]
/-- how many of the first are later than x -/
def ltC (f : Nat → Int) (x : Int) : Nat → Int
  | 0 => 0
  | k + 1 => ltC f x k + if f k ≤ x then 0 else 1
theorem ltC_b (f : Nat → Int) (x : Int) (k : Nat) : 0 ≤ ltC f x k ∧ ltC f x k ≤ k := by
  induction k with
  | zero => exact ⟨Int.le_refl _, Int.le_refl _⟩
  | succ k ih => unfold ltC; split <;> omega
theorem m_late {n : Nat} {h : Hp} (hI : Inv n h) (x : Int) : Both n h (XX11_late x) (XX12_late x) := by
  by_cases q : 0 ≤ x
  · obtain ⟨r1, h1, r2, h2, r3, h3, e1, e2, i2, e3, i3, hw, f2, f3⟩ := ticks_both hI (Side_0 hI)
    have hN2 := Inv_N0 i2
    have l2 := Pl_lt (by decide) hN2
    have hwn : wn 18 h2 = wn (17 + 1) h := wn_congr (funext (fun i => f2 18 i (by omega)))
    have hsn : ∀ k : Nat, (k : Int) < h2 18 2 + h2 18 1 → 0 ≤ h2 21 k ∧ h2 21 k < wn 18 h2 := i2.1.1.1.2.2.2.1
    have ob : 1 ≤ h2 18 2 + h2 18 1 ∧ h2 18 2 + h2 18 1 ≤ 6 := by obtain ⟨_, n1, n2, _, _, n5, n6, _, _⟩ := hN2; omega
    -- the class
    have E1 : En (XX11_late x h) (fun r g => g = h2 ∧ r = ltC (fun k => h2 26 (h2 21 k).toNat) x (h2 18 2 + h2 18 1).toNat) := by
      unfold XX11_late
      rw [if_pos q, e1, cal_eq, e2, cal_eq]
      unfold XX11_late_L28
      refine En_lup3 (fun _ _ l3 _ => (6 - l3).toNat) (fun l1 l2 l3 g => x = l1 ∧ h2 = g ∧ 0 ≤ l3 ∧ l3 ≤ h2 18 2 + h2 18 1 ∧ l2 = ltC (fun k => h2 26 (h2 21 k).toNat) x l3.toNat) ?_ FU _ _ _ _ (by unfold FU; omega) ⟨rfl, rfl, by omega, by omega, rfl⟩
      rintro self l1 l2 l3 g ih ⟨rfl, rfl, c0, c1, c2⟩
      have hb := ltC_b (fun k => h2 26 (h2 21 k).toNat) x l3.toNat
      rw [← c2] at hb
      unfold XX11_late_b28
      rw [seenCount_eq hN2, cal_eq]
      by_cases q3 : h2 18 2 + h2 18 1 ≤ l3
      · rw [if_pos q3]; exact En_some ⟨rfl, by rw [c2, show l3.toNat = (h2 18 2 + h2 18 1).toNat by omega]⟩
      · have hs := hsn l3.toNat (by omega)
        rw [if_neg q3, inb_pos (by omega), inb_pos (by omega)]
        have st : ∀ v : Int, v = ltC (fun k => h2 26 (h2 21 k).toNat) x (l3.toNat + 1) → En (XX11_late_p69 self x v l3 h2) (fun r g => g = h2 ∧ r = ltC (fun k => h2 26 (h2 21 k).toNat) x (h2 18 2 + h2 18 1).toNat) := by
          intro v hv
          unfold XX11_late_p69
          rw [chk_pos (by omega)]
          exact ih _ _ _ _ (by omega) ⟨rfl, rfl, by omega, by omega, by rw [show (l3 + 1).toNat = l3.toNat + 1 by omega]; exact hv⟩
        by_cases qt : h2 26 (h2 21 l3.toNat).toNat ≤ x
        · rw [if_pos qt]; exact st _ (by unfold ltC; rw [if_pos qt, c2]; omega)
        · rw [if_neg qt, chk_pos (by omega)]; exact st _ (by show _ = ltC _ _ _ + _; rw [if_neg qt, c2])
    obtain ⟨ra, ha, ea, hae, hra⟩ := E1
    subst hae
    -- the model
    have hMS3 := Inv_MS i3
    have o3 : h3 143 3 + h3 143 2 = ha 18 2 + ha 18 1 := by
      have a1 := i2.2.1.1
      rw [f3 143 3 (by omega), f3 143 2 (by omega)]; omega
    have E2 : En (XX12_late x ha) (fun r g => g = h3 ∧ r = ltC (fun k => ha 26 (ha 21 k).toNat) x (ha 18 2 + ha 18 1).toNat) := by
      unfold XX12_late
      rw [if_pos q, e3, cal_eq]
      unfold XX12_late_L15
      refine En_lup3 (fun _ _ l3 _ => (6 - l3).toNat) (fun l1 l2 l3 g => x = l1 ∧ h3 = g ∧ 0 ≤ l3 ∧ l3 ≤ ha 18 2 + ha 18 1 ∧ l2 = ltC (fun k => ha 26 (ha 21 k).toNat) x l3.toNat) ?_ FU _ _ _ _ (by unfold FU; omega) ⟨rfl, rfl, by omega, by omega, rfl⟩
      rintro self l1 l2 l3 g ih ⟨rfl, rfl, c0, c1, c2⟩
      have hb := ltC_b (fun k => ha 26 (ha 21 k).toNat) x l3.toNat
      rw [← c2] at hb
      unfold XX12_late_b15
      rw [observed_eq hMS3.1.1, cal_eq, o3]
      by_cases q3 : ha 18 2 + ha 18 1 ≤ l3
      · rw [if_pos q3]; exact En_some ⟨rfl, by rw [c2, show l3.toNat = (ha 18 2 + ha 18 1).toNat by omega]⟩
      · obtain ⟨k, rfl⟩ := Int.eq_ofNat_of_zero_le c0
        have hs := hsn k (by omega)
        have hsnk : sn 0 k h3 = ha 21 k := by
          rw [sn_congr (f3 143 3 (by omega)) (funext (fun i => f3 147 i (by omega))) (funext (fun i => f3 148 i (by omega)))]
          exact (i2.2.1.2.2.2.2.2.2 k (by omega)).1
        rw [if_neg q3, seen_eq hMS3.1.1 (by omega) (by omega), cal_eq, hsnk, inb_pos (by omega), ← hw _ (by omega)]
        have st : ∀ v : Int, (v = if ha 26 (ha 21 k).toNat ≤ x then 0 else 1) → En (XX12_late_p44 self x k l2 v h3) (fun r g => g = h3 ∧ r = ltC (fun k => ha 26 (ha 21 k).toNat) x (ha 18 2 + ha 18 1).toNat) := by
          intro v hv
          have hvb : v = 0 ∨ v = 1 := by rw [hv]; split <;> simp
          unfold XX12_late_p44
          rw [chk_pos (by omega), nm_eq, chk_pos (by omega)]
          refine ih _ _ _ _ (by omega) ⟨rfl, rfl, by omega, by omega, ?_⟩
          rw [show ((k : Int) + 1).toNat = k + 1 by omega, c2, hv, Int.toNat_natCast]
          rfl
        show En (if ha 26 (ha 21 k).toNat ≤ x then _ else _) _
        by_cases qt : ha 26 (ha 21 k).toNat ≤ x
        · rw [if_pos qt]; exact st _ (by rw [if_pos qt])
        · rw [if_neg qt]; exact st _ (by rw [if_neg qt])
    obtain ⟨rb, hb, eb, hbe, hrb⟩ := E2
    refine Both_mk (r := ra) (h1 := ha) (h2 := hb) ea (by rw [eb, hra, hrb]) (by rw [hbe]; exact Inv_up i3)
  · refine Both_ro (r := -1) ?_ ?_ hI
    · unfold XX11_late; rw [if_neg q]
    · unfold XX12_late; rw [if_neg q]
