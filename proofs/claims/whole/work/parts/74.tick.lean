theorem mxP_b {pn W : Nat → Int} {w : Nat} {B : Int} (hB : 0 ≤ B) : ∀ {m : Nat}, (∀ k, k < m → 0 ≤ W (pn (3 * w + k)).toNat ∧ W (pn (3 * w + k)).toNat ≤ B) → 0 ≤ mxP pn W w m ∧ mxP pn W w m ≤ B := by
  intro m
  induction m with
  | zero => intro _; exact ⟨Int.le_refl _, hB⟩
  | succ m ih =>
    intro h
    have h1 := ih (fun k hk => h k (by omega))
    have h2 := h m (by omega)
    show 0 ≤ imax _ _ ∧ imax _ _ ≤ B
    unfold imax
    split <;> omega
/-- ticks: sources at 0, gates at their delay and the latest pin -/
def TEq (s n : Int) (dl kd pn : Nat → Int) (W : Nat → Int) : Prop := (∀ w : Nat, (w : Int) < s → W w = 0) ∧ ∀ w : Nat, s ≤ w → (w : Int) < n → W w = Ft dl kd pn W w
theorem TEq_uniq {s n : Int} {dl kd pn : Nat → Int} {W W2 : Nat → Int} (hP : PinOK s n kd pn) (hA : Acy s n kd pn) (h1 : TEq s n dl kd pn W) (h2 : TEq s n dl kd pn W2) : ∀ w : Nat, (w : Int) < n → W w = W2 w :=
  uniq hP hA (Loc_t dl kd pn) (fun w hw => by rw [h1.1 w hw, h2.1 w hw]) h1.2 h2.2
theorem timeAll_ok {lim : Int} {p : Nat} {h : Hp} (hp : p ≤ 27) (hl : lim ≤ 40) (hN : Nums lim (p + 1) h) (hP : PinOK (sc (p + 1) h) (wn (p + 1) h) (h (p + 1 + 1)) (h (p + 1 + 2))) (hO : Ord (sc (p + 1) h) (wn (p + 1) h) (h (p + 1 + 1)) (h (p + 1 + 2)) (h (p + 6))) (hd : ∀ k, k < 9 → 0 ≤ h 99 k ∧ h 99 k ≤ 9) :
    En (XX6_timeAll p 99 h) (fun _ h1 => TEq (sc (p + 1) h) (wn (p + 1) h) (h 99) (h (p + 1 + 1)) (h (p + 1 + 2)) (h1 (p + 9))) := by
  obtain ⟨b0, b1, b2, b3, b4⟩ := Pl_lt hl hN
  have hg : h (p + 1) 3 = wn (p + 1) h - sc (p + 1) h := by omega
  have hg40 : h (p + 1) 3 ≤ lim := hN.2.2.2.2.2.2.2.2
  generalize hkd : h (p + 1 + 1) = kd at *
  generalize hpn : h (p + 1 + 2) = pn at *
  generalize hod : h (p + 6) = od at *
  generalize hs : sc (p + 1) h = s at *
  generalize hn : wn (p + 1) h = n at *
  unfold XX6_timeAll XX6_timeAll_L2
  refine En_lup1 (fun l1 _ => (s - l1).toNat) (fun l1 h1 => 0 ≤ l1 ∧ l1 ≤ s ∧ Eqx (p + 9) h h1 ∧ ∀ w : Nat, (w : Int) < l1 → h1 (p + 9) w = 0) ?_ FU _ _ (by unfold FU; omega) ⟨by omega, by omega, Eqx_refl _ _, fun w hw => by omega⟩
  rintro self2 l1 h1 ih ⟨c0, c1, e1, c2⟩
  unfold XX6_timeAll_b2
  have g1 : h1 (p + 1) = h (p + 1) := e1 _ (by omega)
  rw [sources_eq (Nums_congr g1 hN), cal_eq, sc_congr g1, hs]
  by_cases q : s ≤ l1
  · rw [if_pos q]
    have hA0 : ∀ w : Nat, (w : Int) < s → h1 (p + 9) w = 0 := fun w hw => c2 w (by omega)
    unfold XX6_timeAll_L28
    refine En_lup1 (fun l1 _ => (n - s - l1).toNat) (fun l1 h2 => 0 ≤ l1 ∧ l1 ≤ n - s ∧ Eqx (p + 9) h h2 ∧ Ev (Ft (h 99) kd pn) od l1.toNat (h1 (p + 9)) (h2 (p + 9)) ∧ ∀ j : Nat, (j : Int) < l1 → 0 ≤ h2 (p + 9) (od j).toNat ∧ h2 (p + 9) (od j).toNat ≤ 9 * l1) ?_ FU _ _ (by unfold FU; omega) ⟨by omega, by omega, e1, Ev_0, fun j hj => by omega⟩
    rintro self28 i h2 ih28 ⟨d0, d1, e2, d2, d3⟩
    unfold XX6_timeAll_b28
    have g2 : h2 (p + 1) = h (p + 1) := e2 _ (by omega)
    have k1 : h2 (p + 1 + 1) = kd := by rw [← hkd]; exact e2 _ (by omega)
    have k2 : h2 (p + 1 + 2) = pn := by rw [← hpn]; exact e2 _ (by omega)
    have k3 : h2 (p + 6) = od := by rw [← hod]; exact e2 _ (by omega)
    have k4 : h2 99 = h 99 := e2 _ (by omega)
    rw [g2, hg]
    by_cases q2 : n - s ≤ i
    · rw [if_pos q2]
      have : i = n - s := by omega
      subst this
      obtain ⟨f1, f2⟩ := Ev_done (by omega) hO d2
      exact En_some ⟨fun w hw => by rw [f1 w hw]; exact hA0 w hw, f2⟩
    · rw [if_neg q2, inb_pos (by omega), nm_eq, k3]
      obtain ⟨hT, hO1, hO2⟩ := hO
      have hoi := hO1 i.toNat (by omega)
      obtain ⟨g, hgi⟩ := Int.eq_ofNat_of_zero_le (show 0 ≤ od i.toNat by omega)
      have hgN : (od i.toNat).toNat = g := by omega
      obtain ⟨hk, hpin⟩ := hP g (by omega) (by omega)
      have hb := pinC_b (kd g).toNat
      have hdk := hd (kd g).toNat (by omega)
      -- what the pins have
      have hval : ∀ k : Nat, (k : Int) < pinC (kd g).toNat → 0 ≤ h2 (p + 9) (pn (3 * g + k)).toNat ∧ h2 (p + 9) (pn (3 * g + k)).toNat ≤ 9 * i := by
        intro k hk2
        have := hT.2.2 i.toNat (by omega) k (by rw [hgN]; exact hk2)
        rw [hgN] at this
        have hpk := (hpin k (by omega)).1 hk2
        rcases this with t | ⟨j, hj, t⟩
        · rw [d2.1 _ (fun j hj e => by have := hO1 j (by omega); omega), hA0 _ (by omega)]; omega
        · rw [← t]; exact d3 j (by omega)
      rw [hgi]
      unfold XX6_timeAll_L52
      refine En_lup4 (fun _ _ _ l5 _ => (3 - l5).toNat) (fun l1 l2 l3 l5 h3 => l1 = i ∧ l2 = g ∧ h3 = h2 ∧ 0 ≤ l5 ∧ l5 ≤ pinC (kd g).toNat ∧ l3 = mxP pn (h2 (p + 9)) g l5.toNat) ?_ FU _ _ _ _ _ (by unfold FU; omega) ⟨rfl, rfl, rfl, by omega, by omega, rfl⟩
      rintro self52 l1 l2 l3 l5 h3 ih52 ⟨rfl, rfl, rfl, m0, m1, m2⟩
      have hmx := mxP_b (pn := pn) (W := h3 (p + 9)) (w := g) (B := 9 * l1) (by omega) (m := l5.toNat) (fun k hk => hval k (by omega))
      rw [← m2] at hmx
      unfold XX6_timeAll_b52
      rw [inb_pos (by omega), Int.toNat_natCast, k1, inb_pos (by omega)]
      by_cases q3 : pinC (kd g).toNat ≤ l5
      · rw [if_pos q3, inb_pos (by omega), inb_pos (by omega), k4, chk_pos (by omega), inb_pos (by omega), hm_eq, chk_pos (by omega)]
        have e5 : l5.toNat = (pinC (kd g).toNat).toNat := by omega
        rw [e5] at m2
        refine ih28 _ _ (by omega) ⟨by omega, by omega, Eqx_wr e2 _ _, ?_, fun j hj => ?_⟩
        · rw [show (l1 + 1).toNat = l1.toNat + 1 by omega]
          refine Ev_step (Loc_t _ kd pn) hT (by omega) d2 (fun k hk => ?_) (fun j hj k hk => ?_) ?_ ?_
          · rw [hgN] at hk ⊢; exact ((hpin k (by omega)).1 hk).1
          · have hoj := hO1 j (by omega)
            have := hP (od j).toNat (by omega) (by omega)
            have hbj := pinC_b (kd (od j).toNat).toNat
            exact ((this.2 k (by omega)).1 hk).1
          · rw [hgN, wr_at, m2]; rfl
          · intro w hw
            rw [hgN] at hw
            exact wr_o hw _
        · by_cases qj : j = l1.toNat
          · rw [qj, hgN, wr_at]; omega
          · have hne : (od j).toNat ≠ g := by
              have := hT.2.1 l1.toNat j (by omega) (by omega); have := hO1 j (by omega); omega
            rw [wr_o hne]; have := d3 j (by omega); omega
      · rw [if_neg q3, k2]
        obtain ⟨j, rfl⟩ := Int.eq_ofNat_of_zero_le m0
        have hj := (hpin j (by omega)).1 (by omega)
        rw [chk_pos (by omega), chk_pos (by omega), inb_pos (by omega), show (3 * (g : Int) + (j : Int)).toNat = 3 * g + j by omega, inb_pos (by omega), nm_eq, chk_pos (by omega)]
        refine ih52 _ _ _ _ _ (by omega) ⟨rfl, rfl, rfl, by omega, by omega, ?_⟩
        rw [show ((j : Int) + 1).toNat = j + 1 by omega, m2, Int.toNat_natCast]
        rfl
  · rw [if_neg q, inb_pos (by omega), hm_eq, chk_pos (by omega)]
    refine ih _ _ (by omega) ⟨by omega, by omega, Eqx_wr e1 _ _, fun w hw => ?_⟩
    by_cases qw : w = l1.toNat
    · subst qw; rw [wr_at]
    · rw [wr_o qw]; exact c2 w (by omega)
theorem arrivals_ok {h : Hp} (hM : MN h) {e : Int} (he : 0 ≤ e ∧ e < 2) (hP : PinOK (sM h) (nM e h) (kM e h) (pM e h)) (hA : Acy (sM h) (nM e h) (kM e h) (pM e h)) (hd : ∀ k, k < 9 → 0 ≤ h 156 k ∧ h 156 k ≤ 9) :
    En (XX12_arrivals e h) (fun _ h1 => TEq (sM h) (nM e h) (h 156) (kM e h) (pM e h) (h1 199)) := by
  obtain ⟨b0, b1, b2, b3, b4, b5⟩ := MN_lt hM he
  have hg : h 144 e.toNat = nM e h - sM h := by omega
  unfold XX12_arrivals
  refine En_cal (sorts_ok hM he hP hA) (fun r0 h0 e0 hO => ?_)
  have f0 := fr_XX12_sorts e0
  have x0 : ∀ a, a ≠ 186 → a ≠ 187 → h0 a = h a := fun a h1 h2 => funext (fun i => f0 a i (by omega))
  have hkd : ∀ w, h 145 (48 * e.toNat + w) = kM e h w := fun _ => rfl
  have hpn : ∀ j, h 146 (144 * e.toNat + j) = pM e h j := fun _ => rfl
  have hod : ∀ i, h0 186 (40 * e.toNat + i) = (fun i => h0 186 (40 * e.toNat + i)) i := fun _ => rfl
  generalize (fun i => h0 186 (40 * e.toNat + i)) = od at *
  generalize kM e h = kd at *
  generalize pM e h = pn at *
  have mnx : ∀ h1, Eqx 199 h0 h1 → XX12_begun h1 = some (sM h, h1) := by
    intro h1 e1
    have c1 : h1 143 = h 143 := (e1 _ (by omega)).trans (x0 _ (by omega) (by omega))
    have c2 : h1 144 = h 144 := (e1 _ (by omega)).trans (x0 _ (by omega) (by omega))
    have hM1 := MN_congr (by rw [c1]) (by rw [c1]) (by rw [c1]) c2 hM
    rw [begun_eq hM1, sM_congr (by rw [c1]) (by rw [c1])]
  generalize hs : sM h = s at *
  generalize hn : nM e h = n at *
  unfold XX12_arrivals_L7
  refine En_lup2 (fun _ l2 _ => (s - l2).toNat) (fun l1 l2 h1 => e = l1 ∧ 0 ≤ l2 ∧ l2 ≤ s ∧ Eqx 199 h0 h1 ∧ ∀ w : Nat, (w : Int) < l2 → h1 199 w = 0) ?_ FU _ _ _ (by unfold FU; omega) ⟨rfl, by omega, by omega, Eqx_refl _ _, fun w hw => by omega⟩
  rintro self7 l1 l2 h1 ih7 ⟨rfl, c0, c1, e1, c2⟩
  unfold XX12_arrivals_b7
  rw [mnx h1 e1, cal_eq]
  by_cases q : s ≤ l2
  · rw [if_pos q]
    have hA0 : ∀ w : Nat, (w : Int) < s → h1 199 w = 0 := fun w hw => c2 w (by omega)
    unfold XX12_arrivals_L30
    refine En_lup2 (fun _ l2 _ => (n - s - l2).toNat) (fun l1 l2 h2 => e = l1 ∧ 0 ≤ l2 ∧ l2 ≤ n - s ∧ Eqx 199 h0 h2 ∧ Ev (Ft (h 156) kd pn) od l2.toNat (h1 199) (h2 199) ∧ ∀ j : Nat, (j : Int) < l2 → 0 ≤ h2 199 (od j).toNat ∧ h2 199 (od j).toNat ≤ 9 * l2) ?_ FU _ _ _ (by unfold FU; omega) ⟨rfl, by omega, by omega, e1, Ev_0, fun j hj => by omega⟩
    rintro self30 l1 i h2 ih30 ⟨rfl, d0, d1, e2, d2, d3⟩
    unfold XX12_arrivals_b30
    have ee : ∀ a, a ≠ 186 → a ≠ 187 → a ≠ 199 → h2 a = h a := fun a h3 h4 h5 => (e2 a h5).trans (x0 a h3 h4)
    rw [inb_pos (by omega), ee 144 (by omega) (by omega) (by omega), hg]
    by_cases q2 : n - s ≤ i
    · rw [if_pos q2]
      have : i = n - s := by omega
      subst this
      obtain ⟨f1, f2⟩ := Ev_done (by omega) hO d2
      exact En_some ⟨fun w hw => by rw [f1 w hw]; exact hA0 w hw, f2⟩
    · rw [if_neg q2, chk_pos (by omega), chk_pos (by omega), inb_pos (by omega), nm_eq, e2 186 (by omega), show (40 * e + i).toNat = 40 * e.toNat + i.toNat by omega, hod]
      obtain ⟨hT, hO1, hO2⟩ := hO
      have hoi := hO1 i.toNat (by omega)
      obtain ⟨g, hgi⟩ := Int.eq_ofNat_of_zero_le (show 0 ≤ od i.toNat by omega)
      have hgN : (od i.toNat).toNat = g := by omega
      obtain ⟨hk, hpin⟩ := hP g (by omega) (by omega)
      have hb := pinC_b (kd g).toNat
      have hdk := hd (kd g).toNat (by omega)
      have hval : ∀ k : Nat, (k : Int) < pinC (kd g).toNat → 0 ≤ h2 199 (pn (3 * g + k)).toNat ∧ h2 199 (pn (3 * g + k)).toNat ≤ 9 * i := by
        intro k hk2
        have := hT.2.2 i.toNat (by omega) k (by rw [hgN]; exact hk2)
        rw [hgN] at this
        have hpk := (hpin k (by omega)).1 hk2
        rcases this with t | ⟨j, hj, t⟩
        · rw [d2.1 _ (fun j hj e => by have := hO1 j (by omega); omega), hA0 _ (by omega)]; omega
        · rw [← t]; exact d3 j (by omega)
      rw [hgi, chk_pos (by omega), chk_pos (by omega), nm_eq]
      unfold XX12_arrivals_L66
      refine En_lup6 (fun _ _ _ _ _ l6 _ => (3 - l6).toNat) (fun l1 l2 l3 l4 l5 l6 h3 => e = l1 ∧ i = l2 ∧ (g : Int) = l3 ∧ 48 * e + (g : Int) = l4 ∧ h2 = h3 ∧ 0 ≤ l6 ∧ l6 ≤ pinC (kd g).toNat ∧ l5 = mxP pn (h2 199) g l6.toNat) ?_ FU _ _ _ _ _ _ _ (by unfold FU; omega) ⟨rfl, rfl, rfl, rfl, rfl, by omega, by omega, rfl⟩
      rintro self66 l1 l2 l3 l4 l5 l6 h3 ih66 ⟨rfl, rfl, rfl, rfl, rfl, m0, m1, m2⟩
      have hmx := mxP_b (pn := pn) (W := h2 199) (w := g) (B := 9 * i) (by omega) (m := l6.toNat) (fun k hk => hval k (by omega))
      rw [← m2] at hmx
      unfold XX12_arrivals_b66
      have k145 : h2 145 (48 * e + (g : Int)).toNat = kd g := by rw [ee 145 (by omega) (by omega) (by omega), show (48 * e + (g : Int)).toNat = 48 * e.toNat + g by omega, hkd]
      rw [inb_pos (by omega), k145, pinsOf_eq hk.1 hk.2, cal_eq]
      by_cases q3 : pinC (kd g).toNat ≤ l6
      · rw [if_pos q3, inb_pos (by omega), k145, inb_pos (by omega), ee 156 (by omega) (by omega) (by omega), chk_pos (by omega), inb_pos (by omega), hm_eq, chk_pos (by omega), Int.toNat_natCast]
        have e5 : l6.toNat = (pinC (kd g).toNat).toNat := by omega
        rw [e5] at m2
        refine ih30 _ _ _ (by omega) ⟨rfl, by omega, by omega, Eqx_wr e2 _ _, ?_, fun j hj => ?_⟩
        · rw [show (i + 1).toNat = i.toNat + 1 by omega]
          refine Ev_step (Loc_t _ kd pn) hT (by omega) d2 (fun k hk => ?_) (fun j hj k hk => ?_) ?_ ?_
          · rw [hgN] at hk ⊢; exact ((hpin k (by omega)).1 hk).1
          · have hoj := hO1 j (by omega)
            have := hP (od j).toNat (by omega) (by omega)
            have hbj := pinC_b (kd (od j).toNat).toNat
            exact ((this.2 k (by omega)).1 hk).1
          · rw [hgN, wr_at, m2]; rfl
          · intro w hw
            rw [hgN] at hw
            exact wr_o hw _
        · by_cases qj : j = i.toNat
          · rw [qj, hgN, wr_at]; omega
          · have hne : (od j).toNat ≠ g := by
              have := hT.2.1 i.toNat j (by omega) (by omega); have := hO1 j (by omega); omega
            rw [wr_o hne]; have := d3 j (by omega); omega
      · rw [if_neg q3]
        obtain ⟨j, rfl⟩ := Int.eq_ofNat_of_zero_le m0
        have hj := (hpin j (by omega)).1 (by omega)
        have p146 : h2 146 (3 * (48 * e + (g : Int)) + (j : Int)).toNat = pn (3 * g + j) := by rw [ee 146 (by omega) (by omega) (by omega), show (3 * (48 * e + (g : Int)) + (j : Int)).toNat = 144 * e.toNat + (3 * g + j) by omega, hpn]
        have st : ∀ v : Int, v = imax l5 (h2 199 (pn (3 * g + j)).toNat) → En (XX12_arrivals_p125 self30 self66 e i g (48 * e + (g : Int)) j v h2) (fun _ h1 => TEq s n (h 156) kd pn (h1 199)) := by
          intro v hv
          unfold XX12_arrivals_p125
          rw [chk_pos (by omega)]
          refine ih66 _ _ _ _ _ _ _ (by omega) ⟨rfl, rfl, rfl, rfl, rfl, by omega, by omega, ?_⟩
          rw [show ((j : Int) + 1).toNat = j + 1 by omega, hv, m2, Int.toNat_natCast]
          rfl
        rw [chk_pos (by omega), chk_pos (by omega), inb_pos (by omega), p146, inb_pos (by omega)]
        by_cases qm : h2 199 (pn (3 * g + j)).toNat ≤ l5
        · rw [if_pos qm]; exact st _ (by unfold imax; rw [if_neg (by omega)])
        · rw [if_neg qm, chk_pos (by omega), chk_pos (by omega), inb_pos (by omega), inb_pos (by omega)]
          exact st _ (by unfold imax; rw [if_pos (by omega)])
  · rw [if_neg q, inb_pos (by omega), hm_eq, chk_pos (by omega)]
    refine ih7 _ _ _ (by omega) ⟨rfl, by omega, by omega, Eqx_wr e1 _ _, fun w hw => ?_⟩
    by_cases qw : w = l2.toNat
    · subst qw; rw [wr_at]
    · rw [wr_o qw]; exact c2 w (by omega)
