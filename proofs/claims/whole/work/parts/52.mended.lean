theorem isK_none {pts : Nat → Int} {w : Int} : ∀ {m : Nat}, isK pts w m = -1 ↔ ∀ k, k < m → pts k ≠ w := by
  intro m
  induction m with
  | zero => exact ⟨fun _ k hk => absurd hk (Nat.not_lt_zero _), fun _ => rfl⟩
  | succ m ih =>
    show (if pts m = w then (m : Int) else isK pts w m) = -1 ↔ _
    by_cases q : pts m = w
    · rw [if_pos q]
      exact ⟨fun h => by omega, fun h => absurd q (h m (by omega))⟩
    · rw [if_neg q, ih]
      constructor
      · intro h k hk
        by_cases qk : k = m
        · rw [qk]; exact q
        · exact h k (by omega)
      · intro h k hk; exact h k (by omega)
theorem pinNow_eq {h : Hp} {s n : Int} (hP : PinOK s n (h 19) (h 20)) (hn : n ≤ 48) {g k : Nat} (hg : s ≤ g) (hgn : (g : Int) < n) (hk : k < 3) : XX5_pinNow g k h = some (pk (h 19) (h 20) (h 42) g k, h) := by
  obtain ⟨hkd, hpin⟩ := hP g hg hgn
  unfold XX5_pinNow pk
  rw [chk_pos (by omega), chk_pos (by omega), inb_pos (by omega), nm_eq, show (3 * (g : Int) + (k : Int)).toNat = 3 * g + k by omega]
  by_cases q : (k : Int) < pinC (h 19 g).toNat
  · have := (hpin k hk).1 q
    rw [if_pos q, if_pos this.1, inb_pos (by omega)]
  · have := (hpin k hk).2 (by omega)
    rw [if_neg q, this, if_neg (by omega)]
theorem below_pin {h : Hp} (hT : Two h) {w : Nat} (h1 : sc 18 h ≤ w) (h2 : (w : Int) < wn 18 h) {k : Nat} (hk : (k : Int) < pinC (h 19 w).toNat) {m : Int} (hz : jand (h 24 w) m = 0) : jand (h 24 (h 20 (3 * w + k)).toNat) m = 0 := by
  have hH : Hang (sc 18 h) (wn 18 h) (h 19) (h 20) (fun w v => tb (h 24 w) v) := hT.2.2.1.2.1
  rw [tb_zero (jand_in _ _)] at hz ⊢
  intro c hc
  have := hz c hc
  rw [tb_jand] at this ⊢
  by_cases q : tb (h 24 (h 20 (3 * w + k)).toNat) c = true
  · have t9 : tb (h 24 w) c = true := (hH.2 w h1 h2 c).2 (Or.inr ⟨k, hk, q⟩)
    rw [t9] at this
    rw [q]; exact this
  · simp at q; rw [q]; rfl
theorem below_self {h : Hp} (hT : Two h) {w : Nat} (h2 : (w : Int) < wn 18 h) {m : Int} (hz : jand (h 24 w) m = 0) : tb m w = false := by
  have hH : Hang (sc 18 h) (wn 18 h) (h 19) (h 20) (fun w v => tb (h 24 w) v) := hT.2.2.1.2.1
  have hlt := Pl_lt (by decide) hT.1.1
  rw [tb_zero (jand_in _ _)] at hz
  have := hz w (by omega)
  rw [tb_jand, show tb (h 24 w) w = true from Hang_self hH h2] at this
  simpa using this
/-- the gates that hang on the points, worked out anew; then what is as it is due -/
theorem matching_ok {h g : Hp} (hT : Two h) (fg : ∀ a, (18 ≤ a ∧ a ≤ 21) → g a = h a) (cn : 0 ≤ g 40 8 ∧ g 40 8 ≤ 40) (hto : TO (fun w => ¬ Cone h w) (g 40 8).toNat (h 19) (h 20) (g 43)) : En (XX5_matching g) (fun r g2 => Eqx 42 g g2 ∧ Ev (Fw (h 19) (h 20)) (g 43) (g 40 8).toNat (g 42) (g2 42) ∧ r = smF (fun k => g2 42 (h 21 k).toNat) (g 203) (h 18 2 + h 18 1).toNat) := by
  have hN : Nums 40 18 h := hT.1.1
  have hP : PinOK (sc 18 h) (wn 18 h) (h 19) (h 20) := hT.1.2.1
  have hsn : ∀ k : Nat, (k : Int) < h 18 2 + h 18 1 → 0 ≤ h 21 k ∧ h 21 k < wn 18 h := hT.1.2.2.2.1
  obtain ⟨b0, b1, b2, b3, b4⟩ := Pl_lt (by decide) hN
  have hn6 : h 18 2 + h 18 1 ≤ 6 := by have := hN.2.2.1; have := hN.2.2.2.2.2.2.1; omega
  have hn0 : 0 ≤ h 18 2 + h 18 1 := by have := hN.2.2.2.2.2.1; have := hN.2.1; omega
  unfold XX5_matching XX5_matching_L2
  refine En_lup1 (fun l2 _ => (g 40 8 - l2).toNat) (fun i h2 => 0 ≤ i ∧ i ≤ g 40 8 ∧ Eqx 42 g h2 ∧ Ev (Fw (h 19) (h 20)) (g 43) i.toNat (g 42) (h2 42)) ?_ FU _ _ (by unfold FU; omega) ⟨by omega, by omega, Eqx_refl _ _, Ev_0⟩
  rintro self2 i h2 ih2 ⟨d0, d1, e2, d2⟩
  unfold XX5_matching_b2
  rw [show h2 40 = g 40 from e2 _ (by omega)]
  by_cases q2 : g 40 8 ≤ i
  · rw [if_pos q2]
    rw [show i.toNat = (g 40 8).toNat by omega] at d2
    clear ih2
    unfold XX5_matching_L68
    refine En_lup2 (fun _ l4 _ => (6 - l4).toNat) (fun l2 l4 h3 => h2 = h3 ∧ 0 ≤ l4 ∧ l4 ≤ h 18 2 + h 18 1 ∧ l2 = smF (fun k => h2 42 (h 21 k).toNat) (g 203) l4.toNat) ?_ FU _ _ _ (by unfold FU; omega) ⟨rfl, by omega, hn0, rfl⟩
    rintro self68 l2 l4 h3 ih68 ⟨rfl, m0, m1, m2⟩
    unfold XX5_matching_b68
    have x18 : h2 18 = h 18 := by rw [e2 18 (by omega), fg 18 (by omega)]
    rw [seenCount_eq (Nums_congr x18 hN), cal_eq, x18]
    by_cases q4 : h 18 2 + h 18 1 ≤ l4
    · rw [if_pos q4]
      exact En_some ⟨e2, d2, by rw [m2, show l4.toNat = (h 18 2 + h 18 1).toNat by omega]⟩
    · rw [if_neg q4]
      have t1 := hsn l4.toNat (by omega)
      rw [inb_pos (by omega), show h2 21 = h 21 by rw [e2 21 (by omega), fg 21 (by omega)], inb_pos (by omega), inb_pos (by omega), nm_eq, chk_pos (by omega), show h2 203 = g 203 from e2 _ (by omega)]
      refine ih68 _ _ _ (by omega) ⟨rfl, by omega, by omega, ?_⟩
      rw [show (l4 + 1).toNat = l4.toNat + 1 by omega, m2]
      rfl
  · rw [if_neg q2, inb_pos (by omega), nm_eq, show h2 43 = g 43 from e2 _ (by omega)]
    have hci := hto.1 i.toNat (by omega)
    obtain ⟨gt, hgi⟩ := Int.eq_ofNat_of_zero_le hci.1
    have hgN : (g 43 i.toNat).toNat = gt := by omega
    have hcg : Cone h gt := by rw [← hgN]; exact Classical.byContradiction hci.2
    have g1 := hcg.1
    have g2 := hcg.2.1
    rw [hgi, inb_pos (by omega)]
    have x19 : h2 19 = h 19 := by rw [e2 19 (by omega), fg 19 (by omega)]
    have x20 : h2 20 = h 20 := by rw [e2 20 (by omega), fg 20 (by omega)]
    have hPx : PinOK (sc 18 h) (wn 18 h) (h2 19) (h2 20) := by rw [x19, x20]; exact hP
    have w0 := pinNow_eq (h := h2) hPx b2 (g := gt) (k := 0) (by omega) (by omega) (by omega)
    have w1 := pinNow_eq (h := h2) hPx b2 (g := gt) (k := 1) (by omega) (by omega) (by omega)
    have w2 := pinNow_eq (h := h2) hPx b2 (g := gt) (k := 2) (by omega) (by omega) (by omega)
    simp only [show ((0 : Nat) : Int) = 0 from rfl, show ((1 : Nat) : Int) = 1 from rfl, show ((2 : Nat) : Int) = 2 from rfl] at w0 w1 w2
    rw [w0, cal_eq, w1, cal_eq, w2, cal_eq, made_eq, cal_eq, inb_pos (by omega), hm_eq, chk_pos (by omega), x19, x20, Int.toNat_natCast]
    refine ih2 _ _ (by omega) ⟨by omega, by omega, Eqx_wr e2 _ _, ?_⟩
    rw [show (i + 1).toNat = i.toNat + 1 by omega]
    refine Ev_step (Loc_w _ _) hto (by omega) d2 (fun k hk => ?_) (fun j hj k hk => ?_) ?_ ?_
    · rw [hgN] at hk ⊢
      have hb := pinC_b (h 19 gt).toNat
      exact (((hP gt (by omega) (by omega)).2 k (by omega)).1 hk).1
    · have hcj := Classical.byContradiction (hto.1 j (by omega)).2
      have hb := pinC_b (h 19 (g 43 j).toNat).toNat
      exact (((hP _ hcj.1 hcj.2.1).2 k (by omega)).1 hk).1
    · rw [hgN, wr_at]; rfl
    · intro w hw
      rw [hgN] at hw
      exact wr_o hw _
theorem mended_ok {h : Hp} (hT : Two h) (hA : Aim h) {part : Nat} (hp : part < 4) (hL : Loaded part h) {q : Int} : En (XX5_mended q h) (fun r h1 => r = mdW h (fcK (h 41) (h 40 4).toNat q) part ∧ Loaded part h1) := by
  have hN : Nums 40 18 h := hT.1.1
  have hP : PinOK (sc 18 h) (wn 18 h) (h 19) (h 20) := hT.1.2.1
  have hAc : Acy (sc 18 h) (wn 18 h) (h 19) (h 20) := hT.1.2.2.1
  have hsn : ∀ k : Nat, (k : Int) < h 18 2 + h 18 1 → 0 ≤ h 21 k ∧ h 21 k < wn 18 h := hT.1.2.2.2.1
  have hN2 : Nums 24 28 h := hT.2.1.1
  have hsn2 : ∀ k : Nat, (k : Int) < h 28 2 + h 28 1 → 0 ≤ h 31 k ∧ h 31 k < wn 28 h := hT.2.1.2.2.2.1
  have hW0 : WEq (sc 18 h) (wn 18 h) (h 19) (h 20) part noF (fun w => h 25 (4 * w + part)) := hT.2.2.1.2.2 part hp
  obtain ⟨b0, b1, b2, b3, b4⟩ := Pl_lt (by decide) hN
  obtain ⟨bb0, bb1, bb2, bb3, bb4⟩ := Pl_lt (by decide) hN2
  obtain ⟨a1, a2, a3, a4⟩ := hA
  obtain ⟨l1', l2', l3', l4', l5', l6'⟩ := hL
  have ptn : ∀ w : Nat, isK (h 41) w (h 40 4).toNat = -1 ↔ tb (h 40 5) w = false := by
    intro w
    rw [isK_none]
    constructor
    · intro hh
      refine Bool.eq_false_iff.mpr (fun ht => ?_)
      obtain ⟨k, hk, e⟩ := (a4 w).1 ht
      exact hh k (by omega) e
    · intro hh k hk e
      have := (a4 w).2 ⟨k, by omega, e⟩
      rw [hh] at this; cases this
  unfold XX5_mended XX5_mended_L2
  refine En_lup2 (fun _ l2 _ => (3 - l2).toNat) (fun l1 l2 h1 => q = l1 ∧ 0 ≤ l2 ∧ l2 ≤ h 40 4 ∧ Eqx 42 h h1 ∧ ∀ w : Nat, h1 42 w = if isK (h 41) w l2.toNat = -1 then h 42 w else if aand (ashr q (isK (h 41) w l2.toNat)) 1 = 1 then -1 else 0) ?_ FU _ _ _ (by unfold FU; omega) ⟨rfl, by omega, by omega, Eqx_refl _ _, fun w => rfl⟩
  rintro self2 l1 l2 h1 ih2 ⟨rfl, c0, c1, e1, c2⟩
  unfold XX5_mended_b2
  rw [show h1 40 = h 40 from e1 _ (by omega)]
  by_cases q1 : h 40 4 ≤ l2
  · rw [if_pos q1]
    rw [show l2.toNat = (h 40 4).toNat by omega] at c2
    clear ih2
    refine En_cal (matching_ok hT (g := h1) (fun a ha => e1 a (by omega)) (by rw [show h1 40 = h 40 from e1 _ (by omega)]; exact ⟨l2', l3'⟩) (by rw [show h1 40 = h 40 from e1 _ (by omega), show h1 43 = h 43 from e1 _ (by omega)]; exact l4')) (fun r h2 eh hr => ?_)
    obtain ⟨e2', d2, hr⟩ := hr
    have e2 : Eqx 42 h h2 := fun a ha => by rw [e2' a ha, e1 a ha]
    rw [show h1 40 = h 40 from e1 _ (by omega), show h1 43 = h 43 from e1 _ (by omega)] at d2
    obtain ⟨ev1, ev2⟩ := d2
    have nonc : ∀ w : Nat, ¬ Cone h w → h2 42 w = h1 42 w := fun w hw => ev1 w (fun j hj e => (l4'.1 j hj).2 (by rw [e]; exact hw))
    have still : ∀ w : Nat, (w : Int) < wn 18 h → ¬ Cone h w → tb (h 40 5) w = false → h2 42 w = h 25 (4 * w + part) := by
      intro w hw hnc hm
      rw [nonc w hnc, c2 w, if_pos ((ptn w).2 hm)]
      exact l6' w hw hnc hm
    have hWE : WEq (sc 18 h) (wn 18 h) (h 19) (h 20) part (fcK (h 41) (h 40 4).toNat q) (h2 42) := by
      refine ⟨fun w hw => ?_, fun w hw1 hw2 => ?_⟩
      · have hm : tb (h 40 5) w = false := Bool.eq_false_iff.mpr (fun ht => by
          obtain ⟨k, hk, e⟩ := (a4 w).1 ht
          have := a3 k hk; omega)
        rw [still w (by omega) (fun hc => by have := hc.1; omega) hm]
        exact hW0.1 w hw
      · unfold Ff fcK
        by_cases qm : isK (h 41) w (h 40 4).toNat = -1
        · rw [if_pos qm]
          have hm := (ptn w).1 qm
          by_cases qc : Cone h w
          · obtain ⟨j, hj, e⟩ := l5' w qc
            have := ev2 j (by omega)
            rw [e, Int.toNat_natCast] at this
            exact this
          · rw [still w hw2 qc hm]
            have h0 := hW0.2 w hw1 hw2
            show _ = Fw _ _ _ _
            have h0' : h 25 (4 * w + part) = Fw (h 19) (h 20) (fun w => h 25 (4 * w + part)) w := h0
            rw [h0']
            refine Loc_w _ _ _ _ w (fun k hk => ?_)
            have hb3 := pinC_b (h 19 w).toNat
            have hpk := ((hP w hw1 hw2).2 k (by omega)).1 hk
            have hz : jand (h 24 w) (h 40 5) = 0 := Classical.byContradiction (fun hne => qc ⟨hw1, hw2, hne, hm⟩)
            have hzp := below_pin hT hw1 hw2 hk hz
            exact (still _ (by omega) (fun hc => hc.2.2.1 hzp) (below_self hT (by omega) hzp)).symm
        · rw [if_neg qm]
          have hm : tb (h 40 5) w = true := by
            cases hh : tb (h 40 5) w
            · exact absurd ((ptn w).2 hh) qm
            · rfl
          rw [nonc w (fun hc => by rw [hc.2.2.2] at hm; cases hm), c2 w, if_neg qm]
    have hF : ∀ w : Nat, (w : Int) < wn 18 h → h2 42 w = fOl h (fcK (h 41) (h 40 4).toNat q) part w := solW_eq hP hAc hWE
    have hLd : Loaded part h2 := by
      have x19 : h2 19 = h 19 := e2 _ (by omega)
      have x20 : h2 20 = h 20 := e2 _ (by omega)
      have x43 : h2 43 = h 43 := e2 _ (by omega)
      have x40 : h2 40 = h 40 := e2 _ (by omega)
      have x25 : h2 25 = h 25 := e2 _ (by omega)
      have xC : Cone h2 = Cone h := Cone_congr (e2 _ (by omega)) (e2 _ (by omega)) (by rw [x40])
      unfold Loaded
      rw [x19, x20, x43, x40, x25, xC, wn_congr (e2 18 (by omega)), show h2 28 = h 28 from e2 _ (by omega), show h2 203 = h 203 from e2 _ (by omega), show h2 35 = h 35 from e2 _ (by omega), show h2 31 = h 31 from e2 _ (by omega)]
      exact ⟨l1', l2', l3', l4', l5', still⟩
    refine En_some ⟨?_, hLd⟩
    rw [hr]
    refine smF_congr (fun k hk => ⟨?_, ?_⟩)
    · have t1 := hsn k (by omega)
      exact hF _ (by omega)
    · have t2 := hsn2 k (by have := hT.2.2.2.2.2; omega)
      rw [show h1 203 = h 203 from e1 _ (by omega), l1' k (by have := hT.2.2.2.2.2; omega)]
      exact Two_wish hT (by omega) hp
  · rw [if_neg q1, inb_pos (by omega), show h1 41 = h 41 from e1 _ (by omega)]
    have hk := a3 l2.toNat (by omega)
    have st : ∀ v : Int, (v = if aand (ashr q l2) 1 = 1 then -1 else 0) → En (XX5_mended_p36 self2 q l2 (h 41 l2.toNat) v h1) (fun r h1 => r = mdW h (fcK (h 41) (h 40 4).toNat q) part ∧ Loaded part h1) := by
      intro v hv
      unfold XX5_mended_p36
      rw [inb_pos (by omega), hm_eq, chk_pos (by omega)]
      refine ih2 _ _ _ (by omega) ⟨rfl, by omega, by omega, Eqx_wr e1 _ _, fun w => ?_⟩
      rw [show (l2 + 1).toNat = l2.toNat + 1 by omega]
      by_cases qw : w = (h 41 l2.toNat).toNat
      · have hi : isK (h 41) w (l2.toNat + 1) = l2 := by
          show (if h 41 l2.toNat = (w : Int) then _ else _) = _
          rw [if_pos (by omega)]; omega
        rw [hi, if_neg (by omega), qw, wr_at, hv]
      · have hi : isK (h 41) w (l2.toNat + 1) = isK (h 41) w l2.toNat := by
          show (if h 41 l2.toNat = (w : Int) then _ else _) = _
          rw [if_neg (by omega)]
        rw [hi, wr_o qw]; exact c2 w
    by_cases qb : aand (ashr q l2) 1 = 1
    · rw [if_pos qb]; exact st _ (by rw [if_pos qb])
    · rw [if_neg qb]; exact st _ (by rw [if_neg qb])
