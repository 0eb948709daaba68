theorem pinWord_eq {p : Nat} {h : Hp} {s n : Int} (hP : PinOK s n (h (p + 1 + 1)) (h (p + 1 + 2))) (hn : n ≤ 48) {g k : Nat} (hg : s ≤ g) (hgn : (g : Int) < n) (hk : k < 3) {part : Int} (h0 : 0 ≤ part) (h1 : part < 4) :
    XX6_pinWord p g k part h = some (pk (h (p + 1 + 1)) (h (p + 1 + 2)) (fun w => h (p + 8) (4 * w + part.toNat)) g k, h) := by
  obtain ⟨hkd, hpin⟩ := hP g hg hgn
  unfold XX6_pinWord pk
  rw [chk_pos (by omega), chk_pos (by omega), inb_pos (by omega), nm_eq, show (3 * (g : Int) + (k : Int)).toNat = 3 * g + k by omega]
  by_cases q : (k : Int) < pinC (h (p + 1 + 1) g).toNat
  · have := (hpin k hk).1 q
    rw [if_pos q, if_pos this.1, chk_pos (by omega), chk_pos (by omega), inb_pos (by omega)]
    congr 4
    omega
  · have := (hpin k hk).2 (by omega)
    rw [if_neg q, this, if_neg (by omega)]
theorem fillWords_ok {lim : Int} {p : Nat} {h : Hp} (hl : lim ≤ 40) (hN : Nums lim (p + 1) h) (hP : PinOK (sc (p + 1) h) (wn (p + 1) h) (h (p + 1 + 1)) (h (p + 1 + 2))) (hO : Ord (sc (p + 1) h) (wn (p + 1) h) (h (p + 1 + 1)) (h (p + 1 + 2)) (h (p + 6))) :
    En (XX6_fillWords p h) (fun _ h1 => ∀ part : Nat, part < 4 → WEq (sc (p + 1) h) (wn (p + 1) h) (h (p + 1 + 1)) (h (p + 1 + 2)) part noF (fun w => h1 (p + 8) (4 * w + part))) := by
  obtain ⟨b0, b1, b2, b3, b4⟩ := Pl_lt hl hN
  have hg : h (p + 1) 3 = wn (p + 1) h - sc (p + 1) h := by omega
  have hg40 : h (p + 1) 3 ≤ lim := hN.2.2.2.2.2.2.2.2
  generalize hkd : h (p + 1 + 1) = kd at *
  generalize hpn : h (p + 1 + 2) = pn at *
  generalize hod : h (p + 6) = od at *
  generalize hs : sc (p + 1) h = s at *
  generalize hn : wn (p + 1) h = n at *
  unfold XX6_fillWords XX6_fillWords_L2
  refine En_lup1 (fun l1 _ => (4 - l1).toNat) (fun l1 h1 => 0 ≤ l1 ∧ l1 ≤ 4 ∧ Eqx (p + 8) h h1 ∧ ∀ part : Nat, (part : Int) < l1 → WEq s n kd pn part noF (fun w => h1 (p + 8) (4 * w + part))) ?_ FU _ _ (by unfold FU; omega) ⟨by omega, by omega, Eqx_refl _ _, fun w hw => by omega⟩
  rintro self2 pt h1 ih2 ⟨c0, c1, e1, c2⟩
  unfold XX6_fillWords_b2
  by_cases q : 4 ≤ pt
  · rw [if_pos q]; exact En_some (fun part hp => c2 part (by omega))
  rw [if_neg q]
  unfold XX6_fillWords_L9
  -- the sources
  refine En_lup2 (fun _ l2 _ => (s - l2).toNat) (fun l1 l2 h2 => l1 = pt ∧ 0 ≤ l2 ∧ l2 ≤ s ∧ Eqx (p + 8) h h2 ∧ (∀ part : Nat, (part : Int) < pt → ∀ w, h2 (p + 8) (4 * w + part) = h1 (p + 8) (4 * w + part)) ∧ (∀ w : Nat, (w : Int) < l2 → h2 (p + 8) (4 * w + pt.toNat) = srcW w pt)) ?_ FU _ _ _ (by unfold FU; omega) ⟨rfl, by omega, by omega, e1, fun _ _ _ => rfl, fun w hw => by omega⟩
  rintro self9 l1 l2 h2 ih9 ⟨rfl, d0, d1, e2, d2, d3⟩
  unfold XX6_fillWords_b9
  have g2 : h2 (p + 1) = h (p + 1) := e2 _ (by omega)
  rw [sources_eq (Nums_congr g2 hN), cal_eq, sc_congr g2, hs]
  by_cases q2 : s ≤ l2
  · rw [if_pos q2]
    have dS : ∀ w : Nat, (w : Int) < s → h2 (p + 8) (4 * w + l1.toNat) = srcW w l1 := fun w hw => d3 w (by omega)
    clear d3
    unfold XX6_fillWords_L43
    refine En_lup2 (fun _ l2 _ => (n - s - l2).toNat) (fun l1' i h3 => l1' = l1 ∧ 0 ≤ i ∧ i ≤ n - s ∧ Eqx (p + 8) h h3 ∧ (∀ part : Nat, (part : Int) < l1 → ∀ w, h3 (p + 8) (4 * w + part) = h1 (p + 8) (4 * w + part)) ∧ Ev (Fw kd pn) od i.toNat (fun w => h2 (p + 8) (4 * w + l1.toNat)) (fun w => h3 (p + 8) (4 * w + l1.toNat))) ?_ FU _ _ _ (by unfold FU; omega) ⟨rfl, by omega, by omega, e2, d2, Ev_0⟩
    rintro self43 l1' i h3 ih43 ⟨rfl, f0, f1, e3, f2, f3⟩
    unfold XX6_fillWords_b43
    have g3 : h3 (p + 1) = h (p + 1) := e3 _ (by omega)
    have k1 : h3 (p + 1 + 1) = kd := by rw [← hkd]; exact e3 _ (by omega)
    have k2 : h3 (p + 1 + 2) = pn := by rw [← hpn]; exact e3 _ (by omega)
    have k3 : h3 (p + 6) = od := by rw [← hod]; exact e3 _ (by omega)
    rw [g3, hg]
    by_cases q3 : n - s ≤ i
    · rw [if_pos q3, chk_pos (by omega)]
      have : i = n - s := by omega
      subst this
      obtain ⟨r1, r2⟩ := Ev_done (by omega) hO f3
      refine ih2 _ _ (by omega) ⟨by omega, by omega, e3, fun part hp => ?_⟩
      by_cases qp : (part : Int) < l1'
      · have := c2 part qp
        rw [show (fun w => h3 (p + 8) (4 * w + part)) = (fun w => h1 (p + 8) (4 * w + part)) from funext (fun w => f2 part qp w)]
        exact this
      · have : part = l1'.toNat := by omega
        subst this
        refine ⟨fun w hw => ?_, fun w hw hwn => ?_⟩
        · rw [show ((l1'.toNat : Nat) : Int) = l1' by omega, ← dS w hw]; exact r1 w hw
        · exact r2 w hw hwn
    · rw [if_neg q3, inb_pos (by omega), nm_eq, k3]
      have hoi := hO.2.1 i.toNat (by omega)
      obtain ⟨g, hgi⟩ := Int.eq_ofNat_of_zero_le (show 0 ≤ od i.toNat by omega)
      rw [hgi, chk_pos (by omega), chk_pos (by omega), inb_pos (by omega)]
      have hPx : PinOK s n (h3 (p + 1 + 1)) (h3 (p + 1 + 2)) := by rw [k1, k2]; exact hP
      have w0 := pinWord_eq (p := p) (h := h3) hPx b2 (g := g) (k := 0) (by omega) (by omega) (by omega) (part := l1') (by omega) (by omega)
      have w1 := pinWord_eq (p := p) (h := h3) hPx b2 (g := g) (k := 1) (by omega) (by omega) (by omega) (part := l1') (by omega) (by omega)
      have w2 := pinWord_eq (p := p) (h := h3) hPx b2 (g := g) (k := 2) (by omega) (by omega) (by omega) (part := l1') (by omega) (by omega)
      simp only [show ((0 : Nat) : Int) = 0 from rfl, show ((1 : Nat) : Int) = 1 from rfl, show ((2 : Nat) : Int) = 2 from rfl] at w0 w1 w2
      rw [w0, cal_eq, w1, cal_eq, w2, cal_eq, made_eq, cal_eq, inb_pos (by omega), hm_eq, chk_pos (by omega), k1, k2, Int.toNat_natCast]
      have hgN : (od i.toNat).toNat = g := by omega
      refine ih43 _ _ _ (by omega) ⟨rfl, by omega, by omega, Eqx_wr e3 _ _, fun part hp w => ?_, ?_⟩
      · rw [wr_o (by omega)]; exact f2 part hp w
      · rw [show (i + 1).toNat = i.toNat + 1 by omega]
        refine Ev_step (Loc_w kd pn) hO.1 (by omega) f3 (fun k hk => ?_) (fun j hj k hk => ?_) ?_ ?_
        · rw [hgN] at hk ⊢
          have hb := pinC_b (kd g).toNat
          exact (((hP g (by omega) (by omega)).2 k (by omega)).1 hk).1
        · have hoj := hO.2.1 j (by omega)
          have := hP (od j).toNat (by omega) (by omega)
          have hbj := pinC_b (kd (od j).toNat).toNat
          exact ((this.2 k (by omega)).1 hk).1
        · rw [hgN, show (4 * (g : Int) + l1').toNat = 4 * g + l1'.toNat by omega, wr_at]
          rfl
        · intro w hw
          rw [hgN] at hw
          exact wr_o (by omega) _
  · rw [if_neg q2, chk_pos (by omega), chk_pos (by omega), sourceWord_eq (by omega), cal_eq, inb_pos (by omega), hm_eq, chk_pos (by omega)]
    refine ih9 _ _ _ (by omega) ⟨rfl, by omega, by omega, Eqx_wr e2 _ _, fun part hp w => ?_, fun w hw => ?_⟩
    · rw [wr_o (by omega)]; exact d2 part hp w
    · by_cases qw : w = l2.toNat
      · subst qw
        rw [show (4 * l2 + l1).toNat = 4 * l2.toNat + l1.toNat by omega, wr_at, show ((l2.toNat : Nat) : Int) = l2 by omega]
      · rw [wr_o (by omega)]; exact d3 w (by omega)
/-- what a net that is fresh knows -/
def Cch (p : Nat) (h : Hp) : Prop :=
  Ord (sc (p + 1) h) (wn (p + 1) h) (h (p + 1 + 1)) (h (p + 1 + 2)) (h (p + 6)) ∧
  Hang (sc (p + 1) h) (wn (p + 1) h) (h (p + 1 + 1)) (h (p + 1 + 2)) (fun w v => tb (h (p + 7) w) v) ∧
  ∀ part : Nat, part < 4 → WEq (sc (p + 1) h) (wn (p + 1) h) (h (p + 1 + 1)) (h (p + 1 + 2)) part noF (fun w => h (p + 8) (4 * w + part))
def NetOK (lim : Int) (p : Nat) (h : Hp) : Prop := Pl lim (p + 1) h ∧ (h p 6 = 0 ∨ h p 6 = 1) ∧ (h p 6 = 1 → Cch p h)
theorem Cch_congr {p : Nat} {h h1 : Hp} (e : h1 (p + 1) = h (p + 1)) (e1 : h1 (p + 1 + 1) = h (p + 1 + 1)) (e2 : h1 (p + 1 + 2) = h (p + 1 + 2)) (e3 : h1 (p + 6) = h (p + 6)) (e4 : h1 (p + 7) = h (p + 7)) (e5 : h1 (p + 8) = h (p + 8)) (hc : Cch p h) : Cch p h1 := by
  unfold Cch; rw [sc_congr e, wn_congr e, e1, e2, e3, e4, e5]; exact hc
theorem refresh_ok {lim : Int} {p : Nat} {h : Hp} (hl : lim ≤ 40) (hK : NetOK lim p h) : En (XX6_refresh p h) (fun _ h1 => NetOK lim p h1 ∧ Cch p h1 ∧ h1 p 6 = 1 ∧ ∀ a i, ¬ ((a = p ∧ i = 6) ∨ a = p + 6 ∨ a = p + 7 ∨ a = p + 8) → h1 a i = h a i) := by
  refine En_mono (P := fun _ h1 => Cch p h1 ∧ h1 p 6 = 1) ?_ (fun r h1 e hc => ?_)
  · obtain ⟨hPl, hz, hc⟩ := hK
    unfold XX6_refresh
    by_cases q : h p 6 = 0
    · rw [if_pos q]
      obtain ⟨hN, hP, hA, _, _⟩ := hPl
      refine En_cal (sortGates_ok hl hN hP hA) (fun r1 h2 e2 hO => ?_)
      have f2 := fr_XX6_sortGates e2
      have x2 : ∀ a, a ≠ p + 6 → h2 a = h a := fun a ha => funext (fun i => f2 a i (by omega))
      have y1 := x2 (p + 1) (by omega)
      have y2 := x2 (p + 1 + 1) (by omega)
      have y3 := x2 (p + 1 + 2) (by omega)
      have hO2 : Ord (sc (p + 1) h2) (wn (p + 1) h2) (h2 (p + 1 + 1)) (h2 (p + 1 + 2)) (h2 (p + 6)) := by rw [sc_congr y1, wn_congr y1, y2, y3]; exact hO
      have hP2 : PinOK (sc (p + 1) h2) (wn (p + 1) h2) (h2 (p + 1 + 1)) (h2 (p + 1 + 2)) := by rw [sc_congr y1, wn_congr y1, y2, y3]; exact hP
      have hN2 := Nums_congr y1 hN
      refine En_cal (findBelow_ok hl hN2 hP2 hO2) (fun r3 h4 e4 hB => ?_)
      have f4 := fr_XX6_findBelow e4
      have x4 : ∀ a, a ≠ p + 7 → h4 a = h2 a := fun a ha => funext (fun i => f4 a i (by omega))
      have z1 := x4 (p + 1) (by omega)
      have z2 := x4 (p + 1 + 1) (by omega)
      have z3 := x4 (p + 1 + 2) (by omega)
      have z4 := x4 (p + 6) (by omega)
      have hO4 : Ord (sc (p + 1) h4) (wn (p + 1) h4) (h4 (p + 1 + 1)) (h4 (p + 1 + 2)) (h4 (p + 6)) := by rw [sc_congr z1, wn_congr z1, z2, z3, z4]; exact hO2
      have hP4 : PinOK (sc (p + 1) h4) (wn (p + 1) h4) (h4 (p + 1 + 1)) (h4 (p + 1 + 2)) := by rw [sc_congr z1, wn_congr z1, z2, z3]; exact hP2
      refine En_cal (fillWords_ok hl (Nums_congr z1 hN2) hP4 hO4) (fun r5 h6 e6 hW => ?_)
      have f6 := fr_XX6_fillWords e6
      have x6 : ∀ a, a ≠ p + 8 → h6 a = h4 a := fun a ha => funext (fun i => f6 a i (by omega))
      rw [zb_1, hm_eq]
      refine En_some ⟨?_, wr_at⟩
      have v1 : wr h6 p 6 1 (p + 1) = h4 (p + 1) := by rw [wr_ne (by omega)]; exact x6 _ (by omega)
      have v2 : wr h6 p 6 1 (p + 1 + 1) = h4 (p + 1 + 1) := by rw [wr_ne (by omega)]; exact x6 _ (by omega)
      have v3 : wr h6 p 6 1 (p + 1 + 2) = h4 (p + 1 + 2) := by rw [wr_ne (by omega)]; exact x6 _ (by omega)
      have v4 : wr h6 p 6 1 (p + 6) = h4 (p + 6) := by rw [wr_ne (by omega)]; exact x6 _ (by omega)
      have v5 : wr h6 p 6 1 (p + 7) = h4 (p + 7) := by rw [wr_ne (by omega)]; exact x6 _ (by omega)
      have v6 : wr h6 p 6 1 (p + 8) = h6 (p + 8) := wr_ne (by omega)
      unfold Cch
      rw [sc_congr v1, wn_congr v1, v2, v3, v4, v5, v6]
      refine ⟨hO4, ?_, hW⟩
      rw [sc_congr z1, wn_congr z1, z2, z3]; exact hB
    · rw [if_neg q]
      exact En_some ⟨hc (by omega), by omega⟩
  · have f := fr_XX6_refresh e
    refine ⟨⟨?_, Or.inr hc.2, fun _ => hc.1⟩, hc.1, hc.2, f⟩
    have x : ∀ a, a ≠ p → a ≠ p + 6 → a ≠ p + 7 → a ≠ p + 8 → h1 a = h a := fun a h1 h2 h3 h4 => funext (fun i => f a i (by omega))
    have := hK.1
    unfold Pl at this ⊢
    rw [sc_congr (x (p + 1) (by omega) (by omega) (by omega) (by omega)), wn_congr (x (p + 1) (by omega) (by omega) (by omega) (by omega)), x (p + 1 + 1) (by omega) (by omega) (by omega) (by omega), x (p + 1 + 2) (by omega) (by omega) (by omega) (by omega), x (p + 1 + 3) (by omega) (by omega) (by omega) (by omega), x (p + 1 + 4) (by omega) (by omega) (by omega) (by omega), x (p + 1) (by omega) (by omega) (by omega) (by omega)]
    exact ⟨Nums_congr (x (p + 1) (by omega) (by omega) (by omega) (by omega)) this.1, this.2⟩
