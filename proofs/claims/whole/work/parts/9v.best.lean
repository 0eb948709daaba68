theorem bestL_ok {P : Int → Hp → Prop} {a : Int} {m : Nat} (hm : m ≤ 3) {g : Hp} (h74 : g 143 74 = (m : Int)) (hP : ∀ f : Hp, (∀ y i, ¬ y = 195 → f y i = g y i) → (∀ j, j < m → f 195 j = g 196 j) → En (cal (XX12_finds a (-1) 1 m 0 f) (fun r9 h10 => cal (XX12_keepsPatch a (-1) 1 (h10 143 74) h10) (fun r11 h12 => some ((h12 143 73), h12)))) P) : En (XX12_best_L273 a 0 g) P := by
  unfold XX12_best_L273
  refine En_lup2 (fun _ l _ => (5 - l).toNat) (fun l1 l f => a = l1 ∧ 0 ≤ l ∧ l ≤ m ∧ (∀ y i, ¬ y = 195 → f y i = g y i) ∧ ∀ j : Nat, (j : Int) < l → f 195 j = g 196 j) ?_ FU _ _ _ (by unfold FU; omega) ⟨rfl, by omega, by omega, fun _ _ _ => rfl, fun j hj => by omega⟩
  rintro self l1 l f ih ⟨rfl, c0, c1, c2, c3⟩
  obtain ⟨l, rfl⟩ := Int.eq_ofNat_of_zero_le c0
  unfold XX12_best_b273
  rw [c2 143 74 (by omega), h74]
  by_cases q : (m : Int) ≤ l
  · rw [if_pos q]; exact hP f c2 (fun j hj => c3 j (by omega))
  · rw [if_neg q, inb_pos (by omega), inb_pos (by omega), hm_eq, chk_pos (by omega), Int.toNat_natCast]
    refine ih _ _ _ (by omega) ⟨rfl, by omega, by omega, fun y i hh => by rw [wq_ne (by omega)]; exact c2 y i hh, fun j hj => ?_⟩
    rw [wr_row]
    by_cases t : j = l
    · subst t; rw [if_pos rfl]; exact c2 196 j (by omega)
    · rw [if_neg t]; exact c3 j (by omega)
theorem m_best {n0 : Nat} {h : Hp} (hI : Inv n0 h) (a : Int) : Both n0 h (XX11_best a) (XX12_best a) := by
  obtain ⟨r1, h1, e1, ha⟩ := aim_ok (Inv_N0 hI) a (-1) (-1)
  have fa := fr_XX5_aim e1
  have gate : ∀ {g : Hp}, Wk g → XX12_isGate 0 a g = some (if sc 18 g ≤ a ∧ a < wn 18 g then 1 else 0, g) := fun w => by
    obtain ⟨r1, r2, r3, r4⟩ := Rel_s w.1
    rw [isGateM_eq (Wk_MS w).1.1 (by omega), r1, r3]
  have hpt : ptN h a (-1) (-1) = if sc 18 h ≤ a ∧ a < wn 18 h then 1 else 0 := by
    unfold ptN
    by_cases q : sc 18 h ≤ a ∧ a < wn 18 h
    · rw [if_pos q, if_pos ⟨q, Or.inl rfl, Or.inl rfl⟩, if_pos rfl]
    · rw [if_neg q, if_neg (fun t => q t.1)]
  rcases ha with ⟨hz, rfl, rfl⟩ | ⟨hp, rfl, hA, h404, h41⟩
  · have hno : ¬ (sc 18 h1 ≤ a ∧ a < wn 18 h1) := fun t => by rw [hpt, if_pos t] at hz; omega
    refine Both_ro (r := -1) ?_ ?_ hI
    · unfold XX11_best; rw [e1, cal_eq, if_pos rfl]
    · unfold XX12_best; rw [gate (Inv_Wk hI), cal_eq, if_neg hno, if_pos rfl]
  have hg : sc 18 h ≤ a ∧ a < wn 18 h := Decidable.byContradiction (fun t => by rw [hpt, if_neg t] at hp; omega)
  rw [hpt, if_pos hg] at h404
  have i1 : Inv n0 h1 := Inv_scr (fun a i hh => fa a i (by omega)) hI
  obtain ⟨r3, h3, e3, i3, T3, f3⟩ := refreshBoth_Inv i1
  have x18 : h3 18 = h1 18 := funext (fun i => by rw [f3 18 i (by omega)])
  have y18 : h3 18 = h 18 := x18.trans (funext (fun i => fa 18 i (by omega)))
  have A3 : Aim h3 := by
    unfold Aim
    rw [f3 40 4 (by omega), f3 40 5 (by omega), show h3 41 = h1 41 from funext (fun i => by rw [f3 41 i (by omega)]), sc_congr x18, wn_congr x18]
    exact hA
  have h340 : h3 40 4 = 1 := by rw [f3 40 4 (by omega)]; exact h404
  have h341 : ∀ k, k < 3 → h3 41 k = p3 a (-1) (-1) k := fun k hk => by rw [f3 41 k (by omega)]; exact h41 k hk
  have hg3 : sc 18 h3 ≤ a ∧ a < wn 18 h3 := by rw [sc_congr y18, wn_congr y18]; exact hg
  have lt3 := Pl_lt (by decide) (Inv_N0 i3)
  have hB3 : Hang (sc 18 h3) (wn 18 h3) (h3 19) (h3 20) (fun w v => tb (h3 24 w) v) := T3.2.2.1.2.1
  have hj14 := i3.2.2.2.2.2.2.2.2.2.2.2.2.2.2
  have hg0 : 0 ≤ a ∧ a < wn 18 h3 := by omega
  obtain ⟨r4, h4, e4, k4, l3, l46, l48⟩ := learn_ok T3 A3 i3.2.2.2.1.1 (by omega)
  obtain ⟨hVS, r7, h8, e8, F8, hr8⟩ := searchB_ok (x := h4) i3 T3 h340 h341 hg0 (fun y i hh => k4 y i (by omega)) (by rw [l3]; exact h340) (fun k hk => l46 k (by omega)) (fun q part hq hp => l48 q part (by rw [h340]; have : (2 : Int) ^ (1 : Int).toNat = 2 := by decide
                                                                                                                                                                                                              omega) hp)
  have E0 : XX11_best a h = (if r7 = 0 then cal (XX7_drop h8) (fun r11 h12 => some ((-4), h12)) else cal (XX7_keep h8) (fun r9 h10 => some ((h10 53 8), h10))) := by
    unfold XX11_best
    rw [e1, cal_eq, if_neg n10, e3, cal_eq, e4, cal_eq, e8, cal_eq]
  rcases hr8 with ⟨hz, rfl⟩ | ⟨hz, rfl, v8, s8, fd8⟩
  · -- no set does
    have E1 : XX11_best a h = some (-4, wr h8 56 0 0) := by
      rw [E0, if_pos rfl]
      unfold XX7_drop
      rw [zb_0, hm_eq, cal_eq]
    have oC : ∀ y i, ¬ (y = 56 ∧ i = 0) → wr h8 56 0 0 y i = h8 y i := fun y i hh => wq_ne hh
    have C56 : wr h8 56 0 0 56 0 = 0 := wr_at
    generalize wr h8 56 0 0 = hC at *
    have eC : EqB h3 hC := fun y i hh => by rw [oC y i (by omega), F8 y i (by omega)]
    have wC : Wk hC := Wk_tr (fun y i hh => eC y i (by omega)) (Inv_Wk i3)
    have jC : J14 hC := J14_tr (fun y i hh => by rw [oC y i (by omega), F8 y i (by omega)]) hj14
    have z18 : hC 18 = h3 18 := funext (fun i => eC 18 i (by omega))
    have M : En (XX12_best a hC) (fun r f => r = -4 ∧ f 143 23 = 0 ∧ J14 f ∧ ∀ y i, ¬ ((185 ≤ y ∧ y ≤ 197) ∨ (y = 143 ∧ (i = 23 ∨ 63 ≤ i ∧ i ≤ 64 ∨ 71 ≤ i ∧ i ≤ 74))) → f y i = hC y i) := by
      unfold XX12_best
      rw [gate wC, cal_eq, sc_congr z18, wn_congr z18, if_pos hg3, if_neg n10]
      refine listM i3 hB3 hg0 eC jC (fun gB g kB b23 eB cg => ?_)
      rcases cg.2.2 with ⟨_, z7⟩ | ⟨t, _⟩
      · rw [z7, if_pos rfl]
        exact En_some ⟨rfl, by rw [cg.1 143 23 (by omega)]; exact b23, cg.2.1, fun y i hh => by rw [cg.1 y i (by omega), kB y i (by omega)]⟩
      · omega
    obtain ⟨r, f, eF, rfl, f23, jf, kF⟩ := M
    exact Both_mk E1 eF (Inv_pat i3 (fun y i hh => by rw [kF y i (by omega), oC y i (by omega), F8 y i (by omega)]) (J6_tr (fun y i hh => by rw [kF y i (by omega), oC y i (by omega), F8 y i (by omega)]) i3.2.2.2.2.2.2.1) (J8_no (by rw [kF 56 0 (by omega)]; exact C56) f23) jf)
  · -- the best set
    obtain ⟨_, hV, hok⟩ := hVS.resolve_left (by omega)
    have tl := hV.1
    have hV2 := hV.2
    generalize hbs : bsB h3 a = st at *
    obtain ⟨sv, u, v, x⟩ := st
    have tl : TLp (wn 18 h3) u v x := tl
    have hV2 : ∀ j, j < tlM u v x → 0 ≤ h3 54 (p3 u v x j).toNat ∧ tb (h3 24 (p3 u v x j).toNat) a.toNat = false := hV2
    have hok : okB h3 a u v x := hok
    have hz : 0 ≤ sv := hz
    have v8 : h8 53 8 = sv := v8
    have s8 : FS h3 h8 (tlM u v x) 1 (p3 u v x) := s8
    have fd8 : FdA (ABB h3 a u v x) (tlM u v x) 1 (h8 45 11) (h8 52 0) (h8 52 1) := fd8
    have hm3 := tlM_le u v x
    have tlin := TLp_in tl
    have m4 : tlM u v x < 4 := by omega
    have hn : 1 ≤ 1 ∧ 1 ≤ 2 := by omega
    obtain ⟨r0, F, hFF⟩ := FdA_F (W := h8 52) fd8
    obtain ⟨hC, eC, kf, ⟨w0, w1, w3, w5, w8⟩, wk, wt, wT⟩ := keepC_ok m4 hn s8.2.2.1 s8.2.1.2.1 hFF
    have E1 : XX11_best a h = some (sv, hC) := by
      rw [E0, if_neg n10, eC, cal_eq, kf 53 8 (by omega), v8]
    have qC : EqB h3 hC := fun y i hh => by rw [kf y i (by omega), F8 y i (by omega)]
    have wC : Wk hC := Wk_tr (fun y i hh => qC y i (by omega)) (Inv_Wk i3)
    have jC : J14 hC := J14_tr (fun y i hh => by rw [kf y i (by omega), F8 y i (by omega)]) hj14
    have z18 : hC 18 = h3 18 := funext (fun i => qC 18 i (by omega))
    have M : En (XX12_best a hC) (fun r f => r = sv ∧ (∀ y i, ¬ ((185 ≤ y ∧ y ≤ 197) ∨ (159 ≤ y ∧ y ≤ 166) ∨ (y = 143 ∧ (23 ≤ i ∧ i ≤ 27 ∨ 63 ≤ i ∧ i ≤ 64 ∨ 71 ≤ i ∧ i ≤ 74))) → f y i = hC y i) ∧ (f 143 23 = 1 ∧ f 143 24 = 0 ∧ f 143 25 = ((1 : Nat) : Int) ∧ f 143 26 = ((tlM u v x : Nat) : Int) ∧ f 143 27 = ((nN (tlM u v x) 1 F : Nat) : Int)) ∧ (f 159 0 = a ∧ f 159 1 = -1) ∧ (∀ k, k < 1 → f 161 k = ((F k : Nat) : Int)) ∧ (∀ j, j < tlM u v x → f 160 j = p3 u v x j) ∧ TS 162 (tlM u v x) 1 F f ∧ J14 f) := by
      unfold XX12_best
      rw [gate wC, cal_eq, sc_congr z18, wn_congr z18, if_pos hg3, if_neg n10]
      refine listM i3 hB3 hg0 qC jC (fun gB g kB b23 eB cg => ?_)
      rw [hbs] at cg
      obtain ⟨cg1, cg2, cg3⟩ := cg
      rcases cg3 with ⟨t, _⟩ | ⟨_, z7, z74, z196⟩
      · have t : sv = -1 := t
        omega
      have z7 : g 143 73 = sv := z7
      have z74 : g 143 74 = (tlM u v x : Int) := z74
      have z196 : ∀ j, j < tlM u v x → g 196 j = p3 u v x j := z196
      rw [z7, if_neg (by omega)]
      refine bestL_ok hm3 z74 (fun g2 k2 v2 => ?_)
      have e2 : EqB h3 g2 := fun y i hh => by rw [k2 y i (by omega), cg1 y i (by omega)]; exact eB y i hh
      refine En_cal (findsB i3 e2 tl (J14_tr (fun y i hh => k2 y i (by omega)) cg2) (fun j hj => by rw [v2 j hj]; exact z196 j hj)) (fun r9 g3 _ hr => ?_)
      rcases hr with ⟨_, no, _⟩ | ⟨_, fd, j3, k3⟩
      · exact absurd hok no
      obtain ⟨u1, u2, _⟩ := FdA_uniq fd fd8
      have c74 : g3 143 74 = (tlM u v x : Int) := by rw [k3 143 74 (by omega), k2 143 74 (by omega)]; exact z74
      rw [c74]
      refine En_cal (keepM_ok (n := 1) (a := a) (b := -1) m4 hn (j3.1 _ m4) (F := F) ⟨by rw [u2]; exact (hFF 0 (by omega)).1, (hFF 0 (by omega)).2⟩ (fun t => by omega)) (fun r10 g4 _ h9 => ?_)
      obtain ⟨p1, p2, p3', p4, p5, p6, p7, p8⟩ := h9
      refine En_some ⟨by rw [p1 143 73 (by omega), k3 143 73 (by omega), k2 143 73 (by omega)]; exact z7, fun y i hh => by rw [p1 y i (by omega), k3 y i (by omega), k2 y i (by omega), cg1 y i (by omega), kB y i (by omega)], p2, p3', p4, fun j hj => by rw [p5 j hj, k3 195 j (by omega), v2 j hj]; exact z196 j hj, p6, J14_rck2 m4 j3 (fun y i hh => p1 y i (by omega)) p7 p8⟩
    obtain ⟨r, f, eF, rfl, kF, ⟨y23, y24, y25, y26, y27⟩, y159, y161, y160, yT, jf⟩ := M
    have k9 : ∀ y i, ¬ ((185 ≤ y ∧ y ≤ 197) ∨ (159 ≤ y ∧ y ≤ 166) ∨ (y = 143 ∧ (23 ≤ i ∧ i ≤ 27 ∨ 63 ≤ i ∧ i ≤ 64 ∨ 71 ≤ i ∧ i ≤ 74)) ∨ (56 ≤ y ∧ y ≤ 65) ∨ (42 ≤ y ∧ y ≤ 43) ∨ y = 203 ∨ (y = 40 ∧ 8 ≤ i ∧ i ≤ 9) ∨ (45 ≤ y ∧ y ≤ 52) ∨ (y = 53 ∧ 3 ≤ i) ∨ y = 55) → f y i = h3 y i := fun y i hh => by rw [kF y i (by omega), kf y i (by omega), F8 y i (by omega)]
    have c18 : f 18 = h3 18 := funext (fun i => k9 18 i (by omega))
    refine Both_mk E1 eF (Inv_pat i3 (fun y i hh => k9 y i (by omega)) (J6_tr (fun y i hh => k9 y i (by omega)) i3.2.2.2.2.2.2.1) ⟨by rw [y23, kF 56 0 (by omega)]; exact w0, by rw [kF 56 0 (by omega)]; exact Or.inr w0, fun _ => ?_⟩ jf)
    refine Pat_mk (n := 1) (F := F) (pt := p3 a (-1) (-1)) (tw := p3 u v x) m4 hn (fun k hk => (hFF k hk).2) ⟨by rw [kF 56 1 (by omega)]; exact w1, by rw [kF 56 3 (by omega)]; exact w3, by rw [kF 56 5 (by omega)]; exact w5, by rw [kF 56 8 (by omega)]; exact w8⟩ ⟨y24, y25, y26, y27⟩ (fun k hk => ⟨?_, ?_, ?_, ?_⟩) (fun k hk => ⟨by rw [kF 59 k (by omega)]; exact (wk k hk).2.1, y161 k hk, by rw [kF 60 k (by omega)]; exact (wk k hk).2.2⟩) (fun t => by omega) (fun j hj => ⟨by rw [kF 58 j (by omega), wt j hj]; exact s8.2.2.2.1 j hj, y160 j hj, ?_, ?_⟩) (TS_congr (fun y j hh => kF y j (by omega)) wT) yT (fun B hB j k hj hk => ?_)
    · rw [kF 57 k (by omega), (wk k hk).1, s8.2.2.2.2.1 k hk]; exact h341 k (by omega)
    · have : k = 0 := by omega
      subst this; exact y159.1
    · have : k = 0 := by omega
      subst this; rw [sc_congr c18]; exact hg3.1
    · have : k = 0 := by omega
      subst this; rw [wn_congr c18]; exact hg3.2
    · exact (tlin j hj).1
    · rw [wn_congr c18]; exact (tlin j hj).2
    · have : k = 0 := by omega
      subst this
      rw [sc_congr c18, wn_congr c18, show f 19 = h3 19 from funext (fun i => k9 19 i (by omega)), show f 20 = h3 20 from funext (fun i => k9 20 i (by omega))] at hB
      have hw := tlin j hj
      have := Hang_uniq (s := sc 18 h3) (n := wn 18 h3) i3.1.1.1.2.1 i3.1.1.1.2.2.1 hB hB3 (p3 u v x j).toNat (by omega) (p3 a (-1) (-1) 0).toNat
      rw [this]
      exact (hV2 j hj).2
