theorem J14_rck2 {m : Nat} (hm : m < 4) {h g : Hp} (j : J14 h) (k : ∀ a i, ((a = 155 ∨ a = 184) ∨ (a = 192 ∧ i ≠ m) ∨ (a = 193 ∧ ¬ (256 * m ≤ i ∧ i < 256 * m + 256))) → g a i = h a i) (z : g 192 m = 1) (c : ∀ f, f ≤ onN m → g 193 (256 * m + f) = ((cN m f : Nat) : Int)) : J14 g := by
  refine ⟨fun m' hm' => ?_, fun i hi => by rw [k 155 i (by omega)]; exact j.2.1 i hi, fun i hi => by rw [k 184 i (by omega)]; exact j.2.2 i hi⟩
  have hI' := (on_eq m' hm').1
  have h255 := (on_eq m' hm').2.2.1
  by_cases q : m' = m
  · subst q
    rw [z]
    exact ⟨Or.inr rfl, fun _ f hf => by rw [c f (by omega), cst_N hm (by omega)]⟩
  · rw [k 192 m' (by omega)]
    exact ⟨(j.1 m' hm').1, fun t f hf => by rw [k 193 _ (by omega)]; exact (j.1 m' hm').2 t f hf⟩
theorem TS_congr {b m n : Nat} {F : Nat → Nat} {g g2 : Hp} (e : ∀ a j, (b ≤ a ∧ a ≤ b + 4) → g2 a j = g a j) (t : TS b m n F g) : TS b m n F g2 := ⟨Nds_congr (fun a j h _ _ => e a j h) t.1, fun u => Nds_congr (fun a j h _ _ => e a j h) (t.2 u)⟩
theorem FdA_F {A : Nat → Nat → Prop} {m n : Nat} {r : Int} {W : Nat → Int} (h : FdA A m n r (W 0) (W 1)) : 0 ≤ r ∧ ∃ F : Nat → Nat, ∀ k, k < n → W k = ((F k : Nat) : Int) ∧ F k ≤ onN m := by
  rcases h with ⟨rfl, f, f1, f2, rfl⟩ | ⟨rfl, f, g, f1, f2, f3, rfl⟩
  · refine ⟨by omega, fun _ => f, fun k hk => ?_⟩
    have : k = 0 := by omega
    subst this; exact ⟨f2, f1.1⟩
  · refine ⟨by omega, fun k => if k = 0 then f else g, fun k hk => ?_⟩
    rcases (by omega : k = 0 ∨ k = 1) with rfl | rfl
    · exact ⟨f2, f1.1⟩
    · exact ⟨f3, f1.2.1⟩
theorem m_patch {n0 : Nat} {h : Hp} (hI : Inv n0 h) (a b u v x : Int) : Both n0 h (XX11_patch a b u v x) (XX12_patch a b u v x) := by
  obtain ⟨r1, h1, e1, ha⟩ := aim_ok (Inv_N0 hI) a b (-1)
  have fa := fr_XX5_aim e1
  rcases ha with ⟨hz, rfl, rfl⟩ | ⟨hp, rfl, hA, h404, h41⟩
  · refine Both_ro (r := -1) ?_ ?_ hI
    · unfold XX11_patch; rw [e1, cal_eq, if_pos rfl]
    · rw [patchM_front (Inv_Wk hI), if_neg (by omega)]
  have hp2 : ptN h a b (-1) ≤ 2 := by
    unfold ptN
    split
    · split
      · omega
      · rw [if_pos rfl]; omega
    · omega
  have hlt : ptN h a b (-1) = 2 → a < b := by
    unfold ptN
    split
    · next t =>
      split
      · intro hh; omega
      · next t2 => intro _; rcases t.2.1 with t3 | t3
                   · exact absurd t3 t2
                   · exact t3.2
    · intro hh; omega
  obtain ⟨n, hn0⟩ := Int.eq_ofNat_of_zero_le (show 0 ≤ ptN h a b (-1) by omega)
  rw [hn0] at hp hp2 h404 hlt
  have hn : 1 ≤ n ∧ n ≤ 2 := by omega
  have i1 : Inv n0 h1 := Inv_scr (fun a i hh => fa a i (by omega)) hI
  have hpt1 : ptN h1 a b (-1) = (n : Int) := by rw [ptN_congr (funext (fun i => fa 18 i (by omega)))]; exact hn0
  have htell := tell_ok (Inv_N0 i1) u v x
  by_cases hTL : ¬ TLp (wn 18 h1) u v x
  · rcases htell with ⟨t, _⟩ | ⟨_, e2⟩
    · exact absurd t hTL
    refine Both_mk (r := -1) (h1 := h1) (h2 := h1) ?_ ?_ (Inv_up i1)
    · unfold XX11_patch; rw [e1, cal_eq, if_neg n10, e2, cal_eq, if_pos rfl]
    · rw [patchM_front (Inv_Wk i1), if_neg (fun t => hTL t.2)]
  have hTL : TLp (wn 18 h1) u v x := Decidable.not_not.mp hTL
  rcases htell with ⟨_, g2, e2, g5, g47, f2⟩ | ⟨t, _⟩
  rotate_left
  · exact absurd hTL t
  have i2 : Inv n0 g2 := Inv_scr (fun a i hh => f2 a i (by omega)) i1
  obtain ⟨r3, h3, e3, i3, T3, f3⟩ := refreshBoth_Inv i2
  have x18 : h3 18 = h1 18 := funext (fun i => by rw [f3 18 i (by omega), f2 18 i (by omega)])
  have A3 : Aim h3 := by
    unfold Aim
    rw [f3 40 4 (by omega), f2 40 4 (by omega), f3 40 5 (by omega), f2 40 5 (by omega), show h3 41 = h1 41 from funext (fun i => by rw [f3 41 i (by omega), f2 41 i (by omega)]), sc_congr x18, wn_congr x18]
    exact hA
  have h340 : h3 40 4 = (n : Int) := by rw [f3 40 4 (by omega), f2 40 4 (by omega)]; exact h404
  have h341 : ∀ k, k < 3 → h3 41 k = p3 a b (-1) k := fun k hk => by rw [f3 41 k (by omega), f2 41 k (by omega)]; exact h41 k hk
  have hm3 : tlM u v x ≤ 3 := tlM_le u v x
  have h347 : ∀ k, k < 3 → h3 47 k = p3 u v x k := fun k hk => by rw [f3 47 k (by omega)]; exact g47 k hk
  have tlin := TLp_in hTL
  generalize hmm : tlM u v x = m at *
  have Tl3 : Tld h3 m := ⟨hm3, by rw [f3 45 5 (by omega)]; exact g5, fun j hj => by rw [h347 j (by omega), wn_congr x18]; exact tlin j hj⟩
  have ppt : ∀ k, k < n → sc 18 h3 ≤ p3 a b (-1) k ∧ p3 a b (-1) k < wn 18 h3 := fun k hk => by rw [← h341 k (by omega)]; exact A3.2.2.1 k (by omega)
  have lt3 := Pl_lt (by decide) (Inv_N0 i3)
  have hB3 : Hang (sc 18 h3) (wn 18 h3) (h3 19) (h3 20) (fun w v => tb (h3 24 w) v) := T3.2.2.1.2.1
  have m4 : m < 4 := by omega
  -- the model, from what the class leaves
  have model : ∀ (gC : Hp) (P : Int → Hp → Prop), (∀ y i, ((18 ≤ y ∧ y ≤ 22) ∨ (28 ≤ y ∧ y ≤ 32) ∨ (143 ≤ y ∧ y ≤ 202)) → gC y i = h3 y i) →
      ((∀ j k, j < m → k < n → tb (h3 24 (p3 u v x j).toNat) (p3 a b (-1) k).toNat = false) → ∀ g : Hp, (∀ y i, ¬ (y = 185 ∨ y = 195) → g y i = gC y i) → (∀ j, j < 3 → g 195 j = p3 u v x j) → En (cal (XX12_finds a b n m 1 g) (fun r6 h7 => zb 0 (hm (wr h7 143 23 0) (fun h8 => if r6 = (-4) then some ((-4), h8) else cal (XX12_keepsPatch a b n m h8) (fun r9 h10 => some (r6, h10)))))) P) →
      ((∃ j k, j < m ∧ k < n ∧ tb (h3 24 (p3 u v x j).toNat) (p3 a b (-1) k).toNat = true) → ∀ g : Hp, (∀ y i, ¬ (y = 185 ∨ y = 195) → g y i = gC y i) → P (-2) g) → En (XX12_patch a b u v x gC) P := by
    intro gC P eC hfin hring
    have wC : Wk gC := Wk_tr (fun a i hh => eC a i (by omega)) (Inv_Wk i3)
    have y18 : gC 18 = h3 18 := funext (fun i => eC 18 i (by omega))
    have hpt : ptN gC a b (-1) = (n : Int) := by rw [ptN_congr (y18.trans x18)]; exact hpt1
    rw [patchM_front wC, hpt, if_pos ⟨by omega, by rw [wn_congr (y18.trans x18)]; exact hTL⟩, hmm]
    have o195 : ∀ y i, ¬ (y = 195) → wr (wr (wr gC 195 0 u) 195 1 v) 195 2 x y i = gC y i := fun y i hy => by rw [wq_ne (by omega), wq_ne (by omega), wq_ne (by omega)]
    have v195 : ∀ j, j < 3 → wr (wr (wr gC 195 0 u) 195 1 v) 195 2 x 195 j = p3 u v x j := fun j hj => by
      rw [wr_row, wr_row, wr_row]
      unfold p3
      rcases (by omega : j = 0 ∨ j = 1 ∨ j = 2) with rfl | rfl | rfl <;> simp
    generalize wr (wr (wr gC 195 0 u) 195 1 v) 195 2 x = g0 at *
    have z18 : g0 18 = h3 18 := funext (fun i => by rw [o195 18 i (by omega), eC 18 i (by omega)])
    refine ringL_ok (Wk_tr (fun a i hh => o195 a i (by omega)) wC) (B := fun w v => tb (h3 24 w) v) ?_ hn hm3 (fun j hj => by rw [v195 j (by omega), wn_congr (z18.trans x18)]; exact tlin j hj) (fun k hk => by rw [wn_congr z18]; have := ppt k hk; omega) (fun hno g fg => ?_) (fun hyes g fg => ?_)
    · rw [sc_congr z18, wn_congr z18, show g0 19 = h3 19 from funext (fun i => by rw [o195 19 i (by omega), eC 19 i (by omega)]), show g0 20 = h3 20 from funext (fun i => by rw [o195 20 i (by omega), eC 20 i (by omega)])]
      exact hB3
    · refine hfin (fun j k hj hk => ?_) g (fun y i hy => by rw [fg y i (by omega), o195 y i (by omega)]) (fun j hj => by rw [fg 195 j (by omega)]; exact v195 j hj)
      have := hno j k hj hk
      rw [v195 j (by omega)] at this; exact this
    · obtain ⟨j, k, hj, hk, t⟩ := hyes
      rw [v195 j (by omega)] at t
      exact hring ⟨j, k, hj, hk, t⟩ g (fun y i hy => by rw [fg y i (by omega), o195 y i (by omega)])
  obtain ⟨r7, h7', e7, rfl, hring7⟩ := toldHangOn_ok T3 A3 Tl3
  have hg : Hgs h7' m (h7' 40 4).toNat (h7' 47) (h7' 41) ↔ ∃ j k, j < m ∧ k < n ∧ tb (h7' 24 (p3 u v x j).toNat) (p3 a b (-1) k).toNat = true := by
    unfold Hgs
    rw [h340, Int.toNat_natCast]
    exact ⟨fun ⟨j, k, h1, h2, t⟩ => ⟨j, k, h1, h2, by rw [← h347 j (by omega), ← h341 k (by omega)]; exact t⟩, fun ⟨j, k, h1, h2, t⟩ => ⟨j, k, h1, h2, by rw [h347 j (by omega), h341 k (by omega)]; exact t⟩⟩
  rw [hg] at hring7
  have E0 : ∀ Z, XX11_patch a b u v x h = Z ↔ (if r7 = 0 then cal (XX1_learn h7') (fun r9 h10 => cal (XX1_allow h10) (fun r11 h12 => if r11 = 0 then cal (XX1_findClash h12) (fun r17 h18 => hm (wr h18 16 13 (h18 45 12)) (fun h19 => hm (wr h19 16 14 (h19 45 13)) (fun h20 => cal (XX7_drop h20) (fun r21 h22 => some ((-4), h22))))) else cal (XX1_choose h12) (fun r13 h14 => cal (XX7_keep h14) (fun r15 h16 => some ((h16 45 11), h16))))) else some ((-2), h7')) = Z := by
    intro Z
    unfold XX11_patch
    rw [e1, cal_eq, if_neg n10, e2, cal_eq, if_neg n10, e3, cal_eq, e7, cal_eq]
  rcases hring7 with ⟨rfl, hyes⟩ | ⟨rfl, hno⟩
  · -- a told wire hangs on a point
    obtain ⟨r, F, eF, hr, hf⟩ := model h7' (fun r f => r = -2 ∧ ∀ y i, ¬ (y = 185 ∨ y = 195) → f y i = h7' y i) (fun _ _ _ => rfl) (fun hno g _ _ => by
      obtain ⟨j, k, h1, h2, t⟩ := hyes
      rw [hno j k h1 h2] at t; cases t) (fun _ g fg => ⟨rfl, fg⟩)
    subst hr
    exact Both_mk (r := -2) (h1 := h7') (h2 := F) (by rw [E0, if_neg n10]) eF (Inv_up (Inv_scr (fun a i hh => hf a i (by omega)) i3))
  have hno' : ∀ j k, j < m → k < n → tb (h7' 24 (p3 u v x j).toNat) (p3 a b (-1) k).toNat = false := fun j k h1 h2 => Bool.eq_false_iff.mpr (fun t => hno ⟨j, k, h1, h2, t⟩)
  obtain ⟨r4, h4, e4, k4, l3, l46, l48⟩ := learn_ok T3 A3 i3.2.2.2.1.1 (by omega)
  have npow : ((2 ^ n : Nat) : Int) = (2 : Int) ^ n := by rw [Int.natCast_pow]; rfl
  have s4 : FS h7' h4 m n (p3 u v x) := ⟨fun a i hh => k4 a i (by omega), ⟨hm3, by rw [k4 45 5 (by omega)]; exact Tl3.2.1, fun j hj => by rw [k4 47 j (by omega), wn_congr (show h4 18 = h7' 18 from funext (fun i => k4 18 i (by omega)))]; exact Tl3.2.2 j hj⟩, by rw [l3]; exact h340, fun j hj => by rw [k4 47 j (by omega)]; exact h347 j (by omega), fun k hk => l46 k (by omega), fun q part hq hp => l48 q part (by rw [h340, Int.toNat_natCast]; omega) hp⟩
  obtain ⟨r5, h5, e5, s5, hr5, f5⟩ := core_ok T3 i3.2.2.2.1.1 hn s4
  obtain ⟨c1, c2, c3, c4⟩ := FS_conv2 i3 s4 h340 hn h341 (g := h7') (fun _ _ _ => rfl)
  have AL4 : ∀ q p, q < 2 ^ n → (AL h4 m q p ↔ ALg (2 ^ (sM h7').toNat) (fun c => h7' 149 c = 0) (fun c => pT h7' (p3 u v x) c m) (mG h7' a b n) q p) := fun q p hq => by
    show ALg (h4 37 0).toNat _ _ _ q p ↔ _
    rw [c1]
    exact ALg_congr (fun c hc => c2 c (by omega)) (fun c _ => c3 c) (fun c hc => c4 q c hq (by omega)) p
  -- the model's words are these
  have gconv : ∀ g : Hp, (∀ y i, ((18 ≤ y ∧ y ≤ 22) ∨ (28 ≤ y ∧ y ≤ 32) ∨ (143 ≤ y ∧ y ≤ 149)) → g y i = h7' y i) → (∀ j, j < 3 → g 195 j = p3 u v x j) → sM g = sM h7' ∧ (fun c => g 149 c = 0) = (fun c => h7' 149 c = 0) ∧ (fun c => pT g (g 195) c m) = (fun c => pT h7' (p3 u v x) c m) ∧ mG g a b n = mG h7' a b n := fun g e et =>
    ⟨sM_congr (e 143 1 (by omega)) (e 143 2 (by omega)), funext (fun c => by rw [e 149 c (by omega)]), funext (fun c => pT_congr (fun a i ha => e a i (by omega)) (fun j hj => et j (by omega)) c), funext (fun q => funext (fun c => by unfold mG; rw [mdW_congr (h := h7') (fun a i hh => e a i (by omega))]))⟩
  have hj14 := i3.2.2.2.2.2.2.2.2.2.2.2.2.2.2
  rcases hr5 with ⟨rfl, ok, hch⟩ | ⟨rfl, bad⟩
  · -- a patch
    obtain ⟨r6, h6, e6, s6, hF, f6⟩ := hch
    have hF' : FdA (ALg (2 ^ (sM h7').toNat) (fun c => h7' 149 c = 0) (fun c => pT h7' (p3 u v x) c m) (mG h7' a b n)) m n (h6 45 11) (h6 52 0) (h6 52 1) := FdA_congr (fun q p hq _ => AL4 q p hq) hF
    obtain ⟨r0, F, hFF⟩ := FdA_F (W := h6 52) hF
    obtain ⟨h8, e8, kf, ⟨w0, w1, w3, w5, w8⟩, wk, wt, wT⟩ := keepC_ok m4 hn s6.2.2.1 s6.2.1.2.1 hFF
    have k8 : ∀ y i, ((18 ≤ y ∧ y ≤ 22) ∨ (28 ≤ y ∧ y ≤ 32) ∨ (143 ≤ y ∧ y ≤ 202)) → h8 y i = h7' y i := fun y i hh => by rw [kf y i (by omega), s6.1 y i (by omega)]
    have e45 : h8 45 11 = h6 45 11 := kf 45 11 (by omega)
    have E1 : XX11_patch a b u v x h = some (h6 45 11, h8) := by
      rw [E0, if_pos rfl, e4, cal_eq, e5, cal_eq, if_neg n10, e6, cal_eq, e8, cal_eq, e45]
    obtain ⟨r, f, eF, rfl, kF, ⟨y23, y24, y25, y26, y27⟩, y159, y161, y160, yT, y192, y193⟩ := model h8 (fun r f => r = h6 45 11 ∧ (∀ y i, ¬ (y = 185 ∨ (186 ≤ y ∧ y ≤ 191) ∨ (y = 192 ∧ i = m) ∨ (y = 193 ∧ 256 * m ≤ i ∧ i < 256 * m + 256) ∨ y = 194 ∨ y = 195 ∨ (159 ≤ y ∧ y ≤ 166) ∨ (y = 143 ∧ (23 ≤ i ∧ i ≤ 27 ∨ 63 ≤ i ∧ i ≤ 64 ∨ 71 ≤ i ∧ i ≤ 72))) → f y i = h8 y i) ∧ (f 143 23 = 1 ∧ f 143 24 = 0 ∧ f 143 25 = (n : Int) ∧ f 143 26 = (m : Int) ∧ f 143 27 = ((nN m n F : Nat) : Int)) ∧ (f 159 0 = a ∧ f 159 1 = b) ∧ (∀ k, k < n → f 161 k = ((F k : Nat) : Int)) ∧ (∀ j, j < m → f 160 j = p3 u v x j) ∧ TS 162 m n F f ∧ f 192 m = 1 ∧ ∀ y, y ≤ onN m → f 193 (256 * m + y) = ((cN m y : Nat) : Int)) k8 (fun _ g fg g195 => by
      have eg : ∀ y i, ((18 ≤ y ∧ y ≤ 22) ∨ (28 ≤ y ∧ y ≤ 32) ∨ (143 ≤ y ∧ y ≤ 149) ∨ y = 192 ∨ y = 193) → g y i = h7' y i := fun y i hh => by rw [fg y i (by omega), k8 y i (by omega)]
      obtain ⟨q1, q2, q3, q4⟩ := gconv g (fun y i hh => eg y i (by omega)) g195
      refine En_cal (finds_ok m4 hn (Or.inr rfl) (Wk_tr (fun a i hh => eg a i (by omega)) (Inv_Wk i3)) (fun j hj => by rw [g195 j (by omega), wn_congr ((funext (fun i => eg 18 i (by omega)) : g 18 = h7' 18).trans x18)]; exact tlin j hj) (by rw [eg 192 m (by omega)]; refine ⟨(hj14.1 m m4).1, fun t y hy => ?_⟩; rw [eg 193 _ (by omega)]; exact (hj14.1 m m4).2 t y hy)) (fun rr ff _ hr => ?_)
      rw [q1, q2, q3, q4] at hr
      rcases hr with ⟨_, _, cf, cc, ⟨cq, dq, z1, _, _, z2, _⟩, _⟩ | ⟨_, z1, z2, z3, z4⟩
      · exfalso
        refine Cl_no (m := m) (fun c => pT_lt _ _ _ _) (fun p hp => ?_) z1 z2
        obtain ⟨q, h1, h2⟩ := ok p hp
        exact ⟨q, h1, (AL4 q p h1).1 h2⟩
      · obtain ⟨u1, u2, u3⟩ := FdA_uniq z1 hF'
        rw [zb_0, hm_eq, if_neg (by omega)]
        have w23 : ∀ y i, ¬ (y = 143 ∧ i = 23) → wr ff 143 23 0 y i = ff y i := fun y i hh => wq_ne hh
        refine En_cal (keepM_ok (a := a) (b := b) (h := wr ff 143 23 0) m4 hn (by rw [w23 192 m (by omega), z3]; exact ⟨Or.inr rfl, fun _ y hy => by rw [w23 193 _ (by omega), cst_N m4 (by have := (on_eq m m4).1; omega)]; exact z4 y (by have := (on_eq m m4).1; omega)⟩) (F := F) ⟨by rw [w23 143 71 (by omega), u2]; exact (hFF 0 (by omega)).1, (hFF 0 (by omega)).2⟩ (fun t => ⟨by rw [w23 143 72 (by omega), u3 t]; exact (hFF 1 (by omega)).1, (hFF 1 (by omega)).2⟩)) (fun r9 f9 _ h9 => ?_)
        obtain ⟨v1, v2, v3, v4, v5, v6, v7, v8⟩ := h9
        refine En_some ⟨u1, fun y i hh => by rw [v1 y i (by omega), w23 y i (by omega), z2 y i (by omega), fg y i (by omega)], v2, v3, v4, fun j hj => by rw [v5 j hj, w23 195 j (by omega), z2 195 j (by omega)]; exact g195 j (by omega), v6, v7, v8⟩) (fun hyes => by
      obtain ⟨j, k, h1, h2, t⟩ := hyes
      rw [hno' j k h1 h2] at t; cases t)
    have k9 : ∀ y i, ¬ ((185 ≤ y ∧ y ≤ 191) ∨ (y = 192 ∧ i = m) ∨ (y = 193 ∧ 256 * m ≤ i ∧ i < 256 * m + 256) ∨ y = 194 ∨ y = 195 ∨ (159 ≤ y ∧ y ≤ 166) ∨ (y = 143 ∧ (23 ≤ i ∧ i ≤ 27 ∨ 63 ≤ i ∧ i ≤ 64 ∨ 71 ≤ i ∧ i ≤ 72)) ∨ (56 ≤ y ∧ y ≤ 65) ∨ (42 ≤ y ∧ y ≤ 43) ∨ y = 203 ∨ (y = 40 ∧ 8 ≤ i ∧ i ≤ 9) ∨ (45 ≤ y ∧ y ≤ 52) ∨ (y = 53 ∧ 3 ≤ i) ∨ y = 55) → f y i = h7' y i := fun y i hh => by rw [kF y i (by omega), kf y i (by omega), s6.1 y i (by omega)]
    have z18 : f 18 = h7' 18 := funext (fun i => k9 18 i (by omega))
    refine Both_mk E1 eF (Inv_pat i3 (fun y i hh => k9 y i (by omega)) (J6_tr (fun y i hh => k9 y i (by omega)) i3.2.2.2.2.2.2.1) ⟨by rw [y23, kF 56 0 (by omega)]; exact w0, by rw [kF 56 0 (by omega)]; exact Or.inr w0, fun _ => ?_⟩ (J14_rck2 m4 hj14 (fun y i hh => k9 y i (by omega)) y192 y193))
    refine Pat_mk (F := F) (pt := p3 a b (-1)) (tw := p3 u v x) m4 hn (fun k hk => (hFF k hk).2) ⟨by rw [kF 56 1 (by omega)]; exact w1, by rw [kF 56 3 (by omega)]; exact w3, by rw [kF 56 5 (by omega)]; exact w5, by rw [kF 56 8 (by omega)]; exact w8⟩ ⟨y24, y25, y26, y27⟩ (fun k hk => ⟨?_, ?_, ?_, ?_⟩) (fun k hk => ⟨by rw [kF 59 k (by omega)]; exact (wk k hk).2.1, y161 k hk, by rw [kF 60 k (by omega)]; exact (wk k hk).2.2⟩) (fun t => hlt (by omega)) (fun j hj => ⟨by rw [kF 58 j (by omega), wt j hj]; exact s6.2.2.2.1 j hj, y160 j hj, ?_, ?_⟩) (TS_congr (fun y j hh => kF y j (by omega)) wT) yT (fun B hB j k hj hk => ?_)
    · rw [kF 57 k (by omega), (wk k hk).1, s6.2.2.2.2.1 k hk]; exact h341 k (by omega)
    · rcases (by omega : k = 0 ∨ k = 1) with rfl | rfl
      · exact y159.1
      · exact y159.2
    · rw [sc_congr z18]; exact (ppt k hk).1
    · rw [wn_congr z18]; exact (ppt k hk).2
    · exact (tlin j hj).1
    · rw [wn_congr (z18.trans x18)]; exact (tlin j hj).2
    · rw [sc_congr z18, wn_congr z18, show f 19 = h7' 19 from funext (fun i => k9 19 i (by omega)), show f 20 = h7' 20 from funext (fun i => k9 20 i (by omega))] at hB
      have hw : 0 ≤ p3 u v x j ∧ p3 u v x j < wn 18 h7' := by rw [wn_congr x18]; exact tlin j hj
      have := Hang_uniq (s := sc 18 h7') (n := wn 18 h7') i3.1.1.1.2.1 i3.1.1.1.2.2.1 hB hB3 (p3 u v x j).toNat (by omega) (p3 a b (-1) k).toNat
      rw [this]; exact hno' j k hj hk
  · -- a clash
    have AL5 : ∀ q p, AL h5 m q p ↔ AL h4 m q p := fun q p => AL_congr f5 m q p
    have hex : ∃ c, c < (h5 37 0).toNat ∧ ClF (fun c => live h5 c = true) (fun c => pT h5 (h5 47) c m) (mF h5) n c := by
      obtain ⟨p, hp, hb⟩ := bad
      exact Cl_ex (m := m) ⟨p, hp, fun q hq t => hb q hq ((AL5 q p).1 t)⟩
    obtain ⟨r6, h6, e6, f6, hcl⟩ := findClash_ok (FS_Two T3 s5) (FS_Cas i3.2.2.2.1.1 s5) s5.2.1 hn s5.2.2.1 hex
    have e14 : wr h6 16 13 (h6 45 12) 45 13 = h6 45 13 := wq_ne (by omega)
    have E1 : XX11_patch a b u v x h = some (-4, wr (wr (wr h6 16 13 (h6 45 12)) 16 14 (h6 45 13)) 56 0 0) := by
      rw [E0, if_pos rfl, e4, cal_eq, e5, cal_eq, if_pos rfl, e6, cal_eq, hm_eq, e14, hm_eq]
      unfold XX7_drop
      rw [zb_0, hm_eq, cal_eq]
    have oC : ∀ y i, ¬ ((y = 16 ∧ 13 ≤ i ∧ i ≤ 14) ∨ (y = 56 ∧ i = 0)) → wr (wr (wr h6 16 13 (h6 45 12)) 16 14 (h6 45 13)) 56 0 0 y i = h6 y i := fun y i hh => by rw [wq_ne (by omega), wq_ne (by omega), wq_ne (by omega)]
    have C13 : wr (wr (wr h6 16 13 (h6 45 12)) 16 14 (h6 45 13)) 56 0 0 16 13 = h6 45 12 := by rw [wq_ne (by omega), wr_o (by decide), wr_at]
    have C14 : wr (wr (wr h6 16 13 (h6 45 12)) 16 14 (h6 45 13)) 56 0 0 16 14 = h6 45 13 := by rw [wq_ne (by omega), wr_at]
    have C56 : wr (wr (wr h6 16 13 (h6 45 12)) 16 14 (h6 45 13)) 56 0 0 56 0 = 0 := wr_at
    generalize wr (wr (wr h6 16 13 (h6 45 12)) 16 14 (h6 45 13)) 56 0 0 = hC at *
    have k8 : ∀ y i, ¬ ((y = 16 ∧ 13 ≤ i ∧ i ≤ 14) ∨ (y = 56 ∧ i = 0) ∨ (42 ≤ y ∧ y ≤ 43) ∨ y = 203 ∨ (y = 40 ∧ 8 ≤ i ∧ i ≤ 9) ∨ (45 ≤ y ∧ y ≤ 52) ∨ (y = 53 ∧ 3 ≤ i) ∨ y = 55) → hC y i = h7' y i := fun y i hh => by rw [oC y i (by omega), f6 y i (by omega), s5.1 y i (by omega)]
    obtain ⟨c1', c2', c3', c4'⟩ := FS_conv2 i3 s5 h340 hn h341 (g := h7') (fun _ _ _ => rfl)
    obtain ⟨r, f, eF, rfl, v21, v22, v23, kF⟩ := model hC (fun r f => r = -4 ∧ f 143 21 = h6 45 12 ∧ f 143 22 = h6 45 13 ∧ f 143 23 = 0 ∧ ∀ y i, ¬ ((185 ≤ y ∧ y ≤ 190) ∨ y = 194 ∨ y = 195 ∨ (y = 143 ∧ (21 ≤ i ∧ i ≤ 23 ∨ 63 ≤ i ∧ i ≤ 64))) → f y i = hC y i) (fun y i hh => k8 y i (by omega)) (fun _ g fg g195 => by
      have eg : ∀ y i, ((18 ≤ y ∧ y ≤ 22) ∨ (28 ≤ y ∧ y ≤ 32) ∨ (143 ≤ y ∧ y ≤ 149) ∨ y = 192 ∨ y = 193) → g y i = h7' y i := fun y i hh => by rw [fg y i (by omega), k8 y i (by omega)]
      obtain ⟨q1, q2, q3, q4⟩ := gconv g (fun y i hh => eg y i (by omega)) g195
      refine En_cal (finds_ok m4 hn (Or.inr rfl) (Wk_tr (fun a i hh => eg a i (by omega)) (Inv_Wk i3)) (fun j hj => by rw [g195 j (by omega), wn_congr ((funext (fun i => eg 18 i (by omega)) : g 18 = h7' 18).trans x18)]; exact tlin j hj) (by rw [eg 192 m (by omega)]; refine ⟨(hj14.1 m m4).1, fun t y hy => ?_⟩; rw [eg 193 _ (by omega)]; exact (hj14.1 m m4).2 t y hy)) (fun rr ff _ hr => ?_)
      rw [q1, q2, q3, q4] at hr
      rcases hr with ⟨rfl, z1, cf, cc, z2, z3⟩ | ⟨z1, _⟩
      · rw [c1'] at hcl
        obtain ⟨u1, u2⟩ := Cl_uniq z2 hcl (fun c hc => (c2' c (by omega)).symm) (fun c _ => (c3' c).symm) (fun q c h1 h2 => (c4' q c h1 (by omega)).symm)
        rcases z3 with ⟨t, _⟩ | ⟨_, z3, z4⟩
        · cases t
        rw [zb_0, hm_eq, if_pos rfl]
        exact En_some ⟨rfl, by rw [wq_ne (by omega), z3, u1], by rw [wq_ne (by omega), z4, u2], wr_at, fun y i hh => by rw [wq_ne (by omega), z1 y i (by omega), fg y i (by omega)]⟩
      · exfalso
        obtain ⟨p, hp, hb⟩ := bad
        obtain ⟨q, h1, h2⟩ := z1 p hp
        exact hb q h1 ((AL4 q p h1).2 h2)) (fun hyes => by
      obtain ⟨j, k, h1, h2, t⟩ := hyes
      rw [hno' j k h1 h2] at t; cases t)
    refine Both_mk E1 eF (Inv_pat i3 (fun y i hh => by rw [kF y i (by omega), k8 y i (by omega)]) ?_ (J8_no (by rw [kF 56 0 (by omega)]; exact C56) v23) (J14_tr (fun y i hh => by rw [kF y i (by omega), k8 y i (by omega)]) hj14))
    unfold J6
    rw [v21, v22, kF 16 13 (by omega), kF 16 14 (by omega), C13, C14]
    exact ⟨rfl, rfl⟩
