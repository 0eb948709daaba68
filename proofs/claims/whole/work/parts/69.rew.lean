theorem hasPin_eq {p : Nat} {h : Hp} {g : Int} (hg : 0 ≤ g ∧ g < 48) (hk : 0 ≤ h (p + 1) g.toNat ∧ h (p + 1) g.toNat ≤ 8) (x : Int) : XX8_hasPin p g x h = some (if 0 ≤ x ∧ x < pinC (h (p + 1) g.toNat).toNat then 1 else 0, h) := by
  unfold XX8_hasPin
  by_cases q : x < 0
  · rw [if_pos q, if_neg (by omega), zb_0]
  · rw [if_neg q, inb_pos (by omega), inb_pos (by omega)]
    by_cases q2 : pinC (h (p + 1) g.toNat).toNat ≤ x
    · rw [if_pos q2, if_neg (by omega), zb_0]
    · rw [if_neg q2, if_pos (by omega), zb_1]
/-- a pin becomes a wire that doesn't hang on the gate: no ring -/
theorem Acy_rewire {s n : Int} {kd pn pn2 : Nat → Int} (hP : PinOK s n kd pn) (hA : Acy s n kd pn) {B : Nat → Nat → Bool} (hB : Hang s n kd pn B) {g k : Nat} {v : Int} (hg : s ≤ g) (hgn : (g : Int) < n) (hk : (k : Int) < pinC (kd g).toNat) (hv : 0 ≤ v ∧ v < n) (hno : B v.toNat g = false)
    (e : ∀ j, pn2 j = if j = 3 * g + k then v else pn j) : Acy s n kd pn2 := by
  obtain ⟨rk, hr⟩ := hA
  -- those that hang on g come behind all others
  have hbd : ∃ M, ∀ w : Nat, (w : Int) < n → rk w < M := by
    have : ∀ m : Nat, ∃ M, ∀ w : Nat, w < m → rk w < M := by
      intro m
      induction m with
      | zero => exact ⟨0, fun w hw => absurd hw (Nat.not_lt_zero _)⟩
      | succ m ih =>
        obtain ⟨M, hM⟩ := ih
        refine ⟨M + rk m + 1, fun w hw => ?_⟩
        by_cases q : w = m
        · rw [q]; omega
        · have := hM w (by omega); omega
    obtain ⟨M, hM⟩ := this n.toNat
    exact ⟨M, fun w hw => hM w (by omega)⟩
  obtain ⟨M, hM⟩ := hbd
  have hb3 := fun w => pinC_b (kd w).toNat
  refine ⟨fun w => if B w g = true then rk w + M else rk w, fun w h1 h2 k2 hk2 => ?_⟩
  have hb := hb3 w
  rw [e]
  dsimp only
  by_cases q : 3 * w + k2 = 3 * g + k
  · have hbg := hb3 g
    have ew : w = g := by omega
    subst ew
    rw [if_pos q]
    refine Or.inr ?_
    rw [hno, if_neg (by decide), if_pos (Hang_self hB h2)]
    have := hM v.toNat (by omega); omega
  · rw [if_neg q]
    have hp := ((hP w h1 h2).2 k2 (by omega)).1 hk2
    rcases hr w h1 h2 k2 hk2 with t | t
    · exact Or.inl t
    · refine Or.inr ?_
      by_cases qb : B (pn (3 * w + k2)).toNat g = true
      · have : B w g = true := (hB.2 w h1 h2 g).2 (Or.inr ⟨k2, hk2, qb⟩)
        rw [if_pos qb, if_pos this]; omega
      · rw [if_neg qb]
        split
        · omega
        · exact t
theorem PinOK_rewire {s n : Int} {kd pn pn2 : Nat → Int} (hP : PinOK s n kd pn) {g k : Nat} {v : Int} (hk : (k : Int) < pinC (kd g).toNat) (hv : 0 ≤ v ∧ v < n)
    (e : ∀ j, pn2 j = if j = 3 * g + k then v else pn j) : PinOK s n kd pn2 := by
  intro w h1 h2
  refine ⟨(hP w h1 h2).1, fun k2 hk2 => ?_⟩
  have hbg := pinC_b (kd g).toNat
  rw [e]
  by_cases q : 3 * w + k2 = 3 * g + k
  · have ew : w = g := by omega
    have ek : k2 = k := by omega
    subst ew; subst ek
    rw [if_pos q]
    exact ⟨fun _ => hv, fun hh => by omega⟩
  · rw [if_neg q]; exact (hP w h1 h2).2 k2 hk2
def rB (p : Nat) (x1 x2 x3 : Int) (h2 : Hp) : OR := cal (XX8_isGate (p + 1) x1 h2) (fun r4 h5 => if r4 = 0 then some ((-1), h5) else cal (XX8_hasPin (p + 1) x1 x2 h5) (fun r6 h7 => if r6 = 0 then some ((-1), h7) else cal (XX8_isWire (p + 1) x3 h7) (fun r8 h9 => if r8 = 0 then some ((-1), h9) else cal (XX6_refresh p h9) (fun r10 h11 => cal (XX6_hangsOn p x3 x1 h11) (fun r12 h13 => if r12 = 0 then chk (3 * x1) (chk ((3 * x1) + x2) (nm ((3 * x1) + x2) (fun v14 => inb v14 144 (nm (h13 ((p + 1) + 2) v14.toNat) (fun v15 => inb v14 144 (hm (wr h13 ((p + 1) + 2) v14.toNat x3) (fun h16 => cal (XX11_changed p h16) (fun r17 h18 => some (v15, h18))))))))) else some ((-2), h13))))))
theorem rewN {n : Nat} {h : Hp} (hI : Inv n h) {e : Int} {p : Nat} {lim : Int} (hS : Side e p lim h) (x y z : Int) : Both n h (rB p x y z) (XX12_rewire e x y z) := by
  obtain ⟨hx, hN, s1, s2, s3, s4⟩ := id hS
  have hl : lim ≤ 40 := by omega
  have he : 0 ≤ e ∧ e < 2 := by omega
  have hMS := Inv_MS hI
  have l0 := Pl_lt hl hN.1.1
  by_cases q1 : sc (p + 1) h ≤ x ∧ x < wn (p + 1) h
  · obtain ⟨g, rfl⟩ := Int.eq_ofNat_of_zero_le (show 0 ≤ x by omega)
    have hk := (hN.1.2.1 g q1.1 q1.2).1
    have hb := pinC_b (h (p + 1 + 1) g).toNat
    by_cases q2 : 0 ≤ y ∧ y < pinC (h (p + 1 + 1) g).toNat
    · by_cases q3 : 0 ≤ z ∧ z < wn (p + 1) h
      · obtain ⟨k, rfl⟩ := Int.eq_ofNat_of_zero_le q2.1
        obtain ⟨r1, h1, e1, i1, hS1, c1, c2, c3⟩ := refresh_Inv hI hS
        have x18 : h1 (p + 1) = h (p + 1) := funext (fun i => c3 _ i (by omega))
        have xk : h1 (p + 1 + 1) = h (p + 1 + 1) := funext (fun i => c3 _ i (by omega))
        have xp : h1 (p + 1 + 2) = h (p + 1 + 2) := funext (fun i => c3 _ i (by omega))
        have hMS1 := Inv_MS i1
        -- the class as far as the ring
        have E0 : rB p g k z h = (if (if tb (h1 (p + 7) z.toNat) g = true then (1 : Int) else 0) = 0 then chk (3 * (g : Int)) (chk ((3 * (g : Int)) + k) (nm ((3 * (g : Int)) + k) (fun v14 => inb v14 144 (nm (h1 ((p + 1) + 2) v14.toNat) (fun v15 => inb v14 144 (hm (wr h1 ((p + 1) + 2) v14.toNat z) (fun h16 => cal (XX11_changed p h16) (fun r17 h18 => some (v15, h18))))))))) else some ((-2), h1)) := by
          unfold rB
          rw [isGate_eq hl hN.1.1, cal_eq, if1 q1, if_neg n10, hasPin_eq (by omega) (by rw [Int.toNat_natCast]; exact hk), cal_eq, Int.toNat_natCast, if1 q2, if_neg n10, isWire_eq hl hN.1.1, cal_eq, if1 q3, if_neg n10, e1, cal_eq, hangsOn_eq (by omega) (by omega), cal_eq, Int.toNat_natCast]
        -- the model as far as the ring, from any heap that is h1 but for what follows
        have M0 : ∀ h5 : Hp, Inv n h5 → Side e p lim h5 → Cch p h5 → (∀ a i, ((p + 1 ≤ a ∧ a ≤ p + 8) ∨ (143 ≤ a)) → h5 a i = h1 a i) → True := fun _ _ _ _ _ => trivial
        by_cases qr : tb (h1 (p + 7) z.toNat) g = true
        · obtain ⟨r2, h2, e2, rr, i2, f2⟩ := doesHang_Inv i1 hS1 c1 (w := z) (v := g) (by rw [wn_congr x18]; exact q3) (by rw [wn_congr x18]; omega)
          refine Both_mk (r := -2) (h1 := h1) (h2 := h2) ?_ ?_ (Inv_up i2)
          · rw [E0, if_pos qr, if_neg n10]
          · unfold XX12_rewire
            rw [isNet_eq, cal_eq, if1 (by omega), if_neg n10, isGateM_eq hMS1.1.1 he, cal_eq, hS1.2.2.1, hS1.2.2.2.1, sc_congr x18, wn_congr x18, if1 q1, if_neg n10, chk_pos (by omega), chk_pos (by omega), inb_pos (by omega), show (48 * e + (g : Int)).toNat = 48 * e.toNat + g by omega, show h1 145 (48 * e.toNat + g) = h (p + 1 + 1) g by rw [← xk]; exact hS1.2.2.2.2.1 g (by omega), pinsOf_eq hk.1 hk.2, cal_eq, chk_pos (by omega), in_eq, cal_eq, if1 (by omega), if_neg n10, isWireM_eq hMS1.1.1 he, cal_eq, hS1.2.2.2.1, wn_congr x18, if1 q3, if_neg n10, e2, cal_eq, rr, Int.toNat_natCast, if1 qr, if_neg n10]
        · -- the pin is changed
          have hpin := (((hN.1.2.1 g q1.1 q1.2).2 k (by omega)).1 (by omega))
          have hfr : ∃ h6, (rB p g k z h = some (h (p + 1 + 2) (3 * g + k), h6)) ∧ (∀ a i, ¬ ((a = p + 1 + 2) ∨ (a = p ∧ i = 6) ∨ (a = 56 ∧ i = 0) ∨ (e = 0 ∧ a = 72 ∧ i = 2)) → h6 a i = h1 a i) ∧ (∀ j, h6 (p + 1 + 2) j = if j = 3 * g + k then z else h1 (p + 1 + 2) j) ∧ h6 p 6 = 0 ∧ h6 56 0 = 0 ∧ (e = 0 → h6 72 2 = 0) := by
            have ex : rB p g k z h = cal (XX11_changed p (wr h1 (p + 1 + 2) (3 * g + k) z)) (fun r17 h18 => some (h (p + 1 + 2) (3 * g + k), h18)) := by
              rw [E0, if_neg qr, if_pos rfl, chk_pos (by omega), chk_pos (by omega), nm_eq, inb_pos (by omega), nm_eq, inb_pos (by omega), hm_eq, show (3 * (g : Int) + (k : Int)).toNat = 3 * g + k by omega, xp]
            rcases hx with ⟨rfl, rfl, rfl⟩ | ⟨rfl, rfl, rfl⟩
            · refine ⟨_, by rw [ex, changed17, cal_eq], fun a i hh => by rw [wq_ne (by omega), wq_ne (by omega), wq_ne (by omega), wq_ne (by omega)], fun j => ?_, by rw [wq_ne (by omega), wq_ne (by omega), wr_at], by rw [wq_ne (by omega), wr_at], fun _ => wr_at⟩
              rw [wq_ne (by omega), wq_ne (by omega), wq_ne (by omega)]
              by_cases qj : j = 3 * g + k
              · rw [if_pos qj, qj, wr_at]
              · rw [if_neg qj, wr_o qj]
            · refine ⟨_, by rw [ex, changed27, cal_eq], fun a i hh => by rw [wq_ne (by omega), wq_ne (by omega), wq_ne (by omega)], fun j => ?_, by rw [wq_ne (by omega), wr_at], by rw [wr_at], fun hh => by cases hh⟩
              rw [wq_ne (by omega), wq_ne (by omega)]
              by_cases qj : j = 3 * g + k
              · rw [if_pos qj, qj, wr_at]
              · rw [if_neg qj, wr_o qj]
          obtain ⟨h6, E6, f6, p6, z1, z2, z3⟩ := hfr
          -- the model's search for a ring runs over the model's own cells
          have hB : Hang (sM h6) (nM e h6) (kM e h6) (pM e h6) (fun w v => tb (h1 (p + 7) w) v) := by
            rw [sM_congr (f6 143 1 (by omega)) (f6 143 2 (by omega)), nM_congr (f6 143 1 (by omega)) (f6 143 2 (by omega)) (funext (fun i => f6 144 i (by omega))), kM_congr (funext (fun i => f6 145 i (by omega))), pM_congr (funext (fun i => f6 146 i (by omega))), hS1.2.2.1, hS1.2.2.2.1]
            exact Hang_congr (by rw [wn_congr x18]; omega) hS1.2.2.2.2.1 hS1.2.2.2.2.2 c1.2.1
          have hMO6 : MO h6 := MO_congr (f6 143 1 (by omega)) (f6 143 2 (by omega)) (f6 143 3 (by omega)) (funext (fun i => f6 144 i (by omega))) (funext (fun i => f6 145 i (by omega))) (funext (fun i => f6 146 i (by omega))) hMS1.1
          have n6 : nM e h6 = wn (p + 1) h := by rw [nM_congr (f6 143 1 (by omega)) (f6 143 2 (by omega)) (funext (fun i => f6 144 i (by omega))), hS1.2.2.2.1, wn_congr x18]
          have s6 : sM h6 = sc (p + 1) h := by rw [sM_congr (f6 143 1 (by omega)) (f6 143 2 (by omega)), hS1.2.2.1, sc_congr x18]
          obtain ⟨zz, hzz⟩ := Int.eq_ofNat_of_zero_le q3.1
          have hzz : z = (zz : Int) := hzz
          obtain ⟨r7, h7, e7, hr7⟩ := looks_ok hMO6.1 he (hMO6.2 e he).1 (hMO6.2 e he).2 hB (w := zz) (by omega)
          have f7 := fr_XX12_looks e7
          have v7 : h7 185 g = 0 := by
            rw [hr7 g (by omega), if_neg (by rw [show zz = z.toNat by omega]; exact qr)]
          have E7 : XX12_doesHang e z g h6 = some (0, h7) := by
            unfold XX12_doesHang
            rw [hzz, e7, cal_eq, inb_pos (by omega), Int.toNat_natCast, v7, zb_0]
          have f77 : ∀ a i, a ≠ 185 → h7 a i = h6 a i := fun a i ha => f7 a i (by omega)
          have k145 : h6 145 (48 * e.toNat + g) = h (p + 1 + 1) g := by rw [f6 145 _ (by omega), ← xk]; exact hS1.2.2.2.2.1 g (by omega)
          have p146 : h7 146 (144 * e.toNat + (3 * g + k)) = h (p + 1 + 2) (3 * g + k) := by rw [f77 146 _ (by omega), f6 146 _ (by omega), ← xp]; exact hS1.2.2.2.2.2 _ (by omega)
          have Mx : XX12_rewire e g k z h6 = cal (XX12_changed e (wr h7 146 (144 * e.toNat + (3 * g + k)) z)) (fun r16 h17 => some (h (p + 1 + 2) (3 * g + k), h17)) := by
            unfold XX12_rewire
            rw [isNet_eq, cal_eq, if1 (by omega), if_neg n10, isGateM_eq hMO6.1 he, cal_eq, s6, n6, if1 q1, if_neg n10, chk_pos (by omega), chk_pos (by omega), inb_pos (by omega), show (48 * e + (g : Int)).toNat = 48 * e.toNat + g by omega, k145, pinsOf_eq hk.1 hk.2, cal_eq, chk_pos (by omega), in_eq, cal_eq, if1 (by omega), if_neg n10, isWireM_eq hMO6.1 he, cal_eq, n6, if1 q3, if_neg n10, E7, cal_eq, if_pos rfl, chk_pos (by omega), chk_pos (by omega), chk_pos (by omega), chk_pos (by omega), nm_eq, inb_pos (by omega), nm_eq, inb_pos (by omega), hm_eq, show (3 * (48 * e + (g : Int)) + (k : Int)).toNat = 144 * e.toNat + (3 * g + k) by omega, p146]
          have hPn : PinOK (sc (p + 1) h) (wn (p + 1) h) (h (p + 1 + 1)) (fun j => if j = 3 * g + k then z else h (p + 1 + 2) j) := PinOK_rewire hN.1.2.1 (by omega) q3 (fun j => rfl)
          have hAn : Acy (sc (p + 1) h) (wn (p + 1) h) (h (p + 1 + 1)) (fun j => if j = 3 * g + k then z else h (p + 1 + 2) j) := by
            refine Acy_rewire hN.1.2.1 hN.1.2.2.1 (B := fun w v => tb (h1 (p + 7) w) v) ?_ q1.1 q1.2 (by omega) q3 (by simpa using qr) (fun j => rfl)
            have := c1.2.1
            rw [sc_congr x18, wn_congr x18, xk, xp] at this
            exact this
          rcases hx with ⟨rfl, rfl, rfl⟩ | ⟨rfl, rfl, rfl⟩
          · refine Both_mk (r := h 20 (3 * g + k)) (h1 := h6) (h2 := wr (wr (wr h7 146 (144 * (0 : Int).toNat + (3 * g + k)) z) 143 23 0) 143 36 0) E6 (by rw [Mx, changedM0, cal_eq]) ?_
            have e8 : ∀ a i, ¬ (a = 20 ∨ (a = 17 ∧ i = 6) ∨ (23 ≤ a ∧ a ≤ 25) ∨ (a = 56 ∧ i = 0) ∨ (a = 72 ∧ i = 2) ∨ a = 146 ∨ a = 185 ∨ (a = 143 ∧ (i = 23 ∨ i = 36))) → wr (wr (wr h7 146 (144 * (0 : Int).toNat + (3 * g + k)) z) 143 23 0) 143 36 0 a i = h a i := fun a i hh => by rw [wq_ne (by omega), wq_ne (by omega), wq_ne (by omega), f77 a i (by omega), f6 a i (by omega), c3 a i (by omega)]
            have p20 : ∀ j, wr (wr (wr h7 146 (144 * (0 : Int).toNat + (3 * g + k)) z) 143 23 0) 143 36 0 20 j = if j = 3 * g + k then z else h 20 j := fun j => by
              rw [wq_ne (by omega), wq_ne (by omega), wq_ne (by omega), f77 20 j (by omega)]
              have := p6 j
              rw [xp] at this
              exact this
            have p146' : ∀ j, wr (wr (wr h7 146 (144 * (0 : Int).toNat + (3 * g + k)) z) 143 23 0) 143 36 0 146 j = if j = 3 * g + k then z else h 146 j := fun j => by
              rw [wq_ne (by omega), wq_ne (by omega), show 144 * (0 : Int).toNat + (3 * g + k) = 3 * g + k by simp]
              by_cases qj : j = 3 * g + k
              · rw [if_pos qj, qj, wr_at]
              · rw [if_neg qj, wr_o qj, f77 146 j (by omega), f6 146 j (by omega), c3 146 j (by omega)]
            have w1 : wr (wr (wr h7 146 (144 * (0 : Int).toNat + (3 * g + k)) z) 143 23 0) 143 36 0 17 6 = 0 := by rw [wq_ne (by omega), wq_ne (by omega), wq_ne (by omega), f77 17 6 (by omega)]; exact z1
            have w2 : wr (wr (wr h7 146 (144 * (0 : Int).toNat + (3 * g + k)) z) 143 23 0) 143 36 0 56 0 = 0 := by rw [wq_ne (by omega), wq_ne (by omega), wq_ne (by omega), f77 56 0 (by omega)]; exact z2
            have w3 : wr (wr (wr h7 146 (144 * (0 : Int).toNat + (3 * g + k)) z) 143 23 0) 143 36 0 72 2 = 0 := by rw [wq_ne (by omega), wq_ne (by omega), wq_ne (by omega), f77 72 2 (by omega)]; exact z3 rfl
            have w4 : wr (wr (wr h7 146 (144 * (0 : Int).toNat + (3 * g + k)) z) 143 23 0) 143 36 0 143 23 = 0 := by rw [wq_ne (by omega), wr_at]
            have w5 : wr (wr (wr h7 146 (144 * (0 : Int).toNat + (3 * g + k)) z) 143 23 0) 143 36 0 143 36 = 0 := wr_at
            generalize wr (wr (wr h7 146 (144 * (0 : Int).toNat + (3 * g + k)) z) 143 23 0) 143 36 0 = f at *
            have y18 : f 18 = h 18 := funext (fun i => e8 18 i (by omega))
            refine Inv_chg0 hI (fun a i hh => e8 a i (by omega)) w1 w2 w3 w4 w5 ?_ ?_ (J2_tr (fun a i hh => e8 a i (by omega)) hI.2.2.1) (by rw [wn_congr y18]; exact Int.le_refl _)
            · have hP := hI.1.1.1
              unfold Pl at hP ⊢
              rw [sc_congr y18, wn_congr y18, y18, show f (18 + 1) = h (18 + 1) from funext (fun i => e8 _ i (by omega)), show f (18 + 2) = (fun j => if j = 3 * g + k then z else h 20 j) from funext p20, show f (18 + 3) = h (18 + 3) from funext (fun i => e8 _ i (by omega)), show f (18 + 4) = h (18 + 4) from funext (fun i => e8 _ i (by omega))]
              exact ⟨Nums_congr y18 hP.1, hPn, hAn, hP.2.2.2.1, hP.2.2.2.2⟩
            · obtain ⟨a1, a2, a3, a4, a5, a6, a7⟩ := hI.2.1
              unfold RelN
              rw [y18, show f 28 = h 28 from funext (fun i => e8 28 i (by omega)), show f 19 = h 19 from funext (fun i => e8 19 i (by omega)), show f 21 = h 21 from funext (fun i => e8 21 i (by omega)), show f 29 = h 29 from funext (fun i => e8 29 i (by omega)), show f 30 = h 30 from funext (fun i => e8 30 i (by omega)), show f 31 = h 31 from funext (fun i => e8 31 i (by omega)), show f 144 = h 144 from funext (fun i => e8 144 i (by omega)), show f 145 = h 145 from funext (fun i => e8 145 i (by omega)), e8 143 1 (by omega), e8 143 2 (by omega), e8 143 3 (by omega)]
              refine ⟨a1, a2, a3, a4, fun j hj => ?_, fun j hj => ?_, fun k2 hk2 => ?_⟩
              · rw [p146', p20]; split
                · rfl
                · exact a5 j hj
              · rw [p146', if_neg (by omega)]; exact a6 j hj
              · rw [sn_congr (e8 143 3 (by omega)) (funext (fun i => e8 147 i (by omega))) (funext (fun i => e8 148 i (by omega))), sn_congr (e8 143 3 (by omega)) (funext (fun i => e8 147 i (by omega))) (funext (fun i => e8 148 i (by omega)))]
                exact a7 k2 hk2
          · refine Both_mk (r := h 30 (3 * g + k)) (h1 := h6) (h2 := wr (wr (wr h7 146 (144 * (1 : Int).toNat + (3 * g + k)) z) 143 23 0) 143 36 ((wr h7 146 (144 * (1 : Int).toNat + (3 * g + k)) z) 143 36)) E6 (by rw [Mx, changedM1, cal_eq]) ?_
            have h36 : (wr h7 146 (144 * (1 : Int).toNat + (3 * g + k)) z) 143 36 = h 143 36 := by rw [wq_ne (by omega), f77 143 36 (by omega), f6 143 36 (by omega), c3 143 36 (by omega)]
            rw [h36]
            have e8 : ∀ a i, ¬ (a = 30 ∨ (a = 27 ∧ i = 6) ∨ (33 ≤ a ∧ a ≤ 35) ∨ (a = 56 ∧ i = 0) ∨ a = 146 ∨ a = 185 ∨ (a = 143 ∧ i = 23)) → wr (wr (wr h7 146 (144 * (1 : Int).toNat + (3 * g + k)) z) 143 23 0) 143 36 (h 143 36) a i = h a i := fun a i hh => by
              by_cases qa : a = 143 ∧ i = 36
              · rw [qa.1, qa.2, wr_at]
              · rw [wq_ne qa, wq_ne (by omega), wq_ne (by omega), f77 a i (by omega), f6 a i (by omega), c3 a i (by omega)]
            have p30 : ∀ j, wr (wr (wr h7 146 (144 * (1 : Int).toNat + (3 * g + k)) z) 143 23 0) 143 36 (h 143 36) 30 j = if j = 3 * g + k then z else h 30 j := fun j => by
              rw [wq_ne (by omega), wq_ne (by omega), wq_ne (by omega), f77 30 j (by omega)]
              have := p6 j
              rw [xp] at this
              exact this
            have p146' : ∀ j, wr (wr (wr h7 146 (144 * (1 : Int).toNat + (3 * g + k)) z) 143 23 0) 143 36 (h 143 36) 146 j = if j = 144 + (3 * g + k) then z else h 146 j := fun j => by
              rw [wq_ne (by omega), wq_ne (by omega), show 144 * (1 : Int).toNat + (3 * g + k) = 144 + (3 * g + k) by simp]
              by_cases qj : j = 144 + (3 * g + k)
              · rw [if_pos qj, qj, wr_at]
              · rw [if_neg qj, wr_o qj, f77 146 j (by omega), f6 146 j (by omega), c3 146 j (by omega)]
            have w1 : wr (wr (wr h7 146 (144 * (1 : Int).toNat + (3 * g + k)) z) 143 23 0) 143 36 (h 143 36) 27 6 = 0 := by rw [wq_ne (by omega), wq_ne (by omega), wq_ne (by omega), f77 27 6 (by omega)]; exact z1
            have w2 : wr (wr (wr h7 146 (144 * (1 : Int).toNat + (3 * g + k)) z) 143 23 0) 143 36 (h 143 36) 56 0 = 0 := by rw [wq_ne (by omega), wq_ne (by omega), wq_ne (by omega), f77 56 0 (by omega)]; exact z2
            have w4 : wr (wr (wr h7 146 (144 * (1 : Int).toNat + (3 * g + k)) z) 143 23 0) 143 36 (h 143 36) 143 23 = 0 := by rw [wq_ne (by omega), wr_at]
            generalize wr (wr (wr h7 146 (144 * (1 : Int).toNat + (3 * g + k)) z) 143 23 0) 143 36 (h 143 36) = f at *
            have y28 : f 28 = h 28 := funext (fun i => e8 28 i (by omega))
            refine Inv_chg1 hI (fun a i hh => e8 a i (by omega)) w1 w2 w4 ?_ ?_
            · have hP := hI.1.2.1.1
              unfold Pl at hP ⊢
              rw [sc_congr y28, wn_congr y28, y28, show f (28 + 1) = h (28 + 1) from funext (fun i => e8 _ i (by omega)), show f (28 + 2) = (fun j => if j = 3 * g + k then z else h 30 j) from funext p30, show f (28 + 3) = h (28 + 3) from funext (fun i => e8 _ i (by omega)), show f (28 + 4) = h (28 + 4) from funext (fun i => e8 _ i (by omega))]
              exact ⟨Nums_congr y28 hP.1, hPn, hAn, hP.2.2.2.1, hP.2.2.2.2⟩
            · obtain ⟨a1, a2, a3, a4, a5, a6, a7⟩ := hI.2.1
              unfold RelN
              rw [y28, show f 18 = h 18 from funext (fun i => e8 18 i (by omega)), show f 19 = h 19 from funext (fun i => e8 19 i (by omega)), show f 20 = h 20 from funext (fun i => e8 20 i (by omega)), show f 21 = h 21 from funext (fun i => e8 21 i (by omega)), show f 29 = h 29 from funext (fun i => e8 29 i (by omega)), show f 31 = h 31 from funext (fun i => e8 31 i (by omega)), show f 144 = h 144 from funext (fun i => e8 144 i (by omega)), show f 145 = h 145 from funext (fun i => e8 145 i (by omega)), e8 143 1 (by omega), e8 143 2 (by omega), e8 143 3 (by omega)]
              refine ⟨a1, a2, a3, a4, fun j hj => ?_, fun j hj => ?_, fun k2 hk2 => ?_⟩
              · rw [p146', if_neg (by omega)]; exact a5 j hj
              · rw [p146', p30]
                by_cases qj : j = 3 * g + k
                · rw [if_pos qj, if_pos (by omega)]
                · rw [if_neg qj, if_neg (by omega)]; exact a6 j hj
              · rw [sn_congr (e8 143 3 (by omega)) (funext (fun i => e8 147 i (by omega))) (funext (fun i => e8 148 i (by omega))), sn_congr (e8 143 3 (by omega)) (funext (fun i => e8 147 i (by omega))) (funext (fun i => e8 148 i (by omega)))]
                exact a7 k2 hk2
      · refine Both_ro (r := -1) ?_ ?_ hI
        · unfold rB; rw [isGate_eq hl hN.1.1, cal_eq, if1 q1, if_neg n10, hasPin_eq (by omega) (by rw [Int.toNat_natCast]; exact hk), cal_eq, Int.toNat_natCast, if1 q2, if_neg n10, isWire_eq hl hN.1.1, cal_eq, if0 q3, if_pos rfl]
        · unfold XX12_rewire
          rw [isNet_eq, cal_eq, if1 (by omega), if_neg n10, isGateM_eq hMS.1.1 he, cal_eq, s1, s2, if1 q1, if_neg n10, chk_pos (by omega), chk_pos (by omega), inb_pos (by omega), show (48 * e + (g : Int)).toNat = 48 * e.toNat + g by omega, show h 145 (48 * e.toNat + g) = h (p + 1 + 1) g from s3 g (by omega), pinsOf_eq hk.1 hk.2, cal_eq, chk_pos (by omega), in_eq, cal_eq, if1 (by omega), if_neg n10, isWireM_eq hMS.1.1 he, cal_eq, s2, if0 q3, if_pos rfl]
    · refine Both_ro (r := -1) ?_ ?_ hI
      · unfold rB; rw [isGate_eq hl hN.1.1, cal_eq, if1 q1, if_neg n10, hasPin_eq (by omega) (by rw [Int.toNat_natCast]; exact hk), cal_eq, Int.toNat_natCast, if0 q2, if_pos rfl]
      · unfold XX12_rewire
        rw [isNet_eq, cal_eq, if1 (by omega), if_neg n10, isGateM_eq hMS.1.1 he, cal_eq, s1, s2, if1 q1, if_neg n10, chk_pos (by omega), chk_pos (by omega), inb_pos (by omega), show (48 * e + (g : Int)).toNat = 48 * e.toNat + g by omega, show h 145 (48 * e.toNat + g) = h (p + 1 + 1) g from s3 g (by omega), pinsOf_eq hk.1 hk.2, cal_eq, chk_pos (by omega), in_eq, cal_eq, if0 (by omega), if_pos rfl]
  · refine Both_ro (r := -1) ?_ ?_ hI
    · unfold rB; rw [isGate_eq hl hN.1.1, cal_eq, if0 q1, if_pos rfl]
    · unfold XX12_rewire
      rw [isNet_eq, cal_eq, if1 (by omega), if_neg n10, isGateM_eq hMS.1.1 he, cal_eq, s1, s2, if0 q1, if_pos rfl]
theorem m_rewire {n : Nat} {h : Hp} (hI : Inv n h) (x y z t : Int) : Both n h (XX11_rewire x y z t) (XX12_rewire x y z t) := by
  by_cases q0 : x = 0
  · subst q0; exact rewN hI (Side_0 hI) y z t
  by_cases q1 : x = 1
  · subst q1; exact rewN hI (Side_1 hI) y z t
  refine Both_ro (r := -1) ?_ ?_ hI
  · unfold XX11_rewire; rw [netOfx q0 q1, cal_eq]; rfl
  · unfold XX12_rewire; rw [isNet_eq, cal_eq, if0 (by omega), if_pos rfl]
