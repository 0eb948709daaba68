/-- the model's makes -/
theorem makes_ok {h : Hp} (hM : MN h) {e : Int} (he : 0 ≤ e ∧ e < 2) (hlt : nM e h < 48) (k a b c : Int) : ∃ g, XX12_makes e k a b c h = some (0, g) ∧ (∀ x i, ¬ ((x = 144 ∧ i = e.toNat) ∨ (145 ≤ x ∧ x ≤ 146) ∨ (e = 0 ∧ 150 ≤ x ∧ x ≤ 151)) → g x i = h x i) ∧ g 144 e.toNat = h 144 e.toNat + 1 ∧ (∀ w, g 145 w = if w = 48 * e.toNat + (nM e h).toNat then k else h 145 w) ∧ (∀ j, g 146 j = if j = 144 * e.toNat + 3 * (nM e h).toNat then a else if j = 144 * e.toNat + 3 * (nM e h).toNat + 1 then b else if j = 144 * e.toNat + 3 * (nM e h).toNat + 2 then c else h 146 j) ∧ (e = 0 → ∀ w, (g 150 w = if w = (nM e h).toNat then 0 else h 150 w) ∧ g 151 w = if w = (nM e h).toNat then 0 else h 151 w) := by
  have l0 := MN_lt hM he
  have hw : 0 ≤ nM e h := by omega
  have p91 : ∀ g : Hp, g 144 e.toNat = h 144 e.toNat → XX12_makes_p91 e g = some (0, wr g 144 e.toNat (h 144 e.toNat + 1)) := fun g eg => by
    unfold XX12_makes_p91; rw [inb_pos (by omega), eg, chk_pos (by omega), inb_pos (by omega), hm_eq]
  have i1 : (48 * e + nM e h).toNat = 48 * e.toNat + (nM e h).toNat := by omega
  have i2 : (3 * (48 * e + nM e h)).toNat = 144 * e.toNat + 3 * (nM e h).toNat := by omega
  have i3 : (3 * (48 * e + nM e h) + 1).toNat = 144 * e.toNat + 3 * (nM e h).toNat + 1 := by omega
  have i4 : (3 * (48 * e + nM e h) + 2).toNat = 144 * e.toNat + 3 * (nM e h).toNat + 2 := by omega
  have base : ∀ X : OR, (if e = 0 then inb (nM e h) 48 (hm (wr (wr (wr (wr (wr h 145 (48 * e.toNat + (nM e h).toNat) k) 146 (144 * e.toNat + 3 * (nM e h).toNat) a) 146 (144 * e.toNat + 3 * (nM e h).toNat + 1) b) 146 (144 * e.toNat + 3 * (nM e h).toNat + 2) c) 150 (nM e h).toNat 0) (fun h8 => inb (nM e h) 48 (hm (wr h8 151 (nM e h).toNat 0) (fun h9 => XX12_makes_p91 e h9)))) else XX12_makes_p91 e (wr (wr (wr (wr h 145 (48 * e.toNat + (nM e h).toNat) k) 146 (144 * e.toNat + 3 * (nM e h).toNat) a) 146 (144 * e.toNat + 3 * (nM e h).toNat + 1) b) 146 (144 * e.toNat + 3 * (nM e h).toNat + 2) c)) = X → XX12_makes e k a b c h = X := by
    intro X hX
    unfold XX12_makes
    rw [wiresM_eq hM he, cal_eq, chk_pos (by omega), chk_pos (by omega), inb_pos (by omega), hm_eq, chk_pos (by omega), chk_pos (by omega), chk_pos (by omega), inb_pos (by omega), hm_eq, chk_pos (by omega), chk_pos (by omega), chk_pos (by omega), chk_pos (by omega), inb_pos (by omega), hm_eq, chk_pos (by omega), chk_pos (by omega), chk_pos (by omega), chk_pos (by omega), inb_pos (by omega), hm_eq, i1, i2, i3, i4]
    exact hX
  have pins : ∀ j, wr (wr (wr (wr h 145 (48 * e.toNat + (nM e h).toNat) k) 146 (144 * e.toNat + 3 * (nM e h).toNat) a) 146 (144 * e.toNat + 3 * (nM e h).toNat + 1) b) 146 (144 * e.toNat + 3 * (nM e h).toNat + 2) c 146 j = if j = 144 * e.toNat + 3 * (nM e h).toNat then a else if j = 144 * e.toNat + 3 * (nM e h).toNat + 1 then b else if j = 144 * e.toNat + 3 * (nM e h).toNat + 2 then c else h 146 j := by
    intro j
    by_cases q2 : j = 144 * e.toNat + 3 * (nM e h).toNat + 2
    · rw [if_neg (by omega), if_neg (by omega), if_pos q2, wq_is (by omega)]
    · rw [wq_ne (by omega)]
      by_cases q1 : j = 144 * e.toNat + 3 * (nM e h).toNat + 1
      · rw [if_neg (by omega), if_pos q1, wq_is (by omega)]
      · rw [wq_ne (by omega)]
        by_cases q0 : j = 144 * e.toNat + 3 * (nM e h).toNat
        · rw [if_pos q0, wq_is (by omega)]
        · rw [if_neg q0, if_neg q1, if_neg q2, wq_ne (by omega), wq_ne (by omega)]
  by_cases qe : e = 0
  · refine ⟨wr (wr (wr (wr (wr (wr (wr h 145 (48 * e.toNat + (nM e h).toNat) k) 146 (144 * e.toNat + 3 * (nM e h).toNat) a) 146 (144 * e.toNat + 3 * (nM e h).toNat + 1) b) 146 (144 * e.toNat + 3 * (nM e h).toNat + 2) c) 150 (nM e h).toNat 0) 151 (nM e h).toNat 0) 144 e.toNat (h 144 e.toNat + 1), base _ ?_, fun x i hh => by rw [wq_ne (by omega), wq_ne (by omega), wq_ne (by omega), wq_ne (by omega), wq_ne (by omega), wq_ne (by omega), wq_ne (by omega)], wr_at, fun w => ?_, fun j => ?_, fun _ w => ⟨?_, ?_⟩⟩
    · rw [if_pos qe, inb_pos (by omega), hm_eq, inb_pos (by omega), hm_eq]
      exact p91 _ (by rw [wq_ne (by omega), wq_ne (by omega), wq_ne (by omega), wq_ne (by omega), wq_ne (by omega), wq_ne (by omega)])
    · rw [wq_ne (by omega), wq_ne (by omega), wq_ne (by omega), wq_ne (by omega), wq_ne (by omega), wq_ne (by omega)]
      by_cases q : w = 48 * e.toNat + (nM e h).toNat
      · rw [if_pos q, q, wr_at]
      · rw [if_neg q, wr_o q]
    · rw [wq_ne (by omega), wq_ne (by omega), wq_ne (by omega)]; exact pins j
    · rw [wq_ne (by omega), wq_ne (by omega)]
      by_cases q : w = (nM e h).toNat
      · rw [if_pos q, q, wr_at]
      · rw [if_neg q, wr_o q, wq_ne (by omega), wq_ne (by omega), wq_ne (by omega), wq_ne (by omega)]
    · rw [wq_ne (by omega)]
      by_cases q : w = (nM e h).toNat
      · rw [if_pos q, q, wr_at]
      · rw [if_neg q, wr_o q, wq_ne (by omega), wq_ne (by omega), wq_ne (by omega), wq_ne (by omega), wq_ne (by omega)]
  · refine ⟨wr (wr (wr (wr (wr h 145 (48 * e.toNat + (nM e h).toNat) k) 146 (144 * e.toNat + 3 * (nM e h).toNat) a) 146 (144 * e.toNat + 3 * (nM e h).toNat + 1) b) 146 (144 * e.toNat + 3 * (nM e h).toNat + 2) c) 144 e.toNat (h 144 e.toNat + 1), base _ ?_, fun x i hh => by rw [wq_ne (by omega), wq_ne (by omega), wq_ne (by omega), wq_ne (by omega), wq_ne (by omega)], wr_at, fun w => ?_, fun j => ?_, fun hh => absurd hh qe⟩
    · rw [if_neg qe]
      exact p91 _ (by rw [wq_ne (by omega), wq_ne (by omega), wq_ne (by omega), wq_ne (by omega)])
    · rw [wq_ne (by omega), wq_ne (by omega), wq_ne (by omega), wq_ne (by omega)]
      by_cases q : w = 48 * e.toNat + (nM e h).toNat
      · rw [if_pos q, q, wr_at]
      · rw [if_neg q, wr_o q]
    · rw [wq_ne (by omega)]; exact pins j
/-- what both sides have after a gate of OLD was added -/
theorem Pl_add {lim : Int} {p : Nat} {h g : Hp} (hP : Pl lim p h) (hl : lim ≤ 40) (hlt : h p 3 < lim) {k a b c pl : Int} (hk : 0 ≤ k ∧ k ≤ 8) (hF : Fit (wn p h) k a b c) (hpl : 0 ≤ pl ∧ pl < 1024) (e0 : g p 0 = h p 0 ∧ g p 1 = h p 1 ∧ g p 2 = h p 2) (e3 : g p 3 = h p 3 + 1) (ek : ∀ w, g (p + 1) w = if w = (wn p h).toNat then k else h (p + 1) w) (ep : ∀ j, g (p + 2) j = if j = 3 * (wn p h).toNat then a else if j = 3 * (wn p h).toNat + 1 then b else if j = 3 * (wn p h).toNat + 2 then c else h (p + 2) j) (es : ∀ i, g (p + 3) i = h (p + 3) i) (el : ∀ w, g (p + 4) w = if w = (wn p h).toNat then pl else h (p + 4) w) : Pl lim p g ∧ wn p g = wn p h + 1 ∧ sc p g = sc p h := by
  have l0 := Pl_lt hl hP.1
  have hw : wn p g = wn p h + 1 := by unfold wn; rw [e0.1, e0.2.1, e3]; omega
  have hs : sc p g = sc p h := by unfold sc; rw [e0.1, e0.2.1]
  refine ⟨⟨?_, ?_, ?_, fun i hi => ?_, fun w hw => ?_⟩, hw, hs⟩
  · obtain ⟨x0, x1, x2, x3, x4, x5, x6, x7, x8⟩ := hP.1
    unfold Nums; rw [e0.1, e0.2.1, e0.2.2, e3]; omega
  · rw [hs, hw]; exact PinOK_add (by omega) hP.2.1 hk hF ek ep
  · rw [hs, hw]; exact Acy_add (by omega) hP.2.1 hP.2.2.1 hF ek ep
  · rw [e0.2.1, e0.2.2] at hi
    rw [es, hw]
    have := hP.2.2.2.1 i hi; omega
  · rw [el]; split
    · exact hpl
    · exact hP.2.2.2.2 w hw
def gB (p : Nat) (x1 x2 x3 x4 : Int) (h2 : Hp) : OR := if x1 < 0 then some ((-1), h2) else if 9 ≤ x1 then some ((-1), h2) else cal (XX11_pinsFit (p + 1) x1 x2 x3 x4 h2) (fun r4 h5 => if r4 = 0 then some ((-1), h5) else if (h5 (p + 1) 3) < (h5 p 1) then cal (XX8_addGate (p + 1) x1 x2 x3 x4 0 h5) (fun r6 h7 => cal (XX11_changed p h7) (fun r8 h9 => some (r6, h9))) else some ((-3), h5))
theorem gatN {n : Nat} {h : Hp} (hI : Inv n h) {e : Int} {p : Nat} {lim : Int} (hS : Side e p lim h) (k a b c : Int) : Both n h (gB p k a b c) (XX12_gate e k a b c) := by
  obtain ⟨hx, hN, s1, s2, s3, s4⟩ := id hS
  have hl : lim ≤ 40 := by omega
  have he : 0 ≤ e ∧ e < 2 := by omega
  have hMS := Inv_MS hI
  have l0 := Pl_lt hl hN.1.1
  have hlim : h p 1 = lim := by
    rcases hx with ⟨_, rfl, rfl⟩ | ⟨_, rfl, rfl⟩
    · exact hI.1.2.2.1
    · exact hI.1.2.2.2
  have hlimM : (if e = 0 then (40 : Int) else 24) = lim := by
    rcases hx with ⟨rfl, _, rfl⟩ | ⟨rfl, _, rfl⟩ <;> rfl
  have hgM : h 144 e.toNat = h (p + 1) 3 := by have := MN_lt hMS.1.1 he; omega
  have hle : h (p + 1) 3 ≤ lim := hN.1.1.2.2.2.2.2.2.2.2
  by_cases qk : 0 ≤ k ∧ k ≤ 8
  · obtain ⟨r, er, hr⟩ := pinsFit_eq hl hN.1.1 qk a b c
    obtain ⟨g1, g2⟩ := gateM_fit hMS.1.1 he qk a b c
    rw [s2] at g1 g2
    rcases hr with ⟨rfl, hF⟩ | ⟨rfl, hF⟩
    · by_cases qf : h (p + 1) 3 < lim
      · obtain ⟨h3, e3, f3, x3, k3, p3', l3⟩ := addGate_ok hl hN.1.1 qf k a b c 0
        -- the class's heap
        have hcl : ∃ h6, gB p k a b c h = some (wn (p + 1) h, h6) ∧ (∀ x i, ¬ ((x = p ∧ i = 6) ∨ (x = 56 ∧ i = 0) ∨ (e = 0 ∧ x = 72 ∧ i = 2)) → h6 x i = h3 x i) ∧ h6 p 6 = 0 ∧ h6 56 0 = 0 ∧ (e = 0 → h6 72 2 = 0) := by
          have ex : gB p k a b c h = cal (XX11_changed p h3) (fun r8 h9 => some (wn (p + 1) h, h9)) := by
            unfold gB
            rw [if_neg (by omega), if_neg (by omega), er, cal_eq, if_neg n10, hlim, if_pos qf, e3, cal_eq]
          rcases hx with ⟨rfl, rfl, rfl⟩ | ⟨rfl, rfl, rfl⟩
          · exact ⟨_, by rw [ex, changed17, cal_eq], fun x i hh => by rw [wq_ne (by omega), wq_ne (by omega), wq_ne (by omega)], by rw [wq_ne (by omega), wq_ne (by omega), wr_at], by rw [wq_ne (by omega), wr_at], fun _ => wr_at⟩
          · exact ⟨_, by rw [ex, changed27, cal_eq], fun x i hh => by rw [wq_ne (by omega), wq_ne (by omega)], by rw [wq_ne (by omega), wr_at], wr_at, fun hh => by cases hh⟩
        obtain ⟨h6, E6, f6, z1, z2, z3⟩ := hcl
        -- the model from there
        have fm : ∀ x i, ((143 ≤ x)) → h6 x i = h x i := fun x i hh => by rw [f6 x i (by omega), f3 x i (by omega)]
        have hMN6 : MN h6 := MN_congr (fm _ _ (by omega)) (fm _ _ (by omega)) (fm _ _ (by omega)) (funext (fun i => fm _ _ (by omega))) hMS.1.1
        have n6 : nM e h6 = wn (p + 1) h := by rw [nM_congr (fm _ _ (by omega)) (fm _ _ (by omega)) (funext (fun i => fm _ _ (by omega))), s2]
        have nlt : nM e h6 < 48 := by omega
        obtain ⟨h7, e7, f7, x7, k7, p7, l7⟩ := makes_ok hMN6 he nlt k a b c
        rw [n6] at k7 p7 l7
        have hmo : ∃ h8, XX12_gate e k a b c h6 = some (wn (p + 1) h, h8) ∧ (∀ x i, ¬ (x = 143 ∧ (i = 23 ∨ (e = 0 ∧ i = 36))) → h8 x i = h7 x i) ∧ h8 143 23 = 0 ∧ (e = 0 → h8 143 36 = 0) := by
          have ex := (gateM_fit hMN6 he qk a b c).2 (by rw [n6]; exact hF)
          rw [fm 144 _ (by omega), hgM, hlimM] at ex
          have h143 : ∀ i, h7 143 i = h6 143 i := fun i => f7 143 i (by omega)
          have wfin : ∀ h8 : Hp, (∀ x i, ¬ (x = 143 ∧ (i = 23 ∨ i = 36)) → h8 x i = h7 x i) → XX12_wires e h8 = some (wn (p + 1) h + 1, h8) := by
            intro h8 f8
            have g144 : ∀ i, h8 144 i = h7 144 i := fun i => f8 144 i (by omega)
            have b7 : h7 144 e.toNat = h (p + 1) 3 + 1 := by rw [x7, fm 144 _ (by omega), hgM]
            unfold XX12_wires XX12_begun
            rw [f8 143 1 (by omega), f8 143 2 (by omega), h143, h143, fm 143 1 (by omega), fm 143 2 (by omega)]
            have hsum : h 143 1 + h 143 2 = sc (p + 1) h := s1
            rw [hsum, chk_pos (by omega), cal_eq, inb_pos (by omega), g144, b7, chk_pos (by omega)]
            congr 2
            omega
          rw [ex]
          unfold XX12_gate_p105
          rw [if_neg (by omega), e7, cal_eq]
          rcases hx with ⟨rfl, rfl, rfl⟩ | ⟨rfl, rfl, rfl⟩
          · refine ⟨wr (wr h7 143 23 0) 143 36 0, ?_, fun x i hh => by rw [wq_ne (by omega), wq_ne (by omega)], by rw [wq_ne (by omega), wr_at], fun _ => wr_at⟩
            rw [changedM0, cal_eq, wfin _ (fun x i hh => by rw [wq_ne (by omega), wq_ne (by omega)]), cal_eq, chk_pos (by omega)]
            congr 2
            omega
          · refine ⟨wr (wr h7 143 23 0) 143 36 (h7 143 36), ?_, fun x i hh => ?_, by rw [wq_ne (by omega), wr_at], fun hh => by cases hh⟩
            · rw [changedM1, cal_eq, wfin _ (fun x i hh => by rw [wq_ne (by omega), wq_ne (by omega)]), cal_eq, chk_pos (by omega)]
              congr 2
              omega
            · by_cases qa : x = 143 ∧ i = 36
              · rw [qa.1, qa.2, wr_at]
              · rw [wq_ne qa, wq_ne (by omega)]
        obtain ⟨h8, E8, f8, y1, y2⟩ := hmo
        refine Both_mk E6 E8 ?_
        obtain ⟨a1, a2, a3, a4, a5, a6, a7⟩ := hI.2.1
        rcases hx with ⟨rfl, rfl, rfl⟩ | ⟨rfl, rfl, rfl⟩
        · have fx : ∀ x i, ¬ ((19 ≤ x ∧ x ≤ 20) ∨ x = 22 ∨ (x = 18 ∧ i = 3) ∨ (x = 17 ∧ i = 6) ∨ (x = 56 ∧ i = 0) ∨ (x = 72 ∧ i = 2) ∨ (x = 143 ∧ (i = 23 ∨ i = 36)) ∨ (x = 144 ∧ i = 0) ∨ (145 ≤ x ∧ x ≤ 146) ∨ (150 ≤ x ∧ x ≤ 151)) → h8 x i = h x i := fun x i hh => by rw [f8 x i (by omega), f7 x i (by simp; omega), f6 x i (by omega), f3 x i (by omega)]
          have hwn : (wn 18 h).toNat < 48 := by have : wn (17 + 1) h = wn 18 h := rfl; omega
          have c18 : ∀ x i, (18 ≤ x ∧ x ≤ 22) → h8 x i = h3 x i := fun x i hh => by rw [f8 x i (by omega), f7 x i (by simp; omega), f6 x i (by omega)]
          obtain ⟨P8, w8, sc8⟩ := Pl_add (g := h8) hN.1 hl qf qk hF (by omega : (0:Int) ≤ 0 ∧ (0:Int) < 1024) ⟨by rw [c18 _ _ (by omega), f3 _ _ (by omega)], by rw [c18 _ _ (by omega), f3 _ _ (by omega)], by rw [c18 _ _ (by omega), f3 _ _ (by omega)]⟩ (by rw [c18 _ _ (by omega)]; exact x3) (fun w => by rw [c18 _ _ (by omega)]; exact k3 w) (fun j => by rw [c18 _ _ (by omega)]; exact p3' j) (fun i => by rw [c18 _ _ (by omega), f3 _ _ (by omega)]) (fun w => by rw [c18 _ _ (by omega)]; exact l3 w)
          have k19 : ∀ w, h8 19 w = if w = (wn 18 h).toNat then k else h 19 w := fun w => by rw [c18 19 w (by omega)]; exact k3 w
          have p20 : ∀ j, h8 20 j = if j = 3 * (wn 18 h).toNat then a else if j = 3 * (wn 18 h).toNat + 1 then b else if j = 3 * (wn 18 h).toNat + 2 then c else h 20 j := fun j => by rw [c18 20 j (by omega)]; exact p3' j
          have k145 : ∀ w, h8 145 w = if w = (wn 18 h).toNat then k else h 145 w := fun w => by
            rw [f8 145 w (by omega), k7 w]; simp only [Int.toNat_zero, Nat.mul_zero, Nat.zero_add]; rw [fm 145 w (by omega)]
          have p146 : ∀ j, h8 146 j = if j = 3 * (wn 18 h).toNat then a else if j = 3 * (wn 18 h).toNat + 1 then b else if j = 3 * (wn 18 h).toNat + 2 then c else h 146 j := fun j => by
            rw [f8 146 j (by omega), p7 j]; simp only [Int.toNat_zero, Nat.mul_zero, Nat.zero_add]; rw [fm 146 j (by omega)]
          refine Inv_chg0 hI (fun x i hh => fx x i (by omega)) (by rw [f8 17 6 (by omega), f7 17 6 (by simp)]; exact z1) (by rw [f8 56 0 (by omega), f7 56 0 (by simp)]; exact z2) (by rw [f8 72 2 (by omega), f7 72 2 (by simp)]; exact z3 rfl) y1 (y2 rfl) P8 ?_ (fun w hw => ?_) (by have : wn (17 + 1) h8 = wn (17 + 1) h + 1 := w8; show wn 18 h ≤ wn 18 h8; have e1 : wn 18 h8 = wn (17 + 1) h8 := rfl; have e2 : wn 18 h = wn (17 + 1) h := rfl; omega)
          · unfold RelN
            rw [fx 18 0 (by omega), fx 18 1 (by omega), fx 18 2 (by omega), show h8 28 = h 28 from funext (fun i => fx 28 i (by omega)), show h8 21 = h 21 from funext (fun i => fx 21 i (by omega)), show h8 29 = h 29 from funext (fun i => fx 29 i (by omega)), show h8 30 = h 30 from funext (fun i => fx 30 i (by omega)), show h8 31 = h 31 from funext (fun i => fx 31 i (by omega)), fx 143 1 (by omega), fx 143 2 (by omega), fx 143 3 (by omega), fx 144 1 (by omega)]
            refine ⟨⟨a1.1, a1.2.1, a1.2.2.1, ?_⟩, a2, fun w hw => ?_, fun w hw => ?_, fun j hj => ?_, fun j hj => ?_, fun i hi => ?_⟩
            · rw [c18 18 3 (by omega), f8 144 0 (by omega)]
              have t1 : h3 18 3 = h 18 3 + 1 := x3
              have t2 : h7 144 0 = h6 144 0 + 1 := x7
              rw [t1, t2, fm 144 0 (by omega), a1.2.2.2]
            · rw [k145, k19]; split
              · rfl
              · exact a3 w hw
            · rw [k145, if_neg (by omega)]; exact a4 w hw
            · rw [p146, p20]; repeat' split
              all_goals first | rfl | exact a5 j hj
            · rw [p146, if_neg (by omega), if_neg (by omega), if_neg (by omega)]; exact a6 j hj
            · rw [sn_congr (fx 143 3 (by omega)) (funext (fun i => fx 147 i (by omega))) (funext (fun i => fx 148 i (by omega))), sn_congr (fx 143 3 (by omega)) (funext (fun i => fx 147 i (by omega))) (funext (fun i => fx 148 i (by omega)))]
              exact a7 i hi
          · have q150 : h8 150 w = if w = (wn 18 h).toNat then 0 else h 150 w := by rw [f8 150 w (by omega), (l7 rfl w).1, fm 150 w (by omega)]
            have q151 : h8 151 w = if w = (wn 18 h).toNat then 0 else h 151 w := by rw [f8 151 w (by omega), (l7 rfl w).2, fm 151 w (by omega)]
            have q22 : h8 22 w = if w = (wn 18 h).toNat then 0 else h 22 w := by rw [c18 22 w (by omega)]; exact l3 w
            rw [q150, q151, q22]
            split
            · decide
            · exact hI.2.2.1 w hw
        · have fx : ∀ x i, ¬ ((29 ≤ x ∧ x ≤ 30) ∨ x = 32 ∨ (x = 28 ∧ i = 3) ∨ (x = 27 ∧ i = 6) ∨ (x = 56 ∧ i = 0) ∨ (x = 143 ∧ i = 23) ∨ (x = 144 ∧ i = 1) ∨ (145 ≤ x ∧ x ≤ 146)) → h8 x i = h x i := fun x i hh => by rw [f8 x i (by omega), f7 x i (by simp; omega), f6 x i (by omega), f3 x i (by omega)]
          have hwn : (wn 28 h).toNat < 48 := by have : wn (27 + 1) h = wn 28 h := rfl; omega
          have c28 : ∀ x i, (28 ≤ x ∧ x ≤ 32) → h8 x i = h3 x i := fun x i hh => by rw [f8 x i (by omega), f7 x i (by simp; omega), f6 x i (by omega)]
          obtain ⟨P8, w8, sc8⟩ := Pl_add (g := h8) hN.1 hl qf qk hF (by omega : (0:Int) ≤ 0 ∧ (0:Int) < 1024) ⟨by rw [c28 _ _ (by omega), f3 _ _ (by omega)], by rw [c28 _ _ (by omega), f3 _ _ (by omega)], by rw [c28 _ _ (by omega), f3 _ _ (by omega)]⟩ (by rw [c28 _ _ (by omega)]; exact x3) (fun w => by rw [c28 _ _ (by omega)]; exact k3 w) (fun j => by rw [c28 _ _ (by omega)]; exact p3' j) (fun i => by rw [c28 _ _ (by omega), f3 _ _ (by omega)]) (fun w => by rw [c28 _ _ (by omega)]; exact l3 w)
          have k29 : ∀ w, h8 29 w = if w = (wn 28 h).toNat then k else h 29 w := fun w => by rw [c28 29 w (by omega)]; exact k3 w
          have p30 : ∀ j, h8 30 j = if j = 3 * (wn 28 h).toNat then a else if j = 3 * (wn 28 h).toNat + 1 then b else if j = 3 * (wn 28 h).toNat + 2 then c else h 30 j := fun j => by rw [c28 30 j (by omega)]; exact p3' j
          have k145 : ∀ w, h8 145 w = if w = 48 + (wn 28 h).toNat then k else h 145 w := fun w => by
            rw [f8 145 w (by omega), k7 w, fm 145 w (by omega)]; rfl
          have p146 : ∀ j, h8 146 j = if j = 144 + 3 * (wn 28 h).toNat then a else if j = 144 + 3 * (wn 28 h).toNat + 1 then b else if j = 144 + 3 * (wn 28 h).toNat + 2 then c else h 146 j := fun j => by
            rw [f8 146 j (by omega), p7 j, fm 146 j (by omega)]; rfl
          refine Inv_chg1 hI (fun x i hh => fx x i (by omega)) (by rw [f8 27 6 (by omega), f7 27 6 (by simp)]; exact z1) (by rw [f8 56 0 (by omega), f7 56 0 (by simp)]; exact z2) y1 P8 ?_
          unfold RelN
          rw [fx 28 0 (by omega), fx 28 1 (by omega), fx 28 2 (by omega), show h8 18 = h 18 from funext (fun i => fx 18 i (by omega)), show h8 21 = h 21 from funext (fun i => fx 21 i (by omega)), show h8 19 = h 19 from funext (fun i => fx 19 i (by omega)), show h8 20 = h 20 from funext (fun i => fx 20 i (by omega)), show h8 31 = h 31 from funext (fun i => fx 31 i (by omega)), fx 143 1 (by omega), fx 143 2 (by omega), fx 143 3 (by omega), fx 144 0 (by omega)]
          refine ⟨a1, ⟨a2.1, a2.2.1, a2.2.2.1, ?_⟩, fun w hw => ?_, fun w hw => ?_, fun j hj => ?_, fun j hj => ?_, fun i hi => ?_⟩
          · rw [c28 28 3 (by omega), f8 144 1 (by omega)]
            have t1 : h3 28 3 = h 28 3 + 1 := x3
            have t2 : h7 144 1 = h6 144 1 + 1 := x7
            rw [t1, t2, fm 144 1 (by omega), a2.2.2.2]
          · rw [k145, if_neg (by omega)]; exact a3 w hw
          · rw [k145, k29]
            by_cases qw : w = (wn 28 h).toNat
            · rw [if_pos qw, if_pos (by omega)]
            · rw [if_neg qw, if_neg (by omega)]; exact a4 w hw
          · rw [p146, if_neg (by omega), if_neg (by omega), if_neg (by omega)]; exact a5 j hj
          · rw [p146, p30]
            by_cases q0 : j = 3 * (wn 28 h).toNat
            · rw [if_pos q0, if_pos (by omega)]
            · rw [if_neg q0, if_neg (by omega)]
              by_cases q1 : j = 3 * (wn 28 h).toNat + 1
              · rw [if_pos q1, if_pos (by omega)]
              · rw [if_neg q1, if_neg (by omega)]
                by_cases q2 : j = 3 * (wn 28 h).toNat + 2
                · rw [if_pos q2, if_pos (by omega)]
                · rw [if_neg q2, if_neg (by omega)]; exact a6 j hj
          · rw [sn_congr (fx 143 3 (by omega)) (funext (fun i => fx 147 i (by omega))) (funext (fun i => fx 148 i (by omega))), sn_congr (fx 143 3 (by omega)) (funext (fun i => fx 147 i (by omega))) (funext (fun i => fx 148 i (by omega)))]
            exact a7 i hi
      · refine Both_ro (r := -3) ?_ ?_ hI
        · unfold gB; rw [if_neg (by omega), if_neg (by omega), er, cal_eq, if_neg n10, hlim, if_neg qf]
        · rw [g2 hF]; unfold XX12_gate_p105; rw [hlimM, hgM, if_pos (by omega)]
    · refine Both_ro (r := -1) ?_ (g1 hF) hI
      unfold gB; rw [if_neg (by omega), if_neg (by omega), er, cal_eq, if_pos rfl]
  · refine Both_ro (r := -1) ?_ ?_ hI
    · unfold gB
      by_cases q : k < 0
      · rw [if_pos q]
      · rw [if_neg q, if_pos (by omega)]
    · unfold XX12_gate; rw [isNet_eq, cal_eq, if1 (by omega), if_neg n10, in_eq, cal_eq, if0 (by omega), if_pos rfl]
theorem m_gate {n : Nat} {h : Hp} (hI : Inv n h) (x k a b c : Int) : Both n h (XX11_gate x k a b c) (XX12_gate x k a b c) := by
  by_cases q0 : x = 0
  · subst q0; exact gatN hI (Side_0 hI) k a b c
  by_cases q1 : x = 1
  · subst q1; exact gatN hI (Side_1 hI) k a b c
  refine Both_ro (r := -1) ?_ ?_ hI
  · unfold XX11_gate; rw [netOfx q0 q1, cal_eq]; rfl
  · unfold XX12_gate; rw [isNet_eq, cal_eq, if0 (by omega), if_pos rfl]
