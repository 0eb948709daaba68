theorem inputWord_eq {w part : Nat} (hw : w < 8) (hp : part < 4) (h : Hp) : XX12_inputWord w part h = some (srcW w part, h) := by
  have : En (XX12_inputWord w part h) (fun r h1 => r = srcW w part ∧ h1 = h) := by
    unfold XX12_inputWord XX12_inputWord_L5
    refine En_lup4 (fun _ _ _ l4 _ => (64 - l4).toNat) (fun l0 l1 l2 l4 h1 => (w : Int) = l0 ∧ (part : Int) = l1 ∧ h = h1 ∧ 0 ≤ l4 ∧ l4 ≤ 64 ∧ inJ l2 ∧ ∀ c : Nat, c < 64 → (tb l2 c = true ↔ ((c : Int) < l4 ∧ aand (ashr (64 * part + c) w) 1 = 1))) ?_ FU _ _ _ _ _ (by unfold FU; omega) ⟨rfl, rfl, rfl, by omega, by omega, inJ_0, fun c hc => by rw [tb_0]; simp; omega⟩
    rintro self l0 l1 l2 l4 h1 ih ⟨rfl, rfl, rfl, c0, c1, c2, c3⟩
    unfold XX12_inputWord_b5
    by_cases q : 64 ≤ l4
    · rw [if_pos q]
      refine En_some ⟨tb_ext c2 (srcW_in _ _) (fun c hc => ?_), rfl⟩
      rw [Bool.eq_iff_iff, c3 c hc, srcW_bits w hw part hp c hc]
      exact ⟨fun h => h.2, fun h => ⟨by omega, h⟩⟩
    · rw [if_neg q, chk_pos (by omega), chk_pos (by omega)]
      obtain ⟨d, rfl⟩ := Int.eq_ofNat_of_zero_le c0
      have go : ∀ v : Int, (v = if aand (ashr (64 * (part : Int) + d) w) 1 = 1 then jshl 1 d else 0) → En (XX12_inputWord_p36 self w part d l2 v h) (fun r h1 => r = srcW w part ∧ h1 = h) := by
        intro v hv
        unfold XX12_inputWord_p36
        rw [nm_eq, chk_pos (by omega)]
        refine ih _ _ _ _ _ (by omega) ⟨rfl, rfl, rfl, by omega, by omega, jor_in _ _, fun c hc => ?_⟩
        rw [tb_jor, Bool.or_eq_true, c3 c hc, hv]
        by_cases qd : aand (ashr (64 * (part : Int) + d) w) 1 = 1
        · rw [if_pos qd, tb_pow (by omega) (by omega), Int.toNat_natCast]
          by_cases qc : c = d
          · subst qc; simp [qd]; omega
          · simp only [qc, decide_false, Bool.false_eq_true, or_false]
            constructor
            · rintro ⟨a, b⟩; exact ⟨by omega, b⟩
            · rintro ⟨a, b⟩; exact ⟨by omega, b⟩
        · rw [if_neg qd, tb_0]
          simp only [Bool.false_eq_true, or_false]
          constructor
          · rintro ⟨a, b⟩; exact ⟨by omega, b⟩
          · rintro ⟨a, b⟩
            by_cases qc : c = d
            · subst qc; exact absurd b qd
            · exact ⟨by omega, b⟩
      by_cases qd : aand (ashr (64 * (part : Int) + d) w) 1 = 1
      · rw [if_pos qd]; exact go _ (by rw [if_pos qd])
      · rw [if_neg qd]; exact go _ (by rw [if_neg qd])
  obtain ⟨r, h1, e, rfl, rfl⟩ := this
  exact e
theorem p132_eq {k a b c : Int} (h0 : 0 ≤ k) (h1 : k ≤ 8) (h : Hp) : XX12_worked_p132 k a b c h = some (mkW k a b c, h) := by
  have : k = 0 ∨ k = 1 ∨ k = 2 ∨ k = 3 ∨ k = 4 ∨ k = 5 ∨ k = 6 ∨ k = 7 ∨ k = 8 := by omega
  rcases this with rfl | rfl | rfl | rfl | rfl | rfl | rfl | rfl | rfl <;> rfl
def vM (e : Int) (part : Nat) (h : Hp) : Nat → Int := fun w => h 188 (4 * (48 * e.toNat + w) + part)
theorem worked_eq {h : Hp} {e : Int} (he : 0 ≤ e ∧ e < 2) {s n : Int} (hP : PinOK s n (kM e h) (pM e h)) (hn : n ≤ 48) {g part : Nat} (hg : s ≤ g) (hgn : (g : Int) < n) (hp : part < 4) :
    XX12_worked e g part h = some (Fw (kM e h) (pM e h) (vM e part h) g, h) := by
  obtain ⟨hk, hpin⟩ := hP g hg hgn
  have hkd : ∀ w, h 145 (48 * e.toNat + w) = kM e h w := fun _ => rfl
  have hpn : ∀ j, h 146 (144 * e.toNat + j) = pM e h j := fun _ => rfl
  have hvm : ∀ w, h 188 (4 * (48 * e.toNat + w) + part) = vM e part h w := fun _ => rfl
  have hb := pinC_b (kM e h g).toNat
  generalize kM e h = kd at *
  generalize pM e h = pn at *
  unfold XX12_worked Fw
  rw [chk_pos (by omega), chk_pos (by omega), nm_eq, inb_pos (by omega), nm_eq, show (48 * e + (g : Int)).toNat = 48 * e.toNat + g by omega, hkd, pinsOf_eq hk.1 hk.2, cal_eq]
  have pp : ∀ (k : Nat), k < 3 → (k : Int) < pinC (kd g).toNat → (h 146 (3 * (48 * e + (g : Int)) + k).toNat = pn (3 * g + k)) ∧ (0 ≤ pn (3 * g + k) ∧ pn (3 * g + k) < n) ∧ h 188 (4 * (48 * e + pn (3 * g + k)) + (part : Int)).toNat = pk kd pn (vM e part h) g k := by
    intro k hk3 hkp
    have hj := (hpin k hk3).1 hkp
    refine ⟨by rw [show (3 * (48 * e + (g : Int)) + k).toNat = 144 * e.toNat + (3 * g + k) by omega, hpn], hj, ?_⟩
    unfold pk
    rw [if_pos hkp, ← hvm, show (4 * (48 * e + pn (3 * g + k)) + (part : Int)).toNat = 4 * (48 * e.toNat + (pn (3 * g + k)).toNat) + part by omega]
  have p0 : ∀ (k : Nat), ¬ ((k : Int) < pinC (kd g).toNat) → pk kd pn (vM e part h) g k = 0 := fun k hk => if_neg hk
  have s3 : ∀ a b, XX12_worked_p92 e part (48 * e + (g : Int)) (kd g) a b h = some (mkW (kd g) a b (pk kd pn (vM e part h) g 2), h) := by
    intro a b
    unfold XX12_worked_p92
    rw [pinsOf_eq hk.1 hk.2, cal_eq]
    by_cases q : pinC (kd g).toNat ≤ 2
    · rw [if_pos q, p132_eq hk.1 hk.2, p0 2 (by omega)]
    · obtain ⟨y1, y2, y3⟩ := pp 2 (by omega) (by omega)
      simp only [show ((2 : Nat) : Int) = 2 from rfl] at y1
      rw [if_neg q, chk_pos (by omega), chk_pos (by omega), chk_pos (by omega), inb_pos (by omega), y1, chk_pos (by omega), chk_pos (by omega), chk_pos (by omega), inb_pos (by omega), y3, p132_eq hk.1 hk.2]
  have s2 : ∀ a, XX12_worked_p52 e part (48 * e + (g : Int)) (kd g) a h = some (mkW (kd g) a (pk kd pn (vM e part h) g 1) (pk kd pn (vM e part h) g 2), h) := by
    intro a
    unfold XX12_worked_p52
    rw [pinsOf_eq hk.1 hk.2, cal_eq]
    by_cases q : pinC (kd g).toNat ≤ 1
    · rw [if_pos q, s3, p0 1 (by omega)]
    · obtain ⟨y1, y2, y3⟩ := pp 1 (by omega) (by omega)
      simp only [show ((1 : Nat) : Int) = 1 from rfl] at y1
      rw [if_neg q, chk_pos (by omega), chk_pos (by omega), chk_pos (by omega), inb_pos (by omega), y1, chk_pos (by omega), chk_pos (by omega), chk_pos (by omega), inb_pos (by omega), y3, s3]
  by_cases q : pinC (kd g).toNat ≤ 0
  · rw [if_pos q, s2, p0 0 (by omega)]
  · obtain ⟨y1, y2, y3⟩ := pp 0 (by omega) (by omega)
    simp only [show ((0 : Nat) : Int) = 0 from rfl, Int.add_zero] at y1
    rw [if_neg q, chk_pos (by omega), chk_pos (by omega), inb_pos (by omega), y1, chk_pos (by omega), chk_pos (by omega), chk_pos (by omega), inb_pos (by omega), y3, s2]
/-- which of the held wires a wire is: the last one -/
def isK (pts : Nat → Int) (w : Int) : Nat → Int
  | 0 => -1
  | k + 1 => if pts k = w then (k : Int) else isK pts w k
theorem isK_b (pts : Nat → Int) (w : Int) (m : Nat) : -1 ≤ isK pts w m ∧ isK pts w m < m := by
  induction m with
  | zero => unfold isK; omega
  | succ m ih => unfold isK; split <;> omega
def fcK (pts : Nat → Int) (m : Nat) (q : Int) (w : Nat) : Option Int := if isK pts w m = -1 then none else some (if aand (ashr q (isK pts w m)) 1 = 1 then -1 else 0)
def fcM (e : Int) (h : Hp) : Nat → Option Int := if e = 0 then fcK (h 189) (h 143 63).toNat (h 143 64) else noF
theorem works_ok {h : Hp} (hM : MN h) {e : Int} (he : 0 ≤ e ∧ e < 2) (hP : PinOK (sM h) (nM e h) (kM e h) (pM e h)) (hO : Ord (sM h) (nM e h) (kM e h) (pM e h) (fun i => h 186 (40 * e.toNat + i))) (hf : 0 ≤ h 143 63 ∧ h 143 63 ≤ 3)
    (hS : ∀ w : Nat, (w : Int) < sM h → ∀ part : Nat, part < 4 → vM e part h w = srcW w part) :
    En (XX12_works e h) (fun _ h1 => (∀ part : Nat, part < 4 → WEq (sM h) (nM e h) (kM e h) (pM e h) part (fcM e h) (vM e part h1)) ∧ ∀ j, ¬ (192 * e.toNat ≤ j ∧ j < 192 * e.toNat + 192) → h1 188 j = h 188 j) := by
  obtain ⟨b0, b1, b2, b3, b4, b5⟩ := MN_lt hM he
  have hg : h 144 e.toNat = nM e h - sM h := by omega
  have hod : ∀ i, h 186 (40 * e.toNat + i) = (fun i => h 186 (40 * e.toNat + i)) i := fun _ => rfl
  generalize (fun i => h 186 (40 * e.toNat + i)) = od at *
  generalize hs : sM h = s at *
  generalize hn : nM e h = n at *
  unfold XX12_works XX12_works_L2
  refine En_lup2 (fun _ l2 _ => (n - s - l2).toNat) (fun l1 l2 h1 => e = l1 ∧ 0 ≤ l2 ∧ l2 ≤ n - s ∧ Eqx 188 h h1 ∧ (∀ part : Nat, part < 4 → Ev (Ff (fcM e h) (kM e h) (pM e h)) od l2.toNat (vM e part h) (vM e part h1)) ∧ ∀ j, ¬ (192 * e.toNat ≤ j ∧ j < 192 * e.toNat + 192) → h1 188 j = h 188 j) ?_ FU _ _ _ (by unfold FU; omega) ⟨rfl, by omega, by omega, Eqx_refl _ _, fun part _ => Ev_0, fun _ _ => rfl⟩
  rintro self2 l1 i h1 ih2 ⟨rfl, c0, c1, e1, c2, c3⟩
  unfold XX12_works_b2
  have k3 : h1 186 = h 186 := e1 _ (by omega)
  have k4 : h1 143 = h 143 := e1 _ (by omega)
  have k5 : h1 189 = h 189 := e1 _ (by omega)
  have kk1 : ∀ h3, Eqx 188 h h3 → kM e h3 = kM e h := fun h3 e3 => by unfold kM; rw [e3 145 (by omega)]
  have kk2 : ∀ h3, Eqx 188 h h3 → pM e h3 = pM e h := fun h3 e3 => by unfold pM; rw [e3 146 (by omega)]
  rw [inb_pos (by omega), show h1 144 = h 144 from e1 _ (by omega), hg]
  by_cases q : n - s ≤ i
  · rw [if_pos q]
    have : i = n - s := by omega
    subst this
    refine En_some ⟨fun part hp => ?_, c3⟩
    obtain ⟨r1, r2⟩ := Ev_done (by omega) hO (c2 part hp)
    exact ⟨fun w hw => by rw [r1 w hw]; exact hS w hw part hp, r2⟩
  rw [if_neg q, chk_pos (by omega), chk_pos (by omega), inb_pos (by omega), nm_eq, k3, show (40 * e + i).toNat = 40 * e.toNat + i.toNat by omega, hod]
  have hoi := hO.2.1 i.toNat (by omega)
  obtain ⟨g, hgi⟩ := Int.eq_ofNat_of_zero_le (show 0 ≤ od i.toNat by omega)
  have hgN : (od i.toNat).toNat = g := by omega
  rw [hgi]
  -- the words, once it is known which held wire it is
  have words : ∀ is : Int, (is = if e = 0 then isK (h 189) g (h 143 63).toNat else -1) → En (XX12_works_p69 self2 e i g is h1) (fun _ h1 => (∀ part : Nat, part < 4 → WEq s n (kM e h) (pM e h) part (fcM e h) (vM e part h1)) ∧ ∀ j, ¬ (192 * e.toNat ≤ j ∧ j < 192 * e.toNat + 192) → h1 188 j = h 188 j) := by
    intro is his
    have hisb := isK_b (h 189) g (h 143 63).toNat
    have hisr : -1 ≤ is ∧ is < 3 := by rw [his]; split <;> omega
    have hF : ∀ W, Ff (fcM e h) (kM e h) (pM e h) W g = if is = -1 then Fw (kM e h) (pM e h) W g else if aand (ashr (h 143 64) is) 1 = 1 then -1 else 0 := by
      intro W
      unfold Ff fcM
      by_cases qe : e = 0
      · rw [if_pos qe] at his ⊢
        unfold fcK
        rw [← his]
        by_cases qi : is = -1
        · rw [if_pos qi, if_pos qi]
        · rw [if_neg qi, if_neg qi]
      · rw [if_neg qe] at his ⊢
        rw [if_pos his]; rfl
    unfold XX12_works_p69 XX12_works_L72
    refine En_lup5 (fun _ _ _ _ l5 _ => (4 - l5).toNat) (fun l1 l2 l3 l4 l5 h2 => e = l1 ∧ i = l2 ∧ (g : Int) = l3 ∧ is = l4 ∧ 0 ≤ l5 ∧ l5 ≤ 4 ∧ Eqx 188 h h2 ∧ (∀ part : Nat, part < 4 → (if (part : Int) < l5 then Ev (Ff (fcM e h) (kM e h) (pM e h)) od (i.toNat + 1) (vM e part h) (vM e part h2) else vM e part h2 = vM e part h1)) ∧ ∀ j, ¬ (192 * e.toNat ≤ j ∧ j < 192 * e.toNat + 192) → h2 188 j = h 188 j) ?_ FU _ _ _ _ _ _ (by unfold FU; omega) ⟨rfl, rfl, rfl, rfl, by omega, by omega, e1, fun part hp => by rw [if_neg (by omega)], c3⟩
    rintro self72 l1 l2 l3 l4 l5 h2 ih72 ⟨rfl, rfl, rfl, rfl, d0, d1, e2, d2, d3⟩
    unfold XX12_works_b72
    by_cases q5 : 4 ≤ l5
    · rw [if_pos q5, chk_pos (by omega)]
      refine ih2 _ _ _ (by omega) ⟨rfl, by omega, by omega, e2, fun part hp => ?_, d3⟩
      have := d2 part hp
      rw [if_pos (by omega)] at this
      rw [show (i + 1).toNat = i.toNat + 1 by omega]; exact this
    rw [if_neg q5, chk_pos (by omega), chk_pos (by omega), chk_pos (by omega), chk_pos (by omega)]
    obtain ⟨pt, rfl⟩ := Int.eq_ofNat_of_zero_le d0
    have hW2 : vM e pt h2 = vM e pt h1 := by have := d2 pt (by omega); rw [if_neg (by omega)] at this; exact this
    have wrt : ∀ v : Int, v = Ff (fcM e h) (kM e h) (pM e h) (vM e pt h2) g → En (XX12_works_p130 self2 self72 e i g is pt (4 * (48 * e + (g : Int)) + (pt : Int)) v h2) (fun _ h1 => (∀ part : Nat, part < 4 → WEq s n (kM e h) (pM e h) part (fcM e h) (vM e part h1)) ∧ ∀ j, ¬ (192 * e.toNat ≤ j ∧ j < 192 * e.toNat + 192) → h1 188 j = h 188 j) := by
      intro v hv
      unfold XX12_works_p130
      rw [inb_pos (by omega), hm_eq, chk_pos (by omega), show (4 * (48 * e + (g : Int)) + (pt : Int)).toNat = 4 * (48 * e.toNat + g) + pt by omega]
      refine ih72 _ _ _ _ _ _ (by omega) ⟨rfl, rfl, rfl, rfl, by omega, by omega, Eqx_wr e2 _ _, fun part hp => ?_, fun j hj => ?_⟩
      · by_cases qp : part = pt
        · subst qp
          rw [if_pos (by omega)]
          have ev := c2 part hp
          rw [← hW2] at ev
          refine Ev_step (Loc_f _ _ _) hO.1 (by omega) ev (fun k hk => ?_) (fun j hj k hk => ?_) ?_ ?_
          · rw [hgN] at hk ⊢
            have hb := pinC_b (kM e h g).toNat
            exact (((hP g (by omega) (by omega)).2 k (by omega)).1 hk).1
          · have hoj := hO.2.1 j (by omega)
            have := hP (od j).toNat (by omega) (by omega)
            have hbj := pinC_b (kM e h (od j).toNat).toNat
            exact ((this.2 k (by omega)).1 hk).1
          · rw [hgN, ← hv]; exact wr_at
          · intro w hw
            rw [hgN] at hw
            exact wr_o (by omega) _
        · have hun : vM e part (wr h2 188 (4 * (48 * e.toNat + g) + pt) v) = vM e part h2 := funext (fun w => wr_o (by omega) _)
          rw [hun]
          have := d2 part hp
          by_cases ql : (part : Int) < pt
          · rw [if_pos ql] at this; rw [if_pos (by omega)]; exact this
          · rw [if_neg ql] at this; rw [if_neg (by omega)]; exact this
      · rw [wr_o (by omega)]; exact d3 j hj
    by_cases qi : is = -1
    · rw [if_pos qi]
      have hw := worked_eq (h := h2) he (s := s) (n := n) (by rw [kk1 h2 e2, kk2 h2 e2]; exact hP) b2 (g := g) (part := pt) (by omega) (by omega) (by omega)
      rw [hw, cal_eq]
      refine wrt _ ?_
      rw [hF, if_pos qi, kk1 h2 e2, kk2 h2 e2]
    · rw [if_neg qi, show h2 143 = h 143 from e2 _ (by omega)]
      by_cases qb : aand (ashr (h 143 64) is) 1 = 1
      · rw [if_pos qb]; exact wrt _ (by rw [hF, if_neg qi, if_pos qb])
      · rw [if_neg qb]; exact wrt _ (by rw [hF, if_neg qi, if_neg qb])
  unfold XX12_works_L30
  refine En_lup5 (fun _ _ _ _ l5 _ => (3 - l5).toNat) (fun l1 l2 l3 l4 l5 h2 => e = l1 ∧ i = l2 ∧ (g : Int) = l3 ∧ h1 = h2 ∧ 0 ≤ l5 ∧ l5 ≤ h 143 63 ∧ (l4 = if e = 0 then isK (h 189) g l5.toNat else -1)) ?_ FU _ _ _ _ _ _ (by unfold FU; omega) ⟨rfl, rfl, rfl, rfl, by omega, by omega, by split <;> rfl⟩
  rintro self30 l1 l2 l3 l4 l5 h2 ih30 ⟨rfl, rfl, rfl, rfl, d0, d1, d2⟩
  unfold XX12_works_b30
  rw [k4, k5]
  by_cases q3 : h 143 63 ≤ l5
  · rw [if_pos q3]
    refine words _ ?_
    rw [d2, show l5.toNat = (h 143 63).toNat by omega]
  rw [if_neg q3]
  by_cases qe : e = 0
  · rw [if_pos qe, inb_pos (by omega)]
    rw [if_pos qe] at d2
    have st : ∀ v : Int, (v = if h 189 l5.toNat = (g : Int) then l5 else l4) → En (XX12_works_p61 self2 self30 e i g l5 v h1) (fun _ h1 => (∀ part : Nat, part < 4 → WEq s n (kM e h) (pM e h) part (fcM e h) (vM e part h1)) ∧ ∀ j, ¬ (192 * e.toNat ≤ j ∧ j < 192 * e.toNat + 192) → h1 188 j = h 188 j) := by
      intro v hv
      unfold XX12_works_p61
      rw [chk_pos (by omega)]
      refine ih30 _ _ _ _ _ _ (by omega) ⟨rfl, rfl, rfl, rfl, by omega, by omega, ?_⟩
      rw [if_pos qe, show (l5 + 1).toNat = l5.toNat + 1 by omega, hv, d2]
      show _ = if _ then _ else _
      rw [show ((l5.toNat : Nat) : Int) = l5 by omega]
    by_cases qp : h 189 l5.toNat = (g : Int)
    · rw [if_pos qp]; exact st _ (by rw [if_pos qp])
    · rw [if_neg qp]; exact st _ (by rw [if_neg qp])
  · rw [if_neg qe]
    refine words _ ?_
    rw [d2, if_neg qe, if_neg qe]
