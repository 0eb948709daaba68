theorem refreshBoth_Inv {n : Nat} {h : Hp} (hI : Inv n h) : En (XX11_refreshBoth h) (fun _ h1 => Inv n h1 ∧ Two h1 ∧ ∀ a i, ¬ ((23 ≤ a ∧ a ≤ 25) ∨ (33 ≤ a ∧ a ≤ 35) ∨ (a = 17 ∧ i = 6) ∨ (a = 27 ∧ i = 6)) → h1 a i = h a i) := by
  refine En_mono (P := fun _ h1 => Inv n h1 ∧ Two h1) ?_ (fun r h1 e hh => ⟨hh.1, hh.2, fr_XX11_refreshBoth e⟩)
  unfold XX11_refreshBoth
  refine En_cal (refresh_Inv hI (Side_0 hI)) (fun r1 h1 _ hr => ?_)
  obtain ⟨i1, s1, c1, c2, c3⟩ := hr
  refine En_cal (refresh_Inv i1 (Side_1 i1)) (fun r2 h2 _ hr2 => ?_)
  obtain ⟨i2, s2, d1, d2, d3⟩ := hr2
  refine En_some ⟨i2, i2.1.1.1, i2.1.2.1.1, ?_, d1, ?_⟩
  · have e' : ∀ a, (18 ≤ a ∧ a ≤ 25) → h2 a = h1 a := fun a ha => funext (fun i => d3 a i (by omega))
    exact Cch_congr (e' _ (by omega)) (e' _ (by omega)) (e' _ (by omega)) (e' _ (by omega)) (e' _ (by omega)) (e' _ (by omega)) c1
  · have a1 := i2.2.1.1
    have a2 := i2.2.1.2.1
    omega
/-- how many points these are; 0: they aren't as said -/
def ptN (h : Hp) (a b c : Int) : Int := if (sc 18 h ≤ a ∧ a < wn 18 h) ∧ (b = -1 ∨ (sc 18 h ≤ b ∧ b < wn 18 h) ∧ a < b) ∧ (c = -1 ∨ b ≠ -1 ∧ (sc 18 h ≤ c ∧ c < wn 18 h) ∧ b < c) then (if b = -1 then 1 else if c = -1 then 2 else 3) else 0
theorem ptN_b (h : Hp) (a b c : Int) : ptN h a b c = 0 ∨ (1 ≤ ptN h a b c ∧ ptN h a b c ≤ 3) := by
  unfold ptN; split
  · split
    · omega
    · split <;> omega
  · exact Or.inl rfl
theorem ptN_congr {h h1 : Hp} (e : h1 18 = h 18) (a b c : Int) : ptN h1 a b c = ptN h a b c := by unfold ptN; rw [sc_congr e, wn_congr e]
theorem aim_ok {h : Hp} (hN : Nums 40 18 h) (a b c : Int) : En (XX5_aim a b c h) (fun r h1 => (ptN h a b c = 0 ∧ r = 0 ∧ h1 = h) ∨ (1 ≤ ptN h a b c ∧ r = 1 ∧ Aim h1 ∧ h1 40 4 = ptN h a b c ∧ ∀ k, k < 3 → h1 41 k = p3 a b c k)) := by
  have hlt := Pl_lt (by decide) hN
  have hbody : (sc 18 h ≤ a ∧ a < wn 18 h) ∧ (b = -1 ∨ (sc 18 h ≤ b ∧ b < wn 18 h) ∧ a < b) ∧ (c = -1 ∨ b ≠ -1 ∧ (sc 18 h ≤ c ∧ c < wn 18 h) ∧ b < c) → En (XX5_aim_p76 a b c h) (fun r h1 => (ptN h a b c = 0 ∧ r = 0 ∧ h1 = h) ∨ (1 ≤ ptN h a b c ∧ r = 1 ∧ Aim h1 ∧ h1 40 4 = ptN h a b c ∧ ∀ k, k < 3 → h1 41 k = p3 a b c k)) := by
    intro hg
    have hpt : ptN h a b c = if b = -1 then 1 else if c = -1 then 2 else 3 := by unfold ptN; rw [if_pos hg]
    have hb := ptN_b h a b c
    have hpos : 1 ≤ ptN h a b c := by rw [hpt]; split; omega; split <;> omega
    unfold XX5_aim_p76
    rw [inb_pos (by omega), hm_eq, inb_pos (by omega), hm_eq, inb_pos (by omega), hm_eq]
    have go : ∀ s1 : Int, s1 = ptN h a b c → En (XX5_aim_p117 s1 (wr (wr (wr h 41 (0 : Int).toNat a) 41 (1 : Int).toNat b) 41 (2 : Int).toNat c)) (fun r h1 => (ptN h a b c = 0 ∧ r = 0 ∧ h1 = h) ∨ (1 ≤ ptN h a b c ∧ r = 1 ∧ Aim h1 ∧ h1 40 4 = ptN h a b c ∧ ∀ k, k < 3 → h1 41 k = p3 a b c k)) := by
      intro s1 hs1
      unfold XX5_aim_p117 XX5_aim_L128
      rw [hm_eq, hm_eq]
      have hpin : ∀ k : Nat, (k : Int) < ptN h a b c → sc 18 h ≤ p3 a b c k ∧ p3 a b c k < wn 18 h := by
        intro k hk
        rw [hpt] at hk
        unfold p3
        by_cases k0 : k = 0
        · rw [if_pos k0]; exact hg.1
        · rw [if_neg k0]
          by_cases qb : b = -1
          · rw [if_pos qb] at hk; omega
          · rw [if_neg qb] at hk
            by_cases k1 : k = 1
            · rw [if_pos k1]; rcases hg.2.1 with t | t; exact absurd t qb; exact t.1
            · rw [if_neg k1]
              by_cases qc : c = -1
              · rw [if_pos qc] at hk; omega
              · rcases hg.2.2 with t | t; exact absurd t qc; exact t.2.1
      refine En_lup1 (fun l4 _ => (3 - l4).toNat) (fun l4 h1 => 0 ≤ l4 ∧ l4 ≤ ptN h a b c ∧ (∀ x i, ¬ (x = 41 ∨ (x = 40 ∧ 4 ≤ i ∧ i ≤ 5)) → h1 x i = h x i) ∧ h1 40 4 = ptN h a b c ∧ (∀ k, k < 3 → h1 41 k = p3 a b c k) ∧ ∀ v : Nat, tb (h1 40 5) v = true ↔ ∃ k : Nat, (k : Int) < l4 ∧ p3 a b c k = (v : Int)) ?_ FU _ _ (by unfold FU; omega) ⟨by omega, by omega, fun x i hh => ?_, ?_, fun k hk => ?_, fun v => ?_⟩
      rotate_left
      · rw [wq_ne (by omega), wq_ne (by omega), wq_ne (by omega), wq_ne (by omega), wq_ne (by omega)]
      · rw [wq_ne (by omega), wr_at, hs1]
      · rw [wq_ne (by omega), wq_ne (by omega)]
        have : k = 0 ∨ k = 1 ∨ k = 2 := by omega
        rcases this with e | e | e <;> subst e <;> simp [wr, p3]
      · rw [wr_at, tb_0]
        constructor
        · intro e; cases e
        · rintro ⟨k, hk, _⟩; omega
      rintro self l4 h1 ih ⟨c0, c1, c2, c3, c4, c5⟩
      unfold XX5_aim_b128
      rw [c3]
      by_cases q : ptN h a b c ≤ l4
      · rw [if_pos q, zb_1]
        have x18 : h1 18 = h 18 := funext (fun i => c2 18 i (by omega))
        refine En_some (Or.inr ⟨hpos, rfl, ⟨by omega, by omega, fun k hk => ?_, fun v => ?_⟩, c3, c4⟩)
        · rw [sc_congr x18, wn_congr x18, c4 k (by omega)]; exact hpin k (by omega)
        · rw [c5 v]
          constructor
          · rintro ⟨k, hk, e⟩; exact ⟨k, by omega, by rw [c4 k (by omega)]; exact e⟩
          · rintro ⟨k, hk, e⟩; exact ⟨k, by omega, by rw [← c4 k (by omega)]; exact e⟩
      · rw [if_neg q, inb_pos (by omega), hm_eq, chk_pos (by omega), c4 _ (by omega)]
        have hpk := hpin l4.toNat (by omega)
        refine ih _ _ (by omega) ⟨by omega, by omega, fun x i hh => by rw [wq_ne (by omega)]; exact c2 x i hh, by rw [wq_ne (by omega)]; exact c3, fun k hk => by rw [wq_ne (by omega)]; exact c4 k hk, fun v => ?_⟩
        rw [wr_at, tb_jor, Bool.or_eq_true, c5 v, tb_pow (by omega) (by omega), decide_eq_true_eq]
        constructor
        · rintro (⟨k, hk, e⟩ | e)
          · exact ⟨k, by omega, e⟩
          · exact ⟨l4.toNat, by omega, by omega⟩
        · rintro ⟨k, hk, e⟩
          by_cases qk : k = l4.toNat
          · rw [qk] at e; exact Or.inr (by omega)
          · exact Or.inl ⟨k, by omega, e⟩
    by_cases qb : b = -1
    · rw [if_pos qb]; exact go 1 (by rw [hpt, if_pos qb])
    · rw [if_neg qb]
      by_cases qc : c = -1
      · rw [if_pos qc]; exact go 2 (by rw [hpt, if_neg qb, if_pos qc])
      · rw [if_neg qc]; exact go 3 (by rw [hpt, if_neg qb, if_neg qc])
  have hno : ¬ ((sc 18 h ≤ a ∧ a < wn 18 h) ∧ (b = -1 ∨ (sc 18 h ≤ b ∧ b < wn 18 h) ∧ a < b) ∧ (c = -1 ∨ b ≠ -1 ∧ (sc 18 h ≤ c ∧ c < wn 18 h) ∧ b < c)) → En (zb 0 (some (0, h))) (fun r h1 => (ptN h a b c = 0 ∧ r = 0 ∧ h1 = h) ∨ (1 ≤ ptN h a b c ∧ r = 1 ∧ Aim h1 ∧ h1 40 4 = ptN h a b c ∧ ∀ k, k < 3 → h1 41 k = p3 a b c k)) := by
    intro hg
    rw [zb_0]
    exact En_some (Or.inl ⟨by unfold ptN; rw [if_neg hg], rfl, rfl⟩)
  unfold XX5_aim
  rw [isGate_eq (by decide) hN, cal_eq]
  by_cases qa : sc 18 h ≤ a ∧ a < wn 18 h
  · rw [if1 qa, if_neg n10]
    have h50 : (b = -1 ∨ (sc 18 h ≤ b ∧ b < wn 18 h) ∧ a < b) → (b = -1 → c = -1) → En (XX5_aim_p50 a b c h) (fun r h1 => (ptN h a b c = 0 ∧ r = 0 ∧ h1 = h) ∨ (1 ≤ ptN h a b c ∧ r = 1 ∧ Aim h1 ∧ h1 40 4 = ptN h a b c ∧ ∀ k, k < 3 → h1 41 k = p3 a b c k)) := by
      intro hb hbc
      unfold XX5_aim_p50
      by_cases qc : c = -1
      · rw [if_pos qc]; exact hbody ⟨qa, hb, Or.inl qc⟩
      · rw [if_neg qc]
        by_cases qc2 : c ≤ b
        · rw [if_pos qc2]; exact hno (fun hg => by rcases hg.2.2 with t | t; exact qc t; omega)
        · rw [if_neg qc2, isGate_eq (by decide) hN, cal_eq]
          by_cases qc3 : sc 18 h ≤ c ∧ c < wn 18 h
          · rw [if1 qc3, if_neg n10]; exact hbody ⟨qa, hb, Or.inr ⟨fun t => qc (hbc t), qc3, by omega⟩⟩
          · rw [if0 qc3, if_pos rfl]; exact hno (fun hg => by rcases hg.2.2 with t | t; exact qc t; exact qc3 t.2.1)
    by_cases qb : b = -1
    · rw [if_pos qb]
      by_cases qc : c = -1
      · rw [if_pos qc]; exact h50 (Or.inl qb) (fun _ => qc)
      · rw [if_neg qc]; exact hno (fun hg => by rcases hg.2.2 with t | t; exact qc t; exact t.1 qb)
    · rw [if_neg qb]
      by_cases qb2 : b ≤ a
      · rw [if_pos qb2]; exact hno (fun hg => by rcases hg.2.1 with t | t; exact qb t; omega)
      · rw [if_neg qb2, isGate_eq (by decide) hN, cal_eq]
        by_cases qb3 : sc 18 h ≤ b ∧ b < wn 18 h
        · rw [if1 qb3, if_neg n10]; exact h50 (Or.inr ⟨qb3, by omega⟩) (fun t => absurd t qb)
        · rw [if0 qb3, if_pos rfl]; exact hno (fun hg => by rcases hg.2.1 with t | t; exact qb t; exact qb3 t.1)
  · rw [if0 qa, if_pos rfl]
    exact hno (fun hg => qa hg.1)
theorem arePoints_eq {n : Nat} {h : Hp} (hI : Inv n h) (a b c : Int) : XX12_arePoints a b c h = some (ptN h a b c, h) := by
  have hMS := Inv_MS hI
  obtain ⟨r1, r2, r3, r4⟩ := Rel_s hI.2.1
  have hgt : ∀ x, XX12_isGate 0 x h = some (if sc 18 h ≤ x ∧ x < wn 18 h then 1 else 0, h) := fun x => by rw [isGateM_eq hMS.1.1 (by omega), r1, r3]
  have no : ¬ ((sc 18 h ≤ a ∧ a < wn 18 h) ∧ (b = -1 ∨ (sc 18 h ≤ b ∧ b < wn 18 h) ∧ a < b) ∧ (c = -1 ∨ b ≠ -1 ∧ (sc 18 h ≤ c ∧ c < wn 18 h) ∧ b < c)) → XX12_arePoints_p56 b c h = some (ptN h a b c, h) := by
    intro hg
    unfold XX12_arePoints_p56 XX12_arePoints_p57 ptN
    rw [if_pos rfl, if_neg hg]
  have yes : ((sc 18 h ≤ a ∧ a < wn 18 h) ∧ (b = -1 ∨ (sc 18 h ≤ b ∧ b < wn 18 h) ∧ a < b) ∧ (c = -1 ∨ b ≠ -1 ∧ (sc 18 h ≤ c ∧ c < wn 18 h) ∧ b < c)) → XX12_arePoints_p52 b c h = some (ptN h a b c, h) := by
    intro hg
    unfold XX12_arePoints_p52 XX12_arePoints_p57 ptN
    rw [if_neg n10, if_pos hg]
    split
    · rfl
    · split <;> rfl
  have h28 : (sc 18 h ≤ a ∧ a < wn 18 h) → (b = -1 ∨ (sc 18 h ≤ b ∧ b < wn 18 h) ∧ a < b) → XX12_arePoints_p28 b c h = some (ptN h a b c, h) := by
    intro qa hb
    unfold XX12_arePoints_p28
    by_cases qc : c = -1
    · rw [if_pos qc]; exact yes ⟨qa, hb, Or.inl qc⟩
    · rw [if_neg qc]
      by_cases qb : b = -1
      · rw [if_pos qb]; exact no (fun hg => by rcases hg.2.2 with t | t; exact qc t; exact t.1 qb)
      · rw [if_neg qb, hgt, cal_eq]
        by_cases qc3 : sc 18 h ≤ c ∧ c < wn 18 h
        · rw [if1 qc3, if_neg n10]
          by_cases qc2 : c ≤ b
          · rw [if_pos qc2]; exact no (fun hg => by rcases hg.2.2 with t | t; exact qc t; omega)
          · rw [if_neg qc2]; exact yes ⟨qa, hb, Or.inr ⟨qb, qc3, by omega⟩⟩
        · rw [if0 qc3, if_pos rfl]; exact no (fun hg => by rcases hg.2.2 with t | t; exact qc t; exact qc3 t.2.1)
  unfold XX12_arePoints
  rw [hgt, cal_eq]
  by_cases qa : sc 18 h ≤ a ∧ a < wn 18 h
  · rw [if1 qa, if_neg n10]
    by_cases qb : b = -1
    · rw [if_pos qb]; exact h28 qa (Or.inl qb)
    · rw [if_neg qb, hgt, cal_eq]
      by_cases qb3 : sc 18 h ≤ b ∧ b < wn 18 h
      · rw [if1 qb3, if_neg n10]
        by_cases qb2 : b ≤ a
        · rw [if_pos qb2]; exact no (fun hg => by rcases hg.2.1 with t | t; exact qb t; omega)
        · rw [if_neg qb2]; exact h28 qa (Or.inr ⟨qb3, by omega⟩)
      · rw [if0 qb3, if_pos rfl]; exact no (fun hg => by rcases hg.2.1 with t | t; exact qb t; exact qb3 t.1)
  · rw [if0 qa, if_pos rfl]; exact no (fun hg => qa hg.1)
/-- the model is prepared for mendings -/
def Prep (h : Hp) : Prop := Ord (sM h) (nM 0 h) (kM 0 h) (pM 0 h) (fun i => h 186 i) ∧ (∀ w : Nat, (w : Int) < sM h → ∀ part : Nat, part < 4 → vM 0 part h w = srcW w part) ∧ ∀ part : Nat, part < 4 → WEq (sM h) (nM 1 h) (kM 1 h) (pM 1 h) part noF (vM 1 part h)
theorem prepares_Inv {n : Nat} {h : Hp} (hI : Inv n h) : En (XX12_prepares h) (fun _ h1 => Inv n h1 ∧ Prep h1 ∧ ∀ a i, ¬ ((186 ≤ a ∧ a ≤ 188) ∨ (a = 143 ∧ i = 63)) → h1 a i = h a i) := by
  refine En_mono (prepares_ok (Inv_MS hI).1) (fun r h1 e hr => ?_)
  have f := fr_XX12_prepares e
  obtain ⟨r1, r2, r3, r4⟩ := hr
  have g1 := f 143 1 (by omega)
  have g2 := f 143 2 (by omega)
  have g4 : h1 144 = h 144 := funext (fun i => f 144 i (by omega))
  have g5 : h1 145 = h 145 := funext (fun i => f 145 i (by omega))
  have g6 : h1 146 = h 146 := funext (fun i => f 146 i (by omega))
  refine ⟨Inv_scr (fun a i hh => f a i (by omega)) hI, ?_, f⟩
  unfold Prep
  rw [sM_congr g1 g2, nM_congr g1 g2 g4, nM_congr g1 g2 g4, kM_congr g5, kM_congr g5, pM_congr g6, pM_congr g6]
  exact ⟨r2, r3, r1⟩
theorem mendings_Inv {n : Nat} {h : Hp} (hI : Inv n h) (hP : Prep h) (a b c : Int) {m : Int} (hm : 1 ≤ m ∧ m ≤ 3) : En (XX12_mendings a b c m h) (fun _ h1 => Inv n h1 ∧ Prep h1 ∧ (∀ q : Nat, (q : Int) < 2 ^ m.toNat → ∀ part : Nat, part < 4 → h1 190 (4 * q + part) = mdW h (fcK (p3 a b c) m.toNat q) part) ∧ ∀ a i, ¬ ((188 ≤ a ∧ a ≤ 190) ∨ (a = 143 ∧ 63 ≤ i ∧ i ≤ 64)) → h1 a i = h a i) := by
  have hMS := Inv_MS hI
  refine En_mono (mendings_ok hMS hP.1 hP.2.1 hP.2.2 hm) (fun r h1 e hr => ?_)
  have f := fr_XX12_mendings e
  obtain ⟨r1, r2, r3, r4⟩ := hr
  have g1 := f 143 1 (by omega)
  have g2 := f 143 2 (by omega)
  have g4 : h1 144 = h 144 := funext (fun i => f 144 i (by omega))
  have g5 : h1 145 = h 145 := funext (fun i => f 145 i (by omega))
  have g6 : h1 146 = h 146 := funext (fun i => f 146 i (by omega))
  refine ⟨Inv_scr (fun a i hh => f a i (by omega)) hI, ?_, fun q hq part hp => by rw [r2 q hq part hp, mdM_mdW hI.2.1 hI.1.1.1 hI.1.2.1.1], f⟩
  have hlt := MN_lt hMS.1.1 (e := 1) (by omega)
  unfold Prep
  rw [sM_congr g1 g2, nM_congr g1 g2 g4, nM_congr g1 g2 g4, kM_congr g5, kM_congr g5, pM_congr g6, pM_congr g6, show (fun i => h1 186 i) = fun i => h 186 i from funext (fun i => f 186 i (by omega))]
  refine ⟨hP.1, r3, fun part hp => WEq_agree (hMS.1.2 1 (by omega)).1 (by omega) (fun w hw => ?_) (hP.2.2 part hp)⟩
  show h1 188 _ = h 188 _
  exact r4 _ (by simp; omega)
theorem m_differ {n : Nat} {h : Hp} (hI : Inv n h) : Both n h XX11_differ XX12_differ := by
  obtain ⟨r1, h1, e1, i1, t1, f1⟩ := refreshBoth_Inv hI
  obtain ⟨r2, h2, e2, rfl, l2⟩ := firstDifference_ok t1 i1.2.2.2.1.1
  obtain ⟨r3, h3, e3, l3⟩ := differ_ok i1.2.1 i1.1.1.1 i1.1.2.1.1
  have f3 := fr_XX12_differ e3
  have hnum := num_le i1
  have hn : h2 37 0 = 2 ^ (sM h2).toNat := by rw [(Rel_s i1.2.1).1]; exact i1.2.2.2.1.1.1
  have hnn : (h2 37 0).toNat = 2 ^ (sM h2).toNat := by
    have : ((2 ^ (sM h2).toNat : Nat) : Int) = (2 : Int) ^ (sM h2).toNat := by rw [Int.natCast_pow]; rfl
    omega
  have er : r2 = r3 := by
    rw [hnn] at l2
    refine Lst_uniq l2 l3 (fun c hc => ?_)
    have := i1.2.2.2.1.2.2 c (by omega)
    rw [this, decide_eq_true_eq]
  refine Both_mk (r := r2) (h1 := h2) (h2 := h3) ?_ (by rw [e3, er]) (Inv_up (Inv_scr (fun a i hh => f3 a i (by omega)) i1))
  unfold XX11_differ
  rw [e1, cal_eq, e2, cal_eq]
theorem Mds_p3 {h : Hp} {a b c : Int} (h41 : ∀ k, k < 3 → h 41 k = p3 a b c k) (h4 : 1 ≤ h 40 4 ∧ h 40 4 ≤ 3) (q : Nat) (cs : Nat) : Mds h q cs ↔ tb (mdW h (fcK (p3 a b c) (h 40 4).toNat q) ((cs / 64 : Nat) : Int)) (cs % 64) = true := by
  unfold Mds mdQ
  rw [fcK_congr (p := p3 a b c) (p2 := h 41) (fun k hk => h41 k (by omega))]
theorem m_enough {n : Nat} {h : Hp} (hI : Inv n h) (a b c : Int) : Both n h (XX11_enough a b c) (XX12_enough a b c) := by
  obtain ⟨r1, h1, e1, ha⟩ := aim_ok (Inv_N0 hI) a b c
  have fa := fr_XX5_aim e1
  rcases ha with ⟨hz, rfl, rfl⟩ | ⟨hp, rfl, hA, h404, h41⟩
  · refine Both_ro (r := -1) ?_ ?_ hI
    · unfold XX11_enough; rw [e1, cal_eq, if_pos rfl]
    · unfold XX12_enough; rw [arePoints_eq hI, cal_eq, hz, if_pos rfl]
  · have hpb := ptN_b h a b c
    have i1 : Inv n h1 := Inv_scr (fun a i hh => fa a i (by omega)) hI
    obtain ⟨r2, h2, e2, i2, t2, f2⟩ := refreshBoth_Inv i1
    have hA2 : Aim h2 := by
      unfold Aim
      rw [f2 40 4 (by omega), f2 40 5 (by omega), show h2 41 = h1 41 from funext (fun i => f2 41 i (by omega)), sc_congr (show h2 18 = h1 18 from funext (fun i => f2 18 i (by omega))), wn_congr (show h2 18 = h1 18 from funext (fun i => f2 18 i (by omega)))]
      exact hA
    obtain ⟨r3, h3, e3, l3⟩ := firstUnmended_ok t2 hA2 i2.2.2.2.1.1
    have f3 := fr_XX5_firstUnmended e3
    have i3 : Inv n h3 := Inv_scr (fun a i hh => f3 a i (by omega)) i2
    have hpt : ptN h3 a b c = ptN h a b c := by
      refine ptN_congr (funext (fun i => ?_)) a b c
      rw [f3 18 i (by omega), f2 18 i (by omega), fa 18 i (by omega)]
    obtain ⟨r4, h4, e4, i4, p4, f4⟩ := prepares_Inv i3
    obtain ⟨r5, h5, e5, i5, p5, m5, f5⟩ := mendings_Inv i4 p4 a b c (m := ptN h a b c) (by omega)
    obtain ⟨r6, h6, e6, rfl, l6⟩ := lacking_ok (Inv_MS i5).1.1 (n := ptN h a b c) (by omega)
    have g : ∀ x i, ((18 ≤ x ∧ x ≤ 22) ∨ (28 ≤ x ∧ x ≤ 32) ∨ x = 149 ∨ x = 37 ∨ x = 39 ∨ (x = 143 ∧ 1 ≤ i ∧ i ≤ 3)) → h6 x i = h2 x i := fun x i hh => by rw [f5 x i (by omega), f4 x i (by omega), f3 x i (by omega)]
    have g4 : ∀ x i, ((18 ≤ x ∧ x ≤ 22) ∨ (28 ≤ x ∧ x ≤ 32)) → h4 x i = h2 x i := fun x i hh => by rw [f4 x i (by omega), f3 x i (by omega)]
    have hnum := num_le i2
    have sm : sM h6 = sM h2 := sM_congr (g 143 1 (by omega)) (g 143 2 (by omega))
    have hn : h2 37 0 = 2 ^ (sM h2).toNat := by rw [(Rel_s i2.2.1).1]; exact i2.2.2.2.1.1.1
    have hnn : (h2 37 0).toNat = 2 ^ (sM h6).toNat := by
      rw [sm]
      have : ((2 ^ (sM h2).toNat : Nat) : Int) = (2 : Int) ^ (sM h2).toNat := by rw [Int.natCast_pow]; rfl
      omega
    have h24 : h2 40 4 = ptN h a b c := by rw [f2 40 4 (by omega), h404]
    have er : r3 = r6 := by
      rw [hnn] at l3
      refine Lst_uniq l3 l6 (fun cs hcs => ?_)
      have hl := i2.2.2.2.1.2.2 cs (by omega)
      rw [hl, decide_eq_true_eq, g 149 cs (by omega)]
      refine and_congr_right (fun _ => ?_)
      rw [h24]
      refine forall_congr' (fun q => ?_)
      refine forall_congr' (fun hq => ?_)
      refine not_congr ?_
      rw [Mds_p3 (a := a) (b := b) (c := c) (fun k hk => by rw [f2 41 k (by omega)]; exact h41 k hk) (by omega), h24]
      unfold MdM
      rw [m5 q hq (cs / 64) (by omega), mdW_congr (fun x i hh => g4 x i (by omega))]
    refine Both_mk (r := r3) (h1 := h3) (h2 := h6) ?_ ?_ (Inv_up i5)
    · unfold XX11_enough; rw [e1, cal_eq, if_neg n10, e2, cal_eq, e3, cal_eq]
    · unfold XX12_enough; rw [arePoints_eq i3, cal_eq, hpt, if_neg (by omega), e4, cal_eq, e5, cal_eq, e6, cal_eq, er]
