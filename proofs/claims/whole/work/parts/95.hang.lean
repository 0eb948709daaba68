/-- working a net out step by step -/
def itW (s : Int) (kd pn : Nat → Int) (part : Int) (fc : Nat → Option Int) : Nat → Nat → Int
  | 0 => fun w => srcW w part
  | k + 1 => fun w => if (w : Int) < s then srcW w part else Ff fc kd pn (itW s kd pn part fc k) w
theorem itW_src {s : Int} {kd pn : Nat → Int} {part : Int} {fc : Nat → Option Int} (k : Nat) {w : Nat} (hw : (w : Int) < s) : itW s kd pn part fc k w = srcW w part := by
  cases k with
  | zero => rfl
  | succ k => exact if_pos hw
theorem WEq_ex {s n : Int} {kd pn : Nat → Int} (part : Int) (fc : Nat → Option Int) (hn : n ≤ 48) (hP : PinOK s n kd pn) (hA : Acy s n kd pn) : ∃ W, WEq s n kd pn part fc W := by
  obtain ⟨rk, hrk⟩ := hA
  have st : ∀ k w : Nat, s ≤ w → (w : Int) < n → rk w < k → itW s kd pn part fc (k + 1) w = itW s kd pn part fc k w := by
    intro k
    induction k with
    | zero => intro w _ _ h; exact absurd h (Nat.not_lt_zero _)
    | succ k ih =>
      intro w hw hwn hk
      show (if (w : Int) < s then srcW w part else Ff fc kd pn (itW s kd pn part fc (k + 1)) w) = if (w : Int) < s then srcW w part else Ff fc kd pn (itW s kd pn part fc k) w
      rw [if_neg (by omega), if_neg (by omega)]
      refine Loc_f fc kd pn _ _ w (fun p hp => ?_)
      have hp3 := pinC_b (kd w).toNat
      have hpin := ((hP w hw hwn).2 p (by omega)).1 hp
      by_cases q : pn (3 * w + p) < s
      · rw [itW_src _ (by omega), itW_src _ (by omega)]
      · rcases hrk w hw hwn p hp with t | t
        · exact absurd t q
        · exact ih _ (by omega) (by omega) (by omega)
  have mx : ∀ m : Nat, ∃ M, ∀ w, w < m → rk w < M := by
    intro m
    induction m with
    | zero => exact ⟨0, fun w hw => absurd hw (Nat.not_lt_zero _)⟩
    | succ m ih =>
      obtain ⟨M, hM⟩ := ih
      refine ⟨M + rk m + 1, fun w hw => ?_⟩
      by_cases q : w = m
      · subst q; omega
      · have := hM w (by omega); omega
  obtain ⟨M, hM⟩ := mx 48
  refine ⟨itW s kd pn part fc M, fun w hw => itW_src _ hw, fun w hw hwn => ?_⟩
  have e := st M w hw hwn (hM w (by omega))
  rw [← e]
  show (if (w : Int) < s then srcW w part else Ff fc kd pn (itW s kd pn part fc M) w) = _
  rw [if_neg (by omega)]
theorem solW_is {s n : Int} {kd pn : Nat → Int} (part : Int) (fc : Nat → Option Int) (hn : n ≤ 48) (hP : PinOK s n kd pn) (hA : Acy s n kd pn) : WEq s n kd pn part fc (solW s n kd pn part fc) := Classical.epsilon_spec (WEq_ex part fc hn hP hA)
/-- a wire that hangs on none of the points is as it was -/
theorem no_hang {h : Hp} (hT : Two h) (hA : Aim h) (q part : Int) : ∀ w : Nat, (w : Int) < wn 18 h → jand (h 24 w) (h 40 5) = 0 → fOl h (fcK (h 41) (h 40 4).toNat q) part w = fOl h noF part w := by
  have lt := Pl_lt (by decide) hT.1.1
  have hP : PinOK (sc 18 h) (wn 18 h) (h 19) (h 20) := hT.1.2.1
  have hY : Acy (sc 18 h) (wn 18 h) (h 19) (h 20) := hT.1.2.2.1
  have w1 := solW_is part (fcK (h 41) (h 40 4).toNat q) lt.2.2.1 hP hY
  have w2 := solW_is part noF lt.2.2.1 hP hY
  refine rk_ind hP hY (Q := fun w => jand (h 24 w) (h 40 5) = 0 → fOl h (fcK (h 41) (h 40 4).toNat q) part w = fOl h noF part w) (fun w hw ih hz => ?_) (fun w hs hw hz => ?_)
  · by_cases qs : (w : Int) < sc 18 h
    · unfold fOl; rw [w1.1 w qs, w2.1 w qs]
    · have hm := below_self hT hw hz
      have hk : isK (h 41) w (h 40 4).toNat = -1 := isK_none.2 (fun k hk he => by
        have := (hA.2.2.2 w).2 ⟨k, by omega, he⟩
        rw [hm] at this; cases this)
      have hf : fcK (h 41) (h 40 4).toNat q w = none := by unfold fcK; rw [if_pos hk]
      unfold fOl at ih ⊢
      rw [w1.2 w (by omega) hw, w2.2 w (by omega) hw]
      have e1 : ∀ W : Nat → Int, Ff (fcK (h 41) (h 40 4).toNat q) (h 19) (h 20) W w = Fw (h 19) (h 20) W w := fun W => by unfold Ff; rw [hf]
      have e2 : ∀ W : Nat → Int, Ff noF (h 19) (h 20) W w = Fw (h 19) (h 20) W w := fun W => rfl
      rw [e1, e2]
      exact Loc_w (h 19) (h 20) _ _ w (fun k hk => ih k (by omega) hk (below_pin hT (by omega) hw hk hz))
  · unfold fOl; rw [w1.1 w hs, w2.1 w hs]
/-- points are enough -/
def EN (h : Hp) (a b c m : Int) : Prop := ∀ part : Nat, (part : Int) < h 37 1 → ∀ k, k < 64 → tb (h 39 part) k = true → ∃ q : Nat, (q : Int) < 2 ^ m.toNat ∧ tb (mdW h (fcK (p3 a b c) m.toNat q) part) k = true
theorem EN_congr {h h1 : Hp} (e : ∀ a i, ((18 ≤ a ∧ a ≤ 21) ∨ (28 ≤ a ∧ a ≤ 31) ∨ (a = 37 ∧ i = 1) ∨ a = 39) → h1 a i = h a i) (a b c m : Int) : EN h1 a b c m ↔ EN h a b c m := by
  unfold EN
  rw [e 37 1 (by omega), show h1 39 = h 39 from funext (fun i => e 39 i (by omega))]
  have : ∀ fc part, mdW h1 fc part = mdW h fc part := fun fc part => mdW_congr (fun a i hh => e a i (by omega)) fc part
  simp only [this]
/-- the outputs that are wrong -/
def Wro (h : Hp) : Prop := 0 ≤ h 40 11 ∧ h 40 11 ≤ 6 ∧ ∀ i : Nat, (i : Int) < h 40 11 → ∃ k part c : Nat, (k : Int) < h 18 2 + h 18 1 ∧ (part : Int) < h 37 1 ∧ c < 64 ∧ tb (h 39 part) c = true ∧ h 44 i = h 24 (h 21 k).toNat ∧ tb (fOl h noF part (h 21 k).toNat) c ≠ tb (fWi h part (h 31 k).toNat) c
theorem Wro_tr {h h1 : Hp} (e : ∀ a i, ((18 ≤ a ∧ a ≤ 21) ∨ a = 24 ∨ (28 ≤ a ∧ a ≤ 31) ∨ (a = 37 ∧ i = 1) ∨ a = 39 ∨ a = 44 ∨ (a = 40 ∧ i = 11)) → h1 a i = h a i) (w : Wro h) : Wro h1 := by
  obtain ⟨w1, w2, w4⟩ := w
  unfold Wro
  have f : ∀ a, ((18 ≤ a ∧ a ≤ 21) ∨ a = 24 ∨ (28 ≤ a ∧ a ≤ 31) ∨ a = 39 ∨ a = 44) → h1 a = h a := fun a ha => funext (fun i => e a i (by omega))
  rw [e 40 11 (by omega), e 37 1 (by omega), f 18 (by omega), f 39 (by omega), f 44 (by omega), f 24 (by omega), f 21 (by omega), f 31 (by omega)]
  refine ⟨w1, w2, fun i hi => ?_⟩
  obtain ⟨k, part, c, t1, t2, t3, t4, t5, t6⟩ := w4 i hi
  exact ⟨k, part, c, t1, t2, t3, t4, t5, by rw [fOl_congr (f 18 (by omega)) (f 19 (by omega)) (f 20 (by omega)), fWi_congr (f 28 (by omega)) (f 29 (by omega)) (f 30 (by omega))]; exact t6⟩
theorem findWrong_ok {h : Hp} (hT : Two h) (hC : Cas h) : En (XX5_findWrong h) (fun _ g => (∀ a i, ¬ (a = 44 ∨ (a = 40 ∧ i = 11)) → g a i = h a i) ∧ Wro g) := by
  obtain ⟨n0, n1, n2, n3, n4⟩ := Cas_num hC hT.1.1
  have hN : Nums 40 18 h := hT.1.1
  have hsh := hT.2.2.2.2
  have l0 := Pl_lt (by decide) hN
  have l1 := Pl_lt (by decide) hT.2.1.1
  have hs6 : h 18 2 + h 18 1 ≤ 6 := by obtain ⟨_, _, m2, _, _, _, m6, _, _⟩ := hN; omega
  have hso : ∀ k : Nat, (k : Int) < h 18 2 + h 18 1 → 0 ≤ h 21 k ∧ h 21 k < wn 18 h := hT.1.2.2.2.1
  have hsw : ∀ k : Nat, (k : Int) < h 18 2 + h 18 1 → 0 ≤ h 31 k ∧ h 31 k < wn 28 h := fun k hk => hT.2.1.2.2.2.1 k (by omega)
  unfold XX5_findWrong
  rw [hm_eq]
  unfold XX5_findWrong_L7
  refine En_lup1 (fun l _ => (6 - l).toNat) (fun l g => 0 ≤ l ∧ l ≤ h 18 2 + h 18 1 ∧ (∀ a i, ¬ (a = 44 ∨ (a = 40 ∧ i = 11)) → g a i = h a i) ∧ Wro g ∧ g 40 11 ≤ l) ?_ FU _ _ (by unfold FU; omega) ⟨by omega, by obtain ⟨_, m1, _, _, _, m5, _, _, _⟩ := hN; omega, fun a i hh => by rw [wq_ne (by omega)], ?_, by rw [wr_at]; omega⟩
  rotate_left
  · refine ⟨by rw [wr_at]; omega, by rw [wr_at]; omega, fun i hi => ?_⟩
    rw [wr_at] at hi; omega
  rintro self7 l g ih7 ⟨c0, c1, c2, c3, c4⟩
  have hNg : Nums 40 18 g := Nums_congr (funext (fun i => c2 18 i (by omega))) hN
  unfold XX5_findWrong_b7
  rw [seenCount_eq hNg, cal_eq, c2 18 2 (by omega), c2 18 1 (by omega)]
  by_cases q : h 18 2 + h 18 1 ≤ l
  · rw [if_pos q]; exact En_some ⟨c2, c3⟩
  rw [if_neg q]
  obtain ⟨k, rfl⟩ := Int.eq_ofNat_of_zero_le c0
  have ho := hso k (by omega)
  have hw := hsw k (by omega)
  rw [inb_pos (by omega), nm_eq, inb_pos (by omega), nm_eq, Int.toNat_natCast, c2 21 k (by omega), c2 31 k (by omega)]
  unfold XX5_findWrong_L50
  refine En_lup4 (fun _ _ _ l4 _ => (4 - l4).toNat) (fun l1 l2 l3 l4 g => (k : Int) = l1 ∧ h 21 k = l2 ∧ h 31 k = l3 ∧ 0 ≤ l4 ∧ l4 ≤ h 37 1 ∧ (∀ a i, ¬ (a = 44 ∨ (a = 40 ∧ i = 11)) → g a i = h a i) ∧ Wro g ∧ g 40 11 ≤ k) ?_ FU _ _ _ _ _ (by unfold FU; omega) ⟨rfl, rfl, rfl, by omega, by omega, c2, c3, c4⟩
  clear c2 c3 c4 hNg g
  rintro self50 l1 l2 l3 l4 g ih50 ⟨rfl, rfl, rfl, d0, d1, d2, d3, d4⟩
  have next : ∀ g2 : Hp, (∀ a i, ¬ (a = 44 ∨ (a = 40 ∧ i = 11)) → g2 a i = h a i) → Wro g2 → g2 40 11 ≤ (k : Int) + 1 → En (XX5_findWrong_p148 self7 k g2) (fun _ g => (∀ a i, ¬ (a = 44 ∨ (a = 40 ∧ i = 11)) → g a i = h a i) ∧ Wro g) := by
    intro g2 f1 f2 f3
    unfold XX5_findWrong_p148
    rw [chk_pos (by omega)]
    exact ih7 _ _ (by omega) ⟨by omega, by omega, f1, f2, f3⟩
  unfold XX5_findWrong_b50
  rw [d2 37 1 (by omega)]
  by_cases q4 : h 37 1 ≤ l4
  · rw [if_pos q4]; exact next g d2 d3 (by omega)
  rw [if_neg q4]
  obtain ⟨part, rfl⟩ := Int.eq_ofNat_of_zero_le d0
  obtain ⟨w, hw1⟩ := Int.eq_ofNat_of_zero_le ho.1
  obtain ⟨v, hv1⟩ := Int.eq_ofNat_of_zero_le hw.1
  rw [hw1, hv1] at ih50 ⊢
  rw [chk_pos (by omega), chk_pos (by omega), inb_pos (by omega), chk_pos (by omega), chk_pos (by omega), inb_pos (by omega), nm_eq, inb_pos (by omega), show (4 * (w : Int) + (part : Int)).toNat = 4 * w + part by omega, show (4 * (v : Int) + (part : Int)).toNat = 4 * v + part by omega, Int.toNat_natCast, Int.toNat_natCast, d2 25 _ (by omega), d2 35 _ (by omega), d2 39 _ (by omega), Two_old hT (w := w) (part := part) (by omega) (by omega), Two_wish hT (w := v) (part := part) (by omega) (by omega)]
  by_cases qz : jcmp (jand (jxor (fOl h noF part w) (fWi h part v)) (h 39 part)) 0 = 0
  · rw [if_pos qz, chk_pos (by omega)]
    exact ih50 _ _ _ _ _ (by omega) ⟨rfl, rfl, rfl, by omega, by omega, d2, d3, d4⟩
  · rw [if_neg qz]
    have hex : ∃ c, c < 64 ∧ tb (jand (jxor (fOl h noF part w) (fWi h part v)) (h 39 part)) c = true := Classical.byContradiction (fun hno => qz (jcmp0.2 ((tb_zero (jand_in _ _)).2 (fun c hc => Bool.eq_false_iff.mpr (fun ht => hno ⟨c, hc, ht⟩)))))
    obtain ⟨c, hc, hct⟩ := hex
    rw [tb_jand, tb_jxor, Bool.and_eq_true] at hct
    obtain ⟨w1, w2, w4⟩ := id d3
    rw [inb_pos (by omega), inb_pos (by omega), hm_eq, wq_ne (by omega), chk_pos (by omega), hm_eq]
    generalize hv : (g 40 11).toNat = u
    have hu : g 40 11 = (u : Int) := by omega
    rw [hu]
    have e : ∀ a i, ¬ (a = 44 ∨ (a = 40 ∧ i = 11)) → wr (wr g 44 u (g 24 w)) 40 11 ((u : Int) + 1) a i = h a i := fun a i hh => by rw [wq_ne (by omega), wq_ne (by omega)]; exact d2 a i hh
    have e11 : wr (wr g 44 u (g 24 w)) 40 11 ((u : Int) + 1) 40 11 = (u : Int) + 1 := wr_at
    have e44 : ∀ i, wr (wr g 44 u (g 24 w)) 40 11 ((u : Int) + 1) 44 i = if i = u then h 24 w else g 44 i := fun i => by
      rw [wq_ne (by omega), wr_row, d2 24 w (by omega)]
    generalize wr (wr g 44 u (g 24 w)) 40 11 ((u : Int) + 1) = g2 at *
    refine next g2 e ?_ (by rw [e11]; omega)
    have f : ∀ a, ((18 ≤ a ∧ a ≤ 21) ∨ a = 24 ∨ (28 ≤ a ∧ a ≤ 31) ∨ a = 39) → g2 a = h a := fun a ha => funext (fun i => e a i (by omega))
    have fg : ∀ a, ((18 ≤ a ∧ a ≤ 21) ∨ a = 24 ∨ (28 ≤ a ∧ a ≤ 31) ∨ a = 39) → g a = h a := fun a ha => funext (fun i => d2 a i (by omega))
    unfold Wro
    rw [e11, e 37 1 (by omega), f 18 (by omega), f 39 (by omega), f 24 (by omega), f 21 (by omega), f 31 (by omega)]
    refine ⟨by omega, by omega, fun i hi => ?_⟩
    by_cases qi : i = u
    · refine ⟨k, part, c, by omega, by omega, hc, hct.2, ?_, ?_⟩
      · rw [e44, if_pos qi, hw1, Int.toNat_natCast]
      · rw [fOl_congr (f 18 (by omega)) (f 19 (by omega)) (f 20 (by omega)), fWi_congr (f 28 (by omega)) (f 29 (by omega)) (f 30 (by omega)), hw1, hv1, Int.toNat_natCast, Int.toNat_natCast]
        intro t
        rw [t] at hct
        simp at hct
    · obtain ⟨k', part', c', t1, t2, t3, t4, t5, t6⟩ := w4 i (by omega)
      rw [fg 18 (by omega)] at t1
      rw [d2 37 1 (by omega)] at t2
      rw [fg 39 (by omega)] at t4
      rw [fg 24 (by omega), fg 21 (by omega)] at t5
      rw [fg 21 (by omega), fg 31 (by omega), fOl_congr (fg 18 (by omega)) (fg 19 (by omega)) (fg 20 (by omega)), fWi_congr (fg 28 (by omega)) (fg 29 (by omega)) (fg 30 (by omega))] at t6
      refine ⟨k', part', c', t1, t2, t3, t4, by rw [e44, if_neg qi]; exact t5, by rw [fOl_congr (f 18 (by omega)) (f 19 (by omega)) (f 20 (by omega)), fWi_congr (f 28 (by omega)) (f 29 (by omega)) (f 30 (by omega))]; exact t6⟩
