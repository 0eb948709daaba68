noncomputable def solW (s n : Int) (kd pn : Nat → Int) (part : Int) (fc : Nat → Option Int) : Nat → Int := Classical.epsilon (fun W => WEq s n kd pn part fc W)
theorem solW_eq {s n : Int} {kd pn : Nat → Int} {part : Int} {fc : Nat → Option Int} {W : Nat → Int} (hP : PinOK s n kd pn) (hA : Acy s n kd pn) (h : WEq s n kd pn part fc W) : ∀ w : Nat, (w : Int) < n → W w = solW s n kd pn part fc w :=
  WEq_uniq hP hA h (Classical.epsilon_spec (p := fun W => WEq s n kd pn part fc W) ⟨W, h⟩)
theorem Ff_congr {kd pn kd2 pn2 : Nat → Int} {fc : Nat → Option Int} {W : Nat → Int} {w : Nat} (hw : w < 48) (e1 : ∀ w, w < 48 → kd2 w = kd w) (e2 : ∀ j, j < 144 → pn2 j = pn j) : Ff fc kd2 pn2 W w = Ff fc kd pn W w := by
  unfold Ff Fw pk
  rw [e1 w hw, e2 (3 * w + 0) (by omega), e2 (3 * w + 1) (by omega), e2 (3 * w + 2) (by omega)]
theorem WEq_congr {s n : Int} {kd pn kd2 pn2 : Nat → Int} {part : Int} {fc : Nat → Option Int} {W : Nat → Int} (hn : n ≤ 48) (e1 : ∀ w, w < 48 → kd2 w = kd w) (e2 : ∀ j, j < 144 → pn2 j = pn j) : WEq s n kd2 pn2 part fc W ↔ WEq s n kd pn part fc W := by
  unfold WEq
  constructor
  · rintro ⟨a, b⟩; exact ⟨a, fun w h1 h2 => by rw [← Ff_congr (by omega) e1 e2]; exact b w h1 h2⟩
  · rintro ⟨a, b⟩; exact ⟨a, fun w h1 h2 => by rw [Ff_congr (by omega) e1 e2]; exact b w h1 h2⟩
theorem solW_congr {s n : Int} {kd pn kd2 pn2 : Nat → Int} {part : Int} {fc : Nat → Option Int} (hn : n ≤ 48) (e1 : ∀ w, w < 48 → kd2 w = kd w) (e2 : ∀ j, j < 144 → pn2 j = pn j) : solW s n kd2 pn2 part fc = solW s n kd pn part fc := by
  unfold solW
  congr 1
  funext W
  exact propext (WEq_congr hn e1 e2)
theorem PinOK_congr {s n : Int} {kd pn kd2 pn2 : Nat → Int} (hn : n ≤ 48) (e1 : ∀ w, w < 48 → kd2 w = kd w) (e2 : ∀ j, j < 144 → pn2 j = pn j) (h : PinOK s n kd pn) : PinOK s n kd2 pn2 := by
  intro w h1 h2
  rw [e1 w (by omega)]
  refine ⟨(h w h1 h2).1, fun k hk => ?_⟩
  rw [e2 _ (by omega)]
  exact (h w h1 h2).2 k hk
theorem Acy_congr {s n : Int} {kd pn kd2 pn2 : Nat → Int} (hn : n ≤ 48) (e1 : ∀ w, w < 48 → kd2 w = kd w) (e2 : ∀ j, j < 144 → pn2 j = pn j) (h : Acy s n kd pn) : Acy s n kd2 pn2 := by
  obtain ⟨rk, h⟩ := h
  refine ⟨rk, fun w h1 h2 k hk => ?_⟩
  rw [e1 w (by omega)] at hk
  have hb := pinC_b (kd w).toNat
  rw [e2 _ (by omega)]
  exact h w h1 h2 k hk
theorem Hang_congr {s n : Int} {kd pn kd2 pn2 : Nat → Int} {B : Nat → Nat → Bool} (hn : n ≤ 48) (e1 : ∀ w, w < 48 → kd2 w = kd w) (e2 : ∀ j, j < 144 → pn2 j = pn j) (h : Hang s n kd pn B) : Hang s n kd2 pn2 B := by
  refine ⟨h.1, fun w h1 h2 v => ?_⟩
  rw [h.2 w h1 h2 v, e1 w (by omega)]
  have hb := pinC_b (kd w).toNat
  constructor
  · rintro (e | ⟨k, hk, e⟩)
    · exact Or.inl e
    · exact Or.inr ⟨k, hk, by rw [e2 _ (by omega)]; exact e⟩
  · rintro (e | ⟨k, hk, e⟩)
    · exact Or.inl e
    · exact Or.inr ⟨k, hk, by rw [← e2 _ (by omega)]; exact e⟩
/-- the word of the cases at which two rows of wires are alike -/
def smF (a b : Nat → Int) : Nat → Int
  | 0 => -1
  | k + 1 => jand (smF a b k) (jxor (jxor (a k) (b k)) (-1))
theorem smF_congr {a b a2 b2 : Nat → Int} : ∀ {m : Nat}, (∀ k, k < m → a2 k = a k ∧ b2 k = b k) → smF a2 b2 m = smF a b m := by
  intro m
  induction m with
  | zero => intro _; rfl
  | succ m ih => intro h; show jand _ _ = jand _ _; rw [ih (fun k hk => h k (by omega)), (h m (by omega)).1, (h m (by omega)).2]
theorem smF_in (a b : Nat → Int) (m : Nat) : inJ (smF a b m) := by
  cases m with
  | zero => exact inJ_m1
  | succ m => exact jand_in _ _
theorem tb_smF {a b : Nat → Int} {c : Nat} (hc : c < 64) : ∀ m : Nat, tb (smF a b m) c = true ↔ ∀ k, k < m → tb (a k) c = tb (b k) c := by
  intro m
  induction m with
  | zero => exact ⟨fun _ k hk => absurd hk (Nat.not_lt_zero _), fun _ => by show tb (-1) c = true; rw [tb_m1]; exact decide_eq_true hc⟩
  | succ m ih =>
    show tb (jand _ _) c = true ↔ _
    rw [tb_jand, Bool.and_eq_true, ih, tb_not _ hc, tb_jxor]
    constructor
    · rintro ⟨h1, h2⟩ k hk
      by_cases q : k = m
      · rw [q]; revert h2; cases tb (a m) c <;> cases tb (b m) c <;> simp
      · exact h1 k (by omega)
    · intro h
      refine ⟨fun k hk => h k (by omega), ?_⟩
      rw [h m (by omega)]; cases tb (b m) c <;> rfl
noncomputable def fOl (h : Hp) (fc : Nat → Option Int) (part : Int) : Nat → Int := solW (sc 18 h) (wn 18 h) (h 19) (h 20) part fc
noncomputable def fWi (h : Hp) (part : Int) : Nat → Int := solW (sc 28 h) (wn 28 h) (h 29) (h 30) part noF
noncomputable def mdW (h : Hp) (fc : Nat → Option Int) (part : Int) : Int := smF (fun k => fOl h fc part (h 21 k).toNat) (fun k => fWi h part (h 31 k).toNat) (h 18 2 + h 18 1).toNat
/-- both nets, fresh -/
def Two (h : Hp) : Prop := Pl 40 18 h ∧ Pl 24 28 h ∧ Cch 17 h ∧ Cch 27 h ∧ h 28 0 = h 18 0 ∧ h 28 1 = h 18 1 ∧ h 28 2 = h 18 2
theorem Two_old {h : Hp} (hT : Two h) {w part : Nat} (hw : (w : Int) < wn 18 h) (hp : part < 4) : h 25 (4 * w + part) = fOl h noF part w :=
  solW_eq (W := fun w => h 25 (4 * w + part)) hT.1.2.1 hT.1.2.2.1 (hT.2.2.1.2.2 part hp) w hw
theorem Two_wish {h : Hp} (hT : Two h) {w part : Nat} (hw : (w : Int) < wn 28 h) (hp : part < 4) : h 35 (4 * w + part) = fWi h part w :=
  solW_eq (W := fun w => h 35 (4 * w + part)) hT.2.1.2.1 hT.2.1.2.2.1 (hT.2.2.2.1.2.2 part hp) w hw
theorem Two_congr {h h1 : Hp} (e : ∀ a i, ((18 ≤ a ∧ a ≤ 25) ∨ (28 ≤ a ∧ a ≤ 35)) → h1 a i = h a i) (hT : Two h) : Two h1 := by
  have e' : ∀ a, ((18 ≤ a ∧ a ≤ 25) ∨ (28 ≤ a ∧ a ≤ 35)) → h1 a = h a := fun a ha => funext (fun i => e a i ha)
  obtain ⟨t1, t2, t3, t4, t5⟩ := hT
  refine ⟨?_, ?_, ?_, ?_, ?_⟩
  · unfold Pl at t1 ⊢
    rw [sc_congr (e' 18 (by omega)), wn_congr (e' 18 (by omega)), e' 18 (by omega), e' (18 + 1) (by omega), e' (18 + 2) (by omega), e' (18 + 3) (by omega), e' (18 + 4) (by omega)]
    exact ⟨Nums_congr (e' 18 (by omega)) t1.1, t1.2⟩
  · unfold Pl at t2 ⊢
    rw [sc_congr (e' 28 (by omega)), wn_congr (e' 28 (by omega)), e' 28 (by omega), e' (28 + 1) (by omega), e' (28 + 2) (by omega), e' (28 + 3) (by omega), e' (28 + 4) (by omega)]
    exact ⟨Nums_congr (e' 28 (by omega)) t2.1, t2.2⟩
  · exact Cch_congr (e' _ (by omega)) (e' _ (by omega)) (e' _ (by omega)) (e' _ (by omega)) (e' _ (by omega)) (e' _ (by omega)) t3
  · exact Cch_congr (e' _ (by omega)) (e' _ (by omega)) (e' _ (by omega)) (e' _ (by omega)) (e' _ (by omega)) (e' _ (by omega)) t4
  · rw [e' 18 (by omega), e' 28 (by omega)]; exact t5
theorem fOl_congr {h h1 : Hp} (e1 : h1 18 = h 18) (e2 : h1 19 = h 19) (e3 : h1 20 = h 20) (fc : Nat → Option Int) (part : Int) : fOl h1 fc part = fOl h fc part := by unfold fOl; rw [sc_congr e1, wn_congr e1, e2, e3]
theorem fWi_congr {h h1 : Hp} (e1 : h1 28 = h 28) (e2 : h1 29 = h 29) (e3 : h1 30 = h 30) (part : Int) : fWi h1 part = fWi h part := by unfold fWi; rw [sc_congr e1, wn_congr e1, e2, e3]
theorem mdW_congr {h h1 : Hp} (e : ∀ a i, ((18 ≤ a ∧ a ≤ 21) ∨ (28 ≤ a ∧ a ≤ 31)) → h1 a i = h a i) (fc : Nat → Option Int) (part : Int) : mdW h1 fc part = mdW h fc part := by
  have e' : ∀ a, ((18 ≤ a ∧ a ≤ 21) ∨ (28 ≤ a ∧ a ≤ 31)) → h1 a = h a := fun a ha => funext (fun i => e a i ha)
  unfold mdW
  rw [fOl_congr (e' _ (by omega)) (e' _ (by omega)) (e' _ (by omega)), fWi_congr (e' _ (by omega)) (e' _ (by omega)) (e' _ (by omega)), e' 18 (by omega), e' 21 (by omega), e' 31 (by omega)]
/-- the mender works for 1 to 3 gates -/
def Aim (h : Hp) : Prop :=
  1 ≤ h 40 4 ∧ h 40 4 ≤ 3 ∧ (∀ k : Nat, (k : Int) < h 40 4 → sc 18 h ≤ h 41 k ∧ h 41 k < wn 18 h) ∧ (∀ v : Nat, tb (h 40 5) v = true ↔ ∃ k : Nat, (k : Int) < h 40 4 ∧ h 41 k = (v : Int))
def Cone (h : Hp) (w : Nat) : Prop := sc 18 h ≤ w ∧ (w : Int) < wn 18 h ∧ jand (h 24 w) (h 40 5) ≠ 0 ∧ tb (h 40 5) w = false
def Loaded (part : Nat) (h : Hp) : Prop :=
  (∀ k : Nat, (k : Int) < h 28 2 + h 28 1 → h 203 k = h 35 (4 * (h 31 k).toNat + part)) ∧ 0 ≤ h 40 8 ∧ h 40 8 ≤ 40 ∧ TO (fun w => ¬ Cone h w) (h 40 8).toNat (h 19) (h 20) (h 43) ∧ (∀ w : Nat, Cone h w → ∃ i : Nat, (i : Int) < h 40 8 ∧ h 43 i = (w : Int)) ∧
  (∀ w : Nat, (w : Int) < wn 18 h → ¬ Cone h w → tb (h 40 5) w = false → h 42 w = h 25 (4 * w + part))
theorem Cone_congr {h h1 : Hp} (e1 : h1 18 = h 18) (e2 : h1 24 = h 24) (e3 : h1 40 5 = h 40 5) : Cone h1 = Cone h := by
  funext w; unfold Cone; rw [sc_congr e1, wn_congr e1, e2, e3]
theorem findCone_ok {h : Hp} (hT : Two h) : En (XX5_findCone h) (fun _ g => (∀ a j, ¬ (a = 43 ∨ (a = 40 ∧ j = 8)) → g a j = h a j) ∧ 0 ≤ g 40 8 ∧ g 40 8 ≤ 40 ∧ TO (fun w => ¬ Cone h w) (g 40 8).toNat (h 19) (h 20) (g 43) ∧ ∀ w : Nat, Cone h w → ∃ i : Nat, (i : Int) < g 40 8 ∧ g 43 i = (w : Int)) := by
  obtain ⟨hPl, _, hC, _, _⟩ := hT
  have hN : Nums 40 18 h := hPl.1
  have hP : PinOK (sc 18 h) (wn 18 h) (h 19) (h 20) := hPl.2.1
  have hO : Ord (sc 18 h) (wn 18 h) (h 19) (h 20) (h 23) := hC.1
  obtain ⟨b0, b1, b2, b3, b4⟩ := Pl_lt (by decide) hN
  have hg : h 18 3 = wn 18 h - sc 18 h := by omega
  have hg40 : h 18 3 ≤ 40 := hN.2.2.2.2.2.2.2.2
  have hg0 : 0 ≤ h 18 3 := by omega
  unfold XX5_findCone XX5_findCone_L7
  rw [hm_eq]
  refine En_lup1 (fun l2 _ => (h 18 3 - l2).toNat) (fun i h2 => 0 ≤ i ∧ i ≤ h 18 3 ∧ (∀ a j, ¬ (a = 43 ∨ (a = 40 ∧ j = 8)) → h2 a j = h a j) ∧ 0 ≤ h2 40 8 ∧ h2 40 8 ≤ i ∧ TO (fun w => ¬ Cone h w) (h2 40 8).toNat (h 19) (h 20) (h2 43) ∧ (∀ j : Nat, (j : Int) < i → Cone h (h 23 j).toNat → ∃ i2 : Nat, (i2 : Int) < h2 40 8 ∧ h2 43 i2 = h 23 j) ∧ (∀ i2 : Nat, (i2 : Int) < h2 40 8 → ∃ j : Nat, (j : Int) < i ∧ h 23 j = h2 43 i2)) ?_ FU _ _ (by unfold FU; omega) ⟨by omega, by omega, fun a j hh => wq_ne (by omega), by rw [wr_at]; omega, by rw [wr_at]; omega, by rw [wr_at]; exact TO_0, fun j hj => by omega, fun i2 hi => by rw [wr_at] at hi; omega⟩
  rintro self7 i h2 ih7 ⟨d0, d1, ee, d2, d3, d4, d5, d6⟩
  unfold XX5_findCone_b7
  rw [ee 18 3 (by omega)]
  by_cases q3 : h 18 3 ≤ i
  · rw [if_pos q3]
    refine En_some ⟨ee, d2, by omega, d4, fun w hw => ?_⟩
    obtain ⟨j, hj, ej⟩ := hO.2.2 w hw.1 hw.2.1
    obtain ⟨i2, hi2, e⟩ := d5 j (by omega) (by rw [ej]; exact hw)
    exact ⟨i2, hi2, by rw [e, ej]⟩
  · rw [if_neg q3, inb_pos (by omega), nm_eq, ee 23 _ (by omega)]
    have hoi := hO.2.1 i.toNat (by omega)
    obtain ⟨g, hgi⟩ := Int.eq_ofNat_of_zero_le (show 0 ≤ h 23 i.toNat by omega)
    rw [hgi, inb_pos (by omega), Int.toNat_natCast, ee 24 g (by omega), ee 40 5 (by omega)]
    have hgN : (h 23 i.toNat).toNat = g := by omega
    have skip : ¬ Cone h g → En (XX5_findCone_p83 self7 i h2) (fun _ g => (∀ a j, ¬ (a = 43 ∨ (a = 40 ∧ j = 8)) → g a j = h a j) ∧ 0 ≤ g 40 8 ∧ g 40 8 ≤ 40 ∧ TO (fun w => ¬ Cone h w) (g 40 8).toNat (h 19) (h 20) (g 43) ∧ ∀ w : Nat, Cone h w → ∃ i : Nat, (i : Int) < g 40 8 ∧ g 43 i = (w : Int)) := by
      intro hnc
      unfold XX5_findCone_p83
      rw [chk_pos (by omega)]
      refine ih7 _ _ (by omega) ⟨by omega, by omega, ee, d2, by omega, d4, fun j hj hc => ?_, fun i2 hi2 => ?_⟩
      · by_cases qj : j = i.toNat
        · rw [qj, hgN] at hc; exact absurd hc hnc
        · exact d5 j (by omega) hc
      · obtain ⟨j, hj, e⟩ := d6 i2 hi2
        exact ⟨j, by omega, e⟩
    by_cases qa : jcmp (jand (h 24 g) (h 40 5)) 0 = 0
    · rw [if_pos qa]
      exact skip (fun hc => hc.2.2.1 (jcmp0.1 qa))
    rw [if_neg qa]
    by_cases qb : jcmp (jand (jshr (h 40 5) (g : Int)) 1) 0 = 0
    · rw [if_pos qb]
      have hb := (jbit0 (h 40 5) (by omega) (by omega)).1 qb
      rw [Int.toNat_natCast] at hb
      have hc : Cone h g := ⟨by omega, by omega, fun e => qa (jcmp0.2 e), hb⟩
      rw [inb_pos (by omega), hm_eq]
      have w8 : wr h2 43 (h2 40 8).toNat g 40 8 = h2 40 8 := by rw [wr_ne (by omega)]
      rw [w8, chk_pos (by omega), hm_eq]
      unfold XX5_findCone_p83
      rw [chk_pos (by omega)]
      have z40 : wr (wr h2 43 (h2 40 8).toNat g) 40 8 (h2 40 8 + 1) 40 8 = h2 40 8 + 1 := wr_at
      have z43 : wr (wr h2 43 (h2 40 8).toNat g) 40 8 (h2 40 8 + 1) 43 = wr h2 43 (h2 40 8).toNat g 43 := wr_ne (by omega)
      refine ih7 _ _ (by omega) ⟨by omega, by omega, fun a j hh => ?_, by rw [z40]; omega, by rw [z40]; omega, ?_, fun j hj hcj => ?_, fun i2 hi2 => ?_⟩
      · rw [wq_ne (by omega), wq_ne (by omega)]; exact ee a j hh
      · rw [z40, z43, show (h2 40 8 + 1).toNat = (h2 40 8).toNat + 1 by omega]
        refine TO_push d4 (fun i hi => wr_o (by omega) _) wr_at (fun hh => hh hc) (fun j hj e => ?_) (fun k hk => ?_)
        · obtain ⟨j2, hj2, e2⟩ := d6 j (by omega)
          exact hO.1.2.1 i.toNat j2 (by omega) (by omega) (by rw [e2, e, hgi])
        · by_cases qc : Cone h (h 20 (3 * g + k)).toNat
          · have := hO.1.2.2 i.toNat (by omega) k (by rw [hgN]; exact hk)
            rw [hgN] at this
            have hb3 := pinC_b (h 19 g).toNat
            have hpk := ((hP g (by omega) (by omega)).2 k (by omega)).1 hk
            rcases this with t | ⟨j, hj, t⟩
            · have := qc.1; omega
            · obtain ⟨i2, hi2, e⟩ := d5 j (by omega) (by rw [t]; exact qc)
              exact Or.inr ⟨i2, by omega, by rw [e, t]⟩
          · exact Or.inl qc
      · rw [z40, z43]
        by_cases qj : j = i.toNat
        · exact ⟨(h2 40 8).toNat, by omega, by rw [wr_at, qj, hgi]⟩
        · obtain ⟨i2, hi2, e⟩ := d5 j (by omega) hcj
          exact ⟨i2, by omega, by rw [wr_o (by omega)]; exact e⟩
      · rw [z40] at hi2
        rw [z43]
        by_cases qi : i2 = (h2 40 8).toNat
        · exact ⟨i.toNat, by omega, by rw [qi, wr_at, hgi]⟩
        · obtain ⟨j, hj, e⟩ := d6 i2 (by omega)
          exact ⟨j, by omega, by rw [wr_o qi]; exact e⟩
    · rw [if_neg qb]
      refine skip (fun hc => qb ?_)
      rw [jbit0 (h 40 5) (by omega) (by omega), Int.toNat_natCast]
      exact hc.2.2.2
theorem load_ok {h : Hp} (hT : Two h) {part : Nat} (hp : part < 4) : En (XX5_load part h) (fun _ h1 => Loaded part h1) := by
  have hN : Nums 40 18 h := hT.1.1
  have hNw : Nums 24 28 h := hT.2.1.1
  obtain ⟨b0, b1, b2, b3, b4⟩ := Pl_lt (by decide) hN
  obtain ⟨w0, w1, w2, w3, w4⟩ := Pl_lt (by decide) hNw
  have hsw : ∀ k : Nat, (k : Int) < h 28 2 + h 28 1 → 0 ≤ h 31 k ∧ h 31 k < wn 28 h := hT.2.1.2.2.2.1
  have hn6 : h 28 2 + h 28 1 ≤ 6 := by have := hNw.2.2.1; have := hNw.2.2.2.2.2.2.1; omega
  have hn0 : 0 ≤ h 28 2 + h 28 1 := by have := hNw.2.2.2.2.2.1; have := hNw.2.1; omega
  unfold XX5_load XX5_load_L2
  refine En_lup2 (fun _ l2 _ => (wn 18 h - l2).toNat) (fun l1 l2 h1 => (part : Int) = l1 ∧ 0 ≤ l2 ∧ l2 ≤ wn 18 h ∧ Eqx 42 h h1 ∧ ∀ w : Nat, (w : Int) < l2 → h1 42 w = h 25 (4 * w + part)) ?_ FU _ _ _ (by unfold FU; omega) ⟨rfl, by omega, by omega, Eqx_refl _ _, fun w hw => by omega⟩
  rintro self2 l1 l2 h1 ih2 ⟨rfl, c0, c1, e1, c2⟩
  unfold XX5_load_b2
  have g1 : h1 18 = h 18 := e1 _ (by omega)
  rw [wires_eq (by decide) (Nums_congr g1 hN), cal_eq, wn_congr g1]
  by_cases q : wn 18 h ≤ l2
  · rw [if_pos q]
    have hnow : ∀ w : Nat, (w : Int) < wn 18 h → h1 42 w = h 25 (4 * w + part) := fun w hw => c2 w (by omega)
    clear c2 ih2
    unfold XX5_load_L43
    refine En_lup2 (fun _ l2 _ => (6 - l2).toNat) (fun l1 i h2 => (part : Int) = l1 ∧ 0 ≤ i ∧ i ≤ h 28 2 + h 28 1 ∧ (∀ a, ¬ (a = 42 ∨ a = 203) → h2 a = h a) ∧ h2 42 = h1 42 ∧ ∀ k : Nat, (k : Int) < i → h2 203 k = h 35 (4 * (h 31 k).toNat + part)) ?_ FU _ _ _ (by unfold FU; omega) ⟨rfl, by omega, hn0, fun a ha => e1 a (by omega), rfl, fun k hk => by omega⟩
    rintro self43 l1 i h2 ih43 ⟨rfl, d0, d1, e2, e42, d2⟩
    unfold XX5_load_b43
    rw [seenCount_eq (Nums_congr (e2 28 (by omega)) hNw), cal_eq, e2 28 (by omega)]
    by_cases q3 : h 28 2 + h 28 1 ≤ i
    · rw [if_pos q3]
      have T2 : Two h2 := Two_congr (fun a j ha => congrFun (e2 a (by omega)) j) hT
      refine En_cal (findCone_ok T2) (fun r g eg hg => ?_)
      obtain ⟨fg, v1, v2, v3, v4⟩ := hg
      have eC : Cone g = Cone h2 := Cone_congr (funext (fun j => fg 18 j (by omega))) (funext (fun j => fg 24 j (by omega))) (fg 40 5 (by omega))
      refine En_some ?_
      unfold Loaded
      rw [eC, show g 19 = h2 19 from funext (fun j => fg 19 j (by omega)), show g 20 = h2 20 from funext (fun j => fg 20 j (by omega)), wn_congr (show g 18 = h2 18 from funext (fun j => fg 18 j (by omega)))]
      refine ⟨fun k hk => ?_, v1, v2, v3, v4, fun w hw hnc hm => ?_⟩
      · rw [fg 28 2 (by omega), fg 28 1 (by omega), e2 28 (by omega)] at hk
        rw [fg 203 k (by omega), fg 31 k (by omega), fg 35 _ (by omega), e2 35 (by omega), e2 31 (by omega)]
        exact d2 k (by omega)
      · rw [wn_congr (e2 18 (by omega))] at hw
        rw [fg 42 w (by omega), fg 25 _ (by omega), e42, e2 25 (by omega)]
        exact hnow w hw
    · rw [if_neg q3]
      have hi := hsw i.toNat (by omega)
      rw [inb_pos (by omega), e2 31 (by omega), chk_pos (by omega), chk_pos (by omega), inb_pos (by omega), inb_pos (by omega), hm_eq, chk_pos (by omega), e2 35 (by omega)]
      refine ih43 _ _ _ (by omega) ⟨rfl, by omega, by omega, fun a ha => by rw [wr_ne (by omega)]; exact e2 a ha, by rw [wr_ne (by omega)]; exact e42, fun k hk => ?_⟩
      by_cases qk : k = i.toNat
      · rw [qk, wr_at, show (4 * h 31 i.toNat + (part : Int)).toNat = 4 * (h 31 i.toNat).toNat + part by omega]
      · rw [wr_o qk]; exact d2 k (by omega)
  · rw [if_neg q, chk_pos (by omega), chk_pos (by omega), inb_pos (by omega), inb_pos (by omega), hm_eq, chk_pos (by omega)]
    refine ih2 _ _ _ (by omega) ⟨rfl, by omega, by omega, Eqx_wr e1 _ _, fun w hw => ?_⟩
    by_cases qw : w = l2.toNat
    · rw [qw, wr_at, show h1 25 = h 25 from e1 _ (by omega), show (4 * l2 + (part : Int)).toNat = 4 * l2.toNat + part by omega]
    · rw [wr_o qw]; exact c2 w (by omega)
