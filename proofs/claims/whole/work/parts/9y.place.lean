/-- the class's lengths, and what is left -/
def LcB (h : Hp) (i s : Nat) : Int := if h 68 s = h 61 i ∧ h 155 s = 0 then lnB h i s else 1000000
def tOB (r : Int) : Int := if r = -1 then 1000000 else r
def MsB (h : Hp) (N M : Nat) (x : Hp) : Prop := ∀ i s, i < M → s < N → x 70 (12 * i + s) = LcB h i s
def RkB (h : Hp) (N M : Nat) (lo : Int) (x : Hp) : Prop := ∀ T : Nat, T < 2 ^ N → lo < T → pcB T ≤ M → x 71 T = tOB (rsP h N M (M - pcB T) T)
theorem p12 {N : Nat} (h : N ≤ 12) : 2 ^ N ≤ 4096 := Nat.le_trans (Nat.pow_le_pow_right (by decide) h) (by decide)
theorem measure_ok {h x : Hp} {N M : Nat} (p : PlB h N M) (e : ∀ y i, ¬ (y = 70 ∨ y = 71) → x y i = h y i) : En (XX9_measure 22 x) (fun _ g => (∀ y i, ¬ (y = 70) → g y i = x y i) ∧ MsB h N M g) := by
  obtain ⟨_, j9, _, e0, e8, n12, m8, _⟩ := id p
  have e67 : ∀ s : Nat, s < N → (aand (ashr (h 67 1) s) 1 = 0 ↔ h 155 s = 0) := by
    intro s hs
    have hj := j9.2.2.2.2 s (by omega)
    have hu := j9.2.2.2.1
    rw [e0, Int.toNat_natCast] at hu
    have hlt : h 67 1 < 4096 := by
      have : ((2 ^ N : Nat) : Int) = (2 : Int) ^ N := by rw [Int.natCast_pow]; rfl
      have := p12 n12
      omega
    obtain ⟨U, hU⟩ := Int.eq_ofNat_of_zero_le hu.1
    rw [hU, (set_bit (show U < 4096 by omega) (show s < 12 by omega)).1]
    have t := hj.2.2.2.2.2
    rw [hU, ti_nat (by omega) (by omega), Int.toNat_natCast] at t
    rw [t]
    rcases hj.2.2.2.2.1 with q | q <;> rw [q] <;> decide
  unfold XX9_measure XX9_measure_L2
  refine En_lup1 (fun l _ => (20 - l).toNat) (fun l g => ∃ i : Nat, l = (i : Int) ∧ i ≤ M ∧ (∀ y i, ¬ (y = 70) → g y i = x y i) ∧ ∀ i' s, i' < i → s < N → g 70 (12 * i' + s) = LcB h i' s) ?_ FU _ _ (by unfold FU; omega) ⟨0, rfl, Nat.zero_le _, fun _ _ _ => rfl, fun i' s hi => absurd hi (Nat.not_lt_zero _)⟩
  rintro self l g ih ⟨i, rfl, hi, kg, rg⟩
  unfold XX9_measure_b2
  rw [kg 56 8 (by omega), e 56 8 (by omega), e8]
  by_cases q : (M : Int) ≤ i
  · rw [if_pos q]
    exact En_some ⟨kg, fun i' s h1 h2 => rg i' s (by omega) h2⟩
  rw [if_neg q]
  unfold XX9_measure_L13
  refine En_lup2 (fun _ l4 _ => (20 - l4).toNat) (fun l3 l4 g => (i : Int) = l3 ∧ ∃ s : Nat, l4 = (s : Int) ∧ s ≤ N ∧ (∀ y i, ¬ (y = 70) → g y i = x y i) ∧ (∀ i' s, i' < i → s < N → g 70 (12 * i' + s) = LcB h i' s) ∧ ∀ s', s' < s → g 70 (12 * i + s') = LcB h i s') ?_ FU _ _ _ (by unfold FU; omega) ⟨rfl, 0, rfl, Nat.zero_le _, kg, rg, fun s' hs => absurd hs (Nat.not_lt_zero _)⟩
  rintro self2 l3 l4 g2 ih2 ⟨rfl, s, rfl, hs, kg2, rg2, rs2⟩
  have eg : ∀ y i, ¬ (y = 70 ∨ y = 71) → g2 y i = h y i := fun y i hh => by rw [kg2 y i (by omega)]; exact e y i hh
  unfold XX9_measure_b13
  rw [eg 67 0 (by omega), e0]
  by_cases q2 : (N : Int) ≤ s
  · rw [if_pos q2, chk_pos (by omega)]
    refine ih _ _ (by omega) ⟨i + 1, by omega, by omega, kg2, fun i' s' h1 h2 => ?_⟩
    by_cases t : i' = i
    · rw [t]; exact rs2 s' (by omega)
    · exact rg2 i' s' (by omega) h2
  have fin : ∀ v : Int, v = LcB h i s → En (XX9_measure_p91 22 self self2 i s (12 * (i : Int) + s) v g2) (fun _ g => (∀ y i, ¬ (y = 70) → g y i = x y i) ∧ MsB h N M g) := by
    intro v hv
    unfold XX9_measure_p91
    rw [inb_pos (by omega), hm_eq, chk_pos (by omega), show (12 * (i : Int) + s).toNat = 12 * i + s by omega]
    refine ih2 _ _ _ (by omega) ⟨rfl, s + 1, by omega, by omega, fun y i hh => by rw [wq_ne (by omega)]; exact kg2 y i hh, fun i' s' h1 h2 => ?_, fun s' h1 => ?_⟩
    · rw [wr_row, if_neg (by omega)]; exact rg2 i' s' h1 h2
    · rw [wr_row]
      by_cases t : s' = s
      · rw [t, if_pos rfl]; exact hv
      · rw [if_neg (by omega)]; exact rs2 s' (by omega)
  have no : ¬ (h 68 s = h 61 i ∧ h 155 s = 0) → En (XX9_measure_p54 22 self self2 i s g2) (fun _ g => (∀ y i, ¬ (y = 70) → g y i = x y i) ∧ MsB h N M g) := by
    intro t
    unfold XX9_measure_p54 XX9_measure_p55
    rw [chk_pos (by omega), chk_pos (by omega), if_pos rfl]
    exact fin _ (by unfold LcB; rw [if_neg t])
  rw [if_neg q2, inb_pos (by omega), inb_pos (by omega), Int.toNat_natCast, Int.toNat_natCast, eg 68 s (by omega), eg 61 i (by omega), eg 67 1 (by omega)]
  by_cases q3 : h 68 s = h 61 i
  · rw [if_pos q3]
    by_cases q4 : h 155 s = 0
    · rw [if_pos ((e67 s (by omega)).2 q4)]
      unfold XX9_measure_p55
      rw [chk_pos (by omega), chk_pos (by omega), if_neg n10, inb_pos (by omega), Int.toNat_natCast, eg 69 s (by omega), lengthC_eq p (by omega) (by omega) (fun y i hh => eg y i (by omega)), cal_eq]
      exact fin _ (by unfold LcB; rw [if_pos ⟨q3, q4⟩])
    · rw [if_neg (fun t => q4 ((e67 s (by omega)).1 t))]
      exact no (fun t => q4 t.2)
  · rw [if_neg q3]; exact no (fun t => q3 t.1)
theorem LcB_b {h : Hp} {N M i s : Nat} (p : PlB h N M) (hi : i < M) (hs : s < N) : 0 ≤ LcB h i s ∧ LcB h i s ≤ 1000000 := by
  have := PlB_ln p hi hs
  unfold LcB; split <;> omega
theorem tOB_b {h : Hp} {N M d S : Nat} (p : PlB h N M) (hd : d ≤ M) : 0 ≤ tOB (rsP h N M d S) ∧ tOB (rsP h N M d S) ≤ 1000000 := by
  have := rsP_b p d hd S
  have m8 := p.2.2.2.2.2.2.1
  unfold tOB; split <;> omega
/-- one further spare, of the class's -/
theorem oneB {h x : Hp} {N M S s : Nat} (p : PlB h N M) (hm : MsB h N M x) (hS : S < 2 ^ N) (hp : pcB S < M) (hs : s < N) (hb : S.testBit s = false) (k : RkB h N M S x) : x 70 (12 * pcB S + s) = LcB h (pcB S) s ∧ x 71 (S ||| 2 ^ s) = tOB (rsP h N M (M - (pcB S + 1)) (S ||| 2 ^ s)) ∧ (vlB h (pcB S) S (rsP h N M (M - (pcB S + 1))) s = if LcB h (pcB S) s + tOB (rsP h N M (M - (pcB S + 1)) (S ||| 2 ^ s)) < 1000000 then LcB h (pcB S) s + tOB (rsP h N M (M - (pcB S + 1)) (S ||| 2 ^ s)) else -1) := by
  have n12 := p.2.2.2.2.2.1
  have m8 := p.2.2.2.2.2.2.1
  have e1 := pcB_or (show s < 12 by omega) hb
  have kk := k (S ||| 2 ^ s) (or_lt hS hs) (by have := or_gt hb; omega) (by omega)
  rw [e1] at kk
  refine ⟨hm _ s hp hs, kk, ?_⟩
  have b1 := rsP_b p (M - (pcB S + 1)) (by omega) (S ||| 2 ^ s)
  have b2 := PlB_ln p hp hs
  unfold vlB LcB tOB
  by_cases q1 : h 68 s = h 61 (pcB S) ∧ h 155 s = 0
  · by_cases q2 : rsP h N M (M - (pcB S + 1)) (S ||| 2 ^ s) = -1
    · rw [if_neg (fun t => t.2.2 q2), if_pos q1, if_pos q2, if_neg (by omega)]
    · rw [if_pos ⟨hb, q1, q2⟩, if_pos q1, if_neg q2, if_pos (by omega)]
  · rw [if_neg (fun t => q1 t.2.1), if_neg q1, if_neg (by split <;> omega)]
theorem rsP_at {h : Hp} {N M S : Nat} (hp : pcB S < M) : rsP h N M (M - pcB S) S = mnP (vlB h (pcB S) S (rsP h N M (M - (pcB S + 1)))) N := by
  have : M - pcB S = (M - (pcB S + 1)) + 1 := by omega
  rw [this]
  show mnP (vlB h (M - (M - (pcB S + 1) + 1)) S _) N = _
  rw [show M - (M - (pcB S + 1) + 1) = pcB S by omega]
theorem leastRest_ok {h x : Hp} {N M S : Nat} (p : PlB h N M) (e : ∀ y i, ¬ (y = 70 ∨ y = 71) → x y i = h y i) (hm : MsB h N M x) (hS : S < 2 ^ N) (k : RkB h N M S x) : En (XX9_leastRest S M x) (fun r g => g = x ∧ (pcB S ≤ M → r = tOB (rsP h N M (M - pcB S) S))) := by
  have n12 := p.2.2.2.2.2.1
  have m8 := p.2.2.2.2.2.2.1
  have e0 := p.2.2.2.1
  have h12 := p12 n12
  unfold XX9_leastRest
  rw [bits_eq (by omega), cal_eq]
  by_cases q : ((pcB S : Nat) : Int) < M
  · rw [if_pos q, rsP_at (by omega)]
    unfold XX9_leastRest_L19
    refine En_lup4 (fun _ _ _ l5 _ => (20 - l5).toNat) (fun l1 l3 l4 l5 g => (S : Int) = l1 ∧ ((pcB S : Nat) : Int) = l3 ∧ x = g ∧ ∃ s : Nat, l5 = (s : Int) ∧ s ≤ N ∧ l4 = tOB (mnP (vlB h (pcB S) S (rsP h N M (M - (pcB S + 1)))) s)) ?_ FU _ _ _ _ _ (by unfold FU; omega) ⟨rfl, rfl, rfl, 0, rfl, Nat.zero_le _, rfl⟩
    rintro self l1 l3 l4 l5 g ih ⟨rfl, rfl, rfl, s, rfl, hs, hl4⟩
    unfold XX9_leastRest_b19
    rw [e 67 0 (by omega), e0]
    by_cases q2 : (N : Int) ≤ s
    · rw [if_pos q2]
      have : s = N := by omega
      subst this
      exact En_some ⟨rfl, fun _ => hl4⟩
    rw [if_neg q2]
    have next : ∀ v : Int, v = tOB (mnP (vlB h (pcB S) S (rsP h N M (M - (pcB S + 1)))) (s + 1)) → En (XX9_leastRest_p68 self S ((pcB S : Nat) : Int) v s x) (fun r g => g = x ∧ (pcB S ≤ M → r = tOB (mnP (vlB h (pcB S) S (rsP h N M (M - (pcB S + 1)))) N))) := by
      intro v hv
      unfold XX9_leastRest_p68
      rw [chk_pos (by omega)]
      exact ih _ _ _ _ _ (by omega) ⟨rfl, rfl, rfl, s + 1, by omega, by omega, hv⟩
    obtain ⟨sb1, sb2⟩ := set_bit (show S < 4096 by omega) (show s < 12 by omega)
    by_cases q3 : S.testBit s = false
    · obtain ⟨o1, o2, o3⟩ := oneB p hm hS (by omega) (show s < N by omega) q3 k
      have b1 := LcB_b p (show pcB S < M by omega) (show s < N by omega)
      have b2 := tOB_b (S := S ||| 2 ^ s) p (show M - (pcB S + 1) ≤ M by omega)
      have ol := or_lt hS (show s < N by omega)
      rw [if_pos (sb1.2 q3), chk_pos (by omega), chk_pos (by omega), inb_pos (by omega), sb2, inb_pos (by omega), show (12 * ((pcB S : Nat) : Int) + s).toNat = 12 * pcB S + s by omega, Int.toNat_natCast, o1, o2, chk_pos (by omega), nm_eq]
      refine next _ ?_
      rw [mnP_s, o3, hl4]
      have b3 : mnP (vlB h (pcB S) S (rsP h N M (M - (pcB S + 1)))) s = -1 ∨ (0 ≤ mnP (vlB h (pcB S) S (rsP h N M (M - (pcB S + 1)))) s ∧ mnP (vlB h (pcB S) S (rsP h N M (M - (pcB S + 1)))) s ≤ 186 * 8) := by
        refine mnP_b (fun s' hs' => ?_)
        unfold vlB
        split
        · next t =>
          have a := (rsP_b p (M - (pcB S + 1)) (by omega) (S ||| 2 ^ s')).resolve_left t.2.2
          have b := PlB_ln p (show pcB S < M by omega) (show s' < N by omega)
          right; omega
        · exact Or.inl rfl
      have pure : ∀ A V : Int, (A = -1 ∨ (0 ≤ A ∧ A ≤ 186 * 8)) → 0 ≤ V → imin (tOB A) V = tOB (if (if V < 1000000 then V else -1) = -1 then A else if A = -1 then (if V < 1000000 then V else -1) else if A ≤ (if V < 1000000 then V else -1) then A else (if V < 1000000 then V else -1)) := by
        intro A V hA hV
        by_cases v1 : V < 1000000
        · rw [if_pos v1, if_neg (by omega)]
          by_cases a1 : A = -1
          · rw [if_pos a1]; unfold imin tOB; rw [if_pos a1, if_pos v1, if_neg (by omega)]
          · rw [if_neg a1]
            by_cases a2 : A ≤ V
            · rw [if_pos a2]; unfold imin tOB; rw [if_neg a1, if_neg (by omega)]
            · rw [if_neg a2]; unfold imin tOB; rw [if_neg a1, if_pos (by omega), if_neg (by omega)]
        · rw [if_neg v1, if_pos rfl]; unfold imin tOB
          by_cases a1 : A = -1
          · rw [if_pos a1, if_neg (by omega)]
          · rw [if_neg a1, if_neg (by omega)]
      exact pure _ _ b3 (by omega)
    · have ev : vlB h (pcB S) S (rsP h N M (M - (pcB S + 1))) s = -1 := by unfold vlB; rw [if_neg (fun t => q3 t.1)]
      rw [if_neg (fun t => q3 (sb1.1 t))]
      exact next _ (by rw [mnP_s, ev, if_pos rfl]; exact hl4)
  · rw [if_neg q]
    refine En_some ⟨rfl, fun t => ?_⟩
    rw [show M - pcB S = 0 by omega]
    rfl
/-- the class chooses -/
theorem chooseC_ok {h x : Hp} {N M : Nat} (p : PlB h N M) (e : ∀ y i, ¬ (y = 70 ∨ y = 71) → x y i = h y i) (hm : MsB h N M x) (k : RkB h N M (-1) x) (h0 : rsP h N M M 0 ≠ -1) : En (XX9_choose x) (fun _ g => (∀ y i, ¬ (y = 65 ∨ (y = 56 ∧ i = 1)) → g y i = x y i) ∧ g 56 1 = 1 ∧ ∀ i, i < M → g 65 i = ((chF h N M i (stP h N M i) : Nat) : Int)) := by
  obtain ⟨_, _, _, e0, e8, n12, m8, _⟩ := id p
  have h12 := p12 n12
  unfold XX9_choose XX9_choose_L4
  refine En_lup2 (fun _ l3 _ => (20 - l3).toNat) (fun l2 l3 g => ∃ i : Nat, l3 = (i : Int) ∧ i ≤ M ∧ l2 = ((stP h N M i : Nat) : Int) ∧ wayB h N M i (stP h N M i) ∧ (∀ y i, ¬ (y = 65) → g y i = x y i) ∧ ∀ i', i' < i → g 65 i' = ((chF h N M i' (stP h N M i') : Nat) : Int)) ?_ FU _ _ _ (by unfold FU; omega) ⟨0, rfl, Nat.zero_le _, rfl, ⟨Nat.two_pow_pos N, pcB_0, h0⟩, fun _ _ _ => rfl, fun i' hi => absurd hi (Nat.not_lt_zero _)⟩
  rintro self l2 l3 g ih ⟨i, rfl, hi, rfl, w, kg, rg⟩
  unfold XX9_choose_b4
  rw [kg 56 8 (by omega), e 56 8 (by omega), e8]
  by_cases q : (M : Int) ≤ i
  · rw [if_pos q, zb_1, hm_eq]
    exact En_some ⟨fun y i hh => by rw [wq_ne (by omega)]; exact kg y i (by omega), wr_at, fun i' h1 => by rw [wq_ne (by omega)]; exact rg i' (by omega)⟩
  rw [if_neg q]
  obtain ⟨⟨s0, hs0, hit0⟩, hw⟩ := way_hit p (show i < M by omega) w
  have hst : stP h N M (i + 1) = stP h N M i ||| 2 ^ chF h N M i (stP h N M i) := rfl
  generalize hS : stP h N M i = S at *
  have hp : pcB S = i := w.2.1
  unfold XX9_choose_L15
  refine En_lup3 (fun _ _ l4 _ => (20 - l4).toNat) (fun l2 l3 l4 g2 => (S : Int) = l2 ∧ (i : Int) = l3 ∧ g = g2 ∧ ∃ s : Nat, l4 = (s : Int) ∧ s ≤ N ∧ ∀ t, t < s → hitB h N M i S t = false) ?_ FU _ _ _ _ (by unfold FU; omega) ⟨rfl, rfl, rfl, 0, rfl, Nat.zero_le _, fun t ht => absurd ht (Nat.not_lt_zero _)⟩
  rintro self2 l2 l3 l4 g2 ih2 ⟨rfl, rfl, rfl, s, rfl, hs, hl⟩
  have hsN : s < N := by
    by_cases t : s0 < s
    · rw [hl s0 t] at hit0; cases hit0
    · omega
  unfold XX9_choose_b15
  rw [kg 67 0 (by omega), e 67 0 (by omega), e0, if_neg (by omega)]
  have next : hitB h N M i S s = false → En (XX9_choose_p84 self self2 S i s g) (fun _ g => (∀ y i, ¬ (y = 65 ∨ (y = 56 ∧ i = 1)) → g y i = x y i) ∧ g 56 1 = 1 ∧ ∀ i, i < M → g 65 i = ((chF h N M i (stP h N M i) : Nat) : Int)) := by
    intro hn
    unfold XX9_choose_p84
    rw [chk_pos (by omega)]
    refine ih2 _ _ _ _ (by omega) ⟨rfl, rfl, rfl, s + 1, by omega, by omega, fun t ht => ?_⟩
    by_cases u : t = s
    · rw [u]; exact hn
    · exact hl t (by omega)
  have hS2 := w.1
  obtain ⟨sb1, sb2⟩ := set_bit (show S < 4096 by omega) (show s < 12 by omega)
  by_cases q3 : S.testBit s = false
  · obtain ⟨o1, o2, o3⟩ := oneB p hm hS2 (by omega) hsN q3 (fun T a b c => k T a (by omega) c)
    rw [hp] at o1 o2 o3
    have b1 := LcB_b p (show i < M by omega) hsN
    have b2 := tOB_b (S := S ||| 2 ^ s) p (show M - (i + 1) ≤ M by omega)
    have ol := or_lt hS2 hsN
    have k71 := k S hS2 (by omega) (by omega)
    rw [hp] at k71
    have b3 := (rsP_b p (M - i) (by omega) S).resolve_left w.2.2
    have k71 : x 71 S = rsP h N M (M - i) S := by rw [k71]; unfold tOB; rw [if_neg w.2.2]
    rw [if_pos (sb1.2 q3), chk_pos (by omega), chk_pos (by omega), inb_pos (by omega), sb2, inb_pos (by omega), show (12 * (i : Int) + s).toNat = 12 * i + s by omega, Int.toNat_natCast, Int.toNat_natCast, kg 70 _ (by omega), kg 71 _ (by omega), kg 71 _ (by omega), o1, o2, k71, chk_pos (by omega), inb_pos (by omega)]
    by_cases q4 : LcB h i s + tOB (rsP h N M (M - (i + 1)) (S ||| 2 ^ s)) = rsP h N M (M - i) S
    · have hh : hitB h N M i S s = true := decide_eq_true (by rw [o3, if_pos (by omega)]; exact q4)
      obtain ⟨z1, z2⟩ := hw s hsN hh hl
      rw [if_pos q4, inb_pos (by omega), hm_eq, nm_eq]
      unfold XX9_choose_p90
      rw [chk_pos (by omega)]
      refine ih _ _ _ (by omega) ⟨i + 1, by omega, by omega, by rw [hst, ← z1], by rw [hst, ← z1]; exact z2, fun y j hh => by rw [wq_ne (by omega)]; exact kg y j hh, fun i' h1 => ?_⟩
      rw [Int.toNat_natCast, wr_row]
      by_cases u : i' = i
      · rw [u, if_pos rfl, hS, z1]
      · rw [if_neg u]; exact rg i' (by omega)
    · rw [if_neg q4]
      refine next (decide_eq_false (fun t => q4 ?_))
      rw [o3] at t
      split at t
      · exact t
      · omega
  · rw [if_neg (fun t => q3 (sb1.1 t))]
    refine next (decide_eq_false (fun t => w.2.2 ?_))
    rw [← t]
    unfold vlB
    rw [if_neg (fun t => q3 t.1)]
theorem settle_ok {h : Hp} {N M : Nat} (p : PlB h N M) (mn : M ≤ N) : En (XX9_settle 22 h) (fun r g => (rsP h N M M 0 = -1 ∧ r = -5 ∧ ∀ y i, ¬ (y = 70 ∨ y = 71) → g y i = h y i) ∨ (rsP h N M M 0 ≠ -1 ∧ r = rsP h N M M 0 ∧ (∀ y i, ¬ (y = 65 ∨ (y = 56 ∧ i = 1) ∨ y = 70 ∨ y = 71) → g y i = h y i) ∧ g 56 1 = 1 ∧ ∀ i, i < M → g 65 i = ((chF h N M i (stP h N M i) : Nat) : Int))) := by
  obtain ⟨_, _, _, e0, e8, n12, m8, _, _⟩ := id p
  have h12 := p12 n12
  have h1 : 1 ≤ 2 ^ N := Nat.one_le_two_pow
  unfold XX9_settle
  rw [e0, e8, if_pos (by omega)]
  refine En_cal (measure_ok p (fun _ _ _ => rfl)) (fun r g _ hr => ?_)
  obtain ⟨kg, hm⟩ := hr
  have npow : ((2 ^ N : Nat) : Int) = (2 : Int) ^ N := by rw [Int.natCast_pow]; rfl
  rw [kg 67 0 (by omega), e0, ashl1N (by omega), chk_pos (by omega), nm_eq]
  unfold XX9_settle_L29
  refine En_lup1 (fun l _ => (l + 2).toNat) (fun l g => -1 ≤ l ∧ l < ((2 ^ N : Nat) : Int) ∧ (∀ y i, ¬ (y = 70 ∨ y = 71) → g y i = h y i) ∧ MsB h N M g ∧ RkB h N M l g) ?_ FU _ _ (by unfold FU; omega) ⟨by omega, by omega, fun y i hh => kg y i (by omega), hm, fun T a b c => by omega⟩
  rintro self l g2 ih ⟨c0, c1, k2, m2, r2⟩
  unfold XX9_settle_b29
  by_cases q : l < 0
  · have : l = -1 := by omega
    subst this
    have k71 := r2 0 (Nat.two_pow_pos N) (by decide) (by rw [pcB_0]; omega)
    rw [pcB_0, Nat.sub_zero] at k71
    have b := rsP_b p M (Nat.le_refl _) 0
    rw [if_pos q, inb_pos (by decide), show (0 : Int).toNat = 0 from rfl, k71]
    by_cases z : rsP h N M M 0 = -1
    · have : tOB (rsP h N M M 0) = 1000000 := by unfold tOB; rw [if_pos z]
      rw [this, if_neg (by decide)]
      exact En_some (Or.inl ⟨z, rfl, k2⟩)
    · have t : tOB (rsP h N M M 0) = rsP h N M M 0 := by unfold tOB; rw [if_neg z]
      rw [t, if_pos (by omega)]
      refine En_cal (chooseC_ok p k2 m2 r2 z) (fun r g3 _ h3 => ?_)
      obtain ⟨z1, z2, z3⟩ := h3
      rw [inb_pos (by decide), z1 71 0 (by omega), k71, t]
      exact En_some (Or.inr ⟨z, rfl, fun y i hh => by rw [z1 y i (by omega)]; exact k2 y i (by omega), z2, z3⟩)
  · obtain ⟨S, rfl⟩ := Int.eq_ofNat_of_zero_le (show 0 ≤ l by omega)
    rw [if_neg q, k2 56 8 (by omega), e8]
    refine En_cal (leastRest_ok p k2 m2 (by omega) r2) (fun r g3 _ h3 => ?_)
    obtain ⟨rfl, h3⟩ := h3
    rw [inb_pos (by omega), hm_eq, chk_pos (by omega), Int.toNat_natCast]
    refine ih _ _ (by omega) ⟨by omega, by omega, fun y i hh => by rw [wq_ne (by omega)]; exact k2 y i hh, fun i s a b => by rw [wq_ne (by omega)]; exact m2 i s a b, fun T a b c => ?_⟩
    rw [wr_row]
    by_cases u : T = S
    · subst u; rw [if_pos rfl]; exact h3 c
    · rw [if_neg u]; exact r2 T a (by omega) c
