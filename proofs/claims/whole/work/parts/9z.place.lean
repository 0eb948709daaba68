theorem way_all {h : Hp} {N M : Nat} (p : PlB h N M) (h0 : rsP h N M M 0 ≠ -1) : ∀ i, i ≤ M → wayB h N M i (stP h N M i) := by
  intro i
  induction i with
  | zero => exact fun _ => ⟨Nat.two_pow_pos N, pcB_0, h0⟩
  | succ i ih =>
    intro hi
    obtain ⟨⟨s0, hs0, hit0⟩, hw⟩ := way_hit p (show i < M by omega) (ih (by omega))
    obtain ⟨s, hs, hl⟩ := least_nat (P := fun s => hitB h N M i (stP h N M i) s = true) ⟨s0, hit0⟩
    have hsN : s < N := by
      by_cases t : s0 < s
      · exact absurd hit0 (hl s0 t)
      · omega
    obtain ⟨z1, z2⟩ := hw s hsN hs (fun t ht => Bool.eq_false_iff.mpr (hl t ht))
    show wayB h N M (i + 1) (stP h N M i ||| 2 ^ chF h N M i (stP h N M i))
    rw [← z1]; exact z2
theorem ch_lt {h : Hp} {N M : Nat} (p : PlB h N M) (h0 : rsP h N M M 0 ≠ -1) {i : Nat} (hi : i < M) : chF h N M i (stP h N M i) < N := by
  obtain ⟨⟨s0, hs0, hit0⟩, hw⟩ := way_hit p hi (way_all p h0 i (by omega))
  obtain ⟨s, hs, hl⟩ := least_nat (P := fun s => hitB h N M i (stP h N M i) s = true) ⟨s0, hit0⟩
  have hsN : s < N := by
    by_cases t : s0 < s
    · exact absurd hit0 (hl s0 t)
    · omega
  rw [← (hw s hsN hs (fun t ht => Bool.eq_false_iff.mpr (hl t ht))).1]; exact hsN
/-- the model while it places -/
def MfB (h x : Hp) : Prop := ∀ y i, ¬ (y = 65 ∨ (y = 56 ∧ i = 1) ∨ y = 70 ∨ y = 71 ∨ y = 198 ∨ y = 166 ∨ (y = 143 ∧ i = 24)) → x y i = h y i
def LsB (h : Hp) (N M : Nat) (lo : Int) (x : Hp) : Prop := ∀ T : Nat, T < 2 ^ N → lo < T → pcB T ≤ M → x 198 T = rsP h N M (M - pcB T) T
theorem canBe_eq {h x : Hp} {N M i s S : Nat} (p : PlB h N M) (e : MfB h x) (hi : i < M) (hs : s < N) (hS : S < 2 ^ N) : XX12_canBe i s S x = some (if S.testBit s = false ∧ (h 68 s = h 61 i ∧ h 155 s = 0) then 1 else 0, x) := by
  obtain ⟨_, j9, pt, e0, e8, n12, m8, _⟩ := id p
  have h12 := p12 n12
  have sb := (set_bit (show S < 4096 by omega) (show s < 12 by omega)).1
  have k1 := (j9.2.2.2.2 s (by omega)).1.1
  have k2 := (pt.2.2.2.2.2.2.2.1 i (by omega)).1.1
  unfold XX12_canBe
  by_cases q1 : S.testBit s = false
  · rw [if_pos (sb.2 q1), inb_pos (by omega), Int.toNat_natCast, e 155 s (by omega)]
    by_cases q2 : h 155 s = 0
    · rw [if_pos q2, inb_pos (by omega), inb_pos (by omega), Int.toNat_natCast, e 152 s (by omega), e 162 i (by omega), ← k1, ← k2]
      by_cases q3 : h 68 s = h 61 i
      · rw [if_pos q3, zb_1, if_pos ⟨q1, q3, q2⟩]
      · rw [if_neg q3, zb_0, if_neg (fun t => q3 t.2.1)]
    · rw [if_neg q2, zb_0, if_neg (fun t => q2 t.2.2)]
  · rw [if_neg (fun t => q1 (sb.1 t)), zb_0, if_neg (fun t => q1 t.1)]
theorem vlB_b {h : Hp} {N M i S s : Nat} (p : PlB h N M) (hi : i < M) (hs : s < N) : vlB h i S (rsP h N M (M - (i + 1))) s = -1 ∨ (0 ≤ vlB h i S (rsP h N M (M - (i + 1))) s ∧ vlB h i S (rsP h N M (M - (i + 1))) s ≤ 1488) := by
  have m8 := p.2.2.2.2.2.2.1
  unfold vlB
  split
  · next t =>
    have a := (rsP_b p (M - (i + 1)) (by omega) (S ||| 2 ^ s)).resolve_left t.2.2
    have b := PlB_ln p hi hs
    right; omega
  · exact Or.inl rfl
/-- the model's choice -/
theorem chooseM_ok {h x : Hp} {N M : Nat} (p : PlB h N M) (e : MfB h x) (k : LsB h N M (-1) x) (h0 : rsP h N M M 0 ≠ -1) : En (XX12_place_L188 0 0 x) (fun r g => r = rsP h N M M 0 ∧ (∀ y i, ¬ (y = 166 ∨ (y = 143 ∧ i = 24)) → g y i = x y i) ∧ g 143 24 = 1 ∧ ∀ i, i < M → g 166 i = ((chF h N M i (stP h N M i) : Nat) : Int)) := by
  obtain ⟨_, j9, pt, e0, e8, n12, m8, _⟩ := id p
  have h12 := p12 n12
  have m27 : h 143 27 = (M : Int) := by rw [← pt.2.2.2.1.1]; exact e8
  unfold XX12_place_L188
  refine En_lup2 (fun _ l3 _ => (20 - l3).toNat) (fun l2 l3 g => ∃ i : Nat, l3 = (i : Int) ∧ i ≤ M ∧ l2 = ((stP h N M i : Nat) : Int) ∧ (∀ y i, ¬ (y = 166) → g y i = x y i) ∧ ∀ i', i' < i → g 166 i' = ((chF h N M i' (stP h N M i') : Nat) : Int)) ?_ FU _ _ _ (by unfold FU; omega) ⟨0, rfl, Nat.zero_le _, rfl, fun _ _ _ => rfl, fun i' hi => absurd hi (Nat.not_lt_zero _)⟩
  rintro self l2 l3 g ih ⟨i, rfl, hi, rfl, kg, rg⟩
  unfold XX12_place_b188
  rw [kg 143 27 (by omega), e 143 27 (by omega), m27]
  by_cases q : (M : Int) ≤ i
  · have k0 := k 0 (Nat.two_pow_pos N) (by decide) (by rw [pcB_0]; omega)
    rw [pcB_0, Nat.sub_zero] at k0
    rw [if_pos q, zb_1, hm_eq, inb_pos (by decide)]
    exact En_some ⟨by rw [wq_ne (by omega), kg 198 _ (by omega)]; exact k0, fun y i hh => by rw [wq_ne (by omega)]; exact kg y i (by omega), wr_at, fun i' h1 => by rw [wq_ne (by omega)]; exact rg i' (by omega)⟩
  rw [if_neg q]
  have w := way_all p h0 i (by omega)
  obtain ⟨⟨s0, hs0, hit0⟩, hw⟩ := way_hit p (show i < M by omega) w
  have hst : stP h N M (i + 1) = stP h N M i ||| 2 ^ chF h N M i (stP h N M i) := rfl
  generalize hS : stP h N M i = S at *
  have hp : pcB S = i := w.2.1
  have hS2 := w.1
  unfold XX12_place_L198
  refine En_lup3 (fun _ _ l4 _ => (20 - l4).toNat) (fun l2 l3 l4 g2 => (S : Int) = l2 ∧ (i : Int) = l3 ∧ g = g2 ∧ ∃ s : Nat, l4 = (s : Int) ∧ s ≤ N ∧ ∀ t, t < s → hitB h N M i S t = false) ?_ FU _ _ _ _ (by unfold FU; omega) ⟨rfl, rfl, rfl, 0, rfl, Nat.zero_le _, fun t ht => absurd ht (Nat.not_lt_zero _)⟩
  rintro self2 l2 l3 l4 g2 ih2 ⟨rfl, rfl, rfl, s, rfl, hs, hl⟩
  have hsN : s < N := by
    by_cases t : s0 < s
    · rw [hl s0 t] at hit0; cases hit0
    · omega
  have eg : MfB h g := fun y i hh => by rw [kg y i (by omega)]; exact e y i hh
  unfold XX12_place_b198
  rw [canBe_eq p eg (show i < M by omega) hsN hS2, cal_eq]
  have next : hitB h N M i S s = false → En (XX12_place_p248 self self2 S i s g) (fun r g => r = rsP h N M M 0 ∧ (∀ y i, ¬ (y = 166 ∨ (y = 143 ∧ i = 24)) → g y i = x y i) ∧ g 143 24 = 1 ∧ ∀ i, i < M → g 166 i = ((chF h N M i (stP h N M i) : Nat) : Int)) := by
    intro hn
    unfold XX12_place_p248
    rw [chk_pos (by omega)]
    refine ih2 _ _ _ _ (by omega) ⟨rfl, rfl, rfl, s + 1, by omega, by omega, fun t ht => ?_⟩
    by_cases u : t = s
    · rw [u]; exact hn
    · exact hl t (by omega)
  have miss : vlB h i S (rsP h N M (M - (i + 1))) s = -1 → hitB h N M i S s = false := fun t => decide_eq_false (fun u => w.2.2 (by rw [← u]; exact t))
  by_cases q1 : S.testBit s = false ∧ (h 68 s = h 61 i ∧ h 155 s = 0)
  · have sb2 := (set_bit (show S < 4096 by omega) (show s < 12 by omega)).2
    have ol := or_lt hS2 hsN
    have e1 := pcB_or (show s < 12 by omega) q1.1
    have kk := k (S ||| 2 ^ s) ol (by omega) (by omega)
    rw [e1, hp] at kk
    have kS := k S hS2 (by omega) (by omega)
    rw [hp] at kS
    rw [if_pos q1, if_neg n10, sb2, inb_pos (by omega), Int.toNat_natCast, kg 198 _ (by omega), kk]
    by_cases q2 : rsP h N M (M - (i + 1)) (S ||| 2 ^ s) = -1
    · rw [if_pos q2]
      exact next (miss (by unfold vlB; rw [if_neg (fun t => t.2.2 q2)]))
    · have ev : vlB h i S (rsP h N M (M - (i + 1))) s = lnB h i s + rsP h N M (M - (i + 1)) (S ||| 2 ^ s) := by unfold vlB; rw [if_pos ⟨q1.1, q1.2, q2⟩]
      have b1 := (rsP_b p (M - (i + 1)) (by omega) (S ||| 2 ^ s)).resolve_left q2
      have b2 := PlB_ln p (show i < M by omega) hsN
      rw [if_neg q2, lengthM_eq p (show i < M by omega) hsN (fun y i hh => eg y i (by omega)), cal_eq, inb_pos (by omega), kg 198 _ (by omega), kk, chk_pos (by omega), inb_pos (by omega), Int.toNat_natCast, kg 198 _ (by omega), kS]
      by_cases q4 : lnB h i s + rsP h N M (M - (i + 1)) (S ||| 2 ^ s) = rsP h N M (M - i) S
      · obtain ⟨z1, z2⟩ := hw s hsN (decide_eq_true (by rw [ev]; exact q4)) hl
        rw [if_pos q4, inb_pos (by omega), hm_eq, nm_eq, chk_pos (by omega)]
        refine ih _ _ _ (by omega) ⟨i + 1, by omega, by omega, by rw [hst, ← z1], fun y j hh => by rw [wq_ne (by omega)]; exact kg y j hh, fun i' h1 => ?_⟩
        rw [Int.toNat_natCast, wr_row]
        by_cases u : i' = i
        · rw [u, if_pos rfl, hS, z1]
        · rw [if_neg u]; exact rg i' (by omega)
      · rw [if_neg q4]
        exact next (decide_eq_false (fun t => q4 (by rw [← ev]; exact t)))
  · rw [if_neg q1, if_pos rfl]
    exact next (miss (by unfold vlB; rw [if_neg (fun t => q1 ⟨t.1, t.2.1⟩)]))
theorem placeM_ok {h x : Hp} {N M : Nat} (p : PlB h N M) (mn : M ≤ N) (e : MfB h x) (h23 : h 143 23 = 1) : En (XX12_place x) (fun r g => (rsP h N M M 0 = -1 ∧ r = -5 ∧ ∀ y i, ¬ (y = 198) → g y i = x y i) ∨ (rsP h N M M 0 ≠ -1 ∧ r = rsP h N M M 0 ∧ (∀ y i, ¬ (y = 198 ∨ y = 166 ∨ (y = 143 ∧ i = 24)) → g y i = x y i) ∧ g 143 24 = 1 ∧ ∀ i, i < M → g 166 i = ((chF h N M i (stP h N M i) : Nat) : Int))) := by
  obtain ⟨_, j9, pt, e0, e8, n12, m8, _, _⟩ := id p
  have h12 := p12 n12
  have h1 : 1 ≤ 2 ^ N := Nat.one_le_two_pow
  have m27 : h 143 27 = (M : Int) := by rw [← pt.2.2.2.1.1]; exact e8
  have m12 : h 143 12 = (N : Int) := by rw [← j9.1]; exact e0
  unfold XX12_place
  rw [e 143 23 (by omega), h23, if_neg n10, e 143 27 (by omega), e 143 12 (by omega), m27, m12, if_pos (by omega), ashl1N (by omega), chk_pos (by omega), nm_eq]
  unfold XX12_place_L32
  refine En_lup1 (fun l _ => (l + 2).toNat) (fun l g => -1 ≤ l ∧ l < ((2 ^ N : Nat) : Int) ∧ (∀ y i, ¬ (y = 198) → g y i = x y i) ∧ LsB h N M l g) ?_ FU _ _ (by unfold FU; omega) ⟨by omega, by omega, fun _ _ _ => rfl, fun T a b c => by omega⟩
  rintro self l g ih ⟨c0, c1, k2, r2⟩
  have eg : MfB h g := fun y i hh => by rw [k2 y i (by omega)]; exact e y i hh
  unfold XX12_place_b32
  by_cases q : l < 0
  · have : l = -1 := by omega
    subst this
    have k0 := r2 0 (Nat.two_pow_pos N) (by decide) (by rw [pcB_0]; omega)
    rw [pcB_0, Nat.sub_zero] at k0
    rw [if_pos q, inb_pos (by decide), show (0 : Int).toNat = 0 from rfl, k0]
    by_cases z : rsP h N M M 0 = -1
    · rw [if_pos z]; exact En_some (Or.inl ⟨z, rfl, k2⟩)
    · rw [if_neg z]
      refine En_mono (chooseM_ok p eg r2 z) (fun r g3 _ h3 => ?_)
      obtain ⟨z0, z1, z2, z3⟩ := h3
      exact Or.inr ⟨z, z0, fun y i hh => by rw [z1 y i (by omega)]; exact k2 y i (by omega), z2, z3⟩
  obtain ⟨S, rfl⟩ := Int.eq_ofNat_of_zero_le (show 0 ≤ l by omega)
  rw [if_neg q, bitsM_ok (show S < 4096 by omega), cal_eq, eg 143 27 (by omega), m27]
  -- the spares of a set
  have inner : ∀ g0 : Hp, (∀ y i, ¬ (y = 198 ∧ i = S) → g0 y i = g y i) → (pcB S = M → g0 198 S = 0) → (pcB S < M → g0 198 S = -1) → En (XX12_place_L62 self S ((pcB S : Nat) : Int) 0 g0) (fun r g => (rsP h N M M 0 = -1 ∧ r = -5 ∧ ∀ y i, ¬ (y = 198) → g y i = x y i) ∨ (rsP h N M M 0 ≠ -1 ∧ r = rsP h N M M 0 ∧ (∀ y i, ¬ (y = 198 ∨ y = 166 ∨ (y = 143 ∧ i = 24)) → g y i = x y i) ∧ g 143 24 = 1 ∧ ∀ i, i < M → g 166 i = ((chF h N M i (stP h N M i) : Nat) : Int))) := by
    intro g0 kg0 z0 z1
    have done : ∀ g2 : Hp, (∀ y i, ¬ (y = 198 ∧ i = S) → g2 y i = g y i) → (pcB S ≤ M → g2 198 S = rsP h N M (M - pcB S) S) → En (XX12_place_p165 self S g2) (fun r g => (rsP h N M M 0 = -1 ∧ r = -5 ∧ ∀ y i, ¬ (y = 198) → g y i = x y i) ∨ (rsP h N M M 0 ≠ -1 ∧ r = rsP h N M M 0 ∧ (∀ y i, ¬ (y = 198 ∨ y = 166 ∨ (y = 143 ∧ i = 24)) → g y i = x y i) ∧ g 143 24 = 1 ∧ ∀ i, i < M → g 166 i = ((chF h N M i (stP h N M i) : Nat) : Int))) := by
      intro g2 kk hv
      unfold XX12_place_p165
      rw [chk_pos (by omega)]
      refine ih _ _ (by omega) ⟨by omega, by omega, fun y i hh => by rw [kk y i (by omega)]; exact k2 y i hh, fun T a b c => ?_⟩
      by_cases u : T = S
      · subst u; exact hv c
      · rw [kk 198 T (by omega)]; exact r2 T a (by omega) c
    unfold XX12_place_L62
    refine En_lup3 (fun _ _ l3 _ => (20 - l3).toNat) (fun l1 l2 l3 g2 => (S : Int) = l1 ∧ ((pcB S : Nat) : Int) = l2 ∧ (∀ y i, ¬ (y = 198 ∧ i = S) → g2 y i = g y i) ∧ (pcB S = M → g2 198 S = 0) ∧ ∃ s : Nat, l3 = (s : Int) ∧ s ≤ N ∧ (pcB S < M → g2 198 S = mnP (vlB h (pcB S) S (rsP h N M (M - (pcB S + 1)))) s)) ?_ FU _ _ _ _ (by unfold FU; omega) ⟨rfl, rfl, kg0, z0, 0, rfl, Nat.zero_le _, z1⟩
    rintro self2 l1 l2 l3 g2 ih2 ⟨rfl, rfl, kk, zz, s, rfl, hs, hv⟩
    have e2 : MfB h g2 := fun y i hh => by rw [kk y i (by omega)]; exact eg y i hh
    unfold XX12_place_b62
    rw [e2 143 12 (by omega), e2 143 27 (by omega), m12, m27]
    by_cases q1 : (N : Int) ≤ s
    · rw [if_pos q1]
      refine done g2 kk (fun t => ?_)
      by_cases u : pcB S = M
      · rw [zz u, u, Nat.sub_self]; rfl
      · rw [hv (by omega), rsP_at (by omega), show s = N by omega]
    rw [if_neg q1]
    by_cases q2 : (M : Int) ≤ ((pcB S : Nat) : Int)
    · rw [if_pos q2]
      refine done g2 kk (fun t => ?_)
      have u : pcB S = M := by omega
      rw [zz u, u, Nat.sub_self]; rfl
    rw [if_neg q2, canBe_eq p e2 (show pcB S < M by omega) (show s < N by omega) (show S < 2 ^ N by omega), cal_eq]
    have hv := hv (by omega)
    have skip : vlB h (pcB S) S (rsP h N M (M - (pcB S + 1))) s = -1 → En (XX12_place_p159 self self2 S ((pcB S : Nat) : Int) s g2) (fun r g => (rsP h N M M 0 = -1 ∧ r = -5 ∧ ∀ y i, ¬ (y = 198) → g y i = x y i) ∨ (rsP h N M M 0 ≠ -1 ∧ r = rsP h N M M 0 ∧ (∀ y i, ¬ (y = 198 ∨ y = 166 ∨ (y = 143 ∧ i = 24)) → g y i = x y i) ∧ g 143 24 = 1 ∧ ∀ i, i < M → g 166 i = ((chF h N M i (stP h N M i) : Nat) : Int))) := by
      intro hn
      unfold XX12_place_p159
      rw [chk_pos (by omega)]
      exact ih2 _ _ _ _ (by omega) ⟨rfl, rfl, kk, zz, s + 1, by omega, by omega, fun _ => by rw [mnP_s, hn, if_pos rfl]; exact hv⟩
    by_cases q3 : S.testBit s = false ∧ (h 68 s = h 61 (pcB S) ∧ h 155 s = 0)
    · have sb2 := (set_bit (show S < 4096 by omega) (show s < 12 by omega)).2
      have ol := or_lt (show S < 2 ^ N by omega) (show s < N by omega)
      have og := or_gt q3.1
      have e1 := pcB_or (show s < 12 by omega) q3.1
      have k198 := r2 (S ||| 2 ^ s) ol (by omega) (by omega)
      rw [e1] at k198
      have kw : g2 198 (S ||| 2 ^ s) = rsP h N M (M - (pcB S + 1)) (S ||| 2 ^ s) := by rw [kk 198 _ (by omega)]; exact k198
      rw [if_pos q3, if_neg n10, sb2, inb_pos (by omega), Int.toNat_natCast, kw]
      by_cases q4 : rsP h N M (M - (pcB S + 1)) (S ||| 2 ^ s) = -1
      · rw [if_pos q4]
        exact skip (by unfold vlB; rw [if_neg (fun t => t.2.2 q4)])
      have ev : vlB h (pcB S) S (rsP h N M (M - (pcB S + 1))) s = lnB h (pcB S) s + rsP h N M (M - (pcB S + 1)) (S ||| 2 ^ s) := by unfold vlB; rw [if_pos ⟨q3.1, q3.2, q4⟩]
      have b1 := (rsP_b p (M - (pcB S + 1)) (by omega) (S ||| 2 ^ s)).resolve_left q4
      have b2 := PlB_ln p (show pcB S < M by omega) (show s < N by omega)
      have put : ∀ v : Int, v = mnP (vlB h (pcB S) S (rsP h N M (M - (pcB S + 1)))) (s + 1) → En (XX12_place_p158 self self2 S ((pcB S : Nat) : Int) s S v g2) (fun r g => (rsP h N M M 0 = -1 ∧ r = -5 ∧ ∀ y i, ¬ (y = 198) → g y i = x y i) ∨ (rsP h N M M 0 ≠ -1 ∧ r = rsP h N M M 0 ∧ (∀ y i, ¬ (y = 198 ∨ y = 166 ∨ (y = 143 ∧ i = 24)) → g y i = x y i) ∧ g 143 24 = 1 ∧ ∀ i, i < M → g 166 i = ((chF h N M i (stP h N M i) : Nat) : Int))) := by
        intro v hv2
        unfold XX12_place_p158 XX12_place_p159
        rw [inb_pos (by omega), hm_eq, chk_pos (by omega), Int.toNat_natCast]
        exact ih2 _ _ _ _ (by omega) ⟨rfl, rfl, fun y i hh => by rw [wq_ne (by omega)]; exact kk y i hh, fun t => by omega, s + 1, by omega, by omega, fun _ => by rw [wr_at]; exact hv2⟩
      rw [if_neg q4, lengthM_eq p (show pcB S < M by omega) (show s < N by omega) (fun y i hh => e2 y i (by omega)), cal_eq, inb_pos (by omega), kw, chk_pos (by omega), nm_eq, inb_pos (by omega), Int.toNat_natCast, hv]
      unfold XX12_place_p147
      by_cases q5 : mnP (vlB h (pcB S) S (rsP h N M (M - (pcB S + 1)))) s = -1
      · rw [if_pos q5]
        exact put _ (by rw [mnP_s, ev, if_neg (by omega), if_pos q5])
      · rw [if_neg q5, inb_pos (by omega)]
        by_cases q6 : mnP (vlB h (pcB S) S (rsP h N M (M - (pcB S + 1)))) s ≤ lnB h (pcB S) s + rsP h N M (M - (pcB S + 1)) (S ||| 2 ^ s)
        · rw [if_pos q6, inb_pos (by omega)]
          exact put _ (by rw [mnP_s, ev, if_neg (by omega), if_neg q5, if_pos q6])
        · rw [if_neg q6]
          exact put _ (by rw [mnP_s, ev, if_neg (by omega), if_neg q5, if_neg q6])
    · rw [if_neg q3, if_pos rfl]
      exact skip (by unfold vlB; rw [if_neg (fun t => q3 ⟨t.1, t.2.1⟩)])
  have p59 : ∀ v : Int, (pcB S = M → v = 0) → (pcB S < M → v = -1) → En (XX12_place_p59 self S ((pcB S : Nat) : Int) S v g) (fun r g => (rsP h N M M 0 = -1 ∧ r = -5 ∧ ∀ y i, ¬ (y = 198) → g y i = x y i) ∨ (rsP h N M M 0 ≠ -1 ∧ r = rsP h N M M 0 ∧ (∀ y i, ¬ (y = 198 ∨ y = 166 ∨ (y = 143 ∧ i = 24)) → g y i = x y i) ∧ g 143 24 = 1 ∧ ∀ i, i < M → g 166 i = ((chF h N M i (stP h N M i) : Nat) : Int))) := by
    intro v v1 v2
    unfold XX12_place_p59
    rw [inb_pos (by omega), hm_eq, Int.toNat_natCast]
    exact inner _ (fun y i hh => wq_ne hh) (fun t => by rw [wr_at]; exact v1 t) (fun t => by rw [wr_at]; exact v2 t)
  by_cases q1 : ((pcB S : Nat) : Int) = (M : Int)
  · rw [if_pos q1]; exact p59 0 (fun _ => rfl) (fun t => by omega)
  · rw [if_neg q1]; exact p59 (-1) (fun t => by omega) (fun _ => rfl)
