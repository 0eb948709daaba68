/-- no assignment is left at the pattern of a case -/
def ClF (L : Nat → Prop) (P : Nat → Nat) (M : Nat → Nat → Prop) (n c : Nat) : Prop := L c ∧ ∀ q, q < 2 ^ n → ∃ c', c' ≤ c ∧ L c' ∧ P c' = P c ∧ ¬ M q c'
/-- the clash: its first case, and the case -/
def Cl (N : Nat) (L : Nat → Prop) (P : Nat → Nat) (M : Nat → Nat → Prop) (n : Nat) (cf cc : Int) : Prop := ∃ c d : Nat, c < N ∧ cc = (c : Int) ∧ cf = (d : Int) ∧ ClF L P M n c ∧ (∀ c', c' < c → ¬ ClF L P M n c') ∧ d ≤ c ∧ L d ∧ P d = P c ∧ ∀ d', d' < d → ¬ (L d' ∧ P d' = P c)
def ALg (N : Nat) (L : Nat → Prop) (P : Nat → Nat) (M : Nat → Nat → Prop) (q p : Nat) : Prop := ∀ c, c < N → L c → P c = p → M q c
theorem ClF_congr {N : Nat} {L L2 : Nat → Prop} {P P2 : Nat → Nat} {M M2 : Nat → Nat → Prop} {n : Nat} (eL : ∀ c, c < N → (L c ↔ L2 c)) (eP : ∀ c, c < N → P c = P2 c) (eM : ∀ q c, q < 2 ^ n → c < N → (M q c ↔ M2 q c)) {c : Nat} (hc : c < N) (h : ClF L P M n c) : ClF L2 P2 M2 n c := by
  refine ⟨(eL c hc).1 h.1, fun q hq => ?_⟩
  obtain ⟨c', h1, h2, h3, h4⟩ := h.2 q hq
  exact ⟨c', h1, (eL c' (by omega)).1 h2, by rw [← eP c' (by omega), ← eP c hc]; exact h3, fun t => h4 ((eM q c' hq (by omega)).2 t)⟩
theorem Cl_uniq {N : Nat} {L L2 : Nat → Prop} {P P2 : Nat → Nat} {M M2 : Nat → Nat → Prop} {n : Nat} {cf cc cf2 cc2 : Int} (a : Cl N L P M n cf cc) (b : Cl N L2 P2 M2 n cf2 cc2) (eL : ∀ c, c < N → (L c ↔ L2 c)) (eP : ∀ c, c < N → P c = P2 c) (eM : ∀ q c, q < 2 ^ n → c < N → (M q c ↔ M2 q c)) : cf = cf2 ∧ cc = cc2 := by
  obtain ⟨c, d, a1, rfl, rfl, a2, a3, a4, a5, a6, a7⟩ := a
  obtain ⟨c2, d2, b1, rfl, rfl, b2, b3, b4, b5, b6, b7⟩ := b
  have ec : c = c2 := by
    rcases Nat.lt_trichotomy c c2 with t | t | t
    · exact absurd (ClF_congr eL eP eM a1 a2) (b3 c t)
    · exact t
    · exact absurd (ClF_congr (fun c h => (eL c h).symm) (fun c h => (eP c h).symm) (fun q c h1 h2 => (eM q c h1 h2).symm) b1 b2) (a3 c2 t)
  subst ec
  have ed : d = d2 := by
    rcases Nat.lt_trichotomy d d2 with t | t | t
    · exact absurd ⟨(eL d (by omega)).1 a5, by rw [← eP d (by omega), ← eP c a1]; exact a6⟩ (b7 d t)
    · exact t
    · exact absurd ⟨(eL d2 (by omega)).2 b5, by rw [eP d2 (by omega), eP c a1]; exact b6⟩ (a7 d2 t)
  subst ed
  exact ⟨rfl, rfl⟩
/-- a clash there is exactly where a pattern has no allowed assignment -/
theorem Cl_ex {N m n : Nat} {L : Nat → Prop} {P : Nat → Nat} {M : Nat → Nat → Prop} (h : ∃ p, p < 2 ^ m ∧ ∀ q, q < 2 ^ n → ¬ ALg N L P M q p) : ∃ c, c < N ∧ ClF L P M n c := by
  obtain ⟨p, hp, h⟩ := h
  have ex : ∀ q, q < 2 ^ n → ∃ c, c < N ∧ L c ∧ P c = p ∧ ¬ M q c := fun q hq => Classical.byContradiction (fun hno => h q hq (fun c h1 h2 h3 => Classical.byContradiction (fun h4 => hno ⟨c, h1, h2, h3, h4⟩)))
  have mx : ∀ k, k ≤ 2 ^ n → 1 ≤ k → ∃ c, c < N ∧ L c ∧ P c = p ∧ ∀ q, q < k → ∃ c', c' ≤ c ∧ L c' ∧ P c' = p ∧ ¬ M q c' := by
    intro k
    induction k with
    | zero => intro _ h; omega
    | succ k ih =>
      intro hk _
      obtain ⟨c2, h1, h2, h3, h4⟩ := ex k (by omega)
      by_cases k0 : k = 0
      · subst k0
        exact ⟨c2, h1, h2, h3, fun q hq => ⟨c2, Nat.le_refl _, h2, h3, (show q = 0 by omega) ▸ h4⟩⟩
      · obtain ⟨c, i1, i2, i3, i4⟩ := ih (by omega) (by omega)
        by_cases t : c ≤ c2
        · refine ⟨c2, h1, h2, h3, fun q hq => ?_⟩
          by_cases qk : q = k
          · exact ⟨c2, Nat.le_refl _, h2, h3, by rw [qk]; exact h4⟩
          · obtain ⟨c', j1, j2, j3, j4⟩ := i4 q (by omega)
            exact ⟨c', by omega, j2, j3, j4⟩
        · refine ⟨c, i1, i2, i3, fun q hq => ?_⟩
          by_cases qk : q = k
          · exact ⟨c2, by omega, h2, h3, by rw [qk]; exact h4⟩
          · exact i4 q (by omega)
  obtain ⟨c, c1, c2, c3, c4⟩ := mx (2 ^ n) (Nat.le_refl _) (Nat.pow_pos (by decide))
  exact ⟨c, c1, c2, fun q hq => by rw [c3]; exact c4 q hq⟩
theorem Cl_no {N m n : Nat} {L : Nat → Prop} {P : Nat → Nat} {M : Nat → Nat → Prop} (hP : ∀ c, P c < 2 ^ m) (h : ∀ p, p < 2 ^ m → ∃ q, q < 2 ^ n ∧ ALg N L P M q p) {c : Nat} (hc : c < N) : ¬ ClF L P M n c := by
  rintro ⟨h1, h2⟩
  obtain ⟨q, hq, ha⟩ := h (P c) (hP c)
  obtain ⟨c', j1, j2, j3, j4⟩ := h2 q hq
  exact j4 (ha c' (by omega) j2 j3)
/-- what is left of the assignments -/
def Lft (x n : Nat) (L : Nat → Prop) (P : Nat → Nat) (M : Nat → Nat → Prop) (R : Nat → Int) : Prop := ∀ p, p < 8 → inI (R p) ∧ ∀ q, q < 32 → (ti (R p) q = true ↔ (q < 2 ^ n ∧ ∀ c, c < x → L c → P c = p → M q c))
theorem full_bit {n : Nat} (hn : 1 ≤ n ∧ n ≤ 2) : inI (ashl 1 (ashl 1 (n : Int)) - 1) ∧ ∀ q, q < 32 → (ti (ashl 1 (ashl 1 (n : Int)) - 1) q = true ↔ q < 2 ^ n) := by
  rcases (by omega : n = 1 ∨ n = 2) with rfl | rfl
  · exact ⟨by unfold inI; decide +kernel, (by decide +kernel : ∀ q, q < 32 → (ti (ashl 1 (ashl 1 ((1 : Nat) : Int)) - 1) q = true ↔ q < 2 ^ 1))⟩
  · exact ⟨by unfold inI; decide +kernel, (by decide +kernel : ∀ q, q < 32 → (ti (ashl 1 (ashl 1 ((2 : Nat) : Int)) - 1) q = true ↔ q < 2 ^ 2))⟩
theorem zero_bits {x : Int} (hx : inI x) : x = 0 ↔ ∀ q, q < 32 → ti x q = false := by
  constructor
  · rintro rfl q hq; exact ti_0 q
  · intro h; exact ti_ext hx inI_0 (fun q hq => by rw [h q hq, ti_0])
theorem mendingSet_ok {h : Hp} {n : Nat} (hn : 1 ≤ n ∧ n ≤ 2) (h3 : h 45 3 = (n : Int)) {c : Nat} (hc : c < 256) : En (XX1_mendingSet c h) (fun r g => g = h ∧ inI r ∧ ∀ q, q < 32 → (ti r q = true ↔ (q < 2 ^ n ∧ mF h q c))) := by
  have w2 := pow2s hn
  unfold XX1_mendingSet XX1_mendingSet_L4
  refine En_lup3 (fun _ _ l3 _ => (5 - l3).toNat) (fun l1 l2 l3 g => (c : Int) = l1 ∧ h = g ∧ 0 ≤ l3 ∧ l3 ≤ ((2 ^ n : Nat) : Int) ∧ inI l2 ∧ ∀ q : Nat, q < 32 → (ti l2 q = true ↔ ((q : Int) < l3 ∧ mF h q c))) ?_ FU _ _ _ _ (by unfold FU; omega) ⟨rfl, rfl, by omega, Int.natCast_nonneg _, inI_0, fun q hq => by rw [ti_0]; exact ⟨fun t => (by cases t), fun t => (by have := t.1; omega)⟩⟩
  rintro self l1 l2 l3 g ih ⟨rfl, rfl, c0, c1, c2, c3⟩
  unfold XX1_mendingSet_b4
  rw [h3, ashl1N (k := n) (by omega)]
  by_cases q : ((2 ^ n : Nat) : Int) ≤ l3
  · rw [if_pos q]
    exact En_some ⟨rfl, c2, fun q hq => by rw [c3 q hq]; exact and_congr_left (fun _ => by omega)⟩
  obtain ⟨x, rfl⟩ := Int.eq_ofNat_of_zero_le c0
  have ed : (c : Int).tdiv 64 = ((c / 64 : Nat) : Int) := rfl
  have hc2 : (c : Int) - ((c / 64 : Nat) : Int) * 64 = ((c % 64 : Nat) : Int) := by omega
  rw [if_neg q, ed, chk_pos (by omega), chk_pos (by omega), chk_pos (by omega), inb_pos (by omega), hc2, chk_pos (by omega), nm_eq, chk_pos (by omega), show (4 * (x : Int) + ((c / 64 : Nat) : Int)).toNat = 4 * x + c / 64 by omega, jbit _ (by omega) (by omega), Int.toNat_natCast, al2i01]
  refine ih _ _ _ _ (by omega) ⟨rfl, rfl, by omega, by omega, aor_in _ _, fun q' hq' => ?_⟩
  rw [ti_aor, Bool.or_eq_true, c3 q' hq', ti_ashl _ (by omega) (by omega), Int.toNat_natCast]
  have hm : mF h x c ↔ tb (h 48 (4 * x + c / 64)) (c % 64) = true := Iff.rfl
  by_cases qb : tb (h 48 (4 * x + c / 64)) (c % 64) = true
  · rw [if_pos qb, ti_nat (by decide) (by decide)]
    by_cases qq : q' = x
    · subst qq
      simp only [Nat.sub_self]
      exact ⟨fun _ => ⟨by omega, qb⟩, fun _ => Or.inr (by simp [hq'])⟩
    · constructor
      · rintro (t | t)
        · exact ⟨by omega, t.2⟩
        · exfalso
          by_cases t2 : q' < x
          · simp [t2] at t
          · have t1 : Nat.testBit 1 (q' - x) = false := bit_lt (k := 1) (by decide) (by omega)
            simp [t1] at t
      · rintro ⟨t1, t2⟩; exact Or.inl ⟨by omega, t2⟩
  · rw [if_neg qb, ti_0]
    constructor
    · rintro (t | t)
      · exact ⟨by omega, t.2⟩
      · simp at t
    · rintro ⟨t1, t2⟩
      refine Or.inl ⟨?_, t2⟩
      by_cases qq : q' = x
      · subst qq; exact absurd t2 qb
      · omega
theorem findClash_ok {h : Hp} (hT : Two h) (hC : Cas h) {m n : Nat} (hm : Tld h m) (hn : 1 ≤ n ∧ n ≤ 2) (h3 : h 45 3 = (n : Int)) (hex : ∃ c, c < (h 37 0).toNat ∧ ClF (fun c => live h c = true) (fun c => pT h (h 47) c m) (mF h) n c) : En (XX1_findClash h) (fun _ g => (∀ a i, ¬ (a = 50 ∨ a = 51 ∨ (a = 45 ∧ 12 ≤ i ∧ i ≤ 13)) → g a i = h a i) ∧ Cl (h 37 0).toNat (fun c => live h c = true) (fun c => pT h (h 47) c m) (mF h) n (g 45 12) (g 45 13)) := by
  obtain ⟨n0, n1, n2, n3, n4⟩ := Cas_num hC hT.1.1
  obtain ⟨m3, m5, mw⟩ := id hm
  obtain ⟨fb0, fb⟩ := full_bit hn
  have P8 : ∀ c, pT h (h 47) c m < 8 := fun c => Nat.lt_of_lt_of_le (pT_lt _ _ _ _) (Nat.pow_le_pow_right (by decide) m3 : 2 ^ m ≤ 2 ^ 3)
  have tr : ∀ g : Hp, (∀ a i, ¬ (a = 50 ∨ a = 51) → g a i = h a i) → Two g ∧ Tld g m ∧ g 45 3 = (n : Int) ∧ (∀ c, live g c = live h c) ∧ (∀ c, pT g (g 47) c m = pT h (h 47) c m) ∧ (∀ q c, mF g q c ↔ mF h q c) := fun g e => by
    refine ⟨Two_congr (fun a i ha => e a i (by omega)) hT, ⟨m3, by rw [e 45 5 (by omega)]; exact m5, fun j hj => by rw [e 47 j (by omega), wn_congr (show g 18 = h 18 from funext (fun i => e 18 i (by omega)))]; exact mw j hj⟩, by rw [e 45 3 (by omega)]; exact h3, fun c => by unfold live; rw [e 39 _ (by omega)], fun c => pT_congr (fun a i ha => e a i (by omega)) (fun j _ => e 47 j (by omega)) c, fun q c => by unfold mF; rw [e 48 _ (by omega)]⟩
  unfold XX1_findClash
  rw [h3, chk_pos fb0, fill_ok 50 8 _ h (by decide), cal_eq, fill_ok 51 8 (-1) _ (by decide), cal_eq]
  have eo : ∀ a i, ¬ (a = 50 ∨ a = 51) → (fun b j => if b = 51 ∧ j < 8 then (-1 : Int) else (fun b j => if b = 50 ∧ j < 8 then ashl 1 (ashl 1 (n : Int)) - 1 else h b j) b j) a i = h a i := fun a i ha => by
    show (if a = 51 ∧ i < 8 then (-1 : Int) else if a = 50 ∧ i < 8 then ashl 1 (ashl 1 (n : Int)) - 1 else h a i) = h a i
    rw [if_neg (fun t => ha (Or.inr t.1)), if_neg (fun t => ha (Or.inl t.1))]
  have e50 : ∀ p, p < 8 → (fun b j => if b = 51 ∧ j < 8 then (-1 : Int) else (fun b j => if b = 50 ∧ j < 8 then ashl 1 (ashl 1 (n : Int)) - 1 else h b j) b j) 50 p = ashl 1 (ashl 1 (n : Int)) - 1 := fun p hp => by
    show (if 50 = 51 ∧ p < 8 then (-1 : Int) else if 50 = 50 ∧ p < 8 then ashl 1 (ashl 1 (n : Int)) - 1 else h 50 p) = _
    rw [if_neg (by omega), if_pos ⟨rfl, hp⟩]
  have e51 : ∀ p, p < 8 → (fun b j => if b = 51 ∧ j < 8 then (-1 : Int) else (fun b j => if b = 50 ∧ j < 8 then ashl 1 (ashl 1 (n : Int)) - 1 else h b j) b j) 51 p = -1 := fun p hp => if_pos ⟨rfl, hp⟩
  generalize (fun b j => if b = 51 ∧ j < 8 then (-1 : Int) else (fun b j => if b = 50 ∧ j < 8 then ashl 1 (ashl 1 (n : Int)) - 1 else h b j) b j) = g0 at *
  unfold XX1_findClash_L27
  refine En_lup1 (fun l1 _ => (257 - l1).toNat) (fun l1 g => 0 ≤ l1 ∧ (∀ a i, ¬ (a = 50 ∨ a = 51) → g a i = h a i) ∧ (∀ c : Nat, (c : Int) < l1 → ¬ ClF (fun c => live h c = true) (fun c => pT h (h 47) c m) (mF h) n c) ∧ (∀ p, p < 8 → (g 51 p = -1 ∧ ∀ c : Nat, (c : Int) < l1 → live h c = true → pT h (h 47) c m ≠ p) ∨ ∃ d : Nat, (d : Int) < l1 ∧ g 51 p = (d : Int) ∧ live h d = true ∧ pT h (h 47) d m = p ∧ ∀ d', d' < d → ¬ (live h d' = true ∧ pT h (h 47) d' m = p)) ∧ Lft l1.toNat n (fun c => live h c = true) (fun c => pT h (h 47) c m) (mF h) (g 50)) ?_ FU _ _ (by unfold FU; omega) ⟨by omega, eo, fun c hc => by omega, fun p hp => Or.inl ⟨e51 p hp, fun c hc => by omega⟩, fun p hp => ⟨by rw [e50 p hp]; exact fb0, fun q hq => by rw [e50 p hp, fb q hq]; exact ⟨fun t => ⟨t, fun c hc => absurd hc (Nat.not_lt_zero _)⟩, fun t => t.1⟩⟩⟩
  clear eo e50 e51 g0
  rintro self l1 g ih ⟨c0, c1, c2, c3, c4⟩
  obtain ⟨Tg, tm, t3, tl, tp, tM⟩ := tr g c1
  obtain ⟨x, rfl⟩ := Int.eq_ofNat_of_zero_le c0
  rw [Int.toNat_natCast] at c4
  unfold XX1_findClash_b27
  rw [c1 37 0 (by omega)]
  by_cases q : h 37 0 ≤ x
  · obtain ⟨c, h1, h2⟩ := hex
    exact absurd h2 (c2 c (by omega))
  rw [if_neg q, isLive_eq g (by omega), cal_eq, tl]
  by_cases ql : live h x = true
  · rw [if1 ql, if_neg n10, patternOf_eq Tg tm (by omega), cal_eq, tp]
    have hp8 := P8 x
    rw [inb_pos (by omega), Int.toNat_natCast]
    have go : ∀ g2 : Hp, (∀ a i, ¬ (a = 50 ∨ a = 51) → g2 a i = h a i) → (∀ p, g2 50 p = g 50 p) → (∀ p, p ≠ pT h (h 47) x m → g2 51 p = g 51 p) → (∃ d : Nat, (d : Int) < (x : Int) + 1 ∧ g2 51 (pT h (h 47) x m) = (d : Int) ∧ live h d = true ∧ pT h (h 47) d m = pT h (h 47) x m ∧ ∀ d', d' < d → ¬ (live h d' = true ∧ pT h (h 47) d' m = pT h (h 47) x m)) → En (XX1_findClash_p72 self x ((pT h (h 47) x m : Nat) : Int) g2) (fun _ g => (∀ a i, ¬ (a = 50 ∨ a = 51 ∨ (a = 45 ∧ 12 ≤ i ∧ i ≤ 13)) → g a i = h a i) ∧ Cl (h 37 0).toNat (fun c => live h c = true) (fun c => pT h (h 47) c m) (mF h) n (g 45 12) (g 45 13)) := by
      intro g2 f1 f2 f3 f4
      obtain ⟨_, _, t3', _, _, tM'⟩ := tr g2 f1
      obtain ⟨r, g', e, rfl, ri, rb⟩ := mendingSet_ok hn t3' (c := x) (by omega)
      unfold XX1_findClash_p72
      rw [inb_pos (by omega), e, cal_eq, inb_pos (by omega), hm_eq, inb_pos (by omega), Int.toNat_natCast, f2]
      have e50 : ∀ p, wr g' 50 (pT h (h 47) x m) (aand (g 50 (pT h (h 47) x m)) r) 50 p = if p = pT h (h 47) x m then aand (g 50 (pT h (h 47) x m)) r else g 50 p := fun p => by rw [wr_row, f2]
      have lf : Lft (x + 1) n (fun c => live h c = true) (fun c => pT h (h 47) c m) (mF h) (wr g' 50 (pT h (h 47) x m) (aand (g 50 (pT h (h 47) x m)) r) 50) := fun p hp => by
        rw [e50]
        by_cases qp : p = pT h (h 47) x m
        · rw [if_pos qp]
          refine ⟨aand_in _ _, fun q hq => ?_⟩
          rw [ti_aand, Bool.and_eq_true, ((c4 _ hp8).2 q hq), rb q hq, tM']
          constructor
          · rintro ⟨⟨u1, u2⟩, _, u3⟩
            refine ⟨u1, fun c h1 h2 h3 => ?_⟩
            by_cases qc : c = x
            · rw [qc]; exact u3
            · exact u2 c (by omega) h2 (by rw [h3, qp])
          · rintro ⟨u1, u2⟩
            exact ⟨⟨u1, fun c h1 h2 h3 => u2 c (by omega) h2 (by rw [h3, qp])⟩, u1, u2 x (by omega) ql qp.symm⟩
        · rw [if_neg qp]
          refine ⟨(c4 p hp).1, fun q hq => ?_⟩
          rw [(c4 p hp).2 q hq]
          refine and_congr_right (fun _ => ⟨fun u c h1 h2 h3 => ?_, fun u c h1 => u c (by omega)⟩)
          by_cases qc : c = x
          · rw [qc] at h3; exact absurd h3.symm qp
          · exact u c (by omega) h2 h3
      obtain ⟨li, lb⟩ := lf _ hp8
      by_cases qz : wr g' 50 (pT h (h 47) x m) (aand (g 50 (pT h (h 47) x m)) r) 50 (pT h (h 47) x m) = 0
      · rw [if_pos qz, inb_pos (by omega), hm_eq, hm_eq]
        have hz := (zero_bits li).1 qz
        have w2 := pow2s hn
        obtain ⟨d, d1, d2, d3, d4, d5⟩ := f4
        refine En_some ⟨fun a i hh => by rw [wq_ne (by omega), wq_ne (by omega), wq_ne (by omega)]; exact f1 a i (by omega), x, d, by omega, wr_at, by rw [wr_o (by decide), wr_at, wq_ne (by omega)]; exact d2, ⟨ql, fun q hq => ?_⟩, fun c' hc' => c2 c' (by omega), by omega, d3, d4, d5⟩
        have := hz q (by omega)
        have hn2 := lb q (by omega)
        refine Classical.byContradiction (fun hno => ?_)
        rw [hn2.2 ⟨hq, fun c h1 h2 h3 => Classical.byContradiction (fun h4 => hno ⟨c, by omega, h2, h3, h4⟩)⟩] at this
        cases this
      · rw [if_neg qz]
        unfold XX1_findClash_p111
        rw [chk_pos (by omega)]
        refine ih _ _ (by omega) ⟨by omega, fun a i hh => by rw [wr_ne (by omega)]; exact f1 a i hh, fun c hc hcl => ?_, fun p hp => ?_, by rw [show ((x : Int) + 1).toNat = x + 1 by omega]; exact lf⟩
        · by_cases qc : c = x
          · subst qc
            refine qz ((zero_bits li).2 (fun q hq => Bool.eq_false_iff.mpr (fun t => ?_)))
            obtain ⟨u1, u2⟩ := (lb q hq).1 t
            obtain ⟨c', v1, v2, v3, v4⟩ := hcl.2 q u1
            exact v4 (u2 c' (by omega) v2 v3)
          · exact c2 c (by omega) hcl
        · rw [wr_ne (by omega)]
          by_cases qp : p = pT h (h 47) x m
          · rw [qp]; exact Or.inr f4
          · rw [f3 p qp]
            rcases c3 p hp with ⟨u1, u2⟩ | ⟨d, u1, u2⟩
            · refine Or.inl ⟨u1, fun c hc hl => ?_⟩
              by_cases qc : c = x
              · rw [qc]; exact fun t => qp t.symm
              · exact u2 c (by omega) hl
            · exact Or.inr ⟨d, by omega, u2⟩
    by_cases q1 : g 51 (pT h (h 47) x m) = -1
    · rw [if_pos q1, inb_pos (by omega), hm_eq]
      refine go _ (fun a i hh => by rw [wr_ne (by omega)]; exact c1 a i hh) (fun p => by rw [wr_ne (by omega)]) (fun p hp => by rw [wr_o hp]) ⟨x, by omega, wr_at, ql, rfl, fun d' hd => ?_⟩
      rintro ⟨u1, u2⟩
      rcases c3 _ hp8 with ⟨_, v2⟩ | ⟨d, v1, v2, _⟩
      · exact v2 d' (by omega) u1 u2
      · omega
    · rw [if_neg q1]
      refine go g c1 (fun _ => rfl) (fun _ _ => rfl) ?_
      rcases c3 _ hp8 with ⟨v1, _⟩ | ⟨d, v1, v2⟩
      · exact absurd v1 q1
      · exact ⟨d, by omega, v2⟩
  · rw [if0 ql, if_pos rfl]
    unfold XX1_findClash_p111
    rw [chk_pos (by omega)]
    refine ih _ _ (by omega) ⟨by omega, c1, fun c hc hcl => ?_, fun p hp => ?_, ?_⟩
    · by_cases qc : c = x
      · subst qc; exact ql hcl.1
      · exact c2 c (by omega) hcl
    · rcases c3 p hp with ⟨u1, u2⟩ | ⟨d, u1, u2⟩
      · refine Or.inl ⟨u1, fun c hc hl => ?_⟩
        by_cases qc : c = x
        · subst qc; exact absurd hl ql
        · exact u2 c (by omega) hl
      · exact Or.inr ⟨d, by omega, u2⟩
    · rw [show ((x : Int) + 1).toNat = x + 1 by omega]
      intro p hp
      refine ⟨(c4 p hp).1, fun q hq => ?_⟩
      rw [(c4 p hp).2 q hq]
      refine and_congr_right (fun _ => ⟨fun u c h1 h2 h3 => ?_, fun u c h1 => u c (by omega)⟩)
      by_cases qc : c = x
      · subst qc; exact absurd h2 ql
      · exact u c (by omega) h2 h3
