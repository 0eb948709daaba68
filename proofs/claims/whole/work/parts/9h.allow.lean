/-- an assignment of the finder's mends a case -/
def mF (h : Hp) (q c : Nat) : Prop := tb (h 48 (4 * q + c / 64)) (c % 64) = true
/-- an assignment is allowed at a pattern -/
def AL (h : Hp) (m q p : Nat) : Prop := ∀ c : Nat, c < (h 37 0).toNat → live h c = true → pT h (h 47) c m = p → mF h q c
theorem mF_at (h : Hp) (q : Nat) {part k : Nat} (hk : k < 64) : mF h q (64 * part + k) ↔ tb (h 48 (4 * q + part)) k = true := by
  unfold mF; rw [show (64 * part + k) / 64 = part by omega, show (64 * part + k) % 64 = k by omega]
theorem ti_bitN {p : Nat} (hp : p < 2147483648) {j : Nat} (hj : j < 32) : aand (ashr (p : Int) j) 1 = 1 ↔ p.testBit j = true := by
  rw [abit1 _ (by omega) (by omega), ti_nat (by omega) (by omega), Int.toNat_natCast, Int.toNat_natCast]
theorem mendsAll_ok {h : Hp} (hT : Two h) (hC : Cas h) {m : Nat} (hm : Tld h m) {q p : Nat} (hq : q < 4) (hp : p < 2 ^ m) : En (XX1_mendsAll q p h) (fun r g => g = h ∧ ((r = 1 ∧ AL h m q p) ∨ (r = 0 ∧ ¬ AL h m q p))) := by
  obtain ⟨n0, n1, n2, n3, n4⟩ := Cas_num hC hT.1.1
  obtain ⟨m3, m5, mw⟩ := id hm
  have lt := Pl_lt (by decide) hT.1.1
  have p8 : p < 8 := Nat.lt_of_lt_of_le hp (Nat.pow_le_pow_right (by decide) m3 : 2 ^ m ≤ 2 ^ 3)
  unfold XX1_mendsAll XX1_mendsAll_L2
  refine En_lup3 (fun _ _ l3 _ => (5 - l3).toNat) (fun l1 l2 l3 g => (q : Int) = l1 ∧ (p : Int) = l2 ∧ h = g ∧ 0 ≤ l3 ∧ l3 ≤ h 37 1 ∧ ∀ c : Nat, (c : Int) < 64 * l3 → c < (h 37 0).toNat → live h c = true → pT h (h 47) c m = p → mF h q c) ?_ FU _ _ _ _ (by unfold FU; omega) ⟨rfl, rfl, rfl, by omega, by omega, fun c hc => by omega⟩
  rintro self2 l1 l2 l3 g ih2 ⟨rfl, rfl, rfl, c0, c1, c2⟩
  unfold XX1_mendsAll_b2
  by_cases qe : h 37 1 ≤ l3
  · rw [if_pos qe, zb_1]
    exact En_some ⟨rfl, Or.inl ⟨rfl, fun c hc => c2 c (by omega) hc⟩⟩
  obtain ⟨part, rfl⟩ := Int.eq_ofNat_of_zero_le c0
  rw [if_neg qe, inb_pos (by omega), chk_pos (by omega), chk_pos (by omega), inb_pos (by omega), nm_eq, Int.toNat_natCast, show (4 * (q : Int) + (part : Int)).toNat = 4 * q + part by omega]
  have fin : ∀ (l4 : Int) (j : Nat), inJ l4 → (l4 = 0 ∨ j = m) → (∀ k, k < 64 → (tb l4 k = true ↔ (live h (64 * part + k) = true ∧ ¬ mF h q (64 * part + k) ∧ ∀ i, i < j → bT h (h 47) (64 * part + k) i = p.testBit i))) → j ≤ m → En (XX1_mendsAll_p111 self2 q p part l4 h) (fun r g => g = h ∧ ((r = 1 ∧ AL h m q p) ∨ (r = 0 ∧ ¬ AL h m q p))) := by
    intro l4 j hi h0 hb hjm
    unfold XX1_mendsAll_p111
    by_cases qz : jcmp l4 0 = 0
    · have hz := (tb_zero hi).1 (jcmp0.1 qz)
      rw [if_pos qz, chk_pos (by omega)]
      refine ih2 _ _ _ _ (by omega) ⟨rfl, rfl, rfl, by omega, by omega, fun c hc hcN hl hpt => ?_⟩
      by_cases qc : (c : Int) < 64 * part
      · exact c2 c qc hcN hl hpt
      · refine Classical.byContradiction (fun hno => ?_)
        have := (hb (c - 64 * part) (by omega)).2
        rw [show 64 * part + (c - 64 * part) = c by omega] at this
        have := this ⟨hl, hno, fun i hi => (pT_is hp).1 hpt i (by omega)⟩
        rw [hz _ (by omega)] at this; cases this
    · rw [if_neg qz, zb_0]
      refine En_some ⟨rfl, Or.inr ⟨rfl, fun al => ?_⟩⟩
      have hex : ∃ c, c < 64 ∧ tb l4 c = true := Classical.byContradiction (fun hno => qz (jcmp0.2 ((tb_zero hi).2 (fun c hc => Bool.eq_false_iff.mpr (fun ht => hno ⟨c, hc, ht⟩)))))
      obtain ⟨k, hk, t⟩ := hex
      obtain ⟨t1, t2, t3⟩ := (hb k hk).1 t
      have hj : j = m := by
        rcases h0 with h0 | h0
        · exact absurd (by rw [h0]; rfl) qz
        · exact h0
      subst hj
      have hlt := hC.2.2.2.2 part (by omega) k hk (by rw [← live_at h hk]; exact t1)
      exact t2 (al _ (by omega) t1 ((pT_is hp).2 t3))
  unfold XX1_mendsAll_L42
  refine En_lup5 (fun _ _ _ _ l6 _ => (5 - l6).toNat) (fun l1 l2 l3 l4 l6 g => (q : Int) = l1 ∧ (p : Int) = l2 ∧ (part : Int) = l3 ∧ h = g ∧ inJ l4 ∧ 0 ≤ l6 ∧ l6 ≤ m ∧ ∀ k, k < 64 → (tb l4 k = true ↔ (live h (64 * part + k) = true ∧ ¬ mF h q (64 * part + k) ∧ ∀ i : Nat, (i : Int) < l6 → bT h (h 47) (64 * part + k) i = p.testBit i))) ?_ FU _ _ _ _ _ _ (by unfold FU; omega) ⟨rfl, rfl, rfl, rfl, jand_in _ _, by omega, by omega, fun k hk => ?_⟩
  rotate_left
  · rw [tb_jand, tb_not _ hk, Bool.and_eq_true, Bool.not_eq_true', live_at h hk, mF_at h q hk, Bool.not_eq_true]
    exact ⟨fun t => ⟨t.1, t.2, fun i hi => by omega⟩, fun t => ⟨t.1, t.2.1⟩⟩
  rintro self42 l1 l2 l3 l4 l6 g ih42 ⟨rfl, rfl, rfl, rfl, d0, d1, d2, d3⟩
  obtain ⟨j, rfl⟩ := Int.eq_ofNat_of_zero_le d1
  unfold XX1_mendsAll_b42
  rw [m5]
  by_cases qm : (m : Int) ≤ j
  · rw [if_pos qm]
    exact fin l4 m d0 (Or.inr rfl) (fun k hk => by rw [d3 k hk]; exact and_congr_right (fun _ => and_congr_right (fun _ => ⟨fun t i hi => t i (by omega), fun t i hi => t i (by omega)⟩))) (Nat.le_refl _)
  rw [if_neg qm]
  by_cases qz : jcmp l4 0 = 0
  · rw [if_pos qz]
    exact fin l4 j d0 (Or.inl (jcmp0.1 qz)) (fun k hk => by rw [d3 k hk]; exact and_congr_right (fun _ => and_congr_right (fun _ => ⟨fun t i hi => t i (by omega), fun t i hi => t i (by omega)⟩))) (by omega)
  have hw := mw j (by omega)
  obtain ⟨w, hw1⟩ := Int.eq_ofNat_of_zero_le hw.1
  rw [if_neg qz, inb_pos (by omega), Int.toNat_natCast, hw1, chk_pos (by omega), chk_pos (by omega), inb_pos (by omega), nm_eq, show (4 * (w : Int) + (part : Int)).toNat = 4 * w + part by omega, Two_old hT (w := w) (part := part) (by omega) (by omega)]
  have go : ∀ s1 : Int, (∀ k, k < 64 → (tb s1 k = true ↔ tb (fOl h noF part w) k = p.testBit j)) → En (XX1_mendsAll_p102 self2 self42 q p part j l4 s1 h) (fun r g => g = h ∧ ((r = 1 ∧ AL h m q p) ∨ (r = 0 ∧ ¬ AL h m q p))) := by
    intro s1 hs
    unfold XX1_mendsAll_p102
    rw [nm_eq, chk_pos (by omega)]
    refine ih42 _ _ _ _ _ _ (by omega) ⟨rfl, rfl, rfl, rfl, jand_in _ _, by omega, by omega, fun k hk => ?_⟩
    have hb : bT h (h 47) (64 * part + k) j = tb (fOl h noF part w) k := by
      unfold bT; rw [hw1, Int.toNat_natCast, show (64 * part + k) / 64 = part by omega, show (64 * part + k) % 64 = k by omega]
    rw [tb_jand, Bool.and_eq_true, d3 k hk, hs k hk, ← hb]
    constructor
    · rintro ⟨⟨t1, t2, t3⟩, t4⟩
      refine ⟨t1, t2, fun i hi => ?_⟩
      by_cases qi : i = j
      · rw [qi]; exact t4
      · exact t3 i (by omega)
    · rintro ⟨t1, t2, t3⟩
      exact ⟨⟨t1, t2, fun i hi => t3 i (by omega)⟩, t3 j (by omega)⟩
  have tbn := ti_bitN (p := p) (by omega) (j := j) (by omega)
  by_cases qb : aand (ashr (p : Int) j) 1 = 1
  · rw [if_pos qb]
    exact go _ (fun k hk => by rw [tbn.1 qb])
  · rw [if_neg qb]
    have : p.testBit j = false := Bool.eq_false_iff.mpr (fun t => qb (tbn.2 t))
    exact go _ (fun k hk => by rw [tb_not _ hk, this, Bool.not_eq_true'])
/-- what was allowed, as a row of masks -/
def Msk (h : Hp) (m n : Nat) (A : Nat → Int) : Prop := ∀ q, q < 2 ^ n → inI (A q) ∧ ∀ p, p < 32 → (ti (A q) p = true ↔ (p < 2 ^ m ∧ AL h m q p))
theorem AL_congr {h g : Hp} (e : ∀ a i, ¬ (a = 49) → g a i = h a i) (m q p : Nat) : AL g m q p ↔ AL h m q p := by
  unfold AL mF live
  rw [show g 37 = h 37 from funext (fun i => e 37 i (by omega)), show g 39 = h 39 from funext (fun i => e 39 i (by omega)), show g 47 = h 47 from funext (fun i => e 47 i (by omega)), show g 48 = h 48 from funext (fun i => e 48 i (by omega))]
  have : ∀ c, pT g (h 47) c m = pT h (h 47) c m := fun c => pT_congr (fun a i ha => e a i (by omega)) (fun _ _ => rfl) c
  simp only [this]
theorem pow2s {n : Nat} (hn : 1 ≤ n ∧ n ≤ 2) : 2 ^ n = 2 ∨ 2 ^ n = 4 := by
  rcases (by omega : n = 1 ∨ n = 2) with rfl | rfl
  · exact Or.inl rfl
  · exact Or.inr rfl
theorem pow3s {m : Nat} (hm : m ≤ 3) : 2 ^ m = 1 ∨ 2 ^ m = 2 ∨ 2 ^ m = 4 ∨ 2 ^ m = 8 := by
  rcases (by omega : m = 0 ∨ m = 1 ∨ m = 2 ∨ m = 3) with rfl | rfl | rfl | rfl
  · exact Or.inl rfl
  · exact Or.inr (Or.inl rfl)
  · exact Or.inr (Or.inr (Or.inl rfl))
  · exact Or.inr (Or.inr (Or.inr rfl))
theorem ashl1N {k : Nat} (hk : k < 31) : ashl 1 (k : Int) = ((2 ^ k : Nat) : Int) := by
  rw [ashl1n k hk, Int.natCast_pow]; rfl
theorem pw8 {p : Nat} (h : p < 31) : 0 ≤ ((2 ^ p : Nat) : Int) ∧ ((2 ^ p : Nat) : Int) < 2147483648 :=
  ⟨Int.natCast_nonneg _, Int.ofNat_lt.mpr (Nat.pow_lt_pow_right (by decide) h : 2 ^ p < 2 ^ 31)⟩
theorem allow_ok {h : Hp} (hT : Two h) (hC : Cas h) {m n : Nat} (hm : Tld h m) (hn : 1 ≤ n ∧ n ≤ 2) (h3 : h 45 3 = (n : Int)) : En (XX1_allow h) (fun r g => (∀ a i, ¬ a = 49 → g a i = h a i) ∧ ((r = 1 ∧ (∀ p, p < 2 ^ m → ∃ q, q < 2 ^ n ∧ AL h m q p) ∧ Msk h m n (g 49)) ∨ (r = 0 ∧ ∃ p, p < 2 ^ m ∧ ∀ q, q < 2 ^ n → ¬ AL h m q p))) := by
  obtain ⟨m3, m5, mw⟩ := id hm
  have w2 := pow2s hn
  have w3 := pow3s m3
  have tr : ∀ g : Hp, (∀ a i, ¬ a = 49 → g a i = h a i) → Two g ∧ Cas g ∧ Tld g m ∧ g 45 3 = (n : Int) := fun g e => by
    refine ⟨Two_congr (fun a i ha => e a i (by omega)) hT, ?_, ⟨m3, by rw [e 45 5 (by omega)]; exact m5, fun j hj => by rw [e 47 j (by omega), wn_congr (show g 18 = h 18 from funext (fun i => e 18 i (by omega)))]; exact mw j hj⟩, by rw [e 45 3 (by omega)]; exact h3⟩
    unfold Cas
    rw [e 37 0 (by omega), e 37 1 (by omega), show g 38 = h 38 from funext (fun i => e 38 i (by omega)), show g 39 = h 39 from funext (fun i => e 39 i (by omega)), sc_congr (show g 18 = h 18 from funext (fun i => e 18 i (by omega)))]
    exact hC
  unfold XX1_allow
  rw [fill_ok 49 4 0 h (by decide), cal_eq]
  have e0 : ∀ a i, ¬ a = 49 → (fun b j => if b = 49 ∧ j < 4 then (0 : Int) else h b j) a i = h a i := fun a i ha => if_neg (fun t => ha t.1)
  have z0 : ∀ q, q < 4 → (fun b j => if b = 49 ∧ j < 4 then (0 : Int) else h b j) 49 q = 0 := fun q hq => if_pos ⟨rfl, hq⟩
  generalize (fun b j => if b = 49 ∧ j < 4 then (0 : Int) else h b j) = g0 at *
  unfold XX1_allow_L10
  refine En_lup1 (fun l1 _ => (9 - l1).toNat) (fun l1 g => 0 ≤ l1 ∧ l1 ≤ ((2 ^ m : Nat) : Int) ∧ (∀ a i, ¬ a = 49 → g a i = h a i) ∧ (∀ p : Nat, (p : Int) < l1 → ∃ q, q < 2 ^ n ∧ AL h m q p) ∧ ∀ q, q < 2 ^ n → inI (g 49 q) ∧ ∀ p : Nat, p < 32 → (ti (g 49 q) p = true ↔ ((p : Int) < l1 ∧ AL h m q p))) ?_ FU _ _ (by unfold FU; omega) ⟨by omega, Int.natCast_nonneg _, e0, fun p hp => by omega, fun q hq => ⟨by rw [z0 q (by omega)]; exact inI_0, fun p hp => by rw [z0 q (by omega), ti_0]; exact ⟨fun t => (by cases t), fun t => (by have := t.1; omega)⟩⟩⟩
  clear e0 z0 g0
  rintro self10 l1 g ih10 ⟨c0, c1, c2, c3, c4⟩
  unfold XX1_allow_b10
  obtain ⟨_, _, tm, t3⟩ := tr g c2
  rw [tm.2.1, ashl1N (k := m) (by omega)]
  by_cases qe : ((2 ^ m : Nat) : Int) ≤ l1
  · rw [if_pos qe, zb_1]
    refine En_some ⟨c2, Or.inl ⟨rfl, fun p hp => c3 p (by omega), fun q hq => ⟨(c4 q hq).1, fun p hp => by rw [(c4 q hq).2 p hp]; exact ⟨fun t => ⟨by have := t.1; omega, t.2⟩, fun t => ⟨by have := t.1; omega, t.2⟩⟩⟩⟩⟩
  rw [if_neg qe]
  obtain ⟨p, rfl⟩ := Int.eq_ofNat_of_zero_le c0
  unfold XX1_allow_L24
  refine En_lup3 (fun _ _ l3 _ => (5 - l3).toNat) (fun l1 l2 l3 g => (p : Int) = l1 ∧ 0 ≤ l3 ∧ l3 ≤ ((2 ^ n : Nat) : Int) ∧ (∀ a i, ¬ a = 49 → g a i = h a i) ∧ (l2 = 0 ∨ l2 = 1) ∧ (l2 = 1 ↔ ∃ q : Nat, (q : Int) < l3 ∧ AL h m q p) ∧ ∀ q, q < 2 ^ n → inI (g 49 q) ∧ ∀ p' : Nat, p' < 32 → (ti (g 49 q) p' = true ↔ ((p' < p ∨ (p' = p ∧ (q : Int) < l3)) ∧ AL h m q p'))) ?_ FU _ _ _ _ (by unfold FU; omega) ⟨rfl, by omega, Int.natCast_nonneg _, c2, Or.inl rfl, ⟨fun t => by omega, fun ⟨q, hq, _⟩ => by omega⟩, fun q hq => ⟨(c4 q hq).1, fun p' hp' => by rw [(c4 q hq).2 p' hp']; exact and_congr_left (fun _ => by omega)⟩⟩
  rintro self24 l1 l2 l3 g ih24 ⟨rfl, d0, d1, d2, d3, d4, d5⟩
  obtain ⟨Tg, Cg, tm, t3⟩ := tr g d2
  unfold XX1_allow_b24
  rw [t3, ashl1N (k := n) (by omega)]
  by_cases qn : ((2 ^ n : Nat) : Int) ≤ l3
  · rw [if_pos qn]
    by_cases q2 : l2 = 0
    · rw [if_pos q2, zb_0]
      refine En_some ⟨d2, Or.inr ⟨rfl, p, by omega, fun q hq t => ?_⟩⟩
      have := d4.2 ⟨q, by omega, t⟩
      omega
    · rw [if_neg q2, chk_pos (by omega)]
      refine ih10 _ _ (by omega) ⟨by omega, by omega, d2, fun p' hp' => ?_, fun q hq => ⟨(d5 q hq).1, fun p' hp' => by rw [(d5 q hq).2 p' hp']; exact and_congr_left (fun _ => by omega)⟩⟩
      by_cases qp : p' = p
      · subst qp
        obtain ⟨q, hq, t⟩ := d4.1 (by omega)
        exact ⟨q, by omega, t⟩
      · exact c3 p' (by omega)
  rw [if_neg qn]
  obtain ⟨q, rfl⟩ := Int.eq_ofNat_of_zero_le d0
  obtain ⟨r, g', e, rfl, hr⟩ := mendsAll_ok Tg Cg tm (q := q) (p := p) (by omega) (by omega)
  rw [AL_congr d2] at hr
  rw [e, cal_eq]
  rcases hr with ⟨rfl, hr⟩ | ⟨rfl, hr⟩
  · rw [if_neg n10, inb_pos (by omega), inb_pos (by omega), hm_eq, Int.toNat_natCast]
    unfold XX1_allow_p57
    rw [chk_pos (by omega)]
    refine ih24 _ _ _ _ (by omega) ⟨rfl, by omega, by omega, fun a i ha => by rw [wr_ne ha]; exact d2 a i ha, Or.inr rfl, ⟨fun _ => ⟨q, by omega, hr⟩, fun _ => rfl⟩, fun q' hq' => ?_⟩
    rw [wr_row]
    by_cases qq : q' = q
    · subst qq
      rw [if_pos rfl]
      refine ⟨aor_in _ _, fun p' hp' => ?_⟩
      rw [ti_aor, Bool.or_eq_true, (d5 q' hq').2 p' hp', ashl1N (k := p) (by omega), ti_nat (pw8 (by omega)).1 (pw8 (by omega)).2, Int.toNat_natCast, Nat.testBit_two_pow]
      simp only [decide_eq_true_eq]
      constructor
      · rintro (⟨t1, t2⟩ | t)
        · exact ⟨by omega, t2⟩
        · subst t; exact ⟨Or.inr ⟨rfl, by omega⟩, hr⟩
      · rintro ⟨t1, t2⟩
        by_cases qp : p = p'
        · exact Or.inr qp
        · exact Or.inl ⟨by omega, t2⟩
    · rw [if_neg qq]
      refine ⟨(d5 q' hq').1, fun p' hp' => ?_⟩
      rw [(d5 q' hq').2 p' hp']
      exact and_congr_left (fun _ => by omega)
  · rw [if_pos rfl]
    unfold XX1_allow_p57
    rw [chk_pos (by omega)]
    refine ih24 _ _ _ _ (by omega) ⟨rfl, by omega, by omega, d2, d3, ⟨fun t => ?_, fun t => ?_⟩, fun q' hq' => ⟨(d5 q' hq').1, fun p' hp' => ?_⟩⟩
    · obtain ⟨q', h1, h2⟩ := d4.1 t
      exact ⟨q', by omega, h2⟩
    · obtain ⟨q', h1, h2⟩ := t
      by_cases qq : q' = q
      · subst qq; exact absurd h2 hr
      · exact d4.2 ⟨q', by omega, h2⟩
    · rw [(d5 q' hq').2 p' hp']
      constructor
      · rintro ⟨t1, t2⟩; exact ⟨by omega, t2⟩
      · rintro ⟨t1, t2⟩
        refine ⟨?_, t2⟩
        rcases t1 with t1 | ⟨t1, t3⟩
        · exact Or.inl t1
        · by_cases qq : q' = q
          · subst qq; subst t1; exact absurd t2 hr
          · exact Or.inr ⟨t1, by omega⟩
