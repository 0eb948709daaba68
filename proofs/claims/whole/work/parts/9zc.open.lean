/-- the journal forgets its oldest -/
theorem forgetJ_ok {h : Hp} (j : ∀ u, u < 4 → h 73 u = 78 ∨ h 73 u = 83 ∨ h 73 u = 88 ∨ h 73 u = 93) : En (XX3_forgetOldest h) (fun _ g => (∀ a i, ¬ ((a = 72 ∧ i = 2) ∨ (73 ≤ a ∧ a ≤ 74)) → g a i = h a i) ∧ g 72 2 = 3 ∧ (∀ u, u < 3 → g 73 u = h 73 (u + 1) ∧ g 74 u = h 74 (u + 1)) ∧ g 73 3 = h 73 0) := by
  have j0 := j 0 (by omega)
  unfold XX3_forgetOldest
  rw [inb_pos (by decide), nmP_eq, show (0 : Int).toNat = 0 from rfl, asr_pos (by omega)]
  unfold XX3_forgetOldest_L9
  refine En_lup1 (fun l _ => (6 - l).toNat) (fun l g => ∃ k : Nat, l = (k : Int) ∧ 1 ≤ k ∧ k ≤ 4 ∧ (∀ a i, ¬ (73 ≤ a ∧ a ≤ 74) → g a i = h a i) ∧ (∀ u, u + 1 < k → g 73 u = h 73 (u + 1) ∧ g 74 u = h 74 (u + 1)) ∧ ∀ u, k ≤ u + 1 → g 73 u = h 73 u ∧ g 74 u = h 74 u) ?_ FU _ _ (by unfold FU; omega) ⟨1, rfl, by omega, by omega, fun _ _ _ => rfl, fun u hu => by omega, fun u _ => ⟨rfl, rfl⟩⟩
  rintro self l g ih ⟨k, rfl, k1, k4, c1, c2, c3⟩
  unfold XX3_forgetOldest_b9
  by_cases q : 4 ≤ (k : Int)
  · rw [if_pos q, inb_pos (by decide), hm_eq, hm_eq]
    refine En_some ⟨fun a i hh => by rw [wq_ne (by omega), wq_ne (by omega)]; exact c1 a i (by omega), wr_at, fun u hu => ?_, ?_⟩
    · rw [wq_ne (by omega), wq_ne (by omega), wq_ne (by omega), wq_ne (by omega)]
      exact c2 u (by omega)
    · rw [wq_ne (by omega), wr_row, if_pos (by decide)]; omega
  · have jk := j k (by omega)
    have ck := c3 k (by omega)
    rw [if_neg q, chk_pos (by omega), inb_pos (by omega), nmP_eq, Int.toNat_natCast, ck.1, asr_pos (by omega), inb_pos (by omega), hm_eq, chk_pos (by omega), inb_pos (by omega), inb_pos (by omega), wq_ne (by omega), ck.2, hm_eq, chk_pos (by omega)]
    refine ih _ _ (by omega) ⟨k + 1, by omega, by omega, by omega, fun a i hh => by rw [wq_ne (by omega), wq_ne (by omega)]; exact c1 a i hh, fun u hu => ?_, fun u hu => ?_⟩
    · rw [wq_ne (show ¬ (73 = 74 ∧ _) by omega), wr_row, wr_row, wr_ne (show 74 ≠ 73 by omega)]
      by_cases t : u = ((k : Int) - 1).toNat
      · rw [if_pos t, if_pos t, show u + 1 = k by omega]; exact ⟨by omega, rfl⟩
      · rw [if_neg t, if_neg t]; exact c2 u (by omega)
    · rw [wq_ne (show ¬ (73 = 74 ∧ _) by omega), wr_row, wr_row, wr_ne (show 74 ≠ 73 by omega), if_neg (by omega), if_neg (by omega)]
      exact c3 u (by omega)
/-- the journal has been opened -/
def OpC (s U b : Nat) (mask : Int) (h g : Hp) : Prop :=
  (∀ a i, ¬ ((a = 72 ∧ (i = 2 ∨ i = 4)) ∨ a = 73 ∨ a = 74 ∨ a = 77 ∨ (b ≤ a ∧ a ≤ b + 4)) → g a i = h a i) ∧ g 72 2 = ((U + 1 : Nat) : Int) ∧ g 72 4 = 0 ∧ (b = 78 ∨ b = 83 ∨ b = 88 ∨ b = 93) ∧ (∀ u, u < U → g 73 u = h 73 (u + s) ∧ g 74 u = h 74 (u + s)) ∧ g 73 U = (b : Int) ∧ g 74 U = mask ∧ TkV b 18 h g ∧ (∀ u, u < 4 → g 73 u = 78 ∨ g 73 u = 83 ∨ g 73 u = 88 ∨ g 73 u = 93) ∧ (∀ u v, u < v → v < 4 → g 73 u ≠ g 73 v) ∧ ∀ k part : Nat, (k : Int) < h 18 2 + h 18 1 → part < 4 → g 77 (4 * k + part) = h 25 (4 * (h 21 k).toNat + part)
theorem open_ok {h : Hp} (hP : Pl 40 18 h) (j : J10 h) (mask : Int) : ∃ s U b : Nat, ((U + s : Nat) : Int) = h 72 2 ∧ U < 4 ∧ ((s = 1 ∧ U = 3) ∨ (s = 0 ∧ h 72 2 < 4)) ∧ En (XX3_open 17 mask h) (fun _ g => OpC s U b mask h g) := by
  obtain ⟨_, j1, j2, j4, j5, _⟩ := j
  have hN := hP.1
  have hS := hP.2.2.2.1
  have lt := Pl_lt (by decide) hN
  obtain ⟨_, n1, n2, _, _, n5, n6, _, _⟩ := id hN
  -- from where there is room
  have room : ∀ (s U : Nat) (g0 : Hp), U < 4 → s ≤ 1 → (∀ a i, ¬ ((a = 72 ∧ i = 2) ∨ (73 ≤ a ∧ a ≤ 74)) → g0 a i = h a i) → g0 72 2 = (U : Int) → (∀ u, u < U → g0 73 u = h 73 (u + s) ∧ g0 74 u = h 74 (u + s)) → (∀ u, u < 4 → g0 73 u = 78 ∨ g0 73 u = 83 ∨ g0 73 u = 88 ∨ g0 73 u = 93) → (∀ u v, u < v → v < 4 → g0 73 u ≠ g0 73 v) → En (XX3_open_p12 17 mask g0) (fun _ g => OpC s U (g0 73 U).toNat mask h g) := by
    intro s U g0 hU hs e0 e72 e73 d1 d2
    have dU := d1 U hU
    obtain ⟨b, hb⟩ := Int.eq_ofNat_of_zero_le (show 0 ≤ g0 73 U by omega)
    rw [hb, Int.toNat_natCast]
    rw [hb] at dU
    obtain ⟨g1, eg1, k1, tk⟩ := take_ok (p := b) (x := 18) (by omega) g0
    have tk0 : TkV b 18 h g1 := TkV_congr (fun _ _ _ => rfl) (fun a i hh => (e0 a i (by omega)).symm) tk
    have k72 : g1 72 2 = (U : Int) := by rw [k1 72 2 (by omega)]; exact e72
    unfold XX3_open_p12
    rw [e72, inb_pos (by omega), nmP_eq, Int.toNat_natCast, hb, Int.toNat_natCast, asr_pos (by omega), show 17 + 1 = 18 from rfl, eg1, cal_eq, k72, inb_pos (by omega), hm_eq, wq_ne (by omega), k72, chk_pos (by omega), hm_eq, hm_eq]
    have o : ∀ a i, ¬ ((a = 72 ∧ (i = 2 ∨ i = 4)) ∨ (a = 74 ∧ i = U)) → wr (wr (wr g1 74 ((U : Nat) : Int).toNat mask) 72 2 ((U : Int) + 1)) 72 4 0 a i = g1 a i := fun a i hh => by rw [wq_ne (by omega), wq_ne (by omega), wq_ne (by omega)]
    have o2 : wr (wr (wr g1 74 ((U : Nat) : Int).toNat mask) 72 2 ((U : Int) + 1)) 72 4 0 72 2 = (U : Int) + 1 := by rw [wr_o (by decide), wr_at]
    have o4 : wr (wr (wr g1 74 ((U : Nat) : Int).toNat mask) 72 2 ((U : Int) + 1)) 72 4 0 72 4 = 0 := wr_at
    have oU : wr (wr (wr g1 74 ((U : Nat) : Int).toNat mask) 72 2 ((U : Int) + 1)) 72 4 0 74 U = mask := by rw [wq_ne (by omega), wq_ne (by omega), Int.toNat_natCast, wr_at]
    generalize wr (wr (wr g1 74 ((U : Nat) : Int).toNat mask) 72 2 ((U : Int) + 1)) 72 4 0 = g2 at *
    have k2 : ∀ a i, ¬ ((a = 72 ∧ (i = 2 ∨ i = 4)) ∨ (73 ≤ a ∧ a ≤ 74) ∨ (b ≤ a ∧ a ≤ b + 4)) → g2 a i = h a i := fun a i hh => by rw [o a i (by omega), k1 a i (by omega)]; exact e0 a i (by omega)
    unfold XX3_open_L55
    refine En_lup1 (fun l _ => (20 - l).toNat) (fun l g => ∃ k : Nat, l = (k : Int) ∧ (k : Int) ≤ h 18 2 + h 18 1 ∧ (∀ a i, ¬ (a = 77) → g a i = g2 a i) ∧ ∀ k' part : Nat, k' < k → part < 4 → g 77 (4 * k' + part) = h 25 (4 * (h 21 k').toNat + part)) ?_ FU _ _ (by unfold FU; omega) ⟨0, rfl, by omega, fun _ _ _ => rfl, fun k' part hk => absurd hk (Nat.not_lt_zero _)⟩
    rintro self l g ih ⟨k, rfl, hk, kg, rg⟩
    have eg : ∀ a i, ¬ ((a = 72 ∧ (i = 2 ∨ i = 4)) ∨ (73 ≤ a ∧ a ≤ 74) ∨ a = 77 ∨ (b ≤ a ∧ a ≤ b + 4)) → g a i = h a i := fun a i hh => by rw [kg a i (by omega)]; exact k2 a i (by omega)
    have hNg : Nums 40 18 g := Nums_congr (funext (fun i => eg 18 i (by omega))) hN
    unfold XX3_open_b55
    rw [show 17 + 1 = 18 from rfl, seenCount_eq hNg, cal_eq, eg 18 2 (by omega), eg 18 1 (by omega)]
    by_cases q : h 18 2 + h 18 1 ≤ (k : Int)
    · rw [if_pos q]
      refine En_some ⟨fun a i hh => eg a i (by omega), by rw [kg 72 2 (by omega), o2]; omega, by rw [kg 72 4 (by omega)]; exact o4, by omega, fun u hu => ?_, ?_, by rw [kg 74 U (by omega)]; exact oU, TkV_congr (fun a i hh => by rw [kg a i (by omega), o a i (by omega)]) (fun _ _ _ => rfl) tk0, fun u hu => ?_, fun u v h1 h2 => ?_, fun k' part h1 h2 => rg k' part (by omega) h2⟩
      · rw [kg 73 u (by omega), kg 74 u (by omega), o 73 u (by omega), o 74 u (by omega), k1 73 u (by omega), k1 74 u (by omega)]; exact e73 u hu
      · rw [kg 73 U (by omega), o 73 U (by omega), k1 73 U (by omega)]; exact hb
      · rw [kg 73 u (by omega), o 73 u (by omega), k1 73 u (by omega)]; exact d1 u hu
      · rw [kg 73 u (by omega), o 73 u (by omega), k1 73 u (by omega), kg 73 v (by omega), o 73 v (by omega), k1 73 v (by omega)]; exact d2 u v h1 h2
    · have hk2 := hS k (by omega)
      obtain ⟨w, hw⟩ := Int.eq_ofNat_of_zero_le hk2.1
      have hw : h 21 k = (w : Int) := hw
      have hk3 : (w : Int) < wn 18 h := by rw [← hw]; exact hk2.2
      rw [if_neg q, inb_pos (by omega), show 18 + 3 = 21 from rfl, show 17 + 8 = 25 from rfl, Int.toNat_natCast, eg 21 k (by omega), hw, chk_pos (by omega), chk_pos (by omega), acp_pos (by omega), hm_eq, chk_pos (by omega)]
      refine ih _ _ (by omega) ⟨k + 1, by omega, by omega, fun a i hh => by rw [cpy_ne (by omega)]; exact kg a i hh, fun k' part h1 h2 => ?_⟩
      have t4 : (4 : Int).toNat = 4 := rfl
      rw [t4]
      by_cases t : k' = k
      · subst t
        rw [cpy_is ⟨rfl, by omega, by omega⟩, eg 25 _ (by omega), hw]
        exact congrArg _ (by omega)
      · rw [cpy_ne (by omega)]; exact rg k' part (by omega) h2
  by_cases q : h 72 2 < 4
  · obtain ⟨U, hU⟩ := Int.eq_ofNat_of_zero_le j1
    refine ⟨0, U, (h 73 U).toNat, by omega, by omega, Or.inr ⟨rfl, q⟩, ?_⟩
    unfold XX3_open
    rw [if_pos q]
    exact room 0 U h (by omega) (by omega) (fun _ _ _ => rfl) hU (fun u _ => ⟨rfl, rfl⟩) j4 j5
  · obtain ⟨r, g0, e0, k0, k72, k73, k3⟩ := forgetJ_ok j4
    refine ⟨1, 3, (g0 73 3).toNat, by omega, by omega, Or.inl ⟨rfl, rfl⟩, ?_⟩
    unfold XX3_open
    rw [if_neg q, e0, cal_eq]
    refine room 1 3 g0 (by omega) (by omega) k0 k72 (fun u hu => k73 u hu) (fun u hu => ?_) (fun u v h1 h2 => ?_)
    · by_cases t : u = 3
      · rw [t, k3]; exact j4 0 (by omega)
      · rw [(k73 u (by omega)).1]; exact j4 (u + 1) (by omega)
    · by_cases t : v = 3
      · rw [t, k3, (k73 u (by omega)).1]; exact (j5 0 (u + 1) (by omega) (by omega)).symm
      · rw [(k73 u (by omega)).1, (k73 v (by omega)).1]; exact j5 (u + 1) (v + 1) (by omega) (by omega)
/-- a slot as another was -/
def SlE (s1 s2 : Nat) (h f : Hp) : Prop := (f 174 s2 = h 174 s1 ∧ f 175 s2 = h 175 s1 ∧ f 176 s2 = h 176 s1 ∧ f 177 s2 = h 177 s1) ∧ (∀ w, w < 48 → f 178 (48 * s2 + w) = h 178 (48 * s1 + w) ∧ f 182 (48 * s2 + w) = h 182 (48 * s1 + w) ∧ f 183 (48 * s2 + w) = h 183 (48 * s1 + w)) ∧ (∀ j, j < 144 → f 179 (144 * s2 + j) = h 179 (144 * s1 + j)) ∧ (∀ k, k < 4 → f 180 (4 * s2 + k) = h 180 (4 * s1 + k)) ∧ (∀ k, k < 2 → f 181 (2 * s2 + k) = h 181 (2 * s1 + k)) ∧ ∀ k, k < 12 → f 184 (12 * s2 + k) = h 184 (12 * s1 + k)
theorem SlE_tr {s1 s2 s3 : Nat} {h f g : Hp} (a : SlE s1 s2 h f) (b : SlE s2 s3 f g) : SlE s1 s3 h g := by
  obtain ⟨a1, a2, a3, a4, a5, a6⟩ := a
  obtain ⟨b1, b2, b3, b4, b5, b6⟩ := b
  exact ⟨⟨b1.1.trans a1.1, b1.2.1.trans a1.2.1, b1.2.2.1.trans a1.2.2.1, b1.2.2.2.trans a1.2.2.2⟩, fun w hw => ⟨(b2 w hw).1.trans (a2 w hw).1, (b2 w hw).2.1.trans (a2 w hw).2.1, (b2 w hw).2.2.trans (a2 w hw).2.2⟩, fun j hj => (b3 j hj).trans (a3 j hj), fun k hk => (b4 k hk).trans (a4 k hk), fun k hk => (b5 k hk).trans (a5 k hk), fun k hk => (b6 k hk).trans (a6 k hk)⟩
theorem SlE_id {s : Nat} {h f : Hp} (e : ∀ a i, (174 ≤ a ∧ a ≤ 184) → f a i = h a i) : SlE s s h f := ⟨⟨e _ _ (by omega), e _ _ (by omega), e _ _ (by omega), e _ _ (by omega)⟩, fun w _ => ⟨e _ _ (by omega), e _ _ (by omega), e _ _ (by omega)⟩, fun j _ => e _ _ (by omega), fun k _ => e _ _ (by omega), fun k _ => e _ _ (by omega), fun k _ => e _ _ (by omega)⟩
theorem SlE_mv {sa sl : Nat} {h f : Hp} (s : MovP sa sl 48 144 4 2 12 h f) : SlE sa sl h f := by
  obtain ⟨_, s2, s3, s4, s5, s6, s7, s8, s9⟩ := s
  exact ⟨⟨by rw [s2.1, if_pos rfl], by rw [s2.2.1, if_pos rfl], by rw [s2.2.2.1, if_pos rfl], by rw [s2.2.2.2, if_pos rfl]⟩, fun w hw => ⟨Win_at s3 hw, Win_at s4 hw, Win_at s5 hw⟩, fun j hj => Win_at s6 hj, fun k hk => Win_at s7 hk, fun k hk => Win_at s8 hk, fun k hk => Win_at s9 hk⟩
theorem SlE_mo {sa sl t : Nat} (hne : t ≠ sl) {h f : Hp} (s : MovP sa sl 48 144 4 2 12 h f) : SlE t t h f := by
  obtain ⟨_, s2, s3, s4, s5, s6, s7, s8, s9⟩ := s
  exact ⟨⟨by rw [s2.1, if_neg hne], by rw [s2.2.1, if_neg hne], by rw [s2.2.2.1, if_neg hne], by rw [s2.2.2.2, if_neg hne]⟩, fun w hw => ⟨Win_no s3 (by omega), Win_no s4 (by omega), Win_no s5 (by omega)⟩, fun j hj => Win_no s6 (by omega), fun k hk => Win_no s7 (by omega), fun k hk => Win_no s8 (by omega), fun k hk => Win_no s9 (by omega)⟩
theorem SlE_so {sl t : Nat} (hne : t ≠ sl) {h f : Hp} (s : StoP sl 48 144 4 2 12 h f) : SlE t t h f := by
  obtain ⟨_, s2, s3, s4, s5, s6, s7, s8, s9⟩ := s
  exact ⟨⟨by rw [s2.1, if_neg hne], by rw [s2.2.1, if_neg hne], by rw [s2.2.2.1, if_neg hne], by rw [s2.2.2.2, if_neg hne]⟩, fun w hw => ⟨Win_no s3 (by omega), Win_no s4 (by omega), Win_no s5 (by omega)⟩, fun j hj => Win_no s6 (by omega), fun k hk => Win_no s7 (by omega), fun k hk => Win_no s8 (by omega), fun k hk => Win_no s9 (by omega)⟩
theorem PRel_sl {b s1 s2 : Nat} {h f : Hp} (hN : h b 2 ≤ 4 ∧ h b 1 ≤ 2) (e : ∀ a i, (b ≤ a ∧ a ≤ b + 4) → f a i = h a i) (s : SlE s1 s2 h f) (j : PRel b s1 h) : PRel b s2 f := by
  obtain ⟨a1, a2, a3, a4, a5, a6⟩ := s
  obtain ⟨j1, j2, j3, j4, j5, j6⟩ := j
  refine ⟨⟨?_, ?_, ?_, ?_⟩, fun w hw => ?_, fun j hj => ?_, fun k hk => ?_, fun k hk => ?_, fun w hw => ?_⟩
  · rw [e b _ (by omega), a1.1]; exact j1.1
  · rw [e b _ (by omega), a1.2.1]; exact j1.2.1
  · rw [e b _ (by omega), a1.2.2.1]; exact j1.2.2.1
  · rw [e b _ (by omega), a1.2.2.2]; exact j1.2.2.2
  · rw [(a2 w hw).1, e (b + 1) _ (by omega)]; exact j2 w hw
  · rw [a3 j hj, e (b + 2) _ (by omega)]; exact j3 j hj
  · rw [e b _ (by omega)] at hk
    rw [a4 k (by omega), e (b + 3) _ (by omega)]; exact j4 k hk
  · rw [e b _ (by omega)] at hk
    rw [a5 k (by omega), e (b + 3) _ (by omega), e b _ (by omega)]; exact j5 k hk
  · rw [(a2 w hw).2.1, (a2 w hw).2.2, e (b + 4) _ (by omega)]; exact j6 w hw
