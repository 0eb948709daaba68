/-- the state that startAll and the model's begin leave -/
theorem begin_Inv {n : Nat} {x y z : Int} (hx : 0 ≤ x ∧ x ≤ 8) (hy : 0 ≤ y ∧ y ≤ 2) (hz : 1 ≤ z ∧ z ≤ 4) (hs : 1 ≤ x + y ∧ x + y ≤ 8) {f : Hp} (hl : f 17 1 = 40 ∧ f 27 1 = 24) (hk : (∀ w, w < 48 → f 145 w = f 19 w) ∧ (∀ w, w < 48 → f 145 (48 + w) = f 29 w) ∧ (∀ j, j < 144 → f 146 j = f 20 j) ∧ (∀ j, j < 144 → f 146 (144 + j) = f 30 j)) (h73 : (∀ u, u < 4 → f 73 u = 78 ∨ f 73 u = 83 ∨ f 73 u = 88 ∨ f 73 u = 93) ∧ (∀ u v, u < v → v < 4 → f 73 u ≠ f 73 v)) (h12 : J12 f) (h14 : J14 f)
    (c1 : f 17 6 = 0 ∧ f 27 6 = 0 ∧ f 18 0 = x ∧ f 18 1 = y ∧ f 18 2 = z ∧ f 18 3 = 0 ∧ f 28 0 = x ∧ f 28 1 = y ∧ f 28 2 = z ∧ f 28 3 = 0) (c2 : ∀ k, k < 6 → f 21 k = 0 ∧ f 31 k = 0) (c3 : ∀ w, w < 48 → f 22 w = 0 ∧ f 32 w = 0 ∧ f 54 w = -1)
    (c4 : f 37 0 = 2 ^ (x + y).toNat ∧ f 37 1 = (if (2 : Int) ^ (x + y).toNat ≤ 64 then 1 else 2 ^ (x + y).toNat / 64) ∧ (∀ part, part < 4 → ∀ c, c < 64 → tb (f 38 part) c = decide (((64 * part + c : Nat) : Int) < 2 ^ (x + y).toNat)) ∧ (∀ part, part < 4 → f 39 part = f 38 part ∧ inJ (f 38 part)))
    (c5 : f 53 1 = 0 ∧ f 56 0 = 0 ∧ f 67 0 = 0 ∧ f 67 1 = 0 ∧ f 72 2 = 0 ∧ f 72 4 = 0 ∧ f 72 6 = 0 ∧ f 16 12 = 0 ∧ f 16 13 = -1 ∧ f 16 14 = -1 ∧ f 16 15 = 0) (c6 : ∀ k, k < 9 → f 99 k = 1)
    (m1 : f 143 1 = x ∧ f 143 2 = y ∧ f 143 3 = z ∧ f 144 0 = 0 ∧ f 144 1 = 0) (m2 : ∀ k, k < 8 → f 147 k = 0) (m3 : ∀ k, k < 4 → f 148 k = 0) (m4 : ∀ c, c < 256 → f 149 c = 0) (m5 : ∀ w, w < 48 → f 150 w = 0 ∧ f 151 w = 0 ∧ f 157 w = -1) (m6 : ∀ k, k < 9 → f 156 k = 1)
    (m7 : f 143 12 = 0 ∧ f 143 19 = 0 ∧ f 143 21 = -1 ∧ f 143 22 = -1 ∧ f 143 23 = 0 ∧ f 143 36 = 0 ∧ f 143 37 = 0 ∧ f 143 38 = 0 ∧ f 143 57 = 0) : Inv n f := by
  obtain ⟨a1, a2, a3, a4, a5, a6, a7, a8, a9, a10⟩ := c1
  obtain ⟨b1, b2, b3, b4, b5, b6, b7, b8, b9, b10, b11⟩ := c5
  obtain ⟨d1, d2, d3, d4, d5⟩ := m1
  obtain ⟨e1, e2, e3, e4, e5, e6, e7, e8, e9⟩ := m7
  have s18 : sc 18 f = x + y := by unfold sc; rw [a3, a4]
  have w18 : wn 18 f = x + y := by unfold wn; rw [a3, a4, a6]; omega
  have s28 : sc 28 f = x + y := by unfold sc; rw [a7, a8]
  have w28 : wn 28 f = x + y := by unfold wn; rw [a7, a8, a10]; omega
  have P0 : Pl 40 18 f := by
    refine ⟨?_, ?_, ?_, fun k hk => ?_, fun w hw => ?_⟩
    · unfold Nums; rw [a3, a4, a5, a6]; omega
    · rw [s18, w18]; intro w h1 h2; omega
    · rw [s18, w18]; exact ⟨fun _ => 0, fun w h1 h2 => by omega⟩
    · rw [a5, a4] at hk
      show 0 ≤ f 21 k ∧ f 21 k < _
      rw [(c2 k (by omega)).1, w18]; omega
    · show 0 ≤ f 22 w ∧ f 22 w < _
      rw [(c3 w hw).1]; decide
  have P1 : Pl 24 28 f := by
    refine ⟨?_, ?_, ?_, fun k hk => ?_, fun w hw => ?_⟩
    · unfold Nums; rw [a7, a8, a9, a10]; omega
    · rw [s28, w28]; intro w h1 h2; omega
    · rw [s28, w28]; exact ⟨fun _ => 0, fun w h1 h2 => by omega⟩
    · rw [a9, a8] at hk
      show 0 ≤ f 31 k ∧ f 31 k < _
      rw [(c2 k (by omega)).2, w28]; omega
    · show 0 ≤ f 32 w ∧ f 32 w < _
      rw [(c3 w hw).2.1]; decide
  have hpl := pow_list hs.1 hs.2
  refine ⟨⟨stale_ok a1 P0, stale_ok a2 P1, hl.1, hl.2⟩, ⟨⟨by rw [a3, d1], by rw [a4, d2], by rw [a5, d3], by rw [a6, d4]⟩, ⟨by rw [a7, d1], by rw [a8, d2], by rw [a9, d3], by rw [a10, d5]⟩, hk.1, hk.2.1, hk.2.2.1, hk.2.2.2, fun k hk => ?_⟩, fun w hw => ?_, ⟨⟨by rw [s18]; exact c4.1, by rw [c4.1]; exact c4.2.1, fun part hp c hc => by rw [c4.1]; exact c4.2.2.1 part hp c hc, fun part hp => ?_, fun part hp c hc ht => ?_⟩, fun c hc => Or.inl (m4 c hc), fun c hc => ?_⟩, ⟨fun w hw => ?_, ?_, by rw [b1]; decide, fun w _ hw => (c3 w hw).2.2⟩, ⟨by rw [b8, e2], by rw [b8]; decide, by rw [b8]; decide, fun k hk => by rw [b8] at hk; omega⟩, ⟨by rw [b9, e3], by rw [b10, e4]⟩, ⟨by rw [b11, e9], by rw [b11]; decide, by rw [b11]; omega⟩, J8_no b2 e5, ⟨by rw [b3, e1], by rw [b3]; decide, by rw [b3]; decide, by rw [b3, b4]; decide, fun s hs => by rw [b3] at hs; omega⟩, ⟨by rw [b5, e6], by rw [b5]; decide, by rw [b5]; decide, h73.1, h73.2, fun u hu => by rw [b5] at hu; omega⟩, ⟨⟨by rw [b6, e7], by rw [b6]; decide, by rw [b6]; decide⟩, fun i hi => by rw [b6] at hi; omega, ⟨by rw [b7, e8], by rw [b7]; decide, by rw [b7]; decide⟩, fun i hi => by rw [b7] at hi; omega⟩, h12, fun k hk => ?_, h14⟩
  · rw [a5, a4] at hk
    rw [(c2 k (by omega)).1, (c2 k (by omega)).2]
    unfold sn
    rw [d3]
    constructor
    · split
      · exact m2 _ (by simp; omega)
      · exact m3 _ (by simp; omega)
    · split
      · exact m2 _ (by simp; omega)
      · exact m3 _ (by simp; omega)
  · rw [(m5 w hw).1, (m5 w hw).2.1, (c3 w hw).1]; decide
  · rw [(c4.2.2.2 part hp).1]; exact (c4.2.2.2 part hp).2
  · rw [c4.1]
    rw [(c4.2.2.2 part hp).1, c4.2.2.1 part hp c hc] at ht
    exact of_decide_eq_true ht
  · rw [c4.1] at hc
    unfold live
    rw [(c4.2.2.2 (c / 64) (by omega)).1, c4.2.2.1 (c / 64) (by omega) (c % 64) (by omega), m4 c (by omega)]
    rw [show 64 * (c / 64) + c % 64 = c by omega, decide_eq_true hc]; rfl
  · rw [(m5 w hw).2.2, (c3 w hw).2.2]; decide
  · rw [b1, cntB_none (fun i hi => by rw [(c3 i hi).2.2]; rfl)]; rfl
  · rw [c6 k hk, m6 k hk]; decide
