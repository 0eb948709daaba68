theorem startAll_ok {x y z : Int} (hs : 1 ≤ x + y ∧ x + y ≤ 8) (h : Hp) : ∃ g, XX11_startAll x y z h = some (0, g) ∧
    (∀ a i, ¬ ((21 ≤ a ∧ a ≤ 22) ∨ (31 ≤ a ∧ a ≤ 32) ∨ (38 ≤ a ∧ a ≤ 39) ∨ a = 54 ∨ a = 99 ∨ (a = 16 ∧ 12 ≤ i ∧ i ≤ 15) ∨ (a = 17 ∧ i = 6) ∨ (a = 18 ∧ 0 ≤ i ∧ i ≤ 3) ∨ (a = 27 ∧ i = 6) ∨ (a = 28 ∧ 0 ≤ i ∧ i ≤ 3) ∨ (a = 37 ∧ 0 ≤ i ∧ i ≤ 1) ∨ (a = 53 ∧ i = 1) ∨ (a = 56 ∧ i = 0) ∨ (a = 67 ∧ 0 ≤ i ∧ i ≤ 1) ∨ (a = 72 ∧ i = 2) ∨ (a = 72 ∧ i = 4) ∨ (a = 72 ∧ i = 6)) → g a i = h a i) ∧
    (g 17 6 = 0 ∧ g 27 6 = 0 ∧ g 18 0 = x ∧ g 18 1 = y ∧ g 18 2 = z ∧ g 18 3 = 0 ∧ g 28 0 = x ∧ g 28 1 = y ∧ g 28 2 = z ∧ g 28 3 = 0) ∧ (∀ k, k < 6 → g 21 k = 0 ∧ g 31 k = 0) ∧ (∀ w, w < 48 → g 22 w = 0 ∧ g 32 w = 0 ∧ g 54 w = -1) ∧
    (g 37 0 = 2 ^ (x + y).toNat ∧ g 37 1 = (if (2 : Int) ^ (x + y).toNat ≤ 64 then 1 else 2 ^ (x + y).toNat / 64) ∧ (∀ part, part < 4 → ∀ c, c < 64 → tb (g 38 part) c = decide (((64 * part + c : Nat) : Int) < 2 ^ (x + y).toNat)) ∧ (∀ part, part < 4 → g 39 part = g 38 part ∧ inJ (g 38 part))) ∧
    (g 53 1 = 0 ∧ g 56 0 = 0 ∧ g 67 0 = 0 ∧ g 67 1 = 0 ∧ g 72 2 = 0 ∧ g 72 4 = 0 ∧ g 72 6 = 0 ∧ g 16 12 = 0 ∧ g 16 13 = -1 ∧ g 16 14 = -1 ∧ g 16 15 = 0) ∧ (∀ k, k < 9 → g 99 k = 1) := by
  obtain ⟨g1, e1, f1, a1, a2, a3, a4, a5, a6, a7⟩ := pstart_ok 17 x y z h
  obtain ⟨g2, e2, f2, b1, b2, b3, b4, b5, b6, b7⟩ := pstart_ok 27 x y z g1
  obtain ⟨g3, e3, f3, c1, c2, c3, c4⟩ := cstart_ok hs g2
  have e4 : XX4_start g3 = some (0, wr (fun b j => if b = 54 ∧ j < 48 then (-1) else g3 b j) 53 1 0) := by
    unfold XX4_start; rw [fill_ok _ _ _ _ (by omega), cal_eq, hm_eq]
  generalize hg4 : wr (fun b j => if b = 54 ∧ j < 48 then (-1) else g3 b j) 53 1 0 = g4 at *
  have f4 : ∀ a i, ¬ (a = 54 ∨ (a = 53 ∧ i = 1)) → g4 a i = g3 a i := fun a i hh => by rw [← hg4, wq_ne (by omega), if_neg (by omega)]
  have d1 : ∀ w, w < 48 → g4 54 w = -1 := fun w hw => by rw [← hg4, wq_ne (by omega), if_pos (by omega)]
  have d2 : g4 53 1 = 0 := by rw [← hg4, wr_at]
  have e5 : ∀ g, XX7_drop g = some (0, wr g 56 0 0) := fun g => by unfold XX7_drop; rw [zb_0, hm_eq]
  have e6 : ∀ g, XX9_start g = some (0, wr (wr g 67 0 0) 67 1 0) := fun g => by unfold XX9_start; rw [hm_eq, hm_eq]
  have e7 : ∀ g, XX3_start g = some (0, wr (wr (wr g 72 2 0) 72 4 0) 72 6 0) := fun g => by unfold XX3_start; rw [hm_eq, hm_eq, hm_eq]
  have E : XX11_startAll x y z h = some (0, wr (wr (wr (wr (fun b j => if b = 99 ∧ j < 9 then 1 else (wr (wr (wr (wr (wr (wr g4 56 0 0) 67 0 0) 67 1 0) 72 2 0) 72 4 0) 72 6 0) b j) 16 12 0) 16 13 (-1)) 16 14 (-1)) 16 15 0) := by
    unfold XX11_startAll
    rw [e1, cal_eq, e2, cal_eq, chk_pos (by omega), e3, cal_eq, e4, cal_eq, e5, cal_eq, e6, cal_eq, e7, cal_eq, fill_ok _ _ _ _ (by omega), cal_eq, hm_eq, hm_eq, hm_eq, hm_eq]
  generalize hg : wr (wr (wr (wr (fun b j => if b = 99 ∧ j < 9 then 1 else (wr (wr (wr (wr (wr (wr g4 56 0 0) 67 0 0) 67 1 0) 72 2 0) 72 4 0) 72 6 0) b j) 16 12 0) 16 13 (-1)) 16 14 (-1)) 16 15 0 = g at *
  have f5 : ∀ a i, ¬ (a = 99 ∨ (a = 16 ∧ 12 ≤ i ∧ i ≤ 15) ∨ (a = 56 ∧ i = 0) ∨ (a = 67 ∧ i ≤ 1) ∨ (a = 72 ∧ (i = 2 ∨ i = 4 ∨ i = 6))) → g a i = g4 a i := fun a i hh => by rw [← hg, wq_ne (by omega), wq_ne (by omega), wq_ne (by omega), wq_ne (by omega), if_neg (by omega), wq_ne (by omega), wq_ne (by omega), wq_ne (by omega), wq_ne (by omega), wq_ne (by omega), wq_ne (by omega)]
  have k3 : ∀ a i, ¬ (a = 99 ∨ (a = 16 ∧ 12 ≤ i ∧ i ≤ 15) ∨ (a = 56 ∧ i = 0) ∨ (a = 67 ∧ i ≤ 1) ∨ (a = 72 ∧ (i = 2 ∨ i = 4 ∨ i = 6)) ∨ a = 54 ∨ (a = 53 ∧ i = 1)) → g a i = g3 a i := fun a i hh => by rw [f5 a i (by omega), f4 a i (by omega)]
  have k2 : ∀ a i, a < 37 → 17 ≤ a → g a i = g2 a i := fun a i h1 h2 => by rw [k3 a i (by omega), f3 a i (by omega)]
  have k1 : ∀ a i, a < 27 → 17 ≤ a → g a i = g1 a i := fun a i h1 h2 => by rw [k2 a i (by omega) h2, f2 a i (by omega)]
  have in16 : ∀ i, g 16 i = if i = 15 then 0 else if i = 14 then -1 else if i = 13 then -1 else if i = 12 then 0 else g4 16 i := by
    intro i
    rw [← hg]
    by_cases q15 : i = 15
    · rw [if_pos q15, q15, wr_at]
    rw [if_neg q15, wr_o q15]
    by_cases q14 : i = 14
    · rw [if_pos q14, q14, wr_at]
    rw [if_neg q14, wr_o q14]
    by_cases q13 : i = 13
    · rw [if_pos q13, q13, wr_at]
    rw [if_neg q13, wr_o q13]
    by_cases q12 : i = 12
    · rw [if_pos q12, q12, wr_at]
    rw [if_neg q12, wr_o q12, if_neg (by omega), wq_ne (by omega), wq_ne (by omega), wq_ne (by omega), wq_ne (by omega), wq_ne (by omega), wq_ne (by omega)]
  have hi : ∀ a i, a ≠ 16 → a ≠ 99 → g a i = (wr (wr (wr (wr (wr (wr g4 56 0 0) 67 0 0) 67 1 0) 72 2 0) 72 4 0) 72 6 0) a i := fun a i h1 h2 => by rw [← hg, wr_ne h1, wr_ne h1, wr_ne h1, wr_ne h1, if_neg (by omega)]
  refine ⟨g, E, fun a i hh => ?_, ⟨?_, ?_, ?_, ?_, ?_, ?_, ?_, ?_, ?_, ?_⟩, fun k hk => ⟨?_, ?_⟩, fun w hw => ⟨?_, ?_, ?_⟩, ⟨?_, ?_, ?_, ?_⟩, ⟨?_, ?_, ?_, ?_, ?_, ?_, ?_, ?_, ?_, ?_, ?_⟩, fun k hk => ?_⟩
  · exact fr_XX11_startAll E a i hh
  · rw [k1 17 6 (by omega) (by omega)]; exact a1
  · rw [k2 27 6 (by omega) (by omega)]; exact b1
  · rw [k1 18 0 (by omega) (by omega)]; exact a2
  · rw [k1 18 1 (by omega) (by omega)]; exact a3
  · rw [k1 18 2 (by omega) (by omega)]; exact a4
  · rw [k1 18 3 (by omega) (by omega)]; exact a5
  · rw [k2 28 0 (by omega) (by omega)]; exact b2
  · rw [k2 28 1 (by omega) (by omega)]; exact b3
  · rw [k2 28 2 (by omega) (by omega)]; exact b4
  · rw [k2 28 3 (by omega) (by omega)]; exact b5
  · rw [k1 21 k (by omega) (by omega)]; exact a6 k hk
  · rw [k2 31 k (by omega) (by omega)]; exact b6 k hk
  · rw [k1 22 w (by omega) (by omega)]; exact a7 w hw
  · rw [k2 32 w (by omega) (by omega)]; exact b7 w hw
  · rw [f5 54 w (by omega)]; exact d1 w hw
  · rw [k3 37 0 (by omega)]; exact c1
  · rw [k3 37 1 (by omega)]; exact c2
  · intro part hp c hc; rw [k3 38 part (by omega)]; exact c3 part hp c hc
  · intro part hp; rw [k3 38 part (by omega), k3 39 part (by omega)]; exact c4 part hp
  · rw [f5 53 1 (by omega)]; exact d2
  · rw [hi 56 0 (by omega) (by omega), wq_ne (by omega), wq_ne (by omega), wq_ne (by omega), wq_ne (by omega), wq_ne (by omega), wr_at]
  · rw [hi 67 0 (by omega) (by omega), wq_ne (by omega), wq_ne (by omega), wq_ne (by omega), wq_ne (by omega), wr_at]
  · rw [hi 67 1 (by omega) (by omega), wq_ne (by omega), wq_ne (by omega), wq_ne (by omega), wr_at]
  · rw [hi 72 2 (by omega) (by omega), wq_ne (by omega), wq_ne (by omega), wr_at]
  · rw [hi 72 4 (by omega) (by omega), wq_ne (by omega), wr_at]
  · rw [hi 72 6 (by omega) (by omega), wr_at]
  · rw [in16]; rfl
  · rw [in16]; rfl
  · rw [in16]; rfl
  · rw [in16]; rfl
  · rw [← hg, wr_ne (by omega), wr_ne (by omega), wr_ne (by omega), wr_ne (by omega), if_pos (by omega)]
