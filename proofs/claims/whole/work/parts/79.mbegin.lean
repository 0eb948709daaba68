/-- the model's begin -/
theorem beginM_ok {x y z : Int} (hx : 0 ≤ x ∧ x ≤ 8) (hy : 0 ≤ y ∧ y ≤ 2) (hz : 1 ≤ z ∧ z ≤ 4) (hs : 1 ≤ x + y ∧ x + y ≤ 8) (h : Hp) : En (XX12_begin x y z h) (fun r g => r = 2 ^ (x + y).toNat ∧ (g 143 1 = x ∧ g 143 2 = y ∧ g 143 3 = z ∧ g 144 0 = 0 ∧ g 144 1 = 0) ∧ (∀ k, k < 8 → g 147 k = 0) ∧ (∀ k, k < 4 → g 148 k = 0) ∧ (∀ c, c < 256 → g 149 c = 0) ∧ (∀ w, w < 48 → g 150 w = 0 ∧ g 151 w = 0 ∧ g 157 w = -1) ∧ (∀ k, k < 9 → g 156 k = 1) ∧ (g 143 12 = 0 ∧ g 143 19 = 0 ∧ g 143 21 = -1 ∧ g 143 22 = -1 ∧ g 143 23 = 0 ∧ g 143 36 = 0 ∧ g 143 37 = 0 ∧ g 143 38 = 0 ∧ g 143 57 = 0)) := by
  have hash : ashl 1 (x + y) = 2 ^ (x + y).toNat := ashl1 (by omega) (by omega)
  unfold XX12_begin
  rw [in_eq, cal_eq, if1 (by omega), if_neg n10, in_eq, cal_eq, if1 (by omega), if_neg n10, in_eq, cal_eq, if1 (by omega), if_neg n10, chk_pos (by omega), in_eq, cal_eq, if1 (by omega), if_neg n10, hm_eq, hm_eq, hm_eq]
  have b1 : wr (wr (wr h 143 1 x) 143 2 y) 143 3 z 143 1 = x := by rw [wq_ne (by omega), wq_ne (by omega), wr_at]
  have b2 : wr (wr (wr h 143 1 x) 143 2 y) 143 3 z 143 2 = y := by rw [wq_ne (by omega), wr_at]
  have b3 : wr (wr (wr h 143 1 x) 143 2 y) 143 3 z 143 3 = z := wr_at
  generalize wr (wr (wr h 143 1 x) 143 2 y) 143 3 z = h0 at *
  unfold XX12_begin_L60
  refine En_lup1 (fun l _ => (2 - l).toNat) (fun l g => 0 ≤ l ∧ l ≤ 2 ∧ g 143 = h0 143 ∧ ∀ k : Nat, (k : Int) < l → g 144 k = 0) ?_ FU _ _ (by unfold FU; omega) ⟨by omega, by omega, rfl, fun k hk => by omega⟩
  rintro s1 l g ih ⟨c0, c1, c2, c3⟩
  unfold XX12_begin_b60
  by_cases q : 2 ≤ l
  · rw [if_pos q]
    clear ih
    have A1 : ∀ k, k < 2 → g 144 k = 0 := fun k hk => c3 k (by omega)
    unfold XX12_begin_L83
    refine En_lup1 (fun l _ => (8 - l).toNat) (fun l f => 0 ≤ l ∧ l ≤ 8 ∧ f 143 = h0 143 ∧ f 144 = g 144 ∧ ∀ k : Nat, (k : Int) < l → f 147 k = 0) ?_ FU _ _ (by unfold FU; omega) ⟨by omega, by omega, c2, rfl, fun k hk => by omega⟩
    rintro s2 l f ih ⟨d0, d1, d2, d3, d4⟩
    unfold XX12_begin_b83
    by_cases q : 8 ≤ l
    · rw [if_pos q]
      clear ih
      have A2 : ∀ k, k < 8 → f 147 k = 0 := fun k hk => d4 k (by omega)
      unfold XX12_begin_L107
      refine En_lup1 (fun l _ => (4 - l).toNat) (fun l e => 0 ≤ l ∧ l ≤ 4 ∧ e 143 = h0 143 ∧ e 144 = g 144 ∧ e 147 = f 147 ∧ ∀ k : Nat, (k : Int) < l → e 148 k = 0) ?_ FU _ _ (by unfold FU; omega) ⟨by omega, by omega, d2, d3, rfl, fun k hk => by omega⟩
      rintro s3 l e ih ⟨x0, x1, x2, x3, x4, x5⟩
      unfold XX12_begin_b107
      by_cases q : 4 ≤ l
      · rw [if_pos q]
        clear ih
        have A3 : ∀ k, k < 4 → e 148 k = 0 := fun k hk => x5 k (by omega)
        unfold XX12_begin_L130
        refine En_lup1 (fun l _ => (256 - l).toNat) (fun l d => 0 ≤ l ∧ l ≤ 256 ∧ d 143 = h0 143 ∧ d 144 = g 144 ∧ d 147 = f 147 ∧ d 148 = e 148 ∧ ∀ k : Nat, (k : Int) < l → d 149 k = 0) ?_ FU _ _ (by unfold FU; omega) ⟨by omega, by omega, x2, x3, x4, rfl, fun k hk => by omega⟩
        rintro s4 l d ih ⟨y0, y1, y2, y3, y4, y5, y6⟩
        unfold XX12_begin_b130
        by_cases q : 256 ≤ l
        · rw [if_pos q]
          clear ih
          have A4 : ∀ k, k < 256 → d 149 k = 0 := fun k hk => y6 k (by omega)
          unfold XX12_begin_L155
          refine En_lup1 (fun l _ => (48 - l).toNat) (fun l c => 0 ≤ l ∧ l ≤ 48 ∧ (∀ a, (a = 143 ∨ a = 144 ∨ a = 147 ∨ a = 148 ∨ a = 149) → c a = d a) ∧ ∀ w : Nat, (w : Int) < l → c 150 w = 0 ∧ c 151 w = 0 ∧ c 157 w = -1) ?_ FU _ _ (by unfold FU; omega) ⟨by omega, by omega, fun _ _ => rfl, fun k hk => by omega⟩
          rintro s5 l c ih ⟨z0, z1, z2, z3⟩
          unfold XX12_begin_b155
          by_cases q : 48 ≤ l
          · rw [if_pos q]
            clear ih
            have A5 : ∀ w, w < 48 → c 150 w = 0 ∧ c 151 w = 0 ∧ c 157 w = -1 := fun w hw => z3 w (by omega)
            unfold XX12_begin_L195
            refine En_lup1 (fun l _ => (9 - l).toNat) (fun l b => 0 ≤ l ∧ l ≤ 9 ∧ (∀ a, a ≠ 156 → b a = c a) ∧ ∀ k : Nat, (k : Int) < l → b 156 k = 1) ?_ FU _ _ (by unfold FU; omega) ⟨by omega, by omega, fun _ _ => rfl, fun k hk => by omega⟩
            rintro s6 l b ih ⟨w0, w1, w2, w3⟩
            unfold XX12_begin_b195
            by_cases q : 9 ≤ l
            · rw [if_pos q, hm_eq, hm_eq, hm_eq, hm_eq, zb_0, hm_eq, hm_eq, hm_eq, hm_eq, hm_eq]
              have B143 : b 143 = h0 143 := by rw [w2 143 (by omega), z2 143 (by omega), y2]
              have f1 : ∀ a i, ¬ (a = 143 ∧ (i = 12 ∨ i = 19 ∨ i = 21 ∨ i = 22 ∨ i = 23 ∨ i = 36 ∨ i = 37 ∨ i = 38 ∨ i = 57)) → wr (wr (wr (wr (wr (wr (wr (wr (wr b 143 12 0) 143 19 0) 143 21 (-1)) 143 22 (-1)) 143 23 0) 143 36 0) 143 37 0) 143 38 0) 143 57 0 a i = b a i := fun a i hh => by rw [wq_ne (by omega), wq_ne (by omega), wq_ne (by omega), wq_ne (by omega), wq_ne (by omega), wq_ne (by omega), wq_ne (by omega), wq_ne (by omega), wq_ne (by omega)]
              have fa : ∀ a, a ≠ 143 → wr (wr (wr (wr (wr (wr (wr (wr (wr b 143 12 0) 143 19 0) 143 21 (-1)) 143 22 (-1)) 143 23 0) 143 36 0) 143 37 0) 143 38 0) 143 57 0 a = b a := fun a ha => funext (fun i => f1 a i (by omega))
              have v12 : wr (wr (wr (wr (wr (wr (wr (wr (wr b 143 12 0) 143 19 0) 143 21 (-1)) 143 22 (-1)) 143 23 0) 143 36 0) 143 37 0) 143 38 0) 143 57 0 143 12 = 0 := by simp [wr]
              have v19 : wr (wr (wr (wr (wr (wr (wr (wr (wr b 143 12 0) 143 19 0) 143 21 (-1)) 143 22 (-1)) 143 23 0) 143 36 0) 143 37 0) 143 38 0) 143 57 0 143 19 = 0 := by simp [wr]
              have v21 : wr (wr (wr (wr (wr (wr (wr (wr (wr b 143 12 0) 143 19 0) 143 21 (-1)) 143 22 (-1)) 143 23 0) 143 36 0) 143 37 0) 143 38 0) 143 57 0 143 21 = -1 := by simp [wr]
              have v22 : wr (wr (wr (wr (wr (wr (wr (wr (wr b 143 12 0) 143 19 0) 143 21 (-1)) 143 22 (-1)) 143 23 0) 143 36 0) 143 37 0) 143 38 0) 143 57 0 143 22 = -1 := by simp [wr]
              have v23 : wr (wr (wr (wr (wr (wr (wr (wr (wr b 143 12 0) 143 19 0) 143 21 (-1)) 143 22 (-1)) 143 23 0) 143 36 0) 143 37 0) 143 38 0) 143 57 0 143 23 = 0 := by simp [wr]
              have v36 : wr (wr (wr (wr (wr (wr (wr (wr (wr b 143 12 0) 143 19 0) 143 21 (-1)) 143 22 (-1)) 143 23 0) 143 36 0) 143 37 0) 143 38 0) 143 57 0 143 36 = 0 := by simp [wr]
              have v37 : wr (wr (wr (wr (wr (wr (wr (wr (wr b 143 12 0) 143 19 0) 143 21 (-1)) 143 22 (-1)) 143 23 0) 143 36 0) 143 37 0) 143 38 0) 143 57 0 143 37 = 0 := by simp [wr]
              have v38 : wr (wr (wr (wr (wr (wr (wr (wr (wr b 143 12 0) 143 19 0) 143 21 (-1)) 143 22 (-1)) 143 23 0) 143 36 0) 143 37 0) 143 38 0) 143 57 0 143 38 = 0 := by simp [wr]
              have v57 : wr (wr (wr (wr (wr (wr (wr (wr (wr b 143 12 0) 143 19 0) 143 21 (-1)) 143 22 (-1)) 143 23 0) 143 36 0) 143 37 0) 143 38 0) 143 57 0 143 57 = 0 := wr_at
              generalize wr (wr (wr (wr (wr (wr (wr (wr (wr b 143 12 0) 143 19 0) 143 21 (-1)) 143 22 (-1)) 143 23 0) 143 36 0) 143 37 0) 143 38 0) 143 57 0 = t at *
              have t1 : t 143 1 = x := by rw [f1 143 1 (by omega), B143, b1]
              have t2 : t 143 2 = y := by rw [f1 143 2 (by omega), B143, b2]
              have t3 : t 143 3 = z := by rw [f1 143 3 (by omega), B143, b3]
              have t144 : t 144 = g 144 := by rw [fa 144 (by omega), w2 144 (by omega), z2 144 (by omega), y3]
              unfold XX12_cases XX12_begun
              rw [t1, t2, chk_pos (by omega), cal_eq, cal_eq, hash]
              refine En_some ⟨rfl, ⟨t1, t2, t3, by rw [t144]; exact A1 0 (by omega), by rw [t144]; exact A1 1 (by omega)⟩, fun k hk => ?_, fun k hk => ?_, fun k hk => ?_, fun w hw => ?_, fun k hk => ?_, v12, v19, v21, v22, v23, v36, v37, v38, v57⟩
              · rw [fa 147 (by omega), w2 147 (by omega), z2 147 (by omega), y4]; exact A2 k hk
              · rw [fa 148 (by omega), w2 148 (by omega), z2 148 (by omega), y5]; exact A3 k hk
              · rw [fa 149 (by omega), w2 149 (by omega), z2 149 (by omega)]; exact A4 k hk
              · rw [fa 150 (by omega), fa 151 (by omega), fa 157 (by omega), w2 150 (by omega), w2 151 (by omega), w2 157 (by omega)]; exact A5 w hw
              · rw [fa 156 (by omega)]; exact w3 k (by omega)
            · rw [if_neg q, inb_pos (by omega), hm_eq, chk_pos (by omega)]
              refine ih _ _ (by omega) ⟨by omega, by omega, fun a ha => by rw [wr_ne ha]; exact w2 a ha, fun k hk => ?_⟩
              by_cases qk : k = l.toNat
              · rw [qk, wr_at]
              · rw [wr_o qk]; exact w3 k (by omega)
          · rw [if_neg q, inb_pos (by omega), hm_eq, inb_pos (by omega), hm_eq, inb_pos (by omega), hm_eq, chk_pos (by omega)]
            refine ih _ _ (by omega) ⟨by omega, by omega, fun a ha => by rw [wr_ne (by omega), wr_ne (by omega), wr_ne (by omega)]; exact z2 a ha, fun w hw => ?_⟩
            by_cases qk : w = l.toNat
            · refine ⟨?_, ?_, ?_⟩
              · rw [wr_ne (by omega), wr_ne (by omega), qk, wr_at]
              · rw [wr_ne (by omega), qk, wr_at]
              · rw [qk, wr_at]
            · rw [wr_ne (by omega), wr_ne (by omega), wr_o qk, wr_ne (by omega), wr_o qk, wr_ne (by omega), wr_o qk, wr_ne (by omega), wr_ne (by omega)]
              exact z3 w (by omega)
        · rw [if_neg q, inb_pos (by omega), zb_0, hm_eq, chk_pos (by omega)]
          refine ih _ _ (by omega) ⟨by omega, by omega, by rw [wr_ne (by omega)]; exact y2, by rw [wr_ne (by omega)]; exact y3, by rw [wr_ne (by omega)]; exact y4, by rw [wr_ne (by omega)]; exact y5, fun k hk => ?_⟩
          by_cases qk : k = l.toNat
          · rw [qk, wr_at]
          · rw [wr_o qk]; exact y6 k (by omega)
      · rw [if_neg q, inb_pos (by omega), hm_eq, chk_pos (by omega)]
        refine ih _ _ (by omega) ⟨by omega, by omega, by rw [wr_ne (by omega)]; exact x2, by rw [wr_ne (by omega)]; exact x3, by rw [wr_ne (by omega)]; exact x4, fun k hk => ?_⟩
        by_cases qk : k = l.toNat
        · rw [qk, wr_at]
        · rw [wr_o qk]; exact x5 k (by omega)
    · rw [if_neg q, inb_pos (by omega), hm_eq, chk_pos (by omega)]
      refine ih _ _ (by omega) ⟨by omega, by omega, by rw [wr_ne (by omega)]; exact d2, by rw [wr_ne (by omega)]; exact d3, fun k hk => ?_⟩
      by_cases qk : k = l.toNat
      · rw [qk, wr_at]
      · rw [wr_o qk]; exact d4 k (by omega)
  · rw [if_neg q, inb_pos (by omega), hm_eq, chk_pos (by omega)]
    refine ih _ _ (by omega) ⟨by omega, by omega, by rw [wr_ne (by omega)]; exact c2, fun k hk => ?_⟩
    by_cases qk : k = l.toNat
    · rw [qk, wr_at]
    · rw [wr_o qk]; exact c3 k (by omega)
