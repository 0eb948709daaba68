/-- Cases.start -/
theorem cstart_ok {s : Int} (hs : 1 ≤ s ∧ s ≤ 8) (h : Hp) : ∃ g, XX0_start s h = some (0, g) ∧ (∀ a i, ¬ ((38 ≤ a ∧ a ≤ 39) ∨ (a = 37 ∧ i ≤ 1)) → g a i = h a i) ∧ g 37 0 = 2 ^ s.toNat ∧ g 37 1 = (if (2 : Int) ^ s.toNat ≤ 64 then 1 else 2 ^ s.toNat / 64) ∧ (∀ part, part < 4 → ∀ c, c < 64 → tb (g 38 part) c = decide (((64 * part + c : Nat) : Int) < 2 ^ s.toNat)) ∧ (∀ part, part < 4 → g 39 part = g 38 part ∧ inJ (g 38 part)) := by
  have hash : ashl 1 s = 2 ^ s.toNat := ashl1 (by omega) (by omega)
  have hpl := pow_list hs.1 hs.2
  generalize hN : (2 : Int) ^ s.toNat = N at *
  -- the loop
  have loop : ∀ (parts : Int) (h1 : Hp), h1 37 0 = N → h1 37 1 = parts → (N ≤ 64 ∧ parts = 1 ∨ N = 64 * parts) → En (XX0_start_L33 0 h1) (fun r g => r = 0 ∧ (∀ a i, ¬ (38 ≤ a ∧ a ≤ 39) → g a i = h1 a i) ∧ (∀ part, part < 4 → ∀ c, c < 64 → tb (g 38 part) c = decide (((64 * part + c : Nat) : Int) < N)) ∧ (∀ part, part < 4 → g 39 part = g 38 part ∧ inJ (g 38 part))) := by
    intro parts h1 e0 e1 hp
    unfold XX0_start_L33
    refine En_lup1 (fun l2 _ => (4 - l2).toNat) (fun l2 h2 => 0 ≤ l2 ∧ l2 ≤ 4 ∧ Eqx 38 h1 h2 ∧ ∀ part : Nat, (part : Int) < l2 → h2 38 part = if (part : Int) < parts then -1 else 0) ?_ FU _ _ (by unfold FU; omega) ⟨by omega, by omega, Eqx_refl _ _, fun part hp => by omega⟩
    rintro self l2 h2 ih ⟨c0, c1, c2, c3⟩
    unfold XX0_start_b33
    have x37 : h2 37 = h1 37 := c2 _ (by omega)
    rw [x37, e0, e1]
    by_cases q : 4 ≤ l2
    · rw [if_pos q]
      have c3 : ∀ part : Nat, part < 4 → h2 38 part = if (part : Int) < parts then -1 else 0 := fun part hp => c3 part (by omega)
      have fin : ∀ h3 : Hp, (∀ a i, a ≠ 38 → h3 a i = h2 a i) → (∀ part, part < 4 → ∀ c, c < 64 → tb (h3 38 part) c = decide (((64 * part + c : Nat) : Int) < N)) → (∀ part, part < 4 → inJ (h3 38 part)) → En (XX0_start_p88 h3) (fun r g => r = 0 ∧ (∀ a i, ¬ (38 ≤ a ∧ a ≤ 39) → g a i = h1 a i) ∧ (∀ part, part < 4 → ∀ c, c < 64 → tb (g 38 part) c = decide (((64 * part + c : Nat) : Int) < N)) ∧ (∀ part, part < 4 → g 39 part = g 38 part ∧ inJ (g 38 part))) := by
        intro h3 f3 t3 j3
        unfold XX0_start_p88
        rw [acp_pos (by omega), hm_eq]
        refine En_some ⟨rfl, fun a i hh => ?_, fun part hp c hc => ?_, fun part hp => ⟨?_, ?_⟩⟩
        · rw [cpy_ne (by omega), f3 a i (by omega), c2 a (by omega)]
        · rw [cpy_ne (by omega)]; exact t3 part hp c hc
        · show cpy h3 38 0 39 0 4 39 part = cpy h3 38 0 39 0 4 38 part
          rw [cpy_is (by omega), cpy_ne (by omega), Nat.zero_add, Nat.sub_zero]
        · rw [cpy_ne (by omega)]; exact j3 part hp
      by_cases q64 : 64 ≤ N
      · rw [if_pos q64]
        refine fin h2 (fun _ _ _ => rfl) (fun part hp c hc => ?_) (fun part hp => ?_)
        · rw [c3 part hp]
          by_cases qp : (part : Int) < parts
          · rw [if_pos qp, tb_m1, decide_eq_true hc]; exact (decide_eq_true (by omega)).symm
          · rw [if_neg qp, tb_0]; exact (decide_eq_false (by omega)).symm
        · rw [c3 part hp]; split
          · exact inJ_m1
          · exact inJ_0
      · rw [if_neg q64, inb_pos (by omega), hm_eq]
        have hp1 : parts = 1 := by omega
        refine fin _ (fun a i ha => wq_ne (by omega)) (fun part hp c hc => ?_) (fun part hp => ?_)
        · by_cases qp : part = 0
          · subst qp
            rw [show wr h2 38 (0 : Int).toNat (jsub (jshl 1 N) 1) 38 0 = jsub (jshl 1 N) 1 from wr_at, tb_low (by omega) (by omega) hc]
            exact decide_eq_decide.mpr ⟨fun t => by omega, fun t => by omega⟩
          · rw [wr_o (show part ≠ (0 : Int).toNat from qp), c3 part hp, if_neg (by omega), tb_0]
            exact (decide_eq_false (by omega)).symm
        · by_cases qp : part = 0
          · subst qp
            rw [show wr h2 38 (0 : Int).toNat (jsub (jshl 1 N) 1) 38 0 = jsub (jshl 1 N) 1 from wr_at]; exact jsub_in _ _
          · rw [wr_o (show part ≠ (0 : Int).toNat from qp), c3 part hp]; split
            · exact inJ_m1
            · exact inJ_0
    · rw [if_neg q]
      have st : ∀ v : Int, (v = if l2 < parts then -1 else 0) → En (XX0_start_p58 self l2 l2 v h2) (fun r g => r = 0 ∧ (∀ a i, ¬ (38 ≤ a ∧ a ≤ 39) → g a i = h1 a i) ∧ (∀ part, part < 4 → ∀ c, c < 64 → tb (g 38 part) c = decide (((64 * part + c : Nat) : Int) < N)) ∧ (∀ part, part < 4 → g 39 part = g 38 part ∧ inJ (g 38 part))) := by
        intro v hv
        unfold XX0_start_p58
        rw [inb_pos (by omega), hm_eq, chk_pos (by omega)]
        refine ih _ _ (by omega) ⟨by omega, by omega, Eqx_wr c2 _ _, fun part hp => ?_⟩
        by_cases qp : part = l2.toNat
        · rw [qp, wr_at, hv, show ((l2.toNat : Nat) : Int) = l2 by omega]
        · rw [wr_o qp]; exact c3 part (by omega)
      by_cases q2 : parts ≤ l2
      · rw [if_pos q2]; exact st 0 (by rw [if_neg (by omega)])
      · rw [if_neg q2]; exact st (-1) (by rw [if_pos (by omega)])
  unfold XX0_start
  rw [hm_eq, hash, wr_at]
  have sp : ∀ pt : Int, (pt = if N ≤ 64 then 1 else N / 64) → (N ≤ 64 ∧ pt = 1 ∨ N = 64 * pt) → ∃ g, XX0_start_p28 pt (wr h 37 0 N) = some (0, g) ∧ (∀ a i, ¬ ((38 ≤ a ∧ a ≤ 39) ∨ (a = 37 ∧ i ≤ 1)) → g a i = h a i) ∧ g 37 0 = N ∧ g 37 1 = (if N ≤ 64 then 1 else N / 64) ∧ (∀ part, part < 4 → ∀ c, c < 64 → tb (g 38 part) c = decide (((64 * part + c : Nat) : Int) < N)) ∧ (∀ part, part < 4 → g 39 part = g 38 part ∧ inJ (g 38 part)) := by
    intro pt hpt hpp
    unfold XX0_start_p28
    rw [hm_eq]
    obtain ⟨r, g, e, rfl, g1, g2, g3⟩ := loop pt (wr (wr h 37 0 N) 37 1 pt) (by rw [wq_ne (by omega), wr_at]) wr_at hpp
    exact ⟨g, e, fun a i hh => by rw [g1 a i (by omega), wq_ne (by omega), wq_ne (by omega)], by rw [g1 37 0 (by omega), wq_ne (by omega), wr_at], by rw [g1 37 1 (by omega), wr_at, hpt], g2, g3⟩
  by_cases q : N ≤ 64
  · rw [if_pos q]; exact sp 1 (by rw [if_pos q]) (Or.inl ⟨q, rfl⟩)
  · have e : N.tdiv 64 = N / 64 := Int.tdiv_eq_ediv_of_nonneg (by omega)
    rw [if_neg q, e, chk_pos (by omega)]
    exact sp _ (by rw [if_neg q]) (Or.inr (by omega))
theorem pstart_ok (p : Nat) (x y z : Int) (h : Hp) : ∃ g, XX6_start p x y z h = some (0, g) ∧ (∀ a i, ¬ ((a = p ∧ i = 6) ∨ (a = p + 1 ∧ i ≤ 3) ∨ a = p + 4 ∨ a = p + 5) → g a i = h a i) ∧ g p 6 = 0 ∧ g (p + 1) 0 = x ∧ g (p + 1) 1 = y ∧ g (p + 1) 2 = z ∧ g (p + 1) 3 = 0 ∧ (∀ k, k < 6 → g (p + 4) k = 0) ∧ (∀ w, w < 48 → g (p + 5) w = 0) := by
  refine ⟨_, by unfold XX6_start XX8_start; rw [hm_eq, hm_eq, hm_eq, hm_eq, fill_ok _ _ _ _ (by omega), cal_eq, fill_ok _ _ _ _ (by omega), cal_eq, cal_eq, zb_0, hm_eq], fun a i hh => ?_, wr_at, ?_, ?_, ?_, ?_, fun k hk => ?_, fun w hw => ?_⟩
  · rw [wq_ne (by omega), if_neg (by omega), if_neg (by omega), wq_ne (by omega), wq_ne (by omega), wq_ne (by omega), wq_ne (by omega)]
  · rw [wq_ne (by omega), if_neg (by omega), if_neg (by omega), wq_ne (by omega), wq_ne (by omega), wq_ne (by omega), wr_at]
  · rw [wq_ne (by omega), if_neg (by omega), if_neg (by omega), wq_ne (by omega), wq_ne (by omega), wr_at]
  · rw [wq_ne (by omega), if_neg (by omega), if_neg (by omega), wq_ne (by omega), wr_at]
  · rw [wq_ne (by omega), if_neg (by omega), if_neg (by omega), wr_at]
  · rw [wq_ne (by omega), if_neg (by omega), if_pos (by omega)]
  · rw [wq_ne (by omega), if_pos (by omega)]
