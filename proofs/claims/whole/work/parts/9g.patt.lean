/-- the pattern of a case -/
noncomputable def bT (h : Hp) (tw : Nat → Int) (c j : Nat) : Bool := tb (fOl h noF ((c / 64 : Nat) : Int) (tw j).toNat) (c % 64)
noncomputable def pT (h : Hp) (tw : Nat → Int) (c : Nat) : Nat → Nat
  | 0 => 0
  | j + 1 => pT h tw c j + if bT h tw c j = true then 2 ^ j else 0
theorem pT_lt (h : Hp) (tw : Nat → Int) (c : Nat) : ∀ m, pT h tw c m < 2 ^ m := by
  intro m
  induction m with
  | zero => exact Nat.one_pos
  | succ m ih =>
    show pT h tw c m + _ < _
    rw [Nat.pow_succ]
    split <;> omega
theorem add_bit {x j : Nat} (h : x < 2 ^ j) (i : Nat) : (x + 2 ^ j).testBit i = (x.testBit i || decide (i = j)) := by
  rcases Nat.lt_trichotomy i j with t | t | t
  · rw [Nat.add_comm, Nat.testBit_two_pow_add_gt t]; simp [show ¬ i = j by omega]
  · subst t
    rw [Nat.add_comm, Nat.testBit_two_pow_add_eq, bit_lt h (Nat.le_refl _)]; simp
  · have h1 : x + 2 ^ j < 2 ^ (j + 1) := by rw [Nat.pow_succ]; omega
    rw [bit_lt h1 (by omega), bit_lt h (by omega)]; simp [show ¬ i = j by omega]
theorem pT_bit (h : Hp) (tw : Nat → Int) (c : Nat) : ∀ m j, (pT h tw c m).testBit j = (decide (j < m) && bT h tw c j) := by
  intro m
  induction m with
  | zero => intro j; show Nat.testBit 0 j = _; rw [Nat.zero_testBit]; simp
  | succ m ih =>
    intro j
    show (pT h tw c m + if bT h tw c m = true then 2 ^ m else 0).testBit j = _
    by_cases q : bT h tw c m = true
    · rw [if_pos q, add_bit (pT_lt h tw c m), ih]
      by_cases t : j = m
      · subst t; simp [q]
      · by_cases t2 : j < m
        · simp [t, t2, show j < m + 1 by omega]
        · simp [t, t2, show ¬ j < m + 1 by omega]
    · rw [if_neg q, Nat.add_zero, ih]
      by_cases t : j = m
      · subst t; simp [Bool.eq_false_iff.mpr q]
      · by_cases t2 : j < m
        · simp [t2, show j < m + 1 by omega]
        · simp [t2, show ¬ j < m + 1 by omega]
theorem pT_congr {h h1 : Hp} {tw tw1 : Nat → Int} {m : Nat} (e : ∀ a i, (18 ≤ a ∧ a ≤ 20) → h1 a i = h a i) (et : ∀ j, j < m → tw1 j = tw j) (c : Nat) : pT h1 tw1 c m = pT h tw c m := by
  induction m with
  | zero => rfl
  | succ m ih =>
    show pT h1 tw1 c m + _ = pT h tw c m + _
    rw [ih (fun j hj => et j (by omega))]
    unfold bT
    rw [et m (by omega), fOl_congr (funext (fun i => e 18 i (by omega))) (funext (fun i => e 19 i (by omega))) (funext (fun i => e 20 i (by omega)))]
theorem pT_is {h : Hp} {tw : Nat → Int} {c m p : Nat} (hp : p < 2 ^ m) : pT h tw c m = p ↔ ∀ j, j < m → bT h tw c j = p.testBit j := by
  constructor
  · rintro rfl j hj; rw [pT_bit, decide_eq_true hj, Bool.true_and]
  · intro e
    apply Nat.eq_of_testBit_eq
    intro j
    rw [pT_bit]
    by_cases q : j < m
    · rw [decide_eq_true q, Bool.true_and, e j q]
    · rw [decide_eq_false q, Bool.false_and, bit_lt hp (by omega)]
theorem aor_step : ∀ l : Nat, l < 3 → ∀ x : Nat, x < 2 ^ l → aor (x : Int) (ashl 1 l) = ((x + 2 ^ l : Nat) : Int) ∧ aor (x : Int) (ashl 0 l) = (x : Int) ∧ aor (x : Int) 0 = (x : Int) := by decide +kernel
theorem al2i01 (b : Bool) : al2i (if b = true then 1 else 0) = if b = true then 1 else 0 := by cases b <;> rfl
/-- the told wires -/
def Tld (h : Hp) (m : Nat) : Prop := m ≤ 3 ∧ h 45 5 = (m : Int) ∧ ∀ j, j < m → 0 ≤ h 47 j ∧ h 47 j < wn 18 h
theorem patternOf_eq {h : Hp} (hT : Two h) {m : Nat} (hm : Tld h m) {c : Nat} (hc : c < 256) : XX1_patternOf c h = some (((pT h (h 47) c m : Nat) : Int), h) := by
  obtain ⟨m3, m5, mw⟩ := hm
  have lt := Pl_lt (by decide) hT.1.1
  have : En (XX1_patternOf c h) (fun r g => r = ((pT h (h 47) c m : Nat) : Int) ∧ g = h) := by
    unfold XX1_patternOf XX1_patternOf_L4
    refine En_lup3 (fun _ _ l3 _ => (4 - l3).toNat) (fun l1 l2 l3 g => (c : Int) = l1 ∧ h = g ∧ 0 ≤ l3 ∧ l3 ≤ m ∧ l2 = ((pT h (h 47) c l3.toNat : Nat) : Int)) ?_ FU _ _ _ _ (by unfold FU; omega) ⟨rfl, rfl, by omega, by omega, rfl⟩
    rintro self l1 l2 l3 g ih ⟨rfl, rfl, c0, c1, c2⟩
    obtain ⟨l, rfl⟩ := Int.eq_ofNat_of_zero_le c0
    rw [Int.toNat_natCast] at c2
    unfold XX1_patternOf_b4
    rw [m5]
    by_cases q : (m : Int) ≤ l
    · rw [if_pos q]
      refine En_some ⟨?_, rfl⟩
      rw [c2, show l = m by omega]
    · have hw := mw l (by omega)
      obtain ⟨w, hw1⟩ := Int.eq_ofNat_of_zero_le hw.1
      have ed : (c : Int).tdiv 64 = ((c / 64 : Nat) : Int) := rfl
      have hc2 : (c : Int) - ((c / 64 : Nat) : Int) * 64 = ((c % 64 : Nat) : Int) := by omega
      rw [if_neg q, inb_pos (by omega), Int.toNat_natCast, hw1, ed, chk_pos (by omega), chk_pos (by omega), chk_pos (by omega), inb_pos (by omega), nm_eq, hc2, chk_pos (by omega), nm_eq, chk_pos (by omega), show (4 * (w : Int) + ((c / 64 : Nat) : Int)).toNat = 4 * w + c / 64 by omega, Two_old hT (w := w) (part := c / 64) (by omega) (by omega), jbit _ (by omega) (by omega), Int.toNat_natCast, al2i01, c2]
      refine ih _ _ _ _ (by omega) ⟨rfl, rfl, by omega, by omega, ?_⟩
      rw [show ((l : Int) + 1).toNat = l + 1 by omega]
      have hb : bT h (h 47) c l = tb (fOl h noF ((c / 64 : Nat) : Int) w) (c % 64) := by unfold bT; rw [hw1, Int.toNat_natCast]
      have as := aor_step l (by omega) (pT h (h 47) c l) (pT_lt _ _ _ _)
      show _ = ((pT h (h 47) c l + if bT h (h 47) c l = true then 2 ^ l else 0 : Nat) : Int)
      rw [hb]
      by_cases qb : tb (fOl h noF ((c / 64 : Nat) : Int) w) (c % 64) = true
      · rw [if_pos qb, if_pos qb]; exact as.1
      · rw [if_neg qb, if_neg qb]; exact as.2.1
  obtain ⟨r, g, e, rfl, rfl⟩ := this
  exact e
/-- told wires as they must be -/
abbrev TLp (n u v w : Int) : Prop := ((u = -1 ∨ (0 ≤ u ∧ u < n)) ∧ (v = -1 ∨ (0 ≤ v ∧ v < n)) ∧ (w = -1 ∨ (0 ≤ w ∧ w < n))) ∧ (v = -1 ∨ (u ≠ -1 ∧ u < v)) ∧ (w = -1 ∨ (v ≠ -1 ∧ v < w))
def tlM (u v w : Int) : Nat := if u = -1 then 0 else if v = -1 then 1 else if w = -1 then 2 else 3
theorem tell_ok {h : Hp} (hN : Nums 40 18 h) (u v w : Int) : (TLp (wn 18 h) u v w ∧ ∃ g, XX1_tell u v w h = some (1, g) ∧ g 45 5 = (tlM u v w : Int) ∧ (∀ k, k < 3 → g 47 k = p3 u v w k) ∧ ∀ a i, ¬ (a = 47 ∨ (a = 45 ∧ i = 5)) → g a i = h a i) ∨ (¬ TLp (wn 18 h) u v w ∧ XX1_tell u v w h = some (0, h)) := by
  have isW : ∀ x, XX8_isWire 18 x h = some (if 0 ≤ x ∧ x < wn 18 h then 1 else 0, h) := fun x => isWire_eq (by decide) hN x
  have p85 : ∃ g, XX1_tell_p85 u v w h = some (1, g) ∧ g 45 5 = (tlM u v w : Int) ∧ (∀ k, k < 3 → g 47 k = p3 u v w k) ∧ ∀ a i, ¬ (a = 47 ∨ (a = 45 ∧ i = 5)) → g a i = h a i := by
    have p135 : ∀ s : Int, ∃ g, XX1_tell_p135 s (wr (wr (wr h 47 (0 : Int).toNat u) 47 (1 : Int).toNat v) 47 (2 : Int).toNat w) = some (1, g) ∧ g 45 5 = s ∧ (∀ k, k < 3 → g 47 k = p3 u v w k) ∧ ∀ a i, ¬ (a = 47 ∨ (a = 45 ∧ i = 5)) → g a i = h a i := by
      intro s
      refine ⟨_, by unfold XX1_tell_p135; rw [hm_eq, zb_1], wr_at, fun k hk => ?_, fun a i hh => by rw [wq_ne (by omega), wq_ne (by omega), wq_ne (by omega), wq_ne (by omega)]⟩
      rw [wq_ne (by omega), show (0 : Int).toNat = 0 from rfl, show (1 : Int).toNat = 1 from rfl, show (2 : Int).toNat = 2 from rfl, wr_row, wr_row, wr_row]
      unfold p3
      rcases (by omega : k = 0 ∨ k = 1 ∨ k = 2) with rfl | rfl | rfl <;> simp
    unfold XX1_tell_p85 tlM
    rw [inb_pos (by decide), hm_eq, inb_pos (by decide), hm_eq, inb_pos (by decide), hm_eq]
    by_cases q1 : u = -1
    · rw [if_pos q1, if_pos q1]; exact p135 0
    rw [if_neg q1, if_neg q1]
    by_cases q2 : v = -1
    · rw [if_pos q2, if_pos q2]; exact p135 1
    rw [if_neg q2, if_neg q2]
    by_cases q3 : w = -1
    · rw [if_pos q3, if_pos q3]; exact p135 2
    rw [if_neg q3, if_neg q3]; exact p135 3
  by_cases hT : TLp (wn 18 h) u v w
  · refine Or.inl ⟨hT, ?_⟩
    obtain ⟨⟨a1, a2, a3⟩, a4, a5⟩ := hT
    have e68 : XX1_tell_p68 u v w h = XX1_tell_p85 u v w h := by
      unfold XX1_tell_p68
      by_cases q : w = -1
      · rw [if_pos q]
      · rw [if_neg q, if_neg (by omega), if_pos (by omega)]
    have e53 : XX1_tell_p53 u v w h = XX1_tell_p85 u v w h := by
      unfold XX1_tell_p53
      by_cases q : v = -1
      · rw [if_pos q, e68]
      · rw [if_neg q, if_neg (by omega), if_neg (by omega), e68]
    have e37 : XX1_tell_p37 u v w h = XX1_tell_p85 u v w h := by
      unfold XX1_tell_p37
      by_cases q : w = -1
      · rw [if_pos q, e53]
      · rw [if_neg q, isW, cal_eq, if1 (by omega), if_neg n10, e53]
    have e23 : XX1_tell_p23 u v w h = XX1_tell_p85 u v w h := by
      unfold XX1_tell_p23
      by_cases q : v = -1
      · rw [if_pos q, e37]
      · rw [if_neg q, isW, cal_eq, if1 (by omega), if_neg n10, e37]
    have e0 : XX1_tell u v w h = XX1_tell_p85 u v w h := by
      unfold XX1_tell
      by_cases q : u = -1
      · rw [if_pos q, e23]
      · rw [if_neg q, isW, cal_eq, if1 (by omega), if_neg n10, e23]
    rw [e0]; exact p85
  · refine Or.inr ⟨hT, ?_⟩
    unfold TLp at hT
    by_cases b1 : u = -1 ∨ (0 ≤ u ∧ u < wn 18 h)
    · have s1 : XX1_tell u v w h = XX1_tell_p23 u v w h := by
        unfold XX1_tell
        by_cases q : u = -1
        · rw [if_pos q]
        · rw [if_neg q, isW, cal_eq, if1 (by omega), if_neg n10]
      rw [s1]
      by_cases b2 : v = -1 ∨ (0 ≤ v ∧ v < wn 18 h)
      · have s2 : XX1_tell_p23 u v w h = XX1_tell_p37 u v w h := by
          unfold XX1_tell_p23
          by_cases q : v = -1
          · rw [if_pos q]
          · rw [if_neg q, isW, cal_eq, if1 (by omega), if_neg n10]
        rw [s2]
        by_cases b3 : w = -1 ∨ (0 ≤ w ∧ w < wn 18 h)
        · have s3 : XX1_tell_p37 u v w h = XX1_tell_p53 u v w h := by
            unfold XX1_tell_p37
            by_cases q : w = -1
            · rw [if_pos q]
            · rw [if_neg q, isW, cal_eq, if1 (by omega), if_neg n10]
          rw [s3]
          unfold XX1_tell_p53
          have hT' : ¬ ((v = -1 ∨ (u ≠ -1 ∧ u < v)) ∧ (w = -1 ∨ (v ≠ -1 ∧ v < w))) := fun t => hT ⟨⟨b1, b2, b3⟩, t⟩
          have h68 : (v = -1 ∨ (u ≠ -1 ∧ u < v)) → XX1_tell_p68 u v w h = some (0, h) := by
            intro t
            unfold XX1_tell_p68
            rw [if_neg (by omega)]
            by_cases q : v = -1
            · rw [if_pos q, zb_0]
            · rw [if_neg q, if_neg (by omega), zb_0]
          by_cases q : v = -1
          · rw [if_pos q]; exact h68 (Or.inl q)
          · rw [if_neg q]
            by_cases q2 : u = -1
            · rw [if_pos q2, zb_0]
            · rw [if_neg q2]
              by_cases q3 : v ≤ u
              · rw [if_pos q3, zb_0]
              · rw [if_neg q3]; exact h68 (Or.inr ⟨q2, by omega⟩)
        · unfold XX1_tell_p37
          rw [if_neg (by omega), isW, cal_eq, if0 (by omega), if_pos rfl, zb_0]
      · unfold XX1_tell_p23
        rw [if_neg (by omega), isW, cal_eq, if0 (by omega), if_pos rfl, zb_0]
    · unfold XX1_tell
      rw [if_neg (by omega), isW, cal_eq, if0 (by omega), if_pos rfl, zb_0]
theorem tlM_le (u v w : Int) : tlM u v w ≤ 3 := by unfold tlM; repeat' split
                                                   all_goals omega
theorem TLp_in {n u v w : Int} (h : TLp n u v w) : ∀ j, j < tlM u v w → 0 ≤ p3 u v w j ∧ p3 u v w j < n := by
  intro j hj
  obtain ⟨⟨a1, a2, a3⟩, a4, a5⟩ := h
  unfold tlM at hj
  unfold p3
  split at hj
  · omega
  · split at hj
    · rw [if_pos (by omega)]; omega
    · split at hj
      · rcases (by omega : j = 0 ∨ j = 1) with rfl | rfl
        · rw [if_pos rfl]; omega
        · rw [if_neg (by omega), if_pos rfl]; omega
      · rcases (by omega : j = 0 ∨ j = 1 ∨ j = 2) with rfl | rfl | rfl
        · rw [if_pos rfl]; omega
        · rw [if_neg (by omega), if_pos rfl]; omega
        · rw [if_neg (by omega), if_neg (by omega)]; omega
/-- a told wire hangs on one of n points -/
def Hgs (h : Hp) (m n : Nat) (tw pt : Nat → Int) : Prop := ∃ j k, j < m ∧ k < n ∧ tb (h 24 (tw j).toNat) (pt k).toNat = true
theorem toldHangOn_ok {h : Hp} (hT : Two h) (hA : Aim h) {m : Nat} (hm : Tld h m) : En (XX1_toldHangOn (h 40 5) h) (fun r g => g = h ∧ ((r = 1 ∧ Hgs h m (h 40 4).toNat (h 47) (h 41)) ∨ (r = 0 ∧ ¬ Hgs h m (h 40 4).toNat (h 47) (h 41)))) := by
  obtain ⟨m3, m5, mw⟩ := hm
  have lt := Pl_lt (by decide) hT.1.1
  unfold XX1_toldHangOn XX1_toldHangOn_L2
  refine En_lup2 (fun _ l3 _ => (4 - l3).toNat) (fun l1 l3 g => h 40 5 = l1 ∧ h = g ∧ 0 ≤ l3 ∧ l3 ≤ m ∧ ∀ j k : Nat, (j : Int) < l3 → k < (h 40 4).toNat → tb (h 24 (h 47 j).toNat) (h 41 k).toNat = false) ?_ FU _ _ _ (by unfold FU; omega) ⟨rfl, rfl, by omega, by omega, fun j k hj => by omega⟩
  rintro self l1 l3 g ih ⟨rfl, rfl, c0, c1, c2⟩
  obtain ⟨l, rfl⟩ := Int.eq_ofNat_of_zero_le c0
  unfold XX1_toldHangOn_b2
  rw [m5]
  by_cases q : (m : Int) ≤ l
  · rw [if_pos q, zb_0]
    refine En_some ⟨rfl, Or.inr ⟨rfl, ?_⟩⟩
    rintro ⟨j, k, hj, hk, t⟩
    rw [c2 j k (by omega) hk] at t; cases t
  · have hw := mw l (by omega)
    rw [if_neg q, inb_pos (by omega), Int.toNat_natCast, inb_pos (by omega)]
    by_cases qz : jcmp (jand (h 24 (h 47 l).toNat) (h 40 5)) 0 = 0
    · rw [if_pos qz, chk_pos (by omega)]
      have hz := (tb_zero (jand_in _ _)).1 (jcmp0.1 qz)
      refine ih _ _ _ (by omega) ⟨rfl, rfl, by omega, by omega, fun j k hj hk => ?_⟩
      by_cases qj : j = l
      · subst qj
        have hp := hA.2.2.1 k (by omega)
        have hm := (hA.2.2.2 (h 41 k).toNat).2 ⟨k, by omega, by omega⟩
        have := hz (h 41 k).toNat (by omega)
        rw [tb_jand, hm, Bool.and_true] at this
        exact this
      · exact c2 j k (by omega) hk
    · rw [if_neg qz, zb_1]
      refine En_some ⟨rfl, Or.inl ⟨rfl, ?_⟩⟩
      have hex : ∃ c, c < 64 ∧ tb (jand (h 24 (h 47 l).toNat) (h 40 5)) c = true := Classical.byContradiction (fun hno => qz (jcmp0.2 ((tb_zero (jand_in _ _)).2 (fun c hc => Bool.eq_false_iff.mpr (fun ht => hno ⟨c, hc, ht⟩)))))
      obtain ⟨c, hc, t⟩ := hex
      rw [tb_jand, Bool.and_eq_true] at t
      obtain ⟨k, hk, he⟩ := (hA.2.2.2 c).1 t.2
      exact ⟨l, k, by omega, by omega, by rw [he, Int.toNat_natCast]; exact t.1⟩
/-- what learning changes -/
def KpL (h g : Hp) : Prop := ∀ a i, ¬ ((42 ≤ a ∧ a ≤ 43) ∨ a = 203 ∨ (a = 40 ∧ 8 ≤ i ∧ i ≤ 9) ∨ (a = 45 ∧ i = 3) ∨ a = 46 ∨ a = 48) → g a i = h a i
theorem learn_ok {h : Hp} (hT : Two h) (hA : Aim h) (hC : Cas h) (h2 : h 40 4 ≤ 2) : En (XX1_learn h) (fun _ g => KpL h g ∧ g 45 3 = h 40 4 ∧ (∀ k : Nat, (k : Int) < h 40 4 → g 46 k = h 41 k) ∧ ∀ q part : Nat, (q : Int) < 2 ^ (h 40 4).toNat → (part : Int) < h 37 1 → g 48 (4 * q + part) = mdQ h q part) := by
  obtain ⟨n0, n1, n2, n3, n4⟩ := Cas_num hC hT.1.1
  obtain ⟨z0, z1, z2⟩ := asg hA
  have z4 : (2 : Int) ^ (h 40 4).toNat ≤ 4 := by
    have := hA.1
    have : (h 40 4).toNat = 1 ∨ (h 40 4).toNat = 2 := by omega
    rcases this with e | e <;> rw [e] <;> decide
  unfold XX1_learn
  rw [show imin (h 40 4) 2 = h 40 4 by unfold imin; split <;> omega, hm_eq]
  have k0 : KpL h (wr h 45 3 (h 40 4)) := fun a i hh => wq_ne (by omega)
  have e0 : wr h 45 3 (h 40 4) 45 3 = h 40 4 := wr_at
  generalize wr h 45 3 (h 40 4) = g0 at *
  unfold XX1_learn_L14
  refine En_lup1 (fun l _ => (3 - l).toNat) (fun l g => 0 ≤ l ∧ l ≤ h 40 4 ∧ KpL h g ∧ g 45 3 = h 40 4 ∧ ∀ k : Nat, (k : Int) < l → g 46 k = h 41 k) ?_ FU _ _ (by unfold FU; omega) ⟨by omega, by have := hA.1; omega, k0, e0, fun k hk => by omega⟩
  clear k0 e0 g0
  rintro self l g ih ⟨c0, c1, c2, c3, c4⟩
  unfold XX1_learn_b14
  rw [c3]
  by_cases q : h 40 4 ≤ l
  · rw [if_pos q]
    have c4 : ∀ k : Nat, (k : Int) < h 40 4 → g 46 k = h 41 k := fun k hk => c4 k (by omega)
    unfold XX1_learn_L42
    refine En_lup1 (fun l _ => (5 - l).toNat) (fun l g => 0 ≤ l ∧ l ≤ h 37 1 ∧ KpL h g ∧ g 45 3 = h 40 4 ∧ (∀ k : Nat, (k : Int) < h 40 4 → g 46 k = h 41 k) ∧ ∀ q part : Nat, (q : Int) < 2 ^ (h 40 4).toNat → (part : Int) < l → g 48 (4 * q + part) = mdQ h q part) ?_ FU _ _ (by unfold FU; omega) ⟨by omega, by omega, c2, c3, c4, fun q part _ hp => by omega⟩
    rintro self42 l g ih42 ⟨c0, c1, c2, c3, c4, c5⟩
    unfold XX1_learn_b42
    rw [c2 37 1 (by omega)]
    by_cases q : h 37 1 ≤ l
    · rw [if_pos q]
      exact En_some ⟨c2, c3, c4, fun q part hq hp => c5 q part hq (by omega)⟩
    rw [if_neg q]
    obtain ⟨part, rfl⟩ := Int.eq_ofNat_of_zero_le c0
    have Tg : ∀ g, KpL h g → Two g := fun g k => Two_congr (fun a i ha => k a i (by omega)) hT
    have Ag : ∀ g, KpL h g → Aim g := fun g k => by
      unfold Aim
      rw [k 40 4 (by omega), k 40 5 (by omega), show g 41 = h 41 from funext (fun i => k 41 i (by omega)), sc_congr (show g 18 = h 18 from funext (fun i => k 18 i (by omega))), wn_congr (show g 18 = h 18 from funext (fun i => k 18 i (by omega)))]
      exact hA
    have Mg : ∀ g, KpL h g → ∀ q part, mdQ g q part = mdQ h q part := fun g k q part => by
      unfold mdQ
      rw [k 40 4 (by omega), show g 41 = h 41 from funext (fun i => k 41 i (by omega))]
      exact mdW_congr (fun a i ha => k a i (by omega)) _ _
    refine En_cal (load_ok (Tg g c2) (part := part) (by omega)) (fun r2 g2 e2 hL => ?_)
    have kl := load_Kp e2
    unfold XX1_learn_L60
    refine En_lup2 (fun _ l3 _ => (5 - l3).toNat) (fun l2 l3 g => (part : Int) = l2 ∧ 0 ≤ l3 ∧ l3 ≤ 2 ^ (h 40 4).toNat ∧ KpL h g ∧ Loaded part g ∧ g 45 3 = h 40 4 ∧ (∀ k : Nat, (k : Int) < h 40 4 → g 46 k = h 41 k) ∧ (∀ q p : Nat, (q : Int) < 2 ^ (h 40 4).toNat → p < part → g 48 (4 * q + p) = mdQ h q p) ∧ ∀ q : Nat, (q : Int) < l3 → g 48 (4 * q + part) = mdQ h q part) ?_ FU _ _ _ (by unfold FU; omega) ⟨rfl, by omega, by omega, fun a i hh => by rw [kl a i (by omega)]; exact c2 a i hh, hL, by rw [kl 45 3 (by omega)]; exact c3, fun k hk => by rw [kl 46 k (by omega)]; exact c4 k hk, fun q p hq hp => by rw [kl 48 _ (by omega)]; exact c5 q p hq (by omega), fun q hq => by omega⟩
    clear c2 c3 c4 c5 hL kl e2 g2 g
    rintro self60 l2 l3 g ih60 ⟨rfl, d0, d1, d2, d3, d4, d5, d6, d7⟩
    unfold XX1_learn_b60
    rw [d4, z0]
    by_cases q3 : (2 : Int) ^ (h 40 4).toNat ≤ l3
    · rw [if_pos q3, chk_pos (by omega)]
      refine ih42 _ _ (by omega) ⟨by omega, by omega, d2, d4, d5, fun q' p hq hp => ?_⟩
      by_cases qp : p = part
      · subst qp; exact d7 q' (by omega)
      · exact d6 q' p hq (by omega)
    · obtain ⟨q, rfl⟩ := Int.eq_ofNat_of_zero_le d0
      rw [if_neg q3, chk_pos (by omega), chk_pos (by omega)]
      refine En_cal (mended_ok (Tg g d2) (Ag g d2) (by omega) d3 (q := q)) (fun r g4 e4 hr => ?_)
      obtain ⟨hr, hL4⟩ := hr
      have km := mended_Kp e4
      have hr2 : r = mdQ h q part := by rw [hr, ← Mg g d2]; rfl
      rw [inb_pos (by omega), hm_eq, chk_pos (by omega), show (4 * (q : Int) + (part : Int)).toNat = 4 * q + part by omega]
      refine ih60 _ _ _ (by omega) ⟨rfl, by omega, by omega, fun a i hh => by rw [wr_ne (by omega), km a i (by omega)]; exact d2 a i hh, ?_, by rw [wq_ne (by omega), km 45 3 (by omega)]; exact d4, fun k hk => by rw [wq_ne (by omega), km 46 k (by omega)]; exact d5 k hk, fun q' p hq hp => by rw [wr_o (by omega), km 48 _ (by omega)]; exact d6 q' p hq hp, fun q' hq => ?_⟩
      · unfold Loaded at hL4 ⊢
        have ec : Cone (wr g4 48 (4 * q + part) r) = Cone g4 := Cone_congr (wr_ne (by omega)) (wr_ne (by omega)) (wq_ne (by omega))
        rw [ec, wr_ne (show 40 ≠ 48 by omega), wr_ne (show 19 ≠ 48 by omega), wr_ne (show 20 ≠ 48 by omega), wr_ne (show 43 ≠ 48 by omega), wr_ne (show 42 ≠ 48 by omega), wr_ne (show 25 ≠ 48 by omega), wr_ne (show 28 ≠ 48 by omega), wr_ne (show 203 ≠ 48 by omega), wr_ne (show 35 ≠ 48 by omega), wr_ne (show 31 ≠ 48 by omega), wn_congr (show wr g4 48 (4 * q + part) r 18 = g4 18 from wr_ne (by omega))]
        exact hL4
      · rw [wr_row]
        by_cases qq : q' = q
        · rw [if_pos (by omega), hr2, qq]
        · rw [if_neg (by omega), km 48 _ (by omega)]; exact d7 q' (by omega)
  · rw [if_neg q, inb_pos (by omega), inb_pos (by omega), hm_eq, chk_pos (by omega)]
    refine ih _ _ (by omega) ⟨by omega, by omega, fun a i hh => by rw [wr_ne (by omega)]; exact c2 a i hh, by rw [wq_ne (by omega)]; exact c3, fun k hk => ?_⟩
    rw [wr_row]
    by_cases qk : k = l.toNat
    · rw [if_pos qk, c2 41 _ (by omega), qk]
    · rw [if_neg qk]; exact c4 k (by omega)
