theorem set_bit {S : Nat} (hS : S < 4096) {s : Nat} (hs : s < 12) : (aand (ashr (S : Int) s) 1 = 0 ↔ S.testBit s = false) ∧ aor (S : Int) (ashl 1 s) = ((S ||| 2 ^ s : Nat) : Int) := by
  have hl : (2 : Nat) ^ s ≤ 2048 := Nat.le_trans (Nat.pow_le_pow_right (by decide) (show s ≤ 11 by omega)) (by decide)
  have h12 : S ||| 2 ^ s < 2 ^ 12 := or_lt (N := 12) hS hs
  have h12 : S ||| 2 ^ s < 4096 := h12
  constructor
  · have h1 := ti_bitN (p := S) (by omega) (j := s) (by omega)
    have hv : aand (ashr (S : Int) s) 1 = 0 ∨ aand (ashr (S : Int) s) 1 = 1 := by
      have hz := zero_bits (x := aand (ashr (S : Int) s) 1) (inI_t _)
      by_cases q : aand (ashr (S : Int) s) 1 = 1
      · exact Or.inr q
      · left
        rw [hz]
        intro c hc
        rw [ti_aand, show ti 1 c = (1 : Nat).testBit c from ti_nat (by decide) (by decide) c]
        by_cases c0 : c = 0
        · subst c0
          have : ¬ S.testBit s = true := fun t => q (h1.2 t)
          rw [ti_ashr _ (by omega) (by omega) (by omega), ti_nat (by omega) (by omega)]
          rw [show 0 + ((s : Nat) : Int).toNat = s by omega, show (S : Int).toNat = S by omega, Bool.eq_false_iff.mpr this]; rfl
        · rw [show (1 : Nat) = 2 ^ 0 from rfl, Nat.testBit_two_pow, decide_eq_false (by omega), Bool.and_false]
    constructor
    · intro t
      exact Bool.eq_false_iff.mpr (fun u => by rw [h1.2 u] at t; cases t)
    · intro t
      rcases hv with v | v
      · exact v
      · rw [h1.1 v] at t; cases t
  · rw [ashl1N (by omega)]
    refine ti_ext (inI_t _) (by unfold inI; omega) (fun c hc => ?_)
    rw [ti_aor, ti_nat (x := (S : Int)) (by omega) (by omega), ti_nat (x := ((2 ^ s : Nat) : Int)) (pw8 (by omega)).1 (pw8 (by omega)).2, ti_nat (x := ((S ||| 2 ^ s : Nat) : Int)) (by omega) (by omega), Int.toNat_natCast, Int.toNat_natCast, Int.toNat_natCast, Nat.testBit_or]
/-- the class's bit count -/
def bc1 (x : Int) : Int := x - aand (aushr x 1) 1431655765
def bc2 (x : Int) : Int := aand (bc1 x) 858993459 + aand (aushr (bc1 x) 2) 858993459
def bc3 (x : Int) : Int := aand (bc2 x + aushr (bc2 x) 4) 252645135
def bc4 (x : Int) : Int := bc3 x + aushr (bc3 x) 8
def bc5 (x : Int) : Int := bc4 x + aushr (bc4 x) 16
theorem bc_all : ∀ a, a < 64 → ∀ b, b < 64 → (-2147483648 ≤ bc1 ((64 * a + b : Nat) : Int) ∧ bc1 ((64 * a + b : Nat) : Int) < 2147483648) ∧ (-2147483648 ≤ bc2 ((64 * a + b : Nat) : Int) ∧ bc2 ((64 * a + b : Nat) : Int) < 2147483648) ∧ (-2147483648 ≤ bc2 ((64 * a + b : Nat) : Int) + aushr (bc2 ((64 * a + b : Nat) : Int)) 4 ∧ bc2 ((64 * a + b : Nat) : Int) + aushr (bc2 ((64 * a + b : Nat) : Int)) 4 < 2147483648) ∧ (-2147483648 ≤ bc4 ((64 * a + b : Nat) : Int) ∧ bc4 ((64 * a + b : Nat) : Int) < 2147483648) ∧ (-2147483648 ≤ bc5 ((64 * a + b : Nat) : Int) ∧ bc5 ((64 * a + b : Nat) : Int) < 2147483648) ∧ aand (bc5 ((64 * a + b : Nat) : Int)) 63 = ((pcB (64 * a + b) : Nat) : Int) := by decide +kernel
theorem bits_eq {S : Nat} (hS : S < 4096) (h : Hp) : XJ6_bitCount_0f7a4 S h = some (((pcB S : Nat) : Int), h) := by
  obtain ⟨k1, k2, k3, k4, k5, k6⟩ := bc_all (S / 64) (by omega) (S % 64) (by omega)
  rw [show 64 * (S / 64) + S % 64 = S by omega] at k1 k2 k3 k4 k5 k6
  rw [← k6]
  unfold XJ6_bitCount_0f7a4
  show chk (bc1 S) (chk (bc2 S) (chk (bc2 S + aushr (bc2 S) 4) (chk (bc4 S) (chk (bc5 S) (some (aand (bc5 S) 63, h)))))) = _
  rw [chk_pos k1, chk_pos k2, chk_pos k3, chk_pos k4, chk_pos k5]
theorem bitsM_ok {S : Nat} (hS : S < 4096) (h : Hp) : XX12_bits S h = some (((pcB S : Nat) : Int), h) := by
  have : En (XX12_bits S h) (fun r g => r = ((pcB S : Nat) : Int) ∧ g = h) := by
    unfold XX12_bits XX12_bits_L4
    refine En_lup3 (fun _ _ l2 _ => (20 - l2).toNat) (fun l0 l1 l2 g => (S : Int) = l0 ∧ h = g ∧ 0 ≤ l2 ∧ l2 ≤ 12 ∧ l1 = ((cntB (fun s => S.testBit s) l2.toNat : Nat) : Int)) ?_ FU _ _ _ _ (by unfold FU; omega) ⟨rfl, rfl, by omega, by omega, rfl⟩
    rintro self l0 l1 l2 g ih ⟨rfl, rfl, c0, c1, c2⟩
    obtain ⟨l, rfl⟩ := Int.eq_ofNat_of_zero_le c0
    rw [Int.toNat_natCast] at c2
    unfold XX12_bits_b4
    by_cases q : 12 ≤ (l : Int)
    · rw [if_pos q]
      have : l = 12 := by omega
      subst this
      exact En_some ⟨c2, rfl⟩
    · have hb := (set_bit hS (show l < 12 by omega)).1
      have h1 := ti_bitN (p := S) (by omega) (j := l) (by omega)
      have hc := cntB_le (fun s => S.testBit s) l
      have e : aand (ashr (S : Int) l) 1 = ((if S.testBit l = true then 1 else 0 : Nat) : Int) := by
        by_cases t : S.testBit l = true
        · rw [if_pos t]; exact h1.2 t
        · rw [if_neg t]; exact hb.2 (Bool.eq_false_iff.mpr t)
      have hle : (if S.testBit l = true then 1 else 0 : Nat) ≤ 1 := by split <;> omega
      rw [if_neg q, e, chk_pos (by omega), nm_eq, chk_pos (by omega)]
      refine ih _ _ _ _ (by omega) ⟨rfl, rfl, by omega, by omega, ?_⟩
      rw [show ((l : Int) + 1).toNat = l + 1 by omega, cntB_s, c2]
      omega
  obtain ⟨r, g, e, rfl, rfl⟩ := this
  exact e
/-- lengths, of either side -/
theorem distance_eq {h : Hp} {N M s w : Nat} (p : PlB h N M) (hs : s < N) (hw : w < 48) (x : Hp) : XX9_distance (h 69 s) (h 22 w) x = some (dsB h s w, x) := by
  have hd := PlB_ds p hs hw
  obtain ⟨j2, j9, _, e0, _⟩ := p
  obtain ⟨a1, a2, a3⟩ := j2 w hw
  obtain ⟨_, b1, b2, b3, _⟩ := j9.2.2.2.2 s (by omega)
  have c1 := iabs_b b1 a1
  have c2 := iabs_b b2 a2
  have d1 : (h 69 s).tdiv 32 = h 154 s := by rw [b3, Int.tdiv_eq_ediv_of_nonneg (by omega)]; omega
  have d2 : (h 22 w).tdiv 32 = h 151 w := by rw [a3, Int.tdiv_eq_ediv_of_nonneg (by omega)]; omega
  unfold XX9_distance
  rw [d1, d2, show h 69 s - h 154 s * 32 = h 153 s by omega, show h 22 w - h 151 w * 32 = h 150 w by omega]
  rw [chk_pos (by omega), chk_pos (by omega), chk_pos (by omega), chk_pos (by omega), chk_pos (by omega), chk_pos (by omega), chk_pos (by omega), chk_pos (by omega), chk_pos (by omega)]
  rfl
theorem far_eq {h : Hp} {N M s w : Nat} (p : PlB h N M) (hs : s < N) (hw : w < 48) {x : Hp} (e : ∀ y i, (y = 150 ∨ y = 151 ∨ y = 153 ∨ y = 154) → x y i = h y i) : XX12_far s w x = some (dsB h s w, x) := by
  have hd := PlB_ds p hs hw
  obtain ⟨j2, j9, _, e0, _, n12, _⟩ := p
  obtain ⟨a1, a2, a3⟩ := j2 w hw
  obtain ⟨_, b1, b2, b3, _⟩ := j9.2.2.2.2 s (by omega)
  have c1 := iabs_b b1 a1
  have c2 := iabs_b b2 a2
  have ap : ∀ u v : Int, (0 ≤ u ∧ u < 32) → (0 ≤ v ∧ v < 32) → XX12_apart u v x = some (iabs (u - v), x) := by
    intro u v hu hv
    unfold XX12_apart iabs
    by_cases q : v ≤ u
    · rw [if_pos q, chk_pos (by omega), if_pos (by omega)]
    · rw [if_neg q, chk_pos (by omega), if_neg (by omega)]; congr 2; omega
  unfold XX12_far
  rw [inb_pos (by omega), inb_pos (by omega), Int.toNat_natCast, Int.toNat_natCast, e 153 _ (by omega), e 150 _ (by omega), ap _ _ b1 a1, cal_eq, inb_pos (by omega), inb_pos (by omega), e 154 _ (by omega), e 151 _ (by omega), ap _ _ b2 a2, cal_eq, chk_pos (by omega)]
  rfl
theorem lengthC_eq {h : Hp} {N M i s : Nat} (p : PlB h N M) (hi : i < M) (hs : s < N) {x : Hp} (e : ∀ y i, (y = 22 ∨ y = 56 ∨ y = 57 ∨ y = 58 ∨ (62 ≤ y ∧ y ≤ 64)) → x y i = h y i) : XX9_lengthOf i (h 69 s) 22 x = some (lnB h i s, x) := by
  have hp := PlB_pt p hi
  have hd := PlB_ds p hs (show (h 57 (h 64 i).toNat).toNat < 48 by omega)
  have l1 := PlB_lf p hs (h 62 i)
  have l2 := PlB_lf p hs (h 63 i)
  have lf : ∀ z : Int, XX9_leafLength z (h 69 s) 22 x = some (lfB h s z, x) := by
    intro z
    have t3 : 0 ≤ h 56 5 ∧ h 56 5 ≤ 3 := p.2.2.1.2.2.1.2
    unfold XX9_leafLength lfB
    by_cases q : z < 100
    · rw [if_pos q, if_neg (by omega)]
    · rw [if_neg q, e 56 5 (by omega), chk_pos (by omega)]
      by_cases q2 : z < 100 + h 56 5
      · have tw := PlB_tw p (show 100 ≤ z ∧ z < 100 + h 56 5 by omega)
        rw [if_pos q2, if_pos ⟨by omega, q2⟩, chk_pos (by omega), inb_pos (by omega), e 58 _ (by omega), inb_pos (by omega), e 22 _ (by omega), distance_eq p hs (show (h 58 (z - 100).toNat).toNat < 48 by omega) x, cal_eq]
      · rw [if_neg q2, if_neg (by omega)]
  unfold XX9_lengthOf
  have hm8 := p.2.2.2.2.2.2.1
  rw [inb_pos (by omega), Int.toNat_natCast, e 64 i (by omega), inb_pos (by omega), e 57 _ (by omega), inb_pos (by omega), e 22 _ (by omega), distance_eq p hs (show (h 57 (h 64 i).toNat).toNat < 48 by omega) x, cal_eq, inb_pos (by omega), e 62 i (by omega), lf, cal_eq, chk_pos (by omega), inb_pos (by omega), e 63 i (by omega), lf, cal_eq, chk_pos (by omega)]
  rfl
theorem lengthM_eq {h : Hp} {N M i s : Nat} (p : PlB h N M) (hi : i < M) (hs : s < N) {x : Hp} (e : ∀ y i, (y = 150 ∨ y = 151 ∨ y = 153 ∨ y = 154 ∨ y = 159 ∨ y = 160 ∨ (163 ≤ y ∧ y ≤ 165)) → x y i = h y i) : XX12_lengthOf i s x = some (lnB h i s, x) := by
  have hp := PlB_pt p hi
  have hd := PlB_ds p hs (show (h 57 (h 64 i).toNat).toNat < 48 by omega)
  have l1 := PlB_lf p hs (h 62 i)
  have l2 := PlB_lf p hs (h 63 i)
  have t3 : 0 ≤ h 56 5 ∧ h 56 5 ≤ 3 := p.2.2.1.2.2.1.2
  have fr : ∀ w : Nat, w < 48 → XX12_far s w x = some (dsB h s w, x) := fun w hw => far_eq p hs hw (fun y i hh => e y i (by omega))
  have hm8 := p.2.2.2.2.2.2.1
  have e8 := p.2.2.2.2.1
  obtain ⟨_, p2, _, p4, p5, _, p7, p8, _⟩ := p.2.2.1
  obtain ⟨⟨_, k1, k2⟩, ⟨a1, a2⟩, ⟨b1, b2⟩, ⟨o1, o2, o3⟩, _⟩ := p8 i (by omega)
  have pt := p5 (h 64 i).toNat (by omega)
  have inq : ∀ z : Int, (z = -2 ∨ PartOK h i z) → ((100 ≤ z ∧ z ≤ 102) ↔ (100 ≤ z ∧ z < 100 + h 56 5)) := by
    intro z hz
    rcases hz with rfl | hz
    · omega
    · unfold PartOK at hz; omega
  have q1 := inq (h 62 i) (Or.inr a2)
  have q2 := inq (h 63 i) (by
    split at b2
    · exact Or.inl b2
    · exact Or.inr b2)
  have told : ∀ z : Int, (100 ≤ z ∧ z < 100 + h 56 5) → (0 ≤ z - 100 ∧ z - 100 < 3) ∧ XX12_far s (x 160 (z - 100).toNat) x = some (lfB h s z, x) := by
    intro z hz
    have tw := PlB_tw p hz
    obtain ⟨w, hw⟩ := Int.eq_ofNat_of_zero_le tw.2.2.1
    refine ⟨tw.1, ?_⟩
    rw [e 160 _ (by omega), tw.2.1, hw, fr w (by omega)]
    unfold lfB
    rw [if_pos hz, hw, Int.toNat_natCast]
  have last : ∀ n : Int, 0 ≤ n → n ≤ 200 → ∀ n2 : Int, 0 ≤ n2 → n2 ≤ 100 → XX12_lengthOf_p57 i s n n2 x = some (n + n2 + lfB h s (h 63 i), x) := by
    intro n h1 h2 n2 h3 h4
    unfold XX12_lengthOf_p57
    rw [chk_pos (by omega), nm_eq, inb_pos (by omega), Int.toNat_natCast, e 164 i (by omega), ← b1, in_eq, cal_eq]
    by_cases q : 100 ≤ h 63 i ∧ h 63 i ≤ 102
    · obtain ⟨t1, t2⟩ := told _ (q2.1 q)
      rw [if_pos q, if_neg n10, inb_pos (by omega), e 164 i (by omega), ← b1, chk_pos (by omega), inb_pos (by omega), t2, cal_eq, chk_pos (by omega)]
    · have : lfB h s (h 63 i) = 0 := by unfold lfB; rw [if_neg (fun t => q (q2.2 t))]
      rw [if_neg q, if_pos rfl, chk_pos (by omega), this]
  obtain ⟨w, hw⟩ := Int.eq_ofNat_of_zero_le hp.2.1
  unfold XX12_lengthOf
  rw [inb_pos (by omega), Int.toNat_natCast, e 165 i (by omega), ← o1, inb_pos (by omega), e 159 _ (by omega), ← pt.1, hw, fr w (by omega), cal_eq, inb_pos (by omega), e 163 i (by omega), ← a1, in_eq, cal_eq]
  have hd2 : dsB h s w = dsB h s (h 57 (h 64 i).toNat).toNat := by rw [hw, Int.toNat_natCast]
  by_cases q : 100 ≤ h 62 i ∧ h 62 i ≤ 102
  · obtain ⟨t1, t2⟩ := told _ (q1.1 q)
    rw [if_pos q, if_neg n10, inb_pos (by omega), e 163 i (by omega), ← a1, chk_pos (by omega), inb_pos (by omega), t2, cal_eq, last _ (by omega) (by omega) _ (by omega) (by omega), hd2]
    rfl
  · have : lfB h s (h 62 i) = 0 := by unfold lfB; rw [if_neg (fun t => q (q1.2 t))]
    rw [if_neg q, if_pos rfl, last _ (by omega) (by omega) _ (by omega) (by omega), hd2, ← this]
    rfl
