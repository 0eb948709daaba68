theorem least_ex {p : Nat → Prop} : ∀ {n : Nat}, (∃ c, c < n ∧ p c) → ∃ c, c < n ∧ p c ∧ ∀ d, d < c → ¬ p d := by
  intro n
  induction n with
  | zero => rintro ⟨c, hc, _⟩; exact absurd hc (Nat.not_lt_zero _)
  | succ n ih =>
    rintro ⟨c, hc, h⟩
    by_cases q : ∃ c, c < n ∧ p c
    · obtain ⟨d, h1, h2, h3⟩ := ih q
      exact ⟨d, by omega, h2, h3⟩
    · refine ⟨c, hc, h, fun d hd hp => q ⟨d, by omega, hp⟩⟩
/-- the least case, or SAME -/
def Lst (N : Nat) (P : Nat → Prop) (r : Int) : Prop := (r = 1000 ∧ ∀ c, c < N → ¬ P c) ∨ (∃ c, c < N ∧ r = (c : Int) ∧ P c ∧ ∀ d, d < c → ¬ P d)
theorem Lst_uniq {N : Nat} {P P2 : Nat → Prop} {r r2 : Int} (h : Lst N P r) (h2 : Lst N P2 r2) (e : ∀ c, c < N → (P c ↔ P2 c)) : r = r2 := by
  rcases h with ⟨e1, h⟩ | ⟨c, hc, e1, hp, h⟩
  · rcases h2 with ⟨e2, h2⟩ | ⟨d, hd, e2, hp2, h2⟩
    · rw [e1, e2]
    · exact absurd ((e d hd).2 hp2) (h d hd)
  · rcases h2 with ⟨e2, h2⟩ | ⟨d, hd, e2, hp2, h2⟩
    · exact absurd ((e c hc).1 hp) (h2 c hc)
    · rw [e1, e2]
      rcases Nat.lt_trichotomy c d with q | q | q
      · exact absurd ((e c hc).1 hp) (h2 c q)
      · rw [q]
      · exact absurd ((e d hd).2 hp2) (h d q)
/-- Long.bitCount as a function -/
def bcf (x : Int) : Int :=
  let v1 := jsub x (jand (jushr x 1) 6148914691236517205)
  let v2 := jadd (jand v1 3689348814741910323) (jand (jushr v1 2) 3689348814741910323)
  let v3 := jand (jadd v2 (jushr v2 4)) 1085102592571150095
  let v4 := jadd v3 (jushr v3 8)
  let v5 := jadd v4 (jushr v4 16)
  let v6 := jadd v5 (jushr v5 32)
  aand (al2i v6) 127
theorem bitCount_eq (x : Int) (h : Hp) : XJ13_bitCount_95d88 x h = some (bcf x, h) := rfl
theorem bcf_low : ∀ k : Nat, k < 64 → bcf (jsub (jshl 1 (k : Int)) 1) = k := by decide +kernel
theorem tb_jneg (x : Int) (c : Nat) : tb (jneg x) c = (tb x c ^^ decide (c < 64) && decide (∃ j, j < c ∧ tb x j = true)) := by
  unfold tb jneg
  rw [Int64.ofInt_toInt, Int64.toBitVec_neg, BitVec.getLsbD_neg]
theorem lowbit {x : Int} {k : Nat} (hk : k < 64) (h1 : tb x k = true) (h0 : ∀ j, j < k → tb x j = false) : jand x (jneg x) = jshl 1 (k : Int) := by
  apply tb_ext (jand_in _ _) (jshl_in _ _)
  intro c hc
  rw [tb_jand, tb_jneg, tb_pow (by omega) (by omega), Int.toNat_natCast]
  rcases Nat.lt_trichotomy c k with q | q | q
  · rw [h0 c q]; simp; omega
  · subst q
    have : ¬ ∃ j, j < c ∧ tb x j = true := by
      rintro ⟨j, hj, e⟩; rw [h0 j hj] at e; cases e
    rw [h1]; simp [this]
  · have : ∃ j, j < c ∧ tb x j = true := ⟨k, q, h1⟩
    have hne : ¬ c = k := by omega
    simp only [this, hc, hne, decide_true, Bool.and_true, decide_false]
    cases tb x c <;> rfl
theorem lowest_eq {part : Int} (hp : 0 ≤ part ∧ part < 4) {x : Int} {k : Nat} (hk : k < 64) (h1 : tb x k = true) (h0 : ∀ j, j < k → tb x j = false) (h : Hp) : XX0_lowest part x h = some (64 * part + k, h) := by
  unfold XX0_lowest
  rw [chk_pos (by omega), lowbit hk h1 h0, bitCount_eq, cal_eq, bcf_low k hk, chk_pos (by omega)]
/-- cases: how many, which are not free -/
def Cas (h : Hp) : Prop :=
  h 37 0 = 2 ^ (sc 18 h).toNat ∧ h 37 1 = (if h 37 0 ≤ 64 then 1 else h 37 0 / 64) ∧ (∀ part, part < 4 → ∀ c, c < 64 → tb (h 38 part) c = decide (((64 * part + c : Nat) : Int) < h 37 0)) ∧
  (∀ part, part < 4 → inJ (h 39 part)) ∧ (∀ part, part < 4 → ∀ c, c < 64 → tb (h 39 part) c = true → ((64 * part + c : Nat) : Int) < h 37 0)
theorem pow_cases {s : Int} (h1 : 1 ≤ s) (h2 : s ≤ 8) : ∃ k : Nat, k < 8 ∧ (2 : Int) ^ s.toNat = 2 * 2 ^ k ∧ s.toNat = k + 1 := ⟨s.toNat - 1, by omega, by rw [show s.toNat = (s.toNat - 1) + 1 by omega, Int.pow_succ]; simp; omega, by omega⟩
theorem pow_list {s : Int} (h1 : 1 ≤ s) (h2 : s ≤ 8) : (2 : Int) ^ s.toNat = 2 ∨ (2 : Int) ^ s.toNat = 4 ∨ (2 : Int) ^ s.toNat = 8 ∨ (2 : Int) ^ s.toNat = 16 ∨ (2 : Int) ^ s.toNat = 32 ∨ (2 : Int) ^ s.toNat = 64 ∨ (2 : Int) ^ s.toNat = 128 ∨ (2 : Int) ^ s.toNat = 256 := by
  have : s = 1 ∨ s = 2 ∨ s = 3 ∨ s = 4 ∨ s = 5 ∨ s = 6 ∨ s = 7 ∨ s = 8 := by omega
  rcases this with rfl | rfl | rfl | rfl | rfl | rfl | rfl | rfl <;> decide
/-- numbers of cases and parts -/
theorem Cas_num {h : Hp} (hC : Cas h) (hN : Nums 40 18 h) : 2 ≤ h 37 0 ∧ h 37 0 ≤ 256 ∧ 1 ≤ h 37 1 ∧ h 37 1 ≤ 4 ∧ (h 37 0 ≤ 64 ∧ h 37 1 = 1 ∨ h 37 0 = 64 * h 37 1) := by
  obtain ⟨c1, c2, _⟩ := hC
  obtain ⟨b0, b1, b2, b3, b4⟩ := Pl_lt (by decide) hN
  have := pow_list b0 b1
  rw [← c1] at this
  rw [c2]
  rcases this with e | e | e | e | e | e | e | e <;> rw [e] <;> decide
def live (h : Hp) (c : Nat) : Bool := tb (h 39 (c / 64)) (c % 64)
theorem isLive_eq (h : Hp) {c : Nat} (hc : c < 256) : XX0_isLive c h = some (if live h c = true then 1 else 0, h) := by
  unfold XX0_isLive live
  have e : (c : Int).tdiv 64 = ((c / 64 : Nat) : Int) := rfl
  rw [e, chk_pos (by omega), inb_pos (by omega), chk_pos (by omega), show (c : Int) - ((c / 64 : Nat) : Int) * 64 = ((c % 64 : Nat) : Int) by omega, Int.toNat_natCast]
  by_cases q : tb (h 39 (c / 64)) (c % 64) = true
  · rw [if_pos ((jbit1 _ (by omega) (by omega)).2 (by rw [Int.toNat_natCast]; exact q)), if_pos q, zb_1]
  · rw [if_neg (fun hh => q (by have := (jbit1 (h 39 (c / 64)) (k := ((c % 64 : Nat) : Int)) (by omega) (by omega)).1 hh; rw [Int.toNat_natCast] at this; exact this)), if_neg q, zb_0]
/-- a search part by part -/
theorem parts_Lst {N : Nat} {parts : Int} (hN : 2 ≤ N ∧ N ≤ 256) (hp : 1 ≤ parts ∧ parts ≤ 4) (hNp : (N ≤ 64 ∧ parts = 1) ∨ (N : Int) = 64 * parts) {f : Nat → Int} {P : Nat → Prop} (hf : ∀ part : Nat, (part : Int) < parts → ∀ c, c < 64 → (tb (f part) c = true ↔ (64 * part + c < N ∧ P (64 * part + c)))) :
    (∀ part : Nat, (part : Int) < parts → (∀ c, c < 64 → tb (f part) c = false)) → ∀ c, c < N → ¬ P c := by
  intro h c hc hP
  have := h (c / 64) (by omega) (c % 64) (by omega)
  have h2 := (hf (c / 64) (by omega) (c % 64) (by omega)).2 (by rw [show 64 * (c / 64) + c % 64 = c by omega]; exact ⟨hc, hP⟩)
  rw [this] at h2; cases h2
/-- the or of what differs -/
def dfF (a b : Nat → Int) : Nat → Int
  | 0 => 0
  | k + 1 => jor (dfF a b k) (jxor (a k) (b k))
theorem dfF_smF {a b : Nat → Int} {c : Nat} (hc : c < 64) : ∀ m : Nat, tb (dfF a b m) c = !tb (smF a b m) c := by
  intro m
  induction m with
  | zero => show tb 0 c = !tb (-1) c; rw [tb_0, tb_m1, decide_eq_true hc]; rfl
  | succ m ih =>
    show tb (jor _ _) c = !tb (jand _ _) c
    rw [tb_jor, tb_jand, ih, tb_not _ hc, tb_jxor]
    cases tb (smF a b m) c <;> cases tb (a m) c <;> cases tb (b m) c <;> rfl
theorem difference_ok {h : Hp} (hT : Two h) {part : Nat} (hp : part < 4) : En (XX5_difference part h) (fun r h1 => h1 = h ∧ inJ r ∧ ∀ c, c < 64 → (tb r c = true ↔ (tb (h 39 part) c = true ∧ tb (mdW h noF part) c = false))) := by
  have hN : Nums 40 18 h := hT.1.1
  have hsn : ∀ k : Nat, (k : Int) < h 18 2 + h 18 1 → 0 ≤ h 21 k ∧ h 21 k < wn 18 h := hT.1.2.2.2.1
  have hN2 : Nums 24 28 h := hT.2.1.1
  have hsn2 : ∀ k : Nat, (k : Int) < h 28 2 + h 28 1 → 0 ≤ h 31 k ∧ h 31 k < wn 28 h := hT.2.1.2.2.2.1
  obtain ⟨b0, b1, b2, b3, b4⟩ := Pl_lt (by decide) hN
  obtain ⟨bb0, bb1, bb2, bb3, bb4⟩ := Pl_lt (by decide) hN2
  have hn6 : 1 ≤ h 18 2 + h 18 1 ∧ h 18 2 + h 18 1 ≤ 6 := by obtain ⟨_, n1, n2, _, _, n5, n6, _, _⟩ := hN; omega
  unfold XX5_difference XX5_difference_L5
  refine En_lup3 (fun _ _ l4 _ => (6 - l4).toNat) (fun l1 l2 l4 h1 => (part : Int) = l1 ∧ h = h1 ∧ 0 ≤ l4 ∧ l4 ≤ h 18 2 + h 18 1 ∧ l2 = dfF (fun k => fOl h noF part (h 21 k).toNat) (fun k => fWi h part (h 31 k).toNat) l4.toNat) ?_ FU _ _ _ _ (by unfold FU; omega) ⟨rfl, rfl, by omega, by omega, rfl⟩
  rintro self l1 l2 l4 h1 ih ⟨rfl, rfl, m0, m1, m2⟩
  unfold XX5_difference_b5
  rw [seenCount_eq hN, cal_eq]
  by_cases q : h 18 2 + h 18 1 ≤ l4
  · rw [if_pos q, inb_pos (by omega), Int.toNat_natCast]
    refine En_some ⟨rfl, jand_in _ _, fun c hc => ?_⟩
    rw [tb_jand, m2, dfF_smF hc, show l4.toNat = (h 18 2 + h 18 1).toNat by omega, Bool.and_eq_true, Bool.not_eq_true']
    exact And.comm
  · have t1 := hsn l4.toNat (by omega)
    have t2 := hsn2 l4.toNat (by have := hT.2.2.2.2.2; omega)
    rw [if_neg q, inb_pos (by omega), chk_pos (by omega), chk_pos (by omega), inb_pos (by omega), inb_pos (by omega), chk_pos (by omega), chk_pos (by omega), inb_pos (by omega), nm_eq, chk_pos (by omega), show (4 * h 21 l4.toNat + (part : Int)).toNat = 4 * (h 21 l4.toNat).toNat + part by omega, show (4 * h 31 l4.toNat + (part : Int)).toNat = 4 * (h 31 l4.toNat).toNat + part by omega, Two_wish hT (by omega) hp, Two_old hT (by omega) hp]
    refine ih _ _ _ _ (by omega) ⟨rfl, rfl, by omega, by omega, ?_⟩
    rw [show (l4 + 1).toNat = l4.toNat + 1 by omega, m2]
    rfl
def Agr (h : Hp) (c : Nat) : Prop := tb (mdW h noF ((c / 64 : Nat) : Int)) (c % 64) = true
theorem firstDifference_ok {h : Hp} (hT : Two h) (hC : Cas h) : En (XX5_firstDifference h) (fun r h1 => h1 = h ∧ Lst (h 37 0).toNat (fun c => live h c = true ∧ ¬ Agr h c) r) := by
  obtain ⟨n0, n1, n2, n3, n4⟩ := Cas_num hC hT.1.1
  unfold XX5_firstDifference XX5_firstDifference_L2
  refine En_lup1 (fun l1 _ => (4 - l1).toNat) (fun l1 h1 => h = h1 ∧ 0 ≤ l1 ∧ l1 ≤ h 37 1 ∧ ∀ c : Nat, (c : Int) < 64 * l1 → c < (h 37 0).toNat → ¬ (live h c = true ∧ ¬ Agr h c)) ?_ FU _ _ (by unfold FU; omega) ⟨rfl, by omega, by omega, fun c hc => by omega⟩
  rintro self l1 h1 ih ⟨rfl, c0, c1, c2⟩
  unfold XX5_firstDifference_b2
  by_cases q : h 37 1 ≤ l1
  · rw [if_pos q]
    exact En_some ⟨rfl, Or.inl ⟨rfl, fun c hc => c2 c (by omega) hc⟩⟩
  · rw [if_neg q]
    obtain ⟨part, rfl⟩ := Int.eq_ofNat_of_zero_le c0
    refine En_cal (difference_ok hT (part := part) (by omega)) (fun r h2 _ hr => ?_)
    obtain ⟨rfl, hi, hr⟩ := hr
    by_cases qz : jcmp r 0 = 0
    · rw [if_pos qz, chk_pos (by omega)]
      have hz := (tb_zero hi).1 (jcmp0.1 qz)
      refine ih _ _ (by omega) ⟨rfl, by omega, by omega, fun c hc hcN hh => ?_⟩
      by_cases qc : (c : Int) < 64 * part
      · exact c2 c qc hcN hh
      · have e1 : c / 64 = part := by omega
        have := (hr (c % 64) (by omega)).2 ⟨by have := hh.1; unfold live at this; rw [e1] at this; exact this, by have := hh.2; unfold Agr at this; rw [e1] at this; simpa using this⟩
        rw [hz _ (by omega)] at this; cases this
    · rw [if_neg qz]
      have hex : ∃ c, c < 64 ∧ tb r c = true := Classical.byContradiction (fun hno => qz (jcmp0.2 ((tb_zero hi).2 (fun c hc => Bool.eq_false_iff.mpr (fun ht => hno ⟨c, hc, ht⟩)))))
      obtain ⟨k, hk, hk1, hk2⟩ := least_ex hex
      rw [lowest_eq (by omega) hk hk1 (fun j hj => by simpa using hk2 j hj), cal_eq]
      have hkr := (hr k hk).1 hk1
      have hlt := hC.2.2.2.2 part (by omega) k hk hkr.1
      refine En_some ⟨rfl, Or.inr ⟨64 * part + k, by omega, by omega, ?_, fun d hd hh => ?_⟩⟩
      · unfold live Agr
        dsimp only
        rw [show (64 * part + k) / 64 = part by omega, show (64 * part + k) % 64 = k by omega]
        exact ⟨hkr.1, by rw [hkr.2]; simp⟩
      · by_cases qd : (d : Int) < 64 * part
        · exact c2 d qd (by omega) hh
        · have e1 : d / 64 = part := by omega
          refine hk2 (d % 64) (by omega) ((hr (d % 64) (by omega)).2 ⟨by have := hh.1; unfold live at this; rw [e1] at this; exact this, by have := hh.2; unfold Agr at this; rw [e1] at this; simpa using this⟩)
