def tb (x : Int) (c : Nat) : Bool := (Int64.ofInt x).toBitVec.getLsbD c
theorem tb_jand (a b : Int) (c : Nat) : tb (jand a b) c = (tb a c && tb b c) := by
  unfold tb jand; rw [Int64.ofInt_toInt, Int64.toBitVec_and, BitVec.getLsbD_and]
theorem tb_jor (a b : Int) (c : Nat) : tb (jor a b) c = (tb a c || tb b c) := by
  unfold tb jor; rw [Int64.ofInt_toInt, Int64.toBitVec_or, BitVec.getLsbD_or]
theorem tb_jxor (a b : Int) (c : Nat) : tb (jxor a b) c = (tb a c ^^ tb b c) := by
  unfold tb jxor; rw [Int64.ofInt_toInt, Int64.toBitVec_xor, BitVec.getLsbD_xor]
theorem tb_0 (c : Nat) : tb 0 c = false := by
  unfold tb
  rw [show (Int64.ofInt 0).toBitVec = 0#64 from by decide]
  exact BitVec.getLsbD_zero
theorem tb_m1 (c : Nat) : tb (-1) c = decide (c < 64) := by
  unfold tb
  rw [show (Int64.ofInt (-1)).toBitVec = BitVec.allOnes 64 from by decide]
  exact BitVec.getLsbD_allOnes
theorem tb_ge (x : Int) {c : Nat} (hc : 64 ≤ c) : tb x c = false := by
  unfold tb
  exact BitVec.getLsbD_of_ge _ _ hc
theorem tb_not (a : Int) {c : Nat} (hc : c < 64) : tb (jxor a (-1)) c = !tb a c := by
  rw [tb_jxor, tb_m1, decide_eq_true hc]; cases tb a c <;> rfl
theorem sh64 : ∀ n : Nat, n < 64 → (((Int32.ofInt n).toInt64 &&& 63).toBitVec.smod 64) = BitVec.ofNat 64 n := by decide +kernel
theorem sh64u : ∀ n : Nat, n < 64 → (((Int32.ofInt n).toInt64.toUInt64 &&& Int64.toUInt64 63).toBitVec) = BitVec.ofNat 64 n := by decide +kernel
theorem tb_jshl (x : Int) {k : Int} (h0 : 0 ≤ k) (h1 : k < 64) (c : Nat) : tb (jshl x k) c = (decide (c < 64) && !decide (c < k.toNat) && tb x (c - k.toNat)) := by
  obtain ⟨n, rfl⟩ := Int.eq_ofNat_of_zero_le h0
  have hn : n < 64 := by omega
  unfold tb jshl
  rw [Int64.ofInt_toInt, Int64.toBitVec_shiftLeft]
  have e := sh64 n hn
  rw [e, BitVec.shiftLeft_eq', BitVec.toNat_ofNat, Nat.mod_eq_of_lt (by omega), BitVec.getLsbD_shiftLeft]
  simp
theorem tb_one (c : Nat) : tb 1 c = decide (c = 0) := by
  unfold tb
  rw [show (Int64.ofInt 1).toBitVec = 1#64 from by decide, BitVec.getLsbD_one]
  simp
theorem tb_pow {k : Int} (h0 : 0 ≤ k) (h1 : k < 64) (c : Nat) : tb (jshl 1 k) c = decide (c = k.toNat) := by
  rw [tb_jshl 1 h0 h1, tb_one, Bool.eq_iff_iff]
  simp only [Bool.and_eq_true, decide_eq_true_eq, Bool.not_eq_true', decide_eq_false_iff_not]
  omega
theorem tb_jshr (x : Int) {k : Int} (h0 : 0 ≤ k) (h1 : k < 64) {c : Nat} (hc : c + k.toNat < 64) : tb (jshr x k) c = tb x (c + k.toNat) := by
  obtain ⟨n, rfl⟩ := Int.eq_ofNat_of_zero_le h0
  have hn : n < 64 := by omega
  unfold tb jshr
  rw [Int64.ofInt_toInt, Int64.toBitVec_shiftRight]
  have e := sh64 n hn
  simp only [Int.ofNat_eq_natCast, Int.toNat_natCast] at e hc ⊢
  rw [e, BitVec.sshiftRight_eq', BitVec.toNat_ofNat, Nat.mod_eq_of_lt (by omega), BitVec.getLsbD_sshiftRight]
  have h1 : ¬ (64 ≤ c) := by omega
  have h2 : n + c < 64 := by omega
  simp [h1, h2, Nat.add_comm]
  intro hh; omega
theorem jand1 (x : Int) : jand x 1 = if tb x 0 = true then 1 else 0 := by
  unfold jand
  have e : Int64.ofInt x &&& Int64.ofInt 1 = if tb x 0 = true then 1 else 0 := by
    apply Int64.toBitVec_inj.mp
    apply BitVec.eq_of_getLsbD_eq
    intro i hi
    rw [Int64.toBitVec_and, BitVec.getLsbD_and, show (Int64.ofInt 1).toBitVec = 1#64 from by decide, BitVec.getLsbD_one]
    by_cases h : tb x 0 = true
    · rw [if_pos h, show (1 : Int64).toBitVec = 1#64 from by decide, BitVec.getLsbD_one]
      by_cases hi0 : i = 0
      · subst hi0
        have : (Int64.ofInt x).toBitVec.getLsbD 0 = true := h
        rw [this]; simp
      · simp [hi0]
    · rw [if_neg h, show (0 : Int64).toBitVec = 0#64 from by decide, BitVec.getLsbD_zero]
      by_cases hi0 : i = 0
      · subst hi0
        have : (Int64.ofInt x).toBitVec.getLsbD 0 = false := by simpa [tb] using h
        rw [this]; simp
      · simp [hi0]
  rw [e]
  split <;> decide
theorem jbit (x : Int) {k : Int} (h0 : 0 ≤ k) (h1 : k < 64) : jand (jshr x k) 1 = if tb x k.toNat = true then 1 else 0 := by
  rw [jand1, tb_jshr x h0 h1 (by omega), Nat.zero_add]
theorem jbit1 (x : Int) {k : Int} (h0 : 0 ≤ k) (h1 : k < 64) : jcmp (jand (jshr x k) 1) 1 = 0 ↔ tb x k.toNat = true := by
  rw [jcmp0, jbit x h0 h1]; split <;> simp [*]
theorem jbit0 (x : Int) {k : Int} (h0 : 0 ≤ k) (h1 : k < 64) : jcmp (jand (jshr x k) 1) 0 = 0 ↔ tb x k.toNat = false := by
  rw [jcmp0, jbit x h0 h1]; split <;> simp [*]
theorem tb_ext {a b : Int} (ha : inJ a) (hb : inJ b) (h : ∀ c, c < 64 → tb a c = tb b c) : a = b := by
  rw [← eqJ ha hb]
  apply Int64.toBitVec_inj.mp
  exact BitVec.eq_of_getLsbD_eq (fun i hi => h i hi)
theorem tb_zero {a : Int} (ha : inJ a) : a = 0 ↔ ∀ c, c < 64 → tb a c = false := by
  constructor
  · intro e c _; rw [e, tb_0]
  · intro h; exact tb_ext ha ⟨by decide, by decide⟩ (fun c hc => by rw [h c hc, tb_0])
theorem jand_in (a b : Int) : inJ (jand a b) := inJ_t _
theorem jor_in (a b : Int) : inJ (jor a b) := inJ_t _
theorem jxor_in (a b : Int) : inJ (jxor a b) := inJ_t _
theorem jshl_in (a b : Int) : inJ (jshl a b) := inJ_t _
theorem jshr_in (a b : Int) : inJ (jshr a b) := inJ_t _
theorem jsub_in (a b : Int) : inJ (jsub a b) := inJ_t _
theorem inJ_0 : inJ 0 := ⟨by decide, by decide⟩
theorem inJ_m1 : inJ (-1) := ⟨by decide, by decide⟩
/-- 2^k - 1: the bits below k -/
theorem tb_low {k : Int} (h0 : 0 ≤ k) (h1 : k < 64) {c : Nat} (hc : c < 64) : tb (jsub (jshl 1 k) 1) c = decide (c < k.toNat) := by
  obtain ⟨n, rfl⟩ := Int.eq_ofNat_of_zero_le h0
  have hn : n < 64 := by omega
  have key : ∀ n : Nat, n < 64 → ∀ c : Nat, c < 64 → tb (jsub (jshl 1 (n : Int)) 1) c = decide (c < n) := by decide +kernel
  exact key n hn c hc
-- ints
def ti (x : Int) (c : Nat) : Bool := (Int32.ofInt x).toBitVec.getLsbD c
theorem ti_aand (a b : Int) (c : Nat) : ti (aand a b) c = (ti a c && ti b c) := by
  unfold ti aand; rw [Int32.ofInt_toInt, Int32.toBitVec_and, BitVec.getLsbD_and]
theorem ti_aor (a b : Int) (c : Nat) : ti (aor a b) c = (ti a c || ti b c) := by
  unfold ti aor; rw [Int32.ofInt_toInt, Int32.toBitVec_or, BitVec.getLsbD_or]
theorem ti_axor (a b : Int) (c : Nat) : ti (axor a b) c = (ti a c ^^ ti b c) := by
  unfold ti axor; rw [Int32.ofInt_toInt, Int32.toBitVec_xor, BitVec.getLsbD_xor]
theorem ti_0 (c : Nat) : ti 0 c = false := by
  unfold ti
  rw [show (Int32.ofInt 0).toBitVec = 0#32 from by decide]
  exact BitVec.getLsbD_zero
theorem ti_m1 (c : Nat) : ti (-1) c = decide (c < 32) := by
  unfold ti
  rw [show (Int32.ofInt (-1)).toBitVec = BitVec.allOnes 32 from by decide]
  exact BitVec.getLsbD_allOnes
theorem ti_not (a : Int) {c : Nat} (hc : c < 32) : ti (axor a (-1)) c = !ti a c := by
  rw [ti_axor, ti_m1, decide_eq_true hc]; cases ti a c <;> rfl
theorem ti_nat {x : Int} (h0 : 0 ≤ x) (h1 : x < 2147483648) (c : Nat) : ti x c = x.toNat.testBit c := by
  obtain ⟨n, rfl⟩ := Int.eq_ofNat_of_zero_le h0
  unfold ti
  rw [Int32.toBitVec_ofInt, BitVec.ofInt_natCast, BitVec.getLsbD_ofNat, Int.toNat_natCast]
  by_cases hc : c < 32
  · simp [hc]
  · have : n.testBit c = false := Nat.testBit_lt_two_pow (Nat.lt_of_lt_of_le (show n < 2 ^ 32 by omega) (Nat.pow_le_pow_right (by decide) (by omega)))
    simp [hc, this]
theorem ti_ext {a b : Int} (ha : inI a) (hb : inI b) (h : ∀ c, c < 32 → ti a c = ti b c) : a = b := by
  rw [← eqI ha hb]
  apply Int32.toBitVec_inj.mp
  exact BitVec.eq_of_getLsbD_eq (fun i hi => h i hi)
theorem aand_in (a b : Int) : inI (aand a b) := inI_t _
theorem aor_in (a b : Int) : inI (aor a b) := inI_t _
theorem axor_in (a b : Int) : inI (axor a b) := inI_t _
theorem ashl_in (a b : Int) : inI (ashl a b) := inI_t _
theorem ashr_in (a b : Int) : inI (ashr a b) := inI_t _
/-- a number between 0 and 2^n, by its bits -/
theorem ti_lt {x : Int} (hx : inI x) {n : Nat} (hn : n ≤ 31) (h : ∀ c, n ≤ c → c < 32 → ti x c = false) : 0 ≤ x ∧ x < 2 ^ n := by
  have e : Int32.ofInt x = Int32.ofInt ((Int32.ofInt x).toBitVec.toNat : Int) := by
    apply Int32.toBitVec_inj.mp
    rw [Int32.toBitVec_ofInt, Int32.toBitVec_ofInt, BitVec.ofInt_natCast, BitVec.ofNat_toNat]
    simp
  have hlt : (Int32.ofInt x).toBitVec.toNat < 2 ^ n := by
    apply Nat.lt_pow_two_of_testBit
    intro i hi
    by_cases hc : i < 32
    · exact h i hi hc
    · exact BitVec.getLsbD_of_ge _ _ (by omega)
  have h31 : (2 : Nat) ^ n ≤ 2 ^ 31 := Nat.pow_le_pow_right (by decide) hn
  have hx2 : x = ((Int32.ofInt x).toBitVec.toNat : Int) := by
    apply (eqI hx ⟨by omega, by omega⟩).mp
    exact e
  constructor
  · rw [hx2]; omega
  · rw [hx2]; exact_mod_cast hlt
theorem sh32 : ∀ n : Nat, n < 32 → ((Int32.ofInt n &&& 31).toBitVec.smod 32) = BitVec.ofNat 32 n := by decide +kernel
theorem ti_ashl (x : Int) {k : Int} (h0 : 0 ≤ k) (h1 : k < 32) (c : Nat) : ti (ashl x k) c = (decide (c < 32) && !decide (c < k.toNat) && ti x (c - k.toNat)) := by
  obtain ⟨n, rfl⟩ := Int.eq_ofNat_of_zero_le h0
  have hn : n < 32 := by omega
  unfold ti ashl
  rw [Int32.ofInt_toInt, Int32.toBitVec_shiftLeft]
  have e := sh32 n hn
  rw [e, BitVec.shiftLeft_eq', BitVec.toNat_ofNat, Nat.mod_eq_of_lt (by omega), BitVec.getLsbD_shiftLeft]
  simp
theorem ti_ashr (x : Int) {k : Int} (h0 : 0 ≤ k) (h1 : k < 32) {c : Nat} (hc : c + k.toNat < 32) : ti (ashr x k) c = ti x (c + k.toNat) := by
  obtain ⟨n, rfl⟩ := Int.eq_ofNat_of_zero_le h0
  have hn : n < 32 := by omega
  unfold ti ashr
  rw [Int32.ofInt_toInt, Int32.toBitVec_shiftRight]
  have e := sh32 n hn
  simp only [Int.ofNat_eq_natCast, Int.toNat_natCast] at e hc ⊢
  rw [e, BitVec.sshiftRight_eq', BitVec.toNat_ofNat, Nat.mod_eq_of_lt (by omega), BitVec.getLsbD_sshiftRight]
  have h1 : ¬ (32 ≤ c) := by omega
  have h2 : n + c < 32 := by omega
  simp [h1, h2, Nat.add_comm]
  intro hh; omega
theorem aand1 (x : Int) : aand x 1 = if ti x 0 = true then 1 else 0 := by
  apply ti_ext (aand_in _ _) (by split <;> exact ⟨by decide, by decide⟩)
  intro c hc
  rw [ti_aand, ti_nat (x := 1) (by decide) (by decide)]
  by_cases h : ti x 0 = true
  · rw [if_pos h, ti_nat (x := 1) (by decide) (by decide)]
    by_cases h0 : c = 0
    · subst h0; rw [h]; rfl
    · have : Nat.testBit 1 c = false := (by decide : ∀ c : Nat, c < 32 → c ≠ 0 → Nat.testBit 1 c = false) c hc h0
      simp [this]
  · rw [if_neg h, ti_0]
    by_cases h0 : c = 0
    · subst h0; simp [Bool.eq_false_iff.mpr h]
    · have : Nat.testBit 1 c = false := (by decide : ∀ c : Nat, c < 32 → c ≠ 0 → Nat.testBit 1 c = false) c hc h0
      simp [this]
theorem abit (x : Int) {k : Int} (h0 : 0 ≤ k) (h1 : k < 32) : aand (ashr x k) 1 = if ti x k.toNat = true then 1 else 0 := by
  rw [aand1, ti_ashr x h0 h1 (by omega), Nat.zero_add]
theorem abit1 (x : Int) {k : Int} (h0 : 0 ≤ k) (h1 : k < 32) : aand (ashr x k) 1 = 1 ↔ ti x k.toNat = true := by
  rw [abit x h0 h1]; split <;> simp [*]
theorem abit0 (x : Int) {k : Int} (h0 : 0 ≤ k) (h1 : k < 32) : aand (ashr x k) 1 = 0 ↔ ti x k.toNat = false := by
  rw [abit x h0 h1]; split <;> simp [*]
theorem ashl1n : ∀ n : Nat, n < 31 → ashl 1 (n : Int) = 2 ^ n := by decide +kernel
theorem ashl1 {k : Int} (h0 : 0 ≤ k) (h1 : k < 31) : ashl 1 k = 2 ^ k.toNat := by
  obtain ⟨n, rfl⟩ := Int.eq_ofNat_of_zero_le h0
  exact ashl1n n (by omega)
theorem aand_nat {a b : Int} (ha : 0 ≤ a ∧ a < 2147483648) (hb : 0 ≤ b ∧ b < 2147483648) : aand a b = ((a.toNat &&& b.toNat : Nat) : Int) := by
  have hlt : a.toNat &&& b.toNat ≤ a.toNat := Nat.and_le_left
  apply ti_ext (aand_in _ _) ⟨by omega, by omega⟩
  intro c _
  rw [ti_aand, ti_nat ha.1 ha.2, ti_nat hb.1 hb.2, ti_nat (by omega) (by omega), Int.toNat_natCast, Nat.testBit_and]
theorem aor_nat {a b : Int} (ha : 0 ≤ a ∧ a < 2147483648) (hb : 0 ≤ b ∧ b < 2147483648) : aor a b = ((a.toNat ||| b.toNat : Nat) : Int) := by
  have hlt : a.toNat ||| b.toNat < 2 ^ 31 := Nat.or_lt_two_pow (by omega) (by omega)
  apply ti_ext (aor_in _ _) ⟨by omega, by omega⟩
  intro c _
  rw [ti_aor, ti_nat ha.1 ha.2, ti_nat hb.1 hb.2, ti_nat (by omega) (by omega), Int.toNat_natCast, Nat.testBit_or]
theorem axor_nat {a b : Int} (ha : 0 ≤ a ∧ a < 2147483648) (hb : 0 ≤ b ∧ b < 2147483648) : axor a b = ((a.toNat ^^^ b.toNat : Nat) : Int) := by
  have hlt : a.toNat ^^^ b.toNat < 2 ^ 31 := Nat.xor_lt_two_pow (by omega) (by omega)
  apply ti_ext (axor_in _ _) ⟨by omega, by omega⟩
  intro c _
  rw [ti_axor, ti_nat ha.1 ha.2, ti_nat hb.1 hb.2, ti_nat (by omega) (by omega), Int.toNat_natCast, Nat.testBit_xor]
