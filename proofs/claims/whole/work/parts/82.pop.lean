def u64 (x : Int) : Nat := (Int64.ofInt x).toBitVec.toNat
theorem tb_u64 (x : Int) (c : Nat) : tb x c = (u64 x).testBit c := rfl
theorem u64_lt (x : Int) : u64 x < 18446744073709551616 := BitVec.isLt _
theorem u_jand (a b : Int) : u64 (jand a b) = u64 a &&& u64 b := by
  unfold u64 jand; rw [Int64.ofInt_toInt, Int64.toBitVec_and, BitVec.toNat_and]
theorem u_jadd {a b : Int} (h : u64 a + u64 b < 18446744073709551616) : u64 (jadd a b) = u64 a + u64 b := by
  unfold u64 jadd at *; rw [Int64.ofInt_toInt, Int64.toBitVec_add, BitVec.toNat_add]
  exact Nat.mod_eq_of_lt h
theorem u_jsub {a b : Int} (h : u64 b ≤ u64 a) : u64 (jsub a b) = u64 a - u64 b := by
  have h1 := u64_lt a
  unfold u64 jsub at *; rw [Int64.ofInt_toInt, Int64.toBitVec_sub, BitVec.toNat_sub]
  omega
theorem u_jushr (x : Int) {k : Nat} (hk : k < 64) : u64 (jushr x k) = u64 x / 2 ^ k := by
  have e : u64 (jushr x k) = ((Int64.ofInt x).toBitVec >>> (((Int32.ofInt k).toInt64.toUInt64 &&& Int64.toUInt64 63).toBitVec % 64)).toNat := by
    unfold u64 jushr
    rw [Int64.ofInt_toInt]
    rfl
  rw [e, sh64u k hk, BitVec.ushiftRight_eq', BitVec.toNat_ushiftRight, BitVec.toNat_umod, BitVec.toNat_ofNat, Nat.shiftRight_eq_div_pow]
  show (Int64.ofInt x).toBitVec.toNat / 2 ^ (k % 2 ^ 64 % 64) = (Int64.ofInt x).toBitVec.toNat / 2 ^ k
  rw [show k % 2 ^ 64 % 64 = k by omega]
theorem cntB_add (f : Nat → Bool) (a b : Nat) : cntB f (a + b) = cntB f a + cntB (fun j => f (a + j)) b := by
  induction b with
  | zero => rfl
  | succ b ih =>
    show cntB f (a + b) + _ = cntB f a + (cntB (fun j => f (a + j)) b + _)
    rw [ih, Nat.add_assoc]; rfl
theorem and2 {a b c d : Nat} (ha : a < 256) (hc : c < 256) : (a + 256 * b) &&& (c + 256 * d) = (a &&& c) + 256 * (b &&& d) := by
  have h1 : ((a + 256 * b) &&& (c + 256 * d)) % 2 ^ 8 = (a &&& c) := by
    rw [Nat.and_mod_two_pow, show (a + 256 * b) % 2 ^ 8 = a by omega, show (c + 256 * d) % 2 ^ 8 = c by omega]
  have h2 : ((a + 256 * b) &&& (c + 256 * d)) / 2 ^ 8 = (b &&& d) := by
    rw [Nat.and_div_two_pow, show (a + 256 * b) / 2 ^ 8 = b by omega, show (c + 256 * d) / 2 ^ 8 = d by omega]
  omega
def hor (a0 a1 a2 a3 a4 a5 a6 a7 : Nat) : Nat := a0 + 256 * (a1 + 256 * (a2 + 256 * (a3 + 256 * (a4 + 256 * (a5 + 256 * (a6 + 256 * a7))))))
theorem hor_and {a0 a1 a2 a3 a4 a5 a6 a7 : Nat} (m : Nat) (hm : m < 256) (h0 : a0 < 256) (h1 : a1 < 256) (h2 : a2 < 256) (h3 : a3 < 256) (h4 : a4 < 256) (h5 : a5 < 256) (h6 : a6 < 256) :
    hor a0 a1 a2 a3 a4 a5 a6 a7 &&& hor m m m m m m m m = hor (a0 &&& m) (a1 &&& m) (a2 &&& m) (a3 &&& m) (a4 &&& m) (a5 &&& m) (a6 &&& m) (a7 &&& m) := by
  unfold hor
  rw [and2 h0 hm, and2 h1 hm, and2 h2 hm, and2 h3 hm, and2 h4 hm, and2 h5 hm, and2 h6 hm]
theorem hor_lt {a0 a1 a2 a3 a4 a5 a6 a7 : Nat} (h0 : a0 < 256) (h1 : a1 < 256) (h2 : a2 < 256) (h3 : a3 < 256) (h4 : a4 < 256) (h5 : a5 < 256) (h6 : a6 < 256) (h7 : a7 < 256) : hor a0 a1 a2 a3 a4 a5 a6 a7 < 18446744073709551616 := by
  unfold hor; omega
def pz (a : Nat) : Nat := a - (a / 2 &&& 85)
def pw (a : Nat) : Nat := (pz a &&& 51) + (pz a / 4 &&& 51)
def pp (a : Nat) : Nat := (pw a + pw a / 16) % 16
theorem tab1 : ∀ a, a < 256 → ∀ t, t < 2 → (a / 2 + 128 * t) &&& 85 = (a / 2 &&& 85) := by decide +kernel
theorem tab2 : ∀ a, a < 256 → ∀ t, t < 4 → (a / 4 + 64 * t) &&& 51 = (a / 4 &&& 51) := by decide +kernel
theorem tab3 : ∀ a, a < 256 → (a / 2 &&& 85) ≤ a ∧ pw a % 16 ≤ 4 ∧ pw a / 16 ≤ 4 ∧ pp a ≤ 8 ∧ pp a = cntB (fun j => a.testBit j) 8 := by decide +kernel
/-- the low seven bits -/
theorem low7 (a : Int) : aand (al2i a) 127 = ((u64 a % 128 : Nat) : Int) := by
  apply ti_ext (aand_in _ _) ⟨by omega, by omega⟩
  intro c hc
  rw [ti_aand, ti_nat (x := 127) (by decide) (by decide), ti_nat (x := ((u64 a % 128 : Nat) : Int)) (by omega) (by omega), Int.toNat_natCast, show (128 : Nat) = 2 ^ 7 from rfl, Nat.testBit_mod_two_pow]
  have e1 : ti (al2i a) c = (u64 a).testBit c := by
    unfold ti al2i u64
    rw [Int32.ofInt_toInt]
    show ((Int64.ofInt a).toBitVec.signExtend 32).getLsbD c = _
    rw [BitVec.getLsbD_signExtend]
    simp [hc, show c < 64 by omega, BitVec.getLsbD]
  have e2 : ((127 : Int).toNat).testBit c = decide (c < 7) := (by decide : ∀ c : Nat, c < 32 → Nat.testBit 127 c = decide (c < 7)) c hc
  rw [e1, e2]
  cases decide (c < 7) <;> simp
theorem bcf_cnt (x : Int) : bcf x = (cntB (tb x) 64 : Nat) := by
  have hlt := u64_lt x
  obtain ⟨a0, ha0⟩ : ∃ a, a = u64 x % 256 := ⟨_, rfl⟩
  obtain ⟨a1, ha1⟩ : ∃ a, a = u64 x / 256 % 256 := ⟨_, rfl⟩
  obtain ⟨a2, ha2⟩ : ∃ a, a = u64 x / 65536 % 256 := ⟨_, rfl⟩
  obtain ⟨a3, ha3⟩ : ∃ a, a = u64 x / 16777216 % 256 := ⟨_, rfl⟩
  obtain ⟨a4, ha4⟩ : ∃ a, a = u64 x / 4294967296 % 256 := ⟨_, rfl⟩
  obtain ⟨a5, ha5⟩ : ∃ a, a = u64 x / 1099511627776 % 256 := ⟨_, rfl⟩
  obtain ⟨a6, ha6⟩ : ∃ a, a = u64 x / 281474976710656 % 256 := ⟨_, rfl⟩
  obtain ⟨a7, ha7⟩ : ∃ a, a = u64 x / 72057594037927936 % 256 := ⟨_, rfl⟩
  have hx : u64 x = hor a0 a1 a2 a3 a4 a5 a6 a7 := by unfold hor; omega
  have cnt : cntB (tb x) 64 = pp a0 + pp a1 + pp a2 + pp a3 + pp a4 + pp a5 + pp a6 + pp a7 := by
    have go : ∀ (a k : Nat), a = u64 x / 2 ^ k % 2 ^ 8 → cntB (fun j => tb x (k + j)) 8 = pp a := by
      intro a k ha
      rw [(tab3 a (by omega)).2.2.2.2]
      refine cntB_congr (fun j hj => ?_)
      rw [tb_u64, ha, Nat.testBit_mod_two_pow, Nat.testBit_div_two_pow, decide_eq_true hj, Bool.true_and, Nat.add_comm]
    rw [show (64 : Nat) = 8 + 56 from rfl, cntB_add, show (56 : Nat) = 8 + 48 from rfl, cntB_add, show (48 : Nat) = 8 + 40 from rfl, cntB_add, show (40 : Nat) = 8 + 32 from rfl, cntB_add, show (32 : Nat) = 8 + 24 from rfl, cntB_add, show (24 : Nat) = 8 + 16 from rfl, cntB_add, show (16 : Nat) = 8 + 8 from rfl, cntB_add]
    have g0 := go a0 0 (by rw [ha0]; simp)
    have g1 := go a1 8 ha1
    have g2 := go a2 16 ha2
    have g3 := go a3 24 ha3
    have g4 := go a4 32 ha4
    have g5 := go a5 40 ha5
    have g6 := go a6 48 ha6
    have g7 := go a7 56 ha7
    rw [← g0, ← g1, ← g2, ← g3, ← g4, ← g5, ← g6, ← g7]
    simp only [Nat.zero_add, ← Nat.add_assoc, Nat.reduceAdd]
  have b0 : a0 < 256 := by omega
  have b1 : a1 < 256 := by omega
  have b2 : a2 < 256 := by omega
  have b3 : a3 < 256 := by omega
  have b4 : a4 < 256 := by omega
  have b5 : a5 < 256 := by omega
  have b6 : a6 < 256 := by omega
  have b7 : a7 < 256 := by omega
  clear ha0 ha1 ha2 ha3 ha4 ha5 ha6 ha7
  have t0 := tab3 a0 b0
  have t1 := tab3 a1 b1
  have t2 := tab3 a2 b2
  have t3 := tab3 a3 b3
  have t4 := tab3 a4 b4
  have t5 := tab3 a5 b5
  have t6 := tab3 a6 b6
  have t7 := tab3 a7 b7
  unfold bcf
  dsimp only
  -- first step
  have s1 : u64 (jand (jushr x 1) 6148914691236517205) = hor (a0 / 2 &&& 85) (a1 / 2 &&& 85) (a2 / 2 &&& 85) (a3 / 2 &&& 85) (a4 / 2 &&& 85) (a5 / 2 &&& 85) (a6 / 2 &&& 85) (a7 / 2 &&& 85) := by
    rw [u_jand, show ((1 : Int)) = ((1 : Nat) : Int) from rfl, u_jushr x (by decide), show u64 6148914691236517205 = hor 85 85 85 85 85 85 85 85 from by decide]
    rw [show u64 x / 2 ^ 1 = hor (a0 / 2 + 128 * (a1 % 2)) (a1 / 2 + 128 * (a2 % 2)) (a2 / 2 + 128 * (a3 % 2)) (a3 / 2 + 128 * (a4 % 2)) (a4 / 2 + 128 * (a5 % 2)) (a5 / 2 + 128 * (a6 % 2)) (a6 / 2 + 128 * (a7 % 2)) (a7 / 2 + 128 * 0) by rw [hx]; unfold hor; omega]
    rw [hor_and 85 (by decide) (by omega) (by omega) (by omega) (by omega) (by omega) (by omega) (by omega), tab1 a0 b0 _ (by omega), tab1 a1 b1 _ (by omega), tab1 a2 b2 _ (by omega), tab1 a3 b3 _ (by omega), tab1 a4 b4 _ (by omega), tab1 a5 b5 _ (by omega), tab1 a6 b6 _ (by omega), tab1 a7 b7 _ (by omega)]
  have s2 : u64 (jsub x (jand (jushr x 1) 6148914691236517205)) = hor (pz a0) (pz a1) (pz a2) (pz a3) (pz a4) (pz a5) (pz a6) (pz a7) := by
    rw [u_jsub (by rw [s1, hx]; unfold hor; omega), s1, hx]
    unfold hor pz; omega
  generalize jsub x (jand (jushr x 1) 6148914691236517205) = v1 at *
  have z0 : pz a0 < 256 := by unfold pz; omega
  have z1 : pz a1 < 256 := by unfold pz; omega
  have z2 : pz a2 < 256 := by unfold pz; omega
  have z3 : pz a3 < 256 := by unfold pz; omega
  have z4 : pz a4 < 256 := by unfold pz; omega
  have z5 : pz a5 < 256 := by unfold pz; omega
  have z6 : pz a6 < 256 := by unfold pz; omega
  have z7 : pz a7 < 256 := by unfold pz; omega
  have s3 : u64 (jand v1 3689348814741910323) = hor (pz a0 &&& 51) (pz a1 &&& 51) (pz a2 &&& 51) (pz a3 &&& 51) (pz a4 &&& 51) (pz a5 &&& 51) (pz a6 &&& 51) (pz a7 &&& 51) := by
    rw [u_jand, s2, show u64 3689348814741910323 = hor 51 51 51 51 51 51 51 51 from by decide, hor_and 51 (by decide) z0 z1 z2 z3 z4 z5 z6]
  have s4 : u64 (jand (jushr v1 2) 3689348814741910323) = hor (pz a0 / 4 &&& 51) (pz a1 / 4 &&& 51) (pz a2 / 4 &&& 51) (pz a3 / 4 &&& 51) (pz a4 / 4 &&& 51) (pz a5 / 4 &&& 51) (pz a6 / 4 &&& 51) (pz a7 / 4 &&& 51) := by
    rw [u_jand, show ((2 : Int)) = ((2 : Nat) : Int) from rfl, u_jushr v1 (by decide), show u64 3689348814741910323 = hor 51 51 51 51 51 51 51 51 from by decide]
    rw [show u64 v1 / 2 ^ 2 = hor (pz a0 / 4 + 64 * (pz a1 % 4)) (pz a1 / 4 + 64 * (pz a2 % 4)) (pz a2 / 4 + 64 * (pz a3 % 4)) (pz a3 / 4 + 64 * (pz a4 % 4)) (pz a4 / 4 + 64 * (pz a5 % 4)) (pz a5 / 4 + 64 * (pz a6 % 4)) (pz a6 / 4 + 64 * (pz a7 % 4)) (pz a7 / 4 + 64 * 0) by rw [s2]; unfold hor; omega]
    rw [hor_and 51 (by decide) (by omega) (by omega) (by omega) (by omega) (by omega) (by omega) (by omega), tab2 _ z0 _ (by omega), tab2 _ z1 _ (by omega), tab2 _ z2 _ (by omega), tab2 _ z3 _ (by omega), tab2 _ z4 _ (by omega), tab2 _ z5 _ (by omega), tab2 _ z6 _ (by omega), tab2 _ z7 _ (by omega)]
  have s5 : u64 (jadd (jand v1 3689348814741910323) (jand (jushr v1 2) 3689348814741910323)) = hor (pw a0) (pw a1) (pw a2) (pw a3) (pw a4) (pw a5) (pw a6) (pw a7) := by
    have e : u64 (jand v1 3689348814741910323) + u64 (jand (jushr v1 2) 3689348814741910323) = hor (pw a0) (pw a1) (pw a2) (pw a3) (pw a4) (pw a5) (pw a6) (pw a7) := by
      rw [s3, s4]; unfold hor pw; omega
    rw [u_jadd (by rw [e]; exact hor_lt (by omega) (by omega) (by omega) (by omega) (by omega) (by omega) (by omega) (by omega)), e]
  generalize jadd (jand v1 3689348814741910323) (jand (jushr v1 2) 3689348814741910323) = v2 at *
  have s6 : u64 (jadd v2 (jushr v2 4)) = hor (pw a0 + pw a0 / 16 + 16 * (pw a1 % 16)) (pw a1 + pw a1 / 16 + 16 * (pw a2 % 16)) (pw a2 + pw a2 / 16 + 16 * (pw a3 % 16)) (pw a3 + pw a3 / 16 + 16 * (pw a4 % 16)) (pw a4 + pw a4 / 16 + 16 * (pw a5 % 16)) (pw a5 + pw a5 / 16 + 16 * (pw a6 % 16)) (pw a6 + pw a6 / 16 + 16 * (pw a7 % 16)) (pw a7 + pw a7 / 16) := by
    have e : u64 v2 + u64 (jushr v2 4) = hor (pw a0 + pw a0 / 16 + 16 * (pw a1 % 16)) (pw a1 + pw a1 / 16 + 16 * (pw a2 % 16)) (pw a2 + pw a2 / 16 + 16 * (pw a3 % 16)) (pw a3 + pw a3 / 16 + 16 * (pw a4 % 16)) (pw a4 + pw a4 / 16 + 16 * (pw a5 % 16)) (pw a5 + pw a5 / 16 + 16 * (pw a6 % 16)) (pw a6 + pw a6 / 16 + 16 * (pw a7 % 16)) (pw a7 + pw a7 / 16) := by
      rw [show ((4 : Int)) = ((4 : Nat) : Int) from rfl, u_jushr v2 (by decide), s5]; unfold hor; omega
    rw [u_jadd (by rw [e]; exact hor_lt (by omega) (by omega) (by omega) (by omega) (by omega) (by omega) (by omega) (by omega)), e]
  have a15 : ∀ u : Nat, u &&& 15 = u % 16 := fun u => Nat.and_two_pow_sub_one_eq_mod u 4
  have s7 : u64 (jand (jadd v2 (jushr v2 4)) 1085102592571150095) = hor (pp a0) (pp a1) (pp a2) (pp a3) (pp a4) (pp a5) (pp a6) (pp a7) := by
    rw [u_jand, s6, show u64 1085102592571150095 = hor 15 15 15 15 15 15 15 15 from by decide, hor_and 15 (by decide) (by omega) (by omega) (by omega) (by omega) (by omega) (by omega) (by omega)]
    simp only [a15]
    unfold hor pp; omega
  generalize jand (jadd v2 (jushr v2 4)) 1085102592571150095 = v3 at *
  have t0 := t0.2.2.2.1
  have t1 := t1.2.2.2.1
  have t2 := t2.2.2.2.1
  have t3 := t3.2.2.2.1
  have t4 := t4.2.2.2.1
  have t5 := t5.2.2.2.1
  have t6 := t6.2.2.2.1
  have t7 := t7.2.2.2.1
  rw [cnt]
  clear s1 s2 s3 s4 s5 s6 cnt hx hlt z0 z1 z2 z3 z4 z5 z6 z7 b0 b1 b2 b3 b4 b5 b6 b7
  generalize pp a0 = p0 at *
  generalize pp a1 = p1 at *
  generalize pp a2 = p2 at *
  generalize pp a3 = p3' at *
  generalize pp a4 = p4 at *
  generalize pp a5 = p5 at *
  generalize pp a6 = p6 at *
  generalize pp a7 = p7 at *
  have s8 : u64 (jadd v3 (jushr v3 8)) = hor (p0 + p1) (p1 + p2) (p2 + p3') (p3' + p4) (p4 + p5) (p5 + p6) (p6 + p7) (p7) := by
    have e : u64 v3 + u64 (jushr v3 8) = hor (p0 + p1) (p1 + p2) (p2 + p3') (p3' + p4) (p4 + p5) (p5 + p6) (p6 + p7) (p7) := by
      rw [show ((8 : Int)) = ((8 : Nat) : Int) from rfl, u_jushr v3 (by decide), s7]; unfold hor; omega
    rw [u_jadd (by rw [e]; exact hor_lt (by omega) (by omega) (by omega) (by omega) (by omega) (by omega) (by omega) (by omega)), e]
  generalize jadd v3 (jushr v3 8) = v4 at *
  have s9 : u64 (jadd v4 (jushr v4 16)) = hor (p0 + p1 + p2 + p3') (p1 + p2 + p3' + p4) (p2 + p3' + p4 + p5) (p3' + p4 + p5 + p6) (p4 + p5 + p6 + p7) (p5 + p6 + p7) (p6 + p7) (p7) := by
    have e : u64 v4 + u64 (jushr v4 16) = hor (p0 + p1 + p2 + p3') (p1 + p2 + p3' + p4) (p2 + p3' + p4 + p5) (p3' + p4 + p5 + p6) (p4 + p5 + p6 + p7) (p5 + p6 + p7) (p6 + p7) (p7) := by
      rw [show ((16 : Int)) = ((16 : Nat) : Int) from rfl, u_jushr v4 (by decide), s8]; unfold hor; omega
    rw [u_jadd (by rw [e]; exact hor_lt (by omega) (by omega) (by omega) (by omega) (by omega) (by omega) (by omega) (by omega)), e]
  generalize jadd v4 (jushr v4 16) = v5 at *
  have s10 : u64 (jadd v5 (jushr v5 32)) % 128 = p0 + p1 + p2 + p3' + p4 + p5 + p6 + p7 := by
    have e : u64 (jushr v5 32) = u64 v5 / 4294967296 := by
      rw [show ((32 : Int)) = ((32 : Nat) : Int) from rfl, u_jushr v5 (by decide)]
    have e2 : u64 v5 + u64 v5 / 4294967296 = (p0 + p1 + p2 + p3' + p4 + p5 + p6 + p7) + 256 * (p1 + p2 + p3' + p4 + p5 + p6 + p7 + 256 * (p2 + p3' + p4 + p5 + p6 + p7 + 256 * (p3' + p4 + p5 + p6 + p7 + 256 * (p4 + p5 + p6 + p7 + 256 * (p5 + p6 + p7 + 256 * (p6 + p7 + 256 * p7)))))) := by
      rw [s9]; unfold hor; omega
    rw [u_jadd (by rw [e, e2]; omega), e, e2]
    omega
  rw [low7, s10]
