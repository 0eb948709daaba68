def onN (m : Nat) : Nat := [1, 3, 15, 255].getD m 0
def opN (k al g h : Nat) : Nat := if k = 1 then g &&& h else if k = 2 then g ||| h else if k = 3 then g ^^^ h else if k = 4 then al ^^^ (g &&& h) else al ^^^ (g ||| h)
def cN (m f : Nat) : Nat := (cst m f).toNat
theorem on_eq : ∀ m : Nat, m < 4 → onI (m : Int) = (onN m : Int) ∧ onN m = 2 ^ (2 ^ m) - 1 ∧ onN m ≤ 255 ∧ 2 ^ m ≤ 8 ∧ ashl 1 (ashl 1 (m : Int)) = (onN m : Int) + 1 ∧ 1 ≤ onN m := by decide +kernel
theorem on_bit : ∀ m : Nat, m < 4 → ∀ c : Nat, c < 32 → (onN m).testBit c = decide (c < 2 ^ m) := by decide +kernel
theorem f_lt {m f : Nat} (hm : m < 4) (hf : f ≤ onN m) : f < 2 ^ (2 ^ m) := by
  have := on_eq m hm
  have p : 0 < 2 ^ (2 ^ m) := Nat.pow_pos (by decide)
  omega
theorem f_bit {m f : Nat} (hm : m < 4) (hf : f ≤ onN m) {c : Nat} (h : f.testBit c = true) : c < 2 ^ m := by
  refine Decidable.byContradiction (fun q => ?_)
  have := Nat.testBit_lt_two_pow (Nat.lt_of_lt_of_le (f_lt hm hf) (Nat.pow_le_pow_right (by decide) (Nat.le_of_not_lt q)))
  rw [h] at this; cases this
theorem le_on {m f : Nat} (hm : m < 4) (h : f < 2 ^ (2 ^ m)) : f ≤ onN m := by
  have := on_eq m hm
  omega
theorem op_le {m g h : Nat} (hm : m < 4) (hg : g ≤ onN m) (hh : h ≤ onN m) (k : Nat) : opN k (onN m) g h ≤ onN m := by
  have h1 := f_lt hm hg
  have h2 := f_lt hm hh
  have h3 := f_lt hm (Nat.le_refl (onN m))
  have a1 : g &&& h < 2 ^ (2 ^ m) := Nat.lt_of_le_of_lt Nat.and_le_left h1
  have a2 : g ||| h < 2 ^ (2 ^ m) := Nat.or_lt_two_pow h1 h2
  unfold opN
  repeat' split
  · exact le_on hm a1
  · exact le_on hm a2
  · exact le_on hm (Nat.xor_lt_two_pow h1 h2)
  · exact le_on hm (Nat.xor_lt_two_pow h3 a1)
  · exact le_on hm (Nat.xor_lt_two_pow h3 a2)
theorem not_le {m f : Nat} (hm : m < 4) (hf : f ≤ onN m) : onN m ^^^ f ≤ onN m := le_on hm (Nat.xor_lt_two_pow (f_lt hm (Nat.le_refl _)) (f_lt hm hf))
theorem not_not (a f : Nat) : a ^^^ (a ^^^ f) = f := by rw [← Nat.xor_assoc, Nat.xor_self, Nat.zero_xor]
theorem tb_nat {x : Nat} (h1 : x < 9223372036854775808) (c : Nat) : tb (x : Int) c = x.testBit c := by
  unfold tb
  rw [Int64.toBitVec_ofInt, BitVec.ofInt_natCast, BitVec.getLsbD_ofNat]
  by_cases hc : c < 64
  · simp [hc]
  · have : x.testBit c = false := Nat.testBit_lt_two_pow (Nat.lt_of_lt_of_le (show x < 2 ^ 64 by omega) (Nat.pow_le_pow_right (by decide) (by omega)))
    simp [hc, this]
theorem ti_al2i (a : Int) {c : Nat} (hc : c < 32) : ti (al2i a) c = tb a c := by
  unfold ti al2i tb
  rw [Int32.ofInt_toInt]
  show ((Int64.ofInt a).toBitVec.signExtend 32).getLsbD c = _
  rw [BitVec.getLsbD_signExtend]
  simp [hc, show c < 64 by omega]
theorem mk_op {m k g h : Nat} (hm : m < 4) (hk : 1 ≤ k ∧ k ≤ 5) (hg : g ≤ onN m) (hh : h ≤ onN m) : aand (al2i (mkW k g h 0)) (onN m) = ((opN k (onN m) g h : Nat) : Int) := by
  have h0 := (on_eq m hm).2.2.1
  have hop := op_le hm hg hh k
  apply ti_ext (aand_in _ _) ⟨by omega, by omega⟩
  intro c hc
  rw [ti_aand, ti_al2i _ hc, ti_nat (x := (onN m : Int)) (by omega) (by omega), ti_nat (x := ((opN k (onN m) g h : Nat) : Int)) (by omega) (by omega), Int.toNat_natCast, Int.toNat_natCast]
  have bo := on_bit m hm c hc
  have bg : g.testBit c = true → c < 2 ^ m := f_bit hm hg
  have bh : h.testBit c = true → c < 2 ^ m := f_bit hm hh
  rcases (by omega : k = 1 ∨ k = 2 ∨ k = 3 ∨ k = 4 ∨ k = 5) with rfl | rfl | rfl | rfl | rfl
  · show (tb (jand g h) c && _) = (g &&& h).testBit c
    rw [tb_jand, tb_nat (by omega), tb_nat (by omega), Nat.testBit_and, bo]
    revert bg; cases g.testBit c <;> cases h.testBit c <;> simp
  · show (tb (jor g h) c && _) = (g ||| h).testBit c
    rw [tb_jor, tb_nat (by omega), tb_nat (by omega), Nat.testBit_or, bo]
    revert bg bh; cases g.testBit c <;> cases h.testBit c <;> simp
  · show (tb (jxor g h) c && _) = (g ^^^ h).testBit c
    rw [tb_jxor, tb_nat (by omega), tb_nat (by omega), Nat.testBit_xor, bo]
    revert bg bh; cases g.testBit c <;> cases h.testBit c <;> simp
  · show (tb (jxor (jand g h) (-1)) c && _) = (onN m ^^^ (g &&& h)).testBit c
    rw [tb_not _ (by omega), tb_jand, tb_nat (by omega), tb_nat (by omega), Nat.testBit_xor, Nat.testBit_and, bo]
    revert bg bh; cases g.testBit c <;> cases h.testBit c <;> simp
  · show (tb (jxor (jor g h) (-1)) c && _) = (onN m ^^^ (g ||| h)).testBit c
    rw [tb_not _ (by omega), tb_jor, tb_nat (by omega), tb_nat (by omega), Nat.testBit_xor, Nat.testBit_or, bo]
    revert bg bh; cases g.testBit c <;> cases h.testBit c <;> simp
/-- f without what g has -/
theorem andn {m f g : Nat} (hm : m < 4) (hf : f ≤ onN m) (hg : g ≤ onN m) : aand (f : Int) (axor g (-1)) = ((f &&& (onN m ^^^ g) : Nat) : Int) := by
  have h0 := (on_eq m hm).2.2.1
  have hle : f &&& (onN m ^^^ g) ≤ f := Nat.and_le_left
  apply ti_ext (aand_in _ _) ⟨by omega, by omega⟩
  intro c hc
  rw [ti_aand, ti_not _ hc, ti_nat (by omega) (by omega), ti_nat (by omega) (by omega), ti_nat (by omega) (by omega), Int.toNat_natCast, Int.toNat_natCast, Int.toNat_natCast, Nat.testBit_and, Nat.testBit_xor, on_bit m hm c hc]
  have bf : f.testBit c = true → c < 2 ^ m := f_bit hm hf
  revert bf; cases f.testBit c <;> cases g.testBit c <;> simp
theorem compl_eq {m f : Nat} (hm : m < 4) (hf : f ≤ onN m) : aand (onN m : Int) (axor f (-1)) = ((onN m ^^^ f : Nat) : Int) := by
  rw [andn hm (Nat.le_refl _) hf]
  congr 1
  apply Nat.eq_of_testBit_eq
  intro c
  rw [Nat.testBit_and, Nat.testBit_xor]
  by_cases q : (onN m).testBit c = true
  · rw [q]; simp
  · have e : (onN m).testBit c = false := Bool.eq_false_iff.mpr q
    have : f.testBit c = false := Bool.eq_false_iff.mpr (fun t => by
      have h1 := f_bit hm hf t
      have h8 := (on_eq m hm).2.2.2.1
      rw [on_bit m hm c (by omega), decide_eq_true h1] at e; cases e)
    rw [e, this]; rfl
theorem xor_eq {f g : Nat} (hf : f ≤ 255) (hg : g ≤ 255) : axor (f : Int) g = ((f ^^^ g : Nat) : Int) := by
  rw [axor_nat (by omega) (by omega), Int.toNat_natCast, Int.toNat_natCast]
theorem two_eq {k : Nat} (hk : 1 ≤ k ∧ k ≤ 5) (g h : Int) (hp : Hp) : XX12_two k g h hp = some (mkW k g h 0, hp) := by
  rcases (by omega : k = 1 ∨ k = 2 ∨ k = 3 ∨ k = 4 ∨ k = 5) with rfl | rfl | rfl | rfl | rfl <;> rfl
theorem joined_eq {m k g h : Nat} (hm : m < 4) (hk : 1 ≤ k ∧ k ≤ 5) (hg : g ≤ onN m) (hh : h ≤ onN m) (hp : Hp) : XX12_joined k (onN m) g h hp = some (((opN k (onN m) g h : Nat) : Int), hp) := by
  unfold XX12_joined
  rw [two_eq hk, cal_eq, mk_op hm hk hg hh]
theorem ones_eq {m : Nat} (hm : m < 4) (h : Hp) : XX2_ones m h = some ((onN m : Int), h) := by
  obtain ⟨_, _, h1, _, h2, _⟩ := on_eq m hm
  unfold XX2_ones
  rw [h2, chk_pos (by omega)]
  congr 2; omega
theorem functions_eq {m : Nat} (hm : m < 4) (h : Hp) : XX12_functions m h = some ((onN m : Int) + 1, h) := by
  unfold XX12_functions; rw [(on_eq m hm).2.2.2.2.1]
/-- the facts of the table of costs -/
theorem c_fact : ∀ m : Nat, m < 4 → ∀ f : Nat, f < onN m + 1 → cst (m : Int) (f : Int) = ((cN m f : Nat) : Int) ∧ cN m f ≤ 4 ∧ (cN m f = 0 ↔ 0 ≤ lf (m : Int) (f : Int)) ∧ cN m (onN m ^^^ f) ≤ cN m f + 1 := by decide +kernel
def clsN (m c : Nat) : List Nat := (List.range (onN m + 1)).filter (fun f => cN m f == c)
theorem cls_in {m f : Nat} (hf : f ≤ onN m) : f ∈ clsN m (cN m f) := by
  unfold clsN
  rw [List.mem_filter]
  exact ⟨List.mem_range.mpr (by omega), by simp⟩
theorem c_join0 : ∀ m : Nat, m < 4 → ∀ a, a < 3 → ∀ b, b < 3 - a → ((clsN m a).all fun g => (clsN m b).all fun h => [1, 2, 3, 4, 5].all fun k => decide (cN m (opN k (onN m) g h) ≤ a + b + 1)) = true := by decide +kernel
theorem c_join {m g h k : Nat} (hm : m < 4) (hg : g ≤ onN m) (hh : h ≤ onN m) (hk : 1 ≤ k ∧ k ≤ 5) : cN m (opN k (onN m) g h) ≤ cN m g + cN m h + 1 := by
  have h4 := (c_fact m hm _ (Nat.lt_succ_of_le (op_le hm hg hh k))).2.1
  by_cases q : 3 ≤ cN m g + cN m h
  · omega
  · have := c_join0 m hm (cN m g) (by omega) (cN m h) (by omega)
    rw [List.all_eq_true] at this
    have := this g (cls_in hg)
    rw [List.all_eq_true] at this
    have := this h (cls_in hh)
    rw [List.all_eq_true] at this
    exact of_decide_eq_true (this k (by rcases (by omega : k = 1 ∨ k = 2 ∨ k = 3 ∨ k = 4 ∨ k = 5) with rfl | rfl | rfl | rfl | rfl <;> decide))
def witN (m : Nat) : List (Nat × Nat × Nat) := [
  [(0, 0, 0), (0, 0, 0)],
  [(0, 0, 0), (0, 2, 0), (0, 0, 0), (0, 0, 0)],
  [(0, 0, 0), (5, 10, 12), (1, 3, 10), (0, 12, 0), (1, 5, 12), (0, 10, 0), (3, 10, 12), (4, 10, 12), (1, 10, 12), (0, 6, 0), (0, 0, 0), (2, 1, 10), (0, 0, 0), (2, 1, 12), (2, 10, 12), (0, 0, 0)],
  [(0, 0, 0), (5, 170, 252), (1, 3, 170), (5, 204, 240), (1, 5, 204), (5, 170, 240), (1, 15, 102), (5, 136, 240), (5, 119, 240), (5, 102, 240), (1, 15, 170), (3, 240, 251), (1, 15, 204), (3, 240, 253), (5, 17, 240), (0, 240, 0), (1, 17, 240), (5, 170, 204), (1, 51, 90), (5, 160, 204), (1, 60, 85), (5, 170, 192), (1, 30, 119), (1, 31, 119), (1, 60, 90), (3, 170, 179), (1, 63, 90), (3, 204, 215), (1, 60, 95), (3, 170, 183), (3, 238, 240), (4, 238, 240), (5, 95, 204), (5, 90, 204), (1, 51, 170), (3, 204, 239), (1, 60, 102), (3, 143, 170), (1, 63, 102), (3, 215, 240), (1, 60, 170), (1, 63, 169), (1, 63, 170), (1, 63, 171), (1, 60, 238), (3, 17, 60), (1, 63, 238), (3, 223, 240), (1, 51, 240), (3, 204, 253), (5, 5, 204), (0, 204, 0), (1, 60, 119), (3, 159, 170), (3, 204, 250), (4, 204, 250), (1, 60, 250), (3, 5, 60), (1, 63, 250), (3, 204, 247), (3, 204, 240), (2, 5, 60), (1, 63, 190), (4, 204, 240), (5, 63, 170), (5, 60, 170), (1, 90, 102), (3, 143, 204), (1, 85, 204), (3, 170, 239), (1, 95, 102), (3, 183, 240), (1, 90, 204), (1, 95, 201), (1, 90, 238), (3, 17, 90), (1, 95, 204), (1, 95, 205), (1, 95, 238), (3, 191, 240), (1, 85, 240), (3, 170, 251), (1, 90, 119), (3, 159, 204), (5, 3, 170), (0, 170, 0), (3, 170, 252), (4, 170, 252), (1, 90, 252), (3, 3, 90), (3, 170, 240), (2, 3, 90), (1, 95, 252), (3, 170, 247), (1, 95, 222), (4, 170, 240), (1, 102, 240), (1, 119, 225), (1, 102, 250), (3, 5, 102), (1, 102, 252), (3, 3, 102), (3, 170, 204), (2, 3, 102), (1, 106, 252), (0, 150, 0), (3, 170, 192), (2, 3, 106), (3, 160, 204), (2, 5, 108), (1, 127, 238), (2, 15, 102), (1, 119, 240), (1, 119, 241), (1, 119, 250), (3, 191, 204), (1, 119, 252), (3, 170, 223), (1, 119, 246), (4, 170, 204), (3, 136, 240), (2, 17, 120), (1, 127, 250), (2, 51, 90), (1, 127, 252), (2, 60, 85), (2, 60, 90), (4, 136, 240), (1, 136, 240), (5, 60, 90), (1, 135, 170), (2, 3, 128), (1, 135, 204), (2, 5, 128), (1, 135, 238), (3, 119, 240), (1, 170, 204), (2, 1, 136), (1, 143, 170), (2, 3, 136), (1, 143, 204), (2, 5, 136), (1, 143, 238), (4, 119, 240), (1, 147, 240), (2, 17, 128), (1, 147, 250), (3, 95, 204), (1, 149, 252), (3, 63, 170), (3, 60, 170), (2, 3, 149), (3, 50, 170), (0, 102, 0), (3, 48, 170), (3, 87, 204), (3, 54, 170), (3, 55, 170), (2, 30, 136), (4, 102, 240), (1, 170, 240), (2, 1, 160), (1, 170, 179), (2, 3, 160), (3, 14, 170), (0, 90, 0), (3, 12, 170), (3, 87, 240), (1, 170, 252), (3, 3, 170), (0, 0, 0), (2, 3, 170), (3, 96, 204), (3, 7, 170), (2, 4, 170), (2, 5, 170), (1, 179, 240), (2, 17, 160), (1, 179, 250), (4, 95, 204), (3, 30, 170), (3, 31, 170), (2, 54, 160), (4, 90, 204), (3, 72, 240), (3, 19, 170), (2, 16, 170), (2, 17, 170), (2, 60, 136), (4, 90, 102), (2, 60, 170), (2, 63, 170), (1, 204, 240), (2, 1, 192), (3, 14, 204), (0, 60, 0), (1, 204, 213), (2, 5, 192), (3, 10, 204), (3, 55, 240), (1, 204, 250), (3, 5, 204), (3, 96, 170), (3, 7, 204), (0, 0, 0), (2, 5, 204), (2, 2, 204), (2, 3, 204), (1, 213, 240), (2, 17, 192), (3, 30, 204), (3, 31, 204), (1, 213, 252), (4, 63, 170), (2, 86, 192), (4, 60, 170), (3, 40, 240), (3, 21, 204), (2, 90, 136), (4, 60, 102), (2, 16, 204), (2, 17, 204), (2, 90, 204), (2, 95, 204), (1, 238, 240), (3, 17, 240), (3, 72, 170), (3, 19, 240), (3, 40, 204), (3, 21, 240), (2, 102, 160), (4, 60, 90), (1, 234, 252), (2, 136, 225), (2, 170, 192), (2, 65, 170), (2, 160, 204), (2, 33, 204), (2, 170, 204), (4, 17, 240), (0, 0, 0), (2, 17, 240), (2, 2, 240), (2, 3, 240), (2, 4, 240), (2, 5, 240), (2, 102, 240), (2, 119, 240), (2, 136, 240), (2, 9, 240), (2, 170, 240), (4, 5, 204), (2, 204, 240), (4, 3, 170), (2, 170, 252), (0, 0, 0)]].getD m []
theorem c_wit0 : ∀ m : Nat, m < 4 → ∀ f : Nat, f < onN m + 1 → cN m f = 0 ∨ cN m (onN m ^^^ f) + 1 = cN m f ∨ ((1 ≤ ((witN m).getD f (0, 0, 0)).1 ∧ ((witN m).getD f (0, 0, 0)).1 ≤ 5) ∧ ((witN m).getD f (0, 0, 0)).2.1 ≤ onN m ∧ ((witN m).getD f (0, 0, 0)).2.2 ≤ onN m ∧ opN ((witN m).getD f (0, 0, 0)).1 (onN m) ((witN m).getD f (0, 0, 0)).2.1 ((witN m).getD f (0, 0, 0)).2.2 = f ∧ cN m ((witN m).getD f (0, 0, 0)).2.1 + cN m ((witN m).getD f (0, 0, 0)).2.2 + 1 = cN m f) := by decide +kernel
theorem c_wit {m f : Nat} (hm : m < 4) (hf : f ≤ onN m) (h0 : 1 ≤ cN m f) : cN m (onN m ^^^ f) + 1 = cN m f ∨ ∃ k g h, (1 ≤ k ∧ k ≤ 5) ∧ g ≤ onN m ∧ h ≤ onN m ∧ opN k (onN m) g h = f ∧ cN m g + cN m h + 1 = cN m f := by
  rcases c_wit0 m hm f (by omega) with t | t | ⟨t1, t2, t3, t4, t5⟩
  · omega
  · exact Or.inl t
  · exact Or.inr ⟨_, _, _, t1, t2, t3, t4, t5⟩
theorem st2 : ∀ f : Nat, f < 16 → aor (f : Int) (ashl f (ashl 1 2)) = ((17 * f : Nat) : Int) := by decide +kernel
theorem st1 : ∀ f : Nat, f < 4 → aor (f : Int) (ashl f (ashl 1 1)) = ((5 * f : Nat) : Int) := by decide +kernel
theorem st0 : ∀ f : Nat, f < 2 → aor (f : Int) (ashl f (ashl 1 0)) = ((3 * f : Nat) : Int) := by decide +kernel
theorem price3 (f : Nat) (hf : f < 256) (n : Nat) (h : Hp) : lup2 XX2_price_b4 (n + 1) f 3 h = some (prcC f, h) := by
  unfold lup2 XX2_price_b4
  rw [if_pos (by decide), if_neg (by omega), if_pos (by omega), inb_pos (by omega), Int.toNat_natCast]
theorem price2 (f : Nat) (hf : f < 16) (n : Nat) (h : Hp) : lup2 XX2_price_b4 (n + 2) f 2 h = some (prcC (17 * f), h) := by
  show XX2_price_b4 (lup2 XX2_price_b4 (n + 1)) f 2 h = _
  unfold XX2_price_b4
  rw [if_neg (by decide), nm_eq, st2 f hf, chk_pos (by decide)]
  exact price3 (17 * f) (by omega) n h
theorem price1 (f : Nat) (hf : f < 4) (n : Nat) (h : Hp) : lup2 XX2_price_b4 (n + 3) f 1 h = some (prcC (17 * (5 * f)), h) := by
  show XX2_price_b4 (lup2 XX2_price_b4 (n + 2)) f 1 h = _
  unfold XX2_price_b4
  rw [if_neg (by decide), nm_eq, st1 f hf, chk_pos (by decide)]
  exact price2 (5 * f) (by omega) n h
theorem price0 (f : Nat) (hf : f < 2) (n : Nat) (h : Hp) : lup2 XX2_price_b4 (n + 4) f 0 h = some (prcC (17 * (5 * (3 * f))), h) := by
  show XX2_price_b4 (lup2 XX2_price_b4 (n + 3)) f 0 h = _
  unfold XX2_price_b4
  rw [if_neg (by decide), nm_eq, st0 f hf, chk_pos (by decide)]
  exact price1 (3 * f) (by omega) n h
theorem price_eq {m f : Nat} (hm : m < 4) (hf : f ≤ onN m) (h : Hp) : XX2_price m f h = some (((cN m f : Nat) : Int), h) := by
  rw [← (c_fact m hm f (by omega)).1]
  unfold XX2_price XX2_price_L4 cst wid
  rcases (by omega : m = 0 ∨ m = 1 ∨ m = 2 ∨ m = 3) with rfl | rfl | rfl | rfl
  · have hf : f ≤ 1 := hf
    exact (price0 f (by omega) 999996 h).trans (by congr 3; rw [if_neg (by decide), if_neg (by decide), if_neg (by decide)]; omega)
  · have hf : f ≤ 3 := hf
    exact (price1 f (by omega) 999997 h).trans (by congr 3; rw [if_neg (by decide), if_neg (by decide), if_pos (by decide)]; omega)
  · have hf : f ≤ 15 := hf
    exact (price2 f (by omega) 999998 h).trans (by congr 3; rw [if_neg (by decide), if_pos (by decide)]; omega)
  · have hf : f ≤ 255 := hf
    exact (price3 f (by omega) 999999 h).trans (by congr 3)
def pjS (j : Int) : Nat → Int
  | 0 => 0
  | p + 1 => aor (pjS j p) (ashl (aand (ashr p j) 1) p)
theorem pj_tab : ∀ m : Nat, m < 4 → ∀ j : Nat, j < m → pjS (j : Int) (2 ^ m) = pjT (m : Int) j ∧ 0 ≤ pjT (m : Int) j ∧ pjT (m : Int) j ≤ (onN m : Int) ∧ aand (al2i (cntC j)) (onN m : Int) = pjT (m : Int) j ∧ ashl 1 (m : Int) = ((2 ^ m : Nat) : Int) := by decide +kernel
theorem projection_eq {m j : Nat} (hm : m < 4) (hj : j < m) (h : Hp) : XX12_projection m j h = some (pjT m j, h) := by
  obtain ⟨p1, p2, p3', p4, p5⟩ := pj_tab m hm j hj
  have h8 := (on_eq m hm).2.2.2.1
  have : En (XX12_projection m j h) (fun r h1 => r = pjT m j ∧ h1 = h) := by
    unfold XX12_projection XX12_projection_L4
    refine En_lup4 (fun _ _ _ l3 _ => (8 - l3).toNat) (fun l0 l1 l2 l3 h1 => (m : Int) = l0 ∧ (j : Int) = l1 ∧ h = h1 ∧ 0 ≤ l3 ∧ l3 ≤ ((2 ^ m : Nat) : Int) ∧ l2 = pjS j l3.toNat) ?_ FU _ _ _ _ _ (by unfold FU; omega) ⟨rfl, rfl, rfl, by omega, Int.natCast_nonneg _, rfl⟩
    rintro self l0 l1 l2 l3 h1 ih ⟨rfl, rfl, rfl, c0, c1, c2⟩
    unfold XX12_projection_b4
    rw [p5]
    by_cases q : ((2 ^ m : Nat) : Int) ≤ l3
    · rw [if_pos q]
      refine En_some ⟨?_, rfl⟩
      rw [c2, show l3.toNat = 2 ^ m by omega, p1]
    · rw [if_neg q, nm_eq, chk_pos (by omega)]
      refine ih _ _ _ _ _ (by omega) ⟨rfl, rfl, rfl, by omega, by omega, ?_⟩
      rw [show (l3 + 1).toNat = l3.toNat + 1 by omega]
      show _ = aor (pjS j l3.toNat) (ashl (aand (ashr (l3.toNat : Int) j) 1) (l3.toNat : Int))
      rw [c2, show ((l3.toNat : Nat) : Int) = l3 by omega]
  obtain ⟨r, h1, e, rfl, rfl⟩ := this
  exact e
/-- which leaf a function is -/
theorem lf_eq {m f : Nat} (hm : m < 4) : lf m f = if f = 0 then 200 else if f = onN m then 201 else if 0 < m ∧ (f : Int) = pjT m 0 then 100 else if 1 < m ∧ (f : Int) = pjT m 1 then 101 else if 2 < m ∧ (f : Int) = pjT m 2 then 102 else -1 := by
  unfold lf
  rw [(on_eq m hm).1]
  by_cases q0 : f = 0
  · rw [if_pos (by omega), if_pos q0]
  rw [if_neg (by omega), if_neg q0]
  by_cases q1 : f = onN m
  · rw [if_pos (by omega), if_pos q1]
  rw [if_neg (by omega), if_neg q1]
  by_cases m0 : 0 < m ∧ (f : Int) = pjT m 0
  · rw [if_pos ⟨by omega, m0.2⟩, if_pos m0]
  rw [if_neg (fun t => m0 ⟨by omega, t.2⟩), if_neg m0]
  by_cases m1 : 1 < m ∧ (f : Int) = pjT m 1
  · rw [if_pos ⟨by omega, m1.2⟩, if_pos m1]
  rw [if_neg (fun t => m1 ⟨by omega, t.2⟩), if_neg m1]
  by_cases m2 : 2 < m ∧ (f : Int) = pjT m 2
  · rw [if_pos ⟨by omega, m2.2⟩, if_pos m2]
  rw [if_neg (fun t => m2 ⟨by omega, t.2⟩), if_neg m2]
/-- the leaves j, from l on -/
def lfJ (m f l : Nat) : Int := if l < m ∧ (f : Int) = pjT m l then 100 + l else if l + 1 < m ∧ (f : Int) = pjT m (l + 1) then 100 + (l + 1 : Nat) else if l + 2 < m ∧ (f : Int) = pjT m (l + 2) then 100 + (l + 2 : Nat) else -1
theorem lfJ_stop {m f l : Nat} (h : m ≤ l) : lfJ m f l = -1 := by
  unfold lfJ; rw [if_neg (by omega), if_neg (by omega), if_neg (by omega)]
theorem lfJ_next {m f l : Nat} (hm : m < 4) (h : l < m) (hne : ¬ (f : Int) = pjT m l) : lfJ m f l = lfJ m f (l + 1) := by
  unfold lfJ
  rw [if_neg (fun t => hne t.2), show l + 1 + 1 = l + 2 from rfl]
  by_cases q1 : l + 1 < m ∧ (f : Int) = pjT m (l + 1)
  · rw [if_pos q1, if_pos q1]
  rw [if_neg q1, if_neg q1]
  by_cases q2 : l + 2 < m ∧ (f : Int) = pjT m (l + 2)
  · rw [if_pos q2, if_pos q2]
  rw [if_neg q2, if_neg q2, if_neg (by omega)]
theorem lf_J {m f : Nat} (hm : m < 4) (h0 : f ≠ 0) (h1 : f ≠ onN m) : lf m f = lfJ m f 0 := by
  rw [lf_eq hm, if_neg h0, if_neg h1]
  rfl
theorem leafOf_eq {m f : Nat} (hm : m < 4) (hf : f ≤ onN m) (h : Hp) : XX2_leafOf m f h = some (lf m f, h) := by
  unfold XX2_leafOf
  by_cases q0 : f = 0
  · rw [if_pos (by omega), lf_eq hm, if_pos q0]
  rw [if_neg (by omega), ones_eq hm, cal_eq]
  by_cases q1 : f = onN m
  · rw [if_pos (by omega), lf_eq hm, if_neg q0, if_pos q1]
  rw [if_neg (by omega), lf_J hm q0 q1]
  have : En (XX2_leafOf_L22 m f 0 h) (fun r h1 => r = lfJ m f 0 ∧ h1 = h) := by
    unfold XX2_leafOf_L22
    refine En_lup3 (fun _ _ l2 _ => (4 - l2).toNat) (fun l0 l1 l2 h1 => (m : Int) = l0 ∧ (f : Int) = l1 ∧ h = h1 ∧ 0 ≤ l2 ∧ l2 ≤ m ∧ lfJ m f 0 = lfJ m f l2.toNat) ?_ FU _ _ _ _ (by unfold FU; omega) ⟨rfl, rfl, rfl, by omega, by omega, rfl⟩
    rintro self l0 l1 l2 h1 ih ⟨rfl, rfl, rfl, c0, c1, c2⟩
    obtain ⟨l, rfl⟩ := Int.eq_ofNat_of_zero_le c0
    rw [Int.toNat_natCast] at c2
    unfold XX2_leafOf_b22
    by_cases q : (m : Int) ≤ l
    · rw [if_pos q]
      exact En_some ⟨by rw [c2, lfJ_stop (by omega)], rfl⟩
    · rw [if_neg q, inb_pos (by omega), ones_eq hm, cal_eq, Int.toNat_natCast, (pj_tab m hm l (by omega)).2.2.2.1]
      by_cases qe : (f : Int) = pjT m l
      · rw [if_pos qe, chk_pos (by omega)]
        exact En_some ⟨by rw [c2]; unfold lfJ; rw [if_pos ⟨by omega, qe⟩], rfl⟩
      · rw [if_neg qe, chk_pos (by omega)]
        refine ih _ _ _ _ (by omega) ⟨rfl, rfl, rfl, by omega, by omega, ?_⟩
        rw [c2, lfJ_next hm (by omega) qe, show ((l : Int) + 1).toNat = l + 1 by omega]
  obtain ⟨r, h1, e, rfl, rfl⟩ := this
  exact e
