theorem cntB_not (f : Nat → Bool) (n : Nat) : cntB f n + cntB (fun i => !f i) n = n := by
  induction n with
  | zero => rfl
  | succ n ih => unfold cntB; cases f n <;> simp <;> omega
theorem cntB_ext0 {f : Nat → Bool} {n m : Nat} (hm : n ≤ m) (h : ∀ i, n ≤ i → i < m → f i = false) : cntB f m = cntB f n := by
  obtain ⟨d, rfl⟩ := Nat.exists_eq_add_of_le hm
  rw [cntB_add, cntB_none (f := fun j => f (n + j)) (fun i hi => h (n + i) (by omega) (by omega))]
  rfl
theorem freeCount_eq {h : Hp} (hC : Cas h) (hN : Nums 40 18 h) : XX0_freeCount h = some (((cntB (fun c => !live h c) (h 37 0).toNat : Nat) : Int), h) := by
  obtain ⟨n0, n1, n2, n3, n4⟩ := Cas_num hC hN
  have e4 : cntB (live h) 256 = cntB (tb (h 39 0)) 64 + cntB (tb (h 39 1)) 64 + cntB (tb (h 39 2)) 64 + cntB (tb (h 39 3)) 64 := by
    rw [show (256 : Nat) = 64 + 192 from rfl, cntB_add, show (192 : Nat) = 64 + 128 from rfl, cntB_add, show (128 : Nat) = 64 + 64 from rfl, cntB_add]
    have g : ∀ (k : Nat) (f : Nat → Bool), (∀ j, j < 64 → f j = live h (64 * k + j)) → cntB f 64 = cntB (tb (h 39 k)) 64 := by
      intro k f hf
      refine cntB_congr (fun j hj => ?_)
      rw [hf j hj]
      unfold live
      rw [show (64 * k + j) / 64 = k by omega, show (64 * k + j) % 64 = j by omega]
    rw [g 0 (live h) (fun j _ => by rw [Nat.mul_zero, Nat.zero_add]), g 1 (fun j => live h (64 + j)) (fun j _ => rfl), g 2 (fun j => live h (64 + (64 + j))) (fun j _ => by congr 1; omega), g 3 (fun j => live h (64 + (64 + (64 + j)))) (fun j _ => by congr 1; omega)]
    omega
  have eN : cntB (live h) 256 = cntB (live h) (h 37 0).toNat := by
    refine cntB_ext0 (by omega) (fun i hi hi2 => ?_)
    refine Bool.eq_false_iff.mpr (fun ht => ?_)
    have := hC.2.2.2.2 (i / 64) (by omega) (i % 64) (by omega) ht
    omega
  have eF := cntB_not (live h) (h 37 0).toNat
  have c0 := cntB_le (tb (h 39 0)) 64
  have c1 := cntB_le (tb (h 39 1)) 64
  have c2 := cntB_le (tb (h 39 2)) 64
  have c3 := cntB_le (tb (h 39 3)) 64
  have : ∀ F : Nat, XX0_freeCount_L7 (h 37 0) 0 h = lup2 XX0_freeCount_b7 (999995 + 5) (h 37 0) 0 h := fun _ => rfl
  unfold XX0_freeCount
  rw [nm_eq, this 0]
  unfold lup2 XX0_freeCount_b7
  rw [if_neg (by decide), inb_pos (by decide), bitCount_eq, cal_eq, bcf_cnt, show (0 : Int).toNat = 0 from rfl, chk_pos (by omega), nm_eq, chk_pos (by decide)]
  unfold lup2
  rw [if_neg (by decide), inb_pos (by decide), bitCount_eq, cal_eq, bcf_cnt, show ((0 : Int) + 1).toNat = 1 from rfl, chk_pos (by omega), nm_eq, chk_pos (by decide)]
  unfold lup2
  rw [if_neg (by decide), inb_pos (by decide), bitCount_eq, cal_eq, bcf_cnt, show ((0 : Int) + 1 + 1).toNat = 2 from rfl, chk_pos (by omega), nm_eq, chk_pos (by decide)]
  unfold lup2
  rw [if_neg (by decide), inb_pos (by decide), bitCount_eq, cal_eq, bcf_cnt, show ((0 : Int) + 1 + 1 + 1).toNat = 3 from rfl, chk_pos (by omega), nm_eq, chk_pos (by decide)]
  unfold lup2
  rw [if_pos (by decide)]
  congr 2
  omega
theorem countL_ok {h : Hp} (hM : MN h) : En (XX12_count_L91 0 0 h) (fun r h1 => h1 = h ∧ r = (cntB (fun c => decide (¬ h 149 c = 0)) (2 ^ (sM h).toNat) : Nat)) := by
  obtain ⟨b0, b1, _⟩ := MN_lt hM (e := 0) (by omega)
  have hash : ashl 1 (sM h) = 2 ^ (sM h).toNat := ashl1 (by omega) (by omega)
  have hpl := pow_list b0 b1
  have hpn : ((2 ^ (sM h).toNat : Nat) : Int) = (2 : Int) ^ (sM h).toNat := by rw [Int.natCast_pow]; rfl
  unfold XX12_count_L91
  refine En_lup2 (fun _ l3 _ => (256 - l3).toNat) (fun l2 l3 h1 => h = h1 ∧ 0 ≤ l3 ∧ l3 ≤ 2 ^ (sM h).toNat ∧ l2 = (cntB (fun c => decide (¬ h 149 c = 0)) l3.toNat : Nat)) ?_ FU _ _ _ (by unfold FU; omega) ⟨rfl, by omega, by omega, rfl⟩
  rintro self l2 l3 h1 ih ⟨rfl, c0, c1, c2⟩
  unfold XX12_count_b91
  rw [cases_eq hM, cal_eq, hash]
  by_cases q : (2 : Int) ^ (sM h).toNat ≤ l3
  · rw [if_pos q]
    refine En_some ⟨rfl, ?_⟩
    rw [c2, show l3.toNat = 2 ^ (sM h).toNat by omega]
  rw [if_neg q, inb_pos (by omega)]
  have hle := cntB_le (fun c => decide (¬ h 149 c = 0)) l3.toNat
  have hs : cntB (fun c => decide (¬ h 149 c = 0)) (l3 + 1).toNat = cntB (fun c => decide (¬ h 149 c = 0)) l3.toNat + if decide (¬ h 149 l3.toNat = 0) = true then 1 else 0 := by
    rw [show (l3 + 1).toNat = l3.toNat + 1 by omega]; rfl
  by_cases q2 : h 149 l3.toNat = 0
  · rw [if_pos q2]
    unfold XX12_count_p114
    rw [chk_pos (by omega), nm_eq, chk_pos (by omega)]
    refine ih _ _ _ (by omega) ⟨rfl, by omega, by omega, ?_⟩
    rw [hs, q2]; simp [c2]
  · rw [if_neg q2]
    unfold XX12_count_p114
    rw [chk_pos (by omega), nm_eq, chk_pos (by omega)]
    refine ih _ _ _ (by omega) ⟨rfl, by omega, by omega, ?_⟩
    rw [hs]; simp [q2, c2]
theorem m_count {n : Nat} {h : Hp} (hI : Inv n h) (x : Int) : Both n h (XX11_count x) (XX12_count x) := by
  obtain ⟨i1, i2, i3, i4, i5, i6, i7, i8, i9, i10, i11, i12, i13, i14, i15⟩ := id hI
  by_cases q5 : x = 5
  · subst q5
    obtain ⟨r, h1, e1, rfl, er⟩ := countL_ok (Inv_MS hI).1.1
    have hnum := num_le hI
    have hn : h1 37 0 = 2 ^ (sM h1).toNat := by rw [(Rel_s hI.2.1).1]; exact i4.1.1
    have hnn : (h1 37 0).toNat = 2 ^ (sM h1).toNat := by
      have : ((2 ^ (sM h1).toNat : Nat) : Int) = (2 : Int) ^ (sM h1).toNat := by rw [Int.natCast_pow]; rfl
      omega
    refine Both_ro (r := r) ?_ ?_ hI
    · unfold XX11_count
      rw [if_neg (by decide), if_neg (by decide), if_neg (by decide), if_neg (by decide), if_neg (by decide), if_pos rfl, freeCount_eq i4.1 (Inv_N0 hI), cal_eq, er, ← hnn]
      congr 3
      refine cntB_congr (fun c hc => ?_)
      rw [i4.2.2 c (by omega)]
      by_cases t : h1 149 c = 0
      · simp [t]
      · simp [t]
    · unfold XX12_count
      rw [if_neg (by decide), if_neg (by decide), if_neg (by decide), if_neg (by decide), if_neg (by decide), if_pos rfl, e1]
  · have r := i2.1
    have r2 := i2.2.1
    refine Both_ro (r := if x = 0 then h 18 0 else if x = 1 then h 18 1 else if x = 2 then h 18 2 else if x = 3 then h 18 3 else if x = 4 then h 28 3 else if x = 6 then h 67 0 else if x = 7 then h 72 2 else if x = 8 then h 72 4 else if x = 9 then h 72 6 else if x = 10 then h 16 15 else -1) ?_ ?_ hI
    · unfold XX11_count; rw [if_neg q5]; repeat' split
      all_goals first | rfl | omega
    · unfold XX12_count
      rw [if_neg q5, inb_pos (by decide), inb_pos (by decide), r.1, r.2.1, r.2.2.1, r.2.2.2, r2.2.2.2, i8.1, i10.1, i11.1, i12.1.1, i12.2.2.1.1]
      repeat' split
      all_goals first | rfl | omega
