/-- the cell that the law itself makes -/
theorem Inv_203 {n : Nat} {h g : Hp} (e : ∀ a i, a ≠ 206 → g a i = h a i) (hI : Inv n h) : Inv n g := by
  obtain ⟨i1, i2, i3, i4, i5, i6, i7, i8, i9, i10, i11, i12, i13, i14, i15⟩ := hI
  refine ⟨J1_tr (fun a i hh => e a i (by omega)) i1, RelN_congr (fun a i hh => e a i (by omega)) i2, J2_tr (fun a i hh => e a i (by omega)) i3, J3_tr (fun a i hh => e a i (by omega)) i4, J4_tr (fun a i hh => e a i (by omega)) i5, J5_tr (fun a i hh => e a i (by omega)) i6, J6_tr (fun a i hh => e a i (by omega)) i7, ?_, J8_tr (fun a i hh => e a i (by omega)) i9, J9_tr (fun a i hh => e a i (by omega)) i10, J10_tr (fun a i hh => e a i (by omega)) i11, J11_tr (fun a i hh => e a i (by omega)) i12, J12_tr (fun a i hh => e a i (by omega)) i13, J13_tr (fun a i hh => e a i (by omega)) i14, J14_tr (fun a i hh => e a i (by omega)) i15⟩
  unfold J7
  rw [e 16 15 (by omega), e 143 57 (by omega)]
  exact i8
/-- both answer, or both refuse in the same way; between the two the law writes into its own cell -/
def BothU (two : Prop) (n : Nat) (h : Hp) (X Y : Hp → OR) : Prop := ∃ r h1, X h = some (r, h1) ∧ (r = TH1 ∨ (two ∧ r = TH2) ∨ inJ r) ∧ ∀ g : Hp, (∀ a i, a ≠ 206 → g a i = h1 a i) → ∃ v h2, Y g = some (v, h2) ∧ Inv (n + 1) h2 ∧ ((r = TH1 ∧ h2 143 0 = 1) ∨ (two ∧ r = TH2 ∧ h2 143 0 = 2) ∨ (inJ r ∧ v = r ∧ h2 143 0 = 0))
theorem u_rowN {n : Nat} {h : Hp} (hI : Inv n h) {e : Int} {p : Nat} {lim : Int} (hS : Side e p lim h) (x y : Int) : BothU False n h (wB p x y) (XX12_row e x y) := by
  obtain ⟨hx, hN, s1, s2, s3, s4⟩ := id hS
  have hl : lim ≤ 40 := by omega
  have he : 0 ≤ e ∧ e < 2 := by omega
  have l0 := Pl_lt hl hN.1.1
  by_cases q1 : 0 ≤ x ∧ x < wn (p + 1) h
  · by_cases q2 : 0 ≤ y ∧ y ≤ 3
    · obtain ⟨w, rfl⟩ := Int.eq_ofNat_of_zero_le q1.1
      obtain ⟨part, rfl⟩ := Int.eq_ofNat_of_zero_le q2.1
      obtain ⟨r1, h1, e1, i1, hS1, c1, c2, c3⟩ := refresh_Inv hI hS
      have x18 : h1 (p + 1) = h (p + 1) := funext (fun i => c3 _ i (by omega))
      have hw1 : (w : Int) < wn (p + 1) h1 := by rw [wn_congr x18]; exact q1.2
      have hcf : h1 (p + 8) (4 * w + part) = fN p h1 (part : Int) w := Cch_fN hS1.2.1 c1 (by omega) hw1
      have E1 : wB p w part h = some (jand (fN p h1 (part : Int) w) (h1 38 part), h1) := by
        unfold wB
        rw [isWire_eq hl hN.1.1, cal_eq, if1 q1, if_neg n10, if_neg (by omega), if_neg (by omega), e1, cal_eq, chk_pos (by omega), chk_pos (by omega), inb_pos (by omega), inb_pos (by omega), show (4 * (w : Int) + (part : Int)).toNat = 4 * w + part by omega, hcf, Int.toNat_natCast]
      refine ⟨_, h1, E1, Or.inr (Or.inr (jand_in _ _)), fun g hg => ?_⟩
      have ig : Inv n g := Inv_203 hg i1
      have hSg : Side e p lim g := Side_of ig hS1
      have i1' := Inv_thr ig 0
      have hS1' : Side e p lim (wr g 143 0 0) := Side_of i1' hSg
      obtain ⟨r2, h2, e2, i2, v2, f2⟩ := knows_Inv i1' hS1'
      obtain ⟨r3, h3, e3, rfl, jr, hr⟩ := rowL_ok i2 he (w := w) (part := part) (by omega) (by omega)
      have hM1 := (Inv_MS i1').1.1
      have wg : ∀ a i, a ≠ 206 → ¬ (a = 143 ∧ i = 0) → wr g 143 0 0 a i = h1 a i := fun a i h1 h2 => by rw [wq_ne h2, hg a i h1]
      have wgn : wn (p + 1) (wr g 143 0 0) = wn (p + 1) h1 := wn_congr (funext (fun i => wg _ i (by omega) (by omega)))
      have fw : fN p (wr g 143 0 0) (part : Int) w = fN p h1 (part : Int) w := by rw [fN_congr (fun a i hh => wg a i (by omega) (by omega))]
      have er : r3 = jand (fN p h1 (part : Int) w) (h1 38 part) := by
        refine tb_ext jr (jand_in _ _) (fun k hk => ?_)
        rw [hr k hk, v2 part w (by omega) (by rw [wgn]; exact hw1), fw, tb_jand, i1.2.2.2.1.1.2.2.1 part (by omega) k hk, f2 37 0 (by omega), wg 37 0 (by omega) (by omega), Bool.and_comm]
      refine ⟨r3, h3, ?_, Inv_up i2, Or.inr (Or.inr ⟨jand_in _ _, er, by rw [f2 143 0 (by omega), wr_at]⟩)⟩
      unfold XX12_row
      rw [hm_eq, isNet_eq, cal_eq, if1 (by omega), if_neg n10, isWireM_eq hM1 he, cal_eq, hS1'.2.2.2.1, wgn, if1 ⟨by omega, hw1⟩, if_neg n10, in_eq, cal_eq, if1 q2, if_neg n10, e2, cal_eq, chk_pos (by omega), nm_eq]
      exact e3
    · refine ⟨TH1, h, ?_, Or.inl rfl, fun g hg => ?_⟩
      · unfold wB; rw [isWire_eq hl hN.1.1, cal_eq, if1 q1, if_neg n10]
        by_cases qy : y < 0
        · rw [if_pos qy]
        · rw [if_neg qy, if_pos (by omega)]
      · have ig : Inv n g := Inv_203 hg hI
        obtain ⟨z1, z2, z3⟩ := rowBad ig
        have hM0 := (Inv_MS (Inv_thr ig 0)).1.1
        have n0 : nM e (wr g 143 0 0) = wn (p + 1) h := by rw [← s2, nM_congr (h := g) (wq_ne (by omega)) (wq_ne (by omega)) (wr_ne (by omega)) e]; exact nM_congr (hg _ _ (by omega)) (hg _ _ (by omega)) (funext (fun i => hg _ i (by omega))) e
        refine ⟨0, _, ?_, z2, Or.inl ⟨rfl, z3⟩⟩
        unfold XX12_row; rw [hm_eq, isNet_eq, cal_eq, if1 (by omega), if_neg n10, isWireM_eq hM0 he, cal_eq, n0, if1 q1, if_neg n10, in_eq, cal_eq, if0 q2, if_pos rfl]; exact z1
  · refine ⟨TH1, h, ?_, Or.inl rfl, fun g hg => ?_⟩
    · unfold wB; rw [isWire_eq hl hN.1.1, cal_eq, if0 q1, if_pos rfl]
    · have ig : Inv n g := Inv_203 hg hI
      obtain ⟨z1, z2, z3⟩ := rowBad ig
      have hM0 := (Inv_MS (Inv_thr ig 0)).1.1
      have n0 : nM e (wr g 143 0 0) = wn (p + 1) h := by rw [← s2, nM_congr (h := g) (wq_ne (by omega)) (wq_ne (by omega)) (wr_ne (by omega)) e]; exact nM_congr (hg _ _ (by omega)) (hg _ _ (by omega)) (funext (fun i => hg _ i (by omega))) e
      refine ⟨0, _, ?_, z2, Or.inl ⟨rfl, z3⟩⟩
      unfold XX12_row; rw [hm_eq, isNet_eq, cal_eq, if1 (by omega), if_neg n10, isWireM_eq hM0 he, cal_eq, n0, if0 q1, if_pos rfl]; exact z1
theorem u_row {n : Nat} {h : Hp} (hI : Inv n h) (x y z : Int) : BothU False n h (XX11_row x y z) (XX12_row x y z) := by
  by_cases q0 : x = 0
  · subst q0; exact u_rowN hI (Side_0 hI) y z
  by_cases q1 : x = 1
  · subst q1; exact u_rowN hI (Side_1 hI) y z
  refine ⟨TH1, h, ?_, Or.inl rfl, fun g hg => ?_⟩
  · unfold XX11_row; rw [netOfx q0 q1, cal_eq]; rfl
  · obtain ⟨z1, z2, z3⟩ := rowBad (Inv_203 hg hI)
    refine ⟨0, _, ?_, z2, Or.inl ⟨rfl, z3⟩⟩
    unfold XX12_row; rw [hm_eq, isNet_eq, cal_eq, if0 (by omega), if_pos rfl]; exact z1
theorem u_at {n : Nat} {h : Hp} (hI : Inv n h) (hj : ∀ d, d < 6 → ∀ i, i < 256 → inJ (h (101 + 7 * d + 1) i)) (x y : Int) : BothU True n h (XX11_at x y) (XX12_at x y) := by
  have p52 : ∀ (g : Hp) (s : Int), s ≠ 0 → XX12_at_p52 x y s g = some (0, wr g 143 0 s) := fun g s hs => by
    unfold XX12_at_p52; rw [hm_eq, wr_at, if_neg hs]
  by_cases q : 0 ≤ x ∧ x < 6
  · obtain ⟨d, rfl⟩ := Int.eq_ofNat_of_zero_le q.1
    obtain ⟨jd, t1, t2, t3, t4⟩ := hI.2.2.2.2.2.2.2.2.2.2.2.2.1 d (by omega)
    have I6 : ∀ X : OR, inb (d : Int) 6 X = X := fun X => inb_pos (by omega)
    have A6 : ∀ X : OR, asr (101 + 7 * d = 101 ∨ 101 + 7 * d = 108 ∨ 101 + 7 * d = 115 ∨ 101 + 7 * d = 122 ∨ 101 + 7 * d = 129 ∨ 101 + 7 * d = 136) X = X := fun X => asr_pos (tp_asr (by omega))
    have jd2 : (h 98 d).toNat = 101 + 7 * d := by omega
    by_cases qr : 1 ≤ h 171 d ∧ h 171 d ≤ 4
    · obtain ⟨u1, u2, u3, u4⟩ := t3 (by omega)
      by_cases qe : 0 ≤ y ∧ y < h 172 d
      · refine ⟨h (101 + 7 * d + 1) y.toNat, h, ?_, Or.inr (Or.inr (hj d (by omega) _ (by omega))), fun g hg => ⟨_, wr g 143 0 0, ?_, Inv_up (Inv_thr (Inv_203 hg hI) 0), Or.inr (Or.inr ⟨hj d (by omega) _ (by omega), rfl, wr_at⟩)⟩⟩
        · unfold XX11_at; simp only [isTape_eq, cal_eq, if1 q, if_neg n10, I6, nmP_eq, Int.toNat_natCast, jd2, A6]
          rw [isRow_eq, cal_eq, if1 (by rw [t1]; exact qr), if_neg n10]
          simp only [I6, nmP_eq, Int.toNat_natCast, jd2, A6]
          rw [hasElement_eq, cal_eq, if1 (by rw [u1]; exact qe), if_neg n10]
          simp only [I6, nmP_eq, Int.toNat_natCast, jd2, A6]
          rw [inb_pos (by omega)]
        · unfold XX12_at; simp only [isTapeM_eq, cal_eq, if1 q, if_neg n10, I6, Int.toNat_natCast]
          rw [hg 171 d (by omega), hg 172 d (by omega), if_neg (by omega), if_neg (by omega), chk_pos (by omega), in_eq, cal_eq, if1 (by omega), if_neg n10]
          unfold XX12_at_p52
          rw [hm_eq, wr_at, if_pos rfl, chk_pos (by omega), chk_pos (by omega), inb_pos (by omega), wq_ne (by omega), hg 173 _ (by omega), show (256 * (d : Int) + y).toNat = 256 * d + y.toNat by omega, ← u4 y.toNat (by omega)]
      · refine ⟨TH2, h, ?_, Or.inr (Or.inl ⟨trivial, rfl⟩), fun g hg => ⟨0, wr g 143 0 2, ?_, Inv_up (Inv_thr (Inv_203 hg hI) 2), Or.inr (Or.inl ⟨trivial, rfl, wr_at⟩)⟩⟩
        · unfold XX11_at; simp only [isTape_eq, cal_eq, if1 q, if_neg n10, I6, nmP_eq, Int.toNat_natCast, jd2, A6]
          rw [isRow_eq, cal_eq, if1 (by rw [t1]; exact qr), if_neg n10]
          simp only [I6, nmP_eq, Int.toNat_natCast, jd2, A6]
          rw [hasElement_eq, cal_eq, if0 (by rw [u1]; exact qe), if_pos rfl]
        · unfold XX12_at; simp only [isTapeM_eq, cal_eq, if1 q, if_neg n10, I6, Int.toNat_natCast]
          rw [hg 171 d (by omega), hg 172 d (by omega), if_neg (by omega), if_neg (by omega), chk_pos (by omega), in_eq, cal_eq, if0 (by omega), if_pos rfl]
          unfold XX12_at_p47
          exact p52 g 2 (by decide)
    · refine ⟨TH2, h, ?_, Or.inr (Or.inl ⟨trivial, rfl⟩), fun g hg => ⟨0, wr g 143 0 2, ?_, Inv_up (Inv_thr (Inv_203 hg hI) 2), Or.inr (Or.inl ⟨trivial, rfl, wr_at⟩)⟩⟩
      · unfold XX11_at; simp only [isTape_eq, cal_eq, if1 q, if_neg n10, I6, nmP_eq, Int.toNat_natCast, jd2, A6]
        rw [isRow_eq, cal_eq, if0 (by rw [t1]; exact qr), if_pos rfl]
      · unfold XX12_at; simp only [isTapeM_eq, cal_eq, if1 q, if_neg n10, I6, Int.toNat_natCast]
        unfold XX12_at_p47
        rw [hg 171 d (by omega)]
        by_cases qz : h 171 d = 0
        · rw [if_pos qz]; exact p52 g 2 (by decide)
        · rw [if_neg qz, if_pos (by omega)]; exact p52 g 2 (by decide)
  · refine ⟨TH1, h, ?_, Or.inl rfl, fun g hg => ⟨0, wr g 143 0 1, ?_, Inv_up (Inv_thr (Inv_203 hg hI) 1), Or.inl ⟨rfl, wr_at⟩⟩⟩
    · unfold XX11_at; rw [isTape_eq, cal_eq, if0 q, if_pos rfl]
    · unfold XX12_at; rw [isTapeM_eq, cal_eq, if0 q, if_pos rfl]; exact p52 g 1 (by decide)
