/-! row() and at(): these numbers, beyond every long, say that the method throws -/
def TH1 : Int := 2 ^ 70
def TH2 : Int := 2 ^ 71
def XX11_row (x0 x1 x2 : Int) (h : Hp) : OR :=
  cal (XX11_netOf x0 h) (fun r1 h2 => if (r1.toNat) = 0 then some (TH1, h2) else asr (r1.toNat = 17 ∨ r1.toNat = 27) (cal (XX8_isWire (r1.toNat + 1) x1 h2) (fun r4 h5 => if r4 = 0 then some (TH1, h5) else if x2 < 0 then some (TH1, h5) else if 4 ≤ x2 then some (TH1, h5) else cal (XX6_refresh (r1.toNat) h5) (fun r6 h7 => chk (4 * x1) (chk ((4 * x1) + x2) (inb ((4 * x1) + x2) 192 (inb x2 4 (some (jand (h7 (r1.toNat + 8) ((4 * x1) + x2).toNat) (h7 38 x2.toNat), h7)))))))))
def XX11_at (x0 x1 : Int) (h : Hp) : OR :=
  cal (XX11_isTape x0 h) (fun r1 h2 => if r1 = 0 then some (TH1, h2) else inb x0 6 (nmP (h2 98 x0.toNat).toNat (fun u3 => asr (u3 = 101 ∨ u3 = 108 ∨ u3 = 115 ∨ u3 = 122 ∨ u3 = 129 ∨ u3 = 136) (cal (XX10_isRow u3 h2) (fun r4 h5 => if r4 = 0 then some (TH2, h5) else inb x0 6 (nmP (h5 98 x0.toNat).toNat (fun u6 => asr (u6 = 101 ∨ u6 = 108 ∨ u6 = 115 ∨ u6 = 122 ∨ u6 = 129 ∨ u6 = 136) (cal (XX10_hasElement u6 x1 h5) (fun r7 h8 => if r7 = 0 then some (TH2, h8) else inb x0 6 (nmP (h8 98 x0.toNat).toNat (fun u9 => asr (u9 = 101 ∨ u9 = 108 ∨ u9 = 115 ∨ u9 = 122 ∨ u9 = 129 ∨ u9 = 136) (inb x1 256 (some (h8 (u9 + 1) x1.toNat, h8))))))))))))))
/-- both answer, or both refuse in the same way -/
def BothT (n : Nat) (h : Hp) (X Y : Hp → OR) : Prop := ∃ r v h1 h2, X h = some (r, h1) ∧ Y h1 = some (v, h2) ∧ Inv (n + 1) h2 ∧ ((r = TH1 ∧ h2 143 0 = 1) ∨ (r = TH2 ∧ h2 143 0 = 2) ∨ (inJ r ∧ v = r ∧ h2 143 0 = 0))
theorem rowL_ok {n : Nat} {h : Hp} (hI : Inv n h) {e : Int} (he : 0 ≤ e ∧ e < 2) {w part : Nat} (hw : w < 48) (hp : part < 4) : En (XX12_row_L51 e w part 0 (64 * part) h) (fun r h1 => h1 = h ∧ inJ r ∧ ∀ k, k < 64 → tb r k = (decide (((64 * part + k : Nat) : Int) < h 37 0) && tb (vM e part h w) k)) := by
  have hMS := Inv_MS hI
  have hnum := num_le hI
  obtain ⟨b0, b1, _⟩ := MN_lt hMS.1.1 (e := 0) (by omega)
  have hash : ashl 1 (sM h) = h 37 0 := by rw [ashl1 (by omega) (by omega), (Rel_s hI.2.1).1]; exact hI.2.2.2.1.1.1.symm
  unfold XX12_row_L51
  refine En_lup5 (fun _ _ _ _ l6 _ => (256 - l6).toNat) (fun l1 l2 l3 l4 l6 h1 => e = l1 ∧ (w : Int) = l2 ∧ (part : Int) = l3 ∧ h = h1 ∧ inJ l4 ∧ 64 * part ≤ l6 ∧ l6 ≤ 64 * part + 64 ∧ (l6 ≤ h 37 0 ∨ l6 = 64 * part) ∧ ∀ k : Nat, k < 64 → tb l4 k = (decide (((64 * part + k : Nat) : Int) < l6) && tb (vM e part h w) k)) ?_ FU _ _ _ _ _ _ (by unfold FU; omega) ⟨rfl, rfl, rfl, rfl, inJ_0, by omega, by omega, Or.inr rfl, fun k hk => by rw [tb_0, decide_eq_false (by omega)]; rfl⟩
  rintro self l1 l2 l3 l4 l6 h1 ih ⟨rfl, rfl, rfl, rfl, c0, c1, c2, c3, c4⟩
  unfold XX12_row_b51
  rw [chk_pos (by omega), chk_pos (by omega)]
  by_cases q : (64 * (part : Int)) + 64 ≤ l6
  · rw [if_pos q]
    refine En_some ⟨rfl, c0, fun k hk => ?_⟩
    rw [c4 k hk, decide_eq_true (show ((64 * part + k : Nat) : Int) < l6 by omega), decide_eq_true (show ((64 * part + k : Nat) : Int) < h 37 0 by omega)]
  rw [if_neg q, cases_eq hMS.1.1, cal_eq, hash]
  by_cases q2 : h 37 0 ≤ l6
  · rw [if_pos q2]
    refine En_some ⟨rfl, c0, fun k hk => ?_⟩
    rw [c4 k hk]
    by_cases t : ((64 * part + k : Nat) : Int) < l6
    · rw [decide_eq_true t, decide_eq_true (show ((64 * part + k : Nat) : Int) < h 37 0 by omega)]
    · rw [decide_eq_false t, decide_eq_false (show ¬ ((64 * part + k : Nat) : Int) < h 37 0 by omega)]
  rw [if_neg q2]
  obtain ⟨c, rfl⟩ := Int.eq_ofNat_of_zero_le (show 0 ≤ l6 by omega)
  rw [isAt_eq h he hw (by omega), cal_eq, show c / 64 = part by omega]
  have ed : (c : Int).tdiv 64 = ((c / 64 : Nat) : Int) := rfl
  have go : ∀ s1 : Int, (∀ k, k < 64 → tb s1 k = (decide (k = c % 64) && tb (vM e part h w) k)) → En (XX12_row_p96 self e w part c l4 s1 h) (fun r h1 => h1 = h ∧ inJ r ∧ ∀ k, k < 64 → tb r k = (decide (((64 * part + k : Nat) : Int) < h 37 0) && tb (vM e part h w) k)) := by
    intro s1 hs
    unfold XX12_row_p96
    rw [nm_eq, chk_pos (by omega)]
    refine ih _ _ _ _ _ _ (by omega) ⟨rfl, rfl, rfl, rfl, jor_in _ _, by omega, by omega, by omega, fun k hk => ?_⟩
    rw [tb_jor, c4 k hk, hs k hk]
    by_cases qk : k = c % 64
    · rw [decide_eq_true qk, decide_eq_false (show ¬ ((64 * part + k : Nat) : Int) < (c : Int) by omega), decide_eq_true (show ((64 * part + k : Nat) : Int) < (c : Int) + 1 by omega)]
      simp
    · rw [decide_eq_false qk]
      by_cases t : ((64 * part + k : Nat) : Int) < (c : Int)
      · rw [decide_eq_true t, decide_eq_true (show ((64 * part + k : Nat) : Int) < (c : Int) + 1 by omega)]; simp
      · rw [decide_eq_false t, decide_eq_false (show ¬ ((64 * part + k : Nat) : Int) < (c : Int) + 1 by omega)]; simp
  by_cases qt : tb (vM e part h w) (c % 64) = true
  · rw [if_pos qt, if_neg n10, ed, chk_pos (by omega), show (c : Int) - ((c / 64 : Nat) : Int) * 64 = ((c % 64 : Nat) : Int) by omega]
    refine go _ (fun k hk => ?_)
    rw [tb_pow (by omega) (by omega), Int.toNat_natCast]
    by_cases qk : k = c % 64
    · rw [qk, qt]; simp
    · simp [qk]
  · rw [if_neg qt, if_pos rfl]
    refine go _ (fun k hk => ?_)
    rw [tb_0]
    by_cases qk : k = c % 64
    · rw [qk, Bool.eq_false_iff.mpr qt]; simp
    · simp [qk]
theorem rowBad {n : Nat} {h : Hp} (hI : Inv n h) : XX12_row_p30 (wr h 143 0 0) = some (0, wr (wr h 143 0 0) 143 0 1) ∧ Inv (n + 1) (wr (wr h 143 0 0) 143 0 1) ∧ wr (wr h 143 0 0) 143 0 1 143 0 = 1 :=
  ⟨by unfold XX12_row_p30; rw [hm_eq], Inv_up (Inv_scr (fun a i hh => by rw [wq_ne (by omega), wq_ne (by omega)]) hI), wr_at⟩
def wB (p : Nat) (x1 x2 : Int) (h2 : Hp) : OR := cal (XX8_isWire (p + 1) x1 h2) (fun r4 h5 => if r4 = 0 then some (TH1, h5) else if x2 < 0 then some (TH1, h5) else if 4 ≤ x2 then some (TH1, h5) else cal (XX6_refresh p h5) (fun r6 h7 => chk (4 * x1) (chk ((4 * x1) + x2) (inb ((4 * x1) + x2) 192 (inb x2 4 (some (jand (h7 (p + 8) ((4 * x1) + x2).toNat) (h7 38 x2.toNat), h7)))))))
theorem Inv_thr {n : Nat} {h : Hp} (hI : Inv n h) (v : Int) : Inv n (wr h 143 0 v) := Inv_scr (fun a i hh => wq_ne (by omega)) hI
theorem rowN {n : Nat} {h : Hp} (hI : Inv n h) {e : Int} {p : Nat} {lim : Int} (hS : Side e p lim h) (x y : Int) : BothT n h (wB p x y) (XX12_row e x y) := by
  obtain ⟨hx, hN, s1, s2, s3, s4⟩ := id hS
  have hl : lim ≤ 40 := by omega
  have he : 0 ≤ e ∧ e < 2 := by omega
  have i0 := Inv_thr hI 0
  have hM0 := (Inv_MS i0).1.1
  have l0 := Pl_lt hl hN.1.1
  obtain ⟨z1, z2, z3⟩ := rowBad hI
  have n0 : nM e (wr h 143 0 0) = wn (p + 1) h := by rw [← s2]; exact nM_congr (wq_ne (by omega)) (wq_ne (by omega)) (wr_ne (by omega)) e
  by_cases q1 : 0 ≤ x ∧ x < wn (p + 1) h
  · by_cases q2 : 0 ≤ y ∧ y ≤ 3
    · obtain ⟨w, rfl⟩ := Int.eq_ofNat_of_zero_le q1.1
      obtain ⟨part, rfl⟩ := Int.eq_ofNat_of_zero_le q2.1
      obtain ⟨r1, h1, e1, i1, hS1, c1, c2, c3⟩ := refresh_Inv hI hS
      have x18 : h1 (p + 1) = h (p + 1) := funext (fun i => c3 _ i (by omega))
      have hw1 : (w : Int) < wn (p + 1) h1 := by rw [wn_congr x18]; exact q1.2
      have hcf : h1 (p + 8) (4 * w + part) = fN p h1 (part : Int) w := Cch_fN hS1.2.1 c1 (by omega) hw1
      have E1 : wB p w part h = some (jand (fN p h1 (part : Int) w) (h1 38 part), h1) := by
        unfold wB
        rw [isWire_eq hl hN.1.1, cal_eq, if1 q1, if_neg n10, if_neg (by omega), if_neg (by omega), e1, cal_eq, chk_pos (by omega), chk_pos (by omega), inb_pos (by omega), inb_pos (by omega), show (4 * (w : Int) + (part : Int)).toNat = 4 * w + part by omega, hcf, Int.toNat_natCast]
      have i1' := Inv_thr i1 0
      have hS1' : Side e p lim (wr h1 143 0 0) := Side_of i1' hS1
      obtain ⟨r2, h2, e2, i2, v2, f2⟩ := knows_Inv i1' hS1'
      obtain ⟨r3, h3, e3, rfl, jr, hr⟩ := rowL_ok i2 he (w := w) (part := part) (by omega) (by omega)
      have hM1 := (Inv_MS i1').1.1
      have fw : fN p (wr h1 143 0 0) (part : Int) w = fN p h1 (part : Int) w := by rw [fN_congr (fun a i hh => wq_ne (by omega))]
      have er : r3 = jand (fN p h1 (part : Int) w) (h1 38 part) := by
        refine tb_ext jr (jand_in _ _) (fun k hk => ?_)
        rw [hr k hk, v2 part w (by omega) (by rw [wn_congr (show wr h1 143 0 0 (p + 1) = h1 (p + 1) from wr_ne (by omega))]; exact hw1), fw, tb_jand, i1.2.2.2.1.1.2.2.1 part (by omega) k hk, f2 37 0 (by omega), wq_ne (by omega), Bool.and_comm]
      refine ⟨_, r3, h1, h3, E1, ?_, Inv_up i2, Or.inr (Or.inr ⟨jand_in _ _, er, by rw [f2 143 0 (by omega), wr_at]⟩)⟩
      unfold XX12_row
      rw [hm_eq, isNet_eq, cal_eq, if1 (by omega), if_neg n10, isWireM_eq hM1 he, cal_eq, hS1'.2.2.2.1, wn_congr (show wr h1 143 0 0 (p + 1) = h1 (p + 1) from wr_ne (by omega)), if1 ⟨by omega, hw1⟩, if_neg n10, in_eq, cal_eq, if1 q2, if_neg n10, e2, cal_eq, chk_pos (by omega), nm_eq]
      exact e3
    · refine ⟨TH1, 0, h, wr (wr h 143 0 0) 143 0 1, ?_, ?_, z2, Or.inl ⟨rfl, z3⟩⟩
      · unfold wB; rw [isWire_eq hl hN.1.1, cal_eq, if1 q1, if_neg n10]
        by_cases qy : y < 0
        · rw [if_pos qy]
        · rw [if_neg qy, if_pos (by omega)]
      · unfold XX12_row; rw [hm_eq, isNet_eq, cal_eq, if1 (by omega), if_neg n10, isWireM_eq hM0 he, cal_eq, n0, if1 q1, if_neg n10, in_eq, cal_eq, if0 q2, if_pos rfl]; exact z1
  · refine ⟨TH1, 0, h, wr (wr h 143 0 0) 143 0 1, ?_, ?_, z2, Or.inl ⟨rfl, z3⟩⟩
    · unfold wB; rw [isWire_eq hl hN.1.1, cal_eq, if0 q1, if_pos rfl]
    · unfold XX12_row; rw [hm_eq, isNet_eq, cal_eq, if1 (by omega), if_neg n10, isWireM_eq hM0 he, cal_eq, n0, if0 q1, if_pos rfl]; exact z1
theorem m_row {n : Nat} {h : Hp} (hI : Inv n h) (x y z : Int) : BothT n h (XX11_row x y z) (XX12_row x y z) := by
  by_cases q0 : x = 0
  · subst q0; exact rowN hI (Side_0 hI) y z
  by_cases q1 : x = 1
  · subst q1; exact rowN hI (Side_1 hI) y z
  obtain ⟨z1, z2, z3⟩ := rowBad hI
  refine ⟨TH1, 0, h, wr (wr h 143 0 0) 143 0 1, ?_, ?_, z2, Or.inl ⟨rfl, z3⟩⟩
  · unfold XX11_row; rw [netOfx q0 q1, cal_eq]; rfl
  · unfold XX12_row; rw [hm_eq, isNet_eq, cal_eq, if0 (by omega), if_pos rfl]; exact z1
theorem m_at {n : Nat} {h : Hp} (hI : Inv n h) (hj : ∀ d, d < 6 → ∀ i, i < 256 → inJ (h (101 + 7 * d + 1) i)) (x y : Int) : BothT n h (XX11_at x y) (XX12_at x y) := by
  have p52 : ∀ s : Int, s ≠ 0 → XX12_at_p52 x y s h = some (0, wr h 143 0 s) := fun s hs => by
    unfold XX12_at_p52; rw [hm_eq, wr_at, if_neg hs]
  by_cases q : 0 ≤ x ∧ x < 6
  · obtain ⟨d, rfl⟩ := Int.eq_ofNat_of_zero_le q.1
    obtain ⟨jd, t1, t2, t3, t4⟩ := hI.2.2.2.2.2.2.2.2.2.2.2.2.1 d (by omega)
    have I6 : ∀ X : OR, inb (d : Int) 6 X = X := fun X => inb_pos (by omega)
    have A6 : ∀ X : OR, asr (101 + 7 * d = 101 ∨ 101 + 7 * d = 108 ∨ 101 + 7 * d = 115 ∨ 101 + 7 * d = 122 ∨ 101 + 7 * d = 129 ∨ 101 + 7 * d = 136) X = X := fun X => asr_pos (tp_asr (by omega))
    have jd2 : (h 98 d).toNat = 101 + 7 * d := by omega
    by_cases qr : 1 ≤ h 171 d ∧ h 171 d ≤ 4
    · obtain ⟨u1, u2, u3, u4⟩ := t3 (by omega)
      by_cases qe : 0 ≤ y ∧ y < h 172 d
      · refine ⟨h (101 + 7 * d + 1) y.toNat, _, h, wr h 143 0 0, ?_, ?_, Inv_up (Inv_thr hI 0), Or.inr (Or.inr ⟨hj d (by omega) _ (by omega), rfl, wr_at⟩)⟩
        · unfold XX11_at; simp only [isTape_eq, cal_eq, if1 q, if_neg n10, I6, nmP_eq, Int.toNat_natCast, jd2, A6]
          rw [isRow_eq, cal_eq, if1 (by rw [t1]; exact qr), if_neg n10]
          simp only [I6, nmP_eq, Int.toNat_natCast, jd2, A6]
          rw [hasElement_eq, cal_eq, if1 (by rw [u1]; exact qe), if_neg n10]
          simp only [I6, nmP_eq, Int.toNat_natCast, jd2, A6]
          rw [inb_pos (by omega)]
        · unfold XX12_at; simp only [isTapeM_eq, cal_eq, if1 q, if_neg n10, I6, Int.toNat_natCast]
          rw [if_neg (by omega), if_neg (by omega), chk_pos (by omega), in_eq, cal_eq, if1 (by omega), if_neg n10]
          unfold XX12_at_p52
          rw [hm_eq, wr_at, if_pos rfl, chk_pos (by omega), chk_pos (by omega), inb_pos (by omega), wq_ne (by omega), show (256 * (d : Int) + y).toNat = 256 * d + y.toNat by omega, ← u4 y.toNat (by omega)]
      · refine ⟨TH2, 0, h, wr h 143 0 2, ?_, ?_, Inv_up (Inv_thr hI 2), Or.inr (Or.inl ⟨rfl, wr_at⟩)⟩
        · unfold XX11_at; simp only [isTape_eq, cal_eq, if1 q, if_neg n10, I6, nmP_eq, Int.toNat_natCast, jd2, A6]
          rw [isRow_eq, cal_eq, if1 (by rw [t1]; exact qr), if_neg n10]
          simp only [I6, nmP_eq, Int.toNat_natCast, jd2, A6]
          rw [hasElement_eq, cal_eq, if0 (by rw [u1]; exact qe), if_pos rfl]
        · unfold XX12_at; simp only [isTapeM_eq, cal_eq, if1 q, if_neg n10, I6, Int.toNat_natCast]
          rw [if_neg (by omega), if_neg (by omega), chk_pos (by omega), in_eq, cal_eq, if0 (by omega), if_pos rfl]
          unfold XX12_at_p47
          exact p52 2 (by decide)
    · refine ⟨TH2, 0, h, wr h 143 0 2, ?_, ?_, Inv_up (Inv_thr hI 2), Or.inr (Or.inl ⟨rfl, wr_at⟩)⟩
      · unfold XX11_at; simp only [isTape_eq, cal_eq, if1 q, if_neg n10, I6, nmP_eq, Int.toNat_natCast, jd2, A6]
        rw [isRow_eq, cal_eq, if0 (by rw [t1]; exact qr), if_pos rfl]
      · unfold XX12_at; simp only [isTapeM_eq, cal_eq, if1 q, if_neg n10, I6, Int.toNat_natCast]
        unfold XX12_at_p47
        by_cases qz : h 171 d = 0
        · rw [if_pos qz]; exact p52 2 (by decide)
        · rw [if_neg qz, if_pos (by omega)]; exact p52 2 (by decide)
  · refine ⟨TH1, 0, h, wr h 143 0 1, ?_, ?_, Inv_up (Inv_thr hI 1), Or.inl ⟨rfl, wr_at⟩⟩
    · unfold XX11_at; rw [isTape_eq, cal_eq, if0 q, if_pos rfl]
    · unfold XX12_at; rw [isTapeM_eq, cal_eq, if0 q, if_pos rfl]; exact p52 1 (by decide)
