theorem sameShape_eq (p x : Nat) (h : Hp) : XX8_sameShape p x h = some (if h p 0 = h x 0 ∧ h p 1 = h x 1 ∧ h p 2 = h x 2 then 1 else 0, h) := by
  unfold XX8_sameShape
  by_cases q0 : h p 0 = h x 0
  · rw [if_pos q0]
    by_cases q1 : h p 1 = h x 1
    · rw [if_pos q1]
      by_cases q2 : h p 2 = h x 2
      · rw [if_pos q2, zb_1, if_pos ⟨q0, q1, q2⟩]
      · rw [if_neg q2, zb_0, if_neg (fun t => q2 t.2.2)]
    · rw [if_neg q1, zb_0, if_neg (fun t => q1 t.2.1)]
  · rw [if_neg q0, zb_0, if_neg (fun t => q0 t.1)]
theorem m_back {n : Nat} {h : Hp} (hI : Inv n h) (hn : n ≤ 1000) (x : Int) : Both n h (XX11_back x) (XX12_back x) := by
  by_cases q : 0 ≤ x ∧ x < 6
  · obtain ⟨d, rfl⟩ := Int.eq_ofNat_of_zero_le q.1
    have hd : d < 6 := by omega
    obtain ⟨i1, i2, i3, i4, i5, i6, i7, i8, i9, i10, i11, i12, i13, i14, i15⟩ := id hI
    obtain ⟨jd, t1, t2, t3, t4⟩ := i13 d hd
    have I6 : ∀ X : OR, inb (d : Int) 6 X = X := fun X => inb_pos (by omega)
    have I10 : ∀ X : OR, inb (d : Int) 10 X = X := fun X => inb_pos (by omega)
    have A6 : ∀ X : OR, asr (101 + 7 * d = 101 ∨ 101 + 7 * d = 108 ∨ 101 + 7 * d = 115 ∨ 101 + 7 * d = 122 ∨ 101 + 7 * d = 129 ∨ 101 + 7 * d = 136) X = X := fun X => asr_pos (tp_asr (by omega))
    have jd2 : (h 98 d).toNat = 101 + 7 * d := by omega
    have w : ∀ a i, a ≠ 16 → wr h 16 15 (h 16 15 + 1) a i = h a i := fun a i ha => by rw [wr_ne ha]
    by_cases q0 : h 171 d = 0
    · refine Both_ref hI hn (-11) ?_ ?_
      · unfold XX11_back XX11_imageFault; simp only [isTape_eq, cal_eq, if1 q, if_neg n10, I6, nmP_eq, Int.toNat_natCast, jd2, A6]
        rw [if_pos (show h (101 + 7 * d) 0 = 0 by rw [t1]; exact q0), cal_eq, if_neg (by decide), cal_id, refused_eq hI hn]
      · unfold XX12_back; simp only [isTapeM_eq, cal_eq, if1 q, if_neg n10, I6, Int.toNat_natCast]
        rw [w 171 d (by omega), if_pos q0, cal_id]
    by_cases q5 : ¬ h 171 d = 5
    · refine Both_ref hI hn (-12) ?_ ?_
      · unfold XX11_back XX11_imageFault; simp only [isTape_eq, cal_eq, if1 q, if_neg n10, I6, nmP_eq, Int.toNat_natCast, jd2, A6]
        rw [if_neg (show ¬ h (101 + 7 * d) 0 = 0 by rw [t1]; exact q0), if_neg (show ¬ h (101 + 7 * d) 0 = 5 by rw [t1]; exact q5), cal_eq, if_neg (by decide), cal_id, refused_eq hI hn]
      · unfold XX12_back; simp only [isTapeM_eq, cal_eq, if1 q, if_neg n10, I6, I10, Int.toNat_natCast]
        rw [w 171 d (by omega), if_neg q0, if_neg q5, cal_id]
    have q5 : h 171 d = 5 := Decidable.not_not.mp q5
    obtain ⟨p1, p2⟩ := t4 q5
    have r := i2.1
    have pe := p2.1
    have C0 : ∀ Z, XX11_back d h = Z ↔ (if (if h 18 0 = h (101 + 7 * d + 2) 0 ∧ h 18 1 = h (101 + 7 * d + 2) 1 ∧ h 18 2 = h (101 + 7 * d + 2) 2 then (1 : Int) else 0) = 0 then some ((-4), h) else cal (XX8_take 18 (101 + 7 * d + 2) h) (fun r13 h14 => cal (XX11_oldIsReplaced h14) (fun r15 h16 => some (wr h16 72 2 0 18 3, wr h16 72 2 0)))) = Z := by
      intro Z
      unfold XX11_back XX11_imageFault; simp only [isTape_eq, cal_eq, if1 q, if_neg n10, I6, nmP_eq, Int.toNat_natCast, jd2, A6]
      rw [if_neg (show ¬ h (101 + 7 * d) 0 = 0 by rw [t1]; exact q0), if_pos (show h (101 + 7 * d) 0 = 5 by rw [t1]; exact q5), cal_eq, if_pos rfl]
      simp only [I6, nmP_eq, Int.toNat_natCast, jd2, A6, sameShape_eq, cal_eq, hm_eq]
    by_cases qs : h 18 0 = h (101 + 7 * d + 2) 0 ∧ h 18 1 = h (101 + 7 * d + 2) 1 ∧ h 18 2 = h (101 + 7 * d + 2) 2
    · -- it is brought
      obtain ⟨g1, eg1, tk0, tk⟩ := take_ok (p := 18) (x := 101 + 7 * d + 2) (by omega) h
      obtain ⟨hP1, ew1, es1⟩ := Pl_take tk p1
      have hc1 : g1 53 1 = (cntB (fun w => decide (0 ≤ g1 54 w)) 48 : Nat) := by
        rw [tk0 53 1 (by omega), show g1 54 = h 54 from funext (fun i => tk0 54 i (by omega))]; exact i5.2.1
      obtain ⟨g2, eg2, f2, ⟨z1, z2⟩, f54, fc⟩ := oldRep_ok hP1.1 hc1
      have e3 : ∀ a i, ¬ ((18 ≤ a ∧ a ≤ 22) ∨ a = 54 ∨ (a = 53 ∧ i = 1) ∨ (a = 17 ∧ i = 6) ∨ (a = 56 ∧ i = 0) ∨ (a = 72 ∧ i = 2)) → wr g2 72 2 0 a i = h a i := fun a i hh => by
        rw [wq_ne (by omega), f2 a i (by omega), tk0 a i (by omega)]
      have e18 : ∀ a i, (18 ≤ a ∧ a ≤ 22) → wr g2 72 2 0 a i = g1 a i := fun a i hh => by rw [wq_ne (by omega), f2 a i (by omega)]
      have k54 : ∀ i, wr g2 72 2 0 54 i = g2 54 i := fun i => wq_ne (by omega)
      have k53 : wr g2 72 2 0 53 1 = g2 53 1 := wq_ne (by omega)
      have k17 : wr g2 72 2 0 17 6 = 0 := by rw [wq_ne (by omega)]; exact z1
      have k56 : wr g2 72 2 0 56 0 = 0 := by rw [wq_ne (by omega)]; exact z2
      have k72 : wr g2 72 2 0 72 2 = 0 := wr_at
      have E1 : XX11_back d h = some (wr g2 72 2 0 18 3, wr g2 72 2 0) := by
        rw [C0, if1 qs, if_neg n10, eg1, cal_eq, eg2, cal_eq]
      generalize wr g2 72 2 0 = g at *
      have tkg : TkV 18 (101 + 7 * d + 2) h g := TkV_congr (fun a i hh => e18 a i hh) (fun _ _ _ => rfl) tk
      have hMg : MN g := (MN_of (fun a i hh => e3 a i (by omega)) (Inv_MS hI).1.1).1
      have g177 : g 177 d = h (101 + 7 * d + 2) 3 := by rw [e3 177 d (by omega)]; exact pe.2.2.2.symm
      have hb3 : 0 ≤ g 177 d ∧ g 177 d ≤ 40 := by rw [g177]; exact p1.1.2.2.2.2.2.2.2
      obtain ⟨rb, f, eb, br, z3⟩ := brings_ok (sl := d) (by omega) hMg hb3
      have b1 := br.1
      have E2 : XX12_back d g = some (f 144 0, wr f 143 36 0) := by
        unfold XX12_back; simp only [isTapeM_eq, cal_eq, if1 q, if_neg n10, I6, I10, Int.toNat_natCast]
        rw [e3 171 d (by omega), if_neg q0, if_pos q5, if_pos (show g 174 d = g 143 1 by rw [e3 174 d (by omega), e3 143 1 (by omega), ← pe.1, ← r.1]; exact qs.1.symm), if_pos (show g 175 d = g 143 2 by rw [e3 175 d (by omega), e3 143 2 (by omega), ← pe.2.1, ← r.2.1]; exact qs.2.1.symm), if_pos (show g 176 d = g 143 3 by rw [e3 176 d (by omega), e3 143 3 (by omega), ← pe.2.2.1, ← r.2.2.1]; exact qs.2.2.symm), eb, cal_eq, hm_eq, inb_pos (by decide)]
        show some (wr f 143 36 0 144 0, wr f 143 36 0) = _
        rw [wq_ne (by omega)]
      have er : f 144 0 = g 18 3 := by rw [br.2.1, g177, tkg.1 3 (by omega)]
      rw [er] at E2
      have eF : ∀ a i, ¬ (a = 143 ∧ i = 36) → wr f 143 36 0 a i = f a i := fun a i hh => wq_ne hh
      have F36 : wr f 143 36 0 143 36 = 0 := wr_at
      refine Both_mk E1 E2 ?_
      generalize wr f 143 36 0 = F at *
      have wf : wn 18 f = wn 18 g1 := by unfold wn; rw [b1 18 0 (by omega), b1 18 1 (by omega), b1 18 3 (by omega), e18 18 _ (by omega), e18 18 _ (by omega), e18 18 _ (by omega)]
      have hR : RelN f := RelN_repl i2 i1.1.1.1 p2 ⟨qs.1.symm, qs.2.1.symm, qs.2.2.symm⟩ (fun a i hh => e3 a i (by omega)) (fun a i hh => e3 a i (by omega)) tkg br
      have h2 : J2 f := J2_repl p2 (fun a i hh => e3 a i (by omega)) tkg br
      have h4 : J4 f := J4_repl i5 (by unfold sM; rw [g177, wf, ew1, e3 143 1 (by omega), e3 143 2 (by omega)]; unfold wn; omega) (fun w hw => e3 157 w (by omega)) (fun w hw => by rw [k54, f54 w hw, wf, tk0 54 w (by omega)]) (by rw [k53, fc, show g 54 = g2 54 from funext k54]) br
      refine Inv_repl hI (fun a i hh => by rw [eF a i (by omega), b1 a i (by omega), e3 a i (by omega)]) (fun i hi => ?_) (Pl_tr (fun a i hh => by rw [eF a i (by omega), b1 a i (by omega), e18 a i (by omega)]) hP1) (by rw [eF 17 6 (by omega), b1 17 6 (by omega)]; exact k17) (by rw [eF 56 0 (by omega), b1 56 0 (by omega)]; exact k56) (by rw [eF 143 23 (by omega)]; exact z3) (RelN_congr (fun a i hh => eF a i (by omega)) hR) (J2_tr (fun a i hh => eF a i (by omega)) h2) (J4_tr (fun a i hh => eF a i (by omega)) h4) (J9_tr (fun a i hh => by rw [eF a i (by omega), b1 a i (by omega), e3 a i (by omega)]) i10) (J10_no (fun i => by rw [eF 73 i (by omega), b1 73 i (by omega), e3 73 i (by omega)]) (by rw [eF 72 2 (by omega), b1 72 2 (by omega)]; exact k72) F36 i11) (fun k hk => by rw [eF 155 k (by omega), b1 155 k (by omega), e3 155 k (by omega)]; exact i15.2.1 k hk)
      rw [eF 18 i (by omega), b1 18 i (by omega), e18 18 i (by omega), tk.1 i (by omega)]
      rcases (by omega : i = 0 ∨ i = 1 ∨ i = 2) with rfl | rfl | rfl
      · exact qs.1.symm
      · exact qs.2.1.symm
      · exact qs.2.2.symm
    · refine Both_ro (r := -4) ?_ ?_ hI
      · rw [C0, if0 qs, if_pos rfl]
      · unfold XX12_back; simp only [isTapeM_eq, cal_eq, if1 q, if_neg n10, I6, I10, Int.toNat_natCast]
        rw [if_neg q0, if_pos q5]
        by_cases a0 : h 174 d = h 143 1
        · rw [if_pos a0]
          by_cases a1 : h 175 d = h 143 2
          · rw [if_pos a1]
            by_cases a2 : h 176 d = h 143 3
            · exact absurd ⟨by rw [r.1, pe.1, a0], by rw [r.2.1, pe.2.1, a1], by rw [r.2.2.1, pe.2.2.1, a2]⟩ qs
            · rw [if_neg a2]
          · rw [if_neg a1]
        · rw [if_neg a0]
  · refine Both_ro (r := -1) ?_ ?_ hI
    · unfold XX11_back; rw [isTape_eq, cal_eq, if0 q, if_pos rfl]
    · unfold XX12_back; rw [isTapeM_eq, cal_eq, if0 q, if_pos rfl]
theorem undoL_ok {g : Hp} {u : Nat} (hu : u < 4) (hg : g 143 36 = (u : Int)) (hz : ∀ i, i < 120 → g 184 i = 0 ∨ g 184 i = 1) : En (XX12_undo_L32 0 g) (fun r f => r = (u : Int) ∧ (∀ a i, a ≠ 155 → f a i = g a i) ∧ ∀ k, k < 12 → f 155 k = g 184 (12 * (6 + u) + k)) := by
  unfold XX12_undo_L32
  refine En_lup1 (fun l _ => (12 - l).toNat) (fun l f => 0 ≤ l ∧ l ≤ 12 ∧ (∀ a i, a ≠ 155 → f a i = g a i) ∧ ∀ k : Nat, (k : Int) < l → f 155 k = g 184 (12 * (6 + u) + k)) ?_ FU _ _ (by unfold FU; omega) ⟨by omega, by omega, fun _ _ _ => rfl, fun k hk => absurd hk (by omega)⟩
  rintro self l f ih ⟨c0, c1, c2, c3⟩
  unfold XX12_undo_b32
  by_cases q : 12 ≤ l
  · rw [if_pos q]
    exact En_some ⟨by rw [c2 143 36 (by omega)]; exact hg, c2, fun k hk => c3 k (by omega)⟩
  · rw [if_neg q, c2 143 36 (by omega), hg, chk_pos (by omega), chk_pos (by omega), chk_pos (by omega), inb_pos (by omega), inb_pos (by omega), zb_pos (by rw [c2 184 _ (by omega)]; exact hz _ (by omega)), hm_eq, chk_pos (by omega)]
    refine ih _ _ (by omega) ⟨by omega, by omega, fun a i ha => by rw [wr_ne ha]; exact c2 a i ha, fun k hk => ?_⟩
    rw [wr_row]
    by_cases qk : k = l.toNat
    · rw [if_pos qk, c2 184 _ (by omega)]
      exact congrArg _ (by omega)
    · rw [if_neg qk]; exact c3 k (by omega)
theorem J10_cut {h h1 : Hp} (e : ∀ a i, (a = 73 ∨ a = 74 ∨ (78 ≤ a ∧ a ≤ 97) ∨ (174 ≤ a ∧ a ≤ 184) ∨ (a = 18 ∧ i ≤ 2) ∨ (a = 67 ∧ i = 0)) → h1 a i = h a i) (e1 : h1 72 2 = h1 143 36) (e2 : 0 ≤ h1 72 2) (e3 : h1 72 2 ≤ h 72 2) (j : J10 h) : J10 h1 := by
  have hb := fun u (hu : u < 4) => bef_in j hu
  obtain ⟨j1, j2, j3, j4, j5, j6⟩ := j
  have eb : ∀ u, bef h1 u = bef h u := fun u => by unfold bef; rw [e 73 u (by omega)]
  refine ⟨e1, e2, by omega, fun u hu => by rw [e 73 u (by omega)]; exact j4 u hu, fun u v h1 h2 => by rw [e 73 u (by omega), e 73 v (by omega)]; exact j5 u v h1 h2, fun u hu => ?_⟩
  obtain ⟨u1, u2, u3, u4, u5⟩ := j6 u (by omega)
  have hbu := hb u (by omega)
  unfold Undo
  rw [eb u]
  refine ⟨Pl_tr (fun a i hh => e a i (by omega)) u1, PRel_tr (fun a i hh => e a i (by omega)) u2, ?_, ?_, fun s hs => ?_⟩
  · rw [e (bef h u) 0 (by omega), e (bef h u) 1 (by omega), e (bef h u) 2 (by omega), e 18 0 (by omega), e 18 1 (by omega), e 18 2 (by omega)]; exact u3
  · rw [e 74 u (by omega), e 67 0 (by omega)]; exact u4
  · rw [e 67 0 (by omega)] at hs
    rw [e 74 u (by omega), e 184 _ (by omega)]; exact u5 s hs
theorem m_undo {n : Nat} {h : Hp} (hI : Inv n h) : Both n h XX11_undo XX12_undo := by
  obtain ⟨i1, i2, i3, i4, i5, i6, i7, i8, i9, i10, i11, i12, i13, i14, i15⟩ := id hI
  obtain ⟨j1, j2, j3, j4, j5, j6⟩ := id i11
  by_cases q : 1 ≤ h 72 2
  · obtain ⟨u, hu⟩ := Int.eq_ofNat_of_zero_le (show 0 ≤ h 72 2 - 1 by omega)
    have hu4 : u < 4 := by omega
    obtain ⟨p1, p2, sh, u4, u5⟩ := j6 u (by omega)
    have hb := bef_in i11 hu4
    have hb4 := j4 u hu4
    have d0 : ∀ a i, ¬ (a = 72 ∧ i = 2) → wr h 72 2 u a i = h a i := fun a i hh => wq_ne hh
    obtain ⟨g1, eg1, tk0, tk⟩ := take_ok (p := 18) (x := bef h u) (by omega) (wr h 72 2 u)
    have tk' : TkV 18 (bef h u) h g1 := TkV_congr (fun _ _ _ => rfl) (fun a i hh => (d0 a i (by omega)).symm) tk
    obtain ⟨hP1, ew1, es1⟩ := Pl_take tk' p1
    have k1 : ∀ a i, ¬ ((18 ≤ a ∧ a ≤ 22) ∨ (a = 72 ∧ i = 2)) → g1 a i = h a i := fun a i hh => by rw [tk0 a i (by omega), d0 a i (by omega)]
    have k172 : g1 72 2 = (u : Int) := by rw [tk0 72 2 (by omega), wr_at]
    have hc1 : wr g1 67 1 (h 74 u) 53 1 = (cntB (fun w => decide (0 ≤ wr g1 67 1 (h 74 u) 54 w)) 48 : Nat) := by
      rw [wq_ne (by omega), k1 53 1 (by omega), show wr g1 67 1 (h 74 u) 54 = h 54 from funext (fun i => by rw [wq_ne (by omega)]; exact k1 54 i (by omega))]; exact i5.2.1
    obtain ⟨g, eg, f2, ⟨z1, z2⟩, f54, fc⟩ := oldRep_ok (Nums_congr (show wr g1 67 1 (h 74 u) 18 = g1 18 from wr_ne (by omega)) hP1.1) hc1
    have e3 : ∀ a i, ¬ ((18 ≤ a ∧ a ≤ 22) ∨ a = 54 ∨ (a = 53 ∧ i = 1) ∨ (a = 17 ∧ i = 6) ∨ (a = 56 ∧ i = 0) ∨ (a = 67 ∧ i = 1) ∨ (a = 72 ∧ i = 2)) → g a i = h a i := fun a i hh => by
      rw [f2 a i (by omega), wq_ne (by omega), k1 a i (by omega)]
    have e18 : ∀ a i, (18 ≤ a ∧ a ≤ 22) → g a i = g1 a i := fun a i hh => by rw [f2 a i (by omega), wq_ne (by omega)]
    have g67 : g 67 1 = h 74 u := by rw [f2 67 1 (by omega), wr_at]
    have g72 : g 72 2 = (u : Int) := by rw [f2 72 2 (by omega), wq_ne (by omega)]; exact k172
    have E1 : XX11_undo h = some ((u : Int), g) := by
      unfold XX11_undo XX3_takeBack
      rw [if_pos q, hu, chk_pos (by omega), hm_eq, wr_at, inb_pos (by omega), Int.toNat_natCast, d0 73 u (by omega), nmP_eq, asr_pos (by show bef h u = 78 ∨ bef h u = 83 ∨ bef h u = 88 ∨ bef h u = 93; unfold bef; omega), show (h 73 u).toNat = bef h u from rfl, eg1, cal_eq, k172, inb_pos (by omega), cal_eq, Int.toNat_natCast, k1 74 u (by omega), hm_eq, eg, cal_eq, g72]
    -- the model
    have tkg : TkV 18 (bef h u) h g := TkV_congr (fun a i hh => e18 a i hh) (fun _ _ _ => rfl) tk'
    have hM0 : MN (wr g 143 36 u) := (MN_of (fun a i hh => by rw [wq_ne (by omega), e3 a i (by omega)]) (Inv_MS hI).1.1).1
    have m0 : ∀ a i, ¬ (a = 143 ∧ i = 36) → wr g 143 36 u a i = g a i := fun a i hh => wq_ne hh
    have m36 : wr g 143 36 u 143 36 = (u : Int) := wr_at
    have E2a : XX12_undo g = cal (XX12_brings ((6 + u : Nat) : Int) (wr g 143 36 u)) (fun r2 h3 => XX12_undo_L32 0 h3) := by
      unfold XX12_undo
      rw [e3 143 36 (by omega), ← j1, if_neg (by omega), chk_pos (by omega), hu, hm_eq, wr_at, chk_pos (by omega)]
      rfl
    generalize wr g 143 36 u = g' at *
    have g177 : g' 177 (6 + u) = h (bef h u) 3 := by rw [m0 177 _ (by omega), e3 177 _ (by omega)]; exact p2.1.2.2.2.symm
    have hb3 : 0 ≤ g' 177 (6 + u) ∧ g' 177 (6 + u) ≤ 40 := by rw [g177]; exact p1.1.2.2.2.2.2.2.2
    obtain ⟨rb, f, eb, br, z3⟩ := brings_ok (sl := 6 + u) (by omega) hM0 hb3
    have b1 := br.1
    have bf : ∀ a i, ¬ ((18 ≤ a ∧ a ≤ 22) ∨ a = 54 ∨ (a = 53 ∧ i = 1) ∨ (a = 17 ∧ i = 6) ∨ (a = 56 ∧ i = 0) ∨ (a = 67 ∧ i = 1) ∨ (a = 72 ∧ i = 2) ∨ (a = 144 ∧ i = 0) ∨ (145 ≤ a ∧ a ≤ 148) ∨ (150 ≤ a ∧ a ≤ 151) ∨ a = 157 ∨ (a = 143 ∧ (i = 23 ∨ i = 36))) → f a i = h a i := fun a i hh => by rw [b1 a i (by omega), m0 a i (by omega), e3 a i (by omega)]
    obtain ⟨rF, F, eF, erF, F1, F2⟩ := undoL_ok (g := f) hu4 (by rw [b1 143 36 (by omega)]; exact m36) (fun i hi => by rw [bf 184 i (by omega)]; exact i15.2.2 i hi)
    subst erF
    refine Both_mk E1 (h2 := F) (by rw [E2a, eb, cal_eq, eF]) ?_
    have wf : wn 18 f = wn 18 g1 := by unfold wn; rw [b1 18 0 (by omega), b1 18 1 (by omega), b1 18 3 (by omega), m0 18 _ (by omega), m0 18 _ (by omega), m0 18 _ (by omega), e18 18 _ (by omega), e18 18 _ (by omega), e18 18 _ (by omega)]
    have tkg' : TkV 18 (bef h u) h g' := TkV_congr (fun a i hh => m0 a i (by omega)) (fun _ _ _ => rfl) tkg
    have hR : RelN f := RelN_repl i2 i1.1.1.1 p2 sh (fun a i hh => by rw [m0 a i (by omega), e3 a i (by omega)]) (fun a i hh => by rw [m0 a i (by omega), e3 a i (by omega)]) tkg' br
    have h2 : J2 f := J2_repl p2 (fun a i hh => by rw [m0 a i (by omega), e3 a i (by omega)]) tkg' br
    have w1 : wn 18 (wr g1 67 1 (h 74 u)) = wn 18 g1 := wn_congr (wr_ne (by omega))
    have h4 : J4 f := J4_repl i5 (by unfold sM; rw [g177, wf, ew1, m0 143 1 (by omega), m0 143 2 (by omega), e3 143 1 (by omega), e3 143 2 (by omega)]; have := i2.1; unfold wn; omega) (fun w hw => by rw [m0 157 w (by omega), e3 157 w (by omega)]) (fun w hw => by rw [m0 54 w (by omega), f54 w hw, w1, wf, wq_ne (by omega), k1 54 w (by omega)]) (by rw [m0 53 1 (by omega), fc, show g' 54 = g 54 from funext (fun i => m0 54 i (by omega))]) br
    refine Inv_repl hI (fun a i hh => by rw [F1 a i (by omega), bf a i (by omega)]) (fun i hi => ?_) (Pl_tr (fun a i hh => by rw [F1 a i (by omega), b1 a i (by omega), m0 a i (by omega), e18 a i (by omega)]) hP1) (by rw [F1 17 6 (by omega), b1 17 6 (by omega), m0 17 6 (by omega)]; exact z1) (by rw [F1 56 0 (by omega), b1 56 0 (by omega), m0 56 0 (by omega)]; exact z2) (by rw [F1 143 23 (by omega)]; exact z3) (RelN_congr (fun a i hh => F1 a i (by omega)) hR) (J2_tr (fun a i hh => F1 a i (by omega)) h2) (J4_tr (fun a i hh => F1 a i (by omega)) h4) ?_ (J10_cut (fun a i hh => ?_) ?_ ?_ ?_ i11) (fun k hk => by rw [F2 k hk, bf 184 _ (by omega)]; exact i15.2.2 _ (by omega))
    · rw [F1 18 i (by omega), b1 18 i (by omega), m0 18 i (by omega), e18 18 i (by omega), tk'.1 i (by omega)]
      rcases (by omega : i = 0 ∨ i = 1 ∨ i = 2) with rfl | rfl | rfl
      · exact sh.1
      · exact sh.2.1
      · exact sh.2.2
    · have f671 : F 67 1 = h 74 u := by rw [F1 67 1 (by omega), b1 67 1 (by omega), m0 67 1 (by omega)]; exact g67
      have fh : ∀ a i, (a = 68 ∨ a = 69 ∨ (152 ≤ a ∧ a ≤ 154) ∨ (a = 67 ∧ i = 0) ∨ (a = 143 ∧ i = 12)) → F a i = h a i := fun a i hh => by rw [F1 a i (by omega), bf a i (by omega)]
      obtain ⟨a1, a2, a3, a4, a5⟩ := i10
      unfold J9
      rw [f671, fh 67 0 (by omega), fh 143 12 (by omega)]
      refine ⟨a1, a2, a3, u4, fun s hs => ?_⟩
      obtain ⟨s1, s2, s3, s4, s5, s6⟩ := a5 s hs
      rw [fh 68 s (by omega), fh 69 s (by omega), fh 152 s (by omega), fh 153 s (by omega), fh 154 s (by omega), F2 s (by omega), bf 184 _ (by omega)]
      exact ⟨s1, s2, s3, s4, (u5 s hs).1, (u5 s hs).2⟩
    · rw [F1 a i (by omega)]
      by_cases qa : a = 18
      · rw [qa, b1 18 i (by omega), m0 18 i (by omega), e18 18 i (by omega), tk'.1 i (by omega)]
        rcases (by omega : i = 0 ∨ i = 1 ∨ i = 2) with rfl | rfl | rfl
        · exact sh.1
        · exact sh.2.1
        · exact sh.2.2
      · exact bf a i (by omega)
    · rw [F1 72 2 (by omega), F1 143 36 (by omega), b1 72 2 (by omega), b1 143 36 (by omega), m36, m0 72 2 (by omega)]; exact g72
    · rw [F1 72 2 (by omega), b1 72 2 (by omega), m0 72 2 (by omega), g72]; omega
    · rw [F1 72 2 (by omega), b1 72 2 (by omega), m0 72 2 (by omega), g72]; omega
  · refine Both_ro (r := -1) ?_ ?_ hI
    · unfold XX11_undo; rw [if_neg q]
    · unfold XX12_undo; rw [if_pos (by omega)]
