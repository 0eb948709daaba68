/-- a refusal of the host's, and scratch -/
theorem Inv_refS {n : Nat} {h g : Hp} (hI : Inv n h) (e : ∀ a i, ¬ ((a = 16 ∧ i = 15) ∨ a = 26 ∨ a = 36 ∨ (40 ≤ a ∧ a ≤ 52) ∨ (203 ≤ a ∧ a ≤ 205) ∨ (a = 53 ∧ 3 ≤ i) ∨ a = 55 ∨ a = 66 ∨ (70 ≤ a ∧ a ≤ 71) ∨ a = 77 ∨ (185 ≤ a ∧ a ≤ 191) ∨ (194 ≤ a ∧ a ≤ 202) ∨ (a = 143 ∧ (i = 0 ∨ i = 57 ∨ (63 ≤ i ∧ i ≤ 64) ∨ (71 ≤ i ∧ i ≤ 74)))) → g a i = h a i) (e1 : g 16 15 = h 16 15 + 1) (e2 : g 143 57 = h 143 57 + 1) : Inv (n + 1) g := by
  obtain ⟨i1, i2, i3, i4, i5, i6, i7, i8, i9, i10, i11, i12, i13, i14, i15⟩ := hI
  refine ⟨J1_tr (fun a i hh => e a i (by omega)) i1, RelN_congr (fun a i hh => e a i (by omega)) i2, J2_tr (fun a i hh => e a i (by omega)) i3, J3_tr (fun a i hh => e a i (by omega)) i4, J4_tr (fun a i hh => e a i (by omega)) i5, J5_tr (fun a i hh => e a i (by omega)) i6, J6_tr (fun a i hh => e a i (by omega)) i7, ?_, J8_tr (fun a i hh => e a i (by omega)) i9, J9_tr (fun a i hh => e a i (by omega)) i10, J10_tr (fun a i hh => e a i (by omega)) i11, J11_tr (fun a i hh => e a i (by omega)) i12, J12_tr (fun a i hh => e a i (by omega)) i13, J13_tr (fun a i hh => e a i (by omega)) i14, J14_tr (fun a i hh => e a i (by omega)) i15⟩
  unfold J7
  rw [e1, e2]
  have := i8.1; have := i8.2.1; have := i8.2.2
  exact ⟨by omega, by omega, by omega⟩
theorem refuse_eq {h : Hp} (hr : 0 ≤ h 143 57 ∧ h 143 57 ≤ 100000) (c : Int) : XX12_refuse c h = some (c, wr h 143 57 (h 143 57 + 1)) := by
  unfold XX12_refuse; rw [chk_pos (by omega), hm_eq]
theorem m_judge {n : Nat} {h : Hp} (hI : Inv n h) (hn : n ≤ 1000) (x a b c : Int) : Both n h (XX11_judge x a b c) (XX12_judge x a b c) := by
  by_cases q : 0 ≤ x ∧ x < 6
  · obtain ⟨r1, h1, e1, ha⟩ := aim_ok (Inv_N0 hI) a b c
    have fa := fr_XX5_aim e1
    rcases ha with ⟨hz, rfl, rfl⟩ | ⟨hp, rfl, hA, h404, h41⟩
    · refine Both_ro (r := -1) ?_ ?_ hI
      · unfold XX11_judge; rw [isTape_eq, cal_eq, if1 q, if_neg n10, e1, cal_eq, if_pos rfl]
      · unfold XX12_judge; rw [arePoints_eq hI, cal_eq, isTapeM_eq, cal_eq, if1 q, if_neg n10, hz, if_pos rfl]
    · have hpb := ptN_b h a b c
      obtain ⟨d, rfl⟩ := Int.eq_ofNat_of_zero_le q.1
      have hd : d < 6 := by omega
      obtain ⟨r2, h2, e2, i1, i2, t2, hA2, g40, f2⟩ := aim_Two hI e1 hA
      obtain ⟨jd, u1, u2, u3, u4⟩ := i1.2.2.2.2.2.2.2.2.2.2.2.2.1 d hd
      have jd2 : (h1 98 d).toNat = 101 + 7 * d := by omega
      have hpt1 : ptN h1 a b c = ptN h a b c := ptN_congr (funext (fun i => fa 18 i (by omega))) a b c
      have I6 : ∀ X : OR, inb (d : Int) 6 X = X := fun X => inb_pos (by omega)
      have A6 : ∀ X : OR, asr (101 + 7 * d = 101 ∨ 101 + 7 * d = 108 ∨ 101 + 7 * d = 115 ∨ 101 + 7 * d = 122 ∨ 101 + 7 * d = 129 ∨ 101 + 7 * d = 136) X = X := fun X => asr_pos (tp_asr (by omega))
      have w : ∀ v a i, a ≠ 16 → wr h1 16 15 v a i = h1 a i := fun v a i ha => by rw [wr_ne ha]
      have wW : ∀ v, Wk (wr h1 16 15 v) := fun v => Wk_tr (fun a i hh => w v a i (by omega)) (Inv_Wk i1)
      have wp : ∀ v, XX12_arePoints a b c (wr h1 16 15 v) = some (ptN h a b c, wr h1 16 15 v) := fun v => by
        rw [arePoints_wk (Wk_MS (wW v)) (wW v).1, ptN_congr (h := h1) (wr_ne (by omega)), hpt1]
      by_cases q0 : h1 171 d = 0
      · refine Both_mk (r := -11) (h1 := wr h1 16 15 (h1 16 15 + 1)) ?_ ?_ (both_refuse i1 hn (-11)).2
        · unfold XX11_judge; simp only [isTape_eq, cal_eq, if1 q, if_neg n10, e1, I6, nmP_eq, Int.toNat_natCast, jd2, A6]
          rw [if_pos (show h1 (101 + 7 * d) 0 = 0 by rw [u1]; exact q0), cal_id, refused_eq i1 hn]
        · unfold XX12_judge
          rw [wp, cal_eq, isTapeM_eq, cal_eq, if1 q, if_neg n10, if_neg (by omega), I6, Int.toNat_natCast, w _ 171 d (by omega), if_pos q0, cal_id]
          exact (both_refuse i1 hn (-11)).1
      by_cases q1 : ¬ h1 171 d = 1
      · refine Both_mk (r := -12) (h1 := wr h1 16 15 (h1 16 15 + 1)) ?_ ?_ (both_refuse i1 hn (-12)).2
        · unfold XX11_judge; simp only [isTape_eq, cal_eq, if1 q, if_neg n10, e1, I6, nmP_eq, Int.toNat_natCast, jd2, A6]
          rw [if_neg (show ¬ h1 (101 + 7 * d) 0 = 0 by rw [u1]; exact q0), if_neg (show ¬ h1 (101 + 7 * d) 0 = 1 by rw [u1]; exact q1), cal_id, refused_eq i1 hn]
        · unfold XX12_judge
          rw [wp, cal_eq, isTapeM_eq, cal_eq, if1 q, if_neg n10, if_neg (by omega), I6, I6, Int.toNat_natCast, w _ 171 d (by omega), if_neg q0, if_neg q1, cal_id]
          exact (both_refuse i1 hn (-12)).1
      have q1 : h1 171 d = 1 := Decidable.not_not.mp q1
      obtain ⟨v1, v2, v3, v4⟩ := u3 q0
      have f21 : ∀ x i, ¬ ((23 ≤ x ∧ x ≤ 25) ∨ (33 ≤ x ∧ x ≤ 35) ∨ (x = 17 ∧ i = 6) ∨ (x = 27 ∧ i = 6) ∨ x = 41 ∨ (x = 40 ∧ 4 ≤ i ∧ i ≤ 5)) → h2 x i = h1 x i := fun x i hh => by rw [f2 x i hh, fa x i (by omega)]
      obtain ⟨r3, h3, e3, k3, l3⟩ := misjudged_ok t2 hA2 i2.2.2.2.1.1 (p := 101 + 7 * d + 1) (by omega) (h2 (101 + 7 * d) 1)
      have i3 : Inv n h3 := Inv_scr (fun a i hh => k3 a i (by omega)) i2
      have h24 : h2 40 4 = ptN h a b c := by rw [g40 40 4 (by omega), h404]
      obtain ⟨np, npn, nash⟩ := num_pow i2
      have hnum := num_le i2
      have hr7 := i3.2.2.2.2.2.2.2.1
      have E1a : XX11_judge d a b c h = if r3 = (-13) then cal (XX11_refused (-13) h3) (fun r17 h18 => some (r17, h18)) else some (r3, h3) := by
        unfold XX11_judge; simp only [isTape_eq, cal_eq, if1 q, if_neg n10, e1, I6, nmP_eq, Int.toNat_natCast, jd2, A6]
        rw [if_neg (show ¬ h1 (101 + 7 * d) 0 = 0 by rw [u1]; exact q0), if_pos (show h1 (101 + 7 * d) 0 = 1 by rw [u1]; exact q1), e2, cal_eq]
        simp only [I6, nmP_eq, Int.toNat_natCast, f21 98 d (by omega), jd2, A6]
        rw [e3, cal_eq]
      have model : ∀ g : Hp, (∀ x i, x ≠ 16 → g x i = h3 x i) → ∃ h5 F, XX12_judge d a b c g = some (r3, F) ∧ (∀ x i, ¬ ((186 ≤ x ∧ x ≤ 190) ∨ (x = 143 ∧ 63 ≤ i ∧ i ≤ 64)) → h5 x i = g x i) ∧ ((r3 ≠ -13 ∧ F = h5) ∨ (r3 = -13 ∧ F = wr h5 143 57 (h5 143 57 + 1))) := by
        intro g hg
        have w : Wk g := Wk_tr (fun a i hh => hg a i (by omega)) (Inv_Wk i3)
        obtain ⟨r4, h4, r5, h5, e4, e5, m5, f5⟩ := mends_wk (h2 := h2) w (a := a) (b := b) (c := c) (m := ptN h a b c) (by omega) h24 (fun k hk => by rw [g40 41 k (by omega)]; exact h41 k hk) (fun x i hh => by rw [hg x i (by omega), k3 x i (by omega)])
        have w5 : Wk h5 := Wk_tr (fun a i hh => f5 a i (by omega)) w
        have f57 : h5 143 57 = h3 143 57 := by rw [f5 143 57 (by omega), hg 143 57 (by omega)]
        have hrf := refuse_eq (h := h5) (by rw [f57]; have := hr7.1; have := hr7.2.1; have := hr7.2.2; omega) (-13)
        obtain ⟨r6, F, e6, l6, hF⟩ := judgeL_ok (h := h5) (Wk_MS w5).1.1 hd (m := ptN h a b c) (by omega) (by rw [hrf]; exact Option.some_ne_none _)
        have f5h2 : ∀ x i, ¬ ((186 ≤ x ∧ x ≤ 190) ∨ (x = 143 ∧ 63 ≤ i ∧ i ≤ 64) ∨ x = 16 ∨ (42 ≤ x ∧ x ≤ 43) ∨ x = 203 ∨ (x = 40 ∧ 8 ≤ i ∧ i ≤ 9)) → h5 x i = h2 x i := fun x i hh => by rw [f5 x i (by omega), hg x i (by omega), k3 x i (by omega)]
        have sm : sM h5 = sM h2 := sM_congr (f5h2 143 1 (by omega)) (f5h2 143 2 (by omega))
        have e172 : h5 172 d = h2 (101 + 7 * d) 1 := by rw [f5h2 172 d (by omega), f21 172 d (by omega), f21 (101 + 7 * d) 1 (by omega)]; exact v1.symm
        rw [sm, ← npn, e172] at l6
        have er : r3 = r6 := by
          refine Jdg_uniq (by omega) l3 l6 (fun cs hcs => ?_) (fun cs hcs hlen => ?_)
          · rw [i2.2.2.2.1.2.2 cs (by omega), decide_eq_true_eq, f5h2 149 cs (by omega)]
          · unfold Gd1 GdM
            rw [h24]
            have e173 : h5 173 (256 * d + cs) = h2 (101 + 7 * d + 1) cs := by
              rw [f5h2 173 _ (by omega), f21 173 _ (by omega), f21 (101 + 7 * d + 1) cs (by omega)]
              refine (v4 cs ?_).symm
              rw [f21 (101 + 7 * d) 1 (by omega)] at hlen
              omega
            rw [e173]
            exact exists_congr (fun q => and_congr_right (fun hq => and_congr_right (fun _ => (m5 q hq cs (by omega)).symm)))
        refine ⟨h5, F, ?_, f5, ?_⟩
        · have hpt : ptN g a b c = ptN h a b c := ptN_congr (funext (fun i => by rw [hg 18 i (by omega), k3 18 i (by omega), f2 18 i (by omega)])) a b c
          have e171 : g 171 d = 1 := by rw [hg 171 d (by omega), k3 171 d (by omega), f21 171 d (by omega)]; exact q1
          unfold XX12_judge
          rw [arePoints_wk (Wk_MS w) w.1, hpt, cal_eq, isTapeM_eq, cal_eq, if1 q, if_neg n10, if_neg (by omega), I6, I6, Int.toNat_natCast, e171, if_neg (by decide), if_pos rfl, e4, cal_eq, e5, cal_eq, e6, er]
        · rw [er]
          rcases hF with ⟨t1, t2⟩ | ⟨t1, t2⟩
          · exact Or.inl ⟨t1, t2⟩
          · rw [hrf] at t2
            exact Or.inr ⟨t1, by cases t2; rfl⟩
      by_cases qp : r3 = -13
      · obtain ⟨h5, F, eF, f5, hF⟩ := model (wr h3 16 15 (h3 16 15 + 1)) (fun x i hh => by rw [wr_ne hh])
        refine Both_mk (r := r3) (h1 := wr h3 16 15 (h3 16 15 + 1)) (h2 := F) (by rw [E1a, if_pos qp, cal_id, refused_eq i3 hn, qp]) eF ?_
        rcases hF with ⟨t, _⟩ | ⟨_, rfl⟩
        · exact absurd qp t
        refine Inv_refS i3 (fun a i hh => by rw [wq_ne (by omega), f5 a i (by omega), wq_ne (by omega)]) ?_ ?_
        · rw [wq_ne (by omega), f5 16 15 (by omega), wr_at]
        · rw [wr_at, f5 143 57 (by omega), wq_ne (by omega)]
      · obtain ⟨h5, F, eF, f5, hF⟩ := model h3 (fun _ _ _ => rfl)
        refine Both_mk (r := r3) (h1 := h3) (h2 := F) (by rw [E1a, if_neg qp]) eF ?_
        rcases hF with ⟨_, rfl⟩ | ⟨t, _⟩
        · exact Inv_up (Inv_scr (fun a i hh => f5 a i (by omega)) i3)
        · exact absurd t qp
  · refine Both_ro (r := -1) ?_ ?_ hI
    · unfold XX11_judge; rw [isTape_eq, cal_eq, if0 q, if_pos rfl]
    · unfold XX12_judge; rw [arePoints_eq hI, cal_eq, isTapeM_eq, cal_eq, if0 q, if_pos rfl]
