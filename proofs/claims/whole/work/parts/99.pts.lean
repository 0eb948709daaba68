theorem Inv_pts {n : Nat} {h g : Hp} (hI : Inv n h) (e : ∀ a i, ¬ ((a = 16 ∧ i = 12) ∨ a = 26 ∨ a = 36 ∨ (40 ≤ a ∧ a ≤ 52) ∨ (203 ≤ a ∧ a ≤ 205) ∨ (a = 53 ∧ 3 ≤ i) ∨ a = 55 ∨ a = 66 ∨ (70 ≤ a ∧ a ≤ 71) ∨ a = 77 ∨ a = 100 ∨ a = 158 ∨ (185 ≤ a ∧ a ≤ 191) ∨ (194 ≤ a ∧ a ≤ 202) ∨ (a = 143 ∧ (i = 0 ∨ i = 19 ∨ (63 ≤ i ∧ i ≤ 64) ∨ (71 ≤ i ∧ i ≤ 74)))) → g a i = h a i) (j : J5 g) : Inv (n + 1) g := by
  obtain ⟨i1, i2, i3, i4, i5, i6, i7, i8, i9, i10, i11, i12, i13, i14, i15⟩ := hI
  exact ⟨J1_tr (fun a i hh => e a i (by omega)) i1, RelN_congr (fun a i hh => e a i (by omega)) i2, J2_tr (fun a i hh => e a i (by omega)) i3, J3_tr (fun a i hh => e a i (by omega)) i4, J4_tr (fun a i hh => e a i (by omega)) i5, j, J6_tr (fun a i hh => e a i (by omega)) i7, J7_tr (fun a i hh => e a i (by omega)) i8, J8_tr (fun a i hh => e a i (by omega)) i9, J9_tr (fun a i hh => e a i (by omega)) i10, J10_tr (fun a i hh => e a i (by omega)) i11, J11_tr (fun a i hh => e a i (by omega)) i12, J12_tr (fun a i hh => e a i (by omega)) i13, J13_tr (fun a i hh => e a i (by omega)) i14, J14_tr (fun a i hh => e a i (by omega)) i15⟩
theorem Fst_b {h : Hp} {n r : Int} {f : Nat → Int} (a : Fst h n r f) : 0 ≤ r ∧ r ≤ 3 := by
  rcases a with ⟨rfl, _⟩ | ⟨rfl, _⟩ | ⟨rfl, _⟩ | ⟨rfl, _⟩ <;> decide
/-- the place for the next hard case -/
def HN (h : Hp) : Prop := 0 ≤ h 40 12 ∧ h 40 12 < 8
theorem m_points2 {n : Nat} {h : Hp} (hI : Inv n h) (hH : HN h) (x : Int) : Both n h (XX11_points x) (XX12_points x) ∧ ∀ r h1, XX11_points x h = some (r, h1) → HN h1 := by
  by_cases q : 1 ≤ x ∧ x ≤ 3
  · obtain ⟨r1, h1, e1, i1, t1, f1⟩ := refreshBoth_Inv hI
    obtain ⟨r3, h3, e3, rfl, l3⟩ := firstDifference_ok t1 i1.2.2.2.1.1
    have hn3 : 0 ≤ h3 40 12 ∧ h3 40 12 < 8 := by rw [f1 40 12 (by omega)]; exact hH
    obtain ⟨np, npn, _⟩ := num_pow i1
    have hnum := num_le i1
    -- the model from any heap with the same nets
    have model : ∀ g : Hp, (∀ a i, ((18 ≤ a ∧ a ≤ 22) ∨ (28 ≤ a ∧ a ≤ 32) ∨ (144 ≤ a ∧ a ≤ 149) ∨ (a = 143 ∧ 1 ≤ i ∧ i ≤ 3)) → g a i = h3 a i) → Wk g ∧ ∃ rd hd, XX12_differ g = some (rd, hd) ∧ rd = r3 ∧ ∀ a i, ¬ ((186 ≤ a ∧ a ≤ 188) ∨ (a = 143 ∧ i = 63)) → hd a i = g a i := by
      intro g hg
      have w : Wk g := Wk_tr (fun a i hh => hg a i (by omega)) (Inv_Wk i1)
      obtain ⟨rd, hd, ed, ld⟩ := differ_ok w.1 w.2.1 w.2.2
      have fd := fr_XX12_differ ed
      refine ⟨w, rd, hd, ed, ?_, fun a i hh => fd a i (by omega)⟩
      rw [sM_congr (hg 143 1 (by omega)) (hg 143 2 (by omega)), ← npn] at ld
      refine Lst_uniq ld l3 (fun cs hcs => ?_)
      rw [i1.2.2.2.1.2.2 cs (by omega), decide_eq_true_eq, hg 149 cs (by omega)]
      unfold Agr
      rw [mdW_congr (h := h3) (fun a i hh => hg a i (by omega))]
    by_cases qd : r3 = 1000
    · obtain ⟨w, rd, hd, ed, er, fd⟩ := model h3 (fun _ _ _ => rfl)
      have E1 : XX11_points x h = some (0, h3) := by
        unfold XX11_points; rw [if_neg (by omega), if_pos (by omega), e1, cal_eq, e3, cal_eq, if_pos qd]
      refine ⟨Both_mk (r := 0) (h1 := h3) (h2 := hd) E1 ?_ (Inv_up (Inv_scr (fun a i hh => fd a i (by omega)) i1)), fun r' h' e' => ?_⟩
      · unfold XX12_points; rw [in_eq, cal_eq, if1 q, if_neg n10, ed, cal_eq, if_pos (by omega)]
      · rw [E1] at e'; cases e'; exact hn3
    · obtain ⟨nc0, nc1, nc2, nc3, nc4⟩ := Cas_num i1.2.2.2.1.1 t1.1.1
      obtain ⟨d, hd1, hd2, hd3⟩ : ∃ d : Nat, r3 = (d : Int) ∧ (d : Int) < h3 37 0 ∧ live h3 d = true := by
        rcases l3 with ⟨t, _⟩ | ⟨d, d1, d2, d3, _⟩
        · exact absurd t qd
        · exact ⟨d, d2, by omega, d3.1⟩
      obtain ⟨rs, hs, es, fs, ws⟩ := startSearch_ok t1 i1.2.2.2.1.1 hn3 (d := d) (by omega) hd3
      have ts : Two hs := Two_congr (fun a i hh => fs a i (by omega)) t1
      have cs : Cas hs := (J3_tr (fun a i hh => fs a i (by omega)) i1.2.2.2.1).1
      obtain ⟨rp, Fp, ep, r5, h5, k5, w5, s5, hFp⟩ := ptsC_ok ts cs ws q
      have s5 : Fst h3 x r5 (h5 41) := Fst_congr (fun a i hh => fs a i (by omega)) s5
      have f5 : ∀ a i, ¬ ((41 ≤ a ∧ a ≤ 44) ∨ (203 ≤ a ∧ a ≤ 205) ∨ (a = 40 ∧ ((4 ≤ i ∧ i ≤ 5) ∨ (8 ≤ i ∧ i ≤ 9) ∨ (11 ≤ i ∧ i ≤ 12)))) → h5 a i = h3 a i := fun a i hh => by rw [k5 a i (by omega)]; exact fs a i (by omega)
      have hb5 := Fst_b s5
      have E1a : XX11_points x h = some (rp, Fp) := by
        unfold XX11_points; rw [if_neg (by omega), if_pos (by omega), e1, cal_eq, e3, cal_eq, if_neg qd, hd1, es, cal_eq]; exact ep
      have hn5 : HN h5 := w5.2.1
      -- the model's points
      have mpts : ∀ g : Hp, (∀ a i, ¬ ((41 ≤ a ∧ a ≤ 44) ∨ (203 ≤ a ∧ a ≤ 205) ∨ a = 40 ∨ a = 100 ∨ (a = 16 ∧ i = 12)) → g a i = h3 a i) → ∃ r F, XX12_points x g = some (r, F) ∧ ((r5 = 0 ∧ r = -4 ∧ ∀ a i, ¬ ((186 ≤ a ∧ a ≤ 190) ∨ (a = 143 ∧ 63 ≤ i ∧ i ≤ 64)) → F a i = g a i) ∨ (r5 ≠ 0 ∧ r = r5 ∧ F 143 19 = r5 ∧ (∀ k, k < 3 → F 158 k = h5 41 k) ∧ ∀ a i, ¬ ((186 ≤ a ∧ a ≤ 190) ∨ a = 158 ∨ (a = 143 ∧ (i = 19 ∨ (63 ≤ i ∧ i ≤ 64)))) → F a i = g a i)) := by
        intro g hg
        obtain ⟨w, rd, hd, ed, er, fd⟩ := model g (fun a i hh => hg a i (by omega))
        have wd : Wk hd := Wk_tr (fun a i hh => fd a i (by omega)) w
        obtain ⟨r4, h4, e4, p1, p2, p3', p4⟩ := prepares_ok (Wk_MS wd).1
        have f4 := fr_XX12_prepares e4
        have w4 : Wk h4 := Wk_tr (fun a i hh => f4 a i (by omega)) wd
        have g1 := f4 143 1 (by omega)
        have g2 := f4 143 2 (by omega)
        have g4 : h4 144 = hd 144 := funext (fun i => f4 144 i (by omega))
        have g5 : h4 145 = hd 145 := funext (fun i => f4 145 i (by omega))
        have g6 : h4 146 = hd 146 := funext (fun i => f4 146 i (by omega))
        have P : Prep h4 := by
          unfold Prep
          rw [sM_congr g1 g2, nM_congr g1 g2 g4, nM_congr g1 g2 g4, kM_congr g5, kM_congr g5, pM_congr g6, pM_congr g6]
          exact ⟨p2, p3', p1⟩
        have c4 : ∀ a i, ¬ ((186 ≤ a ∧ a ≤ 188) ∨ (a = 143 ∧ i = 63)) → h4 a i = g a i := fun a i hh => by rw [f4 a i (by omega), fd a i (by omega)]
        have h18 : h4 18 = h3 18 := funext (fun i => by rw [c4 18 i (by omega), hg 18 i (by omega)])
        obtain ⟨rs1, rs2, rs3, rs4⟩ := Rel_s w4.1
        obtain ⟨r, F, eF, r', s', hF⟩ := pts1 i1 w4 (fun a i hh => by rw [c4 a i (by omega), hg a i (by omega)]) (by rw [rs1, sc_congr h18]) q P
        obtain ⟨u1, u2⟩ := Fst_uniq s' s5
        refine ⟨r, F, ?_, ?_⟩
        · unfold XX12_points
          rw [in_eq, cal_eq, if1 q, if_neg n10, ed, cal_eq, if_neg (by omega), e4, cal_eq, wiresM_eq (Wk_MS w4).1.1 (by omega), cal_eq, begun_eq (Wk_MS w4).1.1, cal_eq, rs3, rs1, sc_congr h18, wn_congr h18]
          exact eF
        · rcases hF with ⟨v1, v2, v3⟩ | ⟨v1, v2, v3, v4⟩
          · exact Or.inl ⟨by omega, v2, fun a i hh => by rw [v3 a i (by omega), c4 a i (by omega)]⟩
          · exact Or.inr ⟨by omega, by omega, by rw [v3]; omega, fun k hk => u2 v1 k hk, fun a i hh => by rw [v4 a i (by omega), c4 a i (by omega)]⟩
      by_cases q5 : r5 = 0
      · rcases hFp with ⟨_, hr4, hF4⟩ | ⟨t, _⟩
        · rw [hr4, hF4] at E1a
          obtain ⟨r, F, eF, hF⟩ := mpts h5 (fun a i hh => f5 a i (by omega))
          rcases hF with ⟨_, rfl, hF⟩ | ⟨t, _⟩
          · refine ⟨Both_mk E1a eF (Inv_up (Inv_scr (fun a i hh => by rw [hF a i (by omega), f5 a i (by omega)]) i1)), fun r' h' e' => ?_⟩
            rw [E1a] at e'; cases e'; exact hn5
          · exact absurd q5 t
        · exact absurd q5 t
      · rcases hFp with ⟨t, _⟩ | ⟨_, hrp, hFp⟩
        · exact absurd t q5
        have eg : ∀ a i, ¬ (a = 100 ∨ (a = 16 ∧ i = 12)) → Fp a i = h5 a i := fun a i hh => by rw [hFp, wq_ne (by omega), cpy_ne (by omega)]
        have e12 : Fp 16 12 = r5 := by rw [hFp]; exact wr_at
        have e100 : ∀ k : Nat, (k : Int) < r5 → Fp 100 k = h5 41 k := fun k hk => by
          rw [hFp, wq_ne (by omega), cpy_is (by omega)]; exact congrArg _ (by omega)
        obtain ⟨r, F, eF, hF⟩ := mpts Fp (fun a i hh => by rw [eg a i (by omega), f5 a i (by omega)])
        rcases hF with ⟨t, _⟩ | ⟨_, v0, v1, v2, v3⟩
        · exact absurd t q5
        rw [v0, ← hrp] at eF
        refine ⟨Both_mk E1a eF (Inv_pts i1 (fun a i hh => by rw [v3 a i (by omega), eg a i (by omega), f5 a i (by omega)]) ?_), fun r' h' e' => ?_⟩
        · unfold J5
          rw [v1, v3 16 12 (by omega), e12]
          refine ⟨rfl, by omega, by omega, fun k hk => ?_⟩
          rw [v3 100 k (by omega), e100 k hk, v2 k (by omega)]
        · rw [E1a] at e'; cases e'
          unfold HN
          rw [eg 40 12 (by omega)]; exact hn5
  · have E1 : XX11_points x h = some (-1, h) := by
      unfold XX11_points
      by_cases q1 : x < 1
      · rw [if_pos q1]
      · rw [if_neg q1, if_neg (by omega)]
    refine ⟨Both_ro (r := -1) E1 ?_ hI, fun r' h' e' => ?_⟩
    · unfold XX12_points; rw [in_eq, cal_eq, if0 q, if_pos rfl]
    · rw [E1] at e'; cases e'; exact hH
theorem m_points {n : Nat} {h : Hp} (hI : Inv n h) (hH : HN h) (x : Int) : Both n h (XX11_points x) (XX12_points x) := (m_points2 hI hH x).1
theorem n_points {n : Nat} {h : Hp} (hI : Inv n h) (hH : HN h) (x : Int) {r : Int} {h1 : Hp} (e : XX11_points x h = some (r, h1)) : HN h1 := (m_points2 hI hH x).2 r h1 e
