theorem arePoints_wk {h : Hp} (hMS : MS h) (hR : RelN h) (a b c : Int) : XX12_arePoints a b c h = some (ptN h a b c, h) := by
  obtain ⟨r1, r2, r3, r4⟩ := Rel_s hR
  have hgt : ∀ x, XX12_isGate 0 x h = some (if sc 18 h ≤ x ∧ x < wn 18 h then 1 else 0, h) := fun x => by rw [isGateM_eq hMS.1.1 (by omega), r1, r3]
  have no : ¬ ((sc 18 h ≤ a ∧ a < wn 18 h) ∧ (b = -1 ∨ (sc 18 h ≤ b ∧ b < wn 18 h) ∧ a < b) ∧ (c = -1 ∨ b ≠ -1 ∧ (sc 18 h ≤ c ∧ c < wn 18 h) ∧ b < c)) → XX12_arePoints_p56 b c h = some (ptN h a b c, h) := by
    intro hg
    unfold XX12_arePoints_p56 XX12_arePoints_p57 ptN
    rw [if_pos rfl, if_neg hg]
  have yes : ((sc 18 h ≤ a ∧ a < wn 18 h) ∧ (b = -1 ∨ (sc 18 h ≤ b ∧ b < wn 18 h) ∧ a < b) ∧ (c = -1 ∨ b ≠ -1 ∧ (sc 18 h ≤ c ∧ c < wn 18 h) ∧ b < c)) → XX12_arePoints_p52 b c h = some (ptN h a b c, h) := by
    intro hg
    unfold XX12_arePoints_p52 XX12_arePoints_p57 ptN
    rw [if_neg n10, if_pos hg]
    split
    · rfl
    · split <;> rfl
  have h28 : (sc 18 h ≤ a ∧ a < wn 18 h) → (b = -1 ∨ (sc 18 h ≤ b ∧ b < wn 18 h) ∧ a < b) → XX12_arePoints_p28 b c h = some (ptN h a b c, h) := by
    intro qa hb
    unfold XX12_arePoints_p28
    by_cases qc : c = -1
    · rw [if_pos qc]; exact yes ⟨qa, hb, Or.inl qc⟩
    · rw [if_neg qc]
      by_cases qb : b = -1
      · rw [if_pos qb]; exact no (fun hg => by rcases hg.2.2 with t | t; exact qc t; exact t.1 qb)
      · rw [if_neg qb, hgt, cal_eq]
        by_cases qc3 : sc 18 h ≤ c ∧ c < wn 18 h
        · rw [if1 qc3, if_neg n10]
          by_cases qc2 : c ≤ b
          · rw [if_pos qc2]; exact no (fun hg => by rcases hg.2.2 with t | t; exact qc t; omega)
          · rw [if_neg qc2]; exact yes ⟨qa, hb, Or.inr ⟨qb, qc3, by omega⟩⟩
        · rw [if0 qc3, if_pos rfl]; exact no (fun hg => by rcases hg.2.2 with t | t; exact qc t; exact qc3 t.2.1)
  unfold XX12_arePoints
  rw [hgt, cal_eq]
  by_cases qa : sc 18 h ≤ a ∧ a < wn 18 h
  · rw [if1 qa, if_neg n10]
    by_cases qb : b = -1
    · rw [if_pos qb]; exact h28 qa (Or.inl qb)
    · rw [if_neg qb, hgt, cal_eq]
      by_cases qb3 : sc 18 h ≤ b ∧ b < wn 18 h
      · rw [if1 qb3, if_neg n10]
        by_cases qb2 : b ≤ a
        · rw [if_pos qb2]; exact no (fun hg => by rcases hg.2.1 with t | t; exact qb t; omega)
        · rw [if_neg qb2]; exact h28 qa (Or.inr ⟨qb3, by omega⟩)
      · rw [if0 qb3, if_pos rfl]; exact no (fun hg => by rcases hg.2.1 with t | t; exact qb t; exact qb3 t.1)
  · rw [if0 qa, if_pos rfl]; exact no (fun hg => qa hg.1)
/-- the model's nets beside the class's, whatever the tapes hold -/
def Wk (h : Hp) : Prop := RelN h ∧ Pl 40 18 h ∧ Pl 24 28 h
theorem Wk_MS {h : Hp} (w : Wk h) : MS h := Rel_MS w.1 w.2.1 w.2.2
theorem Wk_tr {h h1 : Hp} (e : ∀ a i, ((18 ≤ a ∧ a ≤ 22) ∨ (28 ≤ a ∧ a ≤ 32) ∨ (144 ≤ a ∧ a ≤ 148) ∨ (a = 143 ∧ 1 ≤ i ∧ i ≤ 3)) → h1 a i = h a i) (w : Wk h) : Wk h1 :=
  ⟨RelN_congr (fun a i hh => e a i (by omega)) w.1, Pl_tr (fun a i hh => e a i (by omega)) w.2.1, Pl_tr (fun a i hh => e a i (by omega)) w.2.2⟩
theorem Inv_Wk {n : Nat} {h : Hp} (hI : Inv n h) : Wk h := ⟨hI.2.1, hI.1.1.1, hI.1.2.1.1⟩
theorem mends_wk {h2 h3 : Hp} (w : Wk h3) {a b c m : Int} (hm : 1 ≤ m ∧ m ≤ 3) (h24 : h2 40 4 = m) (h41 : ∀ k, k < 3 → h2 41 k = p3 a b c k) (g : ∀ x i, ((18 ≤ x ∧ x ≤ 21) ∨ (28 ≤ x ∧ x ≤ 31)) → h3 x i = h2 x i) :
    ∃ r4 h4 r5 h5, XX12_prepares h3 = some (r4, h4) ∧ XX12_mendings a b c m h4 = some (r5, h5) ∧ (∀ q : Nat, (q : Int) < 2 ^ m.toNat → ∀ cs, cs < 256 → (MdM h5 q cs ↔ Mds h2 q cs)) ∧ ∀ a i, ¬ ((186 ≤ a ∧ a ≤ 190) ∨ (a = 143 ∧ 63 ≤ i ∧ i ≤ 64)) → h5 a i = h3 a i := by
  have hMS := Wk_MS w
  obtain ⟨r4, h4, e4, p1, p2, p3', p4⟩ := prepares_ok hMS.1
  have f4 := fr_XX12_prepares e4
  have w4 : Wk h4 := Wk_tr (fun a i hh => f4 a i (by omega)) w
  have hMS4 := Wk_MS w4
  have g1 := f4 143 1 (by omega)
  have g2 := f4 143 2 (by omega)
  have g4 : h4 144 = h3 144 := funext (fun i => f4 144 i (by omega))
  have g5 : h4 145 = h3 145 := funext (fun i => f4 145 i (by omega))
  have g6 : h4 146 = h3 146 := funext (fun i => f4 146 i (by omega))
  have P : Prep h4 := by
    unfold Prep
    rw [sM_congr g1 g2, nM_congr g1 g2 g4, nM_congr g1 g2 g4, kM_congr g5, kM_congr g5, pM_congr g6, pM_congr g6]
    exact ⟨p2, p3', p1⟩
  obtain ⟨r5, h5, e5, q1, q2, q3, q4⟩ := mendings_ok hMS4 P.1 P.2.1 P.2.2 (a := a) (b := b) (c := c) hm
  have f5 := fr_XX12_mendings e5
  refine ⟨r4, h4, r5, h5, e4, e5, fun q hq cs hcs => ?_, fun x i hh => by rw [f5 x i (by omega), f4 x i (by omega)]⟩
  rw [Mds_p3 (a := a) (b := b) (c := c) h41 (by omega), h24]
  unfold MdM
  rw [q2 q hq (cs / 64) (by omega), mdM_mdW w4.1 w4.2.1 w4.2.2, mdW_congr (h := h2) (fun x i hh => by rw [f4 x i (by omega)]; exact g x i hh)]
