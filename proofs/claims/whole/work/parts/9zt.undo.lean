/-- what can be undone, behind apply -/
theorem J10_apl {h g f : Hp} {s U b : Nat} {mask : Int} (hP : Pl 40 18 h) (j : J10 h) (j9 : J9 h) (op : OpC s U b mask h g) (hU : ((U + s : Nat) : Int) = h 72 2) (hU4 : U < 4) (hm : mask = h 67 1) (ef : ∀ a i, (a = 73 ∨ a = 74 ∨ (78 ≤ a ∧ a ≤ 97) ∨ (a = 72 ∧ i = 2)) → f a i = g a i) (e18 : ∀ i, i ≤ 2 → f 18 i = h 18 i) (e67 : f 67 0 = h 67 0) (e36 : f 143 36 = ((U + 1 : Nat) : Int)) (sl : ∀ u, u < U → SlE (6 + u + s) (6 + u) h f) (hnew : PRel b (6 + U) f) (hz : ∀ z, z < 12 → f 184 (12 * (6 + U) + z) = h 155 z) : J10 f := by
  obtain ⟨j1, j2, j3, j4, j5, j6⟩ := id j
  obtain ⟨o1, o2, o3, o4, o5, o6, o7, o8, o9, o10, o11⟩ := op
  refine ⟨by rw [ef 72 2 (by omega), o2, e36], by rw [ef 72 2 (by omega), o2]; omega, by rw [ef 72 2 (by omega), o2]; omega, fun u hu => by rw [ef 73 u (by omega)]; exact o9 u hu, fun u v h1 h2 => by rw [ef 73 u (by omega), ef 73 v (by omega)]; exact o10 u v h1 h2, fun u hu => ?_⟩
  rw [ef 72 2 (by omega), o2] at hu
  by_cases t : u < U
  · obtain ⟨u1, u2, u3, u4, u5⟩ := j6 (u + s) (by omega)
    have hb := bef_in j (u := u + s) (by omega)
    have hb4 := j4 (u + s) (by omega)
    have ne := o10 u U t hU4
    rw [(o5 u t).1, o6] at ne
    have eb : bef f u = bef h (u + s) := by unfold bef; rw [ef 73 u (by omega), (o5 u t).1]
    have far : bef h (u + s) + 4 < b ∨ b + 4 < bef h (u + s) := by
      unfold bef
      rcases hb4 with x | x | x | x <;> rw [x] at ne ⊢ <;> omega
    have rows : ∀ a i, (bef h (u + s) ≤ a ∧ a ≤ bef h (u + s) + 4) → f a i = h a i := fun a i hh => by rw [ef a i (by omega)]; exact o1 a i (by omega)
    have hN := u1.1
    unfold Undo
    rw [eb]
    refine ⟨Pl_tr rows u1, PRel_sl (by unfold Nums at hN; omega) rows (sl u t) (by rw [show 6 + u + s = 6 + (u + s) by omega]; exact u2), ?_, ?_, fun z hz2 => ?_⟩
    · rw [rows _ 0 (by omega), rows _ 1 (by omega), rows _ 2 (by omega), e18 0 (by omega), e18 1 (by omega), e18 2 (by omega)]; exact u3
    · rw [ef 74 u (by omega), (o5 u t).2, e67]; exact u4
    · rw [e67] at hz2
      have z12 := j9.2.2.1
      rw [ef 74 u (by omega), (o5 u t).2, (sl u t).2.2.2.2.2 z (by omega), show 12 * (6 + u + s) + z = 12 * (6 + (u + s)) + z by omega]
      exact u5 z hz2
  · have : u = U := by omega
    subst this
    have eb : bef f u = b := by unfold bef; rw [ef 73 u (by omega), o6, Int.toNat_natCast]
    obtain ⟨pb, _, _⟩ := Pl_take o8 hP
    have rows : ∀ a i, (b ≤ a ∧ a ≤ b + 4) → f a i = g a i := fun a i hh => ef a i (by omega)
    unfold Undo
    rw [eb]
    refine ⟨Pl_tr rows pb, hnew, ?_, ?_, fun z hz2 => ?_⟩
    · rw [rows b 0 (by omega), rows b 1 (by omega), rows b 2 (by omega), o8.1 0 (by omega), o8.1 1 (by omega), o8.1 2 (by omega), e18 0 (by omega), e18 1 (by omega), e18 2 (by omega)]
      exact ⟨rfl, rfl, rfl⟩
    · rw [ef 74 u (by omega), o7, hm, e67]; exact j9.2.2.2.1
    · rw [e67] at hz2
      have z12 := j9.2.2.1
      have a := (j9.2.2.2.2 z hz2).2.2.2.2
      rw [ef 74 u (by omega), o7, hm, hz z (by omega)]
      exact a
/-- tapes keep their plans where only the slots of undos have changed -/
theorem J12_apl {h f : Hp} (j : J12 h) (e : ∀ a i, (a = 98 ∨ (101 ≤ a ∧ a ≤ 142) ∨ (171 ≤ a ∧ a ≤ 173)) → f a i = h a i) (sl : ∀ t, t < 6 → SlE t t h f) : J12 f := by
  intro d hd
  obtain ⟨j0, j1, j2, j3, j4⟩ := j d hd
  unfold Tap
  rw [e 98 d (by omega), e (101 + 7 * d) 0 (by omega), e (101 + 7 * d) 1 (by omega), e 171 d (by omega), e 172 d (by omega)]
  refine ⟨j0, j1, j2, fun hh => ?_, fun hh => ?_⟩
  · obtain ⟨k1, k2, k3, k4⟩ := j3 hh
    exact ⟨k1, k2, k3, fun i hi => by rw [e _ i (by omega), e 173 _ (by omega)]; exact k4 i hi⟩
  · obtain ⟨k1, k2⟩ := j4 hh
    have hN := k1.1
    have rows : ∀ a i, (101 + 7 * d + 2 ≤ a ∧ a ≤ 101 + 7 * d + 2 + 4) → f a i = h a i := fun a i ha => e a i (by omega)
    exact ⟨Pl_tr rows k1, PRel_sl (by unfold Nums at hN; omega) rows (sl d hd) k2⟩
