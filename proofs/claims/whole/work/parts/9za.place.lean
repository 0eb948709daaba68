theorem Pat_placed {h f : Hp} (pt : Pat h) (e : ∀ y i, ¬ (y = 65 ∨ (y = 56 ∧ i = 1) ∨ y = 166 ∨ (y = 143 ∧ i = 24)) → (((56 ≤ y ∧ y ≤ 65) ∨ (159 ≤ y ∧ y ≤ 166) ∨ (y = 143 ∧ 23 ≤ i ∧ i ≤ 27) ∨ (18 ≤ y ∧ y ≤ 20) ∨ (y = 67 ∧ i = 0)) → f y i = h y i)) (e1 : f 56 1 = 1) (e2 : f 143 24 = 1) (hs : ∀ i : Nat, (i : Int) < h 56 8 → f 65 i = f 166 i ∧ 0 ≤ f 65 i ∧ f 65 i < f 67 0) : Pat f := by
  obtain ⟨p1, p2, p3', p4, p5, p6, p7, p8, p9, p10⟩ := pt
  have e' : ∀ a, ((57 ≤ a ∧ a ≤ 64) ∨ (159 ≤ a ∧ a ≤ 165) ∨ (18 ≤ a ∧ a ≤ 20)) → f a = h a := fun a ha => funext (fun i => e a i (by omega) (by omega))
  have c18 := e' 18 (by omega)
  have x3 : f 56 3 = h 56 3 := e 56 3 (by omega) (by omega)
  have x5 : f 56 5 = h 56 5 := e 56 5 (by omega) (by omega)
  have x8 : f 56 8 = h 56 8 := e 56 8 (by omega) (by omega)
  have po : ∀ i z, PartOK f i z ↔ PartOK h i z := fun i z => by unfold PartOK; rw [e' 64 (by omega), x5]
  unfold Pat
  rw [e1, e2, x3, x5, x8, e 143 25 (by omega) (by omega), e 143 26 (by omega) (by omega), e 143 27 (by omega) (by omega), sc_congr c18, wn_congr c18, e' 19 (by omega), e' 20 (by omega), e' 57 (by omega), e' 58 (by omega), e' 59 (by omega), e' 60 (by omega), e' 61 (by omega), e' 62 (by omega), e' 63 (by omega), e' 64 (by omega), e' 159 (by omega), e' 160 (by omega), e' 161 (by omega), e' 162 (by omega), e' 163 (by omega), e' 164 (by omega), e' 165 (by omega)]
  refine ⟨⟨rfl, Or.inr rfl⟩, p2, p3', p4, p5, p6, p7, fun i hi => ?_, p9, p10⟩
  obtain ⟨a1, ⟨a2, a3⟩, ⟨a4, a5⟩, a6, _⟩ := p8 i hi
  refine ⟨a1, ⟨a2, (po _ _).2 a3⟩, ⟨a4, ?_⟩, a6, ?_⟩
  · split
    · next t => rw [if_pos t] at a5; exact a5
    · next t => rw [if_neg t] at a5; exact (po _ _).2 a5
  · rw [if_pos rfl]; exact hs i hi
theorem m_place {n0 : Nat} {h : Hp} (hI : Inv n0 h) : Both n0 h XX11_place XX12_place := by
  have j8 : J8 h := hI.2.2.2.2.2.2.2.2.1
  have j9 : J9 h := hI.2.2.2.2.2.2.2.2.2.1
  have j2 : J2 h := hI.2.2.1
  have lt := Pl_lt (by decide) (Inv_N0 hI)
  have hj14 := hI.2.2.2.2.2.2.2.2.2.2.2.2.2.2
  obtain ⟨k1, k2, k3⟩ := j8
  rcases k2 with k2 | k2
  · refine Both_ro (r := -1) ?_ ?_ hI
    · unfold XX11_place; rw [k2, if_pos rfl]
    · unfold XX12_place; rw [← k1, k2, if_pos rfl]
  have pt := k3 k2
  obtain ⟨N, hN⟩ := Int.eq_ofNat_of_zero_le j9.2.1
  obtain ⟨M, hM⟩ := Int.eq_ofNat_of_zero_le pt.2.2.2.1.2.1
  have m27 : h 143 27 = (M : Int) := by rw [← pt.2.2.2.1.1]; exact hM
  have m12 : h 143 12 = (N : Int) := by rw [← j9.1]; exact hN
  have h23 : h 143 23 = 1 := by rw [← k1]; exact k2
  by_cases q : ¬ M ≤ N
  · refine Both_ro (r := -5) ?_ ?_ hI
    · unfold XX11_place XX9_settle; rw [k2, if_neg n10, hM, hN, if_neg (by omega), cal_eq]
    · unfold XX12_place; rw [h23, if_neg n10, m27, m12, if_neg (by omega)]
  have p : PlB h N M := ⟨j2, j9, pt, hN, hM, by have := j9.2.2.1; omega, by have := pt.2.2.2.1.2.2; omega, by omega, by omega, by omega⟩
  obtain ⟨r, hC, eC, hr⟩ := settle_ok p (by omega)
  have E1 : XX11_place h = some (r, hC) := by unfold XX11_place; rw [k2, if_neg n10, eC, cal_eq]
  have fC : MfB h hC := by
    rcases hr with ⟨_, _, k⟩ | ⟨_, _, k, _⟩ <;> exact fun y i hh => k y i (by omega)
  obtain ⟨r2, f, eF, hr2⟩ := placeM_ok p (by omega) fC h23
  rcases hr with ⟨z, rfl, kC⟩ | ⟨z, rfl, kC, v1, v65⟩
  · rcases hr2 with ⟨_, rfl, kF⟩ | ⟨z2, _⟩
    · have kk : ∀ y i, ¬ (y = 70 ∨ y = 71 ∨ y = 198) → f y i = h y i := fun y i hh => by rw [kF y i (by omega), kC y i (by omega)]
      exact Both_mk E1 eF (Inv_pat hI (fun y i hh => kk y i (by omega)) (J6_tr (fun y i hh => kk y i (by omega)) hI.2.2.2.2.2.2.1) (J8_tr (fun y i hh => kk y i (by omega)) hI.2.2.2.2.2.2.2.2.1) (J14_tr (fun y i hh => kk y i (by omega)) hj14))
    · exact absurd z z2
  · rcases hr2 with ⟨z2, _⟩ | ⟨_, rfl, kF, v24, v166⟩
    · exact absurd z2 z
    · have kk : ∀ y i, ¬ (y = 65 ∨ (y = 56 ∧ i = 1) ∨ y = 70 ∨ y = 71 ∨ y = 198 ∨ y = 166 ∨ (y = 143 ∧ i = 24)) → f y i = h y i := fun y i hh => by rw [kF y i (by omega), kC y i (by omega)]
      refine Both_mk E1 eF (Inv_pat hI (fun y i hh => kk y i (by omega)) (J6_tr (fun y i hh => kk y i (by omega)) hI.2.2.2.2.2.2.1) ⟨by rw [kk 56 0 (by omega), kk 143 23 (by omega)]; exact k1, by rw [kk 56 0 (by omega)]; exact Or.inr k2, fun _ => ?_⟩ (J14_tr (fun y i hh => kk y i (by omega)) hj14))
      refine Pat_placed pt (fun y i h1 h2 => kk y i (by omega)) (by rw [kF 56 1 (by omega)]; exact v1) v24 (fun i hi => ?_)
      have hi' : i < M := by omega
      have c := ch_lt p z hi'
      rw [kF 65 i (by omega), v65 i hi', v166 i hi', kk 67 0 (by omega), hN]
      exact ⟨rfl, by omega, by omega⟩
