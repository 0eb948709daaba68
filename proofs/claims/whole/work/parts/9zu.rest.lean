/-- the journal, behind apply -/
theorem J11_apl {f : Hp} {F : List (Int × Int × Int)} {T : List Int} (hF : F.length ≤ 126) (hT : T.length ≤ 256) (a : LgC F f) (b : LgM F f) (c1 : f 72 6 = ((T.length : Nat) : Int)) (c2 : f 143 38 = ((T.length : Nat) : Int)) (d1 : ∀ i e, T[i]? = some e → f 76 i = e) (d2 : ∀ i e, T[i]? = some e → f 170 i = e) : J11 f := by
  refine ⟨⟨by rw [a.1, b.1], by rw [a.1]; omega, by rw [a.1]; omega⟩, fun i hi => ?_, ⟨by rw [c1, c2], by rw [c1]; omega, by rw [c1]; omega⟩, fun i hi => ?_⟩
  · rw [a.1] at hi
    have he : F[i]? = some (F[i]'(by omega)) := List.getElem?_eq_getElem (by omega)
    obtain ⟨x1, x2, x3⟩ := a.2 i _ he
    obtain ⟨y1, y2, y3⟩ := b.2 i _ he
    rw [x1, x2, x3, y1, y2, y3]
    exact ⟨rfl, rfl, rfl⟩
  · rw [c1] at hi
    have he : T[i]? = some (T[i]'(by omega)) := List.getElem?_eq_getElem (by omega)
    rw [d1 i _ he, d2 i _ he]
/-- spares, behind apply -/
theorem J9_apl {h f : Hp} {N : Nat} {V : Nat → Bool} (j : J9 h) (hN : h 67 0 = (N : Int)) (e : ∀ a i, (a = 68 ∨ a = 69 ∨ (152 ≤ a ∧ a ≤ 154) ∨ (a = 67 ∧ i = 0) ∨ (a = 143 ∧ i = 12)) → f a i = h a i) (m : (0 ≤ f 67 1 ∧ f 67 1 < ((2 ^ N : Nat) : Int)) ∧ ∀ z, z < N → ti (f 67 1) z = V z) (u : ∀ z, z < N → (f 155 z = 0 ∨ f 155 z = 1) ∧ V z = decide (f 155 z = 1)) : J9 f := by
  obtain ⟨a1, a2, a3, a4, a5⟩ := j
  unfold J9
  rw [e 67 0 (by omega), e 143 12 (by omega)]
  refine ⟨a1, a2, a3, ?_, fun z hz => ?_⟩
  · rw [hN, Int.toNat_natCast]
    have : ((2 ^ N : Nat) : Int) = (2 : Int) ^ N := by rw [Int.natCast_pow]; rfl
    have := m.1
    omega
  · obtain ⟨s1, s2, s3, s4, _, _⟩ := a5 z hz
    rw [e 68 z (by omega), e 69 z (by omega), e 152 z (by omega), e 153 z (by omega), e 154 z (by omega)]
    exact ⟨s1, s2, s3, s4, (u z (by omega)).1, by rw [m.2 z (by omega)]; exact (u z (by omega)).2⟩
