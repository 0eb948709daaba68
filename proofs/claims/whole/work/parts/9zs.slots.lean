theorem mov184 {sa sl : Nat} (hsa : sa < 10) {h f : Hp} (s : MovP sa sl 48 144 4 2 12 h f) (z : ∀ i, i < 120 → h 184 i = 0 ∨ h 184 i = 1) : ∀ i, i < 120 → f 184 i = 0 ∨ f 184 i = 1 := by
  intro i hi
  rw [s.2.2.2.2.2.2.2.2 i]
  split
  · exact z _ (by omega)
  · exact z i hi
/-- the model forgets its oldest -/
theorem L80_ok {g : Hp} (hz : ∀ i, i < 120 → g 184 i = 0 ∨ g 184 i = 1) (h36 : g 143 36 = 4) {r : Int} {P : Int → Hp → Prop} (hend : ∀ f, (∀ a i, ¬ ((174 ≤ a ∧ a ≤ 184) ∨ (a = 143 ∧ i = 36)) → f a i = g a i) → f 143 36 = 3 → (∀ t, t < 6 → SlE t t g f) → (∀ u, u < 3 → SlE (6 + u + 1) (6 + u) g f) → (∀ i, i < 120 → f 184 i = 0 ∨ f 184 i = 1) → En (XX12_apply_p115 r f) P) : En (XX12_apply_L80 r 1 g) P := by
  unfold XX12_apply_L80
  refine En_lup2 (fun _ l _ => (6 - l).toNat) (fun l1 l x => r = l1 ∧ ∃ k : Nat, l = (k : Int) ∧ 1 ≤ k ∧ k ≤ 4 ∧ (∀ a i, ¬ (174 ≤ a ∧ a ≤ 184) → x a i = g a i) ∧ (∀ t, (t < 6 ∨ 6 + k ≤ t + 1) → SlE t t g x) ∧ (∀ u, u + 1 < k → SlE (6 + u + 1) (6 + u) g x) ∧ ∀ i, i < 120 → x 184 i = 0 ∨ x 184 i = 1) ?_ FU _ _ _ (by unfold FU; omega) ⟨rfl, 1, rfl, by omega, by omega, fun _ _ _ => rfl, fun t _ => SlE_id (fun _ _ _ => rfl), fun u hu => by omega, hz⟩
  rintro self l1 l x ih ⟨rfl, k, rfl, k1, k4, kx, s1, s2, sz⟩
  unfold XX12_apply_b80
  by_cases q : 4 ≤ (k : Int)
  · have x36 : x 143 36 = 4 := by rw [kx 143 36 (by omega)]; exact h36
    rw [if_pos q, x36, chk_pos (by omega), hm_eq]
    have o : ∀ a i, ¬ (a = 143 ∧ i = 36) → wr x 143 36 (4 - 1) a i = x a i := fun a i hh => wq_ne hh
    refine hend _ (fun a i hh => by rw [o a i (by omega)]; exact kx a i (by omega)) wr_at (fun t ht => SlE_tr (s1 t (Or.inl ht)) (SlE_id (fun a i hh => o a i (by omega)))) (fun u hu => SlE_tr (s2 u (by omega)) (SlE_id (fun a i hh => o a i (by omega)))) (fun i hi => by rw [o 184 i (by omega)]; exact sz i hi)
  · rw [if_neg q, chk_pos (by omega), chk_pos (by omega), chk_pos (by omega), show 6 + (k : Int) = ((6 + k : Nat) : Int) by omega, show ((6 + k : Nat) : Int) - 1 = ((6 + k - 1 : Nat) : Int) by omega]
    refine En_cal (moves_ok (sa := 6 + k) (sl := 6 + k - 1) (by omega) (by omega) (by omega) sz) (fun r2 f _ hf => ?_)
    rw [chk_pos (by omega)]
    refine ih _ _ _ (by omega) ⟨rfl, k + 1, by omega, by omega, by omega, fun a i hh => by rw [hf.1 a i hh]; exact kx a i hh, fun t ht => SlE_tr (s1 t (by omega)) (SlE_mo (by omega) hf), fun u hu => ?_, mov184 (by omega) hf sz⟩
    by_cases t : u + 1 = k
    · have a := SlE_tr (s1 (6 + k) (by omega)) (SlE_mv hf)
      rw [show 6 + u + 1 = 6 + k by omega, show 6 + u = 6 + k - 1 by omega]
      exact a
    · exact SlE_tr (s2 u (by omega)) (SlE_mo (by omega) hf)
