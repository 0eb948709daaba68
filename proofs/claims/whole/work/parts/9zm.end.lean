/-- the class's last steps: fresh words, the tests, no patch -/
theorem endC {h g : Hp} {C cnt : Nat} {r1 : Int} (hP : Pl 40 18 g) (h37 : g 37 0 = (C : Int)) (hC2 : C ≤ 256) (hcnt : g 18 2 + g 18 1 = (cnt : Int)) (h77 : ∀ k part : Nat, k < cnt → part < 4 → g 77 (4 * k + part) = fOl h noF part (h 21 k).toNat) (hl : ∀ c, live g c = live h c) {D : Nat → Bool} (hD : ∀ c, c < C → (D c = true ↔ live h c = true ∧ ∃ k, k < cnt ∧ tb (fOl g noF ((c / 64 : Nat) : Int) (g 21 k).toNat) (c % 64) ≠ tb (fOl h noF ((c / 64 : Nat) : Int) (h 21 k).toNat) (c % 64))) {T : List Int} (hT : frB (tsL D) (C - 0) 0 [] = T) : En (cal (XX6_stale 17 g) (fun r7 h8 => cal (XX6_refresh 17 h8) (fun r9 h10 => cal (XX3_findTests 17 h10) (fun r11 h12 => cal (XX7_drop h12) (fun r13 h14 => some (r1, h14)))))) (fun r f => r = r1 ∧ (∀ a i, ¬ ((a = 17 ∧ i = 6) ∨ (23 ≤ a ∧ a ≤ 25) ∨ a = 76 ∨ (a = 72 ∧ i = 6) ∨ (a = 56 ∧ i = 0)) → f a i = g a i) ∧ NetOK 40 17 f ∧ f 56 0 = 0 ∧ f 72 6 = ((T.length : Nat) : Int) ∧ T.length ≤ C ∧ ∀ i e, T[i]? = some e → f 76 i = e) := by
  unfold XX6_stale
  rw [zb_0, hm_eq, cal_eq]
  have o1 : ∀ a i, ¬ (a = 17 ∧ i = 6) → wr g 17 6 0 a i = g a i := fun a i hh => wq_ne hh
  have v1 : wr g 17 6 0 17 6 = 0 := wr_at
  generalize wr g 17 6 0 = g1 at *
  have hP1 : Pl 40 18 g1 := Pl_tr (fun a i hh => o1 a i (by omega)) hP
  refine En_cal (refresh_ok (p := 17) (by decide) ⟨hP1, Or.inl v1, fun t => by rw [v1] at t; cases t⟩) (fun r9 g2 _ h2 => ?_)
  obtain ⟨n2, c2, z2, k2⟩ := h2
  have kk : ∀ a i, ¬ ((a = 17 ∧ i = 6) ∨ (23 ≤ a ∧ a ≤ 25)) → g2 a i = g a i := fun a i hh => by rw [k2 a i (by omega), o1 a i (by omega)]
  have hP2 : Pl 40 18 g2 := n2.1
  have x18 : g2 18 = g 18 := funext (fun i => kk 18 i (by omega))
  have fo : ∀ part : Int, fOl g2 noF part = fOl g noF part := fun part => fOl_congr x18 (funext (fun i => kk 19 i (by omega))) (funext (fun i => kk 20 i (by omega))) noF part
  have w25 : ∀ w part : Nat, (w : Int) < wn 18 g → part < 4 → g2 25 (4 * w + part) = fOl g noF part w := fun w part hw hp => by
    rw [← fo]
    exact solW_eq (W := fun w => g2 25 (4 * w + part)) hP2.2.1 hP2.2.2.1 (c2.2.2 part hp) w (by rw [wn_congr x18]; exact hw)
  have lv : ∀ c, live g2 c = live h c := fun c => by rw [← hl c]; unfold live; rw [kk 39 _ (by omega)]
  have hd : ∀ c, c < C → (D c = true ↔ live g2 c = true ∧ dfC g2 cnt c) := by
    intro c hc
    rw [hD c hc, lv]
    have e : ∀ k, k < cnt → (g2 25 (4 * (g2 21 k).toNat + c / 64) = fOl g noF ((c / 64 : Nat) : Int) (g 21 k).toNat ∧ g2 77 (4 * k + c / 64) = fOl h noF ((c / 64 : Nat) : Int) (h 21 k).toNat) := by
      intro k hk
      have hs : 0 ≤ g 21 k ∧ g 21 k < wn 18 g := hP.2.2.2.1 k (by omega)
      rw [kk 21 k (by omega), kk 77 _ (by omega)]
      exact ⟨w25 _ _ (by omega) (by omega), h77 k _ hk (by omega)⟩
    unfold dfC
    constructor
    · rintro ⟨a, k, hk, b⟩
      exact ⟨a, k, hk, by rw [(e k hk).1, (e k hk).2]; exact b⟩
    · rintro ⟨a, k, hk, b⟩
      rw [(e k hk).1, (e k hk).2] at b
      exact ⟨a, k, hk, b⟩
  refine En_cal (findTests_ok hP2 (n := cnt) (C := C) (by rw [kk 18 2 (by omega), kk 18 1 (by omega)]; exact hcnt) (by rw [kk 37 0 (by omega)]; exact h37) hC2 hd hT) (fun r11 g3 _ h3 => ?_)
  obtain ⟨k3, t1, t2, t3⟩ := h3
  unfold XX7_drop
  rw [zb_0, hm_eq, cal_eq]
  refine En_some ⟨rfl, fun a i hh => by rw [wq_ne (by omega), k3 a i (by omega), kk a i (by omega)], NetOK_tr (fun a i hh => by rw [wq_ne (by omega), k3 a i (by omega)]) n2, wr_at, by rw [wq_ne (by omega)]; exact t1, t2, fun i e he => by rw [wq_ne (by omega)]; exact t3 i e he⟩
/-- a heap where no tree has been added yet -/
theorem CT_start {h B : Hp} {N M n0 : Nat} (p : PlB h N M) (e : ∀ a i, ((18 ≤ a ∧ a ≤ 22) ∨ a = 67) → B a i = h a i) (hn : h 18 3 = (n0 : Int)) : CT h B N M (n0, h 19, h 20, h 22, fun _ => -1, fun z => ti (h 67 1) z) B := by
  have hu := p.2.1.2.2.2.1
  have e0 := p.2.2.2.1
  refine ⟨fun _ _ _ => rfl, by rw [e 18 3 (by omega)]; exact hn, funext (fun i => e 19 i (by omega)), funext (fun i => e 20 i (by omega)), funext (fun i => e 22 i (by omega)), fun i _ t => absurd rfl t, ⟨?_, fun z _ => by rw [e 67 1 (by omega)]; rfl⟩⟩
  rw [e 67 1 (by omega)]
  rw [e0, Int.toNat_natCast] at hu
  have : ((2 ^ N : Nat) : Int) = (2 : Int) ^ N := by rw [Int.natCast_pow]; rfl
  omega
theorem MT_start {h B : Hp} {N M n0 : Nat} (p : PlB h N M) (hR : RelN h) (e : ∀ a i, ((144 ≤ a ∧ a ≤ 146) ∨ (150 ≤ a ∧ a ≤ 151) ∨ a = 155) → B a i = h a i) (hn : h 18 3 = (n0 : Int)) : MT B N M (n0, h 19, h 20, h 22, fun _ => -1, fun z => ti (h 67 1) z) B := by
  obtain ⟨r, _, r1, _, r2, _, _⟩ := hR
  obtain ⟨j2, j9, _, e0, _⟩ := id p
  refine ⟨fun _ _ _ => rfl, by rw [e 144 0 (by omega), ← r.2.2.2]; exact hn, ⟨fun w hw => by rw [e 145 w (by omega)]; exact r1 w hw, fun _ _ => rfl⟩, ⟨fun j hj => by rw [e 146 j (by omega)]; exact r2 j hj, fun _ _ => rfl⟩, fun w hw => by rw [e 150 w (by omega), e 151 w (by omega)]; exact j2 w hw, fun i _ t => absurd rfl t, fun z hz => ?_, fun _ _ => rfl⟩
  have := (j9.2.2.2.2 z (by omega)).2.2.2.2
  rw [e 155 z (by omega)]
  exact this
/-- nothing has grown yet -/
theorem GdT_start {h : Hp} {s n0 M : Nat} (U : Nat → Bool) : GdT h s n0 M (h 20) (n0, h 19, h 20, h 22, fun _ => -1, U) := by
  refine ⟨Nat.le_refl _, fun w _ => ⟨rfl, rfl⟩, fun j _ => rfl, fun w h1 h2 => ?_, fun w _ => ⟨rfl, rfl⟩, fun j _ => rfl, fun i _ => Or.inl rfl⟩
  have : TrS.n (n0, h 19, h 20, h 22, fun _ => -1, U) = n0 := rfl
  omega
