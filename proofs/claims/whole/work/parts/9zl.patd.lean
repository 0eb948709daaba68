/-- a point of the patch -/
def PtT (h : Hp) (x : Int) : Prop := ∃ k : Nat, (k : Int) < h 56 3 ∧ x = h 57 k
/-- a patched net is as it must be -/
theorem patched_Pl {h f : Hp} {s n0 N M : Nat} {σ : TrS} {B : Nat → Nat → Bool} (hP : Pl 40 18 h) (hs : sc 18 h = (s : Int)) (hn0 : h 18 3 = (n0 : Int)) (p : PlB h N M) (g : GdT h s n0 M (h 20) σ) (hn : σ.n ≤ 40) (hB : Hang (sc 18 h) (wn 18 h) (h 19) (h 20) B) (f0 : ∀ i, i ≤ 2 → f 18 i = h 18 i) (f3 : f 18 3 = (σ.n : Int)) (f19 : ∀ w, w < s + σ.n → f 19 w = σ.K w) (f22 : ∀ w, w < 48 → f 22 w = σ.L w) (hsub : ∀ j, 3 * s ≤ j → j < 3 * (s + σ.n) → (f 20 j = σ.P j ∧ ¬ PtT h (σ.P j)) ∨ (PtT h (σ.P j) ∧ NwT h s n0 σ.n (f 20 j))) (hseen : ∀ k : Nat, (k : Int) < h 18 2 + h 18 1 → f 21 k = h 21 k ∨ NwT h s n0 σ.n (f 21 k)) : Pl 40 18 f := by
  obtain ⟨j2, j9, pt, e0, e8, n12, m8, mn, w48, s0⟩ := id p
  obtain ⟨q1, q2, q3, q4, q5, _, q7, q8, q9, q10⟩ := id pt
  obtain ⟨hN, hPi, hA, hS, hL⟩ := id hP
  have lt := Pl_lt (by decide) hN
  obtain ⟨g1, g2, g3, g4, g5, g6, g7⟩ := g
  have hw : wn 18 h = ((s + n0 : Nat) : Int) := by unfold wn; unfold sc at hs; omega
  have sf : sc 18 f = (s : Int) := by rw [← hs]; unfold sc; rw [f0 0 (by omega), f0 1 (by omega)]
  have wf : wn 18 f = ((s + σ.n : Nat) : Int) := by unfold wn; unfold sc at hs; rw [f0 0 (by omega), f0 1 (by omega), f3]; omega
  have nw : ∀ n x, n ≤ σ.n → NwT h s n0 n x → 0 ≤ x ∧ x < ((s + σ.n : Nat) : Int) := by
    intro n x hle t
    rcases t with t | ⟨j, j1, rfl⟩
    · omega
    · have := q7 j j1; omega
  have ptr : ∀ x, PtT h x → (s : Int) ≤ x ∧ x < ((s + n0 : Nat) : Int) := by
    rintro x ⟨k, k1, rfl⟩
    have := q5 k k1; omega
  have ntp : ∀ n x, NwT h s n0 n x → ¬ PtT h x := by
    intro n x t ⟨k, k1, k2⟩
    have hk := q5 k k1
    rcases t with t | ⟨j, j1, rfl⟩
    · omega
    · have a := q10 B hB j j1 k k1
      rw [k2] at a
      rw [(hB.2 (h 57 k).toNat (by omega) (by omega) _).2 (Or.inl rfl)] at a
      cases a
  rw [hs, hw] at hPi hA hB
  have pins : ∀ w : Nat, s ≤ w → w < s + σ.n → (0 ≤ σ.K w ∧ σ.K w ≤ 8) ∧ ∀ k : Nat, k < 3 → ((k : Int) < pinC (σ.K w).toNat → 0 ≤ σ.P (3 * w + k) ∧ σ.P (3 * w + k) < ((s + σ.n : Nat) : Int)) ∧ (pinC (σ.K w).toNat ≤ k → σ.P (3 * w + k) = -1) := by
    intro w h1 h2
    by_cases q : w < s + n0
    · obtain ⟨a, b⟩ := hPi w (by omega) (by omega)
      have a : 0 ≤ h 19 w ∧ h 19 w ≤ 8 := a
      rw [(g2 w q).1]
      refine ⟨a, fun k hk => ?_⟩
      rw [g3 _ (by omega)]
      exact ⟨fun t => by have : 0 ≤ h 20 (3 * w + k) ∧ h 20 (3 * w + k) < ((s + n0 : Nat) : Int) := (b k hk).1 t
                         omega, fun t => (b k hk).2 t⟩
    · obtain ⟨a, _, b⟩ := g4 w (by omega) h2
      exact ⟨a, fun k hk => ⟨fun t => nw _ _ (by omega) ((b k hk).1 t), fun t => (b k hk).2 t⟩⟩
  refine ⟨?_, ?_, ?_, fun k hk => ?_, fun w hw' => ?_⟩
  · unfold Nums at *
    rw [f0 0 (by omega), f0 1 (by omega), f0 2 (by omega), f3]; omega
  · rw [sf, wf]
    intro w h1 h2
    obtain ⟨a, b⟩ := pins w (by omega) (by omega)
    have ek : f (18 + 1) w = σ.K w := f19 w (by omega)
    rw [ek]
    refine ⟨a, fun k hk => ?_⟩
    have hj := hsub (3 * w + k) (by omega) (by omega)
    show ((k : Int) < pinC (σ.K w).toNat → 0 ≤ f 20 (3 * w + k) ∧ f 20 (3 * w + k) < _) ∧ (pinC (σ.K w).toNat ≤ k → f 20 (3 * w + k) = -1)
    rcases hj with ⟨x1, x2⟩ | ⟨x1, x2⟩
    · rw [x1]; exact b k hk
    · refine ⟨fun _ => nw _ _ (Nat.le_refl _) x2, fun t => ?_⟩
      have := ptr _ x1
      rw [(b k hk).2 t] at this
      omega
  · rw [sf, wf]
    refine Acy_patched (K := h 19) (P := h 20) (B := B) (pts := PtT h) (new := NwT h s n0 σ.n) (by omega) hPi hA hB (by omega) ptr (fun w hw' => ?_) (fun w h1 h2 k hk => ?_) (fun x hx => ?_) (fun w h1 h2 k hk => ?_)
    · show f 19 w = h 19 w
      rw [f19 w (by omega)]; exact (g2 w hw').1
    · have pb := pinC_b (h 19 w).toNat
      have e := g3 (3 * w + k) (by omega)
      have hj := hsub (3 * w + k) (by omega) (by omega)
      rw [e] at hj
      exact hj
    · rcases hx with t | ⟨j, j1, rfl⟩
      · exact Or.inl t
      · have a := q7 j j1
        refine Or.inr ⟨by omega, by omega, ?_⟩
        rintro v ⟨k, k1, k2⟩
        have b := q10 B (by rw [hs, hw]; exact hB) j j1 k k1
        rw [← k2, Int.toNat_natCast] at b
        exact b
    · have ek : f (18 + 1) w = σ.K w := f19 w h2
      rw [ek] at hk
      have pb := pinC_b (σ.K w).toNat
      have a := ((g4 w h1 h2).2.2 k (by omega)).1 hk
      have hj := hsub (3 * w + k) (by omega) (by omega)
      rcases hj with ⟨x1, _⟩ | ⟨x1, _⟩
      · show (((s + n0 : Nat) : Int) ≤ f 20 (3 * w + k) ∧ f 20 (3 * w + k) < (w : Int)) ∨ (0 ≤ f 20 (3 * w + k) ∧ f 20 (3 * w + k) < ((s + n0 : Nat) : Int) ∧ ∀ v : Nat, PtT h v → B (f 20 (3 * w + k)).toNat v = false)
        rw [x1]
        rcases a with t | ⟨j, j1, j2'⟩
        · exact Or.inl (by omega)
        · rw [j2']
          have a := q7 j j1
          refine Or.inr ⟨by omega, by omega, ?_⟩
          rintro v ⟨k', k1, k2⟩
          have b := q10 B (by rw [hs, hw]; exact hB) j j1 k' k1
          rw [← k2, Int.toNat_natCast] at b
          exact b
      · exact absurd x1 (ntp _ _ a)
  · rw [f0 2 (by omega), f0 1 (by omega)] at hk
    rw [wf]
    show 0 ≤ f 21 k ∧ f 21 k < _
    rcases hseen k hk with t | t
    · rw [t]
      have a : 0 ≤ h 21 k ∧ h 21 k < wn 18 h := hS k hk
      omega
    · exact nw _ _ (Nat.le_refl _) t
  · show 0 ≤ f 22 w ∧ f 22 w < 1024
    rw [f22 w hw']
    have hl : 0 ≤ h 22 w ∧ h 22 w < 1024 := hL w hw'
    by_cases a : w < s + n0
    · rw [(g2 w a).2]; exact hl
    · by_cases b : w < s + σ.n
      · exact (g4 w (by omega) b).2.1
      · rw [(g5 w (by omega)).2]; exact hl
