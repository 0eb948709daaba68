/-- no wire that a patch brings is a point -/
theorem NwT_pt {h : Hp} {s n0 n N M : Nat} {B : Nat → Nat → Bool} (p : PlB h N M) (hs : sc 18 h = (s : Int)) (hW : wn 18 h = ((s + n0 : Nat) : Int)) (hB : Hang (sc 18 h) (wn 18 h) (h 19) (h 20) B) {x : Int} (t : NwT h s n0 n x) {k : Nat} (hk : (k : Int) < h 56 3) : x ≠ h 57 k := by
  obtain ⟨_, _, _, _, q5, _, q7, _, _, q10⟩ := p.2.2.1
  have a := q5 k hk
  rcases t with t | ⟨j, j1, rfl⟩
  · omega
  · intro e
    have b := q10 B hB j j1 k hk
    rw [e] at b
    rw [(hB.2 (h 57 k).toNat (by omega) (by omega) _).2 (Or.inl rfl)] at b
    cases b
/-- a net whose point has been replaced still is good -/
theorem GdT_sb {h : Hp} {s n0 N M k : Nat} {B : Nat → Nat → Bool} {σ : TrS} {w : Int} (p : PlB h N M) (hs : sc 18 h = (s : Int)) (hW : wn 18 h = ((s + n0 : Nat) : Int)) (hB : Hang (sc 18 h) (wn 18 h) (h 19) (h 20) B) (hk : (k : Int) < h 56 3) {Q : Nat → Int} (g : GdT h s n0 M Q σ) : GdT h s n0 M (sbR (3 * s) (3 * (s + n0)) (h 57 k) w Q) (σ.n, σ.K, sbR (3 * s) (3 * (s + σ.n)) (h 57 k) w σ.P, σ.L, σ.W, σ.U) := by
  have pk := p.2.2.1.2.2.2.2.1 k hk
  have s0 := p.2.2.2.2.2.2.2.2.2
  obtain ⟨g1, g2, g3, g4, g5, g6, g7⟩ := g
  refine ⟨g1, g2, fun j hj => ?_, fun v h1 h2 => ?_, g5, fun j hj => ?_, g7⟩
  · show sbR (3 * s) (3 * (s + σ.n)) (h 57 k) w σ.P j = _
    unfold sbR
    rw [g3 j hj]
    by_cases t : 3 * s ≤ j ∧ j < 3 * (s + n0) ∧ Q j = h 57 k
    · rw [if_pos t, if_pos ⟨t.1, by omega, t.2.2⟩]
    · rw [if_neg t, if_neg (fun u => t ⟨u.1, hj, u.2.2⟩)]
  · have h2 : v < s + σ.n := h2
    obtain ⟨a, b, c⟩ := g4 v h1 h2
    refine ⟨a, b, fun q hq => ?_⟩
    show ((q : Int) < pinC (σ.K v).toNat → NwT h s n0 (v - s) (sbR (3 * s) (3 * (s + σ.n)) (h 57 k) w σ.P (3 * v + q))) ∧ (pinC (σ.K v).toNat ≤ q → sbR (3 * s) (3 * (s + σ.n)) (h 57 k) w σ.P (3 * v + q) = -1)
    obtain ⟨c1, c2⟩ := c q hq
    unfold sbR
    by_cases z : (q : Int) < pinC (σ.K v).toNat
    · have nt := NwT_pt p hs hW hB (c1 z) hk
      rw [if_neg (fun u => nt u.2.2)]
      exact ⟨c1, c2⟩
    · have e := c2 (by omega)
      rw [if_neg (fun u => by rw [e] at u; omega)]
      exact ⟨c1, c2⟩
  · have hj : 3 * (s + σ.n) ≤ j := hj
    show sbR (3 * s) (3 * (s + σ.n)) (h 57 k) w σ.P j = _
    unfold sbR
    rw [if_neg (by omega), if_neg (by omega)]
    exact g6 j hj
theorem KpT_sb {s n : Nat} {K Q : Nat → Int} {lo hi : Nat} {pt w : Int} (hp : 0 ≤ pt) (b : KpT s n K Q) : KpT s n K (sbR lo hi pt w Q) := fun v h1 h2 => by
  obtain ⟨a, c⟩ := b v h1 h2
  refine ⟨a, fun k hk t => ?_⟩
  have e := c k hk t
  unfold sbR
  rw [if_neg (fun u => by rw [e] at u; omega)]
  exact e
