/-- a wire that a patch brings: told, or of a new gate -/
def NwT (h : Hp) (s n0 n : Nat) (x : Int) : Prop := (((s + n0 : Nat) : Int) ≤ x ∧ x < ((s + n : Nat) : Int)) ∨ ∃ j : Nat, (j : Int) < h 56 5 ∧ x = h 58 j
/-- what a patched net keeps -/
def GdT (h : Hp) (s n0 M : Nat) (Q : Nat → Int) (σ : TrS) : Prop :=
  n0 ≤ σ.n ∧ (∀ w, w < s + n0 → σ.K w = h 19 w ∧ σ.L w = h 22 w) ∧ (∀ j, j < 3 * (s + n0) → σ.P j = Q j) ∧
  (∀ w, s + n0 ≤ w → w < s + σ.n → (0 ≤ σ.K w ∧ σ.K w ≤ 8) ∧ (0 ≤ σ.L w ∧ σ.L w < 1024) ∧ ∀ k : Nat, k < 3 → ((k : Int) < pinC (σ.K w).toNat → NwT h s n0 (w - s) (σ.P (3 * w + k))) ∧ (pinC (σ.K w).toNat ≤ k → σ.P (3 * w + k) = -1)) ∧
  (∀ w, s + σ.n ≤ w → σ.K w = h 19 w ∧ σ.L w = h 22 w) ∧ (∀ j, 3 * (s + σ.n) ≤ j → σ.P j = Q j) ∧
  ∀ i, i < M → σ.W i = -1 ∨ (((s + n0 : Nat) : Int) ≤ σ.W i ∧ σ.W i < ((s + σ.n : Nat) : Int))
theorem NwT_up {h : Hp} {s n0 n n2 : Nat} {x : Int} (hn : n ≤ n2) (t : NwT h s n0 n x) : NwT h s n0 n2 x := by
  rcases t with t | t
  · exact Or.inl (by omega)
  · exact Or.inr t
theorem GdT_ad {h : Hp} {s n0 M : Nat} {Q : Nat → Int} {σ : TrS} (c : GdT h s n0 M Q σ) {k a b pl : Int} (hk : 0 ≤ k ∧ k ≤ 8) (hpl : 0 ≤ pl ∧ pl < 1024) (ha : (0 < pinC k.toNat → NwT h s n0 σ.n a) ∧ (pinC k.toNat ≤ 0 → a = -1)) (hb : (1 < pinC k.toNat → NwT h s n0 σ.n b) ∧ (pinC k.toNat ≤ 1 → b = -1)) (hp2 : pinC k.toNat ≤ 2) : GdT h s n0 M Q (adT s σ k a b pl) := by
  obtain ⟨c1, c2, c3, c4, c5, c6, c7⟩ := c
  have en : (adT s σ k a b pl).n = σ.n + 1 := rfl
  have eK : ∀ w, (adT s σ k a b pl).K w = if w = s + σ.n then k else σ.K w := fun _ => rfl
  have eL : ∀ w, (adT s σ k a b pl).L w = if w = s + σ.n then pl else σ.L w := fun _ => rfl
  have eP : ∀ j, (adT s σ k a b pl).P j = if j = 3 * (s + σ.n) then a else if j = 3 * (s + σ.n) + 1 then b else if j = 3 * (s + σ.n) + 2 then -1 else σ.P j := fun _ => rfl
  have eW : (adT s σ k a b pl).W = σ.W := rfl
  refine ⟨by omega, fun w hw => ?_, fun j hj => ?_, fun w h1 h2 => ?_, fun w hw => ?_, fun j hj => ?_, fun i hi => ?_⟩
  · rw [eK, eL, if_neg (by omega), if_neg (by omega)]; exact c2 w hw
  · rw [eP, if_neg (by omega), if_neg (by omega), if_neg (by omega)]; exact c3 j hj
  · rw [en] at h2
    by_cases t : w = s + σ.n
    · subst t
      rw [eK, eL, if_pos rfl, if_pos rfl]
      refine ⟨hk, hpl, fun q hq => ?_⟩
      rw [eP, show s + σ.n - s = σ.n by omega]
      rcases (by omega : q = 0 ∨ q = 1 ∨ q = 2) with rfl | rfl | rfl
      · rw [if_pos (by omega)]; exact ⟨fun t => ha.1 t, fun t => ha.2 t⟩
      · rw [if_neg (by omega), if_pos rfl]; exact ⟨fun t => hb.1 t, fun t => hb.2 t⟩
      · rw [if_neg (by omega), if_neg (by omega), if_pos rfl]; exact ⟨fun t => by omega, fun _ => rfl⟩
    · rw [eK, eL, if_neg t, if_neg t]
      obtain ⟨d1, d2, d3⟩ := c4 w h1 (by omega)
      refine ⟨d1, d2, fun q hq => ?_⟩
      rw [eP, if_neg (by omega), if_neg (by omega), if_neg (by omega)]
      exact d3 q hq
  · rw [en] at hw
    rw [eK, eL, if_neg (by omega), if_neg (by omega)]; exact c5 w (by omega)
  · rw [en] at hj
    rw [eP, if_neg (by omega), if_neg (by omega), if_neg (by omega)]; exact c6 j (by omega)
  · rw [eW, en]
    rcases c7 i hi with t | t
    · exact Or.inl t
    · exact Or.inr (by omega)
theorem pinC_kind : ∀ k : Nat, k < 6 → pinC k = if k = 0 then 1 else 2 := by decide
/-- a node is added -/
theorem GdT_nd {h : Hp} {s n0 N M k i : Nat} {Q : Nat → Int} {σ : TrS} (p : PlB h N M) (hpl : ∀ w : Nat, w < 48 → 0 ≤ h 22 w ∧ h 22 w < 1024) (hk : (k : Int) < h 56 3) (hi : i < M) (c : GdT h s n0 M Q σ) (as : AsT h k i σ) : GdT h s n0 M Q (ndT h s k i σ) ∧ AsT h k (i + 1) (ndT h s k i σ) := by
  obtain ⟨_, j9, pt, e0, e8, n12, m8, mn, w48, s0⟩ := id p
  obtain ⟨q1, q2, q3, q4, q5, _, q7, q8, q9, _⟩ := id pt
  obtain ⟨⟨_, d1⟩, ⟨_, d2⟩, ⟨_, d3⟩, ⟨_, d4⟩, d5⟩ := q8 i (by omega)
  by_cases qo : h 64 i = (k : Int)
  · have en : ndT h s k i σ = wuT (adT s σ (h 61 i) (pwT h σ.W (h 62 i)) (pwT h σ.W (h 63 i)) (plT h k i)) (fun j => if j = i then ((s + σ.n : Nat) : Int) else σ.W j) (fun z => σ.U z || (decide (h 56 1 = 1) && decide ((z : Int) = h 65 i))) := by unfold ndT; rw [if_pos qo]
    have part : ∀ x, PartOK h i x → NwT h s n0 σ.n (pwT h σ.W x) := by
      intro x hx
      unfold PartOK at hx
      unfold pwT
      rcases hx with ⟨x1, x2, x3⟩ | hx
      · rw [if_pos (by omega)]
        exact Or.inl ((c.2.2.2.2.2.2 x.toNat (by omega)).resolve_left (as x.toNat (by omega) (by rw [x3]; exact qo)))
      · rw [if_neg (by omega), if_pos hx]
        exact Or.inr ⟨(x - 100).toNat, by omega, rfl⟩
    have hpl2 : 0 ≤ plT h k i ∧ plT h k i < 1024 := by
      unfold plT
      by_cases t : h 56 1 = 0
      · rw [if_pos t]
        have := q5 k hk
        exact hpl _ (by omega)
      · rw [if_neg t]
        rw [if_pos (by omega)] at d5
        have := j9.2.2.2.2 (h 65 i).toNat (by omega)
        omega
    have pk := pinC_kind (h 61 i).toNat (by omega)
    have base := GdT_ad c (k := h 61 i) (a := pwT h σ.W (h 62 i)) (b := pwT h σ.W (h 63 i)) (pl := plT h k i) (by omega) hpl2 ⟨fun _ => part _ d2, fun t => by rw [pk] at t; split at t <;> omega⟩ ⟨fun t => by
        rw [pk] at t
        by_cases z : h 61 i = 0
        · rw [if_pos (by omega)] at t; omega
        · rw [if_neg z] at d3; exact part _ d3, fun t => by
        rw [pk] at t
        by_cases z : h 61 i = 0
        · rw [if_pos z] at d3
          rw [d3]; unfold pwT; rw [if_neg (by omega), if_neg (by omega)]
        · rw [if_neg (by omega)] at t; omega⟩ (by rw [pk]; split <;> omega)
    rw [en]
    refine ⟨⟨base.1, base.2.1, base.2.2.1, base.2.2.2.1, base.2.2.2.2.1, base.2.2.2.2.2.1, fun j hj => ?_⟩, fun j hj ho => ?_⟩
    · have b7 := base.2.2.2.2.2.2 j hj
      show (if j = i then ((s + σ.n : Nat) : Int) else σ.W j) = -1 ∨ (((s + n0 : Nat) : Int) ≤ (if j = i then ((s + σ.n : Nat) : Int) else σ.W j) ∧ (if j = i then ((s + σ.n : Nat) : Int) else σ.W j) < ((s + (σ.n + 1) : Nat) : Int))
      by_cases t : j = i
      · rw [if_pos t]; have := c.1; right; omega
      · rw [if_neg t]; exact b7
    · show (if j = i then ((s + σ.n : Nat) : Int) else σ.W j) ≠ -1
      by_cases t : j = i
      · rw [if_pos t]; omega
      · rw [if_neg t]; exact as j (by omega) ho
  · have en : ndT h s k i σ = σ := by unfold ndT; rw [if_neg qo]
    rw [en]
    refine ⟨c, fun j hj ho => ?_⟩
    by_cases t : j = i
    · rw [t] at ho; exact absurd ho qo
    · exact as j (by omega) ho
/-- a tree is added, and its wire -/
theorem GdT_tr {h : Hp} {s n0 N M k : Nat} {Q : Nat → Int} {σ : TrS} (p : PlB h N M) (hpl : ∀ w : Nat, w < 48 → 0 ≤ h 22 w ∧ h 22 w < 1024) (hk : (k : Int) < h 56 3) (c : GdT h s n0 M Q σ) : GdT h s n0 M Q (trT h s M k σ) ∧ NwT h s n0 (trT h s M k σ).n (rsT h s M k σ) ∧ σ.n ≤ (trT h s M k σ).n := by
  obtain ⟨_, j9, pt, e0, e8, n12, m8, mn, w48, s0⟩ := id p
  obtain ⟨q1, q2, q3, q4, q5, _, q7, q8, q9, _⟩ := id pt
  have q9k := q9 k hk
  have hpt := q5 k hk
  by_cases hc : cnT h k = true
  · have et : trT h s M k σ = adT s σ (if h 60 k = 200 then 7 else 8) (-1) (-1) (h 22 (h 57 k).toNat) := by unfold trT; rw [if_pos hc]
    have er : rsT h s M k σ = ((s + σ.n : Nat) : Int) := by unfold rsT; rw [if_pos hc]
    have pz : pinC (if h 60 k = 200 then (7 : Int) else 8).toNat = 0 := by split <;> decide
    rw [er, et]
    refine ⟨GdT_ad c (by split <;> omega) (hpl _ (by omega)) ⟨fun t => by omega, fun _ => rfl⟩ ⟨fun t => by omega, fun _ => rfl⟩ (by omega), Or.inl ?_, ?_⟩
    · show ((s + n0 : Nat) : Int) ≤ ((s + σ.n : Nat) : Int) ∧ ((s + σ.n : Nat) : Int) < ((s + (σ.n + 1) : Nat) : Int)
      have := c.1; omega
    · show σ.n ≤ σ.n + 1
      omega
  · have et : trT h s M k σ = frB (ndT h s k) (M - 0) 0 σ := by unfold trT; rw [if_neg hc]; rfl
    have er : rsT h s M k σ = pwT h (trT h s M k σ).W (h 60 k) := by unfold rsT; rw [if_neg hc]
    have loop : ∀ d i τ, i + d = M → GdT h s n0 M Q τ → AsT h k i τ → GdT h s n0 M Q (frB (ndT h s k) d i τ) ∧ AsT h k M (frB (ndT h s k) d i τ) := by
      intro d
      induction d with
      | zero => intro i τ hi g a
                have : i = M := by omega
                subst this; exact ⟨g, a⟩
      | succ d ih =>
        intro i τ hi g a
        obtain ⟨g2, a2⟩ := GdT_nd p hpl hk (show i < M by omega) g a
        exact ih (i + 1) _ (by omega) g2 a2
    obtain ⟨g2, a2⟩ := loop (M - 0) 0 σ (by omega) c (fun j hj => absurd hj (Nat.not_lt_zero _))
    have nn := frT_n h s k (M - 0) 0 σ
    rw [er, et]
    refine ⟨g2, ?_, nn⟩
    unfold pwT
    by_cases z : 0 ≤ lf (h 56 5) (h 59 k)
    · rw [if_pos z] at q9k
      have hl : 100 ≤ h 60 k ∧ h 60 k < 100 + h 56 5 := by
        have h1 : h 60 k ≠ 200 := fun t => hc (by unfold cnT; rw [decide_eq_true t]; rfl)
        have h2 : h 60 k ≠ 201 := fun t => hc (by unfold cnT; rw [decide_eq_true t]; simp)
        rw [q9k.1] at h1 h2 ⊢
        revert h1 h2 z
        unfold lf
        repeat' split
        all_goals omega
      rw [if_neg (by omega), if_pos hl]
      exact Or.inr ⟨(h 60 k - 100).toNat, by omega, rfl⟩
    · rw [if_neg z] at q9k
      rw [if_pos (by omega)]
      exact Or.inl ((g2.2.2.2.2.2.2 (h 60 k).toNat (by omega)).resolve_left (a2 (h 60 k).toNat (by omega) q9k.2.2.1))
/-- a patched net has no ring -/
theorem Acy_patched {s n0 n : Nat} {K P K2 P2 : Nat → Int} {B : Nat → Nat → Bool} {pts : Int → Prop} {new : Int → Prop} (hs : 0 < s) (hP : PinOK s ((s + n0 : Nat) : Int) K P) (hA : Acy s ((s + n0 : Nat) : Int) K P) (hB : Hang s ((s + n0 : Nat) : Int) K P B) (hn : n ≤ n0 + 40) (hpt : ∀ x, pts x → (s : Int) ≤ x ∧ x < ((s + n0 : Nat) : Int)) (hK : ∀ w, w < s + n0 → K2 w = K w) (hold : ∀ w : Nat, s ≤ w → w < s + n0 → ∀ k : Nat, (k : Int) < pinC (K w).toNat → (P2 (3 * w + k) = P (3 * w + k) ∧ ¬ pts (P (3 * w + k))) ∨ (pts (P (3 * w + k)) ∧ new (P2 (3 * w + k)))) (hnew : ∀ x, new x → (((s + n0 : Nat) : Int) ≤ x ∧ x < ((s + n : Nat) : Int)) ∨ (0 ≤ x ∧ x < ((s + n0 : Nat) : Int) ∧ ∀ v : Nat, pts v → B x.toNat v = false)) (hadd : ∀ w : Nat, s + n0 ≤ w → w < s + n → ∀ k : Nat, (k : Int) < pinC (K2 w).toNat → (((s + n0 : Nat) : Int) ≤ P2 (3 * w + k) ∧ P2 (3 * w + k) < (w : Int)) ∨ (0 ≤ P2 (3 * w + k) ∧ P2 (3 * w + k) < ((s + n0 : Nat) : Int) ∧ ∀ v : Nat, pts v → B (P2 (3 * w + k)).toNat v = false)) : Acy s ((s + n : Nat) : Int) K2 P2 := by
  obtain ⟨rk, hrk⟩ := hA
  have hR : ∀ m, ∃ R, ∀ w, w < m → rk w < R := by
    intro m
    induction m with
    | zero => exact ⟨0, fun w hw => absurd hw (Nat.not_lt_zero _)⟩
    | succ m ih =>
      obtain ⟨R, h⟩ := ih
      refine ⟨R + rk m + 1, fun w hw => ?_⟩
      by_cases t : w = m
      · subst t; omega
      · have := h w (by omega); omega
  obtain ⟨R, hR⟩ := hR (s + n0)
  have dec : ∀ w, (∃ v : Nat, pts v ∧ B w v = true) ∨ ∀ v : Nat, pts v → B w v = false := fun w => by
    by_cases t : ∃ v : Nat, pts v ∧ B w v = true
    · exact Or.inl t
    · exact Or.inr (fun v hv => Bool.eq_false_iff.mpr (fun u => t ⟨v, hv, u⟩))
  have hex : ∃ D : Nat → Bool, ∀ w, (D w = true ↔ ∃ v : Nat, pts v ∧ B w v = true) := ⟨fun w => @decide (∃ v : Nat, pts v ∧ B w v = true) (Classical.propDecidable _), fun w => by simp⟩
  obtain ⟨D, hD⟩ := hex
  have hDf : ∀ w, (∀ v : Nat, pts v → B w v = false) → ¬ D w = true := fun w h t => by
    obtain ⟨v, h1, h2⟩ := (hD w).1 t
    rw [h v h1] at h2; cases h2
  refine ⟨fun w => if w < s + n0 then (if D w = true then R + 41 + rk w else rk w) else R + (w - (s + n0)), fun w h1 h2 k hk => ?_⟩
  have old : ∀ x : Int, 0 ≤ x → x < ((s + n0 : Nat) : Int) → (∀ v : Nat, pts v → B x.toNat v = false) → (if x.toNat < s + n0 then (if D x.toNat = true then R + 41 + rk x.toNat else rk x.toNat) else R + (x.toNat - (s + n0))) < R := by
    intro x x0 x1 x2
    rw [if_pos (by omega), if_neg (hDf _ x2)]
    exact hR _ (by omega)
  by_cases q : w < s + n0
  · rw [hK w q] at hk
    have pw := (hP w (by omega) (by omega)).2
    have pb := pinC_b (K w).toNat
    have hin := (pw k (by omega)).1 hk
    have hh := hB.2 w (by omega) (by omega)
    rcases hold w (by omega) q k hk with ⟨e, np⟩ | ⟨hp, hw⟩
    · rw [e]
      rcases hrk w (by omega) (by omega) k hk with t | t
      · exact Or.inl t
      · right
        show (if (P (3 * w + k)).toNat < s + n0 then (if D (P (3 * w + k)).toNat = true then R + 41 + rk (P (3 * w + k)).toNat else rk (P (3 * w + k)).toNat) else R + ((P (3 * w + k)).toNat - (s + n0))) < (if w < s + n0 then (if D w = true then R + 41 + rk w else rk w) else R + (w - (s + n0)))
        rw [if_pos (by omega), if_pos q]
        by_cases d : D (P (3 * w + k)).toNat = true
        · obtain ⟨v, v1, v2⟩ := (hD _).1 d
          have dw : D w = true := (hD w).2 ⟨v, v1, (hh v).2 (Or.inr ⟨k, hk, v2⟩)⟩
          rw [if_pos d, if_pos dw]; omega
        · rw [if_neg d]; split <;> omega
    · have hv := hpt _ hp
      have ev : (((P (3 * w + k)).toNat : Nat) : Int) = P (3 * w + k) := by omega
      have dw : D w = true := (hD w).2 ⟨(P (3 * w + k)).toNat, by rw [ev]; exact hp, (hh _).2 (Or.inr ⟨k, hk, (hB.2 (P (3 * w + k)).toNat (by omega) (by omega) _).2 (Or.inl rfl)⟩)⟩
      right
      show (if (P2 (3 * w + k)).toNat < s + n0 then (if D (P2 (3 * w + k)).toNat = true then R + 41 + rk (P2 (3 * w + k)).toNat else rk (P2 (3 * w + k)).toNat) else R + ((P2 (3 * w + k)).toNat - (s + n0))) < (if w < s + n0 then (if D w = true then R + 41 + rk w else rk w) else R + (w - (s + n0)))
      rw [if_pos q, if_pos dw]
      rcases hnew _ hw with t | ⟨t1, t2, t3⟩
      · rw [if_neg (by omega)]; omega
      · have := old _ t1 t2 t3; omega
  · right
    show (if (P2 (3 * w + k)).toNat < s + n0 then (if D (P2 (3 * w + k)).toNat = true then R + 41 + rk (P2 (3 * w + k)).toNat else rk (P2 (3 * w + k)).toNat) else R + ((P2 (3 * w + k)).toNat - (s + n0))) < (if w < s + n0 then (if D w = true then R + 41 + rk w else rk w) else R + (w - (s + n0)))
    rw [if_neg q]
    rcases hadd w (by omega) (by omega) k hk with t | ⟨t1, t2, t3⟩
    · rw [if_neg (by omega)]; omega
    · have := old _ t1 t2 t3; omega
