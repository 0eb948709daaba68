theorem pinC_b (j : Nat) : 0 ≤ pinC j ∧ pinC j ≤ 3 := by
  unfold pinC
  match j with
  | 0 => decide
  | 1 => decide
  | 2 => decide
  | 3 => decide
  | 4 => decide
  | 5 => decide
  | 6 => decide
  | 7 => decide
  | 8 => decide
  | j + 9 => simp
/-- a net by its values: s sources, n wires, kinds and pins -/
def PinOK (s n : Int) (kd pn : Nat → Int) : Prop :=
  ∀ w : Nat, s ≤ w → (w : Int) < n → (0 ≤ kd w ∧ kd w ≤ 8) ∧ ∀ k : Nat, k < 3 → ((k : Int) < pinC (kd w).toNat → 0 ≤ pn (3 * w + k) ∧ pn (3 * w + k) < n) ∧ (pinC (kd w).toNat ≤ k → pn (3 * w + k) = -1)
def Acy (s n : Int) (kd pn : Nat → Int) : Prop :=
  ∃ rk : Nat → Nat, ∀ w : Nat, s ≤ w → (w : Int) < n → ∀ k : Nat, (k : Int) < pinC (kd w).toNat → pn (3 * w + k) < s ∨ rk (pn (3 * w + k)).toNat < rk w
/-- m wires in an order in which pins come first; X: what isn't of it -/
def TO (X : Nat → Prop) (m : Nat) (kd pn od : Nat → Int) : Prop :=
  (∀ i, i < m → 0 ≤ od i ∧ ¬ X (od i).toNat) ∧ (∀ i j, j < i → i < m → od j ≠ od i) ∧
  (∀ i, i < m → ∀ k : Nat, (k : Int) < pinC (kd (od i).toNat).toNat → X (pn (3 * (od i).toNat + k)).toNat ∨ ∃ j, j < i ∧ od j = pn (3 * (od i).toNat + k))
theorem TO_0 {X : Nat → Prop} {kd pn od : Nat → Int} : TO X 0 kd pn od := ⟨fun i hi => absurd hi (Nat.not_lt_zero _), fun i j _ hi => absurd hi (Nat.not_lt_zero _), fun i hi => absurd hi (Nat.not_lt_zero _)⟩
theorem TO_congr {X : Nat → Prop} {m : Nat} {kd pn od od2 : Nat → Int} (h : TO X m kd pn od) (e : ∀ i, i < m → od2 i = od i) : TO X m kd pn od2 := by
  obtain ⟨a, b, c⟩ := h
  refine ⟨fun i hi => by rw [e i hi]; exact a i hi, fun i j hj hi => by rw [e i hi, e j (by omega)]; exact b i j hj hi, fun i hi k hk => ?_⟩
  rw [e i hi] at hk ⊢
  rcases c i hi k hk with q | ⟨j, hj, q⟩
  · exact Or.inl q
  · exact Or.inr ⟨j, hj, by rw [e j (by omega)]; exact q⟩
theorem TO_push {X : Nat → Prop} {m : Nat} {kd pn od od2 : Nat → Int} {w : Nat} (h : TO X m kd pn od) (e : ∀ i, i < m → od2 i = od i) (em : od2 m = (w : Int)) (hX : ¬ X w) (hn : ∀ j, j < m → od j ≠ (w : Int))
    (hp : ∀ k : Nat, (k : Int) < pinC (kd w).toNat → X (pn (3 * w + k)).toNat ∨ ∃ j, j < m ∧ od j = pn (3 * w + k)) : TO X (m + 1) kd pn od2 := by
  obtain ⟨a, b, c⟩ := TO_congr h e
  refine ⟨fun i hi => ?_, fun i j hj hi => ?_, fun i hi k hk => ?_⟩
  · by_cases q : i < m
    · exact a i q
    · have : i = m := by omega
      subst this
      rw [em]; exact ⟨by omega, by simpa using hX⟩
  · by_cases q : i < m
    · exact b i j hj q
    · have : i = m := by omega
      subst this
      rw [em, e j hj]; exact hn j hj
  · by_cases q : i < m
    · exact c i q k hk
    · have : i = m := by omega
      subst this
      rw [em] at hk ⊢
      simp only [Int.toNat_natCast] at hk ⊢
      rcases hp k hk with q | ⟨j, hj, q⟩
      · exact Or.inl q
      · exact Or.inr ⟨j, hj, by rw [e j hj]; exact q⟩
/-- what is worked out in such an order -/
def Loc {V : Type} (kd pn : Nat → Int) (Φ : (Nat → V) → Nat → V) : Prop :=
  ∀ (A B : Nat → V) (w : Nat), (∀ k : Nat, (k : Int) < pinC (kd w).toNat → A (pn (3 * w + k)).toNat = B (pn (3 * w + k)).toNat) → Φ A w = Φ B w
def Ev {V : Type} (Φ : (Nat → V) → Nat → V) (od : Nat → Int) (i : Nat) (A W : Nat → V) : Prop :=
  (∀ w : Nat, (∀ j, j < i → od j ≠ (w : Int)) → W w = A w) ∧ (∀ j, j < i → W (od j).toNat = Φ W (od j).toNat)
theorem Ev_0 {V : Type} {Φ : (Nat → V) → Nat → V} {od : Nat → Int} {A : Nat → V} : Ev Φ od 0 A A := ⟨fun _ _ => rfl, fun j hj => absurd hj (Nat.not_lt_zero _)⟩
theorem Ev_step {V : Type} {X : Nat → Prop} {m : Nat} {kd pn od : Nat → Int} {Φ : (Nat → V) → Nat → V} (hL : Loc kd pn Φ) (hT : TO X m kd pn od) {i : Nat} (hi : i < m) {A W W2 : Nat → V} (h : Ev Φ od i A W)
    (hpin : ∀ k : Nat, (k : Int) < pinC (kd (od i).toNat).toNat → 0 ≤ pn (3 * (od i).toNat + k)) (hpins : ∀ j, j < i → ∀ k : Nat, (k : Int) < pinC (kd (od j).toNat).toNat → 0 ≤ pn (3 * (od j).toNat + k))
    (e1 : W2 (od i).toNat = Φ W (od i).toNat) (e2 : ∀ w, w ≠ (od i).toNat → W2 w = W w) : Ev Φ od (i + 1) A W2 := by
  obtain ⟨a, b⟩ := h
  obtain ⟨t1, t2, t3⟩ := hT
  have h0 := (t1 i hi).1
  have key : ∀ j, j ≤ i → ∀ k : Nat, (k : Int) < pinC (kd (od j).toNat).toNat → (pn (3 * (od j).toNat + k)).toNat ≠ (od i).toNat := by
    intro j hj k hk he
    have hp0 : 0 ≤ pn (3 * (od j).toNat + k) := by
      rcases Nat.lt_or_eq_of_le hj with q | q
      · exact hpins j q k hk
      · subst q; exact hpin k hk
    rcases t3 j (by omega) k hk with q | ⟨j2, hj2, q⟩
    · rw [he] at q; exact (t1 i hi).2 q
    · exact t2 i j2 (by omega) hi (by omega)
  refine ⟨fun w hw => ?_, fun j hj => ?_⟩
  · have : w ≠ (od i).toNat := by
      intro e; exact hw i (by omega) (by rw [e]; omega)
    rw [e2 w this]; exact a w (fun j hj => hw j (by omega))
  · have eΦ : ∀ j, j ≤ i → Φ W2 (od j).toNat = Φ W (od j).toNat := fun j hj => hL W2 W _ (fun k hk => e2 _ (key j hj k hk))
    by_cases q : j = i
    · subst q; rw [e1, eΦ j (Nat.le_refl _)]
    · have hne : (od j).toNat ≠ (od i).toNat := by
        have := t2 i j (by omega) hi; have := (t1 j (by omega)).1; omega
      rw [e2 _ hne, b j (by omega), eΦ j (by omega)]
/-- only one way to work out a net without rings -/
theorem uniq {V : Type} {s n : Int} {kd pn : Nat → Int} (hP : PinOK s n kd pn) (hA : Acy s n kd pn) {Φ : (Nat → V) → Nat → V} (hL : Loc kd pn Φ) {W W2 : Nat → V}
    (hs : ∀ w : Nat, (w : Int) < s → W w = W2 w) (h1 : ∀ w : Nat, s ≤ w → (w : Int) < n → W w = Φ W w) (h2 : ∀ w : Nat, s ≤ w → (w : Int) < n → W2 w = Φ W2 w) : ∀ w : Nat, (w : Int) < n → W w = W2 w := by
  obtain ⟨rk, hr⟩ := hA
  have : ∀ N, ∀ w : Nat, rk w < N → (w : Int) < n → W w = W2 w := by
    intro N
    induction N with
    | zero => intro w hw; exact absurd hw (Nat.not_lt_zero _)
    | succ N ih =>
      intro w hw hn
      by_cases q : (w : Int) < s
      · exact hs w q
      · rw [h1 w (by omega) hn, h2 w (by omega) hn]
        apply hL
        intro k hk
        have hk3 : k < 3 := by have := (pinC_b (kd w).toNat).2; omega
        have hp := (((hP w (by omega) hn).2 k hk3).1 hk)
        rcases hr w (by omega) hn k hk with q | q
        · exact hs _ (by omega)
        · exact ih _ (by omega) (by omega)
  intro w hn
  exact this (rk w + 1) w (by omega) hn
/-- hanging: what is below a wire -/
def Hang (s n : Int) (kd pn : Nat → Int) (B : Nat → Nat → Bool) : Prop :=
  (∀ w : Nat, (w : Int) < s → ∀ v, B w v = decide (v = w)) ∧
  (∀ w : Nat, s ≤ w → (w : Int) < n → ∀ v, B w v = true ↔ (v = w ∨ ∃ k : Nat, (k : Int) < pinC (kd w).toNat ∧ B (pn (3 * w + k)).toNat v = true))
theorem rk_ind {s n : Int} {kd pn : Nat → Int} (hP : PinOK s n kd pn) (hA : Acy s n kd pn) {Q : Nat → Prop} (h : ∀ w : Nat, (w : Int) < n → (∀ k : Nat, s ≤ w → (k : Int) < pinC (kd w).toNat → Q (pn (3 * w + k)).toNat) → Q w) (hs : ∀ w : Nat, (w : Int) < s → (w : Int) < n → Q w) : ∀ w : Nat, (w : Int) < n → Q w := by
  obtain ⟨rk, hr⟩ := hA
  have : ∀ N, ∀ w : Nat, rk w < N → (w : Int) < n → Q w := by
    intro N
    induction N with
    | zero => intro w hw; exact absurd hw (Nat.not_lt_zero _)
    | succ N ih =>
      intro w hw hn
      by_cases q : (w : Int) < s
      · exact hs w q hn
      · refine h w hn (fun k h1 hk => ?_)
        have hk3 : k < 3 := by have := (pinC_b (kd w).toNat).2; omega
        have hp := (((hP w (by omega) hn).2 k hk3).1 hk)
        rcases hr w (by omega) hn k hk with q | q
        · exact hs _ (by omega) (by omega)
        · exact ih _ (by omega) (by omega)
  intro w hn
  exact this (rk w + 1) w (by omega) hn
theorem Hang_self {s n : Int} {kd pn : Nat → Int} {B : Nat → Nat → Bool} (h : Hang s n kd pn B) {w : Nat} (hw : (w : Int) < n) : B w w = true := by
  by_cases q : (w : Int) < s
  · rw [h.1 w q]; simp
  · exact (h.2 w (by omega) hw w).2 (Or.inl rfl)
theorem Hang_trans {s n : Int} {kd pn : Nat → Int} {B : Nat → Nat → Bool} (hP : PinOK s n kd pn) (hA : Acy s n kd pn) (h : Hang s n kd pn B) {v u : Nat} (hvu : B v u = true) : ∀ w : Nat, (w : Int) < n → B w v = true → B w u = true := by
  refine rk_ind hP hA (Q := fun w => B w v = true → B w u = true) (fun w hn ih => ?_) (fun w hs hn hw => ?_)
  · intro hw
    by_cases q : (w : Int) < s
    · rw [h.1 w q] at hw; have : v = w := by simpa using hw
      subst this; exact hvu
    · rcases (h.2 w (by omega) hn v).1 hw with e | ⟨k, hk, e⟩
      · subst e; exact hvu
      · exact (h.2 w (by omega) hn u).2 (Or.inr ⟨k, hk, ih k (by omega) hk e⟩)
  · rw [h.1 w hs] at hw; have : v = w := by simpa using hw
    subst this; exact hvu
theorem Hang_lt {s n : Int} {kd pn : Nat → Int} {B : Nat → Nat → Bool} (hP : PinOK s n kd pn) (hA : Acy s n kd pn) (h : Hang s n kd pn B) {v : Nat} : ∀ w : Nat, (w : Int) < n → B w v = true → (v : Int) < n := by
  refine rk_ind hP hA (Q := fun w => B w v = true → (v : Int) < n) (fun w hn ih => ?_) (fun w hs hn hw => ?_)
  · intro hw
    by_cases q : (w : Int) < s
    · rw [h.1 w q] at hw; have : v = w := by simpa using hw
      omega
    · rcases (h.2 w (by omega) hn v).1 hw with e | ⟨k, hk, e⟩
      · omega
      · exact ih k (by omega) hk e
  · rw [h.1 w hs] at hw; have : v = w := by simpa using hw
    omega
theorem Hang_uniq {s n : Int} {kd pn : Nat → Int} {B B2 : Nat → Nat → Bool} (hP : PinOK s n kd pn) (hA : Acy s n kd pn) (h : Hang s n kd pn B) (h2 : Hang s n kd pn B2) : ∀ w : Nat, (w : Int) < n → ∀ v, B w v = B2 w v := by
  refine rk_ind hP hA (Q := fun w => ∀ v, B w v = B2 w v) (fun w hn ih v => ?_) (fun w hs hn v => ?_)
  · by_cases q : (w : Int) < s
    · rw [h.1 w q, h2.1 w q]
    · rw [Bool.eq_iff_iff, h.2 w (by omega) hn v, h2.2 w (by omega) hn v]
      constructor
      · rintro (e | ⟨k, hk, e⟩)
        · exact Or.inl e
        · exact Or.inr ⟨k, hk, by rw [← ih k (by omega) hk]; exact e⟩
      · rintro (e | ⟨k, hk, e⟩)
        · exact Or.inl e
        · exact Or.inr ⟨k, hk, by rw [ih k (by omega) hk]; exact e⟩
  · rw [h.1 w hs, h2.1 w hs]
/-- a gate that isn't ready, and whose pins are -/
theorem ready_next {s n : Int} {kd pn : Nat → Int} (hP : PinOK s n kd pn) (hA : Acy s n kd pn) {R : Nat → Prop} (hs : ∀ w : Nat, (w : Int) < s → R w) {w : Nat} (hw : s ≤ w) (hn : (w : Int) < n) (hr : ¬ R w) :
    ∃ v : Nat, s ≤ v ∧ (v : Int) < n ∧ ¬ R v ∧ ∀ k : Nat, (k : Int) < pinC (kd v).toNat → R (pn (3 * v + k)).toNat := by
  refine Classical.byContradiction (fun hno => hr ?_)
  refine rk_ind hP hA (Q := R) (fun v hv ih => ?_) (fun v hv _ => hs v hv) w hn
  by_cases q : (v : Int) < s
  · exact hs v q
  · refine Classical.byContradiction (fun hRv => hno ⟨v, by omega, hv, hRv, fun k hk => ih k (by omega) hk⟩)
