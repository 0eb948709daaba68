noncomputable def cho (m f : Nat) : Nat × Nat × Nat := Classical.epsilon (fun t : Nat × Nat × Nat => Cho m f t.1 t.2.1 t.2.2)
theorem cho_is {m f k g h : Nat} (c : Cho m f k g h) : cho m f = (k, g, h) := by
  have := Classical.epsilon_spec (p := fun t : Nat × Nat × Nat => Cho m f t.1 t.2.1 t.2.2) ⟨(k, g, h), c⟩
  obtain ⟨e1, e2, e3⟩ := Cho_uniq this c
  exact Prod.ext e1 (Prod.ext e2 e3)
/-- the tree of a function: its part, and its nodes from place s on -/
noncomputable def trN (m : Nat) : Nat → Nat → Nat → Int × List (Int × Int × Int)
  | 0 => fun f _ => (lf m f, [])
  | d + 1 => fun f s => if 0 ≤ lf m f then (lf m f, []) else
      if (cho m f).1 = 0 then (((s + (trN m d (cho m f).2.1 s).2.length : Nat) : Int), (trN m d (cho m f).2.1 s).2 ++ [(0, (trN m d (cho m f).2.1 s).1, -2)])
      else (((s + (trN m d (cho m f).2.1 s).2.length + (trN m d (cho m f).2.2 (s + (trN m d (cho m f).2.1 s).2.length)).2.length : Nat) : Int),
        (trN m d (cho m f).2.1 s).2 ++ ((trN m d (cho m f).2.2 (s + (trN m d (cho m f).2.1 s).2.length)).2 ++ [(((cho m f).1 : Int), (trN m d (cho m f).2.1 s).1, (trN m d (cho m f).2.2 (s + (trN m d (cho m f).2.1 s).2.length)).1)]))
theorem lf_in {m f : Nat} (hm : m < 4) (h : 0 ≤ lf m f) (h0 : f ≠ 0) (h1 : f ≠ onN m) : 100 ≤ lf m f ∧ lf m f < 100 + m := by
  rw [lf_eq hm, if_neg h0, if_neg h1] at h ⊢
  by_cases m0 : 0 < m ∧ (f : Int) = pjT m 0
  · rw [if_pos m0]; omega
  rw [if_neg m0] at h ⊢
  by_cases m1 : 1 < m ∧ (f : Int) = pjT m 1
  · rw [if_pos m1]; omega
  rw [if_neg m1] at h ⊢
  by_cases m2 : 2 < m ∧ (f : Int) = pjT m 2
  · rw [if_pos m2]; omega
  rw [if_neg m2] at h; omega
theorem c_lf {m f : Nat} (hm : m < 4) (hf : f ≤ onN m) : cN m f = 0 ↔ 0 ≤ lf m f := (c_fact m hm f (by omega)).2.2.1
/-- a part within a tree from place s on, ahead of place s + i -/
def PrI (m s i : Nat) (x : Int) : Prop := ((s : Int) ≤ x ∧ x < s + i) ∨ (100 ≤ x ∧ x < 100 + m)
def NdI (m s i : Nat) (e : Int × Int × Int) : Prop := (0 ≤ e.1 ∧ e.1 ≤ 5) ∧ PrI m s i e.2.1 ∧ if e.1 = 0 then e.2.2 = -2 else PrI m s i e.2.2
theorem trN_ok {m : Nat} (hm : m < 4) : ∀ d f s : Nat, f ≤ onN m → cN m f ≤ d → (trN m d f s).2.length = cN m f ∧ (cN m f = 0 → (trN m d f s).1 = lf m f) ∧ (1 ≤ cN m f → (trN m d f s).1 = ((s + cN m f - 1 : Nat) : Int)) ∧ ∀ i e, (trN m d f s).2[i]? = some e → NdI m s i e := by
  intro d
  induction d with
  | zero =>
    intro f s hf hd
    exact ⟨by show 0 = _; omega, fun _ => rfl, fun h => by omega, fun i e h => by cases h⟩
  | succ d ih =>
    intro f s hf hd
    by_cases q : 0 ≤ lf m f
    · have hz := (c_lf hm hf).2 q
      have e : trN m (d + 1) f s = (lf m f, []) := if_pos q
      rw [e]
      exact ⟨hz.symm, fun _ => rfl, fun h => by omega, fun i e h => by cases h⟩
    · have h1 : 1 ≤ cN m f := Nat.pos_of_ne_zero (fun t => q ((c_lf hm hf).1 t))
      obtain ⟨r, hp, e, _, k, g, h, hc, _⟩ := split_ok hm hf h1 (fun _ _ => 0)
      have ec := cho_is hc
      obtain ⟨k5, g1, h2, g3, g4, kn, kz⟩ := Cho_in hm hf h1 hc
      obtain ⟨a1, a2, a3, a4⟩ := ih g s g1 (by omega)
      have pa : PrI m s (cN m g) (trN m d g s).1 := by
        by_cases t : cN m g = 0
        · rw [a2 t]; exact Or.inr (lf_in hm ((c_lf hm g1).1 t) g3.1 g3.2)
        · rw [a3 (by omega)]; left; omega
      by_cases k0 : k = 0
      · have e1 : trN m (d + 1) f s = (((s + (trN m d g s).2.length : Nat) : Int), (trN m d g s).2 ++ [(0, (trN m d g s).1, -2)]) := by
          show (if 0 ≤ lf m f then _ else _) = _
          rw [if_neg q, ec, if_pos k0]
        have := kz k0
        rw [e1]
        refine ⟨by rw [List.length_append, a1]; simp; omega, fun t => by omega, fun _ => by show ((s + (trN m d g s).2.length : Nat) : Int) = _; rw [a1]; congr 1; omega, fun i x hx => ?_⟩
        rw [List.getElem?_append] at hx
        split at hx
        · exact a4 i x hx
        · next hi =>
          rw [a1] at hi hx
          have hi0 : i - cN m g = 0 := by
            refine Decidable.byContradiction (fun t => ?_)
            rw [List.getElem?_eq_none (by simp; omega)] at hx; cases hx
          rw [hi0] at hx
          cases hx
          have : i = cN m g := by omega
          subst this
          exact ⟨⟨Int.le_refl 0, (by decide : (0 : Int) ≤ 5)⟩, pa, by show (if (0 : Int) = 0 then (-2 : Int) = -2 else _); rw [if_pos rfl]⟩
      · obtain ⟨h3, c3⟩ := kn k0
        obtain ⟨b1, b2, b3, b4⟩ := ih h (s + cN m g) h2 (by omega)
        have pb : PrI m s (cN m g + cN m h) (trN m d h (s + cN m g)).1 := by
          by_cases t : cN m h = 0
          · rw [b2 t]; exact Or.inr (lf_in hm ((c_lf hm h2).1 t) h3.1 h3.2)
          · rw [b3 (by omega)]; left; omega
        have e1 : trN m (d + 1) f s = (((s + cN m g + cN m h : Nat) : Int), (trN m d g s).2 ++ ((trN m d h (s + cN m g)).2 ++ [((k : Int), (trN m d g s).1, (trN m d h (s + cN m g)).1)])) := by
          show (if 0 ≤ lf m f then _ else _) = _
          rw [if_neg q, ec, if_neg k0]
          dsimp only
          rw [a1, b1]
        rw [e1]
        refine ⟨by rw [List.length_append, List.length_append, a1, b1]; simp; omega, fun t => by omega, fun _ => by show ((s + cN m g + cN m h : Nat) : Int) = _; congr 1; omega, fun i x hx => ?_⟩
        rw [List.getElem?_append] at hx
        split at hx
        · exact a4 i x hx
        · next hi =>
          rw [a1] at hi hx
          rw [List.getElem?_append] at hx
          have wid : ∀ {y : Int} {j : Nat}, j ≤ i - cN m g → PrI m (s + cN m g) j y → PrI m s i y := fun {y j} hj t => by
            rcases t with t | t
            · left; omega
            · exact Or.inr t
          split at hx
          · obtain ⟨n1, n2, n3⟩ := b4 _ x hx
            refine ⟨n1, wid (Nat.le_refl _) n2, ?_⟩
            split
            · next t => rw [if_pos t] at n3; exact n3
            · next t => rw [if_neg t] at n3; exact wid (Nat.le_refl _) n3
          · next hj =>
            rw [b1] at hj hx
            have hi0 : i - cN m g - cN m h = 0 := by
              refine Decidable.byContradiction (fun t => ?_)
              rw [List.getElem?_eq_none (by simp; omega)] at hx; cases hx
            rw [hi0] at hx
            cases hx
            have : i = cN m g + cN m h := by omega
            subst this
            refine ⟨⟨by show (0 : Int) ≤ (k : Int); omega, by show (k : Int) ≤ 5; omega⟩, ?_, ?_⟩
            · rcases pa with t | t
              · left; exact ⟨t.1, by show (trN m d g s).1 < _; omega⟩
              · exact Or.inr t
            · rw [if_neg (show ¬ (k : Int) = 0 by omega)]; exact pb
/-- nodes that have been written from place s on -/
def Nds (b : Nat) (ow : Int) (s : Nat) (L : List (Int × Int × Int)) (g : Hp) : Prop := ∀ i e, L[i]? = some e → g b (s + i) = e.1 ∧ g (b + 1) (s + i) = e.2.1 ∧ g (b + 2) (s + i) = e.2.2 ∧ g (b + 3) (s + i) = ow ∧ g (b + 4) (s + i) = -2
theorem Nds_nil (b : Nat) (ow : Int) (s : Nat) (g : Hp) : Nds b ow s [] g := fun i e h => by cases h
theorem Nds_app {b : Nat} {ow : Int} {s : Nat} {A B : List (Int × Int × Int)} {g : Hp} (hA : Nds b ow s A g) (hB : Nds b ow (s + A.length) B g) : Nds b ow s (A ++ B) g := by
  intro i e h
  rw [List.getElem?_append] at h
  split at h
  · exact hA i e h
  · have := hB _ e h
    rw [show s + A.length + (i - A.length) = s + i by omega] at this
    exact this
theorem Nds_congr {b : Nat} {ow : Int} {s : Nat} {A : List (Int × Int × Int)} {g g2 : Hp} (e : ∀ a j, (b ≤ a ∧ a ≤ b + 4) → s ≤ j → j < s + A.length → g2 a j = g a j) (hA : Nds b ow s A g) : Nds b ow s A g2 := by
  intro i x h
  have hi : i < A.length := by
    refine Decidable.byContradiction (fun t => ?_)
    rw [List.getElem?_eq_none (by omega)] at h; cases h
  rw [e b _ (by omega) (by omega) (by omega), e (b + 1) _ (by omega) (by omega) (by omega), e (b + 2) _ (by omega) (by omega) (by omega), e (b + 3) _ (by omega) (by omega) (by omega), e (b + 4) _ (by omega) (by omega) (by omega)]
  exact hA i x h
theorem Nds_one {b : Nat} {ow : Int} {s : Nat} {x : Int × Int × Int} {g : Hp} (h : g b s = x.1 ∧ g (b + 1) s = x.2.1 ∧ g (b + 2) s = x.2.2 ∧ g (b + 3) s = ow ∧ g (b + 4) s = -2) : Nds b ow s [x] g := by
  intro i e hh
  cases i with
  | zero => cases hh; exact h
  | succ i => simp at hh
/-- what growing changes -/
def NdF (b c k s n : Nat) (h g : Hp) : Prop := ∀ a j, ¬ (((b ≤ a ∧ a ≤ b + 4) ∧ s ≤ j ∧ j < s + n) ∨ (a = c ∧ j = k)) → g a j = h a j
theorem nodeC_ok {rec : Int → Int → Int → Hp → OR} {h : Hp} {n : Nat} (hn : h 56 8 = (n : Int)) (h8 : n < 8) (ow k a b : Int) : ∃ g, XX7_grow_p91 rec ow k a b h = some ((n : Int), g) ∧ g 56 8 = ((n + 1 : Nat) : Int) ∧ (g 61 n = k ∧ g 62 n = a ∧ g 63 n = b ∧ g 64 n = ow ∧ g 65 n = -2) ∧ NdF 61 56 8 n 1 h g := by
  refine ⟨wr (wr (wr (wr (wr (wr h 61 n k) 62 n a) 63 n b) 64 n ow) 65 n (-2)) 56 8 ((n : Int) + 1), ?_, ?_, ⟨?_, ?_, ?_, ?_, ?_⟩, fun x j hh => ?_⟩
  · unfold XX7_grow_p91
    have e1 : wr h 61 n k 56 8 = (n : Int) := by rw [wq_ne (by omega)]; exact hn
    have e2 : wr (wr h 61 n k) 62 n a 56 8 = (n : Int) := by rw [wq_ne (by omega)]; exact e1
    have e3 : wr (wr (wr h 61 n k) 62 n a) 63 n b 56 8 = (n : Int) := by rw [wq_ne (by omega)]; exact e2
    have e4 : wr (wr (wr (wr h 61 n k) 62 n a) 63 n b) 64 n ow 56 8 = (n : Int) := by rw [wq_ne (by omega)]; exact e3
    have e5 : wr (wr (wr (wr (wr h 61 n k) 62 n a) 63 n b) 64 n ow) 65 n (-2) 56 8 = (n : Int) := by rw [wq_ne (by omega)]; exact e4
    rw [if_pos (by omega), hn, inb_pos (by omega), Int.toNat_natCast, hm_eq, e1, inb_pos (by omega), Int.toNat_natCast, hm_eq, e2, inb_pos (by omega), Int.toNat_natCast, hm_eq, e3, inb_pos (by omega), Int.toNat_natCast, hm_eq, e4, inb_pos (by omega), Int.toNat_natCast, hm_eq, e5, chk_pos (by omega), hm_eq, wr_at, chk_pos (by omega)]
    congr 2; omega
  · rw [wr_at]; omega
  · rw [wq_ne (by omega), wq_ne (by omega), wq_ne (by omega), wq_ne (by omega), wq_ne (by omega), wr_at]
  · rw [wq_ne (by omega), wq_ne (by omega), wq_ne (by omega), wq_ne (by omega), wr_at]
  · rw [wq_ne (by omega), wq_ne (by omega), wq_ne (by omega), wr_at]
  · rw [wq_ne (by omega), wq_ne (by omega), wr_at]
  · rw [wq_ne (by omega), wr_at]
  · rw [wq_ne (by omega), wq_ne (by omega), wq_ne (by omega), wq_ne (by omega), wq_ne (by omega), wq_ne (by omega)]
theorem nodeM_ok {h : Hp} {n : Nat} (hn : h 143 27 = (n : Int)) (h8 : n < 24) (ow k a b : Int) : ∃ g, XX12_grows k a b ow h = some ((n : Int), g) ∧ g 143 27 = ((n + 1 : Nat) : Int) ∧ (g 162 n = k ∧ g 163 n = a ∧ g 164 n = b ∧ g 165 n = ow ∧ g 166 n = -2) ∧ NdF 162 143 27 n 1 h g := by
  refine ⟨wr (wr (wr (wr (wr (wr h 162 n k) 163 n a) 164 n b) 165 n ow) 166 n (-2)) 143 27 ((n : Int) + 1), ?_, ?_, ⟨?_, ?_, ?_, ?_, ?_⟩, fun x j hh => ?_⟩
  · unfold XX12_grows
    have e1 : wr h 162 n k 143 27 = (n : Int) := by rw [wq_ne (by omega)]; exact hn
    have e2 : wr (wr h 162 n k) 163 n a 143 27 = (n : Int) := by rw [wq_ne (by omega)]; exact e1
    have e3 : wr (wr (wr h 162 n k) 163 n a) 164 n b 143 27 = (n : Int) := by rw [wq_ne (by omega)]; exact e2
    have e4 : wr (wr (wr (wr h 162 n k) 163 n a) 164 n b) 165 n ow 143 27 = (n : Int) := by rw [wq_ne (by omega)]; exact e3
    have e5 : wr (wr (wr (wr (wr h 162 n k) 163 n a) 164 n b) 165 n ow) 166 n (-2) 143 27 = (n : Int) := by rw [wq_ne (by omega)]; exact e4
    rw [hn, inb_pos (by omega), Int.toNat_natCast, hm_eq, e1, inb_pos (by omega), Int.toNat_natCast, hm_eq, e2, inb_pos (by omega), Int.toNat_natCast, hm_eq, e3, inb_pos (by omega), Int.toNat_natCast, hm_eq, e4, inb_pos (by omega), Int.toNat_natCast, hm_eq, e5, chk_pos (by omega), hm_eq, wr_at, chk_pos (by omega)]
    congr 2; omega
  · rw [wr_at]; omega
  · rw [wq_ne (by omega), wq_ne (by omega), wq_ne (by omega), wq_ne (by omega), wq_ne (by omega), wr_at]
  · rw [wq_ne (by omega), wq_ne (by omega), wq_ne (by omega), wq_ne (by omega), wr_at]
  · rw [wq_ne (by omega), wq_ne (by omega), wq_ne (by omega), wr_at]
  · rw [wq_ne (by omega), wq_ne (by omega), wr_at]
  · rw [wq_ne (by omega), wr_at]
  · rw [wq_ne (by omega), wq_ne (by omega), wq_ne (by omega), wq_ne (by omega), wq_ne (by omega), wq_ne (by omega)]
/-- what a tree grown from place s on leaves -/
def GrP (b c k m d f s : Nat) (ow : Int) (h : Hp) (r : Int) (g : Hp) : Prop := r = (trN m d f s).1 ∧ g c k = ((s + cN m f : Nat) : Int) ∧ Nds b ow s (trN m d f s).2 g ∧ NdF b c k s (cN m f) h g
theorem GrP_leaf {b c k m d f s : Nat} {ow : Int} {h : Hp} (hm : m < 4) (hf : f ≤ onN m) (hs : h c k = (s : Int)) (q : 0 ≤ lf m f) : GrP b c k m d f s ow h (lf m f) h := by
  have hz := (c_lf hm hf).2 q
  have e : trN m d f s = (lf m f, []) := by
    cases d with
    | zero => rfl
    | succ d => exact if_pos q
  unfold GrP
  rw [e, hz]
  exact ⟨rfl, hs, Nds_nil _ _ _ _, fun _ _ _ => rfl⟩
theorem GrP_not {b c k m d f s x : Nat} {ow ra : Int} {h h1 g : Hp} (hc : c < b) (hm : m < 4) (hf : f ≤ onN m) (q : ¬ 0 ≤ lf m f) (cc : Cho m f 0 x 0) (h1c : 1 ≤ cN m f) (hd : cN m f ≤ d + 1) (A : GrP b c k m d x s ow h ra h1) (n1 : g c k = ((s + cN m x + 1 : Nat) : Int)) (n2 : g b (s + cN m x) = 0 ∧ g (b + 1) (s + cN m x) = ra ∧ g (b + 2) (s + cN m x) = -2 ∧ g (b + 3) (s + cN m x) = ow ∧ g (b + 4) (s + cN m x) = -2) (n3 : NdF b c k (s + cN m x) 1 h1 g) : GrP b c k m (d + 1) f s ow h ((s + cN m x : Nat) : Int) g := by
  obtain ⟨_, g1, _, _, _, _, kz⟩ := Cho_in hm hf h1c cc
  have kz := kz rfl
  obtain ⟨a1, _, _, _⟩ := trN_ok hm d x s g1 (by omega)
  obtain ⟨rfl, A2, A3, A4⟩ := A
  have e1 : trN m (d + 1) f s = (((s + cN m x : Nat) : Int), (trN m d x s).2 ++ [(0, (trN m d x s).1, -2)]) := by
    show (if 0 ≤ lf m f then _ else _) = _
    rw [if_neg q, cho_is cc, if_pos rfl]
    dsimp only
    rw [a1]
  unfold GrP
  rw [e1]
  refine ⟨rfl, by rw [n1]; omega, Nds_app (Nds_congr (fun a j h1 h2 h3 => n3 a j (by omega)) A3) (by rw [a1]; exact Nds_one n2), fun a j hh => ?_⟩
  rw [n3 a j (by omega), A4 a j (by omega)]
theorem GrP_two {b c k m d f s t x y : Nat} {ow ra rb : Int} {h h1 h2 g : Hp} (hc : c < b) (hm : m < 4) (hf : f ≤ onN m) (q : ¬ 0 ≤ lf m f) (ht : t ≠ 0) (cc : Cho m f t x y) (h1c : 1 ≤ cN m f) (hd : cN m f ≤ d + 1) (A : GrP b c k m d x s ow h ra h1) (B : GrP b c k m d y (s + cN m x) ow h1 rb h2) (n1 : g c k = ((s + cN m x + cN m y + 1 : Nat) : Int)) (n2 : g b (s + cN m x + cN m y) = t ∧ g (b + 1) (s + cN m x + cN m y) = ra ∧ g (b + 2) (s + cN m x + cN m y) = rb ∧ g (b + 3) (s + cN m x + cN m y) = ow ∧ g (b + 4) (s + cN m x + cN m y) = -2) (n3 : NdF b c k (s + cN m x + cN m y) 1 h2 g) : GrP b c k m (d + 1) f s ow h ((s + cN m x + cN m y : Nat) : Int) g := by
  obtain ⟨_, g1, g2, _, _, kn, _⟩ := Cho_in hm hf h1c cc
  have kn := (kn ht).2
  obtain ⟨a1, _, _, _⟩ := trN_ok hm d x s g1 (by omega)
  obtain ⟨b1, _, _, _⟩ := trN_ok hm d y (s + cN m x) g2 (by omega)
  obtain ⟨rfl, A2, A3, A4⟩ := A
  obtain ⟨rfl, B2, B3, B4⟩ := B
  have e1 : trN m (d + 1) f s = (((s + cN m x + cN m y : Nat) : Int), (trN m d x s).2 ++ ((trN m d y (s + cN m x)).2 ++ [((t : Int), (trN m d x s).1, (trN m d y (s + cN m x)).1)])) := by
    show (if 0 ≤ lf m f then _ else _) = _
    rw [if_neg q, cho_is cc, if_neg ht]
    dsimp only
    rw [a1, b1]
  unfold GrP
  rw [e1]
  refine ⟨rfl, by rw [n1]; omega, Nds_app (Nds_congr (fun a j h1 h2 h3 => ?_) A3) (by rw [a1]; exact Nds_app (Nds_congr (fun a j h1 h2 h3 => n3 a j (by omega)) B3) (by rw [b1]; exact Nds_one n2)), fun a j hh => ?_⟩
  · rw [n3 a j (by omega), B4 a j (by omega)]
  · rw [n3 a j (by omega), B4 a j (by omega), A4 a j (by omega)]
theorem grow_ok {m : Nat} (hm : m < 4) : ∀ (d f s dep : Nat) (ow : Int) (h : Hp), f ≤ onN m → cN m f ≤ d → dep + cN m f ≤ 4 → h 56 5 = (m : Int) → h 56 8 = (s : Int) → s + cN m f ≤ 8 → En (XX7_grow (d + 1) f ow dep h) (GrP 61 56 8 m d f s ow h) := by
  intro d
  induction d with
  | zero =>
    intro f s dep ow h hf hd hdp h5 hs h8
    show En (XX7_grow_r (XX7_grow 0) f ow dep h) _
    unfold XX7_grow_r
    have q : 0 ≤ lf m f := (c_lf hm hf).1 (by omega)
    rw [h5, leafOf_eq hm hf, cal_eq, if_neg (by omega)]
    exact En_some (GrP_leaf hm hf hs q)
  | succ d ih =>
    intro f s dep ow h hf hd hdp h5 hs h8
    show En (XX7_grow_r (XX7_grow (d + 1)) f ow dep h) _
    unfold XX7_grow_r
    rw [h5, leafOf_eq hm hf, cal_eq]
    by_cases q : 0 ≤ lf m f
    · rw [if_neg (by omega)]
      exact En_some (GrP_leaf hm hf hs q)
    have h1c : 1 ≤ cN m f := Nat.pos_of_ne_zero (fun t => q ((c_lf hm hf).1 t))
    obtain ⟨r, hp, e, rfl, t, x, y, cc, rfl⟩ := split_ok hm hf h1c h
    obtain ⟨k5, g1, g2, _, g4, kn, kz⟩ := Cho_in hm hf h1c cc
    have h255 := (on_eq m hm).2.2.1
    obtain ⟨d1, d2, d3, d4⟩ := enc_dec (k := t) (g := x) (h := y) (by omega) (by omega) (by omega)
    rw [if_pos (by omega), h5, e, cal_eq, if_neg (by omega), if_pos (by omega), nm_eq, chk_pos (by omega), d1, d2, d3]
    refine En_cal (ih x s (dep + 1) ow hp g1 (by omega) (by omega) h5 hs (by omega)) (fun ra h1 _ A => ?_)
    have A' := id A
    obtain ⟨_, A2, _, A4⟩ := A'
    by_cases t0 : t = 0
    · subst t0
      have kz := kz rfl
      rw [if_pos (by decide)]
      obtain ⟨g, eg, n1, n2, n3⟩ := nodeC_ok (rec := XX7_grow (d + 1)) A2 (by omega) ow 0 ra (-2)
      rw [show (((0 : Nat) : Int)) = 0 from rfl, eg]
      refine En_some ?_
      have y0 : y = 0 := by rcases cc with ⟨_, _, z, _⟩ | ⟨_, z, _⟩
                            · exact z
                            · have := z.1; omega
      subst y0
      exact GrP_not (by decide) hm hf q cc h1c hd A n1 n2 n3
    · have kn := (kn t0).2
      rw [if_neg (by omega), chk_pos (by omega)]
      refine En_cal (ih y (s + cN m x) (dep + 1) ow h1 g2 (by omega) (by omega) (by rw [A4 56 5 (by omega)]; exact h5) A2 (by omega)) (fun rb h2 _ B => ?_)
      obtain ⟨g, eg, n1, n2, n3⟩ := nodeC_ok (rec := XX7_grow (d + 1)) B.2.1 (by omega) ow t ra rb
      rw [eg]
      exact En_some (GrP_two (by decide) hm hf q t0 cc h1c hd A B n1 n2 n3)
