/-- the first set of a size -/
def Ss1 (h : Hp) (r : Int) (f : Nat → Int) : Prop := (r = 0 ∧ ∀ x, sc 18 h ≤ x → x < wn 18 h → ¬ EN h x (-1) (-1) 1) ∨ (r = 1 ∧ ∃ a, sc 18 h ≤ a ∧ a < wn 18 h ∧ EN h a (-1) (-1) 1 ∧ (∀ x, sc 18 h ≤ x → x < a → ¬ EN h x (-1) (-1) 1) ∧ ∀ k, k < 3 → f k = p3 a (-1) (-1) k)
def Ss2 (h : Hp) (r : Int) (f : Nat → Int) : Prop := (r = 0 ∧ ∀ x y, sc 18 h ≤ x → x < y → y < wn 18 h → ¬ EN h x y (-1) 2) ∨ (r = 1 ∧ ∃ a b, sc 18 h ≤ a ∧ a < b ∧ b < wn 18 h ∧ EN h a b (-1) 2 ∧ (∀ x y, sc 18 h ≤ x → x < y → y < wn 18 h → (x < a ∨ (x = a ∧ y < b)) → ¬ EN h x y (-1) 2) ∧ ∀ k, k < 3 → f k = p3 a b (-1) k)
def Ss3 (h : Hp) (r : Int) (f : Nat → Int) : Prop := (r = 0 ∧ ∀ x y z, sc 18 h ≤ x → x < y → y < z → z < wn 18 h → ¬ EN h x y z 3) ∨ (r = 1 ∧ ∃ a b c, sc 18 h ≤ a ∧ a < b ∧ b < c ∧ c < wn 18 h ∧ EN h a b c 3 ∧ (∀ x y z, sc 18 h ≤ x → x < y → y < z → z < wn 18 h → (x < a ∨ (x = a ∧ (y < b ∨ (y = b ∧ z < c)))) → ¬ EN h x y z 3) ∧ ∀ k, k < 3 → f k = p3 a b c k)
theorem pt1 {h : Hp} (hN : Nums 40 18 h) {x : Int} (h1 : sc 18 h ≤ x) (h2 : x < wn 18 h) : ptN h x (-1) (-1) = 1 := by
  unfold ptN; rw [if_pos ⟨⟨h1, h2⟩, Or.inl rfl, Or.inl rfl⟩, if_pos rfl]
theorem pt2 {h : Hp} (hN : Nums 40 18 h) {x y : Int} (h1 : sc 18 h ≤ x) (h2 : x < y) (h3 : y < wn 18 h) : ptN h x y (-1) = 2 := by
  have := Pl_lt (by decide) hN
  unfold ptN; rw [if_pos ⟨⟨h1, by omega⟩, Or.inr ⟨⟨by omega, h3⟩, h2⟩, Or.inl rfl⟩, if_neg (by omega), if_pos rfl]
theorem pt3 {h : Hp} (hN : Nums 40 18 h) {x y z : Int} (h1 : sc 18 h ≤ x) (h2 : x < y) (h3 : y < z) (h4 : z < wn 18 h) : ptN h x y z = 3 := by
  have := Pl_lt (by decide) hN
  unfold ptN; rw [if_pos ⟨⟨h1, by omega⟩, Or.inr ⟨⟨by omega, by omega⟩, h2⟩, Or.inr ⟨by omega, ⟨by omega, h4⟩, h3⟩⟩, if_neg (by omega), if_neg (by omega)]
theorem ss1 {h g : Hp} (hT : Two h) (hC : Cas h) (k : KpS h g) (w : WH g) : En (XX5_search 1 g) (fun r f => KpS h f ∧ WH f ∧ Ss1 h r (f 41)) := by
  have hN := hT.1.1
  have l0 := Pl_lt (by decide) hN
  have e18 : g 18 = h 18 := funext (fun i => k 18 i (by omega))
  unfold XX5_search
  rw [wires_eq (by decide) (Nums_congr e18 hN), cal_eq, sources_eq (Nums_congr e18 hN), cal_eq, sc_congr e18, wn_congr e18]
  unfold XX5_search_L22
  refine En_lup3 (fun _ _ l3 _ => (48 - l3).toNat) (fun l1 l2 l3 g => 1 = l1 ∧ wn 18 h = l2 ∧ KpS h g ∧ WH g ∧ sc 18 h ≤ l3 ∧ l3 ≤ wn 18 h ∧ ∀ x, sc 18 h ≤ x → x < l3 → ¬ EN h x (-1) (-1) 1) ?_ FU _ _ _ _ (by unfold FU; omega) ⟨rfl, rfl, k, w, by omega, by omega, fun x h1 h2 => by omega⟩
  clear k w e18 g
  rintro self l1 l2 l3 g ih ⟨rfl, rfl, k, w, c0, c1, c2⟩
  unfold XX5_search_b22
  by_cases q : wn 18 h ≤ l3
  · rw [if_pos q, zb_0]
    exact En_some ⟨k, w, Or.inl ⟨rfl, fun x h1 h2 => c2 x h1 (by omega)⟩⟩
  rw [if_neg q, if_pos rfl]
  refine En_cal (isE hT hC k w (pt1 hN c0 (by omega)) (by decide)) (fun r g2 e2 hr => ?_)
  obtain ⟨k2, w2, hr⟩ := hr
  rcases hr with ⟨rfl, t1, t2⟩ | ⟨rfl, t1⟩
  · rw [if_neg n10, zb_1]
    exact En_some ⟨k2, w2, Or.inr ⟨rfl, l3, c0, by omega, t1, c2, t2⟩⟩
  · rw [if_pos rfl]
    unfold XX5_search_p44
    rw [chk_pos (by omega), nm_eq]
    unfold XX5_search_L49 FU lup4 XX5_search_b49
    have go : En (XX5_search_p121 self 1 (wn 18 h) l3 g2) (fun r f => KpS h f ∧ WH f ∧ Ss1 h r (f 41)) := by
      unfold XX5_search_p121
      rw [chk_pos (by omega)]
      refine ih _ _ _ _ (by omega) ⟨rfl, rfl, k2, w2, by omega, by omega, fun x h1 h2 => ?_⟩
      by_cases qx : x = l3
      · subst qx; exact t1
      · exact c2 x h1 (by omega)
    by_cases q2 : wn 18 h ≤ l3 + 1
    · rw [if_pos q2]; exact go
    · rw [if_neg q2, if_pos (by decide)]; exact go
theorem ss2 {h g : Hp} (hT : Two h) (hC : Cas h) (k : KpS h g) (w : WH g) : En (XX5_search 2 g) (fun r f => KpS h f ∧ WH f ∧ Ss2 h r (f 41)) := by
  have hN := hT.1.1
  have l0 := Pl_lt (by decide) hN
  have e18 : g 18 = h 18 := funext (fun i => k 18 i (by omega))
  unfold XX5_search
  rw [wires_eq (by decide) (Nums_congr e18 hN), cal_eq, sources_eq (Nums_congr e18 hN), cal_eq, sc_congr e18, wn_congr e18]
  unfold XX5_search_L22
  refine En_lup3 (fun _ _ l3 _ => (48 - l3).toNat) (fun l1 l2 l3 g => 2 = l1 ∧ wn 18 h = l2 ∧ KpS h g ∧ WH g ∧ sc 18 h ≤ l3 ∧ l3 ≤ wn 18 h ∧ ∀ x y, sc 18 h ≤ x → x < y → y < wn 18 h → x < l3 → ¬ EN h x y (-1) 2) ?_ FU _ _ _ _ (by unfold FU; omega) ⟨rfl, rfl, k, w, by omega, by omega, fun x y h1 h2 _ h3 => by omega⟩
  clear k w e18 g
  rintro self22 l1 l2 l3 g ih22 ⟨rfl, rfl, k, w, c0, c1, c2⟩
  unfold XX5_search_b22
  by_cases q : wn 18 h ≤ l3
  · rw [if_pos q, zb_0]
    exact En_some ⟨k, w, Or.inl ⟨rfl, fun x y h1 h2 h3 => c2 x y h1 h2 h3 (by omega)⟩⟩
  rw [if_neg q, if_neg (by decide)]
  unfold XX5_search_p44
  rw [chk_pos (by omega), nm_eq]
  unfold XX5_search_L49
  refine En_lup4 (fun _ _ _ l4 _ => (49 - l4).toNat) (fun l1 l2 l3' l4 g => 2 = l1 ∧ wn 18 h = l2 ∧ l3 = l3' ∧ KpS h g ∧ WH g ∧ l3 < l4 ∧ l4 ≤ wn 18 h ∧ (∀ y, l3 < y → y < l4 → ¬ EN h l3 y (-1) 2)) ?_ FU _ _ _ _ _ (by unfold FU; omega) ⟨rfl, rfl, rfl, k, w, by omega, by omega, fun y h1 h2 => by omega⟩
  clear k w g
  rintro self49 l1 l2 l3' l4 g ih49 ⟨rfl, rfl, rfl, k, w, d0, d1, d2⟩
  unfold XX5_search_b49
  by_cases q4 : wn 18 h ≤ l4
  · rw [if_pos q4]
    unfold XX5_search_p121
    rw [chk_pos (by omega)]
    refine ih22 _ _ _ _ (by omega) ⟨rfl, rfl, k, w, by omega, by omega, fun x y h1 h2 h3 h4 => ?_⟩
    by_cases qx : x = l3
    · subst qx; exact d2 y h2 (by omega)
    · exact c2 x y h1 h2 h3 (by omega)
  rw [if_neg q4, if_neg (by decide), if_pos rfl]
  refine En_cal (isE hT hC k w (pt2 hN c0 d0 (by omega)) (by decide)) (fun r g2 e2 hr => ?_)
  obtain ⟨k2, w2, hr⟩ := hr
  rcases hr with ⟨rfl, t1, t2⟩ | ⟨rfl, t1⟩
  · rw [if_neg n10, zb_1]
    refine En_some ⟨k2, w2, Or.inr ⟨rfl, l3, l4, c0, d0, by omega, t1, fun x y h1 h2 h3 h4 => ?_, t2⟩⟩
    rcases h4 with h4 | ⟨rfl, h4⟩
    · exact c2 x y h1 h2 h3 h4
    · exact d2 y h2 h4
  · rw [if_pos rfl]
    unfold XX5_search_p78
    rw [chk_pos (by omega), nm_eq]
    unfold XX5_search_L84 FU lup5 XX5_search_b84
    have go : En (XX5_search_p115 self22 self49 2 (wn 18 h) l3 l4 g2) (fun r f => KpS h f ∧ WH f ∧ Ss2 h r (f 41)) := by
      unfold XX5_search_p115
      rw [chk_pos (by omega)]
      refine ih49 _ _ _ _ _ (by omega) ⟨rfl, rfl, rfl, k2, w2, by omega, by omega, fun y h1 h2 => ?_⟩
      by_cases qx : y = l4
      · subst qx; exact t1
      · exact d2 y h1 (by omega)
    by_cases q2 : wn 18 h ≤ l4 + 1
    · rw [if_pos q2]; exact go
    · rw [if_neg q2, if_pos (by decide)]; exact go
theorem ss3 {h g : Hp} (hT : Two h) (hC : Cas h) (k : KpS h g) (w : WH g) : En (XX5_search 3 g) (fun r f => KpS h f ∧ WH f ∧ Ss3 h r (f 41)) := by
  have hN := hT.1.1
  have l0 := Pl_lt (by decide) hN
  have e18 : g 18 = h 18 := funext (fun i => k 18 i (by omega))
  unfold XX5_search
  rw [wires_eq (by decide) (Nums_congr e18 hN), cal_eq, sources_eq (Nums_congr e18 hN), cal_eq, sc_congr e18, wn_congr e18]
  unfold XX5_search_L22
  refine En_lup3 (fun _ _ l3 _ => (48 - l3).toNat) (fun l1 l2 l3 g => 3 = l1 ∧ wn 18 h = l2 ∧ KpS h g ∧ WH g ∧ sc 18 h ≤ l3 ∧ l3 ≤ wn 18 h ∧ ∀ x y z, sc 18 h ≤ x → x < y → y < z → z < wn 18 h → x < l3 → ¬ EN h x y z 3) ?_ FU _ _ _ _ (by unfold FU; omega) ⟨rfl, rfl, k, w, by omega, by omega, fun x y z h1 h2 _ _ h3 => by omega⟩
  clear k w e18 g
  rintro self22 l1 l2 l3 g ih22 ⟨rfl, rfl, k, w, c0, c1, c2⟩
  unfold XX5_search_b22
  by_cases q : wn 18 h ≤ l3
  · rw [if_pos q, zb_0]
    exact En_some ⟨k, w, Or.inl ⟨rfl, fun x y z h1 h2 h3 h4 => c2 x y z h1 h2 h3 h4 (by omega)⟩⟩
  rw [if_neg q, if_neg (by decide)]
  unfold XX5_search_p44
  rw [chk_pos (by omega), nm_eq]
  unfold XX5_search_L49
  refine En_lup4 (fun _ _ _ l4 _ => (49 - l4).toNat) (fun l1 l2 l3' l4 g => 3 = l1 ∧ wn 18 h = l2 ∧ l3 = l3' ∧ KpS h g ∧ WH g ∧ l3 < l4 ∧ l4 ≤ wn 18 h ∧ (∀ y z, l3 < y → y < z → z < wn 18 h → y < l4 → ¬ EN h l3 y z 3)) ?_ FU _ _ _ _ _ (by unfold FU; omega) ⟨rfl, rfl, rfl, k, w, by omega, by omega, fun y z h1 h2 h3 h4 => by omega⟩
  clear k w g
  rintro self49 l1 l2 l3' l4 g ih49 ⟨rfl, rfl, rfl, k, w, d0, d1, d2⟩
  unfold XX5_search_b49
  by_cases q4 : wn 18 h ≤ l4
  · rw [if_pos q4]
    unfold XX5_search_p121
    rw [chk_pos (by omega)]
    refine ih22 _ _ _ _ (by omega) ⟨rfl, rfl, k, w, by omega, by omega, fun x y z h1 h2 h3 h4 h5 => ?_⟩
    by_cases qx : x = l3
    · subst qx; exact d2 y z h2 h3 h4 (by omega)
    · exact c2 x y z h1 h2 h3 h4 (by omega)
  rw [if_neg q4, if_neg (by decide), if_neg (by decide)]
  unfold XX5_search_p78
  rw [chk_pos (by omega), nm_eq]
  unfold XX5_search_L84
  refine En_lup5 (fun _ _ _ _ l5 _ => (49 - l5).toNat) (fun l1 l2 l3' l4' l5 g => 3 = l1 ∧ wn 18 h = l2 ∧ l3 = l3' ∧ l4 = l4' ∧ KpS h g ∧ WH g ∧ l4 < l5 ∧ l5 ≤ wn 18 h ∧ (∀ z, l4 < z → z < l5 → ¬ EN h l3 l4 z 3)) ?_ FU _ _ _ _ _ _ (by unfold FU; omega) ⟨rfl, rfl, rfl, rfl, k, w, by omega, by omega, fun z h1 h2 => by omega⟩
  clear k w g
  rintro self84 l1 l2 l3' l4' l5 g ih84 ⟨rfl, rfl, rfl, rfl, k, w, b0, b1, b2⟩
  unfold XX5_search_b84
  by_cases q5 : wn 18 h ≤ l5
  · rw [if_pos q5]
    unfold XX5_search_p115
    rw [chk_pos (by omega)]
    refine ih49 _ _ _ _ _ (by omega) ⟨rfl, rfl, rfl, k, w, by omega, by omega, fun y z h1 h2 h3 h4 => ?_⟩
    by_cases qx : y = l4
    · subst qx; exact b2 z h2 (by omega)
    · exact d2 y z h1 h2 h3 (by omega)
  rw [if_neg q5, if_neg (by decide)]
  refine En_cal (isE hT hC k w (pt3 hN c0 d0 b0 (by omega)) (by decide)) (fun r g2 e2 hr => ?_)
  obtain ⟨k2, w2, hr⟩ := hr
  rcases hr with ⟨rfl, t1, t2⟩ | ⟨rfl, t1⟩
  · rw [if_neg n10, zb_1]
    refine En_some ⟨k2, w2, Or.inr ⟨rfl, l3, l4, l5, c0, d0, b0, by omega, t1, fun x y z h1 h2 h3 h4 h5 => ?_, t2⟩⟩
    rcases h5 with h5 | ⟨rfl, h5 | ⟨rfl, h5⟩⟩
    · exact c2 x y z h1 h2 h3 h4 h5
    · exact d2 y z h2 h3 h4 h5
    · exact b2 z h3 h5
  · rw [if_pos rfl, chk_pos (by omega)]
    refine ih84 _ _ _ _ _ _ (by omega) ⟨rfl, rfl, rfl, rfl, k2, w2, by omega, by omega, fun z h1 h2 => ?_⟩
    by_cases qx : z = l5
    · subst qx; exact t1
    · exact b2 z h1 (by omega)
/-- the first set of at most n -/
def Fst (h : Hp) (n r : Int) (f : Nat → Int) : Prop :=
  (r = 0 ∧ Ss1 h 0 f ∧ (1 < n → Ss2 h 0 f) ∧ (2 < n → Ss3 h 0 f)) ∨ (r = 1 ∧ Ss1 h 1 f) ∨ (r = 2 ∧ 1 < n ∧ Ss1 h 0 f ∧ Ss2 h 1 f) ∨ (r = 3 ∧ 2 < n ∧ Ss1 h 0 f ∧ Ss2 h 0 f ∧ Ss3 h 1 f)
theorem Ss1_0 {h : Hp} {f f2 : Nat → Int} (s : Ss1 h 0 f) : Ss1 h 0 f2 := by
  rcases s with s | ⟨s, _⟩
  · exact Or.inl s
  · cases s
theorem Ss2_0 {h : Hp} {f f2 : Nat → Int} (s : Ss2 h 0 f) : Ss2 h 0 f2 := by
  rcases s with s | ⟨s, _⟩
  · exact Or.inl s
  · cases s
theorem Ss_r {r : Int} {P Q : Prop} (s : (r = 0 ∧ P) ∨ (r = 1 ∧ Q)) : r = 0 ∨ r = 1 := s.elim (fun t => Or.inl t.1) (fun t => Or.inr t.1)
theorem Fst_congr {h g : Hp} (fg : ∀ a i, ((18 ≤ a ∧ a ≤ 21) ∨ (28 ≤ a ∧ a ≤ 31) ∨ (a = 37 ∧ i = 1) ∨ a = 39) → g a i = h a i) {n r : Int} {f : Nat → Int} (s : Fst g n r f) : Fst h n r f := by
  have e18 : g 18 = h 18 := funext (fun i => fg 18 i (by omega))
  have conv : ∀ a b c m, EN g a b c m ↔ EN h a b c m := fun a b c m => EN_congr (fun a i hh => fg a i (by omega)) a b c m
  have c1 : ∀ r f, Ss1 g r f → Ss1 h r f := fun r f s => by unfold Ss1 at s ⊢; simp only [conv, sc_congr e18, wn_congr e18] at s; exact s
  have c2 : ∀ r f, Ss2 g r f → Ss2 h r f := fun r f s => by unfold Ss2 at s ⊢; simp only [conv, sc_congr e18, wn_congr e18] at s; exact s
  have c3 : ∀ r f, Ss3 g r f → Ss3 h r f := fun r f s => by unfold Ss3 at s ⊢; simp only [conv, sc_congr e18, wn_congr e18] at s; exact s
  rcases s with ⟨t, s1, s2, s3⟩ | ⟨t, s1⟩ | ⟨t, u, s1, s2⟩ | ⟨t, u, s1, s2, s3⟩
  · exact Or.inl ⟨t, c1 _ _ s1, fun u => c2 _ _ (s2 u), fun u => c3 _ _ (s3 u)⟩
  · exact Or.inr (Or.inl ⟨t, c1 _ _ s1⟩)
  · exact Or.inr (Or.inr (Or.inl ⟨t, u, c1 _ _ s1, c2 _ _ s2⟩))
  · exact Or.inr (Or.inr (Or.inr ⟨t, u, c1 _ _ s1, c2 _ _ s2, c3 _ _ s3⟩))
/-- a search begins: eight times the first difference -/
theorem startSearch_ok {h : Hp} (hT : Two h) (hC : Cas h) (hn : 0 ≤ h 40 12 ∧ h 40 12 < 8) {d : Nat} (hd : (d : Int) < 64 * h 37 1) (hl : tb (h 39 (d / 64)) (d % 64) = true) : En (XX5_startSearch d h) (fun _ g => (∀ a i, ¬ (a = 44 ∨ (204 ≤ a ∧ a ≤ 205) ∨ (a = 40 ∧ 11 ≤ i ∧ i ≤ 12)) → g a i = h a i) ∧ WH g) := by
  obtain ⟨n0, n1, n2, n3, n4⟩ := Cas_num hC hT.1.1
  unfold XX5_startSearch
  refine En_cal (findWrong_ok hT hC) (fun r1 g e1 hg => ?_)
  obtain ⟨fg, w⟩ := hg
  have T1 : Two g := Two_congr (fun a i hh => fg a i (by omega)) hT
  obtain ⟨n, hn'⟩ := Int.eq_ofNat_of_zero_le hn.1
  have hn8 : n < 8 := by have := hn.2; omega
  have g12 : g 40 12 = (n : Int) := by rw [fg 40 12 (by omega)]; exact hn'
  unfold XX5_startSearch_L6
  refine En_lup2 (fun _ l _ => (9 - l).toNat) (fun l1 l f => (d : Int) = l1 ∧ 0 ≤ l ∧ l ≤ 8 ∧ (∀ a i, ¬ (a = 204 ∨ a = 205 ∨ (a = 40 ∧ i = 12)) → f a i = g a i) ∧ f 40 12 = (((n + l.toNat) % 8 : Nat) : Int) ∧ ∀ j : Nat, (j : Int) < l → ∃ ks, HCs f ((n + j) % 8) ks) ?_ FU _ _ _ (by unfold FU; omega) ⟨rfl, by omega, by omega, fun _ _ _ => rfl, by rw [g12, show (0 : Int).toNat = 0 from rfl]; omega, fun j hj => absurd hj (by omega)⟩
  rintro self6 l1 l f ih ⟨rfl, c0, c1, c2, c3, c4⟩
  unfold XX5_startSearch_b6
  by_cases q : (8 : Int) ≤ l
  · rw [if_pos q]
    refine En_some ⟨fun a i hh => by rw [c2 a i (by omega)]; exact fg a i (by omega), Wro_tr (fun a i hh => c2 a i (by omega)) w, ⟨by rw [c3]; omega, fun c hc => ?_⟩⟩
    obtain ⟨ks, hs⟩ := c4 ((c + 8 - n) % 8) (by omega)
    rw [show (n + (c + 8 - n) % 8) % 8 = c by omega] at hs
    exact ⟨ks, hs⟩
  · rw [if_neg q]
    have Tf : Two f := Two_congr (fun a i ha => c2 a i (by omega)) T1
    refine En_cal (addHard_s Tf c3 (by omega) (ks := d) (by omega) (by rw [c2 37 1 (by omega), fg 37 1 (by omega)]; exact hd) (by rw [c2 39 _ (by omega), fg 39 _ (by omega)]; exact hl)) (fun r3 f2 e3 hr => ?_)
    obtain ⟨f1, f2', f3, f4⟩ := hr
    rw [chk_pos (by omega)]
    refine ih _ _ _ (by omega) ⟨rfl, by omega, by omega, fun a i hh => by rw [f1 a i hh]; exact c2 a i hh, by rw [f2']; omega, fun j hj => ?_⟩
    by_cases qj : j = l.toNat
    · rw [qj]; exact ⟨d, f3⟩
    · obtain ⟨ks, hs⟩ := c4 j (by omega)
      exact ⟨ks, f4 _ (by omega) (by omega) ks hs⟩
/-- size after size -/
theorem ptsC_ok {h : Hp} (hT : Two h) (hC : Cas h) (hW : WH h) {n : Int} (hn : 1 ≤ n ∧ n ≤ 3) : En (XX11_points_L43 n 1 h) (fun r F => ∃ r5 f5, KpS h f5 ∧ WH f5 ∧ Fst h n r5 (f5 41) ∧ ((r5 = 0 ∧ r = -4 ∧ F = f5) ∨ (r5 ≠ 0 ∧ r = r5 ∧ F = wr (cpy f5 41 (0 : Int).toNat 100 (0 : Int).toNat r5.toNat) 16 12 r5))) := by
  unfold XX11_points_L43
  rw [show FU = 999996 + 4 from rfl]
  unfold lup2 XX11_points_b43
  rw [if_neg (by omega)]
  refine En_cal (ss1 hT hC (fun _ _ _ => rfl) hW) (fun r g1 e1 h1 => ?_)
  obtain ⟨k1, w1, s1⟩ := h1
  rcases Ss_r s1 with rfl | rfl
  · rw [if_pos rfl, chk_pos (by omega)]
    unfold lup2
    by_cases q2 : n < 2
    · rw [if_pos (by omega)]
      exact En_some ⟨0, g1, k1, w1, Or.inl ⟨rfl, s1, fun t => by omega, fun t => by omega⟩, Or.inl ⟨rfl, rfl, rfl⟩⟩
    rw [if_neg (by omega)]
    refine En_cal (ss2 hT hC k1 w1) (fun r g2 e2 h2 => ?_)
    obtain ⟨k2, w2, s2⟩ := h2
    rcases Ss_r s2 with rfl | rfl
    · rw [if_pos rfl, chk_pos (by omega)]
      unfold lup2
      by_cases q3 : n < 3
      · rw [if_pos (by omega)]
        exact En_some ⟨0, g2, k2, w2, Or.inl ⟨rfl, Ss1_0 s1, fun _ => s2, fun t => by omega⟩, Or.inl ⟨rfl, rfl, rfl⟩⟩
      rw [if_neg (by omega)]
      refine En_cal (ss3 hT hC k2 w2) (fun r g3 e3 h3 => ?_)
      obtain ⟨k3, w3, s3⟩ := h3
      rcases Ss_r s3 with rfl | rfl
      · rw [if_pos rfl, chk_pos (by omega)]
        unfold lup2
        rw [if_pos (by omega)]
        exact En_some ⟨0, g3, k3, w3, Or.inl ⟨rfl, Ss1_0 s1, fun _ => Ss2_0 s2, fun _ => s3⟩, Or.inl ⟨rfl, rfl, rfl⟩⟩
      · rw [if_neg n10, acp_pos (by decide), hm_eq, hm_eq]
        exact En_some ⟨3, g3, k3, w3, Or.inr (Or.inr (Or.inr ⟨rfl, by omega, Ss1_0 s1, Ss2_0 s2, s3⟩)), Or.inr ⟨by decide, rfl, rfl⟩⟩
    · rw [if_neg n10, acp_pos (by decide), hm_eq, hm_eq]
      exact En_some ⟨2, g2, k2, w2, Or.inr (Or.inr (Or.inl ⟨rfl, by omega, Ss1_0 s1, s2⟩)), Or.inr ⟨by decide, rfl, rfl⟩⟩
  · rw [if_neg n10, acp_pos (by decide), hm_eq, hm_eq]
    exact En_some ⟨1, g1, k1, w1, Or.inr (Or.inl ⟨rfl, s1⟩), Or.inr ⟨by decide, rfl, rfl⟩⟩
