/-- the model knows OLD's words -/
def Kn0 (g : Hp) (m : Nat) : Prop := m ≤ 3 ∧ wn 18 g ≤ 48 ∧ (∀ part w : Nat, part < 4 → (w : Int) < wn 18 g → vM 0 part g w = fOl g noF part w) ∧ ∀ j, j < m → 0 ≤ g 195 j ∧ g 195 j < wn 18 g
theorem pattern_eq {g : Hp} {m : Nat} (hK : Kn0 g m) {c : Nat} (hc : c < 256) : XX12_pattern c m g = some (((pT g (g 195) c m : Nat) : Int), g) := by
  obtain ⟨m3, w48, hV, hw⟩ := hK
  have : En (XX12_pattern c m g) (fun r f => r = ((pT g (g 195) c m : Nat) : Int) ∧ f = g) := by
    unfold XX12_pattern XX12_pattern_L5
    refine En_lup4 (fun _ _ _ l4 _ => (4 - l4).toNat) (fun l1 l2 l3 l4 f => (c : Int) = l1 ∧ (m : Int) = l2 ∧ g = f ∧ 0 ≤ l4 ∧ l4 ≤ m ∧ l3 = ((pT g (g 195) c l4.toNat : Nat) : Int)) ?_ FU _ _ _ _ _ (by unfold FU; omega) ⟨rfl, rfl, rfl, by omega, by omega, rfl⟩
    rintro self l1 l2 l3 l4 f ih ⟨rfl, rfl, rfl, c0, c1, c2⟩
    obtain ⟨l, rfl⟩ := Int.eq_ofNat_of_zero_le c0
    rw [Int.toNat_natCast] at c2
    unfold XX12_pattern_b5
    by_cases q : (m : Int) ≤ l
    · rw [if_pos q]
      refine En_some ⟨?_, rfl⟩
      rw [c2, show l = m by omega]
    · have hwl := hw l (by omega)
      obtain ⟨w, hw1⟩ := Int.eq_ofNat_of_zero_le hwl.1
      have hb : bT g (g 195) c l = tb (fOl g noF ((c / 64 : Nat) : Int) w) (c % 64) := by unfold bT; rw [hw1, Int.toNat_natCast]
      have as := aor_step l (by omega) (pT g (g 195) c l) (pT_lt _ _ _ _)
      rw [if_neg q, inb_pos (by omega), Int.toNat_natCast, hw1, isAt_eq g (by omega) (by omega) hc, cal_eq, hV (c / 64) w (by omega) (by omega)]
      have go : ∀ s1 : Int, aor l3 s1 = ((pT g (g 195) c (l + 1) : Nat) : Int) → En (XX12_pattern_p36 self c m l l3 s1 g) (fun r f => r = ((pT g (g 195) c m : Nat) : Int) ∧ f = g) := by
        intro s1 hs
        unfold XX12_pattern_p36
        rw [nm_eq, chk_pos (by omega)]
        refine ih _ _ _ _ _ (by omega) ⟨rfl, rfl, rfl, by omega, by omega, ?_⟩
        rw [hs, show ((l : Int) + 1).toNat = l + 1 by omega]
      by_cases qb : tb (fOl g noF ((c / 64 : Nat) : Int) w) (c % 64) = true
      · rw [if_pos qb, if_neg n10]
        refine go _ ?_
        rw [c2, as.1]
        show _ = ((pT g (g 195) c l + if bT g (g 195) c l = true then 2 ^ l else 0 : Nat) : Int)
        rw [hb, if_pos qb]
      · rw [if_neg qb, if_pos rfl]
        refine go _ ?_
        rw [c2, as.2.2]
        show _ = ((pT g (g 195) c l + if bT g (g 195) c l = true then 2 ^ l else 0 : Nat) : Int)
        rw [hb, if_neg qb, Nat.add_zero]
  obtain ⟨r, f, e, rfl, rfl⟩ := this
  exact e
theorem clashes_ok {g : Hp} {m : Nat} (hK : Kn0 g m) {c : Nat} (hc : c < 256) (hl : g 149 c = 0) : En (XX12_clashes c m g) (fun _ f => (∀ a i, ¬ (a = 143 ∧ 21 ≤ i ∧ i ≤ 22) → f a i = g a i) ∧ f 143 22 = (c : Int) ∧ ∃ d : Nat, f 143 21 = (d : Int) ∧ d ≤ c ∧ g 149 d = 0 ∧ pT g (g 195) d m = pT g (g 195) c m ∧ ∀ d', d' < d → ¬ (g 149 d' = 0 ∧ pT g (g 195) d' m = pT g (g 195) c m)) := by
  unfold XX12_clashes XX12_clashes_L2
  refine En_lup3 (fun _ _ l3 _ => (257 - l3).toNat) (fun l1 l2 l3 f => (c : Int) = l1 ∧ (m : Int) = l2 ∧ g = f ∧ 0 ≤ l3 ∧ l3 ≤ c ∧ ∀ d' : Nat, (d' : Int) < l3 → ¬ (g 149 d' = 0 ∧ pT g (g 195) d' m = pT g (g 195) c m)) ?_ FU _ _ _ _ (by unfold FU; omega) ⟨rfl, rfl, rfl, by omega, by omega, fun d' hd => by omega⟩
  rintro self l1 l2 l3 f ih ⟨rfl, rfl, rfl, c0, c1, c2⟩
  obtain ⟨d, rfl⟩ := Int.eq_ofNat_of_zero_le c0
  unfold XX12_clashes_b2
  have next : ¬ (g 149 d = 0 ∧ pT g (g 195) d m = pT g (g 195) c m) → En (XX12_clashes_p26 self c m d g) (fun _ f => (∀ a i, ¬ (a = 143 ∧ 21 ≤ i ∧ i ≤ 22) → f a i = g a i) ∧ f 143 22 = (c : Int) ∧ ∃ d : Nat, f 143 21 = (d : Int) ∧ d ≤ c ∧ g 149 d = 0 ∧ pT g (g 195) d m = pT g (g 195) c m ∧ ∀ d', d' < d → ¬ (g 149 d' = 0 ∧ pT g (g 195) d' m = pT g (g 195) c m)) := by
    intro hn
    unfold XX12_clashes_p26
    rw [chk_pos (by omega)]
    have : d ≠ c := fun t => hn (by rw [t]; exact ⟨hl, rfl⟩)
    refine ih _ _ _ _ (by omega) ⟨rfl, rfl, rfl, by omega, by omega, fun d' hd => ?_⟩
    by_cases qd : d' = d
    · rw [qd]; exact hn
    · exact c2 d' (by omega)
  rw [inb_pos (by omega), Int.toNat_natCast]
  by_cases qf : g 149 d = 0
  · rw [if_pos qf, pattern_eq hK (by omega), cal_eq, pattern_eq hK hc, cal_eq]
    by_cases qp : ((pT g (g 195) d m : Nat) : Int) = ((pT g (g 195) c m : Nat) : Int)
    · rw [if_pos qp, hm_eq, hm_eq]
      refine En_some ⟨fun a i hh => by rw [wq_ne (by omega), wq_ne (by omega)], wr_at, d, by rw [wr_o (by decide), wr_at], by omega, qf, by omega, fun d' hd => c2 d' (by omega)⟩
    · rw [if_neg qp]; exact next (fun t => qp (by rw [t.2]))
  · rw [if_neg qf]; exact next (fun t => qf t.1)
def G1 (A : Nat → Nat → Prop) (m f : Nat) : Prop := ∀ p, p < 2 ^ m → A (bt f p) p
def G2 (A : Nat → Nat → Prop) (m f g : Nat) : Prop := ∀ p, p < 2 ^ m → A (bt f p + 2 * bt g p) p
def Bg2 (A : Nat → Nat → Prop) (m f g : Nat) : Prop := f ≤ onN m ∧ g ≤ onN m ∧ G2 A m f g ∧ ∀ f' g', f' ≤ onN m → g' ≤ onN m → G2 A m f' g' → cN m f + cN m g < cN m f' + cN m g' ∨ (cN m f + cN m g = cN m f' + cN m g' ∧ (f < f' ∨ (f = f' ∧ g ≤ g')))
/-- the answer of either side: its costs added, its functions -/
def FdA (A : Nat → Nat → Prop) (m n : Nat) (r a b : Int) : Prop := (n = 1 ∧ ∃ f : Nat, Lbe m (G1 A m) f ∧ a = (f : Int) ∧ r = ((cN m f : Nat) : Int)) ∨ (n = 2 ∧ ∃ f g : Nat, Bg2 A m f g ∧ a = (f : Int) ∧ b = (g : Int) ∧ r = ((cN m f + cN m g : Nat) : Int))
theorem bt_eq {f p : Nat} (hf : f ≤ 255) (hp : p < 32) : aand (ashr (f : Int) p) 1 = ((bt f p : Nat) : Int) ∧ bt f p ≤ 1 := by
  unfold bt
  rw [abit _ (by omega) (by omega), ti_nat (by omega) (by omega), Int.toNat_natCast, Int.toNat_natCast]
  split
  · exact ⟨rfl, Nat.le_refl _⟩
  · exact ⟨rfl, Nat.zero_le _⟩
theorem single_ok {g : Hp} {m : Nat} {A : Nat → Nat → Prop} (hm : m < 4) (hC : Cok m g) (hA : ∀ q p, q < 2 → p < 2 ^ m → (ti (g 194 p) q = true ↔ A q p)) (hok : ∀ p, p < 2 ^ m → ∃ q, q < 2 ∧ A q p) : En (XX12_single m g) (fun r f => (∀ a i, ¬ (a = 143 ∧ i = 71) → f a i = g a i) ∧ ∃ f0 : Nat, Lbe m (G1 A m) f0 ∧ r = ((cN m f0 : Nat) : Int) ∧ f 143 71 = (f0 : Int)) := by
  obtain ⟨_, _, h255, h8, _, _⟩ := on_eq m hm
  unfold XX12_single XX12_single_L4
  refine En_lup3 (fun _ _ l3 _ => (300 - l3).toNat) (fun l1 l2 l3 f => (m : Int) = l1 ∧ 0 ≤ l3 ∧ (∀ a i, ¬ (a = 143 ∧ i = 71) → f a i = g a i) ∧ ((l2 = -1 ∧ ∀ f' : Nat, (f' : Int) < l3 → ¬ G1 A m f') ∨ ∃ f0 : Nat, ((f0 : Int) < l3 ∧ f0 ≤ onN m) ∧ G1 A m f0 ∧ l2 = ((cN m f0 : Nat) : Int) ∧ f 143 71 = (f0 : Int) ∧ ∀ f' : Nat, (f' : Int) < l3 → f' ≤ onN m → G1 A m f' → cN m f0 < cN m f' ∨ (cN m f0 = cN m f' ∧ f0 ≤ f'))) ?_ FU _ _ _ _ (by unfold FU; omega) ⟨rfl, by omega, fun _ _ _ => rfl, Or.inl ⟨rfl, fun f' hf => by omega⟩⟩
  rintro self4 l1 l2 l3 f ih4 ⟨rfl, c0, c1, c2⟩
  obtain ⟨x, rfl⟩ := Int.eq_ofNat_of_zero_le c0
  unfold XX12_single_b4
  rw [functions_eq hm, cal_eq]
  by_cases q : (onN m : Int) + 1 ≤ x
  · rw [if_pos q]
    rcases c2 with ⟨_, c2⟩ | ⟨f0, c3, c4, c5, c6, c7⟩
    · exfalso
      obtain ⟨y, y1, y2⟩ := bits_ex (2 ^ m) (fun p => @decide (A 1 p) (Classical.propDecidable _))
      refine c2 y (by have := le_on hm y1; omega) (fun p hp => ?_)
      unfold bt
      rw [y2 p hp]
      by_cases t : A 1 p
      · rw [if_pos (by simpa using t)]; exact t
      · rw [if_neg (by simpa using t)]
        obtain ⟨qq, h1, h2⟩ := hok p hp
        rcases (by omega : qq = 0 ∨ qq = 1) with rfl | rfl
        · exact h2
        · exact absurd h2 t
    · exact En_some ⟨c1, f0, ⟨c3.2, c4, fun f' h1 h2 => c7 f' (by omega) h1 h2⟩, c5, c6⟩
  rw [if_neg q]
  have hx : x ≤ onN m := by omega
  unfold XX12_single_L18
  refine En_lup5 (fun _ _ _ _ l5 _ => (9 - l5).toNat) (fun l1 l2' l3 l4 l5 f2 => (m : Int) = l1 ∧ l2 = l2' ∧ (x : Int) = l3 ∧ f = f2 ∧ 0 ≤ l5 ∧ l5 ≤ ((2 ^ m : Nat) : Int) ∧ ((l4 = 1 ∧ ∀ p : Nat, (p : Int) < l5 → A (bt x p) p) ∨ (l4 = 0 ∧ ¬ G1 A m x))) ?_ FU _ _ _ _ _ _ (by unfold FU; omega) ⟨rfl, rfl, rfl, rfl, by omega, Int.natCast_nonneg _, Or.inl ⟨rfl, fun p hp => by omega⟩⟩
  rintro self18 l1 l2' l3 l4 l5 f2 ih18 ⟨rfl, rfl, rfl, rfl, d0, d1, d2⟩
  obtain ⟨p, rfl⟩ := Int.eq_ofNat_of_zero_le d0
  unfold XX12_single_b18
  rw [ashl1N (k := m) (by omega)]
  by_cases q5 : ((2 ^ m : Nat) : Int) ≤ p
  · rw [if_pos q5]
    rcases d2 with ⟨rfl, d2⟩ | ⟨rfl, d2⟩
    · have hg : G1 A m x := fun p' hp' => d2 p' (by omega)
      rw [if_neg n10]
      have p84 : (∀ f' : Nat, f' < x → f' ≤ onN m → G1 A m f' → cN m x < cN m f') → En (XX12_single_p84 self4 m x f) (fun r f => (∀ a i, ¬ (a = 143 ∧ i = 71) → f a i = g a i) ∧ ∃ f0 : Nat, Lbe m (G1 A m) f0 ∧ r = ((cN m f0 : Nat) : Int) ∧ f 143 71 = (f0 : Int)) := by
        intro hl
        unfold XX12_single_p84 XX12_single_p96
        rw [inb_pos (by omega), nm_eq, hm_eq, chk_pos (by omega), Int.toNat_natCast, c1 191 x (by omega), hC x hx]
        refine ih4 _ _ _ _ (by omega) ⟨rfl, by omega, fun a i hh => by rw [wq_ne hh]; exact c1 a i hh, Or.inr ⟨x, ⟨by omega, hx⟩, hg, rfl, wr_at, fun f' h1 h2 h3 => ?_⟩⟩
        by_cases qf : f' = x
        · rw [qf]; exact Or.inr ⟨rfl, Nat.le_refl _⟩
        · exact Or.inl (hl f' (by omega) h2 h3)
      rcases c2 with ⟨rfl, c2⟩ | ⟨f0, c3, c4, c5, c6, c7⟩
      · rw [if_pos rfl]
        exact p84 (fun f' h1 _ h3 => absurd h3 (c2 f' (by omega)))
      · rw [if_neg (by omega), inb_pos (by omega), Int.toNat_natCast, c1 191 x (by omega), hC x hx]
        by_cases q6 : l2 ≤ ((cN m x : Nat) : Int)
        · rw [if_pos q6]
          unfold XX12_single_p96
          rw [chk_pos (by omega)]
          refine ih4 _ _ _ _ (by omega) ⟨rfl, by omega, c1, Or.inr ⟨f0, ⟨by omega, c3.2⟩, c4, c5, c6, fun f' h1 h2 h3 => ?_⟩⟩
          by_cases qf : f' = x
          · subst qf
            by_cases t : cN m f0 < cN m f'
            · exact Or.inl t
            · exact Or.inr ⟨by omega, by omega⟩
          · exact c7 f' (by omega) h2 h3
        · rw [if_neg q6]
          exact p84 (fun f' h1 h2 h3 => by have := c7 f' (by omega) h2 h3; omega)
    · rw [if_pos rfl]
      unfold XX12_single_p96
      rw [chk_pos (by omega)]
      refine ih4 _ _ _ _ (by omega) ⟨rfl, by omega, c1, ?_⟩
      rcases c2 with ⟨t, c2⟩ | ⟨f0, c3, c4, c5, c6, c7⟩
      · refine Or.inl ⟨t, fun f' hf => ?_⟩
        by_cases qf : f' = x
        · rw [qf]; exact d2
        · exact c2 f' (by omega)
      · refine Or.inr ⟨f0, ⟨by omega, c3.2⟩, c4, c5, c6, fun f' h1 h2 h3 => ?_⟩
        by_cases qf : f' = x
        · rw [qf] at h3; exact absurd h3 d2
        · exact c7 f' (by omega) h2 h3
  rw [if_neg q5]
  obtain ⟨b1, b2⟩ := bt_eq (f := x) (p := p) (by omega) (by omega)
  rcases d2 with ⟨rfl, d2⟩ | ⟨rfl, d2⟩
  · rw [if_neg n10, inb_pos (by omega), Int.toNat_natCast, b1, c1 194 p (by omega)]
    have hb := abit1 (g 194 p) (k := ((bt x p : Nat) : Int)) (by omega) (by omega)
    rw [Int.toNat_natCast, hA _ p (by omega) (by omega)] at hb
    by_cases qa : A (bt x p) p
    · rw [if_pos (hb.2 qa)]
      unfold XX12_single_p56
      rw [chk_pos (by omega)]
      refine ih18 _ _ _ _ _ _ (by omega) ⟨rfl, rfl, rfl, rfl, by omega, by omega, Or.inl ⟨rfl, fun p' hp' => ?_⟩⟩
      by_cases qp : p' = p
      · rw [qp]; exact qa
      · exact d2 p' (by omega)
    · rw [if_neg (fun t => qa (hb.1 t))]
      unfold XX12_single_p55 XX12_single_p56
      rw [chk_pos (by omega)]
      exact ih18 _ _ _ _ _ _ (by omega) ⟨rfl, rfl, rfl, rfl, by omega, by omega, Or.inr ⟨rfl, fun t => qa (t p (by omega))⟩⟩
  · rw [if_pos rfl]
    unfold XX12_single_p55 XX12_single_p56
    rw [chk_pos (by omega)]
    exact ih18 _ _ _ _ _ _ (by omega) ⟨rfl, rfl, rfl, rfl, by omega, by omega, Or.inr ⟨rfl, d2⟩⟩
theorem G2_small {A : Nat → Nat → Prop} {m x y : Nat} (hm : m < 4) (h : G2 A m x y) : ∃ z, z ≤ onN m ∧ G2 A m x z := by
  obtain ⟨z, e1, e2⟩ := bits_ex (2 ^ m) (fun p => y.testBit p)
  refine ⟨z, le_on hm e1, fun p hp => ?_⟩
  have : bt z p = bt y p := by unfold bt; rw [e2 p hp]
  rw [this]; exact h p hp
theorem both_ok {g : Hp} {m : Nat} {A : Nat → Nat → Prop} (hm : m < 4) (hC : Cok m g) (hA : ∀ q p, q < 4 → p < 2 ^ m → (ti (g 194 p) q = true ↔ A q p)) (hok : ∀ p, p < 2 ^ m → ∃ q, q < 4 ∧ A q p) : En (XX12_both m g) (fun r f => (∀ a i, ¬ (a = 143 ∧ 71 ≤ i ∧ i ≤ 72) → f a i = g a i) ∧ ∃ f0 g0 : Nat, Bg2 A m f0 g0 ∧ r = ((cN m f0 + cN m g0 : Nat) : Int) ∧ f 143 71 = (f0 : Int) ∧ f 143 72 = (g0 : Int)) := by
  obtain ⟨_, _, h255, h8, _, _⟩ := on_eq m hm
  unfold XX12_both XX12_both_L4
  refine En_lup3 (fun _ _ l3 _ => (300 - l3).toNat) (fun l1 l2 l3 f => (m : Int) = l1 ∧ 0 ≤ l3 ∧ (∀ a i, ¬ (a = 143 ∧ 71 ≤ i ∧ i ≤ 72) → f a i = g a i) ∧ ((l2 = -1 ∧ ∀ f' g' : Nat, (f' : Int) < l3 → g' ≤ onN m → ¬ G2 A m f' g') ∨ ∃ f0 g0 : Nat, ((f0 : Int) < l3 ∧ f0 ≤ onN m ∧ g0 ≤ onN m) ∧ G2 A m f0 g0 ∧ l2 = ((cN m f0 + cN m g0 : Nat) : Int) ∧ (f 143 71 = (f0 : Int) ∧ f 143 72 = (g0 : Int)) ∧ ∀ f' g' : Nat, (f' : Int) < l3 → f' ≤ onN m → g' ≤ onN m → G2 A m f' g' → cN m f0 + cN m g0 < cN m f' + cN m g' ∨ (cN m f0 + cN m g0 = cN m f' + cN m g' ∧ (f0 < f' ∨ (f0 = f' ∧ g0 ≤ g'))))) ?_ FU _ _ _ _ (by unfold FU; omega) ⟨rfl, by omega, fun _ _ _ => rfl, Or.inl ⟨rfl, fun f' g' hf => by omega⟩⟩
  rintro self4 l1 l2 l3 f ih4 ⟨rfl, c0, c1, c2⟩
  obtain ⟨x, rfl⟩ := Int.eq_ofNat_of_zero_le c0
  unfold XX12_both_b4
  rw [functions_eq hm, cal_eq]
  by_cases q : (onN m : Int) + 1 ≤ x
  · rw [if_pos q]
    rcases c2 with ⟨_, c2⟩ | ⟨f0, g0, c3, c4, c5, c6, c7⟩
    · exfalso
      let Q : Nat → Nat := fun p => Classical.epsilon (fun q => q < 4 ∧ A q p)
      have hQ : ∀ p, p < 2 ^ m → Q p < 4 ∧ A (Q p) p := fun p hp => Classical.epsilon_spec (p := fun q => q < 4 ∧ A q p) (hok p hp)
      obtain ⟨f, f1, f2⟩ := bits_ex (2 ^ m) (fun p => decide (Q p % 2 = 1))
      obtain ⟨g', g1, g2⟩ := bits_ex (2 ^ m) (fun p => decide (Q p / 2 = 1))
      refine c2 f g' (by have := le_on hm f1; omega) (le_on hm g1) (fun p hp => ?_)
      obtain ⟨q1, q2⟩ := hQ p hp
      have e : bt f p + 2 * bt g' p = Q p := by
        unfold bt
        rw [f2 p hp, g2 p hp]
        simp only [decide_eq_true_eq]
        split <;> split <;> omega
      rw [e]; exact q2
    · exact En_some ⟨c1, f0, g0, ⟨c3.2.1, c3.2.2, c4, fun f' g' h1 h2 h3 => c7 f' g' (by omega) h1 h2 h3⟩, c5, c6⟩
  rw [if_neg q]
  have hx : x ≤ onN m := by omega
  unfold XX12_both_L15
  refine En_lup4 (fun _ _ _ l4 _ => (300 - l4).toNat) (fun l1 l2 l3 l4 f => (m : Int) = l1 ∧ (x : Int) = l3 ∧ 0 ≤ l4 ∧ (∀ a i, ¬ (a = 143 ∧ 71 ≤ i ∧ i ≤ 72) → f a i = g a i) ∧ ((l2 = -1 ∧ ∀ f' g' : Nat, (f' < x ∨ (f' = x ∧ (g' : Int) < l4)) → g' ≤ onN m → ¬ G2 A m f' g') ∨ ∃ f0 g0 : Nat, ((f0 < x ∨ (f0 = x ∧ (g0 : Int) < l4)) ∧ f0 ≤ onN m ∧ g0 ≤ onN m) ∧ G2 A m f0 g0 ∧ l2 = ((cN m f0 + cN m g0 : Nat) : Int) ∧ (f 143 71 = (f0 : Int) ∧ f 143 72 = (g0 : Int)) ∧ ∀ f' g' : Nat, (f' < x ∨ (f' = x ∧ (g' : Int) < l4)) → f' ≤ onN m → g' ≤ onN m → G2 A m f' g' → cN m f0 + cN m g0 < cN m f' + cN m g' ∨ (cN m f0 + cN m g0 = cN m f' + cN m g' ∧ (f0 < f' ∨ (f0 = f' ∧ g0 ≤ g'))))) ?_ FU _ _ _ _ _ (by unfold FU; omega) ⟨rfl, rfl, by omega, c1, ?_⟩
  rotate_left
  · rcases c2 with ⟨t, c2⟩ | ⟨f0, g0, c3, c4, c5, c6, c7⟩
    · exact Or.inl ⟨t, fun f' g' h1 h2 => c2 f' g' (by omega) h2⟩
    · exact Or.inr ⟨f0, g0, ⟨by omega, c3.2⟩, c4, c5, c6, fun f' g' h1 h2 h3 h4 => c7 f' g' (by omega) h2 h3 h4⟩
  clear c1 c2 f
  rintro self15 l1 l2 l3 l4 f ih15 ⟨rfl, rfl, c0, c1, c2⟩
  obtain ⟨y, rfl⟩ := Int.eq_ofNat_of_zero_le c0
  unfold XX12_both_b15
  rw [functions_eq hm, cal_eq]
  by_cases q4 : (onN m : Int) + 1 ≤ y
  · rw [if_pos q4, chk_pos (by omega)]
    refine ih4 _ _ _ _ (by omega) ⟨rfl, by omega, c1, ?_⟩
    rcases c2 with ⟨t, c2⟩ | ⟨f0, g0, c3, c4, c5, c6, c7⟩
    · exact Or.inl ⟨t, fun f' g' h1 h2 => c2 f' g' (by omega) h2⟩
    · exact Or.inr ⟨f0, g0, ⟨by omega, c3.2⟩, c4, c5, c6, fun f' g' h1 h2 h3 h4 => c7 f' g' (by omega) h2 h3 h4⟩
  rw [if_neg q4]
  have hy : y ≤ onN m := by omega
  have cx := c_le4 hm hx
  have cy := c_le4 hm hy
  -- what is tried
  have skip : (G2 A m x y → (0 ≤ l2 ∧ l2 ≤ ((cN m x + cN m y : Nat) : Int))) → En (XX12_both_p144 self4 self15 m l2 x y f) (fun r f => (∀ a i, ¬ (a = 143 ∧ 71 ≤ i ∧ i ≤ 72) → f a i = g a i) ∧ ∃ f0 g0 : Nat, Bg2 A m f0 g0 ∧ r = ((cN m f0 + cN m g0 : Nat) : Int) ∧ f 143 71 = (f0 : Int) ∧ f 143 72 = (g0 : Int)) := by
    intro hs
    unfold XX12_both_p144
    rw [chk_pos (by omega)]
    refine ih15 _ _ _ _ _ (by omega) ⟨rfl, rfl, by omega, c1, ?_⟩
    rcases c2 with ⟨t, c2⟩ | ⟨f0, g0, c3, c4, c5, c6, c7⟩
    · refine Or.inl ⟨t, fun f' g' h1 h2 h3 => ?_⟩
      by_cases qf : f' = x ∧ g' = y
      · obtain ⟨rfl, rfl⟩ := qf
        have := hs h3; omega
      · exact c2 f' g' (by omega) h2 h3
    · refine Or.inr ⟨f0, g0, ⟨by omega, c3.2⟩, c4, c5, c6, fun f' g' h1 h2 h3 h4 => ?_⟩
      by_cases qf : f' = x ∧ g' = y
      · obtain ⟨rfl, rfl⟩ := qf
        have := (hs h4).2
        by_cases t : cN m f0 + cN m g0 < cN m f' + cN m g'
        · exact Or.inl t
        · exact Or.inr ⟨by omega, by omega⟩
      · exact c7 f' g' (by omega) h2 h3 h4
  have inner : ∀ s0 : Int, ((s0 = 1 ∧ (l2 = -1 ∨ ((cN m x + cN m y : Nat) : Int) < l2)) ∨ (s0 = 0 ∧ 0 ≤ l2 ∧ l2 ≤ ((cN m x + cN m y : Nat) : Int))) → En (XX12_both_L57 self4 self15 m l2 x y s0 0 f) (fun r f => (∀ a i, ¬ (a = 143 ∧ 71 ≤ i ∧ i ≤ 72) → f a i = g a i) ∧ ∃ f0 g0 : Nat, Bg2 A m f0 g0 ∧ r = ((cN m f0 + cN m g0 : Nat) : Int) ∧ f 143 71 = (f0 : Int) ∧ f 143 72 = (g0 : Int)) := by
    intro s0 hs0
    unfold XX12_both_L57
    refine En_lup6 (fun _ _ _ _ _ l6 _ => (9 - l6).toNat) (fun l1 l2' l3 l4 l5 l6 f2 => (m : Int) = l1 ∧ l2 = l2' ∧ (x : Int) = l3 ∧ (y : Int) = l4 ∧ f = f2 ∧ 0 ≤ l6 ∧ l6 ≤ ((2 ^ m : Nat) : Int) ∧ ((l5 = 1 ∧ (l2 = -1 ∨ ((cN m x + cN m y : Nat) : Int) < l2) ∧ ∀ p : Nat, (p : Int) < l6 → A (bt x p + 2 * bt y p) p) ∨ (l5 = 0 ∧ (G2 A m x y → (0 ≤ l2 ∧ l2 ≤ ((cN m x + cN m y : Nat) : Int)))))) ?_ FU _ _ _ _ _ _ _ (by unfold FU; omega) ⟨rfl, rfl, rfl, rfl, rfl, by omega, Int.natCast_nonneg _, ?_⟩
    rotate_left
    · rcases hs0 with ⟨t1, t2⟩ | ⟨t1, t2⟩
      · exact Or.inl ⟨t1, t2, fun p hp => by omega⟩
      · exact Or.inr ⟨t1, fun _ => t2⟩
    clear hs0
    rintro self57 l1 l2' l3 l4 l5 l6 f2 ih57 ⟨rfl, rfl, rfl, rfl, rfl, d0, d1, d2⟩
    obtain ⟨p, rfl⟩ := Int.eq_ofNat_of_zero_le d0
    have fin : (p : Int) = ((2 ^ m : Nat) : Int) ∨ l5 = 0 → En (XX12_both_p113 self4 self15 m l2 x y l5 f) (fun r f => (∀ a i, ¬ (a = 143 ∧ 71 ≤ i ∧ i ≤ 72) → f a i = g a i) ∧ ∃ f0 g0 : Nat, Bg2 A m f0 g0 ∧ r = ((cN m f0 + cN m g0 : Nat) : Int) ∧ f 143 71 = (f0 : Int) ∧ f 143 72 = (g0 : Int)) := by
      intro hf
      unfold XX12_both_p113
      rcases d2 with ⟨rfl, d2, d3⟩ | ⟨rfl, d2⟩
      · have hg : G2 A m x y := fun p' hp' => d3 p' (by omega)
        rw [if_neg n10, inb_pos (by omega), inb_pos (by omega), Int.toNat_natCast, Int.toNat_natCast, c1 191 x (by omega), c1 191 y (by omega), hC x hx, hC y hy, chk_pos (by omega), nm_eq, hm_eq, hm_eq]
        unfold XX12_both_p144
        rw [chk_pos (by omega)]
        refine ih15 _ _ _ _ _ (by omega) ⟨rfl, rfl, by omega, fun a i hh => by rw [wq_ne (by omega), wq_ne (by omega)]; exact c1 a i hh, Or.inr ⟨x, y, ⟨by omega, hx, hy⟩, hg, by omega, ⟨by rw [wr_o (by decide), wr_at], wr_at⟩, fun f' g' h1 h2 h3 h4 => ?_⟩⟩
        by_cases qf : f' = x ∧ g' = y
        · obtain ⟨rfl, rfl⟩ := qf; exact Or.inr ⟨rfl, Or.inr ⟨rfl, Nat.le_refl _⟩⟩
        · rcases c2 with ⟨t, c2⟩ | ⟨f0, g0, c3, c4, c5, c6, c7⟩
          · exact absurd h4 (c2 f' g' (by omega) h3)
          · have := c7 f' g' (by omega) h2 h3 h4
            left; omega
      · rw [if_pos rfl]; exact skip d2
    unfold XX12_both_b57
    rw [ashl1N (k := m) (by omega)]
    by_cases q6 : ((2 ^ m : Nat) : Int) ≤ p
    · rw [if_pos q6]; exact fin (Or.inl (by omega))
    rw [if_neg q6]
    by_cases q5 : l5 = 0
    · rw [if_pos q5]; exact fin (Or.inr q5)
    rw [if_neg q5]
    obtain ⟨b1, b2⟩ := bt_eq (f := x) (p := p) (by omega) (by omega)
    obtain ⟨b3, b4⟩ := bt_eq (f := y) (p := p) (by omega) (by omega)
    rcases d2 with ⟨rfl, d2, d3⟩ | ⟨rfl, d2⟩
    · rw [inb_pos (by omega), b1, b3, chk_pos (by omega), chk_pos (by omega), Int.toNat_natCast, c1 194 p (by omega)]
      have e : ((bt x p : Nat) : Int) + 2 * ((bt y p : Nat) : Int) = ((bt x p + 2 * bt y p : Nat) : Int) := by omega
      rw [e]
      have hb := abit1 (g 194 p) (k := ((bt x p + 2 * bt y p : Nat) : Int)) (by omega) (by omega)
      rw [Int.toNat_natCast, hA _ p (by omega) (by omega)] at hb
      by_cases qa : A (bt x p + 2 * bt y p) p
      · rw [if_pos (hb.2 qa)]
        unfold XX12_both_p105
        rw [chk_pos (by omega)]
        refine ih57 _ _ _ _ _ _ _ (by omega) ⟨rfl, rfl, rfl, rfl, rfl, by omega, by omega, Or.inl ⟨rfl, d2, fun p' hp' => ?_⟩⟩
        by_cases qp : p' = p
        · rw [qp]; exact qa
        · exact d3 p' (by omega)
      · rw [if_neg (fun t => qa (hb.1 t))]
        unfold XX12_both_p105
        rw [chk_pos (by omega)]
        exact ih57 _ _ _ _ _ _ _ (by omega) ⟨rfl, rfl, rfl, rfl, rfl, by omega, by omega, Or.inr ⟨rfl, fun t => absurd (t p (by omega)) qa⟩⟩
    · exact absurd rfl q5
  by_cases q2 : l2 = -1
  · rw [if_pos q2]
    unfold XX12_both_p47 XX12_both_p52
    exact inner 1 (Or.inl ⟨rfl, Or.inl q2⟩)
  · have l2n : 0 ≤ l2 := by
      rcases c2 with ⟨t, _⟩ | ⟨f0, g0, _, _, c5, _⟩
      · exact absurd t q2
      · omega
    rw [if_neg q2, inb_pos (by omega), inb_pos (by omega), Int.toNat_natCast, Int.toNat_natCast, c1 191 x (by omega), c1 191 y (by omega), hC x hx, hC y hy, chk_pos (by omega)]
    by_cases q3 : l2 ≤ ((cN m x : Nat) : Int) + ((cN m y : Nat) : Int)
    · rw [if_pos q3]
      unfold XX12_both_p52
      exact inner 0 (Or.inr ⟨rfl, l2n, by omega⟩)
    · rw [if_neg q3]
      unfold XX12_both_p47 XX12_both_p52
      exact inner 1 (Or.inl ⟨rfl, Or.inr (by omega)⟩)
