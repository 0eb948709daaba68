theorem cst_N {m f : Nat} (hm : m < 4) (hf : f ≤ onN m) : cst m f = ((cN m f : Nat) : Int) := (c_fact m hm f (by omega)).1
theorem c_le4 {m f : Nat} (hm : m < 4) (hf : f ≤ onN m) : cN m f ≤ 4 := (c_fact m hm f (by omega)).2.1
theorem c_not {m f : Nat} (hm : m < 4) (hf : f ≤ onN m) : cN m (onN m ^^^ f) ≤ cN m f + 1 := (c_fact m hm f (by omega)).2.2.2
/-- the costs up to n are right, and the others are wanting or n -/
def Snd (m n : Nat) (C : Nat → Int) : Prop := ∀ f, f ≤ onN m → (C f = ((cN m f : Nat) : Int) ∧ cN m f ≤ n) ∨ (C f = -1 ∧ n ≤ cN m f)
/-- all costs up to n -/
def Stg (m n : Nat) (C : Nat → Int) : Prop := ∀ f, f ≤ onN m → (C f = ((cN m f : Nat) : Int) ∧ cN m f ≤ n) ∨ (C f = -1 ∧ n < cN m f)
theorem Snd_of {m n : Nat} {C : Nat → Int} (h : Stg m n C) : Snd m (n + 1) C := fun f hf => by
  rcases h f hf with t | t
  · exact Or.inl ⟨t.1, by omega⟩
  · exact Or.inr ⟨t.1, by omega⟩
/-- what has been joined -/
def JnK (m n g h k : Nat) (C : Nat → Int) : Prop := ∀ k', 1 ≤ k' → k' < k → cN m g + cN m h + 1 = n → C (opN k' (onN m) g h) ≠ -1
def JnH (m n g h : Nat) (C : Nat → Int) : Prop := ∀ h', h' < h → h' ≤ onN m → JnK m n g h' 6 C
def JnG (m n g : Nat) (C : Nat → Int) : Prop := ∀ g', g' < g → g' ≤ onN m → (cN m g' + 1 = n → C (onN m ^^^ g') ≠ -1) ∧ JnH m n g' (onN m + 1) C
def Mono (C D : Nat → Int) : Prop := ∀ f, C f ≠ -1 → D f ≠ -1
theorem JnK_mono {m n g h k : Nat} {C D : Nat → Int} (M : Mono C D) (j : JnK m n g h k C) : JnK m n g h k D := fun k' a b c => M _ (j k' a b c)
theorem JnH_mono {m n g h : Nat} {C D : Nat → Int} (M : Mono C D) (j : JnH m n g h C) : JnH m n g h D := fun h' a b => JnK_mono M (j h' a b)
theorem JnG_mono {m n g : Nat} {C D : Nat → Int} (M : Mono C D) (j : JnG m n g C) : JnG m n g D := fun g' a b => ⟨fun c => M _ ((j g' a b).1 c), JnH_mono M (j g' a b).2⟩
theorem joined_all {m n : Nat} (hm : m < 4) {C : Nat → Int} (hn : 1 ≤ n) (s : Snd m n C) (j : JnG m n (onN m + 1) C) : Stg m n C := by
  intro f hf
  rcases s f hf with t | ⟨t1, t2⟩
  · exact Or.inl t
  · refine Or.inr ⟨t1, ?_⟩
    refine Decidable.byContradiction (fun q => ?_)
    have e : cN m f = n := by omega
    rcases c_wit hm hf (by omega) with w | ⟨k, g, h, w1, w2, w3, w4, w5⟩
    · have := (j (onN m ^^^ f) (by have := not_le hm hf; omega) (not_le hm hf)).1 (by omega)
      rw [not_not] at this; exact this t1
    · have := (j g (by omega) w2).2 h (by omega) w3 k w1.1 (by omega) (by omega)
      rw [w4] at this; exact this t1
def Eqz (h g : Hp) : Prop := ∀ a i, a ≠ 191 → g a i = h a i
theorem joins_ok {m n : Nat} (hm : m < 4) (hn : 1 ≤ n ∧ n ≤ 4) {h : Hp} (s : Stg m (n - 1) (h 191)) : En (XX12_joins (onN m) n h) (fun _ g => Eqz h g ∧ Stg m n (g 191)) := by
  obtain ⟨_, _, h255, _, _, h1⟩ := on_eq m hm
  unfold XX12_joins XX12_joins_L2
  have s0 : Snd m n (h 191) := by have := Snd_of s; rw [show n - 1 + 1 = n by omega] at this; exact this
  refine En_lup3 (fun _ _ l3 _ => (256 - l3).toNat) (fun l1 l2 l3 g => (onN m : Int) = l1 ∧ (n : Int) = l2 ∧ 0 ≤ l3 ∧ l3 ≤ (onN m : Int) + 1 ∧ Eqz h g ∧ Snd m n (g 191) ∧ JnG m n l3.toNat (g 191)) ?_ FU _ _ _ _ (by unfold FU; omega) ⟨rfl, rfl, by omega, by omega, fun _ _ _ => rfl, s0, fun g' hg => absurd hg (by omega)⟩
  clear s s0
  rintro self2 l1 l2 l3 g ih2 ⟨rfl, rfl, c0, c1, c2, c3, c4⟩
  unfold XX12_joins_b2
  by_cases q : (onN m : Int) < l3
  · rw [if_pos q]
    rw [show l3.toNat = onN m + 1 by omega] at c4
    exact En_some ⟨c2, joined_all hm hn.1 c3 c4⟩
  obtain ⟨a, rfl⟩ := Int.eq_ofNat_of_zero_le c0
  rw [Int.toNat_natCast] at c4
  have ha : a ≤ onN m := by omega
  have hna := not_le hm ha
  -- the inner loops
  have inner : ∀ g : Hp, Eqz h g → Snd m n (g 191) → JnG m n a (g 191) → (cN m a + 1 = n → g 191 (onN m ^^^ a) ≠ -1) → En (XX12_joins_p40 self2 (onN m) n a g) (fun _ g => Eqz h g ∧ Stg m n (g 191)) := by
    intro g f1 f2 f3 f4
    unfold XX12_joins_p40 XX12_joins_L43
    refine En_lup4 (fun _ _ _ l4 _ => (256 - l4).toNat) (fun l1 l2 l3 l4 g => (onN m : Int) = l1 ∧ (n : Int) = l2 ∧ (a : Int) = l3 ∧ 0 ≤ l4 ∧ l4 ≤ (onN m : Int) + 1 ∧ Eqz h g ∧ Snd m n (g 191) ∧ JnG m n a (g 191) ∧ (cN m a + 1 = n → g 191 (onN m ^^^ a) ≠ -1) ∧ JnH m n a l4.toNat (g 191)) ?_ FU _ _ _ _ _ (by unfold FU; omega) ⟨rfl, rfl, rfl, by omega, by omega, f1, f2, f3, f4, fun h' hh => absurd hh (by omega)⟩
    clear f1 f2 f3 f4 c2 c3 c4 g
    rintro self43 l1 l2 l3 l4 g ih43 ⟨rfl, rfl, rfl, d0, d1, d2, d3, d4, d5, d6⟩
    unfold XX12_joins_b43
    have fin : JnH m n a (onN m + 1) (g 191) → En (XX12_joins_p159 self2 (onN m) n a g) (fun _ g => Eqz h g ∧ Stg m n (g 191)) := by
      intro hj
      unfold XX12_joins_p159
      rw [chk_pos (by omega)]
      refine ih2 _ _ _ _ (by omega) ⟨rfl, rfl, by omega, by omega, d2, d3, fun g' hg hg2 => ?_⟩
      by_cases qe : g' = a
      · subst qe; exact ⟨d5, hj⟩
      · exact d4 g' (by omega) hg2
    by_cases q4 : (onN m : Int) < l4
    · rw [if_pos q4]
      rw [show l4.toNat = onN m + 1 by omega] at d6
      exact fin d6
    rw [if_neg q4, inb_pos (by omega), Int.toNat_natCast]
    have sa := d3 a ha
    by_cases q5 : g 191 a < 0
    · rw [if_pos q5]
      exact fin (fun h' _ _ k' _ _ e => by omega)
    rw [if_neg q5, inb_pos (by omega)]
    by_cases q6 : (n : Int) ≤ g 191 a
    · rw [if_pos q6]
      exact fin (fun h' _ _ k' _ _ e => by omega)
    rw [if_neg q6]
    obtain ⟨b, rfl⟩ := Int.eq_ofNat_of_zero_le d0
    rw [Int.toNat_natCast] at d6
    have hb : b ≤ onN m := by omega
    have ca : cN m a < n := by omega
    unfold XX12_joins_L71
    refine En_lup5 (fun _ _ _ _ l5 _ => (7 - l5).toNat) (fun l1 l2 l3 l4 l5 g => (onN m : Int) = l1 ∧ (n : Int) = l2 ∧ (a : Int) = l3 ∧ (b : Int) = l4 ∧ 1 ≤ l5 ∧ l5 ≤ 6 ∧ Eqz h g ∧ Snd m n (g 191) ∧ JnG m n a (g 191) ∧ (cN m a + 1 = n → g 191 (onN m ^^^ a) ≠ -1) ∧ JnH m n a b (g 191) ∧ JnK m n a b l5.toNat (g 191)) ?_ FU _ _ _ _ _ _ (by unfold FU; omega) ⟨rfl, rfl, rfl, rfl, by omega, by omega, d2, d3, d4, d5, d6, fun k' h1 h2 => absurd h2 (by omega)⟩
    clear d2 d3 d4 d5 d6 q5 q6 sa fin g
    rintro self71 l1 l2 l3 l4 l5 g ih71 ⟨rfl, rfl, rfl, rfl, b0, b1, b2, b3, b4, b5, b6, b7⟩
    unfold XX12_joins_b71
    have fin : JnK m n a b 6 (g 191) → En (XX12_joins_p153 self2 self43 (onN m) n a b g) (fun _ g => Eqz h g ∧ Stg m n (g 191)) := by
      intro hj
      unfold XX12_joins_p153
      rw [chk_pos (by omega)]
      refine ih43 _ _ _ _ _ (by omega) ⟨rfl, rfl, rfl, by omega, by omega, b2, b3, b4, b5, fun h' hh hh2 => ?_⟩
      by_cases qe : h' = b
      · subst qe; exact hj
      · exact b6 h' (by omega) hh2
    by_cases q7 : 5 < l5
    · rw [if_pos q7]
      rw [show l5.toNat = 6 by omega] at b7
      exact fin b7
    rw [if_neg q7, inb_pos (by omega), Int.toNat_natCast, Int.toNat_natCast]
    have sa := b3 a ha
    have sb := b3 b hb
    have ea : g 191 a = ((cN m a : Nat) : Int) := by omega
    by_cases q8 : g 191 b < 0
    · rw [if_pos q8]
      exact fin (fun k' _ _ e => by omega)
    have eb : g 191 b = ((cN m b : Nat) : Int) := by omega
    rw [if_neg q8, inb_pos (by omega), inb_pos (by omega), chk_pos (by omega), chk_pos (by omega)]
    by_cases q9 : g 191 a + g 191 b = (n : Int) - 1
    · rw [if_pos q9]
      obtain ⟨k, rfl⟩ := Int.eq_ofNat_of_zero_le (show 0 ≤ l5 by omega)
      rw [Int.toNat_natCast] at b7
      have hop := op_le hm ha hb k
      have sj := b3 _ hop
      have cj := c_join hm ha hb (k := k) (by omega)
      rw [joined_eq hm (by omega) ha hb, cal_eq, inb_pos (by omega), Int.toNat_natCast]
      have go : ∀ v : Int, (g 191 (opN k (onN m) a b) = -1 → v = n) → (g 191 (opN k (onN m) a b) ≠ -1 → v = g 191 (opN k (onN m) a b)) → En (XX12_joins_p146 self2 self43 self71 (onN m) n a b k ((opN k (onN m) a b : Nat) : Int) v g) (fun _ g => Eqz h g ∧ Stg m n (g 191)) := by
        intro v v1 v2
        unfold XX12_joins_p146
        rw [inb_pos (by omega), hm_eq, chk_pos (by omega), Int.toNat_natCast]
        have vn : v ≠ -1 := by
          by_cases t : g 191 (opN k (onN m) a b) = -1
          · have := v1 t; omega
          · rw [v2 t]; exact t
        have e191 : ∀ f, wr g 191 (opN k (onN m) a b) v 191 f = if f = opN k (onN m) a b then v else g 191 f := fun f => wr_row _ _ _ _ _
        have M : Mono (g 191) (wr g 191 (opN k (onN m) a b) v 191) := fun f hf => by
          rw [e191]; split
          · exact vn
          · exact hf
        refine ih71 _ _ _ _ _ _ (by omega) ⟨rfl, rfl, rfl, rfl, by omega, by omega, fun x i hx => by rw [wr_ne hx]; exact b2 x i hx, fun f hf => ?_, JnG_mono M b4, fun t => M _ (b5 t), JnH_mono M b6, fun k' h1 h2 e => ?_⟩
        · rw [e191]
          by_cases qf : f = opN k (onN m) a b
          · rw [if_pos qf, qf]
            by_cases t : g 191 (opN k (onN m) a b) = -1
            · rw [v1 t]; refine Or.inl ⟨?_, ?_⟩ <;> omega
            · rw [v2 t]; exact sj
          · rw [if_neg qf]; exact b3 f hf
        · by_cases qk : k' = k
          · rw [qk, e191, if_pos rfl]; exact vn
          · exact M _ (b7 k' h1 (by omega) e)
      by_cases qt : g 191 (opN k (onN m) a b) = -1
      · rw [if_pos qt]; exact go n (fun _ => rfl) (fun t => absurd qt t)
      · rw [if_neg qt, inb_pos (by omega)]; exact go _ (fun t => absurd t qt) (fun _ => rfl)
    · rw [if_neg q9]
      exact fin (fun k' _ _ e => by omega)
  rw [if_neg q, inb_pos (by omega), chk_pos (by omega), Int.toNat_natCast]
  have sa := c3 a ha
  by_cases q2 : g 191 a = (n : Int) - 1
  · have exo : axor (a : Int) (onN m) = ((onN m ^^^ a : Nat) : Int) := by rw [xor_eq (by omega) (by omega), Nat.xor_comm]
    rw [if_pos q2, exo, inb_pos (by omega), Int.toNat_natCast]
    by_cases q3 : g 191 (onN m ^^^ a) = -1
    · rw [if_pos q3, inb_pos (by omega), hm_eq]
      have e191 : ∀ f, wr g 191 (onN m ^^^ a) n 191 f = if f = onN m ^^^ a then (n : Int) else g 191 f := fun f => wr_row _ _ _ _ _
      have M : Mono (g 191) (wr g 191 (onN m ^^^ a) n 191) := fun f hf => by
        rw [e191]; split
        · omega
        · exact hf
      have sn := c3 _ hna
      have cn := c_not hm ha
      refine inner _ (fun x i hx => by rw [wr_ne hx]; exact c2 x i hx) (fun f hf => ?_) (JnG_mono M c4) (fun _ => by rw [e191, if_pos rfl]; omega)
      rw [e191]
      by_cases qf : f = onN m ^^^ a
      · rw [if_pos qf, qf]; refine Or.inl ⟨?_, ?_⟩ <;> omega
      · rw [if_neg qf]; exact c3 f hf
    · rw [if_neg q3]; exact inner g c2 c3 c4 (fun _ => q3)
  · rw [if_neg q2]
    exact inner g c2 c3 c4 (fun e => by omega)
theorem lacks_ok {m : Nat} (hm : m < 4) (h : Hp) : En (XX12_lacks (onN m) h) (fun r g => g = h ∧ ((r = 0 ∧ ∀ f, f ≤ onN m → h 191 f ≠ -1) ∨ (r = 1 ∧ ∃ f, f ≤ onN m ∧ h 191 f = -1))) := by
  obtain ⟨_, _, h255, _, _, h1⟩ := on_eq m hm
  unfold XX12_lacks XX12_lacks_L4
  refine En_lup3 (fun _ _ l3 _ => (256 - l3).toNat) (fun l1 l2 l3 g => (onN m : Int) = l1 ∧ h = g ∧ 0 ≤ l3 ∧ l3 ≤ (onN m : Int) + 1 ∧ ((l2 = 0 ∧ ∀ f : Nat, (f : Int) < l3 → h 191 f ≠ -1) ∨ (l2 = 1 ∧ ∃ f, f ≤ onN m ∧ h 191 f = -1))) ?_ FU _ _ _ _ (by unfold FU; omega) ⟨rfl, rfl, by omega, by omega, Or.inl ⟨rfl, fun f hf => absurd hf (by omega)⟩⟩
  rintro self l1 l2 l3 g ih ⟨rfl, rfl, c0, c1, c2⟩
  unfold XX12_lacks_b4
  by_cases q : (onN m : Int) < l3
  · rw [if_pos q]
    rcases c2 with ⟨rfl, c2⟩ | ⟨rfl, c2⟩
    · rw [zb_0]; exact En_some ⟨rfl, Or.inl ⟨rfl, fun f hf => c2 f (by omega)⟩⟩
    · rw [zb_1]; exact En_some ⟨rfl, Or.inr ⟨rfl, c2⟩⟩
  rw [if_neg q]
  rcases c2 with ⟨rfl, c2⟩ | ⟨rfl, c2⟩
  · rw [if_pos rfl, inb_pos (by omega)]
    by_cases q2 : h 191 l3.toNat = -1
    · rw [if_pos q2]
      unfold XX12_lacks_p23 XX12_lacks_p28
      rw [chk_pos (by omega)]
      exact ih _ _ _ _ (by omega) ⟨rfl, rfl, by omega, by omega, Or.inr ⟨rfl, l3.toNat, by omega, q2⟩⟩
    · rw [if_neg q2]
      unfold XX12_lacks_p28
      rw [chk_pos (by omega)]
      refine ih _ _ _ _ (by omega) ⟨rfl, rfl, by omega, by omega, Or.inl ⟨rfl, fun f hf => ?_⟩⟩
      by_cases qf : f = l3.toNat
      · rw [qf]; exact q2
      · exact c2 f (by omega)
  · rw [if_neg n10]
    unfold XX12_lacks_p23 XX12_lacks_p28
    rw [chk_pos (by omega)]
    exact ih _ _ _ _ (by omega) ⟨rfl, rfl, by omega, by omega, Or.inr ⟨rfl, c2⟩⟩
/-- the row of costs -/
def Cok (m : Nat) (h : Hp) : Prop := ∀ f, f ≤ onN m → h 191 f = ((cN m f : Nat) : Int)
theorem reckL_ok {m : Nat} (hm : m < 4) {h : Hp} (hk : ∀ f, f ≤ onN m → h 193 (256 * m + f) = ((cN m f : Nat) : Int)) : En (XX12_reckons_p133 m (onN m) h) (fun _ g => Eqz h g ∧ Cok m g) := by
  obtain ⟨_, _, h255, _, _, h1⟩ := on_eq m hm
  unfold XX12_reckons_p133 XX12_reckons_L135
  refine En_lup3 (fun _ _ l3 _ => (256 - l3).toNat) (fun l1 l2 l3 g => (m : Int) = l1 ∧ (onN m : Int) = l2 ∧ 0 ≤ l3 ∧ l3 ≤ (onN m : Int) + 1 ∧ Eqz h g ∧ ∀ f : Nat, (f : Int) < l3 → g 191 f = ((cN m f : Nat) : Int)) ?_ FU _ _ _ _ (by unfold FU; omega) ⟨rfl, rfl, by omega, by omega, fun _ _ _ => rfl, fun f hf => absurd hf (by omega)⟩
  rintro self l1 l2 l3 g ih ⟨rfl, rfl, c0, c1, c2, c3⟩
  unfold XX12_reckons_b135
  by_cases q : (onN m : Int) < l3
  · rw [if_pos q]
    exact En_some ⟨c2, fun f hf => c3 f (by omega)⟩
  · obtain ⟨f, rfl⟩ := Int.eq_ofNat_of_zero_le c0
    rw [if_neg q, chk_pos (by omega), chk_pos (by omega), inb_pos (by omega), inb_pos (by omega), hm_eq, chk_pos (by omega), show (256 * (m : Int) + (f : Int)).toNat = 256 * m + f by omega, Int.toNat_natCast, c2 193 _ (by omega), hk f (by omega)]
    refine ih _ _ _ _ (by omega) ⟨rfl, rfl, by omega, by omega, fun x i hx => by rw [wr_ne hx]; exact c2 x i hx, fun f' hf' => ?_⟩
    rw [wr_row]
    by_cases qf : f' = f
    · rw [if_pos qf, qf]
    · rw [if_neg qf]; exact c3 f' (by omega)
/-- what reckoning changes -/
def Rck (m : Nat) (h g : Hp) : Prop := ∀ a i, ¬ (a = 191 ∨ (a = 192 ∧ i = m) ∨ (a = 193 ∧ 256 * m ≤ i ∧ i < 256 * m + 256)) → g a i = h a i
theorem reckS_ok {m : Nat} (hm : m < 4) {h h0 : Hp} (k0 : Rck m h0 h) (hz : h 192 m = 1) (s : Cok m h) : En (XX12_reckons_L104 m (onN m) 0 h) (fun _ g => Rck m h0 g ∧ g 192 m = 1 ∧ Cok m g ∧ ∀ f, f ≤ onN m → g 193 (256 * m + f) = ((cN m f : Nat) : Int)) := by
  obtain ⟨_, _, h255, _, _, h1⟩ := on_eq m hm
  unfold XX12_reckons_L104
  refine En_lup3 (fun _ _ l3 _ => (256 - l3).toNat) (fun l1 l2 l3 g => (m : Int) = l1 ∧ (onN m : Int) = l2 ∧ 0 ≤ l3 ∧ l3 ≤ (onN m : Int) + 1 ∧ (∀ a i, ¬ (a = 193 ∧ 256 * m ≤ i ∧ i < 256 * m + 256) → g a i = h a i) ∧ ∀ f : Nat, (f : Int) < l3 → g 193 (256 * m + f) = ((cN m f : Nat) : Int)) ?_ FU _ _ _ _ (by unfold FU; omega) ⟨rfl, rfl, by omega, by omega, fun _ _ _ => rfl, fun f hf => absurd hf (by omega)⟩
  rintro self l1 l2 l3 g ih ⟨rfl, rfl, c0, c1, c2, c3⟩
  unfold XX12_reckons_b104
  by_cases q : (onN m : Int) < l3
  · rw [if_pos q]
    have h193 : ∀ f, f ≤ onN m → g 193 (256 * m + f) = ((cN m f : Nat) : Int) := fun f hf => c3 f (by omega)
    refine En_mono (reckL_ok hm h193) (fun r g2 _ hr => ?_)
    obtain ⟨e, hc⟩ := hr
    exact ⟨fun a i hh => by rw [e a i (by omega), c2 a i (by omega)]; exact k0 a i hh, by rw [e 192 m (by omega), c2 192 m (by omega)]; exact hz, hc, fun f hf => by rw [e 193 _ (by omega)]; exact h193 f hf⟩
  · obtain ⟨f, rfl⟩ := Int.eq_ofNat_of_zero_le c0
    rw [if_neg q, chk_pos (by omega), chk_pos (by omega), inb_pos (by omega), inb_pos (by omega), hm_eq, chk_pos (by omega), show (256 * (m : Int) + (f : Int)).toNat = 256 * m + f by omega, Int.toNat_natCast, c2 191 _ (by omega), s f (by omega)]
    refine ih _ _ _ _ (by omega) ⟨rfl, rfl, by omega, by omega, fun x i hx => by rw [wq_ne (by omega)]; exact c2 x i hx, fun f' hf' => ?_⟩
    rw [wr_row]
    by_cases qf : f' = f
    · rw [if_pos (by omega), qf]
    · rw [if_neg (by omega)]; exact c3 f' (by omega)
