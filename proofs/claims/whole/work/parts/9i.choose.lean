/-- f is 1 where u says and 0 where v says -/
def Sat (u v f : Nat) : Prop := f &&& u = u ∧ f &&& v = 0
theorem Sat_ge {u v f : Nat} (h : Sat u v f) : u ≤ f := by have := @Nat.and_le_left f u; rw [h.1] at this; exact this
theorem Sat_bits {m u v f : Nat} (hm : m < 4) (hu : u ≤ onN m) (hv : v ≤ onN m) : Sat u v f ↔ ∀ p, p < 2 ^ m → (u.testBit p = true → f.testBit p = true) ∧ (v.testBit p = true → f.testBit p = false) := by
  constructor
  · rintro ⟨h1, h2⟩ p hp
    refine ⟨fun t => ?_, fun t => ?_⟩
    · have := congrArg (fun x => x.testBit p) h1
      simp only [Nat.testBit_and, t, Bool.and_true] at this; exact this
    · have := congrArg (fun x => x.testBit p) h2
      simp only [Nat.testBit_and, t, Bool.and_true, Nat.zero_testBit] at this; exact this
  · intro h
    refine ⟨Nat.eq_of_testBit_eq (fun c => ?_), Nat.eq_of_testBit_eq (fun c => ?_)⟩
    · rw [Nat.testBit_and]
      by_cases q : u.testBit c = true
      · rw [q, (h c (f_bit hm hu q)).1 q]; rfl
      · rw [Bool.eq_false_iff.mpr q]; simp
    · rw [Nat.testBit_and, Nat.zero_testBit]
      by_cases q : v.testBit c = true
      · rw [q, (h c (f_bit hm hv q)).2 q]; rfl
      · rw [Bool.eq_false_iff.mpr q]; simp
/-- the least function with the least cost -/
def Lbe (m : Nat) (S : Nat → Prop) (f : Nat) : Prop := f ≤ onN m ∧ S f ∧ ∀ f', f' ≤ onN m → S f' → cN m f < cN m f' ∨ (cN m f = cN m f' ∧ f ≤ f')
theorem cheapest_ok {h : Hp} {m u v : Nat} (hm : m < 4) (h5 : h 45 5 = (m : Int)) (hu : u ≤ onN m) (hv : v ≤ onN m) (huv : u &&& v = 0) : En (XX1_cheapest u v h) (fun r g => g = h ∧ ∃ f : Nat, r = (f : Int) ∧ Lbe m (Sat u v) f) := by
  obtain ⟨_, _, h255, _, _, _⟩ := on_eq m hm
  unfold XX1_cheapest XX1_cheapest_L8
  refine En_lup5 (fun _ _ _ _ l5 _ => (300 - l5).toNat) (fun l1 l2 l3 l4 l5 g => (u : Int) = l1 ∧ (v : Int) = l2 ∧ h = g ∧ (u : Int) ≤ l5 ∧ ((l4 = 5 ∧ ∀ f : Nat, (f : Int) < l5 → ¬ Sat u v f) ∨ ∃ f : Nat, l3 = (f : Int) ∧ (f ≤ onN m ∧ (f : Int) < l5) ∧ Sat u v f ∧ l4 = ((cN m f : Nat) : Int) ∧ ∀ f' : Nat, (f' : Int) < l5 → f' ≤ onN m → Sat u v f' → cN m f < cN m f' ∨ (cN m f = cN m f' ∧ f ≤ f'))) ?_ FU _ _ _ _ _ _ (by unfold FU; omega) ⟨rfl, rfl, rfl, by omega, Or.inl ⟨rfl, fun f hf t => by have := Sat_ge t; omega⟩⟩
  rintro self l1 l2 l3 l4 l5 g ih ⟨rfl, rfl, rfl, c0, c1⟩
  obtain ⟨x, rfl⟩ := Int.eq_ofNat_of_zero_le (show 0 ≤ l5 by omega)
  unfold XX1_cheapest_b8
  rw [h5, ones_eq hm, cal_eq]
  by_cases q : (onN m : Int) < x
  · rw [if_pos q]
    rcases c1 with ⟨_, c1⟩ | ⟨f, rfl, c2, c3, c4, c5⟩
    · exact absurd ⟨Nat.and_self u, huv⟩ (c1 u (by omega))
    · exact En_some ⟨rfl, f, rfl, c2.1, c3, fun f' hf' => c5 f' (by omega) hf'⟩
  have hx : x ≤ onN m := by omega
  rw [if_neg q, aand_nat (by omega) (by omega), aand_nat (by omega) (by omega), Int.toNat_natCast, Int.toNat_natCast, Int.toNat_natCast]
  have skip : ¬ Sat u v x → En (XX1_cheapest_p60 self u v l3 l4 x h) (fun r g => g = h ∧ ∃ f : Nat, r = (f : Int) ∧ Lbe m (Sat u v) f) := by
    intro hn
    unfold XX1_cheapest_p60
    rw [chk_pos (by omega)]
    refine ih _ _ _ _ _ _ (by omega) ⟨rfl, rfl, rfl, by omega, ?_⟩
    rcases c1 with ⟨t, c1⟩ | ⟨f, t, c2, c3, c4, c5⟩
    · refine Or.inl ⟨t, fun f hf => ?_⟩
      by_cases qf : f = x
      · rw [qf]; exact hn
      · exact c1 f (by omega)
    · refine Or.inr ⟨f, t, ⟨c2.1, by omega⟩, c3, c4, fun f' hf' h1 h2 => ?_⟩
      by_cases qf : f' = x
      · rw [qf] at h2; exact absurd h2 hn
      · exact c5 f' (by omega) h1 h2
  by_cases q1 : ((x &&& u : Nat) : Int) = u
  · rw [if_pos q1]
    by_cases q2 : ((x &&& v : Nat) : Int) = 0
    · have hS : Sat u v x := ⟨by omega, by omega⟩
      have cx := c_le4 hm hx
      rw [if_pos q2, h5, price_eq hm hx, cal_eq]
      by_cases q3 : l4 ≤ ((cN m x : Nat) : Int)
      · rw [if_pos q3]
        unfold XX1_cheapest_p60
        rw [chk_pos (by omega)]
        refine ih _ _ _ _ _ _ (by omega) ⟨rfl, rfl, rfl, by omega, ?_⟩
        rcases c1 with ⟨t, c1⟩ | ⟨f, t, c2, c3, c4, c5⟩
        · omega
        · refine Or.inr ⟨f, t, ⟨c2.1, by omega⟩, c3, c4, fun f' hf' h1 h2 => ?_⟩
          by_cases qf : f' = x
          · subst qf
            by_cases t : cN m f < cN m f'
            · exact Or.inl t
            · exact Or.inr ⟨by omega, by omega⟩
          · exact c5 f' (by omega) h1 h2
      · rw [if_neg q3]
        unfold XX1_cheapest_p60
        rw [chk_pos (by omega)]
        refine ih _ _ _ _ _ _ (by omega) ⟨rfl, rfl, rfl, by omega, Or.inr ⟨x, rfl, ⟨hx, by omega⟩, hS, rfl, fun f' hf' h1 h2 => ?_⟩⟩
        by_cases qf : f' = x
        · rw [qf]; exact Or.inr ⟨rfl, Nat.le_refl _⟩
        · rcases c1 with ⟨t, c1⟩ | ⟨f, t, c2, c3, c4, c5⟩
          · exact absurd h2 (c1 f' (by omega))
          · have := c5 f' (by omega) h1 h2
            left; omega
    · rw [if_neg q2]; exact skip (fun t => q2 (by rw [t.2]; rfl))
  · rw [if_neg q1]; exact skip (fun t => q1 (by rw [t.1]))
theorem mskN {m : Nat} (hm : m < 4) {x : Int} (hx : inI x) (h : ∀ c, 2 ^ m ≤ c → c < 32 → ti x c = false) : ∃ u : Nat, x = (u : Int) ∧ u ≤ onN m ∧ ∀ p, p < 32 → u.testBit p = ti x p := by
  have h8 := (on_eq m hm).2.2.2.1
  obtain ⟨h0, h1⟩ := ti_lt hx (n := 2 ^ m) (by omega) h
  obtain ⟨u, rfl⟩ := Int.eq_ofNat_of_zero_le h0
  have hlt : u < 2 ^ (2 ^ m) := by
    have : ((2 ^ (2 ^ m) : Nat) : Int) = (2 : Int) ^ (2 ^ m) := by rw [Int.natCast_pow]; rfl
    omega
  have h255 := (on_eq m hm).2.2.1
  have hle := le_on hm hlt
  exact ⟨u, rfl, hle, fun p _ => by rw [ti_nat (by omega) (by omega), Int.toNat_natCast]⟩
theorem bits_ex (w : Nat) (B : Nat → Bool) : ∃ f, f < 2 ^ w ∧ ∀ p, p < w → f.testBit p = B p := by
  induction w with
  | zero => exact ⟨0, Nat.one_pos, fun p hp => absurd hp (Nat.not_lt_zero _)⟩
  | succ w ih =>
    obtain ⟨f, h1, h2⟩ := ih
    by_cases q : B w = true
    · refine ⟨f + 2 ^ w, by rw [Nat.pow_succ]; omega, fun p hp => ?_⟩
      rw [add_bit h1]
      by_cases t : p = w
      · subst t; rw [q]; simp
      · rw [h2 p (by omega)]; simp [t]
    · refine ⟨f, by rw [Nat.pow_succ]; omega, fun p hp => ?_⟩
      by_cases t : p = w
      · subst t; rw [bit_lt h1 (Nat.le_refl _), Bool.eq_false_iff.mpr q]
      · exact h2 p (by omega)
def bt (f p : Nat) : Nat := if f.testBit p = true then 1 else 0
/-- functions that make allowed assignments -/
def Gn1 (h : Hp) (m : Nat) (f : Nat) : Prop := ∀ p, p < 2 ^ m → AL h m (bt f p) p
def Gd2 (h : Hp) (m : Nat) (f g : Nat) : Prop := ∀ p, p < 2 ^ m → AL h m (bt f p + 2 * bt g p) p
def Be2 (h : Hp) (m f g : Nat) : Prop := f ≤ onN m ∧ g ≤ onN m ∧ Gd2 h m f g ∧ ∀ f' g', f' ≤ onN m → g' ≤ onN m → Gd2 h m f' g' → cN m f + cN m g < cN m f' + cN m g' ∨ (cN m f + cN m g = cN m f' + cN m g' ∧ (f < f' ∨ (f = f' ∧ g ≤ g')))
theorem ti_on {m : Nat} (hm : m < 4) {c : Nat} (hc : c < 32) : ti (onN m : Int) c = decide (c < 2 ^ m) := by
  have h255 := (on_eq m hm).2.2.1
  rw [ti_nat (by omega) (by omega), Int.toNat_natCast, on_bit m hm c hc]
/-- the finder's answer -/
def Fdr (h : Hp) (m n : Nat) (r : Int) (F : Nat → Int) : Prop := (n = 1 ∧ ∃ f : Nat, Lbe m (Gn1 h m) f ∧ F 0 = (f : Int) ∧ r = ((cN m f : Nat) : Int)) ∨ (n = 2 ∧ ∃ f g : Nat, Be2 h m f g ∧ F 0 = (f : Int) ∧ F 1 = (g : Int) ∧ r = ((cN m f + cN m g : Nat) : Int))
theorem choose_ok {h : Hp} {m n : Nat} (hm : m < 4) (hn : 1 ≤ n ∧ n ≤ 2) (h5 : h 45 5 = (m : Int)) (h3 : h 45 3 = (n : Int)) (hok : ∀ p, p < 2 ^ m → ∃ q, q < 2 ^ n ∧ AL h m q p) (hM : Msk h m n (h 49)) : En (XX1_choose h) (fun _ g => (∀ a i, ¬ (a = 52 ∨ (a = 45 ∧ i = 11)) → g a i = h a i) ∧ Fdr h m n (g 45 11) (g 52)) := by
  obtain ⟨_, _, h255, h8, _, _⟩ := on_eq m hm
  unfold XX1_choose
  rw [h5, ones_eq hm, cal_eq, h3]
  rcases (by omega : n = 1 ∨ n = 2) with rfl | rfl
  · have hA : ∀ q p, q < 2 → p < 2 ^ m → (ti (h 49 q) p = true ↔ AL h m q p) := fun q p hq hp => by
      rw [(hM q hq).2 p (by omega)]; exact ⟨fun t => t.2, fun t => ⟨hp, t⟩⟩
    have mk : ∀ q, ∃ u : Nat, aand (onN m : Int) (axor (h 49 q) (-1)) = (u : Int) ∧ u ≤ onN m ∧ ∀ p, p < 32 → u.testBit p = (decide (p < 2 ^ m) && !ti (h 49 q) p) := fun q => by
      have hb : ∀ p, p < 32 → ti (aand (onN m : Int) (axor (h 49 q) (-1))) p = (decide (p < 2 ^ m) && !ti (h 49 q) p) := fun p hp => by rw [ti_aand, ti_on hm hp, ti_not _ hp]
      obtain ⟨u, e1, e2, e3⟩ := mskN hm (aand_in (onN m : Int) (axor (h 49 q) (-1))) (fun c h1 h2 => by rw [hb c h2, decide_eq_false (by omega), Bool.false_and])
      exact ⟨u, e1, e2, fun p hp => by rw [e3 p hp, hb p hp]⟩
    obtain ⟨u, u1, u2, u3⟩ := mk 0
    obtain ⟨v, v1, v2, v3⟩ := mk 1
    have huv : u &&& v = 0 := bits0 (fun c => by
      rw [Nat.testBit_and]
      by_cases q : c < 2 ^ m
      · rw [u3 c (by omega), v3 c (by omega), decide_eq_true q, Bool.true_and, Bool.true_and]
        obtain ⟨qq, h1, h2⟩ := hok c q
        have := (hA qq c h1 q).2 h2
        rcases (by omega : qq = 0 ∨ qq = 1) with rfl | rfl
        · rw [this]; simp
        · rw [this]; simp
      · rw [bit_lt (f_lt hm u2) (by omega), Bool.false_and])
    have hS : ∀ f, f ≤ onN m → (Sat u v f ↔ Gn1 h m f) := fun f hf => by
      rw [Sat_bits hm u2 v2]
      refine forall_congr' (fun p => forall_congr' (fun hp => ?_))
      rw [u3 p (by omega), v3 p (by omega), decide_eq_true hp, Bool.true_and, Bool.true_and]
      unfold bt
      by_cases q : f.testBit p = true
      · rw [if_pos q, ← hA 1 p (by decide) hp, q]; simp
      · rw [if_neg q, ← hA 0 p (by decide) hp, Bool.eq_false_iff.mpr q]; simp
    rw [if_pos (by decide), inb_pos (by decide), inb_pos (by decide), show (0 : Int).toNat = 0 from rfl, show (1 : Int).toNat = 1 from rfl, u1, v1]
    obtain ⟨r, g, e, rfl, f, rfl, f1, f2, f3⟩ := cheapest_ok hm h5 u2 v2 huv
    rw [e, cal_eq, inb_pos (by decide), hm_eq, inb_pos (by decide), hm_eq, inb_pos (by decide)]
    rw [wq_ne (by omega), wq_ne (by omega), h5, wr_o (by decide), wr_at, price_eq hm f1, cal_eq, hm_eq]
    refine En_some ⟨fun a i hh => by rw [wq_ne (by omega), wq_ne (by omega), wq_ne (by omega)], Or.inl ⟨rfl, f, ⟨f1, (hS f f1).1 f2, fun f' h1 h2 => f3 f' h1 ((hS f' h1).2 h2)⟩, ?_, wr_at⟩⟩
    rw [wq_ne (by omega), wr_o (by decide), wr_at]
  · have hA : ∀ q p, q < 4 → p < 2 ^ m → (ti (h 49 q) p = true ↔ AL h m q p) := fun q p hq hp => by
      rw [(hM q hq).2 p (by omega)]; exact ⟨fun t => t.2, fun t => ⟨hp, t⟩⟩
    rw [if_neg (by decide), hm_eq]
    unfold XX1_choose_L79
    refine En_lup2 (fun _ l2 _ => (300 - l2).toNat) (fun l1 l2 g => (onN m : Int) = l1 ∧ 0 ≤ l2 ∧ (∀ a i, ¬ (a = 52 ∨ (a = 45 ∧ i = 11)) → g a i = h a i) ∧ ((g 45 11 = 9 ∧ ∀ f' g' : Nat, (f' : Int) < l2 → ¬ Gd2 h m f' g') ∨ ∃ f g' : Nat, (f : Int) < l2 ∧ f ≤ onN m ∧ g' ≤ onN m ∧ Gd2 h m f g' ∧ g 52 0 = (f : Int) ∧ g 52 1 = (g' : Int) ∧ g 45 11 = ((cN m f + cN m g' : Nat) : Int) ∧ ∀ f2 g2 : Nat, (f2 : Int) < l2 → f2 ≤ onN m → g2 ≤ onN m → Gd2 h m f2 g2 → cN m f + cN m g' < cN m f2 + cN m g2 ∨ (cN m f + cN m g' = cN m f2 + cN m g2 ∧ (f < f2 ∨ (f = f2 ∧ g' ≤ g2))))) ?_ FU _ _ _ (by unfold FU; omega) ⟨rfl, by omega, fun a i hh => wq_ne (by omega), Or.inl ⟨wr_at, fun f' g' hf => by omega⟩⟩
    rintro self l1 l2 g ih ⟨rfl, c0, c1, c2⟩
    obtain ⟨x, rfl⟩ := Int.eq_ofNat_of_zero_le c0
    unfold XX1_choose_b79
    by_cases q : (onN m : Int) < x
    · rw [if_pos q]
      rcases c2 with ⟨_, c2⟩ | ⟨f, g', c3, c4, c5, c6, c7, c8, c9, c10⟩
      · exfalso
        have hch : ∀ p, p < 2 ^ m → ∃ q, q < 4 ∧ AL h m q p := hok
        let Q : Nat → Nat := fun p => Classical.epsilon (fun q => q < 4 ∧ AL h m q p)
        have hQ : ∀ p, p < 2 ^ m → Q p < 4 ∧ AL h m (Q p) p := fun p hp => Classical.epsilon_spec (p := fun q => q < 4 ∧ AL h m q p) (hch p hp)
        obtain ⟨f, f1, f2⟩ := bits_ex (2 ^ m) (fun p => decide (Q p % 2 = 1))
        obtain ⟨g', g1, g2⟩ := bits_ex (2 ^ m) (fun p => decide (Q p / 2 = 1))
        refine c2 f g' (by have := le_on hm f1; omega) (fun p hp => ?_)
        obtain ⟨q1, q2⟩ := hQ p hp
        have e : bt f p + 2 * bt g' p = Q p := by
          unfold bt
          rw [f2 p hp, g2 p hp]
          simp only [decide_eq_true_eq]
          split <;> split <;> omega
        rw [e]; exact q2
      · exact En_some ⟨c1, Or.inr ⟨rfl, f, g', ⟨c4, c5, c6, fun f2 g2 h1 h2 h3 => c10 f2 g2 (by omega) h1 h2 h3⟩, c7, c8, c9⟩⟩
    have hx : x ≤ onN m := by omega
    have cx := c_le4 hm hx
    have mk : ∀ q0 q1 : Nat, q0 < 4 → q1 < 4 → ∃ u : Nat, aand (onN m : Int) (aor (aand (axor (x : Int) (-1)) (axor (h 49 q0) (-1))) (aand (x : Int) (axor (h 49 q1) (-1)))) = (u : Int) ∧ u ≤ onN m ∧ ∀ p, p < 2 ^ m → (u.testBit p = true ↔ ¬ AL h m (if x.testBit p = true then q1 else q0) p) := fun q0 q1 h0 h1 => by
      have hb : ∀ p, p < 32 → ti (aand (onN m : Int) (aor (aand (axor (x : Int) (-1)) (axor (h 49 q0) (-1))) (aand (x : Int) (axor (h 49 q1) (-1))))) p = (decide (p < 2 ^ m) && ((!x.testBit p && !ti (h 49 q0) p) || (x.testBit p && !ti (h 49 q1) p))) := fun p hp => by
        rw [ti_aand, ti_on hm hp, ti_aor, ti_aand, ti_aand, ti_not _ hp, ti_not _ hp, ti_not _ hp, ti_nat (x := (x : Int)) (by omega) (by omega), Int.toNat_natCast]
      obtain ⟨u, e1, e2, e3⟩ := mskN hm (aand_in (onN m : Int) (aor (aand (axor (x : Int) (-1)) (axor (h 49 q0) (-1))) (aand (x : Int) (axor (h 49 q1) (-1))))) (fun c h1 h2 => by rw [hb c h2, decide_eq_false (by omega), Bool.false_and])
      refine ⟨u, e1, e2, fun p hp => ?_⟩
      rw [e3 p (by omega), hb p (by omega), decide_eq_true hp, Bool.true_and]
      by_cases q : x.testBit p = true
      · rw [if_pos q, q, ← hA q1 p h1 hp]; simp
      · rw [if_neg q, Bool.eq_false_iff.mpr q, ← hA q0 p h0 hp]; simp
    obtain ⟨u, u1, u2, u3⟩ := mk 0 1 (by decide) (by decide)
    obtain ⟨v, v1, v2, v3⟩ := mk 2 3 (by decide) (by decide)
    have hS : ∀ y, y ≤ onN m → (Sat u v y ↔ Gd2 h m x y) := fun y hy => by
      rw [Sat_bits hm u2 v2]
      refine forall_congr' (fun p => forall_congr' (fun hp => ?_))
      rw [u3 p hp, v3 p hp]
      unfold bt
      by_cases q : x.testBit p = true
      · rw [if_pos q, if_pos q]
        by_cases t : y.testBit p = true
        · rw [if_pos t, t]; simp
        · rw [if_neg t, Bool.eq_false_iff.mpr t]; simp
      · rw [if_neg q, if_neg q]
        by_cases t : y.testBit p = true
        · rw [if_pos t, t]; simp
        · rw [if_neg t, Bool.eq_false_iff.mpr t]; simp
    rw [if_neg q, c1 45 5 (by omega), h5, price_eq hm hx, cal_eq, inb_pos (by decide), inb_pos (by decide), nm_eq, inb_pos (by decide), inb_pos (by decide), nm_eq, show (0 : Int).toNat = 0 from rfl, show (1 : Int).toNat = 1 from rfl, show (2 : Int).toNat = 2 from rfl, show (3 : Int).toNat = 3 from rfl, c1 49 0 (by omega), c1 49 1 (by omega), c1 49 2 (by omega), c1 49 3 (by omega), u1, v1]
    have skip : (∀ y, y ≤ onN m → Gd2 h m x y → g 45 11 ≤ ((cN m x + cN m y : Nat) : Int)) → En (XX1_choose_p216 self (onN m) x g) (fun _ g => (∀ a i, ¬ (a = 52 ∨ (a = 45 ∧ i = 11)) → g a i = h a i) ∧ Fdr h m 2 (g 45 11) (g 52)) := by
      intro hs
      unfold XX1_choose_p216
      rw [chk_pos (by omega)]
      refine ih _ _ _ (by omega) ⟨rfl, by omega, c1, ?_⟩
      rcases c2 with ⟨t, c2⟩ | ⟨f, g', c3, c4, c5, c6, c7, c8, c9, c10⟩
      · refine Or.inl ⟨t, fun f' g' hf hg => ?_⟩
        by_cases qf : f' = x
        · subst qf
          have gle : ∃ g2, g2 ≤ onN m ∧ Gd2 h m f' g2 := by
            obtain ⟨g2, e1, e2⟩ := bits_ex (2 ^ m) (fun p => g'.testBit p)
            refine ⟨g2, le_on hm e1, fun p hp => ?_⟩
            have : bt g2 p = bt g' p := by unfold bt; rw [e2 p hp]
            rw [this]; exact hg p hp
          obtain ⟨g2, e1, e2⟩ := gle
          have := hs g2 e1 e2
          have := c_le4 hm e1
          omega
        · exact c2 f' g' (by omega) hg
      · refine Or.inr ⟨f, g', by omega, c4, c5, c6, c7, c8, c9, fun f2 g2 h1 h2 h3 h4 => ?_⟩
        by_cases qf : f2 = x
        · subst qf
          have := hs g2 h3 h4
          by_cases t : cN m f + cN m g' < cN m f2 + cN m g2
          · exact Or.inl t
          · exact Or.inr ⟨by omega, Or.inl (by omega)⟩
        · exact c10 f2 g2 (by omega) h2 h3 h4
    by_cases q1 : g 45 11 ≤ ((cN m x : Nat) : Int)
    · rw [if_pos q1]
      exact skip (fun y _ _ => by omega)
    rw [if_neg q1, aand_nat (by omega) (by omega), Int.toNat_natCast, Int.toNat_natCast]
    by_cases q2 : ((u &&& v : Nat) : Int) = 0
    · rw [if_pos q2]
      obtain ⟨r, g2, e, rfl, y, rfl, y1, y2, y3⟩ := cheapest_ok (h := g) hm (by rw [c1 45 5 (by omega)]; exact h5) u2 v2 (by omega)
      have cy := c_le4 hm y1
      rw [e, cal_eq, c1 45 5 (by omega), h5, price_eq hm y1, cal_eq, chk_pos (by omega), nm_eq]
      by_cases q3 : g2 45 11 ≤ ((cN m x : Nat) : Int) + ((cN m y : Nat) : Int)
      · rw [if_pos q3]
        exact skip (fun y' h1 h2 => by have := y3 y' h1 ((hS y' h1).2 h2); omega)
      · rw [if_neg q3, hm_eq, inb_pos (by decide), hm_eq, inb_pos (by decide), hm_eq]
        have e1 : ∀ a i, ¬ (a = 52 ∨ (a = 45 ∧ i = 11)) → wr (wr (wr g2 45 11 (((cN m x : Nat) : Int) + ((cN m y : Nat) : Int))) 52 0 x) 52 1 y a i = h a i := fun a i hh => by rw [wq_ne (by omega), wq_ne (by omega), wq_ne (by omega)]; exact c1 a i hh
        unfold XX1_choose_p216
        rw [chk_pos (by omega)]
        refine ih _ _ _ (by omega) ⟨rfl, by omega, e1, Or.inr ⟨x, y, by omega, hx, y1, (hS y y1).1 y2, by rw [wr_o (by decide), wr_at], wr_at, by rw [wq_ne (by omega), wq_ne (by omega), wr_at]; omega, fun f2 g3 h1 h2 h3 h4 => ?_⟩⟩
        by_cases qf : f2 = x
        · subst qf
          have := y3 g3 h3 ((hS g3 h3).2 h4)
          omega
        · rcases c2 with ⟨t, c2⟩ | ⟨f, g', c3, c4, c5, c6, c7, c8, c9, c10⟩
          · exact absurd h4 (c2 f2 g3 (by omega))
          · have := c10 f2 g3 (by omega) h2 h3 h4
            left; omega
    · rw [if_neg q2]
      refine skip (fun y hy hg => ?_)
      exfalso
      refine q2 ?_
      have : u &&& v = 0 := bits0 (fun c => by
        rw [Nat.testBit_and]
        by_cases qc : c < 2 ^ m
        · have sb := (Sat_bits hm u2 v2).1 ((hS y hy).2 hg) c qc
          by_cases t : u.testBit c = true
          · by_cases t2 : v.testBit c = true
            · have := sb.1 t; rw [sb.2 t2] at this; cases this
            · rw [Bool.eq_false_iff.mpr t2, Bool.and_false]
          · rw [Bool.eq_false_iff.mpr t, Bool.false_and]
        · rw [bit_lt (f_lt hm u2) (by omega), Bool.false_and])
      rw [this]; rfl
