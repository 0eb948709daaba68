theorem pj_fact : ∀ m : Nat, m < 4 → ∀ j : Nat, j < m → lf m (pjT m j) = 100 + (j : Int) := by decide +kernel
theorem leafOfM_eq {m f : Nat} (hm : m < 4) {g : Hp} (h26 : g 143 26 = (m : Int)) : XX12_leafOf f g = some (lf m f, g) := by
  have : En (XX12_leafOf f g) (fun r x => r = lf m f ∧ x = g) := by
    obtain ⟨hI, _, h255, _, _, _⟩ := on_eq m hm
    unfold XX12_leafOf
    rw [h26, functions_eq hm, cal_eq, chk_pos (by omega), nm_eq]
    unfold XX12_leafOf_L12
    refine En_lup3 (fun _ _ l _ => (5 - l).toNat) (fun l1 l2 l x => (f : Int) = l1 ∧ (onN m : Int) + 1 - 1 = l2 ∧ g = x ∧ 0 ≤ l ∧ l ≤ m ∧ ∀ j : Nat, (j : Int) < l → (f : Int) ≠ pjT m j) ?_ FU _ _ _ _ (by unfold FU; omega) ⟨rfl, rfl, rfl, by omega, by omega, fun j hj => by omega⟩
    rintro self l1 l2 l x ih ⟨rfl, rfl, rfl, c0, c1, c2⟩
    obtain ⟨l, rfl⟩ := Int.eq_ofNat_of_zero_le c0
    unfold XX12_leafOf_b12
    rw [h26]
    by_cases q : (m : Int) ≤ l
    · have e : lf m f = if (f : Int) = 0 then 200 else if (f : Int) = onI m then 201 else -1 := by
        unfold lf
        rw [if_neg (show ¬ (0 < (m : Int) ∧ (f : Int) = pjT m 0) from fun t => c2 0 (by omega) t.2), if_neg (show ¬ (1 < (m : Int) ∧ (f : Int) = pjT m 1) from fun t => c2 1 (by omega) t.2), if_neg (show ¬ (2 < (m : Int) ∧ (f : Int) = pjT m 2) from fun t => c2 2 (by omega) t.2)]
      rw [if_pos q, e, hI]
      by_cases q1 : (f : Int) = 0
      · rw [if_pos q1, if_pos q1]; exact En_some ⟨rfl, rfl⟩
      · rw [if_neg q1, if_neg q1]
        by_cases q2 : (f : Int) = (onN m : Int)
        · rw [if_pos (by omega), if_pos q2]; exact En_some ⟨rfl, rfl⟩
        · rw [if_neg (by omega), if_neg q2]; exact En_some ⟨rfl, rfl⟩
    · rw [if_neg q, projection_eq hm (show l < m by omega), cal_eq]
      by_cases q1 : pjT m l = (f : Int)
      · rw [if_pos q1, chk_pos (by omega)]
        refine En_some ⟨?_, rfl⟩
        rw [← q1]; exact (pj_fact m hm l (by omega)).symm
      · rw [if_neg q1, chk_pos (by omega)]
        refine ih _ _ _ _ (by omega) ⟨rfl, rfl, rfl, by omega, by omega, fun j hj => ?_⟩
        by_cases t : j = l
        · subst t; exact fun u => q1 u.symm
        · exact c2 j (by omega)
  obtain ⟨r, x, e, rfl, rfl⟩ := this
  exact e
/-- OLD as the model patches it -/
def MT (B : Hp) (N M : Nat) (σ : TrS) (g : Hp) : Prop :=
  (∀ a i, ¬ ((a = 144 ∧ i = 0) ∨ (145 ≤ a ∧ a ≤ 146) ∨ (150 ≤ a ∧ a ≤ 151) ∨ a = 155 ∨ a = 200) → g a i = B a i) ∧ g 144 0 = (σ.n : Int) ∧ ((∀ w, w < 48 → g 145 w = σ.K w) ∧ ∀ w, 48 ≤ w → g 145 w = B 145 w) ∧ ((∀ j, j < 144 → g 146 j = σ.P j) ∧ ∀ j, 144 ≤ j → g 146 j = B 146 j) ∧ (∀ w, w < 48 → (0 ≤ g 150 w ∧ g 150 w < 32) ∧ (0 ≤ g 151 w ∧ g 151 w < 32) ∧ σ.L w = 32 * g 151 w + g 150 w) ∧ (∀ i, i < M → σ.W i ≠ -1 → g 200 i = σ.W i) ∧ (∀ z, z < N → (g 155 z = 0 ∨ g 155 z = 1) ∧ σ.U z = decide (g 155 z = 1)) ∧ ∀ z, N ≤ z → g 155 z = B 155 z
def EqM (h B : Hp) : Prop := ∀ a i, ((a = 143 ∧ (1 ≤ i ∧ i ≤ 3 ∨ i = 12 ∨ 24 ≤ i ∧ i ≤ 27)) ∨ (a = 144 ∧ i = 1) ∨ (152 ≤ a ∧ a ≤ 154) ∨ (159 ≤ a ∧ a ≤ 166)) → B a i = h a i
theorem MT_MN {h B g : Hp} {N M : Nat} {σ : TrS} (hM : MN h) (e : EqM h B) (c : MT B N M σ g) (hn : σ.n ≤ 40) : MN g ∧ sM g = sM h := by
  have z : ∀ i, 1 ≤ i → i ≤ 3 → g 143 i = h 143 i := fun i h1 h2 => by rw [c.1 143 i (by omega), e 143 i (by omega)]
  have z1 : g 144 1 = h 144 1 := by rw [c.1 144 1 (by omega), e 144 1 (by omega)]
  have z0 := c.2.1
  unfold MN sM at *
  rw [z 1 (by omega) (by omega), z 2 (by omega) (by omega), z 3 (by omega) (by omega), z0, z1]
  exact ⟨by omega, rfl⟩
theorem adds_ok {h B g : Hp} {N M : Nat} {σ : TrS} {s : Nat} (hM : MN h) (hs : sM h = (s : Int)) (e : EqM h B) (c : MT B N M σ g) (hn : σ.n < 40) (k a b : Int) {x y : Int} (hx : 0 ≤ x ∧ x < 32) (hy : 0 ≤ y ∧ y < 32) : ∃ g2, XX12_adds k a b x y g = some (((s + σ.n : Nat) : Int), g2) ∧ MT B N M (adT s σ k a b (32 * y + x)) g2 := by
  obtain ⟨hMg, es⟩ := MT_MN hM e c (by omega)
  have lt := MN_lt hMg (e := 0) (by omega)
  have l2 := MN_lt hM (e := 0) (by omega)
  obtain ⟨c1, c2, ⟨c3, c3'⟩, ⟨c4, c4'⟩, c5, c6, c7, c8⟩ := c
  have t0 : (0 : Int).toNat = 0 := rfl
  have hw : nM 0 g = ((s + σ.n : Nat) : Int) := by
    rw [lt.2.2.2.2.1, es, hs, t0, c2]; omega
  obtain ⟨g1, e1, k1, k3, kk, kp, kl⟩ := makes_ok hMg (e := 0) (by omega) (by omega) k a b (-1)
  rw [hw, Int.toNat_natCast, t0] at kk kp
  rw [hw, Int.toNat_natCast] at kl
  rw [t0] at k1 k3
  have kl := kl rfl
  have hM1 : MN g1 := by
    have z : ∀ i, g1 143 i = g 143 i := fun i => k1 143 i (by omega)
    have z1 : g1 144 1 = g 144 1 := k1 144 1 (by omega)
    unfold MN at *
    rw [z 1, z 2, z 3, k3, z1]; omega
  have hw1 : nM 0 g1 = ((s + σ.n + 1 : Nat) : Int) := by
    have a := (MN_lt hM1 (e := 0) (by omega)).2.2.2.2.1
    have b : sM g1 = sM g := sM_congr (k1 143 1 (by omega)) (k1 143 2 (by omega))
    rw [t0] at a
    rw [a, b, es, hs, k3, c2]; omega
  refine ⟨wr (wr g1 150 (s + σ.n) x) 151 (s + σ.n) y, ?_, ?_⟩
  · unfold XX12_adds
    rw [e1, cal_eq, wiresM_eq hM1 (by omega), cal_eq, hw1, chk_pos (by omega), nm_eq, inb_pos (by omega), hm_eq, inb_pos (by omega), hm_eq, show (((s + σ.n + 1 : Nat) : Int) - 1).toNat = s + σ.n by omega, show ((s + σ.n + 1 : Nat) : Int) - 1 = ((s + σ.n : Nat) : Int) by omega]
  · refine ⟨fun a i hh => by rw [wq_ne (by omega), wq_ne (by omega), k1 a i (by omega)]; exact c1 a i hh, ?_, ⟨fun w hw' => ?_, fun w hw' => ?_⟩, ⟨fun j hj => ?_, fun j hj => ?_⟩, fun w hw' => ?_, fun i hi hh => by rw [wq_ne (by omega), wq_ne (by omega), k1 200 i (by omega)]; exact c6 i hi hh, fun z hz => by rw [wq_ne (by omega), wq_ne (by omega), k1 155 z (by omega)]; exact c7 z hz, fun z hz => by rw [wq_ne (by omega), wq_ne (by omega), k1 155 z (by omega)]; exact c8 z hz⟩
    · rw [wq_ne (by omega), wq_ne (by omega), k3, c2]; show _ = ((σ.n + 1 : Nat) : Int); omega
    · rw [wq_ne (by omega), wq_ne (by omega), kk]
      show _ = if w = s + σ.n then k else σ.K w
      rw [show 48 * 0 + (s + σ.n) = s + σ.n by omega]
      by_cases t : w = s + σ.n
      · rw [if_pos t, if_pos t]
      · rw [if_neg t, if_neg t]; exact c3 w hw'
    · rw [wq_ne (by omega), wq_ne (by omega), kk, if_neg (by omega)]; exact c3' w hw'
    · rw [wq_ne (by omega), wq_ne (by omega), kp]
      show _ = if j = 3 * (s + σ.n) then a else if j = 3 * (s + σ.n) + 1 then b else if j = 3 * (s + σ.n) + 2 then -1 else σ.P j
      rw [show 144 * 0 + 3 * (s + σ.n) = 3 * (s + σ.n) by omega, c4 j hj]
    · rw [wq_ne (by omega), wq_ne (by omega), kp, if_neg (by omega), if_neg (by omega), if_neg (by omega)]; exact c4' j hj
    · show _ ∧ _ ∧ (if w = s + σ.n then 32 * y + x else σ.L w) = _
      rw [wr_row, wr_ne (show 150 ≠ 151 by omega), wr_row, wr_ne (show 151 ≠ 150 by omega)]
      by_cases t : w = s + σ.n
      · rw [if_pos t, if_pos t, if_pos t]; exact ⟨hx, hy, rfl⟩
      · rw [if_neg t, if_neg t, if_neg t, (kl w).1, (kl w).2, if_neg t, if_neg t]; exact c5 w hw'
theorem partWire_eq {h B g : Hp} {N M : Nat} {σ : TrS} (p : PlB h N M) (e : EqM h B) (c : MT B N M σ g) {i : Nat} {x : Int} (hi : i < M) (hp : x = -2 ∨ PartOK h i x) (hx : 0 ≤ x ∧ x < h 56 8 → σ.W x.toNat ≠ -1) : XX12_partWire x g = some (pwT h σ.W x, g) := by
  have e8 := p.2.2.2.2.1
  have m8 := p.2.2.2.2.2.2.1
  have t3 : 0 ≤ h 56 5 ∧ h 56 5 ≤ 3 := p.2.2.1.2.2.1.2
  unfold XX12_partWire pwT
  rcases hp with rfl | hp
  · rw [if_pos rfl, if_neg (by omega), if_neg (by omega)]
  · unfold PartOK at hp
    rw [if_neg (by omega)]
    rcases hp with hp | hp
    · have hq : 0 ≤ x ∧ x < h 56 8 := by omega
      rw [if_pos (by omega), inb_pos (by omega), if_pos hq, c.2.2.2.2.2.1 x.toNat (by omega) (hx hq)]
    · have tw := PlB_tw p (x := x) (by omega)
      rw [if_neg (by omega), chk_pos (by omega), inb_pos (by omega), if_neg (by omega), if_pos hp, c.1 160 _ (by omega), e 160 _ (by omega), tw.2.1]
theorem comes_ok {h B g : Hp} {N M : Nat} {σ : TrS} {s k : Nat} (p : PlB h N M) (hM : MN h) (hs : sM h = (s : Int)) (hk : (k : Int) < h 56 3) (e : EqM h B) (c : MT B N M σ g) (hL : σ.L (h 57 k).toNat = h 22 (h 57 k).toNat) (hn : (trT h s M k σ).n ≤ 40) : En (XX12_comes k g) (fun r g2 => r = rsT h s M k σ ∧ MT B N M (trT h s M k σ) g2) := by
  obtain ⟨j2, j9, pt, e0, e8, n12, m8, mn, w48, s0⟩ := id p
  obtain ⟨q1, q2, q3, q4, q5, _, q7, q8, q9, _⟩ := id pt
  have hpt := q5 k hk
  have q9k := q9 k hk
  obtain ⟨m, hmm⟩ := Int.eq_ofNat_of_zero_le q3.2.1
  have hmm : h 56 5 = (m : Int) := hmm
  have hm4 : m < 4 := by omega
  have ge : ∀ (τ : TrS) (x : Hp), MT B N M τ x → ∀ a i, ((a = 143 ∧ (1 ≤ i ∧ i ≤ 3 ∨ i = 12 ∨ 24 ≤ i ∧ i ≤ 27)) ∨ (152 ≤ a ∧ a ≤ 154) ∨ (159 ≤ a ∧ a ≤ 166)) → x a i = h a i := fun τ x cx a i hh => by rw [cx.1 a i (by omega), e a i (by omega)]
  obtain ⟨f, hf⟩ := Int.eq_ofNat_of_zero_le hpt.2.2.2.2.1
  have hf : h 59 k = (f : Int) := hf
  have g26 : g 143 26 = (m : Int) := by rw [ge σ g c 143 26 (by omega), ← q3.1]; exact hmm
  obtain ⟨w, hw⟩ := Int.eq_ofNat_of_zero_le (show 0 ≤ h 57 k by omega)
  have hw : h 57 k = (w : Int) := hw
  have g159 : ∀ (τ : TrS) (x : Hp), MT B N M τ x → x 159 k = (w : Int) := fun τ x cx => by rw [ge τ x cx 159 k (by omega), ← hpt.1]; exact hw
  have xy : ∀ (τ : TrS) (x : Hp), MT B N M τ x → τ.L w = h 22 w → x 150 w = h 150 w ∧ x 151 w = h 151 w := fun τ x cx hl => by
    have a := cx.2.2.2.2.1 w (by omega)
    have b := j2 w (by omega)
    omega
  rw [hw, Int.toNat_natCast] at hL
  unfold XX12_comes
  rw [inb_pos (by omega), Int.toNat_natCast, ge σ g c 161 k (by omega), ← hpt.2.2.2.1, hf, leafOfM_eq hm4 g26, cal_eq, in_eq, cal_eq]
  rw [hmm, hf] at q9k
  have lfv : lf m f = -1 ∨ lf m f = 200 ∨ lf m f = 201 ∨ (100 ≤ lf m f ∧ lf m f < 100 + m) := by
    unfold lf
    repeat' split
    all_goals omega
  by_cases z : 0 ≤ lf m f
  · rw [if_pos z] at q9k
    by_cases q : 100 ≤ lf m f ∧ lf m f ≤ 102
    · have hc : ¬ cnT h k = true := by
        unfold cnT
        rw [q9k.1, decide_eq_false (by omega), decide_eq_false (by omega)]; decide
      have none' : ∀ d i, i + d = M → frB (ndT h s k) d i σ = σ := by
        intro d
        induction d with
        | zero => intro i _; rfl
        | succ d ih =>
          intro i hi
          show frB (ndT h s k) d (i + 1) (ndT h s k i σ) = σ
          have : ndT h s k i σ = σ := by unfold ndT; rw [if_neg (q9k.2 i (by omega))]
          rw [this]; exact ih (i + 1) (by omega)
      have et : trT h s M k σ = σ := by unfold trT; rw [if_neg hc]; exact none' M 0 (by omega)
      have er : rsT h s M k σ = h 58 (lf m f - 100).toNat := by
        unfold rsT pwT
        rw [if_neg hc, q9k.1, if_neg (by omega), if_pos (by omega)]
      have tw := PlB_tw p (x := lf m f) (by omega)
      rw [if_pos q, if_neg n10, chk_pos (by omega), inb_pos (by omega), et, er, ge σ g c 160 _ (by omega), tw.2.1]
      exact En_some ⟨rfl, c⟩
    · have hc : cnT h k = true := by
        unfold cnT
        rw [q9k.1]
        rcases (by omega : lf m f = 200 ∨ lf m f = 201) with t | t <;> rw [t] <;> decide
      have et : trT h s M k σ = adT s σ (if h 60 k = 200 then 7 else 8) (-1) (-1) (h 22 w) := by unfold trT; rw [if_pos hc, hw, Int.toNat_natCast]
      have er : rsT h s M k σ = ((s + σ.n : Nat) : Int) := by unfold rsT; rw [if_pos hc]
      rw [et] at hn ⊢
      rw [er]
      have hn' : σ.n < 40 := hn
      have cx := xy σ g c hL
      have jw := j2 w (by omega)
      have p52 : ∀ kd : Int, kd = (if h 60 k = 200 then 7 else 8) → En (XX12_comes_p52 k kd g) (fun r g2 => r = ((s + σ.n : Nat) : Int) ∧ MT B N M (adT s σ (if h 60 k = 200 then 7 else 8) (-1) (-1) (h 22 w)) g2) := by
        intro kd hkd
        unfold XX12_comes_p52
        rw [inb_pos (by omega), Int.toNat_natCast, g159 σ g c, inb_pos (by omega), inb_pos (by omega), inb_pos (by omega), Int.toNat_natCast, cx.1, cx.2]
        obtain ⟨g2, e2, c2⟩ := adds_ok hM hs e c hn' kd (-1) (-1) jw.1 jw.2.1
        rw [e2, cal_eq, ← hkd, jw.2.2]
        exact En_some ⟨rfl, c2⟩
      rw [if_neg q, if_pos rfl, if_neg (by omega)]
      by_cases q2 : lf m f = 200
      · rw [if_pos q2]; exact p52 7 (by rw [q9k.1, if_pos q2])
      · rw [if_neg q2]; exact p52 8 (by rw [q9k.1, if_neg q2])
  · rw [if_neg z] at q9k
    have z1 : lf m f = -1 := by omega
    have hc : ¬ cnT h k = true := by
      unfold cnT
      rw [decide_eq_false (by omega), decide_eq_false (by omega)]; decide
    have et : trT h s M k σ = frB (ndT h s k) (M - 0) 0 σ := by unfold trT; rw [if_neg hc]; rfl
    have er : rsT h s M k σ = (trT h s M k σ).W (h 60 k).toNat := by unfold rsT pwT; rw [if_neg hc, if_pos (by omega)]
    rw [if_neg (show ¬ (100 ≤ lf m f ∧ lf m f ≤ 102) by omega), if_pos rfl, if_pos z1, er]
    generalize hF : trT h s M k σ = F at *
    unfold XX12_comes_L85
    refine En_lup3 (fun _ _ l4 _ => (20 - l4).toNat) (fun l1 l3 l4 g2 => (k : Int) = l1 ∧ ∃ i : Nat, l4 = (i : Int) ∧ i ≤ M ∧ ∃ τ, MT B N M τ g2 ∧ AsT h k i τ ∧ (h 56 1 = 0 → τ.L w = h 22 w) ∧ frB (ndT h s k) (M - i) i τ = F ∧ ∀ r0 : Nat, r0 < i → h 64 r0 = (k : Int) → (∀ j, r0 < j → j < i → h 64 j ≠ (k : Int)) → l3 = τ.W r0) ?_ FU _ _ _ _ (by unfold FU; omega) ⟨rfl, 0, rfl, Nat.zero_le _, σ, c, fun j hj => absurd hj (Nat.not_lt_zero _), fun _ => hL, et.symm, fun r0 hr => absurd hr (Nat.not_lt_zero _)⟩
    rintro self l1 l3 l4 g2 ih ⟨rfl, i, rfl, hi, τ, ct, as, hl, ef, hr⟩
    have gt := ge τ g2 ct
    have m27 : h 143 27 = (M : Int) := by rw [← q4.1]; exact e8
    unfold XX12_comes_b85
    rw [gt 143 27 (by omega), m27]
    by_cases qi : (M : Int) ≤ i
    · rw [frB_end (by omega)] at ef
      subst ef
      rw [if_pos qi]
      refine En_some ⟨hr (h 60 k).toNat (by omega) q9k.2.2.1 (fun j h1 h2 => q9k.2.2.2 j (by omega) (by omega)), ct⟩
    obtain ⟨⟨d0, d1⟩, ⟨d2', d2⟩, ⟨d3', d3⟩, ⟨d4', d4⟩, d5⟩ := q8 i (by omega)
    rw [frB_step (by omega)] at ef
    rw [if_neg qi, inb_pos (by omega), Int.toNat_natCast, gt 165 i (by omega), ← d4']
    by_cases qo : h 64 i = (k : Int)
    · have part : ∀ x, PartOK h i x → (0 ≤ x ∧ x < h 56 8 → τ.W x.toNat ≠ -1) := by
        intro x hx t
        unfold PartOK at hx
        rcases hx with ⟨x1, x2, x3⟩ | hx
        · exact as x.toNat (by omega) (by rw [x3]; exact qo)
        · omega
      have part3' : h 63 i = -2 ∨ PartOK h i (h 63 i) := by
        split at d3
        · exact Or.inl d3
        · exact Or.inr d3
      have part3 : (0 ≤ h 63 i ∧ h 63 i < h 56 8 → τ.W (h 63 i).toNat ≠ -1) := by
        rcases part3' with t | t
        · omega
        · exact part _ t
      have hn2 : τ.n < 40 := by
        have a := frT_n h s k (M - (i + 1)) (i + 1) (ndT h s k i τ)
        rw [ef, ndT_n, if_pos qo] at a
        omega
      have en : ndT h s k i τ = wuT (adT s τ (h 61 i) (pwT h τ.W (h 62 i)) (pwT h τ.W (h 63 i)) (plT h k i)) (fun j => if j = i then ((s + τ.n : Nat) : Int) else τ.W j) (fun z => τ.U z || (decide (h 56 1 = 1) && decide ((z : Int) = h 65 i))) := by unfold ndT; rw [if_pos qo]
      -- what follows when the gate is there
      have fin : ∀ (x : Hp) (wv : Int), wv = ((s + τ.n : Nat) : Int) → MT B N M (ndT h s k i τ) x → En (XX12_comes_p235 self k wv i x) (fun r g2 => r = F.W (h 60 k).toNat ∧ MT B N M F g2) := by
        intro x wv hwv cx
        unfold XX12_comes_p235
        rw [chk_pos (by omega)]
        refine ih _ _ _ _ (by omega) ⟨rfl, i + 1, by omega, by omega, ndT h s k i τ, cx, ?_, ?_, ef, ?_⟩
        · intro j hj ho
          rw [en]
          show (if j = i then ((s + τ.n : Nat) : Int) else τ.W j) ≠ -1
          by_cases t : j = i
          · rw [if_pos t]; omega
          · rw [if_neg t]; exact as j (by omega) ho
        · intro t
          rw [en]
          show (if w = s + τ.n then plT h k i else τ.L w) = h 22 w
          by_cases u : w = s + τ.n
          · rw [if_pos u]; unfold plT; rw [if_pos t, hw, Int.toNat_natCast]
          · rw [if_neg u]; exact hl t
        · intro r0 h1 h2 h3
          rw [en]
          show wv = if r0 = i then ((s + τ.n : Nat) : Int) else τ.W r0
          by_cases t : r0 = i
          · rw [if_pos t]; exact hwv
          · exact absurd qo (h3 i (by omega) (by omega))
      have put : ∀ (g3 : Hp) (pl : Int), pl = plT h k i → MT B N M (adT s τ (h 61 i) (pwT h τ.W (h 62 i)) (pwT h τ.W (h 63 i)) pl) g3 → ∀ V : Nat → Bool, (∀ z, z < N → V z = (τ.U z || (decide (h 56 1 = 1) && decide ((z : Int) = h 65 i)))) → ∀ x : Hp, (∀ a j, ¬ ((a = 200 ∧ j = i) ∨ a = 155) → x a j = g3 a j) → x 200 i = ((s + τ.n : Nat) : Int) → (∀ z, z < N → (x 155 z = 0 ∨ x 155 z = 1) ∧ V z = decide (x 155 z = 1)) → (∀ z, N ≤ z → x 155 z = g3 155 z) → MT B N M (ndT h s k i τ) x := by
        intro g3 pl hpl c3 V hV x kx x200 xV xN
        obtain ⟨b1, b2, ⟨b3, b3'⟩, ⟨b4, b4'⟩, b5, b6, b7, b8⟩ := c3
        rw [en, ← hpl]
        refine ⟨fun a j hh => by rw [kx a j (by omega)]; exact b1 a j hh, by rw [kx 144 0 (by omega)]; exact b2, ⟨fun j hj => by rw [kx 145 j (by omega)]; exact b3 j hj, fun j hj => by rw [kx 145 j (by omega)]; exact b3' j hj⟩, ⟨fun j hj => by rw [kx 146 j (by omega)]; exact b4 j hj, fun j hj => by rw [kx 146 j (by omega)]; exact b4' j hj⟩, fun j hj => by rw [kx 150 j (by omega), kx 151 j (by omega)]; exact b5 j hj, fun j hj hh => ?_, fun z hz => ⟨(xV z hz).1, by rw [← (xV z hz).2, hV z hz]; rfl⟩, fun z hz => by rw [xN z hz]; exact b8 z hz⟩
        show _ = if j = i then ((s + τ.n : Nat) : Int) else τ.W j
        by_cases t : j = i
        · rw [if_pos t, t]; exact x200
        · rw [if_neg t, kx 200 j (by omega)]
          refine b6 j hj (fun u => hh ?_)
          show (if j = i then ((s + τ.n : Nat) : Int) else τ.W j) = -1
          rw [if_neg t]; exact u
      rcases q1.2 with q0 | q1'
      · have hlw := hl q0
        have cx := xy τ g2 ct hlw
        have jw := j2 w (by omega)
        have g24 : g2 143 24 = 0 := by rw [gt 143 24 (by omega), ← q1.1]; exact q0
        rw [if_pos qo, g24, if_pos rfl]
        unfold XX12_comes_p123
        rw [inb_pos (by omega), inb_pos (by omega), Int.toNat_natCast, gt 163 i (by omega), ← d2', partWire_eq p e ct (show i < M by omega) (Or.inr d2) (part _ d2), cal_eq, inb_pos (by omega), gt 164 i (by omega), ← d3', partWire_eq p e ct (show i < M by omega) part3' part3, cal_eq, if_pos rfl, inb_pos (by omega), Int.toNat_natCast, g159 τ g2 ct, inb_pos (by omega), Int.toNat_natCast, cx.1, gt 162 i (by omega), ← d0]
        unfold XX12_comes_p182
        rw [if_pos rfl, inb_pos (by omega), Int.toNat_natCast, g159 τ g2 ct, inb_pos (by omega), Int.toNat_natCast, cx.2]
        unfold XX12_comes_p209
        obtain ⟨g3, e3, c3⟩ := adds_ok hM hs e ct hn2 (h 61 i) (pwT h τ.W (h 62 i)) (pwT h τ.W (h 63 i)) jw.1 jw.2.1
        rw [e3, cal_eq, inb_pos (by omega), hm_eq, if_pos rfl]
        refine fin _ _ rfl (put g3 _ (by unfold plT; rw [if_pos q0, hw, Int.toNat_natCast]; exact jw.2.2.symm) c3 τ.U (fun z _ => by rw [decide_eq_false (by omega)]; simp) _ (fun a j hh => by rw [Int.toNat_natCast]; exact wq_ne (by omega)) (by rw [Int.toNat_natCast, wr_at]) (fun z hz => by rw [wq_ne (by omega)]; exact c3.2.2.2.2.2.2.1 z hz) (fun z hz => wq_ne (by omega)))
      · rw [if_pos q1'] at d5
        obtain ⟨sp, hsp⟩ := Int.eq_ofNat_of_zero_le d5.2.1
        have hsp : h 65 i = (sp : Int) := hsp
        have hspN : sp < N := by omega
        have js := j9.2.2.2.2 sp (by omega)
        have g24 : g2 143 24 = 1 := by rw [gt 143 24 (by omega), ← q1.1]; exact q1'
        rw [if_pos qo, g24, if_neg n10, inb_pos (by omega), gt 166 i (by omega), ← d5.1, hsp]
        unfold XX12_comes_p123
        rw [inb_pos (by omega), inb_pos (by omega), Int.toNat_natCast, gt 163 i (by omega), ← d2', partWire_eq p e ct (show i < M by omega) (Or.inr d2) (part _ d2), cal_eq, inb_pos (by omega), gt 164 i (by omega), ← d3', partWire_eq p e ct (show i < M by omega) part3' part3, cal_eq, if_neg (by omega), inb_pos (by omega), Int.toNat_natCast, gt 153 sp (by omega), gt 162 i (by omega), ← d0]
        unfold XX12_comes_p182
        rw [if_neg (by omega), inb_pos (by omega), Int.toNat_natCast, gt 154 sp (by omega)]
        unfold XX12_comes_p209
        obtain ⟨g3, e3, c3⟩ := adds_ok hM hs e ct hn2 (h 61 i) (pwT h τ.W (h 62 i)) (pwT h τ.W (h 63 i)) js.2.1 js.2.2.1
        rw [e3, cal_eq, inb_pos (by omega), hm_eq, if_neg (by omega), inb_pos (by omega), zb_1, hm_eq, Int.toNat_natCast, Int.toNat_natCast]
        refine fin _ _ rfl (put g3 _ (by unfold plT; rw [if_neg (by omega), hsp, Int.toNat_natCast]; exact js.2.2.2.1.symm) c3 (fun z => τ.U z || decide (z = sp)) (fun z _ => ?_) _ (fun a j hh => by rw [wq_ne (by omega), wq_ne (by omega)]) (by rw [wq_ne (by omega), wr_at]) (fun z hz => ?_) (fun z hz => by rw [wr_row, if_neg (by omega), wq_ne (by omega)]))
        · show (τ.U z || decide (z = sp)) = _
          rw [decide_eq_true q1', Bool.true_and, hsp]
          congr 1
          by_cases t : z = sp
          · subst t; simp
          · rw [decide_eq_false t, decide_eq_false (by omega)]
        · have cz := c3.2.2.2.2.2.2.1 z hz
          rw [wr_row]
          by_cases t : z = sp
          · rw [if_pos t, decide_eq_true t]; simp
          · rw [if_neg t, wq_ne (by omega), decide_eq_false t, Bool.or_false]; exact cz
    · rw [if_neg qo]
      unfold XX12_comes_p235
      rw [chk_pos (by omega)]
      have en : ndT h s k i τ = τ := by unfold ndT; rw [if_neg qo]
      rw [en] at ef
      refine ih _ _ _ _ (by omega) ⟨rfl, i + 1, by omega, by omega, τ, ct, fun j hj ho => ?_, hl, ef, fun r0 h1 h2 h3 => ?_⟩
      · by_cases t : j = i
        · rw [t] at ho; exact absurd ho qo
        · exact as j (by omega) ho
      · by_cases t : r0 = i
        · rw [t] at h2; exact absurd h2 qo
        · exact hr r0 (by omega) h2 (fun j a b => h3 j a (by omega))
