theorem looks_ok {h : Hp} (hM : MN h) {e : Int} (he : 0 ≤ e ∧ e < 2) (hP : PinOK (sM h) (nM e h) (kM e h) (pM e h)) (hA : Acy (sM h) (nM e h) (kM e h) (pM e h)) {B : Nat → Nat → Bool} (hB : Hang (sM h) (nM e h) (kM e h) (pM e h) B) {w : Nat} (hw : (w : Int) < nM e h) :
    En (XX12_looks e w h) (fun _ h1 => ∀ v : Nat, v < 48 → h1 185 v = if B w v = true then 1 else 0) := by
  obtain ⟨b0, b1, b2, b3, b4, b5⟩ := MN_lt hM he
  have hg : h 144 e.toNat = nM e h - sM h := by omega
  have hkd : ∀ w, h 145 (48 * e.toNat + w) = kM e h w := fun _ => rfl
  have hpn : ∀ j, h 146 (144 * e.toNat + j) = pM e h j := fun _ => rfl
  generalize kM e h = kd at *
  generalize pM e h = pn at *
  generalize hs : sM h = s at *
  generalize hn : nM e h = n at *
  have mnx : ∀ h1, Eqx 185 h h1 → MN h1 ∧ XX12_begun h1 = some (s, h1) ∧ XX12_wires e h1 = some (n, h1) := by
    intro h1 e1
    have c1 : h1 143 = h 143 := e1 _ (by omega)
    have c2 : h1 144 = h 144 := e1 _ (by omega)
    have hM1 := MN_congr (by rw [c1]) (by rw [c1]) (by rw [c1]) c2 hM
    refine ⟨hM1, ?_, ?_⟩
    · rw [begun_eq hM1, sM_congr (by rw [c1]) (by rw [c1]), hs]
    · rw [wiresM_eq hM1 he, nM_congr (by rw [c1]) (by rw [c1]) c2, hn]
  have tr : ∀ {u v : Nat}, B w u = true → B u v = true → B w v = true := fun {u v} h1 h2 => Hang_trans hP hA hB h2 w hw h1
  -- closed: what it ends with
  have fin : ∀ h1 : Hp, (∀ v : Nat, v < 48 → h1 185 v = 0 ∨ h1 185 v = 1) → h1 185 w = 1 → (∀ v : Nat, v < 48 → h1 185 v = 1 → B w v = true) → (∀ u : Nat, s ≤ u → (u : Int) < n → h1 185 u = 1 → ∀ k : Nat, (k : Int) < pinC (kd u).toNat → h1 185 (pn (3 * u + k)).toNat = 1) → ∀ v : Nat, v < 48 → h1 185 v = if B w v = true then 1 else 0 := by
    intro h1 z hw1 sound closed v hv
    by_cases q : B w v = true
    · rw [if_pos q]
      refine rk_ind hP hA (Q := fun u => h1 185 u = 1 → B u v = true → h1 185 v = 1) (fun u hu ih h3 h4 => ?_) (fun u hu _ h3 h4 => ?_) w hw hw1 q
      · by_cases qs : (u : Int) < s
        · rw [hB.1 u qs] at h4; have : v = u := by simpa using h4
          rw [this]; exact h3
        · rcases (hB.2 u (by omega) hu v).1 h4 with e | ⟨k, hk, e⟩
          · rw [e]; exact h3
          · exact ih k (by omega) hk (closed u (by omega) hu h3 k hk) e
      · rw [hB.1 u hu] at h4; have : v = u := by simpa using h4
        rw [this]; exact h3
    · rw [if_neg q]
      rcases z v hv with zz | zz
      · exact zz
      · exact absurd (sound v hv zz) q
  unfold XX12_looks XX12_looks_L2
  refine En_lup3 (fun _ _ l3 _ => (48 - l3).toNat) (fun l1 l2 l3 h1 => e = l1 ∧ (w : Int) = l2 ∧ 0 ≤ l3 ∧ l3 ≤ 48 ∧ Eqx 185 h h1 ∧ ∀ v : Nat, (v : Int) < l3 → h1 185 v = if v = w then 1 else 0) ?_ FU _ _ _ _ (by unfold FU; omega) ⟨rfl, rfl, by omega, by omega, Eqx_refl _ _, fun v hv => by omega⟩
  rintro self2 l1 l2 l3 h1 ih2 ⟨rfl, rfl, c0, c1, e1, c2⟩
  unfold XX12_looks_b2
  by_cases q : 48 ≤ l3
  · rw [if_pos q]
    have c2 : ∀ v : Nat, v < 48 → h1 185 v = if v = w then 1 else 0 := fun v hv => c2 v (by omega)
    unfold XX12_looks_L32
    refine En_lup2 (fun _ l3 h2 => 2 * (48 - cntB (fun v => decide (h2 185 v = 1)) 48) + l3.toNat) (fun l1 l3 h2 => e = l1 ∧ (l3 = 0 ∨ l3 = 1) ∧ Eqx 185 h h2 ∧ (∀ v : Nat, v < 48 → h2 185 v = 0 ∨ h2 185 v = 1) ∧ h2 185 w = 1 ∧ (∀ v : Nat, v < 48 → h2 185 v = 1 → B w v = true) ∧ (l3 = 0 → ∀ u : Nat, s ≤ u → (u : Int) < n → h2 185 u = 1 → ∀ k : Nat, (k : Int) < pinC (kd u).toNat → h2 185 (pn (3 * u + k)).toNat = 1)) ?_ FU _ _ _ (by unfold FU; omega) ⟨rfl, Or.inr rfl, e1, fun v hv => by rw [c2 v hv]; split <;> simp, by rw [c2 w (by omega), if_pos rfl], fun v hv hh => ?_, fun hh => by omega⟩
    rotate_left
    · rw [c2 v hv] at hh
      by_cases qv : v = w
      · rw [qv]; exact Hang_self hB hw
      · rw [if_neg qv] at hh; omega
    rintro self32 l1 l3 h2 ih32 ⟨rfl, m0, e2, z2, hw2, so2, cl2⟩
    unfold XX12_looks_b32
    by_cases q3 : l3 = 0
    · rw [if_pos q3]; exact En_some (fin h2 z2 hw2 so2 (cl2 q3))
    have q31 : l3 = 1 := m0.resolve_left q3
    rw [if_neg q3, (mnx h2 e2).2.1, cal_eq]
    clear cl2
    unfold XX12_looks_L44
    -- one pass: l3 = 0 while nothing has changed
    refine En_lup3 (fun _ _ l4 _ => (n - l4).toNat) (fun l1 l3 l4 h3 => e = l1 ∧ (l3 = 0 ∨ l3 = 1) ∧ s ≤ l4 ∧ l4 ≤ n ∧ Eqx 185 h h3 ∧ (∀ v : Nat, v < 48 → h3 185 v = 0 ∨ h3 185 v = 1) ∧ h3 185 w = 1 ∧ (∀ v : Nat, v < 48 → h3 185 v = 1 → B w v = true) ∧ (l3 = 0 → h3 = h2 ∧ ∀ u : Nat, s ≤ u → (u : Int) < l4 → h3 185 u = 1 → ∀ k : Nat, (k : Int) < pinC (kd u).toNat → h3 185 (pn (3 * u + k)).toNat = 1) ∧ (l3 = 1 → cntB (fun v => decide (h2 185 v = 1)) 48 < cntB (fun v => decide (h3 185 v = 1)) 48)) ?_ FU _ _ _ _ (by unfold FU; omega) ⟨rfl, Or.inl rfl, by omega, by omega, e2, z2, hw2, so2, fun _ => ⟨rfl, fun u h1 h2 => by omega⟩, fun hh => by omega⟩
    rintro self44 l1 f3 l4 h3 ih44 ⟨rfl, m1, d0, d1, e3, z3, hw3, so3, cl3, ct3⟩
    unfold XX12_looks_b44
    rw [(mnx h3 e3).2.2, cal_eq]
    by_cases q4 : n ≤ l4
    · rw [if_pos q4]
      rcases m1 with m1 | m1
      · obtain ⟨c31, c32⟩ := cl3 m1
        refine ih32 _ _ _ ?_ ⟨rfl, Or.inl m1, e3, z3, hw3, so3, fun _ u hu hun => c32 u hu (by omega)⟩
        rw [m1, q31, c31]; simp
      · have := ct3 m1
        have hc := cntB_le (fun v => decide (h3 185 v = 1)) 48
        refine ih32 _ _ _ ?_ ⟨rfl, Or.inr m1, e3, z3, hw3, so3, fun hh => by omega⟩
        rw [m1, q31]
        show 2 * _ + 1 < 2 * _ + 1
        omega
    rw [if_neg q4]
    obtain ⟨g, rfl⟩ := Int.eq_ofNat_of_zero_le (show 0 ≤ l4 by omega)
    obtain ⟨hk, hpin⟩ := hP g (by omega) (by omega)
    have hb := pinC_b (kd g).toNat
    unfold XX12_looks_L57
    refine En_lup4 (fun _ _ _ l5 _ => (3 - l5).toNat) (fun l1 l3 l4' l5 h4 => e = l1 ∧ (g : Int) = l4' ∧ (l3 = 0 ∨ l3 = 1) ∧ 0 ≤ l5 ∧ l5 ≤ 3 ∧ Eqx 185 h h4 ∧ (∀ v : Nat, v < 48 → h4 185 v = 0 ∨ h4 185 v = 1) ∧ h4 185 w = 1 ∧ (∀ v : Nat, v < 48 → h4 185 v = 1 → B w v = true) ∧ (l3 = 0 → h4 = h2 ∧ (∀ u : Nat, s ≤ u → (u : Int) < g → h4 185 u = 1 → ∀ k : Nat, (k : Int) < pinC (kd u).toNat → h4 185 (pn (3 * u + k)).toNat = 1) ∧ (h4 185 g = 1 → ∀ k : Nat, (k : Int) < l5 → (k : Int) < pinC (kd g).toNat → h4 185 (pn (3 * g + k)).toNat = 1)) ∧ (l3 = 1 → cntB (fun v => decide (h2 185 v = 1)) 48 < cntB (fun v => decide (h4 185 v = 1)) 48)) ?_ FU _ _ _ _ _ (by unfold FU; omega) ⟨rfl, rfl, m1, by omega, by omega, e3, z3, hw3, so3, fun hh => ⟨(cl3 hh).1, (cl3 hh).2, fun _ k hk => by omega⟩, ct3⟩
    clear cl3 ct3
    rintro self57 l1 t3 l4' l5 h4 ih57 ⟨rfl, rfl, m2, u0, u1, e4, z4, hw4, so4, cl4, ct4⟩
    unfold XX12_looks_b57
    rw [chk_pos (by omega), chk_pos (by omega), inb_pos (by omega), show h4 145 = h 145 from e4 _ (by omega), show (48 * e + (g : Int)).toNat = 48 * e.toNat + g by omega, hkd, pinsOf_eq hk.1 hk.2, cal_eq]
    have nxt : (t3 = 0 → h4 = h2 ∧ ∀ u : Nat, s ≤ u → (u : Int) < g + 1 → h4 185 u = 1 → ∀ k : Nat, (k : Int) < pinC (kd u).toNat → h4 185 (pn (3 * u + k)).toNat = 1) → En (XX12_looks_p140 self32 self44 e t3 g h4) (fun _ h1 => ∀ v : Nat, v < 48 → h1 185 v = if B w v = true then 1 else 0) := by
      intro cl
      unfold XX12_looks_p140
      rw [chk_pos (by omega)]
      exact ih44 _ _ _ _ (by omega) ⟨rfl, m2, by omega, by omega, e4, z4, hw4, so4, cl, ct4⟩
    by_cases q5 : pinC (kd g).toNat ≤ l5
    · rw [if_pos q5]
      refine nxt (fun hh => ⟨(cl4 hh).1, fun u hu hug h1 k hk9 => ?_⟩)
      by_cases qu : u = g
      · subst qu; exact (cl4 hh).2.2 h1 k (by omega) hk9
      · exact (cl4 hh).2.1 u hu (by omega) h1 k hk9
    rw [if_neg q5, inb_pos (by omega), Int.toNat_natCast]
    by_cases q6 : h4 185 g = 0
    · rw [if_pos q6]
      refine nxt (fun hh => ⟨(cl4 hh).1, fun u hu hug h1 k hk => ?_⟩)
      by_cases qu : u = g
      · subst qu; omega
      · exact (cl4 hh).2.1 u hu (by omega) h1 k hk
    rw [if_neg q6]
    have q61 : h4 185 g = 1 := (z4 g (by omega)).resolve_left q6
    obtain ⟨j, rfl⟩ := Int.eq_ofNat_of_zero_le u0
    have hj := (hpin j (by omega)).1 (by omega)
    rw [chk_pos (by omega), chk_pos (by omega), chk_pos (by omega), chk_pos (by omega), inb_pos (by omega), show h4 146 = h 146 from e4 _ (by omega), show (3 * (48 * e + (g : Int)) + (j : Int)).toNat = 144 * e.toNat + (3 * g + j) by omega, hpn, nm_eq]
    have hgB : B g (pn (3 * g + j)).toNat = true := (hB.2 g (by omega) (by omega) _).2 (Or.inr ⟨j, by omega, Hang_self hB (by omega)⟩)
    have hwB : B w (pn (3 * g + j)).toNat = true := tr (so4 g (by omega) q61) hgB
    -- marking it
    have mark : ∀ s0 : Int, (s0 = 0 ∨ s0 = 1) → (s0 = 0 → t3 = 0 ∧ h4 185 (pn (3 * g + j)).toNat = 1) → (s0 = 1 → t3 = 1 ∨ h4 185 (pn (3 * g + j)).toNat = 0) → En (XX12_looks_p125 self32 self44 self57 e g j (pn (3 * g + j)) s0 h4) (fun _ h1 => ∀ v : Nat, v < 48 → h1 185 v = if B w v = true then 1 else 0) := by
      intro s0 hs0 h00 h01
      unfold XX12_looks_p125
      rw [inb_pos (by omega), zb_1, hm_eq, chk_pos (by omega)]
      have e5 : Eqx 185 h (wr h4 185 (pn (3 * g + j)).toNat 1) := Eqx_wr e4 _ _
      have w5 : ∀ v, wr h4 185 (pn (3 * g + j)).toNat 1 185 v = if v = (pn (3 * g + j)).toNat then 1 else h4 185 v := by
        intro v
        by_cases qv : v = (pn (3 * g + j)).toNat
        · rw [if_pos qv, qv, wr_at]
        · rw [if_neg qv, wr_o qv]
      refine ih57 _ _ _ _ _ (by omega) ⟨rfl, rfl, hs0, by omega, by omega, e5, fun v hv => ?_, ?_, fun v hv hh => ?_, fun hh => ?_, fun hh => ?_⟩
      · rw [w5]; split
        · exact Or.inr rfl
        · exact z4 v hv
      · rw [w5]; split
        · rfl
        · exact hw4
      · rw [w5] at hh
        by_cases qv : v = (pn (3 * g + j)).toNat
        · rw [qv]; exact hwB
        · rw [if_neg qv] at hh; exact so4 v hv hh
      · obtain ⟨y1, y2⟩ := h00 hh
        have same : wr h4 185 (pn (3 * g + j)).toNat 1 = h4 := by
          funext a i
          by_cases qa : a = 185
          · subst qa
            rw [w5]; split
            · next qi => rw [qi]; exact y2.symm
            · rfl
          · rw [wr_ne qa]
        rw [same]
        obtain ⟨x1, x2, x3⟩ := cl4 y1
        refine ⟨x1, x2, fun hg1 k hk hk2 => ?_⟩
        by_cases qk : k = j
        · rw [qk]; exact y2
        · exact x3 hg1 k (by omega) hk2
      · have hset : ∀ f g' : Nat → Bool, (∀ v, v < 48 → f v = true → g' v = true) → cntB f 48 ≤ cntB g' 48 := by
          intro f g' hfg
          have : ∀ m, m ≤ 48 → cntB f m ≤ cntB g' m := by
            intro m
            induction m with
            | zero => intro _; exact Nat.le_refl _
            | succ m ih =>
              intro hm
              have := ih (by omega)
              unfold cntB
              by_cases qf : f m = true
              · rw [if_pos qf, if_pos (hfg m (by omega) qf)]; omega
              · rw [if_neg qf]; split <;> omega
          exact this 48 (Nat.le_refl _)
        rcases h01 hh with y | y
        · have := ct4 y
          have := hset (fun v => decide (h4 185 v = 1)) (fun v => decide (wr h4 185 (pn (3 * g + j)).toNat 1 185 v = 1)) (fun v hv hf => by
            rw [w5]; split
            · rfl
            · exact hf)
          omega
        · have h1 : cntB (fun v => decide (wr h4 185 (pn (3 * g + j)).toNat 1 185 v = 1)) 48 = cntB (fun v => decide (h4 185 v = 1)) 48 + 1 :=
            cntB_set (j := (pn (3 * g + j)).toNat) (by omega) (by rw [y]; rfl) (by rw [w5, if_pos rfl]; rfl) (fun i hi hne => by rw [w5, if_neg hne])
          rcases m2 with m2 | m2
          · have := (cl4 m2).1
            rw [this] at h1 ⊢
            omega
          · have := ct4 m2
            omega
    by_cases q7 : t3 = 0
    · rw [if_pos q7, inb_pos (by omega)]
      by_cases q8 : h4 185 (pn (3 * g + j)).toNat = 0
      · rw [if_pos q8]
        exact mark 1 (Or.inr rfl) (fun hh => by omega) (fun _ => Or.inr q8)
      · rw [if_neg q8]
        exact mark 0 (Or.inl rfl) (fun _ => ⟨q7, (z4 _ (by omega)).resolve_left q8⟩) (fun hh => by omega)
    · rw [if_neg q7]
      exact mark 1 (Or.inr rfl) (fun hh => by omega) (fun _ => Or.inl (m2.resolve_left q7))
  · rw [if_neg q]
    have go : ∀ v : Int, (v = if l3 = (w : Int) then 1 else 0) → En (XX12_looks_p23 self2 e w l3 l3 v h1) (fun _ h1 => ∀ v : Nat, v < 48 → h1 185 v = if B w v = true then 1 else 0) := by
      intro v hv
      unfold XX12_looks_p23
      rw [inb_pos (by omega), zb_pos (by rw [hv]; split <;> simp), hm_eq, chk_pos (by omega)]
      refine ih2 _ _ _ _ (by omega) ⟨rfl, rfl, by omega, by omega, Eqx_wr e1 _ _, fun u hu => ?_⟩
      by_cases qw : u = l3.toNat
      · rw [qw, wr_at, hv]
        by_cases q3 : l3 = (w : Int)
        · rw [if_pos q3, if_pos (by omega)]
        · rw [if_neg q3, if_neg (by omega)]
      · rw [wr_o qw]; exact c2 u (by omega)
    by_cases q2 : l3 = (w : Int)
    · rw [if_pos q2]; exact go 1 (by rw [if_pos q2])
    · rw [if_neg q2]; exact go 0 (by rw [if_neg q2])
