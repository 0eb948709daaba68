def sM (h : Hp) : Int := h 143 1 + h 143 2
def nM (e : Int) (h : Hp) : Int := h 143 1 + h 143 2 + h 144 e.toNat
def kM (e : Int) (h : Hp) : Nat → Int := fun w => h 145 (48 * e.toNat + w)
def pM (e : Int) (h : Hp) : Nat → Int := fun j => h 146 (144 * e.toNat + j)
def MN (h : Hp) : Prop := 0 ≤ h 143 1 ∧ 0 ≤ h 143 2 ∧ h 143 2 ≤ 2 ∧ 1 ≤ h 143 1 + h 143 2 ∧ h 143 1 + h 143 2 ≤ 8 ∧ 1 ≤ h 143 3 ∧ h 143 3 ≤ 4 ∧ 0 ≤ h 144 0 ∧ h 144 0 ≤ 40 ∧ 0 ≤ h 144 1 ∧ h 144 1 ≤ 24
theorem MN_lt {h : Hp} (hM : MN h) {e : Int} (he : 0 ≤ e ∧ e < 2) : 1 ≤ sM h ∧ sM h ≤ 8 ∧ nM e h ≤ 48 ∧ sM h ≤ nM e h ∧ nM e h = sM h + h 144 e.toNat ∧ h 144 e.toNat ≤ 40 := by
  obtain ⟨h0, h1, h2, h3, h4, h5, h6, h7, h8, h9, h10⟩ := hM
  unfold sM nM
  have : e = 0 ∨ e = 1 := by omega
  rcases this with rfl | rfl
  · rw [show (0 : Int).toNat = 0 from rfl]; omega
  · rw [show (1 : Int).toNat = 1 from rfl]; omega
theorem in_eq (x lo hi : Int) (h : Hp) : XX12_in x lo hi h = some (if lo ≤ x ∧ x ≤ hi then 1 else 0, h) := by
  unfold XX12_in
  by_cases q : x < lo
  · rw [if_pos q, if_neg (by omega), zb_0]
  · rw [if_neg q]
    by_cases q2 : hi < x
    · rw [if_pos q2, if_neg (by omega), zb_0]
    · rw [if_neg q2, if_pos (by omega), zb_1]
theorem zbi {c : Prop} [Decidable c] {X : OR} : zb (if c then 1 else 0) X = X := zb_pos (by split <;> simp)
theorem begun_eq {h : Hp} (hM : MN h) : XX12_begun h = some (sM h, h) := by
  obtain ⟨h0, h1, h2, h3, h4, h5, h6, h7, h8, h9, h10⟩ := hM
  unfold XX12_begun sM; rw [chk_pos (by omega)]
theorem cases_eq {h : Hp} (hM : MN h) : XX12_cases h = some (ashl 1 (sM h), h) := by
  unfold XX12_cases; rw [begun_eq hM, cal_eq]
theorem wiresM_eq {h : Hp} (hM : MN h) {e : Int} (he : 0 ≤ e ∧ e < 2) : XX12_wires e h = some (nM e h, h) := by
  have := MN_lt hM he
  unfold XX12_wires; rw [begun_eq hM, cal_eq, inb_pos (by omega), chk_pos (by omega)]; rfl
theorem isNet_eq (x : Int) (h : Hp) : XX12_isNet x h = some (if 0 ≤ x ∧ x ≤ 1 then 1 else 0, h) := by
  unfold XX12_isNet; rw [in_eq, cal_eq, zbi]
theorem isWireM_eq {h : Hp} (hM : MN h) {e : Int} (he : 0 ≤ e ∧ e < 2) (x : Int) : XX12_isWire e x h = some (if 0 ≤ x ∧ x < nM e h then 1 else 0, h) := by
  have := MN_lt hM he
  unfold XX12_isWire; rw [wiresM_eq hM he, cal_eq, chk_pos (by omega), in_eq, cal_eq, zbi]
  congr 3
  exact propext ⟨fun q => by omega, fun q => by omega⟩
theorem isGateM_eq {h : Hp} (hM : MN h) {e : Int} (he : 0 ≤ e ∧ e < 2) (x : Int) : XX12_isGate e x h = some (if sM h ≤ x ∧ x < nM e h then 1 else 0, h) := by
  have := MN_lt hM he
  unfold XX12_isGate; rw [begun_eq hM, cal_eq, wiresM_eq hM he, cal_eq, chk_pos (by omega), in_eq, cal_eq, zbi]
  congr 3
  exact propext ⟨fun q => by omega, fun q => by omega⟩
theorem pinsOf_eq {k : Int} (h0 : 0 ≤ k) (h1 : k ≤ 8) (h : Hp) : XX12_pinsOf k h = some (pinC k.toNat, h) := by
  unfold XX12_pinsOf
  have : k = 0 ∨ k = 1 ∨ k = 2 ∨ k = 3 ∨ k = 4 ∨ k = 5 ∨ k = 6 ∨ k = 7 ∨ k = 8 := by omega
  rcases this with rfl | rfl | rfl | rfl | rfl | rfl | rfl | rfl | rfl <;> rfl
theorem MN_congr {h h1 : Hp} (e1 : h1 143 1 = h 143 1) (e2 : h1 143 2 = h 143 2) (e3 : h1 143 3 = h 143 3) (e4 : h1 144 = h 144) (hM : MN h) : MN h1 := by
  unfold MN; rw [e1, e2, e3, e4]; exact hM
theorem sM_congr {h h1 : Hp} (e1 : h1 143 1 = h 143 1) (e2 : h1 143 2 = h 143 2) : sM h1 = sM h := by unfold sM; rw [e1, e2]
theorem nM_congr {h h1 : Hp} (e1 : h1 143 1 = h 143 1) (e2 : h1 143 2 = h 143 2) (e4 : h1 144 = h 144) (e : Int) : nM e h1 = nM e h := by unfold nM; rw [e1, e2, e4]
def Eqy (c d : Nat) (h h1 : Hp) : Prop := ∀ a, a ≠ c → a ≠ d → h1 a = h a
theorem sorts_ok {h : Hp} (hM : MN h) {e : Int} (he : 0 ≤ e ∧ e < 2) (hP : PinOK (sM h) (nM e h) (kM e h) (pM e h)) (hA : Acy (sM h) (nM e h) (kM e h) (pM e h)) :
    En (XX12_sorts e h) (fun _ h1 => Ord (sM h) (nM e h) (kM e h) (pM e h) (fun i => h1 186 (40 * e.toNat + i))) := by
  obtain ⟨b0, b1, b2, b3, b4, b5⟩ := MN_lt hM he
  have hg : h 144 e.toNat = nM e h - sM h := by omega
  have hkd : ∀ w, h 145 (48 * e.toNat + w) = kM e h w := fun _ => rfl
  have hpn : ∀ j, h 146 (144 * e.toNat + j) = pM e h j := fun _ => rfl
  generalize kM e h = kd at *
  generalize pM e h = pn at *
  have hbeg := begun_eq hM
  have hwir := wiresM_eq hM he
  generalize hs : sM h = s at *
  generalize hn : nM e h = n at *
  have mnx : ∀ h1, Eqy 186 187 h h1 → MN h1 ∧ XX12_begun h1 = some (s, h1) ∧ XX12_wires e h1 = some (n, h1) := by
    intro h1 e1
    have c1 : h1 143 = h 143 := e1 _ (by omega) (by omega)
    have c2 : h1 144 = h 144 := e1 _ (by omega) (by omega)
    have hM1 := MN_congr (by rw [c1]) (by rw [c1]) (by rw [c1]) c2 hM
    refine ⟨hM1, ?_, ?_⟩
    · rw [begun_eq hM1, sM_congr (by rw [c1]) (by rw [c1]), hs]
    · rw [wiresM_eq hM1 he, nM_congr (by rw [c1]) (by rw [c1]) c2, hn]
  unfold XX12_sorts XX12_sorts_L2
  -- what is sorted at first
  refine En_lup2 (fun _ l2 _ => (48 - l2).toNat) (fun l1 l2 h1 => l1 = e ∧ 0 ≤ l2 ∧ l2 ≤ 48 ∧ Eqy 186 187 h h1 ∧ ∀ w : Nat, (w : Int) < l2 → h1 187 w = if (w : Int) < s then 1 else 0) ?_ FU _ _ _ (by unfold FU; omega) ⟨rfl, by omega, by omega, fun _ _ _ => rfl, fun w hw => by omega⟩
  rintro self2 l1 l2 h1 ih2 ⟨rfl, c0, c1, e1, c2⟩
  unfold XX12_sorts_b2
  by_cases q : 48 ≤ l2
  · rw [if_pos q]
    have c2 : ∀ w : Nat, (w : Int) < n → h1 187 w = if (w : Int) < s then 1 else 0 := fun w hw => c2 w (by omega)
    unfold XX12_sorts_L35
    refine En_lup2 (fun _ l2 _ => (n - s - l2).toNat) (fun l1' l2 h2 => l1' = l1 ∧ Eqy 186 187 h h2 ∧ (∀ w : Nat, (w : Int) < n → h2 187 w = 0 ∨ h2 187 w = 1) ∧ Srt s n kd pn (fun i => h2 186 (40 * l1.toNat + i)) (fun w => decide (h2 187 w = 1)) l2) ?_ FU _ _ _ (by unfold FU; omega) ⟨rfl, e1, fun w hw => by rw [c2 w hw]; split <;> simp, ⟨by omega, by omega, TO_0, fun i hi => by omega, fun w hw => ?_, fun w hw hn2 => ?_, ?_⟩⟩
    rotate_left
    · dsimp only; rw [c2 w (by omega), if_pos hw]; rfl
    · dsimp only; rw [c2 w hn2, if_neg (by omega)]
      constructor
      · intro e; simp at e
      · rintro ⟨i, hi, _⟩; omega
    · rw [cntB_lo (m := s.toNat) (by omega) (fun i hi => by rw [c2 i (by omega), if_pos (by omega)]; rfl) (fun i hi hi2 => by rw [c2 i (by omega), if_neg (by omega)]; rfl)]
      omega
    rintro self35 l1' m0 h0 ih35 ⟨rfl, e0, z0, hS0⟩
    unfold XX12_sorts_b35
    have y0 := mnx h0 e0
    rw [inb_pos (by omega), show h0 144 = h 144 from e0 _ (by omega) (by omega), hg]
    by_cases q : n - s ≤ m0
    · rw [if_pos q]; exact En_some (Srt_done (by omega) hS0 (by omega))
    rw [if_neg q, y0.2.1, cal_eq]
    have hex : ∃ w : Nat, s ≤ w ∧ (w : Int) < n ∧ ¬ h0 187 w = 1 := by
      refine Classical.byContradiction (fun hno => ?_)
      have : cntB (fun w => decide (h0 187 w = 1)) n.toNat = n.toNat := cntB_all (fun i hi => by
        by_cases qs : (i : Int) < s
        · exact hS0.2.2.2.2.1 i qs
        · exact decide_eq_true (Classical.byContradiction (fun hf => hno ⟨i, by omega, by omega, hf⟩)))
      have := hS0.2.2.2.2.2.2; omega
    obtain ⟨w0, hw0, hw1, hw2⟩ := hex
    obtain ⟨v, hv0, hv1, hv2, hv3⟩ := ready_next hP hA (R := fun w => h0 187 w = 1) (fun w hw => of_decide_eq_true (hS0.2.2.2.2.1 w hw)) hw0 hw1 hw2
    unfold XX12_sorts_L50
    refine En_lup3 (fun _ _ l3 _ => (n - l3).toNat) (fun l1 l2 l3 h2 => l1 = l1' ∧ Eqy 186 187 h h2 ∧ (∀ w : Nat, (w : Int) < n → h2 187 w = 0 ∨ h2 187 w = 1) ∧ Srt s n kd pn (fun i => h2 186 (40 * l1'.toNat + i)) (fun w => decide (h2 187 w = 1)) l2 ∧ s ≤ l3 ∧ l3 ≤ n ∧ (∀ w, h0 187 w = 1 → h2 187 w = 1) ∧ (l3 ≤ v → m0 ≤ l2 ∧ ¬ h2 187 v = 1) ∧ (v < l3 → m0 + 1 ≤ l2)) ?_ FU _ _ _ _ (by unfold FU; omega) ⟨rfl, e0, z0, hS0, by omega, by omega, fun _ hh => hh, fun _ => ⟨by omega, hv2⟩, fun hh => by omega⟩
    rintro self50 l1 l2 l3 h2 ih ⟨rfl, e2, z2, hS, d0, d1, d2, d3, d4⟩
    unfold XX12_sorts_b50
    have y2 := mnx h2 e2
    rw [y2.2.2, cal_eq]
    by_cases q5 : n ≤ l3
    · rw [if_pos q5]
      have := d4 (by omega)
      have := hS.2.1
      exact ih35 _ _ _ (by omega) ⟨rfl, e2, z2, hS⟩
    rw [if_neg q5, inb_pos (by omega)]
    obtain ⟨g, rfl⟩ := Int.eq_ofNat_of_zero_le (show 0 ≤ l3 by omega)
    rw [Int.toNat_natCast]
    obtain ⟨hk, hpin⟩ := hP g (by omega) (by omega)
    have hb := pinC_b (kd g).toNat
    have hgo : ∀ (l2 : Int) (h2 : Hp), Eqy 186 187 h h2 → (∀ w : Nat, (w : Int) < n → h2 187 w = 0 ∨ h2 187 w = 1) → Srt s n kd pn (fun i => h2 186 (40 * l1.toNat + i)) (fun w => decide (h2 187 w = 1)) l2 → (∀ w, h0 187 w = 1 → h2 187 w = 1) → ((g : Int) < v → m0 ≤ l2 ∧ ¬ h2 187 v = 1) → ((v : Int) ≤ g → m0 + 1 ≤ l2) → En (XX12_sorts_p158 self35 self50 l1 l2 g h2) (fun _ h1 => Ord s n kd pn (fun i => h1 186 (40 * l1.toNat + i))) := by
      intro l2 h2 e2 z2 hS d2 d3 d4
      unfold XX12_sorts_p158
      rw [chk_pos (by omega)]
      exact ih _ _ _ _ (by omega) ⟨rfl, e2, z2, hS, by omega, by omega, d2, fun hh => d3 (by omega), fun hh => d4 (by omega)⟩
    -- its pins
    have hin : ∀ c0 : Int, (c0 = if h2 187 g = 0 then 1 else 0) → En (XX12_sorts_p73 self35 self50 l1 l2 g c0 h2) (fun _ h1 => Ord s n kd pn (fun i => h1 186 (40 * l1.toNat + i))) := by
      intro c0 hc0
      unfold XX12_sorts_p73 XX12_sorts_L78
      refine En_lup5 (fun _ _ _ _ l5 _ => (3 - l5).toNat) (fun l1' l2' l3' l4 l5 h3 => l1 = l1' ∧ l2 = l2' ∧ (g : Int) = l3' ∧ h2 = h3 ∧ 0 ≤ l5 ∧ l5 ≤ 3 ∧ (l4 = 0 ∨ l4 = 1) ∧ (l4 = 1 → h2 187 g = 0 ∧ ∀ k : Nat, (k : Int) < l5 → (k : Int) < pinC (kd g).toNat → h2 187 (pn (3 * g + k)).toNat = 1) ∧ (l4 = 0 → h2 187 g = 1 ∨ ∃ k : Nat, (k : Int) < pinC (kd g).toNat ∧ ¬ h2 187 (pn (3 * g + k)).toNat = 1)) ?_ FU _ _ _ _ _ _ (by unfold FU; omega) ⟨rfl, rfl, rfl, rfl, by omega, by omega, by rw [hc0]; split <;> simp, fun hh => ⟨by rw [hc0] at hh; split at hh; assumption; omega, fun k hk => by omega⟩, fun hh => by rw [hc0] at hh; have := z2 g (by omega); split at hh <;> omega⟩
      rintro self78 _ _ _ l4 l5 _ ih78 ⟨rfl, rfl, rfl, rfl, m0, m1, m2, m3, m4⟩
      unfold XX12_sorts_b78
      rw [chk_pos (by omega), chk_pos (by omega), inb_pos (by omega), show h2 145 = h 145 from e2 _ (by omega) (by omega), show (48 * l1 + (g : Int)).toNat = 48 * l1.toNat + g by omega, hkd, pinsOf_eq hk.1 hk.2, cal_eq]
      have fin : ∀ (hall : l4 = 1 → ∀ k : Nat, (k : Int) < pinC (kd g).toNat → h2 187 (pn (3 * g + k)).toNat = 1), En (XX12_sorts_p131 self35 self50 l1 l2 g l4 h2) (fun _ h1 => Ord s n kd pn (fun i => h1 186 (40 * l1.toNat + i))) := by
        intro hall
        unfold XX12_sorts_p131
        by_cases q4 : l4 = 0
        · rw [if_pos q4]
          refine hgo _ _ e2 z2 hS d2 (fun hh => d3 (by omega)) (fun hh => ?_)
          by_cases qv : (v : Int) = g
          · exfalso
            have e : v = g := by omega
            subst e
            rcases m4 q4 with m | ⟨k, hk, m⟩
            · exact (d3 (by omega)).2 m
            · exact m (d2 _ (hv3 k hk))
          · exact d4 (by omega)
        · have q41 : l4 = 1 := m2.resolve_left q4
          clear m4
          have z8 := hS.1
          have z9 := hS.2.1
          rw [if_neg q4, inb_pos (by omega), zb_1, hm_eq, chk_pos (by omega), chk_pos (by omega)]
          have hg0 := (m3 q41).1
          obtain ⟨u1, u2⟩ := Srt_push hP (by omega) hS (w := g) (by omega) (by omega) (by rw [hg0]; rfl) (fun k hk => decide_eq_true (hall q41 k hk)) (od2 := fun i => (wr (wr h2 187 g 1) 186 (40 * l1.toNat + l2.toNat) g) 186 (40 * l1.toNat + i)) (R2 := fun w => decide ((wr (wr h2 187 g 1) 186 (40 * l1.toNat + l2.toNat) g) 187 w = 1)) (fun i hi => by rw [wr_o (by omega), wr_ne (by omega)]) wr_at (fun c hc => by rw [wr_ne (by omega), wr_o hc]) (by rw [wr_ne (by omega), wr_at]; rfl)
          have z0 := hS.1
          rw [inb_pos (by omega), hm_eq, chk_pos (by omega), Int.toNat_natCast, show (40 * l1 + l2).toNat = 40 * l1.toNat + l2.toNat by omega]
          refine hgo _ _ (fun a h1 h3 => ?_) (fun w hw => ?_) u2 (fun w hw => ?_) (fun hh => ?_) (fun hh => ?_)
          · rw [wr_ne h1, wr_ne h3]; exact e2 a h1 h3
          · rw [wr_ne (by omega)]
            by_cases qw : w = g
            · rw [qw, wr_at]; exact Or.inr rfl
            · rw [wr_o qw]; exact z2 w hw
          · rw [wr_ne (by omega)]
            by_cases qw : w = g
            · rw [qw, wr_at]
            · rw [wr_o qw]; exact d2 w hw
          · have := d3 (by omega)
            refine ⟨by omega, ?_⟩
            rw [wr_ne (by omega), wr_o (by omega)]; exact this.2
          · by_cases qv : (v : Int) = g
            · have := d3 (by omega); omega
            · have := d4 (by omega); omega
      by_cases q3 : pinC (kd g).toNat ≤ l5
      · rw [if_pos q3]
        exact fin (fun h4 k hk => (m3 h4).2 k (by omega) hk)
      · rw [if_neg q3]
        by_cases q4 : l4 = 0
        · rw [if_pos q4]
          exact fin (fun h4 => by omega)
        · rw [if_neg q4]
          obtain ⟨j, rfl⟩ := Int.eq_ofNat_of_zero_le m0
          have hj := (hpin j (by omega)).1 (by omega)
          have q41 : l4 = 1 := m2.resolve_left q4
          clear m4
          rw [chk_pos (by omega), chk_pos (by omega), chk_pos (by omega), chk_pos (by omega), inb_pos (by omega), show h2 146 = h 146 from e2 _ (by omega) (by omega), show (3 * (48 * l1 + (g : Int)) + (j : Int)).toNat = 144 * l1.toNat + (3 * g + j) by omega, hpn, inb_pos (by omega), nm_eq, chk_pos (by omega)]
          have zz := z2 (pn (3 * g + j)).toNat (by omega)
          refine ih78 _ _ _ _ _ _ (by omega) ⟨rfl, rfl, rfl, rfl, by omega, by omega, zz, fun hh => ⟨(m3 q41).1, fun k hk hk2 => ?_⟩, fun hh => Or.inr ⟨j, by omega, by omega⟩⟩
          by_cases qk : k = j
          · rw [qk]; exact hh
          · exact (m3 q41).2 k (by omega) hk2
    by_cases qg : h2 187 g = 0
    · rw [if_pos qg]; exact hin 1 (by rw [if_pos qg])
    · rw [if_neg qg]; exact hin 0 (by rw [if_neg qg])
  · rw [if_neg q, (mnx h1 e1).2.1, cal_eq]
    have go : ∀ v : Int, (v = if l2 < s then 1 else 0) → En (XX12_sorts_p26 self2 l1 l2 l2 v h1) (fun _ h1 => Ord s n kd pn (fun i => h1 186 (40 * l1.toNat + i))) := by
      intro v hv
      unfold XX12_sorts_p26
      rw [inb_pos (by omega), zb_pos (by rw [hv]; split <;> simp), hm_eq, chk_pos (by omega)]
      refine ih2 _ _ _ (by omega) ⟨rfl, by omega, by omega, fun a h1 h2 => by rw [wr_ne h2]; exact e1 a h1 h2, fun w hw => ?_⟩
      by_cases qw : w = l2.toNat
      · rw [qw, wr_at, hv, show ((l2.toNat : Nat) : Int) = l2 by omega]
      · rw [wr_o qw]; exact c2 w (by omega)
    by_cases q2 : s ≤ l2
    · rw [if_pos q2]; exact go 0 (by rw [if_neg (by omega)])
    · rw [if_neg q2]; exact go 1 (by rw [if_pos (by omega)])
