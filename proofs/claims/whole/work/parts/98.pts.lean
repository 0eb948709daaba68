theorem mend2_wk {g : Hp} (w : Wk g) (P : Prep g) (a b c : Int) {m : Int} (hm : 1 ≤ m ∧ m ≤ 3) : En (XX12_mendings a b c m g) (fun _ h1 => Prep h1 ∧ (∀ q : Nat, (q : Int) < 2 ^ m.toNat → ∀ part : Nat, part < 4 → h1 190 (4 * q + part) = mdW g (fcK (p3 a b c) m.toNat q) part) ∧ ∀ a i, ¬ ((188 ≤ a ∧ a ≤ 190) ∨ (a = 143 ∧ 63 ≤ i ∧ i ≤ 64)) → h1 a i = g a i) := by
  have hMS := Wk_MS w
  refine En_mono (mendings_ok hMS P.1 P.2.1 P.2.2 hm) (fun r h1 e hr => ?_)
  have f := fr_XX12_mendings e
  obtain ⟨r1, r2, r3, r4⟩ := hr
  have g1 := f 143 1 (by omega)
  have g2 := f 143 2 (by omega)
  have g4 : h1 144 = g 144 := funext (fun i => f 144 i (by omega))
  have g5 : h1 145 = g 145 := funext (fun i => f 145 i (by omega))
  have g6 : h1 146 = g 146 := funext (fun i => f 146 i (by omega))
  refine ⟨?_, fun q hq part hp => by rw [r2 q hq part hp, mdM_mdW w.1 w.2.1 w.2.2], f⟩
  have hlt := MN_lt hMS.1.1 (e := 1) (by omega)
  unfold Prep
  rw [sM_congr g1 g2, nM_congr g1 g2 g4, nM_congr g1 g2 g4, kM_congr g5, kM_congr g5, pM_congr g6, pM_congr g6, show (fun i => h1 186 i) = fun i => g 186 i from funext (fun i => f 186 i (by omega))]
  refine ⟨P.1, r3, fun part hp => WEq_agree (hMS.1.2 1 (by omega)).1 (by omega) (fun w hw => ?_) (P.2.2 part hp)⟩
  show h1 188 _ = g 188 _
  exact r4 _ (by simp; omega)
/-- what the model's search leaves as it was; nothing found yet -/
def KM (g f : Hp) : Prop := ∀ a i, ¬ ((188 ≤ a ∧ a ≤ 190) ∨ (a = 143 ∧ 63 ≤ i ∧ i ≤ 64)) → f a i = g a i
def KM1 (g f : Hp) : Prop := ∀ a i, ¬ ((188 ≤ a ∧ a ≤ 190) ∨ a = 158 ∨ (a = 143 ∧ (i = 19 ∨ (63 ≤ i ∧ i ≤ 64)))) → f a i = g a i
theorem EN_cases {n : Nat} {h : Hp} (hI : Inv n h) (a b c m : Int) : EN h a b c m ↔ ∀ cs : Nat, cs < (h 37 0).toNat → h 149 cs = 0 → ∃ q : Nat, (q : Int) < 2 ^ m.toNat ∧ tb (mdW h (fcK (p3 a b c) m.toNat q) ((cs / 64 : Nat) : Int)) (cs % 64) = true := by
  have hC := hI.2.2.2.1
  obtain ⟨n0, n1, n2, n3, n4⟩ := Cas_num hC.1 (Inv_N0 hI)
  unfold EN
  constructor
  · intro e cs hcs hf
    have hl := hC.2.2 cs (by omega)
    rw [decide_eq_true hf] at hl
    exact e (cs / 64) (by omega) (cs % 64) (by omega) hl
  · intro e part hp k hk ht
    have hlt := hC.1.2.2.2.2 part (by omega) k hk ht
    have hl := hC.2.2 (64 * part + k) hlt
    rw [live_at h hk, ht] at hl
    have := e (64 * part + k) (by omega) (of_decide_eq_true hl.symm)
    rw [show (64 * part + k) / 64 = part by omega, show (64 * part + k) % 64 = k by omega] at this
    exact this
theorem areE {n : Nat} {h g : Hp} (hI : Inv n h) (w : Wk g) (P : Prep g) (e : ∀ a i, ((18 ≤ a ∧ a ≤ 21) ∨ (28 ≤ a ∧ a ≤ 31) ∨ a = 149 ∨ (a = 143 ∧ 1 ≤ i ∧ i ≤ 2)) → g a i = h a i) (a b c : Int) {m : Int} (hm : 1 ≤ m ∧ m ≤ 3) : En (XX12_areEnough a b c m g) (fun r f => (r = 1 ∧ EN h a b c m ∧ f 143 19 = m ∧ (∀ k, k < 3 → f 158 k = p3 a b c k) ∧ KM1 g f) ∨ (r = 0 ∧ ¬ EN h a b c m ∧ Prep f ∧ KM g f)) := by
  unfold XX12_areEnough
  refine En_cal (mend2_wk w P a b c hm) (fun r1 g1 e1 hr => ?_)
  obtain ⟨P1, m1, k1⟩ := hr
  have w1 : Wk g1 := Wk_tr (fun a i hh => k1 a i (by omega)) w
  obtain ⟨r6, h6, e6, rfl, l6⟩ := lacking_ok (Wk_MS w1).1.1 (n := m) hm
  rw [e6, cal_eq]
  obtain ⟨np, npn, _⟩ := num_pow hI
  have hnum := num_le hI
  have sm : sM h6 = sM h := sM_congr (by rw [k1 143 1 (by omega), e 143 1 (by omega)]) (by rw [k1 143 2 (by omega), e 143 2 (by omega)])
  rw [sm, ← npn] at l6
  have hEN : EN h a b c m ↔ ∀ cs : Nat, cs < (h 37 0).toNat → ¬ (h6 149 cs = 0 ∧ ∀ q : Nat, (q : Int) < 2 ^ m.toNat → ¬ MdM h6 q cs) := by
    rw [EN_cases hI]
    refine forall_congr' (fun cs => forall_congr' (fun hcs => ?_))
    have e149 : h6 149 cs = h 149 cs := by rw [k1 149 cs (by omega), e 149 cs (by omega)]
    have eM : ∀ q : Nat, (q : Int) < 2 ^ m.toNat → (MdM h6 q cs ↔ tb (mdW h (fcK (p3 a b c) m.toNat q) ((cs / 64 : Nat) : Int)) (cs % 64) = true) := fun q hq => by
      unfold MdM; rw [m1 q hq (cs / 64) (by omega), mdW_congr (h := h) (fun a i hh => e a i (by omega))]
    rw [e149]
    constructor
    · rintro t ⟨t1, t2⟩
      obtain ⟨q, hq, t3⟩ := t t1
      exact t2 q hq ((eM q hq).2 t3)
    · intro t t1
      refine Classical.byContradiction (fun hno => t ⟨t1, fun q hq t2 => hno ⟨q, hq, (eM q hq).1 t2⟩⟩)
  by_cases q : r6 = 1000
  · rw [if_pos q, hm_eq, inb_pos (by decide), hm_eq, inb_pos (by decide), hm_eq, inb_pos (by decide), hm_eq, zb_1]
    have hen : EN h a b c m := hEN.2 (by
      rcases l6 with ⟨_, l6⟩ | ⟨cs, t1, t2, _⟩
      · exact l6
      · omega)
    refine En_some (Or.inl ⟨rfl, hen, by rw [wq_ne (by omega), wq_ne (by omega), wq_ne (by omega), wr_at], fun k hk => ?_, fun x i hh => by rw [wq_ne (by omega), wq_ne (by omega), wq_ne (by omega), wq_ne (by omega)]; exact k1 x i (by omega)⟩)
    rw [show (0 : Int).toNat = 0 from rfl, show (1 : Int).toNat = 1 from rfl, show (2 : Int).toNat = 2 from rfl, wr_row, wr_row, wr_row]
    unfold p3
    rcases (by omega : k = 0 ∨ k = 1 ∨ k = 2) with rfl | rfl | rfl <;> simp
  · rw [if_neg q, zb_0]
    refine En_some (Or.inr ⟨rfl, fun t => ?_, P1, k1⟩)
    rcases l6 with ⟨t1, _⟩ | ⟨cs, t1, t2, t3, _⟩
    · exact q t1
    · exact hEN.1 t cs t1 t3
/-- the model's answer -/
def PM (h g0 : Hp) (n r : Int) (F : Hp) : Prop := ∃ r', Fst h n r' (F 158) ∧ ((r' = 0 ∧ r = -4 ∧ KM g0 F) ∨ (r' ≠ 0 ∧ r = r' ∧ F 143 19 = r ∧ KM1 g0 F))
section PTS
variable {m : Nat} {h g0 : Hp}
theorem pts_step (hI : Inv m h) (w0 : Wk g0) (e : ∀ a i, ((18 ≤ a ∧ a ≤ 21) ∨ (28 ≤ a ∧ a ≤ 31) ∨ a = 149 ∨ (a = 143 ∧ 1 ≤ i ∧ i ≤ 2)) → g0 a i = h a i) {g : Hp} (k : KM g0 g) (P : Prep g) (a b c : Int) {s : Int} (hs : 1 ≤ s ∧ s ≤ 3) : En (XX12_areEnough a b c s g) (fun r f => (r = 1 ∧ EN h a b c s ∧ f 143 19 = s ∧ (∀ k, k < 3 → f 158 k = p3 a b c k) ∧ KM1 g0 f) ∨ (r = 0 ∧ ¬ EN h a b c s ∧ Prep f ∧ KM g0 f)) := by
  refine En_mono (areE hI (Wk_tr (fun a i hh => k a i (by omega)) w0) P (fun a i hh => by rw [k a i (by omega)]; exact e a i hh) a b c hs) (fun r f _ hr => ?_)
  rcases hr with ⟨t1, t2, t3, t4, t5⟩ | ⟨t1, t2, t3, t4⟩
  · exact Or.inl ⟨t1, t2, t3, t4, fun x i hh => by rw [t5 x i hh]; exact k x i (by omega)⟩
  · exact Or.inr ⟨t1, t2, t3, fun x i hh => by rw [t4 x i hh]; exact k x i hh⟩
theorem pts_beg (w0 : Wk g0) (hs : sM g0 = sc 18 h) {g : Hp} (k : KM g0 g) : XX12_begun g = some (sc 18 h, g) := by
  rw [begun_eq (MN_congr (k 143 1 (by omega)) (k 143 2 (by omega)) (k 143 3 (by omega)) (funext (fun i => k 144 i (by omega))) (Wk_MS w0).1.1), sM_congr (k 143 1 (by omega)) (k 143 2 (by omega)), hs]
theorem pts3 (hI : Inv m h) (w0 : Wk g0) (e : ∀ a i, ((18 ≤ a ∧ a ≤ 21) ∨ (28 ≤ a ∧ a ≤ 31) ∨ a = 149 ∨ (a = 143 ∧ 1 ≤ i ∧ i ≤ 2)) → g0 a i = h a i) (hs : sM g0 = sc 18 h) {n : Int} (hn : 1 ≤ n ∧ n ≤ 3) (s1 : ∀ f, Ss1 h 0 f) (s2 : 1 < n → ∀ f, Ss2 h 0 f) {g : Hp} (k : KM g0 g) (P : Prep g) : En (XX12_points_p114 n (wn 18 h) g) (PM h g0 n) := by
  have l0 := Pl_lt (by decide) (Inv_N0 hI)
  unfold XX12_points_p114
  rw [pts_beg w0 hs k, cal_eq]
  unfold XX12_points_L119
  refine En_lup3 (fun _ _ l3 _ => (48 - l3).toNat) (fun l1 l2 l3 g => n = l1 ∧ wn 18 h = l2 ∧ KM g0 g ∧ Prep g ∧ sc 18 h ≤ l3 ∧ l3 ≤ wn 18 h ∧ ∀ x y z, sc 18 h ≤ x → x < y → y < z → z < wn 18 h → x < l3 → ¬ EN h x y z 3) ?_ FU _ _ _ _ (by unfold FU; omega) ⟨rfl, rfl, k, P, by omega, by omega, fun x y z h1 _ _ _ h3 => by omega⟩
  clear k P g
  rintro self119 l1 l2 l3 g ih119 ⟨rfl, rfl, k, P, c0, c1, c2⟩
  unfold XX12_points_b119
  by_cases q : wn 18 h ≤ l3
  · rw [if_pos q]
    exact En_some ⟨0, Or.inl ⟨rfl, s1 _, fun t => s2 t _, fun _ => Or.inl ⟨rfl, fun x y z h1 h2 h3 h4 => c2 x y z h1 h2 h3 h4 (by omega)⟩⟩, Or.inl ⟨rfl, rfl, k⟩⟩
  rw [if_neg q]
  by_cases q2 : n ≤ 2
  · rw [if_pos q2]
    exact En_some ⟨0, Or.inl ⟨rfl, s1 _, fun t => s2 t _, fun t => by omega⟩, Or.inl ⟨rfl, rfl, k⟩⟩
  rw [if_neg q2, chk_pos (by omega), nm_eq]
  unfold XX12_points_L134
  refine En_lup4 (fun _ _ _ l4 _ => (49 - l4).toNat) (fun l1 l2 l3' l4 g => n = l1 ∧ wn 18 h = l2 ∧ l3 = l3' ∧ KM g0 g ∧ Prep g ∧ l3 < l4 ∧ l4 ≤ wn 18 h ∧ (∀ y z, l3 < y → y < z → z < wn 18 h → y < l4 → ¬ EN h l3 y z 3)) ?_ FU _ _ _ _ _ (by unfold FU; omega) ⟨rfl, rfl, rfl, k, P, by omega, by omega, fun y z h1 h2 h3 h4 => by omega⟩
  clear k P g
  rintro self134 l1 l2 l3' l4 g ih134 ⟨rfl, rfl, rfl, k, P, d0, d1, d2⟩
  unfold XX12_points_b134
  by_cases q4 : wn 18 h ≤ l4
  · rw [if_pos q4, chk_pos (by omega)]
    refine ih119 _ _ _ _ (by omega) ⟨rfl, rfl, k, P, by omega, by omega, fun x y z h1 h2 h3 h4 h5 => ?_⟩
    by_cases qx : x = l3
    · subst qx; exact d2 y z h2 h3 h4 (by omega)
    · exact c2 x y z h1 h2 h3 h4 (by omega)
  rw [if_neg q4, chk_pos (by omega), nm_eq]
  unfold XX12_points_L146
  refine En_lup5 (fun _ _ _ _ l5 _ => (49 - l5).toNat) (fun l1 l2 l3' l4' l5 g => n = l1 ∧ wn 18 h = l2 ∧ l3 = l3' ∧ l4 = l4' ∧ KM g0 g ∧ Prep g ∧ l4 < l5 ∧ l5 ≤ wn 18 h ∧ (∀ z, l4 < z → z < l5 → ¬ EN h l3 l4 z 3)) ?_ FU _ _ _ _ _ _ (by unfold FU; omega) ⟨rfl, rfl, rfl, rfl, k, P, by omega, by omega, fun z h1 h2 => by omega⟩
  clear k P g
  rintro self146 l1 l2 l3' l4' l5 g ih146 ⟨rfl, rfl, rfl, rfl, k, P, b0, b1, b2⟩
  unfold XX12_points_b146
  by_cases q5 : wn 18 h ≤ l5
  · rw [if_pos q5, chk_pos (by omega)]
    refine ih134 _ _ _ _ _ (by omega) ⟨rfl, rfl, rfl, k, P, by omega, by omega, fun y z h1 h2 h3 h4 => ?_⟩
    by_cases qx : y = l4
    · subst qx; exact b2 z h2 (by omega)
    · exact d2 y z h1 h2 h3 (by omega)
  rw [if_neg q5]
  refine En_cal (pts_step hI w0 e k P l3 l4 l5 (by decide)) (fun r f e2 hr => ?_)
  rcases hr with ⟨rfl, t1, t2, t3, t4⟩ | ⟨rfl, t1, t2, t3⟩
  · rw [if_neg n10]
    refine En_some ⟨3, Or.inr (Or.inr (Or.inr ⟨rfl, by omega, s1 _, s2 (by omega) _, Or.inr ⟨rfl, l3, l4, l5, c0, d0, b0, by omega, t1, fun x y z h1 h2 h3 h4 h5 => ?_, t3⟩⟩)), Or.inr ⟨by decide, rfl, t2, t4⟩⟩
    rcases h5 with h5 | ⟨rfl, h5 | ⟨rfl, h5⟩⟩
    · exact c2 x y z h1 h2 h3 h4 h5
    · exact d2 y z h2 h3 h4 h5
    · exact b2 z h3 h5
  · rw [if_pos rfl, chk_pos (by omega)]
    refine ih146 _ _ _ _ _ _ (by omega) ⟨rfl, rfl, rfl, rfl, t3, t2, by omega, by omega, fun z h1 h2 => ?_⟩
    by_cases qx : z = l5
    · subst qx; exact t1
    · exact b2 z h1 (by omega)
theorem pts2 (hI : Inv m h) (w0 : Wk g0) (e : ∀ a i, ((18 ≤ a ∧ a ≤ 21) ∨ (28 ≤ a ∧ a ≤ 31) ∨ a = 149 ∨ (a = 143 ∧ 1 ≤ i ∧ i ≤ 2)) → g0 a i = h a i) (hs : sM g0 = sc 18 h) {n : Int} (hn : 1 ≤ n ∧ n ≤ 3) (s1 : ∀ f, Ss1 h 0 f) {g : Hp} (k : KM g0 g) (P : Prep g) : En (XX12_points_L67 n (wn 18 h) (sc 18 h) g) (PM h g0 n) := by
  have l0 := Pl_lt (by decide) (Inv_N0 hI)
  unfold XX12_points_L67
  refine En_lup3 (fun _ _ l3 _ => (48 - l3).toNat) (fun l1 l2 l3 g => n = l1 ∧ wn 18 h = l2 ∧ KM g0 g ∧ Prep g ∧ sc 18 h ≤ l3 ∧ l3 ≤ wn 18 h ∧ ∀ x y, sc 18 h ≤ x → x < y → y < wn 18 h → x < l3 → ¬ EN h x y (-1) 2) ?_ FU _ _ _ _ (by unfold FU; omega) ⟨rfl, rfl, k, P, by omega, by omega, fun x y h1 _ _ h3 => by omega⟩
  clear k P g
  rintro self67 l1 l2 l3 g ih67 ⟨rfl, rfl, k, P, c0, c1, c2⟩
  unfold XX12_points_b67
  by_cases q : wn 18 h ≤ l3
  · rw [if_pos q]
    exact pts3 hI w0 e hs hn s1 (fun _ f => Or.inl ⟨rfl, fun x y h1 h2 h3 => c2 x y h1 h2 h3 (by omega)⟩) k P
  rw [if_neg q]
  by_cases q2 : n ≤ 1
  · rw [if_pos q2]
    exact pts3 hI w0 e hs hn s1 (fun t => by omega) k P
  rw [if_neg q2, chk_pos (by omega), nm_eq]
  unfold XX12_points_L82
  refine En_lup4 (fun _ _ _ l4 _ => (49 - l4).toNat) (fun l1 l2 l3' l4 g => n = l1 ∧ wn 18 h = l2 ∧ l3 = l3' ∧ KM g0 g ∧ Prep g ∧ l3 < l4 ∧ l4 ≤ wn 18 h ∧ (∀ y, l3 < y → y < l4 → ¬ EN h l3 y (-1) 2)) ?_ FU _ _ _ _ _ (by unfold FU; omega) ⟨rfl, rfl, rfl, k, P, by omega, by omega, fun y h1 h2 => by omega⟩
  clear k P g
  rintro self82 l1 l2 l3' l4 g ih82 ⟨rfl, rfl, rfl, k, P, d0, d1, d2⟩
  unfold XX12_points_b82
  by_cases q4 : wn 18 h ≤ l4
  · rw [if_pos q4, chk_pos (by omega)]
    refine ih67 _ _ _ _ (by omega) ⟨rfl, rfl, k, P, by omega, by omega, fun x y h1 h2 h3 h4 => ?_⟩
    by_cases qx : x = l3
    · subst qx; exact d2 y h2 (by omega)
    · exact c2 x y h1 h2 h3 (by omega)
  rw [if_neg q4]
  refine En_cal (pts_step hI w0 e k P l3 l4 (-1) (by decide)) (fun r f e2 hr => ?_)
  rcases hr with ⟨rfl, t1, t2, t3, t4⟩ | ⟨rfl, t1, t2, t3⟩
  · rw [if_neg n10]
    refine En_some ⟨2, Or.inr (Or.inr (Or.inl ⟨rfl, by omega, s1 _, Or.inr ⟨rfl, l3, l4, c0, d0, by omega, t1, fun x y h1 h2 h3 h5 => ?_, t3⟩⟩)), Or.inr ⟨by decide, rfl, t2, t4⟩⟩
    rcases h5 with h5 | ⟨rfl, h5⟩
    · exact c2 x y h1 h2 h3 h5
    · exact d2 y h2 h5
  · rw [if_pos rfl, chk_pos (by omega)]
    refine ih82 _ _ _ _ _ (by omega) ⟨rfl, rfl, rfl, t3, t2, by omega, by omega, fun z h1 h2 => ?_⟩
    by_cases qx : z = l4
    · subst qx; exact t1
    · exact d2 z h1 (by omega)
theorem pts1 (hI : Inv m h) (w0 : Wk g0) (e : ∀ a i, ((18 ≤ a ∧ a ≤ 21) ∨ (28 ≤ a ∧ a ≤ 31) ∨ a = 149 ∨ (a = 143 ∧ 1 ≤ i ∧ i ≤ 2)) → g0 a i = h a i) (hs : sM g0 = sc 18 h) {n : Int} (hn : 1 ≤ n ∧ n ≤ 3) (P : Prep g0) : En (XX12_points_L38 n (wn 18 h) (sc 18 h) g0) (PM h g0 n) := by
  have l0 := Pl_lt (by decide) (Inv_N0 hI)
  unfold XX12_points_L38
  refine En_lup3 (fun _ _ l3 _ => (48 - l3).toNat) (fun l1 l2 l3 g => n = l1 ∧ wn 18 h = l2 ∧ KM g0 g ∧ Prep g ∧ sc 18 h ≤ l3 ∧ l3 ≤ wn 18 h ∧ ∀ x, sc 18 h ≤ x → x < l3 → ¬ EN h x (-1) (-1) 1) ?_ FU _ _ _ _ (by unfold FU; omega) ⟨rfl, rfl, fun _ _ _ => rfl, P, by omega, by omega, fun x h1 h3 => by omega⟩
  clear P
  rintro self38 l1 l2 l3 g ih38 ⟨rfl, rfl, k, P, c0, c1, c2⟩
  unfold XX12_points_b38
  by_cases q : wn 18 h ≤ l3
  · rw [if_pos q, pts_beg w0 hs k, cal_eq]
    exact pts2 hI w0 e hs hn (fun f => Or.inl ⟨rfl, fun x h1 h2 => c2 x h1 (by omega)⟩) k P
  rw [if_neg q]
  refine En_cal (pts_step hI w0 e k P l3 (-1) (-1) (by decide)) (fun r f e2 hr => ?_)
  rcases hr with ⟨rfl, t1, t2, t3, t4⟩ | ⟨rfl, t1, t2, t3⟩
  · rw [if_neg n10]
    exact En_some ⟨1, Or.inr (Or.inl ⟨rfl, Or.inr ⟨rfl, l3, c0, by omega, t1, c2, t3⟩⟩), Or.inr ⟨by decide, rfl, t2, t4⟩⟩
  · rw [if_pos rfl, chk_pos (by omega)]
    refine ih38 _ _ _ _ (by omega) ⟨rfl, rfl, t3, t2, by omega, by omega, fun z h1 h2 => ?_⟩
    by_cases qx : z = l3
    · subst qx; exact t1
    · exact c2 z h1 (by omega)
end PTS
theorem Ss1_01 {h : Hp} {f f2 : Nat → Int} (a : Ss1 h 0 f) (b : Ss1 h 1 f2) : False := by
  rcases a with ⟨_, a⟩ | ⟨a, _⟩
  · rcases b with ⟨b, _⟩ | ⟨_, x, b1, b2, b3, _⟩
    · cases b
    · exact a x b1 b2 b3
  · cases a
theorem Ss2_01 {h : Hp} {f f2 : Nat → Int} (a : Ss2 h 0 f) (b : Ss2 h 1 f2) : False := by
  rcases a with ⟨_, a⟩ | ⟨a, _⟩
  · rcases b with ⟨b, _⟩ | ⟨_, x, y, b1, b2, b3, b4, _⟩
    · cases b
    · exact a x y b1 b2 b3 b4
  · cases a
theorem Ss3_01 {h : Hp} {f f2 : Nat → Int} (a : Ss3 h 0 f) (b : Ss3 h 1 f2) : False := by
  rcases a with ⟨_, a⟩ | ⟨a, _⟩
  · rcases b with ⟨b, _⟩ | ⟨_, x, y, z, b1, b2, b3, b4, b5, _⟩
    · cases b
    · exact a x y z b1 b2 b3 b4 b5
  · cases a
theorem Ss1_11 {h : Hp} {f f2 : Nat → Int} (a : Ss1 h 1 f) (b : Ss1 h 1 f2) : ∀ k, k < 3 → f k = f2 k := by
  rcases a with ⟨a, _⟩ | ⟨_, x, a1, a2, a3, a4, a5⟩
  · cases a
  rcases b with ⟨b, _⟩ | ⟨_, y, b1, b2, b3, b4, b5⟩
  · cases b
  have : x = y := by
    rcases Int.lt_trichotomy x y with t | t | t
    · exact absurd a3 (b4 x a1 t)
    · exact t
    · exact absurd b3 (a4 y b1 t)
  subst this
  exact fun k hk => by rw [a5 k hk, b5 k hk]
theorem Ss2_11 {h : Hp} {f f2 : Nat → Int} (a : Ss2 h 1 f) (b : Ss2 h 1 f2) : ∀ k, k < 3 → f k = f2 k := by
  rcases a with ⟨a, _⟩ | ⟨_, x, y, a1, a2, a3, a4, a5, a6⟩
  · cases a
  rcases b with ⟨b, _⟩ | ⟨_, x2, y2, b1, b2, b3, b4, b5, b6⟩
  · cases b
  have n1 : ¬ (x < x2 ∨ (x = x2 ∧ y < y2)) := fun t => b5 x y a1 a2 a3 t a4
  have n2 : ¬ (x2 < x ∨ (x2 = x ∧ y2 < y)) := fun t => a5 x2 y2 b1 b2 b3 t b4
  have e1 : x = x2 := by omega
  have e2 : y = y2 := by omega
  subst e1 e2
  exact fun k hk => by rw [a6 k hk, b6 k hk]
theorem Ss3_11 {h : Hp} {f f2 : Nat → Int} (a : Ss3 h 1 f) (b : Ss3 h 1 f2) : ∀ k, k < 3 → f k = f2 k := by
  rcases a with ⟨a, _⟩ | ⟨_, x, y, z, a1, a2, a3, a4, a5, a6, a7⟩
  · cases a
  rcases b with ⟨b, _⟩ | ⟨_, x2, y2, z2, b1, b2, b3, b4, b5, b6, b7⟩
  · cases b
  have n1 : ¬ (x < x2 ∨ (x = x2 ∧ (y < y2 ∨ (y = y2 ∧ z < z2)))) := fun t => b6 x y z a1 a2 a3 a4 t a5
  have n2 : ¬ (x2 < x ∨ (x2 = x ∧ (y2 < y ∨ (y2 = y ∧ z2 < z)))) := fun t => a6 x2 y2 z2 b1 b2 b3 b4 t b5
  have e1 : x = x2 := by omega
  have e2 : y = y2 := by omega
  have e3 : z = z2 := by omega
  subst e1 e2 e3
  exact fun k hk => by rw [a7 k hk, b7 k hk]
theorem Fst_uniq {h : Hp} {n r r2 : Int} {f f2 : Nat → Int} (a : Fst h n r f) (b : Fst h n r2 f2) : r = r2 ∧ (r ≠ 0 → ∀ k, k < 3 → f k = f2 k) := by
  rcases a with ⟨rfl, a1, a2, a3⟩ | ⟨rfl, a1⟩ | ⟨rfl, a0, a1, a2⟩ | ⟨rfl, a0, a1, a2, a3⟩ <;> rcases b with ⟨rfl, b1, b2, b3⟩ | ⟨rfl, b1⟩ | ⟨rfl, b0, b1, b2⟩ | ⟨rfl, b0, b1, b2, b3⟩
  · exact ⟨rfl, fun t => absurd rfl t⟩
  · exact (Ss1_01 a1 b1).elim
  · exact (Ss2_01 (a2 b0) b2).elim
  · exact (Ss3_01 (a3 b0) b3).elim
  · exact (Ss1_01 b1 a1).elim
  · exact ⟨rfl, fun _ => Ss1_11 a1 b1⟩
  · exact (Ss1_01 b1 a1).elim
  · exact (Ss1_01 b1 a1).elim
  · exact (Ss2_01 (b2 a0) a2).elim
  · exact (Ss1_01 a1 b1).elim
  · exact ⟨rfl, fun _ => Ss2_11 a2 b2⟩
  · exact (Ss2_01 b2 a2).elim
  · exact (Ss3_01 (b3 a0) a3).elim
  · exact (Ss1_01 a1 b1).elim
  · exact (Ss2_01 a2 b2).elim
  · exact ⟨rfl, fun _ => Ss3_11 a3 b3⟩
