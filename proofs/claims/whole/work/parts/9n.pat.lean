/-- the patch as both sides keep it -/
theorem Pat_mk {f : Hp} {m n : Nat} {F : Nat → Nat} {pt tw : Nat → Int} (hm : m < 4) (hn : 1 ≤ n ∧ n ≤ 2) (hF : ∀ k, k < n → F k ≤ onN m) (e1 : f 56 1 = 0 ∧ f 56 3 = (n : Int) ∧ f 56 5 = (m : Int) ∧ f 56 8 = ((nN m n F : Nat) : Int)) (e2 : f 143 24 = 0 ∧ f 143 25 = (n : Int) ∧ f 143 26 = (m : Int) ∧ f 143 27 = ((nN m n F : Nat) : Int)) (ep : ∀ k, k < n → f 57 k = pt k ∧ f 159 k = pt k ∧ sc 18 f ≤ pt k ∧ pt k < wn 18 f) (ef : ∀ k, k < n → f 59 k = ((F k : Nat) : Int) ∧ f 161 k = ((F k : Nat) : Int) ∧ f 60 k = (tR m F k).1) (elt : n = 2 → pt 0 < pt 1) (et : ∀ j, j < m → f 58 j = tw j ∧ f 160 j = tw j ∧ 0 ≤ tw j ∧ tw j < wn 18 f) (t1 : TS 61 m n F f) (t2 : TS 162 m n F f) (hh : ∀ B, Hang (sc 18 f) (wn 18 f) (f 19) (f 20) B → ∀ j k : Nat, j < m → k < n → B (tw j).toNat (pt k).toNat = false) : Pat f := by
  obtain ⟨hI, _, h255, _, _, _⟩ := on_eq m hm
  have c0 := c_le4 hm (hF 0 (by omega))
  have l0 := trN_ok hm 9 (F 0) 0 (hF 0 (by omega)) (by omega)
  have c1 : n = 2 → cN m (F 1) ≤ 4 := fun t => c_le4 hm (hF 1 (by omega))
  have l1 : n = 2 → _ := fun t => trN_ok hm 9 (F 1) (cN m (F 0)) (hF 1 (by omega)) (by have := c1 t; omega)
  have nd : ∀ i, i < nN m n F → (i < cN m (F 0) ∧ ∃ e, NdI m 0 i e ∧ (f 61 i = e.1 ∧ f 62 i = e.2.1 ∧ f 63 i = e.2.2 ∧ f 64 i = 0) ∧ (f 162 i = e.1 ∧ f 163 i = e.2.1 ∧ f 164 i = e.2.2 ∧ f 165 i = 0 ∧ f 166 i = -2)) ∨ (n = 2 ∧ cN m (F 0) ≤ i ∧ ∃ e, NdI m (cN m (F 0)) (i - cN m (F 0)) e ∧ (f 61 i = e.1 ∧ f 62 i = e.2.1 ∧ f 63 i = e.2.2 ∧ f 64 i = 1) ∧ (f 162 i = e.1 ∧ f 163 i = e.2.1 ∧ f 164 i = e.2.2 ∧ f 165 i = 1 ∧ f 166 i = -2)) := by
    intro i hi
    by_cases q : i < cN m (F 0)
    · have hl : i < (trN m 9 (F 0) 0).2.length := by rw [l0.1]; exact q
      have he : (trN m 9 (F 0) 0).2[i]? = some ((trN m 9 (F 0) 0).2[i]) := List.getElem?_eq_getElem hl
      have a := t1.1 i _ he
      have b := t2.1 i _ he
      rw [Nat.zero_add] at a b
      exact Or.inl ⟨q, _, l0.2.2.2 i _ he, ⟨a.1, a.2.1, a.2.2.1, a.2.2.2.1⟩, b⟩
    · have n2 : n = 2 := by
        refine Decidable.byContradiction (fun t => ?_)
        unfold nN at hi; rw [if_neg t] at hi; omega
      have hi2 : i - cN m (F 0) < cN m (F 1) := by unfold nN at hi; rw [if_pos n2] at hi; omega
      have l1 := l1 n2
      have hl : i - cN m (F 0) < (trN m 9 (F 1) (cN m (F 0))).2.length := by rw [l1.1]; exact hi2
      have he : (trN m 9 (F 1) (cN m (F 0))).2[i - cN m (F 0)]? = some ((trN m 9 (F 1) (cN m (F 0))).2[i - cN m (F 0)]) := List.getElem?_eq_getElem hl
      have a := t1.2 n2 _ _ he
      have b := t2.2 n2 _ _ he
      rw [show cN m (F 0) + (i - cN m (F 0)) = i by omega] at a b
      exact Or.inr ⟨n2, by omega, _, l1.2.2.2 _ _ he, ⟨a.1, a.2.1, a.2.2.1, a.2.2.2.1⟩, b⟩
  have own : ∀ i, i < nN m n F → f 64 i = if i < cN m (F 0) then 0 else 1 := fun i hi => by
    rcases nd i hi with ⟨u, e, _, v, _⟩ | ⟨_, u, e, _, v, _⟩
    · rw [if_pos u]; exact v.2.2.2
    · rw [if_neg (by omega)]; exact v.2.2.2
  have part : ∀ (i s : Nat) (x : Int), i < nN m n F → ((s = 0 ∧ i < cN m (F 0)) ∨ (s = cN m (F 0) ∧ cN m (F 0) ≤ i)) → PrI m s (i - s) x → PartOK f i x := by
    intro i s x hi hs hp
    unfold PartOK
    rw [e1.2.2.1]
    rcases hp with hp | hp
    · left
      refine ⟨by omega, by omega, ?_⟩
      rw [own i hi, own x.toNat (by omega)]
      by_cases t : i < cN m (F 0)
      · rw [if_pos t, if_pos (by omega)]
      · rw [if_neg t, if_neg (by omega)]
    · exact Or.inr hp
  have nN8 : nN m n F ≤ 8 := by
    unfold nN
    split
    · next t => have := c1 t; omega
    · omega
  refine ⟨⟨by rw [e1.1, e2.1], Or.inl e1.1⟩, ⟨by rw [e1.2.1, e2.2.1], by rw [e1.2.1]; omega, by rw [e1.2.1]; omega⟩, ⟨by rw [e1.2.2.1, e2.2.2.1], by rw [e1.2.2.1]; omega, by rw [e1.2.2.1]; omega⟩, ⟨by rw [e1.2.2.2, e2.2.2.2], by rw [e1.2.2.2]; omega, by rw [e1.2.2.2]; omega⟩, fun k hk => ?_, fun t => ?_, fun j hj => ?_, fun i hi => ?_, fun k hk => ?_, fun B hB j hj k hk => ?_⟩
  · rw [e1.2.1] at hk
    obtain ⟨p1, p2, p3', p4⟩ := ep k (by omega)
    obtain ⟨q1, q2, _⟩ := ef k (by omega)
    rw [p1, p2, q1, q2, e1.2.2.1, hI]
    have := hF k (by omega)
    exact ⟨rfl, p3', p4, rfl, by omega, by omega⟩
  · rw [e1.2.1] at t
    rw [(ep 0 (by omega)).1, (ep 1 (by omega)).1]
    exact elt (by omega)
  · rw [e1.2.2.1] at hj
    obtain ⟨p1, p2, p3', p4⟩ := et j (by omega)
    rw [p1, p2]; exact ⟨rfl, p3', p4⟩
  · rw [e1.2.2.2] at hi
    have hi' : i < nN m n F := by omega
    rw [e1.1, if_neg (show ¬ (0 : Int) = 1 by decide)]
    rcases nd i hi' with ⟨u, e, ⟨w1, w2, w3⟩, ⟨v1, v2, v3, v4⟩, x1, x2, x3, x4, x5⟩ | ⟨n2, u, e, ⟨w1, w2, w3⟩, ⟨v1, v2, v3, v4⟩, x1, x2, x3, x4, x5⟩
    · refine ⟨⟨by rw [v1, x1], by rw [v1]; exact w1⟩, ⟨by rw [v2, x2], by rw [v2]; exact part i 0 _ hi' (Or.inl ⟨rfl, u⟩) w2⟩, ⟨by rw [v3, x3], ?_⟩, ⟨by rw [v4, x4], by rw [v4]; decide, by rw [v4, e1.2.1]; omega⟩, x5⟩
      rw [v1, v3]
      split
      · next t => rw [if_pos t] at w3; exact w3
      · next t => rw [if_neg t] at w3; exact part i 0 _ hi' (Or.inl ⟨rfl, u⟩) w3
    · refine ⟨⟨by rw [v1, x1], by rw [v1]; exact w1⟩, ⟨by rw [v2, x2], by rw [v2]; exact part i _ _ hi' (Or.inr ⟨rfl, u⟩) w2⟩, ⟨by rw [v3, x3], ?_⟩, ⟨by rw [v4, x4], by rw [v4]; decide, by rw [v4, e1.2.1]; omega⟩, x5⟩
      rw [v1, v3]
      split
      · next t => rw [if_pos t] at w3; exact w3
      · next t => rw [if_neg t] at w3; exact part i _ _ hi' (Or.inr ⟨rfl, u⟩) w3
  · rw [e1.2.1] at hk
    rw [e1.2.2.1, e1.2.2.2]
    obtain ⟨q1, _, q3⟩ := ef k (by omega)
    have hfk := hF k (by omega)
    rw [q1, q3]
    rcases (by omega : k = 0 ∨ (k = 1 ∧ n = 2)) with rfl | ⟨rfl, n2⟩
    · have et0 : (tR m F 0).1 = (trN m 9 (F 0) 0).1 := rfl
      rw [et0]
      by_cases q : 0 ≤ lf m (F 0)
      · rw [if_pos q]
        have hz := (c_lf hm hfk).2 q
        refine ⟨l0.2.1 hz, fun i hi t => ?_⟩
        rw [own i (by omega), if_neg (by omega)] at t; cases t
      · rw [if_neg q]
        have h1 : 1 ≤ cN m (F 0) := Nat.pos_of_ne_zero (fun t => q ((c_lf hm hfk).1 t))
        have er := l0.2.2.1 h1
        have hle : cN m (F 0) ≤ nN m n F := by unfold nN; omega
        rw [er]
        refine ⟨by omega, by omega, ?_, fun i hi h2 t => ?_⟩
        · rw [Int.toNat_natCast, own _ (by omega), if_pos (by omega)]; rfl
        · rw [own i (by omega), if_neg (by omega)] at t; cases t
    · have et1 : (tR m F 1).1 = (trN m 9 (F 1) (cN m (F 0))).1 := rfl
      have l1 := l1 n2
      have eN : nN m n F = cN m (F 0) + cN m (F 1) := by unfold nN; rw [if_pos n2]
      rw [et1]
      by_cases q : 0 ≤ lf m (F 1)
      · rw [if_pos q]
        have hz := (c_lf hm hfk).2 q
        refine ⟨l1.2.1 hz, fun i hi t => ?_⟩
        rw [own i (by omega), if_pos (by omega)] at t; cases t
      · rw [if_neg q]
        have h1 : 1 ≤ cN m (F 1) := Nat.pos_of_ne_zero (fun t => q ((c_lf hm hfk).1 t))
        have er := l1.2.2.1 h1
        rw [er]
        refine ⟨by omega, by omega, ?_, fun i hi h2 t => ?_⟩
        · rw [Int.toNat_natCast, own _ (by omega), if_neg (by omega)]; rfl
        · omega
  · rw [e1.2.2.1] at hj
    rw [e1.2.1] at hk
    rw [(et j (by omega)).1, (ep k (by omega)).1]
    exact hh B hB j k (by omega) (by omega)
/-- the finder has learnt for points, by told wires -/
def FS (h x : Hp) (m n : Nat) (tw : Nat → Int) : Prop := (∀ a i, ¬ ((42 ≤ a ∧ a ≤ 43) ∨ a = 203 ∨ (a = 40 ∧ 8 ≤ i ∧ i ≤ 9) ∨ (45 ≤ a ∧ a ≤ 52) ∨ (a = 53 ∧ 3 ≤ i) ∨ a = 55) → x a i = h a i) ∧ Tld x m ∧ x 45 3 = (n : Int) ∧ (∀ j, j < m → x 47 j = tw j) ∧ (∀ k : Nat, k < n → x 46 k = h 41 k) ∧ ∀ q part : Nat, q < 2 ^ n → (part : Int) < h 37 1 → x 48 (4 * q + part) = mdQ h q part
theorem FS_Two {h x : Hp} {m n : Nat} {tw : Nat → Int} (hT : Two h) (s : FS h x m n tw) : Two x := Two_congr (fun a i ha => s.1 a i (by omega)) hT
theorem FS_Cas {h x : Hp} {m n : Nat} {tw : Nat → Int} (hC : Cas h) (s : FS h x m n tw) : Cas x := by
  have k := s.1
  unfold Cas
  rw [k 37 0 (by omega), k 37 1 (by omega), show x 38 = h 38 from funext (fun i => k 38 i (by omega)), show x 39 = h 39 from funext (fun i => k 39 i (by omega)), sc_congr (show x 18 = h 18 from funext (fun i => k 18 i (by omega)))]
  exact hC
/-- the class's cases, patterns and assignments are the model's -/
theorem FS_conv {n0 : Nat} {h x g : Hp} {m n : Nat} {a b : Int} {tw : Nat → Int} (hI : Inv n0 h) (s : FS h x m n tw) (h40 : h 40 4 = (n : Int)) (hn : 1 ≤ n ∧ n ≤ 2) (h41 : ∀ k, k < 3 → h 41 k = p3 a b (-1) k) (eg : ∀ a i, ((18 ≤ a ∧ a ≤ 22) ∨ (28 ≤ a ∧ a ≤ 32) ∨ a = 149 ∨ (a = 143 ∧ 1 ≤ i ∧ i ≤ 2)) → g a i = h a i) (et : ∀ j, j < m → g 195 j = tw j) : (x 37 0).toNat = 2 ^ (sM g).toNat ∧ (∀ c, c < (x 37 0).toNat → (live x c = true ↔ g 149 c = 0)) ∧ (∀ c, pT x (x 47) c m = pT g (g 195) c m) ∧ ∀ q c, q < 2 ^ n → c < (x 37 0).toNat → (mF x q c ↔ mG g a b n q c) := by
  obtain ⟨np, npn, _⟩ := num_pow hI
  have hnum := num_le hI
  obtain ⟨n0', n1, n2, n3, n4⟩ := Cas_num hI.2.2.2.1.1 (Inv_N0 hI)
  obtain ⟨s1, s2, s3, s4, s5, s6⟩ := s
  have e37 : x 37 0 = h 37 0 := s1 37 0 (by omega)
  rw [e37]
  refine ⟨by rw [npn, sM_congr (eg 143 1 (by omega)) (eg 143 2 (by omega))], fun c hc => ?_, fun c => ?_, fun q c hq hc => ?_⟩
  · have hl : live x c = live h c := by unfold live; rw [s1 39 _ (by omega)]
    rw [hl, hI.2.2.2.1.2.2 c (by omega), decide_eq_true_eq, eg 149 c (by omega)]
  · rw [pT_congr (h := h) (tw := tw) (fun a i ha => s1 a i (by omega)) s4 c, pT_congr (h := h) (tw := tw) (h1 := g) (fun a i ha => eg a i (by omega)) et c]
  · unfold mF mG
    rw [s6 q (c / 64) hq (by omega)]
    unfold mdQ
    rw [h40, Int.toNat_natCast, fcK_congr (p := p3 a b (-1)) (fun k hk => h41 k (by omega)), mdW_congr (h := h) (h1 := g) (fun a i hh => eg a i (by omega))]
theorem Fdr_FdA {h : Hp} {m n : Nat} {r : Int} {F : Nat → Int} (f : Fdr h m n r F) : FdA (AL h m) m n r (F 0) (F 1) := by
  rcases f with ⟨rfl, f, f1, f2⟩ | ⟨rfl, f, g, f1, f2⟩
  · exact Or.inl ⟨rfl, f, f1, f2⟩
  · exact Or.inr ⟨rfl, f, g, f1, f2⟩
/-- the class allows and chooses -/
theorem core_ok {h x : Hp} {m n : Nat} {tw : Nat → Int} (hT : Two h) (hC : Cas h) (hn : 1 ≤ n ∧ n ≤ 2) (s : FS h x m n tw) : En (XX1_allow x) (fun r y => FS h y m n tw ∧ ((r = 1 ∧ (∀ p, p < 2 ^ m → ∃ q, q < 2 ^ n ∧ AL x m q p) ∧ En (XX1_choose y) (fun _ z => FS h z m n tw ∧ FdA (AL x m) m n (z 45 11) (z 52 0) (z 52 1) ∧ ∀ a i, ¬ (a = 52 ∨ (a = 45 ∧ i = 11)) → z a i = y a i)) ∨ (r = 0 ∧ (∃ p, p < 2 ^ m ∧ ∀ q, q < 2 ^ n → ¬ AL x m q p))) ∧ ∀ a i, ¬ a = 49 → y a i = x a i) := by
  have m4 : m < 4 := by have := s.2.1.1; omega
  refine En_mono (allow_ok (FS_Two hT s) (FS_Cas hC s) s.2.1 hn s.2.2.1) (fun r y _ hr => ?_)
  obtain ⟨f, hr⟩ := hr
  have sy : FS h y m n tw := by
    obtain ⟨s1, s2, s3, s4, s5, s6⟩ := s
    exact ⟨fun a i hh => by rw [f a i (by omega)]; exact s1 a i hh, ⟨s2.1, by rw [f 45 5 (by omega)]; exact s2.2.1, fun j hj => by rw [f 47 j (by omega), wn_congr (show y 18 = x 18 from funext (fun i => f 18 i (by omega)))]; exact s2.2.2 j hj⟩, by rw [f 45 3 (by omega)]; exact s3, fun j hj => by rw [f 47 j (by omega)]; exact s4 j hj, fun k hk => by rw [f 46 k (by omega)]; exact s5 k hk, fun q part hq hp => by rw [f 48 _ (by omega)]; exact s6 q part hq hp⟩
  refine ⟨sy, ?_, f⟩
  rcases hr with ⟨r1, ok, hM⟩ | ⟨r0, bad⟩
  · refine Or.inl ⟨r1, ok, ?_⟩
    refine En_mono (choose_ok m4 hn sy.2.1.2.1 sy.2.2.1 (fun p hp => ?_) (fun q hq => ⟨(hM q hq).1, fun p hp => by rw [AL_congr f]; exact (hM q hq).2 p hp⟩)) (fun _ z _ hz => ?_)
    · obtain ⟨q, h1, h2⟩ := ok p hp
      exact ⟨q, h1, (AL_congr f m q p).2 h2⟩
    · obtain ⟨fz, hz⟩ := hz
      refine ⟨?_, FdA_congr (fun q p _ _ => AL_congr f m q p) (Fdr_FdA hz), fz⟩
      obtain ⟨s1, s2, s3, s4, s5, s6⟩ := sy
      exact ⟨fun a i hh => by rw [fz a i (by omega)]; exact s1 a i hh, ⟨s2.1, by rw [fz 45 5 (by omega)]; exact s2.2.1, fun j hj => by rw [fz 47 j (by omega), wn_congr (show z 18 = y 18 from funext (fun i => fz 18 i (by omega)))]; exact s2.2.2 j hj⟩, by rw [fz 45 3 (by omega)]; exact s3, fun j hj => by rw [fz 47 j (by omega)]; exact s4 j hj, fun k hk => by rw [fz 46 k (by omega)]; exact s5 k hk, fun q part hq hp => by rw [fz 48 _ (by omega)]; exact s6 q part hq hp⟩
  · exact Or.inr ⟨r0, bad⟩
