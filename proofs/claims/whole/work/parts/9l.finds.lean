noncomputable def mG (g : Hp) (a b : Int) (n q c : Nat) : Prop := tb (mdW g (fcK (p3 a b (-1)) n q) ((c / 64 : Nat) : Int)) (c % 64) = true
theorem ti_m1' {q : Nat} (hq : q < 32) : ti (-1) q = true := by rw [ti_m1, decide_eq_true hq]
theorem least_nat {P : Nat → Prop} (h : ∃ c, P c) : ∃ c, P c ∧ ∀ d, d < c → ¬ P d := by
  obtain ⟨c, hc⟩ := h
  obtain ⟨d, _, d1, d2⟩ := least_ex (p := P) (n := c + 1) ⟨c, by omega, hc⟩
  exact ⟨d, d1, d2⟩
theorem Cl_congr {N : Nat} {L : Nat → Prop} {P : Nat → Nat} {M M2 : Nat → Nat → Prop} {n : Nat} {cf cc : Int} (a : Cl N L P M n cf cc) (eM : ∀ q c, q < 2 ^ n → c < N → (M q c ↔ M2 q c)) : Cl N L P M2 n cf cc := by
  obtain ⟨c, d, a1, a2, a3, a4, a5, a6⟩ := a
  exact ⟨c, d, a1, a2, a3, ClF_congr (fun _ _ => Iff.rfl) (fun _ _ => rfl) eM a1 a4, fun c' hc' t => a5 c' hc' (ClF_congr (fun _ _ => Iff.rfl) (fun _ _ => rfl) (fun q c h1 h2 => (eM q c h1 h2).symm) (by omega) t), a6⟩
theorem ALg_congr {N : Nat} {L L2 : Nat → Prop} {P P2 : Nat → Nat} {M M2 : Nat → Nat → Prop} {q : Nat} (eL : ∀ c, c < N → (L c ↔ L2 c)) (eP : ∀ c, c < N → P c = P2 c) (eM : ∀ c, c < N → (M q c ↔ M2 q c)) (p : Nat) : ALg N L P M q p ↔ ALg N L2 P2 M2 q p := by
  unfold ALg
  refine forall_congr' (fun c => forall_congr' (fun hc => ?_))
  rw [eL c hc, eP c hc, eM c hc]
theorem bt_le (f p : Nat) : bt f p ≤ 1 := by unfold bt; split <;> omega
theorem FdA_congr {A A2 : Nat → Nat → Prop} {m n : Nat} {r a b : Int} (e : ∀ q p, q < 2 ^ n → p < 2 ^ m → (A q p ↔ A2 q p)) (h : FdA A m n r a b) : FdA A2 m n r a b := by
  rcases h with ⟨rfl, f, f1, f2⟩ | ⟨rfl, f, g, f1, f2⟩
  · have eG : ∀ f, G1 A m f ↔ G1 A2 m f := fun f => forall_congr' (fun p => forall_congr' (fun hp => e _ p (by have := bt_le f p; omega) hp))
    exact Or.inl ⟨rfl, f, ⟨f1.1, (eG f).1 f1.2.1, fun f' h1 h2 => f1.2.2 f' h1 ((eG f').2 h2)⟩, f2⟩
  · have eG : ∀ f g, G2 A m f g ↔ G2 A2 m f g := fun f g => forall_congr' (fun p => forall_congr' (fun hp => e _ p (by have := bt_le f p; have := bt_le g p; omega) hp))
    exact Or.inr ⟨rfl, f, g, ⟨f1.1, f1.2.1, (eG f g).1 f1.2.2.1, fun f' g' h1 h2 h3 => f1.2.2.2 f' g' h1 h2 ((eG f' g').2 h3)⟩, f2⟩
theorem FdA_uniq {A : Nat → Nat → Prop} {m n : Nat} {r a b r2 a2 b2 : Int} (h : FdA A m n r a b) (h2 : FdA A m n r2 a2 b2) : r = r2 ∧ a = a2 ∧ (n = 2 → b = b2) := by
  rcases h with ⟨rfl, f, ⟨f1, f2, f3⟩, rfl, rfl⟩ | ⟨rfl, f, g, ⟨f1, f2, f3, f4⟩, rfl, rfl, rfl⟩
  · rcases h2 with ⟨_, x, ⟨x1, x2, x3⟩, rfl, rfl⟩ | ⟨t, _⟩
    · have u1 := f3 x x1 x2
      have u2 := x3 f f1 f2
      have : f = x := by omega
      subst this
      exact ⟨rfl, rfl, fun t => by omega⟩
    · omega
  · rcases h2 with ⟨t, _⟩ | ⟨_, x, y, ⟨x1, x2, x3, x4⟩, rfl, rfl, rfl⟩
    · omega
    · have u1 := f4 x y x1 x2 x3
      have u2 := x4 f g f1 f2 f3
      have e1 : f = x := by omega
      have e2 : g = y := by omega
      subst e1 e2
      exact ⟨rfl, rfl, fun _ => rfl⟩
theorem findsL_ok {g : Hp} {m n : Nat} {k : Int} (hm : m < 4) (hn : 1 ≤ n ∧ n ≤ 2) (hk : k = 0 ∨ k = 1) (hM : MN g) (hK : Kn0 g m) (hj : (g 192 m = 0 ∨ g 192 m = 1) ∧ (g 192 m = 1 → ∀ f : Nat, (f : Int) ≤ onI m → g 193 (256 * m + f) = cst m f)) : En (XX12_finds_L20 n m k 0 g) (fun r f =>
    (r = -4 ∧ (∀ a i, ¬ (a = 194 ∨ (a = 143 ∧ 21 ≤ i ∧ i ≤ 22)) → f a i = g a i) ∧ ∃ cf cc, Cl (2 ^ (sM g).toNat) (fun c => g 149 c = 0) (fun c => pT g (g 195) c m) (MdM g) n cf cc ∧ ((k = 0 ∧ f 143 21 = g 143 21 ∧ f 143 22 = g 143 22) ∨ (k = 1 ∧ f 143 21 = cf ∧ f 143 22 = cc))) ∨
    ((∀ p, p < 2 ^ m → ∃ q, q < 2 ^ n ∧ ALg (2 ^ (sM g).toNat) (fun c => g 149 c = 0) (fun c => pT g (g 195) c m) (MdM g) q p) ∧ FdA (ALg (2 ^ (sM g).toNat) (fun c => g 149 c = 0) (fun c => pT g (g 195) c m) (MdM g)) m n r (f 143 71) (f 143 72) ∧ (∀ a i, ¬ (a = 191 ∨ (a = 192 ∧ i = m) ∨ (a = 193 ∧ 256 * m ≤ i ∧ i < 256 * m + 256) ∨ a = 194 ∨ (a = 143 ∧ 71 ≤ i ∧ i ≤ 72)) → f a i = g a i) ∧ f 192 m = 1 ∧ (∀ x, x ≤ onN m → f 193 (256 * m + x) = ((cN m x : Nat) : Int)))) := by
  obtain ⟨b0, b1, _⟩ := MN_lt hM (e := 0) (by omega)
  have hash : ashl 1 (sM g) = 2 ^ (sM g).toNat := ashl1 (by omega) (by omega)
  have hpl := pow_list b0 b1
  have hpn : ((2 ^ (sM g).toNat : Nat) : Int) = (2 : Int) ^ (sM g).toNat := by rw [Int.natCast_pow]; rfl
  generalize hN : 2 ^ (sM g).toNat = N at *
  rw [← hpn] at hash
  have hN2 : 2 ≤ N ∧ N ≤ 256 := by omega
  clear hpl hpn
  obtain ⟨fb0, fb⟩ := full_bit hn
  have w2 := pow2s hn
  have m3 : m ≤ 3 := hK.1
  have P8 : ∀ c, pT g (g 195) c m < 8 := fun c => Nat.lt_of_lt_of_le (pT_lt _ _ _ _) (Nat.pow_le_pow_right (by decide) m3 : 2 ^ m ≤ 2 ^ 3)
  have tr : ∀ f : Hp, (∀ a i, ¬ a = 194 → f a i = g a i) → MN f ∧ sM f = sM g ∧ Kn0 f m ∧ (∀ c, pT f (f 195) c m = pT g (g 195) c m) ∧ (∀ q c, MdM f q c ↔ MdM g q c) := fun f e => by
    have e18 : f 18 = g 18 := funext (fun i => e 18 i (by omega))
    refine ⟨MN_congr (e 143 1 (by omega)) (e 143 2 (by omega)) (e 143 3 (by omega)) (funext (fun i => e 144 i (by omega))) hM, sM_congr (e 143 1 (by omega)) (e 143 2 (by omega)), ⟨m3, by rw [wn_congr e18]; exact hK.2.1, fun part w hp hw => ?_, fun j hj => by rw [e 195 j (by omega), wn_congr e18]; exact hK.2.2.2 j hj⟩, fun c => pT_congr (fun a i ha => e a i (by omega)) (fun j _ => e 195 j (by omega)) c, fun q c => by unfold MdM; rw [e 190 _ (by omega)]⟩
    rw [wn_congr e18] at hw
    rw [fOl_congr e18 (funext (fun i => e 19 i (by omega))) (funext (fun i => e 20 i (by omega))), ← hK.2.2.1 part w hp hw]
    exact e 188 _ (by omega)
  unfold XX12_finds_L20
  refine En_lup4 (fun _ _ _ l6 _ => (9 - l6).toNat) (fun l3 l4 l5 l6 f => (n : Int) = l3 ∧ (m : Int) = l4 ∧ k = l5 ∧ 0 ≤ l6 ∧ l6 ≤ 8 ∧ (∀ a i, ¬ a = 194 → f a i = g a i) ∧ ∀ p : Nat, (p : Int) < l6 → f 194 p = ashl 1 (ashl 1 (n : Int)) - 1) ?_ FU _ _ _ _ _ (by unfold FU; omega) ⟨rfl, rfl, rfl, by omega, by omega, fun _ _ _ => rfl, fun p hp => by omega⟩
  rintro self20 l3 l4 l5 l6 f ih20 ⟨rfl, rfl, rfl, c0, c1, c2, c3⟩
  unfold XX12_finds_b20
  by_cases q6 : ¬ 8 ≤ l6
  · rw [if_neg q6, chk_pos fb0, inb_pos (by omega), hm_eq, chk_pos (by omega)]
    refine ih20 _ _ _ _ _ (by omega) ⟨rfl, rfl, rfl, by omega, by omega, fun a i ha => by rw [wr_ne ha]; exact c2 a i ha, fun p hp => ?_⟩
    rw [wr_row]
    by_cases qp : p = l6.toNat
    · rw [if_pos qp]
    · rw [if_neg qp]; exact c3 p (by omega)
  have q6 : 8 ≤ l6 := Decidable.not_not.mp q6
  rw [if_pos q6]
  unfold XX12_finds_L50
  refine En_lup4 (fun _ _ _ l6 _ => (257 - l6).toNat) (fun l3 l4 l5 l6 f => (n : Int) = l3 ∧ (m : Int) = l4 ∧ k = l5 ∧ 0 ≤ l6 ∧ l6 ≤ N ∧ (∀ a i, ¬ a = 194 → f a i = g a i) ∧ (∀ c : Nat, (c : Int) < l6 → ¬ ClF (fun c => g 149 c = 0) (fun c => pT g (g 195) c m) (MdM g) n c) ∧ Lft l6.toNat n (fun c => g 149 c = 0) (fun c => pT g (g 195) c m) (MdM g) (f 194)) ?_ FU _ _ _ _ _ (by unfold FU; omega) ⟨rfl, rfl, rfl, by omega, by omega, c2, fun c hc => by omega, fun p hp => ⟨by rw [c3 p (by omega)]; exact fb0, fun q hq => by rw [c3 p (by omega), fb q hq]; exact ⟨fun t => ⟨t, fun c hc => absurd hc (Nat.not_lt_zero _)⟩, fun t => t.1⟩⟩⟩
  rintro self50 l3 l4 l5 l6 f ih50 ⟨rfl, rfl, rfl, c0, c1, c2, c3, c4⟩
  obtain ⟨x, rfl⟩ := Int.eq_ofNat_of_zero_le c0
  rw [Int.toNat_natCast] at c4
  obtain ⟨Mf, sf, Kf, Pf, MMf⟩ := tr f c2
  unfold XX12_finds_b50
  rw [cases_eq Mf, cal_eq, sf, hash]
  by_cases q : (N : Int) ≤ x
  · have hx : x = N := by omega
    subst hx
    rw [if_pos q]
    have hok : ∀ p, p < 2 ^ m → ∃ q, q < 2 ^ n ∧ ALg x (fun c => g 149 c = 0) (fun c => pT g (g 195) c m) (MdM g) q p := by
      intro p hp
      refine Classical.byContradiction (fun hno => ?_)
      obtain ⟨c, h1, h2⟩ := Cl_ex (N := x) (m := m) (n := n) (L := fun c => g 149 c = 0) (P := fun c => pT g (g 195) c m) (M := MdM g) ⟨p, hp, fun q hq t => hno ⟨q, hq, t⟩⟩
      exact c3 c (by omega) h2
    refine En_cal (reckons_ok hm (h := f) (by rw [c2 192 m (by omega)]; refine ⟨hj.1, fun t v hv => ?_⟩; rw [c2 193 _ (by omega)]; exact hj.2 t v hv)) (fun r1 f1 _ h1 => ?_)
    obtain ⟨k1, z1, C1, N1⟩ := h1
    have pm8 : 2 ^ m ≤ 8 := by rcases pow3s m3 with t | t | t | t <;> omega
    have e194 : ∀ p, f1 194 p = f 194 p := fun p => k1 194 p (by omega)
    by_cases qn : (n : Int) = 1
    · have n1 : n = 1 := by omega
      subst n1
      rw [if_pos qn, cal_id]
      refine En_mono (single_ok hm C1 (A := ALg x (fun c => g 149 c = 0) (fun c => pT g (g 195) c m) (MdM g)) (fun q p hq hp => by rw [e194, ((c4 p (by omega)).2 q (by omega))]; exact ⟨fun t => t.2, fun t => ⟨hq, t⟩⟩) hok) (fun r F _ hr => ?_)
      obtain ⟨v1, f0, v2, v3, v4⟩ := hr
      refine Or.inr ⟨hok, Or.inl ⟨rfl, f0, v2, v4, v3⟩, fun a i hh => by rw [v1 a i (by omega), k1 a i (by omega)]; exact c2 a i (by omega), by rw [v1 192 m (by omega)]; exact z1, fun y hy => by rw [v1 193 _ (by omega)]; exact N1 y hy⟩
    · have n2 : n = 2 := by omega
      subst n2
      rw [if_neg qn, cal_id]
      refine En_mono (both_ok hm C1 (A := ALg x (fun c => g 149 c = 0) (fun c => pT g (g 195) c m) (MdM g)) (fun q p hq hp => by rw [e194, ((c4 p (by omega)).2 q (by omega))]; exact ⟨fun t => t.2, fun t => ⟨hq, t⟩⟩) hok) (fun r F _ hr => ?_)
      obtain ⟨v1, f0, g0, v2, v3, v4, v5⟩ := hr
      refine Or.inr ⟨hok, Or.inr ⟨rfl, f0, g0, v2, v4, v5, v3⟩, fun a i hh => by rw [v1 a i (by omega), k1 a i (by omega)]; exact c2 a i (by omega), by rw [v1 192 m (by omega)]; exact z1, fun y hy => by rw [v1 193 _ (by omega)]; exact N1 y hy⟩
  rw [if_neg q, inb_pos (by omega), Int.toNat_natCast, c2 149 x (by omega)]
  by_cases ql : g 149 x = 0
  · rw [if_pos ql, pattern_eq Kf (by omega), cal_eq, Pf]
    have hp8 := P8 x
    unfold XX12_finds_L82
    refine En_lup6 (fun _ _ _ _ _ l8 _ => (5 - l8).toNat) (fun l3 l4 l5 l6 l7 l8 f => (n : Int) = l3 ∧ (m : Int) = l4 ∧ k = l5 ∧ (x : Int) = l6 ∧ ((pT g (g 195) x m : Nat) : Int) = l7 ∧ 0 ≤ l8 ∧ l8 ≤ ((2 ^ n : Nat) : Int) ∧ (∀ a i, ¬ a = 194 → f a i = g a i) ∧ (∀ p, p < 8 → inI (f 194 p) ∧ ∀ q : Nat, q < 32 → (ti (f 194 p) q = true ↔ (q < 2 ^ n ∧ (∀ c, c < x → g 149 c = 0 → pT g (g 195) c m = p → MdM g q c) ∧ (p = pT g (g 195) x m → (q : Int) < l8 → MdM g q x))))) ?_ FU _ _ _ _ _ _ _ (by unfold FU; omega) ⟨rfl, rfl, rfl, rfl, rfl, by omega, Int.natCast_nonneg _, c2, fun p hp => ⟨(c4 p hp).1, fun q hq => by rw [(c4 p hp).2 q hq]; exact ⟨fun t => ⟨t.1, t.2, fun _ u => by omega⟩, fun t => ⟨t.1, t.2.1⟩⟩⟩⟩
    clear c2 c4 Mf sf Kf Pf MMf f
    rintro self82 l3 l4 l5 l6 l7 l8 f ih82 ⟨rfl, rfl, rfl, rfl, rfl, d0, d1, d2, d3⟩
    obtain ⟨s, rfl⟩ := Int.eq_ofNat_of_zero_le d0
    obtain ⟨Mf, sf, Kf, Pf, MMf⟩ := tr f d2
    unfold XX12_finds_b82
    rw [ashl1N (k := n) (by omega)]
    by_cases q8 : ((2 ^ n : Nat) : Int) ≤ s
    · have lf : Lft (x + 1) n (fun c => g 149 c = 0) (fun c => pT g (g 195) c m) (MdM g) (f 194) := fun p hp => by
        refine ⟨(d3 p hp).1, fun q hq => ?_⟩
        rw [(d3 p hp).2 q hq]
        constructor
        · rintro ⟨u1, u2, u3⟩
          refine ⟨u1, fun c h1 h2 h3 => ?_⟩
          by_cases qc : c = x
          · subst qc; exact u3 h3.symm (by omega)
          · exact u2 c (by omega) h2 h3
        · rintro ⟨u1, u2⟩
          exact ⟨u1, fun c h1 => u2 c (by omega), fun u3 _ => u2 x (by omega) ql u3.symm⟩
      obtain ⟨li, lb⟩ := lf _ hp8
      rw [if_pos q8, inb_pos (by omega), Int.toNat_natCast]
      by_cases qz : f 194 (pT g (g 195) x m) = 0
      · have hz := (zero_bits li).1 qz
        have hcl : ClF (fun c => g 149 c = 0) (fun c => pT g (g 195) c m) (MdM g) n x := by
          refine ⟨ql, fun q hq => ?_⟩
          have := hz q (by omega)
          refine Classical.byContradiction (fun hno => ?_)
          rw [(lb q (by omega)).2 ⟨hq, fun c h1 h2 h3 => Classical.byContradiction (fun h4 => hno ⟨c, by omega, h2, h3, h4⟩)⟩] at this
          cases this
        rw [if_pos qz]
        by_cases qk : k = 0
        · rw [if_pos qk]
          obtain ⟨d, ⟨e1, e2⟩, e3⟩ := least_nat (P := fun d => g 149 d = 0 ∧ pT g (g 195) d m = pT g (g 195) x m) ⟨x, ql, rfl⟩
          have dx : d ≤ x := Decidable.byContradiction (fun t => e3 x (by omega) ⟨ql, rfl⟩)
          exact En_some (Or.inl ⟨rfl, fun a i hh => d2 a i (by omega), d, x, ⟨x, d, by omega, rfl, rfl, hcl, fun c' hc' => c3 c' (by omega), dx, e1, e2, e3⟩, Or.inl ⟨qk, d2 143 21 (by omega), d2 143 22 (by omega)⟩⟩)
        · rw [if_neg qk]
          refine En_cal (clashes_ok Kf (c := x) (by omega) (by rw [d2 149 x (by omega)]; exact ql)) (fun r F _ hr => ?_)
          obtain ⟨v1, v2, d, v3, v4, v5, v6, v7⟩ := hr
          rw [d2 149 d (by omega)] at v5
          rw [Pf, Pf] at v6
          refine En_some (Or.inl ⟨rfl, fun a i hh => by rw [v1 a i (by omega)]; exact d2 a i (by omega), d, x, ⟨x, d, by omega, rfl, rfl, hcl, fun c' hc' => c3 c' (by omega), v4, v5, v6, fun d' hd t => v7 d' hd ?_⟩, Or.inr ⟨by omega, v3, v2⟩⟩)
          rw [d2 149 d' (by omega), Pf, Pf]; exact t
      · rw [if_neg qz]
        unfold XX12_finds_p153
        rw [chk_pos (by omega)]
        refine ih50 _ _ _ _ _ (by omega) ⟨rfl, rfl, rfl, by omega, by omega, d2, fun c hc hcl => ?_, by rw [show ((x : Int) + 1).toNat = x + 1 by omega]; exact lf⟩
        by_cases qc : c = x
        · subst qc
          refine qz ((zero_bits li).2 (fun q hq => Bool.eq_false_iff.mpr (fun t => ?_)))
          obtain ⟨u1, u2⟩ := (lb q hq).1 t
          obtain ⟨c', v1, v2, v3, v4⟩ := hcl.2 q u1
          exact v4 (u2 c' (by omega) v2 v3)
        · exact c3 c (by omega) hcl
    rw [if_neg q8, inb_pos (by omega), doesMend_eq f (by omega) (by omega), cal_eq, Int.toNat_natCast]
    have hMx : MdM g s x ↔ tb (f 190 (4 * s + x / 64)) (x % 64) = true := (MMf s x).symm
    have go : ∀ s3 : Int, (∀ q, q < 32 → (ti s3 q = true ↔ (q = s → MdM g s x))) → En (XX12_finds_p119 self50 self82 n m k x ((pT g (g 195) x m : Nat) : Int) s ((pT g (g 195) x m : Nat) : Int) (f 194 (pT g (g 195) x m)) s3 f) (fun r f =>
    (r = -4 ∧ (∀ a i, ¬ (a = 194 ∨ (a = 143 ∧ 21 ≤ i ∧ i ≤ 22)) → f a i = g a i) ∧ ∃ cf cc, Cl N (fun c => g 149 c = 0) (fun c => pT g (g 195) c m) (MdM g) n cf cc ∧ ((k = 0 ∧ f 143 21 = g 143 21 ∧ f 143 22 = g 143 22) ∨ (k = 1 ∧ f 143 21 = cf ∧ f 143 22 = cc))) ∨
    ((∀ p, p < 2 ^ m → ∃ q, q < 2 ^ n ∧ ALg N (fun c => g 149 c = 0) (fun c => pT g (g 195) c m) (MdM g) q p) ∧ FdA (ALg N (fun c => g 149 c = 0) (fun c => pT g (g 195) c m) (MdM g)) m n r (f 143 71) (f 143 72) ∧ (∀ a i, ¬ (a = 191 ∨ (a = 192 ∧ i = m) ∨ (a = 193 ∧ 256 * m ≤ i ∧ i < 256 * m + 256) ∨ a = 194 ∨ (a = 143 ∧ 71 ≤ i ∧ i ≤ 72)) → f a i = g a i) ∧ f 192 m = 1 ∧ (∀ x, x ≤ onN m → f 193 (256 * m + x) = ((cN m x : Nat) : Int)))) := by
      intro s3 hs
      unfold XX12_finds_p119
      rw [inb_pos (by omega), hm_eq, chk_pos (by omega), Int.toNat_natCast]
      refine ih82 _ _ _ _ _ _ _ (by omega) ⟨rfl, rfl, rfl, rfl, rfl, by omega, by omega, fun a i ha => by rw [wr_ne ha]; exact d2 a i ha, fun p hp => ?_⟩
      rw [wr_row]
      by_cases qp : p = pT g (g 195) x m
      · rw [if_pos qp]
        refine ⟨aand_in _ _, fun q hq => ?_⟩
        rw [ti_aand, Bool.and_eq_true, (d3 _ hp8).2 q hq, hs q hq, qp]
        constructor
        · rintro ⟨⟨u1, u2, u3⟩, u4⟩
          refine ⟨u1, u2, fun _ u5 => ?_⟩
          by_cases qq : q = s
          · rw [qq]; exact u4 qq
          · exact u3 rfl (by omega)
        · rintro ⟨u1, u2, u3⟩
          exact ⟨⟨u1, u2, fun _ u5 => u3 rfl (by omega)⟩, fun u4 => by subst u4; exact u3 rfl (by omega)⟩
      · rw [if_neg qp]
        refine ⟨(d3 p hp).1, fun q hq => ?_⟩
        rw [(d3 p hp).2 q hq]
        exact and_congr_right (fun _ => and_congr_right (fun _ => ⟨fun _ t => absurd t qp, fun _ t => absurd t qp⟩))
    by_cases qm : tb (f 190 (4 * s + x / 64)) (x % 64) = true
    · rw [if_pos qm, if_neg n10]
      exact go _ (fun q hq => by rw [ti_m1' hq]; exact ⟨fun _ _ => hMx.2 qm, fun _ => rfl⟩)
    · rw [if_neg qm, if_pos rfl]
      refine go _ (fun q hq => ?_)
      rw [ti_not _ hq, ashl1N (k := s) (by omega), ti_nat (pw8 (by omega)).1 (pw8 (by omega)).2, Int.toNat_natCast, Nat.testBit_two_pow]
      simp only [Bool.not_eq_true', decide_eq_false_iff_not]
      exact ⟨fun t u => absurd u.symm t, fun t u => qm (hMx.1 (t u.symm))⟩
  · rw [if_neg ql]
    unfold XX12_finds_p153
    rw [chk_pos (by omega)]
    refine ih50 _ _ _ _ _ (by omega) ⟨rfl, rfl, rfl, by omega, by omega, c2, fun c hc hcl => ?_, ?_⟩
    · by_cases qc : c = x
      · subst qc; exact ql hcl.1
      · exact c3 c (by omega) hcl
    · rw [show ((x : Int) + 1).toNat = x + 1 by omega]
      intro p hp
      refine ⟨(c4 p hp).1, fun q hq => ?_⟩
      rw [(c4 p hp).2 q hq]
      refine and_congr_right (fun _ => ⟨fun u c h1 h2 h3 => ?_, fun u c h1 => u c (by omega)⟩)
      by_cases qc : c = x
      · subst qc; exact absurd h2 ql
      · exact u c (by omega) h2 h3
theorem finds_ok {g : Hp} {m n : Nat} {a b k : Int} (hm : m < 4) (hn : 1 ≤ n ∧ n ≤ 2) (hk : k = 0 ∨ k = 1) (w : Wk g) (ht : ∀ j, j < m → 0 ≤ g 195 j ∧ g 195 j < wn 18 g) (hj : (g 192 m = 0 ∨ g 192 m = 1) ∧ (g 192 m = 1 → ∀ f : Nat, (f : Int) ≤ onI m → g 193 (256 * m + f) = cst m f)) : En (XX12_finds a b n m k g) (fun r f =>
    (r = -4 ∧ (∀ a i, ¬ ((186 ≤ a ∧ a ≤ 190) ∨ a = 194 ∨ (a = 143 ∧ (21 ≤ i ∧ i ≤ 22 ∨ 63 ≤ i ∧ i ≤ 64))) → f a i = g a i) ∧ ∃ cf cc, Cl (2 ^ (sM g).toNat) (fun c => g 149 c = 0) (fun c => pT g (g 195) c m) (mG g a b n) n cf cc ∧ ((k = 0 ∧ f 143 21 = g 143 21 ∧ f 143 22 = g 143 22) ∨ (k = 1 ∧ f 143 21 = cf ∧ f 143 22 = cc))) ∨
    ((∀ p, p < 2 ^ m → ∃ q, q < 2 ^ n ∧ ALg (2 ^ (sM g).toNat) (fun c => g 149 c = 0) (fun c => pT g (g 195) c m) (mG g a b n) q p) ∧ FdA (ALg (2 ^ (sM g).toNat) (fun c => g 149 c = 0) (fun c => pT g (g 195) c m) (mG g a b n)) m n r (f 143 71) (f 143 72) ∧ (∀ a i, ¬ ((186 ≤ a ∧ a ≤ 191) ∨ (a = 192 ∧ i = m) ∨ (a = 193 ∧ 256 * m ≤ i ∧ i < 256 * m + 256) ∨ a = 194 ∨ (a = 143 ∧ (63 ≤ i ∧ i ≤ 64 ∨ 71 ≤ i ∧ i ≤ 72))) → f a i = g a i) ∧ f 192 m = 1 ∧ (∀ x, x ≤ onN m → f 193 (256 * m + x) = ((cN m x : Nat) : Int)))) := by
  have hMS := Wk_MS w
  unfold XX12_finds
  refine En_cal (prepares_ok hMS.1) (fun r4 h4 e4 hp => ?_)
  obtain ⟨p1, p2, p3', p4⟩ := hp
  have f4 := fr_XX12_prepares e4
  have w4 : Wk h4 := Wk_tr (fun a i hh => f4 a i (by omega)) w
  have P4 : Prep h4 := by
    have g1 := f4 143 1 (by omega)
    have g2 := f4 143 2 (by omega)
    have g4 : h4 144 = g 144 := funext (fun i => f4 144 i (by omega))
    have g5 : h4 145 = g 145 := funext (fun i => f4 145 i (by omega))
    have g6 : h4 146 = g 146 := funext (fun i => f4 146 i (by omega))
    unfold Prep
    rw [sM_congr g1 g2, nM_congr g1 g2 g4, nM_congr g1 g2 g4, kM_congr g5, kM_congr g5, pM_congr g6, pM_congr g6]
    exact ⟨p2, p3', p1⟩
  refine En_cal (mend2_wk w4 P4 a b (-1) (m := (n : Int)) (by omega)) (fun r5 h5 _ hm5 => ?_)
  obtain ⟨P5, m5, k5⟩ := hm5
  have w5 : Wk h5 := Wk_tr (fun a i hh => k5 a i (by omega)) w4
  have MS5 := Wk_MS w5
  refine En_cal (knows_ok MS5.1.1 (e := 0) (by omega) (MS5.1.2 0 (by omega)).1 (MS5.1.2 0 (by omega)).2) (fun r6 h6 e6 hk6 => ?_)
  have f6 := fr_XX12_knows e6
  have w6 : Wk h6 := Wk_tr (fun a i hh => f6 a i (by omega)) w5
  have fo : ∀ x i, ¬ ((186 ≤ x ∧ x ≤ 190) ∨ (x = 143 ∧ 63 ≤ i ∧ i ≤ 64)) → h6 x i = g x i := fun x i hh => by rw [f6 x i (by omega), k5 x i (by omega), f4 x i (by omega)]
  have V6 : Vals 0 h6 := Vals_congr (f6 143 1 (by omega)) (f6 143 2 (by omega)) (funext (fun i => f6 144 i (by omega))) (funext (fun i => f6 145 i (by omega))) (funext (fun i => f6 146 i (by omega))) hk6.1
  have e18 : h6 18 = g 18 := funext (fun i => fo 18 i (by omega))
  have K6 : Kn0 h6 m := ⟨by omega, (Pl_lt (by decide) w6.2.1.1).2.2.1, fun part w' hp hw => Vals_0 w6.1 w6.2.1 V6 hp hw, fun j hj => by rw [fo 195 j (by omega), wn_congr e18]; exact ht j hj⟩
  have eS : sM h6 = sM g := sM_congr (fo 143 1 (by omega)) (fo 143 2 (by omega))
  have eL : (fun c => h6 149 c = 0) = (fun c => g 149 c = 0) := funext (fun c => by rw [fo 149 c (by omega)])
  have eP : (fun c => pT h6 (h6 195) c m) = (fun c => pT g (g 195) c m) := funext (fun c => pT_congr (fun a i ha => fo a i (by omega)) (fun j _ => fo 195 j (by omega)) c)
  have N256 : 2 ^ (sM g).toNat ≤ 256 := by
    obtain ⟨b0, b1, _⟩ := MN_lt hMS.1.1 (e := 0) (by omega)
    have hpl := pow_list b0 b1
    have hpn : ((2 ^ (sM g).toNat : Nat) : Int) = (2 : Int) ^ (sM g).toNat := by rw [Int.natCast_pow]; rfl
    omega
  have w2 := pow2s hn
  have eM : ∀ q c, q < 2 ^ n → c < 2 ^ (sM g).toNat → (MdM h6 q c ↔ mG g a b n q c) := fun q c hq hc => by
    unfold MdM mG
    rw [f6 190 _ (by omega), m5 q (by rw [Int.toNat_natCast]; have : ((2 ^ n : Nat) : Int) = (2 : Int) ^ n := by rw [Int.natCast_pow]; rfl
                                      omega) (c / 64) (by omega), Int.toNat_natCast, mdW_congr (h := g) (fun a i hh => f4 a i (by omega))]
  refine En_mono (findsL_ok hm hn hk (Wk_MS w6).1.1 K6 (by rw [fo 192 m (by omega)]; refine ⟨hj.1, fun t v hv => ?_⟩; rw [fo 193 _ (by omega)]; exact hj.2 t v hv)) (fun r f _ hr => ?_)
  rw [eS, eL, eP] at hr
  rcases hr with ⟨v1, v2, cf, cc, v3, v4⟩ | ⟨v1, v2, v3, v4, v5⟩
  · refine Or.inl ⟨v1, fun x i hh => by rw [v2 x i (by omega), fo x i (by omega)], cf, cc, Cl_congr v3 eM, ?_⟩
    rw [fo 143 21 (by omega), fo 143 22 (by omega)] at v4
    exact v4
  · refine Or.inr ⟨fun p hp => ?_, FdA_congr (fun q p hq _ => ALg_congr (fun _ _ => Iff.rfl) (fun _ _ => rfl) (fun c hc => eM q c hq hc) p) v2, fun x i hh => by rw [v3 x i (by omega), fo x i (by omega)], v4, v5⟩
    obtain ⟨q, h1, h2⟩ := v1 p hp
    exact ⟨q, h1, (ALg_congr (fun _ _ => Iff.rfl) (fun _ _ => rfl) (fun c hc => eM q c h1 hc) p).1 h2⟩
