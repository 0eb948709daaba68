/-- the class tries the ones, the twos, the threes -/
theorem twos_ok {n0 : Nat} {h x : Hp} {a : Int} {st : Int × Int × Int × Int} (hI : Inv n0 h) (hT : Two h) (h40 : h 40 4 = 1) (h41 : ∀ k, k < 3 → h 41 k = p3 a (-1) (-1) k) (c : CIB h a (NB h a) (UUB h a) st x) : En (XX4_tryTwos x) (fun _ g => CIB h a (NB h a) (UUB h a) (on2B h a 0 st) g) := by
  have hle := NB_le (a := a) hI.2.2.2.2.1 (by have := Pl_lt (by decide) hT.1.1; omega)
  generalize hF : on2B h a 0 st = F
  unfold XX4_tryTwos XX4_tryTwos_L2
  refine En_lup1 (fun l _ => (20 - l).toNat) (fun l g => ∃ i : Nat, l = (i : Int) ∧ i ≤ NB h a ∧ ∃ s, CIB h a (NB h a) (UUB h a) s g ∧ on2B h a i s = F) ?_ FU _ _ (by unfold FU; omega) ⟨0, rfl, Nat.zero_le _, st, c, hF⟩
  rintro self l g ih ⟨i, rfl, hi, s, cs, es⟩
  unfold XX4_tryTwos_b2
  rw [cs.2.2.2.2.1.1]
  by_cases q : (NB h a : Int) ≤ i
  · rw [if_pos q]
    unfold on2B at es
    rw [frB_end (by omega)] at es
    subst es
    exact En_some cs
  rw [if_neg q, chk_pos (by omega), nm_eq]
  unfold on2B at es
  rw [frB_step (by omega)] at es
  unfold XX4_tryTwos_L14
  refine En_lup2 (fun _ l3 _ => (20 - l3).toNat) (fun l2 l3 g => (i : Int) = l2 ∧ ∃ j : Nat, l3 = (j : Int) ∧ i < j ∧ j ≤ NB h a ∧ ∃ s, CIB h a (NB h a) (UUB h a) s g ∧ on2B h a (i + 1) (tw2B h a i j s) = F) ?_ FU _ _ _ (by unfold FU; omega) ⟨rfl, i + 1, by omega, by omega, by omega, s, cs, es⟩
  rintro self2 l2 l3 g2 ih2 ⟨rfl, j, rfl, hij, hj, s2, cs2, es2⟩
  unfold XX4_tryTwos_b14
  rw [cs2.2.2.2.2.1.1]
  by_cases q2 : (NB h a : Int) ≤ j
  · rw [if_pos q2, chk_pos (by omega)]
    unfold tw2B at es2
    rw [frB_end (by omega)] at es2
    exact ih _ _ (by omega) ⟨i + 1, by omega, by omega, s2, cs2, es2⟩
  · rw [if_neg q2, inb_pos (by omega), inb_pos (by omega), Int.toNat_natCast, Int.toNat_natCast, cs2.2.2.2.2.1.2 i (by omega), cs2.2.2.2.2.1.2 j (by omega)]
    refine En_cal (tryOne_ok hI hT h40 h41 cs2 (VdB_2 hij (by omega))) (fun r g3 _ hr => ?_)
    rw [chk_pos (by omega)]
    unfold tw2B at es2
    rw [frB_step (by omega)] at es2
    exact ih2 _ _ _ (by omega) ⟨rfl, j + 1, by omega, by omega, by omega, _, hr, es2⟩
theorem threes_ok {n0 : Nat} {h x : Hp} {a : Int} {st : Int × Int × Int × Int} (hI : Inv n0 h) (hT : Two h) (h40 : h 40 4 = 1) (h41 : ∀ k, k < 3 → h 41 k = p3 a (-1) (-1) k) (c : CIB h a (NB h a) (UUB h a) st x) : En (XX4_tryThrees x) (fun _ g => CIB h a (NB h a) (UUB h a) (on3B h a 0 st) g) := by
  have hle := NB_le (a := a) hI.2.2.2.2.1 (by have := Pl_lt (by decide) hT.1.1; omega)
  generalize hF : on3B h a 0 st = F
  unfold XX4_tryThrees XX4_tryThrees_L2
  refine En_lup1 (fun l _ => (20 - l).toNat) (fun l g => ∃ i : Nat, l = (i : Int) ∧ i ≤ NB h a ∧ ∃ s, CIB h a (NB h a) (UUB h a) s g ∧ on3B h a i s = F) ?_ FU _ _ (by unfold FU; omega) ⟨0, rfl, Nat.zero_le _, st, c, hF⟩
  rintro self l g ih ⟨i, rfl, hi, s, cs, es⟩
  unfold XX4_tryThrees_b2
  rw [cs.2.2.2.2.1.1]
  by_cases q : (NB h a : Int) ≤ i
  · rw [if_pos q]
    unfold on3B at es
    rw [frB_end (by omega)] at es
    subst es
    exact En_some cs
  rw [if_neg q, chk_pos (by omega), nm_eq]
  unfold on3B at es
  rw [frB_step (by omega)] at es
  unfold XX4_tryThrees_L14
  refine En_lup2 (fun _ l3 _ => (20 - l3).toNat) (fun l2 l3 g => (i : Int) = l2 ∧ ∃ j : Nat, l3 = (j : Int) ∧ i < j ∧ j ≤ NB h a ∧ ∃ s, CIB h a (NB h a) (UUB h a) s g ∧ on3B h a (i + 1) (th2B h a i j s) = F) ?_ FU _ _ _ (by unfold FU; omega) ⟨rfl, i + 1, by omega, by omega, by omega, s, cs, es⟩
  rintro self2 l2 l3 g2 ih2 ⟨rfl, j, rfl, hij, hj, s2, cs2, es2⟩
  unfold XX4_tryThrees_b14
  rw [cs2.2.2.2.2.1.1]
  by_cases q2 : (NB h a : Int) ≤ j
  · rw [if_pos q2, chk_pos (by omega)]
    unfold th2B at es2
    rw [frB_end (by omega)] at es2
    exact ih _ _ (by omega) ⟨i + 1, by omega, by omega, s2, cs2, es2⟩
  rw [if_neg q2, chk_pos (by omega), nm_eq]
  unfold th2B at es2
  rw [frB_step (by omega)] at es2
  unfold XX4_tryThrees_L27
  refine En_lup3 (fun _ _ l4 _ => (20 - l4).toNat) (fun l2 l3 l4 g => (i : Int) = l2 ∧ (j : Int) = l3 ∧ ∃ k : Nat, l4 = (k : Int) ∧ j < k ∧ k ≤ NB h a ∧ ∃ s, CIB h a (NB h a) (UUB h a) s g ∧ on3B h a (i + 1) (th2B h a i (j + 1) (th3B h a i j k s)) = F) ?_ FU _ _ _ _ (by unfold FU; omega) ⟨rfl, rfl, j + 1, by omega, by omega, by omega, s2, cs2, es2⟩
  rintro self3 l2 l3 l4 g3 ih3 ⟨rfl, rfl, k, rfl, hjk, hk, s3, cs3, es3⟩
  unfold XX4_tryThrees_b27
  rw [cs3.2.2.2.2.1.1]
  by_cases q3 : (NB h a : Int) ≤ k
  · rw [if_pos q3, chk_pos (by omega)]
    unfold th3B at es3
    rw [frB_end (by omega)] at es3
    exact ih2 _ _ _ (by omega) ⟨rfl, j + 1, by omega, by omega, by omega, s3, cs3, es3⟩
  · rw [if_neg q3, inb_pos (by omega), inb_pos (by omega), inb_pos (by omega), Int.toNat_natCast, Int.toNat_natCast, Int.toNat_natCast, cs3.2.2.2.2.1.2 i (by omega), cs3.2.2.2.2.1.2 j (by omega), cs3.2.2.2.2.1.2 k (by omega)]
    refine En_cal (tryOne_ok hI hT h40 h41 cs3 (VdB_3 hij hjk (by omega))) (fun r g4 _ hr => ?_)
    rw [chk_pos (by omega)]
    unfold th3B at es3
    rw [frB_step (by omega)] at es3
    exact ih3 _ _ _ _ (by omega) ⟨rfl, rfl, k + 1, by omega, by omega, by omega, _, hr, es3⟩
/-- the class's search -/
def FrB (h x : Hp) : Prop := ∀ y i, ¬ ((42 ≤ y ∧ y ≤ 43) ∨ y = 203 ∨ (y = 40 ∧ 8 ≤ i ∧ i ≤ 9) ∨ (45 ≤ y ∧ y ≤ 52) ∨ (y = 53 ∧ 3 ≤ i) ∨ y = 55) → x y i = h y i
theorem searchB_ok {n0 : Nat} {h x : Hp} {a : Int} (hI : Inv n0 h) (hT : Two h) (h40 : h 40 4 = 1) (h41 : ∀ k, k < 3 → h 41 k = p3 a (-1) (-1) k) (ha : 0 ≤ a ∧ a < wn 18 h) (e : FrB h x) (l3 : x 45 3 = 1) (l46 : ∀ k : Nat, k < 1 → x 46 k = h 41 k) (l48 : ∀ q part : Nat, q < 2 ^ 1 → (part : Int) < h 37 1 → x 48 (4 * q + part) = mdQ h q part) : VSB h a (bsB h a) ∧ En (XX4_search 17 a x) (fun r g => FrB h g ∧ (((bsB h a).1 = -1 ∧ r = 0) ∨ (0 ≤ (bsB h a).1 ∧ r = 1 ∧ g 53 8 = (bsB h a).1 ∧ FS h g (tlM (bsB h a).2.1 (bsB h a).2.2.1 (bsB h a).2.2.2) 1 (p3 (bsB h a).2.1 (bsB h a).2.2.1 (bsB h a).2.2.2) ∧ FdA (ABB h a (bsB h a).2.1 (bsB h a).2.2.1 (bsB h a).2.2.2) (tlM (bsB h a).2.1 (bsB h a).2.2.1 (bsB h a).2.2.2) 1 (g 45 11) (g 52 0) (g 52 1)))) := by
  have lt := Pl_lt (by decide) hT.1.1
  have j4 : J4 h := hI.2.2.2.2.1
  have hle := NB_le (a := a) j4 (by omega)
  have key : ∃ r9 h9, XX4_search 17 a x = (if h9 53 7 = 0 then XX4_search_p94 h9 else cal (XX1_tell (h9 53 4) (h9 53 5) (h9 53 6) h9) (fun r10 h11 => cal (XX1_allow h11) (fun r12 h13 => cal (XX1_choose h13) (fun r14 h15 => XX4_search_p94 h15)))) ∧ r9 = (0 : Int) ∧ CIB h a (NB h a) (UUB h a) (bsB h a) h9 := by
    obtain ⟨r2, x2, e2, f2, v3, v55⟩ := listUsable_ok (x := x) hT.1.1 j4 ha (fun y i hh => e y i (by omega))
    have o3 : ∀ y i, ¬ (y = 53 ∧ i = 7) → wr x2 53 7 0 y i = x2 y i := fun y i hh => wq_ne hh
    have v7 : wr x2 53 7 0 53 7 = 0 := wr_at
    have E1 : XX4_search 17 a x = cal (XX4_tryOne (-1) (-1) (-1) (wr x2 53 7 0)) (fun r4 h5 => XX4_search_L22 0 h5) := by
      unfold XX4_search
      rw [e2, cal_eq, zb_0, hm_eq]
    rw [E1]
    generalize wr x2 53 7 0 = x3 at *
    have c3 : CIB h a (NB h a) (UUB h a) (-1, 0, 0, 0) x3 := ⟨fun y i hh => by rw [o3 y i (by omega), f2 y i (by omega)]; exact e y i hh, by rw [o3 45 3 (by omega), f2 45 3 (by omega)]; exact l3, fun k hk => by rw [o3 46 k (by omega), f2 46 k (by omega)]; exact l46 k hk, fun q part hq hp => by rw [o3 48 _ (by omega), f2 48 _ (by omega)]; exact l48 q part hq hp, ⟨by rw [o3 53 3 (by omega)]; exact v3, fun i hi => by rw [o3 55 i (by omega)]; exact v55 i hi⟩, Or.inl rfl, Or.inl ⟨rfl, v7⟩⟩
    obtain ⟨r4, x4, e4, c4⟩ := tryOne_ok hI hT h40 h41 c3 (VdB_0 h a)
    rw [e4, cal_eq]
    have loop : ∀ (d i : Nat) (s : Int × Int × Int × Int) (y : Hp) (fu : Nat), NB h a - i = d → i ≤ NB h a → d < fu → CIB h a (NB h a) (UUB h a) s y → on3B h a 0 (on2B h a 0 (on1B h a i s)) = bsB h a → ∃ r9 h9, lup1 XX4_search_b22 fu i y = (if h9 53 7 = 0 then XX4_search_p94 h9 else cal (XX1_tell (h9 53 4) (h9 53 5) (h9 53 6) h9) (fun r10 h11 => cal (XX1_allow h11) (fun r12 h13 => cal (XX1_choose h13) (fun r14 h15 => XX4_search_p94 h15)))) ∧ r9 = (0 : Int) ∧ CIB h a (NB h a) (UUB h a) (bsB h a) h9 := by
      intro d
      induction d with
      | zero =>
        intro i s y fu hd hi hfu cs es
        obtain ⟨fu', rfl⟩ : ∃ f, fu = f + 1 := ⟨fu - 1, by omega⟩
        rw [lup1_s]
        unfold XX4_search_b22
        rw [cs.2.2.2.2.1.1, if_pos (by omega)]
        unfold on1B at es
        rw [frB_end (by omega)] at es
        obtain ⟨r6, y7, e6, c6⟩ := twos_ok hI hT h40 h41 cs
        obtain ⟨r8, y9, e8, c8⟩ := threes_ok hI hT h40 h41 c6
        rw [es] at c8
        refine ⟨0, y9, ?_, rfl, c8⟩
        rw [e6, cal_eq, e8, cal_eq]
      | succ d ihd =>
        intro i s y fu hd hi hfu cs es
        obtain ⟨fu', rfl⟩ : ∃ f, fu = f + 1 := ⟨fu - 1, by omega⟩
        rw [lup1_s]
        obtain ⟨r, y2, e2', c2'⟩ := tryOne_ok hI hT h40 h41 cs (VdB_1 (show i < NB h a by omega))
        have es' : on3B h a 0 (on2B h a 0 (on1B h a (i + 1) (updB h a s (UUB h a i) (-1) (-1)))) = bsB h a := by
          rw [← es]
          show _ = on3B h a 0 (on2B h a 0 (frB _ (NB h a - i) i s))
          rw [frB_step (by omega)]; rfl
        obtain ⟨r9, h9, e9, q9⟩ := ihd (i + 1) _ y2 fu' (by omega) (by omega) (by omega) c2' es'
        refine ⟨r9, h9, ?_, q9⟩
        rw [← e9]
        show XX4_search_b22 _ _ _ = _
        unfold XX4_search_b22
        rw [cs.2.2.2.2.1.1, if_neg (by omega), inb_pos (by omega), Int.toNat_natCast, cs.2.2.2.2.1.2 i (by omega), e2', cal_eq, chk_pos (by omega)]
        rfl
    exact loop (NB h a) 0 _ x4 FU (by omega) (by omega) (by unfold FU; omega) c4 rfl
  obtain ⟨_, h9, e9, _, c9⟩ := key
  refine ⟨c9.2.2.2.2.2.1, ?_⟩
  rw [e9]
  have hV := c9.2.2.2.2.2.1
  rcases c9.2.2.2.2.2.2 with ⟨z, z7⟩ | ⟨z, z7, z8, z4, z5, z6⟩
  · rw [z7, if_pos rfl]
    unfold XX4_search_p94
    rw [z7, zb_0]
    exact En_some ⟨c9.1, Or.inl ⟨z, rfl⟩⟩
  · rw [z7, if_neg n10, z4, z5, z6]
    obtain ⟨_, hV, hok⟩ := hV.resolve_left (by omega)
    generalize bsB h a = st at *
    obtain ⟨sv, u, v, w⟩ := st
    have x18 : h9 18 = h 18 := funext (fun i => c9.1 18 i (by omega))
    have hN : Nums 40 18 h9 := by
      have := hT.1.1
      unfold Nums at *
      rw [x18]; exact this
    have tl : TLp (wn 18 h) u v w := hV.1
    rcases tell_ok hN u v w with ⟨_, x1, e1, g5, g47, f1⟩ | ⟨t, _⟩
    rotate_left
    · exact absurd (by rw [wn_congr x18]; exact tl) t
    show En (cal (XX1_tell u v w h9) _) _
    rw [e1, cal_eq]
    have cI1 := CIB_tr (fun y i hh => f1 y i (by omega)) c9
    have hm3 : tlM u v w ≤ 3 := tlM_le u v w
    have tlin := TLp_in tl
    have s1 : FS h x1 (tlM u v w) 1 (p3 u v w) := ⟨cI1.1, ⟨hm3, g5, fun j hj => by rw [g47 j (by omega), wn_congr (show x1 18 = h 18 from funext (fun i => cI1.1 18 i (by omega)))]; exact tlin j hj⟩, cI1.2.1, fun j hj => g47 j (by omega), cI1.2.2.1, cI1.2.2.2.1⟩
    obtain ⟨r5, x2, e5, s5, hr5, f5⟩ := core_ok hT hI.2.2.2.1.1 (by omega) s1
    obtain ⟨c1, c2, c3, c4⟩ := FS_conv2 hI s1 (by rw [h40]; rfl) (by omega) h41 (g := h) (fun _ _ _ => rfl)
    have AL1 : ∀ q p, q < 2 ^ 1 → (AL x1 (tlM u v w) q p ↔ ABB h a u v w q p) := fun q p hq => by
      show ALg (x1 37 0).toNat _ _ _ q p ↔ _
      rw [c1]
      exact ALg_congr (fun c hc => c2 c (by omega)) (fun c _ => c3 c) (fun c hc => c4 q c hq (by omega)) p
    rw [e5, cal_eq]
    rcases hr5 with ⟨rfl, ok, hch⟩ | ⟨rfl, bad⟩
    · obtain ⟨r6, x3, e6, s6, hF, f6⟩ := hch
      have k53 : ∀ i, x3 53 i = h9 53 i := fun i => by rw [f6 53 i (by omega), f5 53 i (by omega), f1 53 i (by omega)]
      rw [e6, cal_eq]
      unfold XX4_search_p94
      rw [k53, z7, zb_1]
      exact En_some ⟨s6.1, Or.inr ⟨z, rfl, by rw [k53]; exact z8, s6, FdA_congr (fun q p hq _ => AL1 q p hq) hF⟩⟩
    · exfalso
      obtain ⟨p, hp, hb⟩ := bad
      obtain ⟨q, h1, h2⟩ := hok p hp
      exact hb q h1 ((AL1 q p h1).2 h2)
