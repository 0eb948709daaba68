theorem FS_conv2 {n0 : Nat} {h x g : Hp} {m n : Nat} {a b : Int} {tw : Nat → Int} (hI : Inv n0 h) (s : FS h x m n tw) (h40 : h 40 4 = (n : Int)) (hn : 1 ≤ n ∧ n ≤ 2) (h41 : ∀ k, k < 3 → h 41 k = p3 a b (-1) k) (eg : ∀ a i, ((18 ≤ a ∧ a ≤ 22) ∨ (28 ≤ a ∧ a ≤ 32) ∨ a = 149 ∨ (a = 143 ∧ 1 ≤ i ∧ i ≤ 2)) → g a i = h a i) : (x 37 0).toNat = 2 ^ (sM g).toNat ∧ (∀ c, c < (x 37 0).toNat → (live x c = true ↔ g 149 c = 0)) ∧ (∀ c, pT x (x 47) c m = pT g tw c m) ∧ ∀ q c, q < 2 ^ n → c < (x 37 0).toNat → (mF x q c ↔ mG g a b n q c) := by
  have m3 := s.2.1.1
  obtain ⟨g', w, w195⟩ : ∃ g' : Hp, (∀ a i, ¬ a = 195 → g' a i = g a i) ∧ ∀ j, g' 195 j = tw j := ⟨fun y j => if y = 195 then tw j else g y j, fun a i ha => if_neg ha, fun j => if_pos rfl⟩
  obtain ⟨c1, c2, c3, c4⟩ := FS_conv (g := g') hI s h40 hn h41 (fun a i hh => by rw [w a i (by omega)]; exact eg a i hh) (fun j _ => w195 j)
  have es : sM g' = sM g := sM_congr (w 143 1 (by omega)) (w 143 2 (by omega))
  rw [es] at c1
  refine ⟨c1, fun c hc => by rw [c2 c hc, w 149 c (by omega)], fun c => ?_, fun q c hq hc => ?_⟩
  · rw [c3 c]; exact pT_congr (fun a i ha => w a i (by omega)) (fun j _ => w195 j) c
  · rw [c4 q c hq hc]
    unfold mG
    rw [mdW_congr (h := g) (fun a i hh => w a i (by omega))]
theorem patchM_front {g : Hp} (w : Wk g) (a b u v x : Int) : XX12_patch a b u v x g = if 0 < ptN g a b (-1) ∧ TLp (wn 18 g) u v x then XX12_patch_L180 a b (ptN g a b (-1)) (tlM u v x : Int) 0 (wr (wr (wr g 195 0 u) 195 1 v) 195 2 x) else some (-1, g) := by
  have hMS := Wk_MS w
  obtain ⟨r1, r2, r3, r4⟩ := Rel_s w.1
  have isW : ∀ y, XX12_isWire 0 y g = some (if 0 ≤ y ∧ y < wn 18 g then 1 else 0, g) := fun y => by rw [isWireM_eq hMS.1.1 (by omega), r3]
  have p144 : ∀ n m : Int, XX12_patch_p144 a b u v x n m g = some (-1, g) := fun n m => by unfold XX12_patch_p144 XX12_patch_p145; rw [if_pos rfl]
  have p140 : ∀ n m : Int, XX12_patch_p140 a b u v x n m g = XX12_patch_L180 a b n m 0 (wr (wr (wr g 195 0 u) 195 1 v) 195 2 x) := fun n m => by
    unfold XX12_patch_p140 XX12_patch_p145
    rw [if_neg n10, inb_pos (by decide), hm_eq, inb_pos (by decide), hm_eq, inb_pos (by decide), hm_eq]; rfl
  have p117 : ∀ n m : Int, XX12_patch_p117 a b u v x n m g = if x = -1 ∨ ((0 ≤ x ∧ x < wn 18 g) ∧ v < x) then XX12_patch_L180 a b n m 0 (wr (wr (wr g 195 0 u) 195 1 v) 195 2 x) else some (-1, g) := fun n m => by
    unfold XX12_patch_p117
    by_cases q : x = -1
    · rw [if_pos q, if_pos (Or.inl q), p140]
    rw [if_neg q, isW, cal_eq]
    by_cases q2 : 0 ≤ x ∧ x < wn 18 g
    · rw [if1 q2, if_neg n10]
      by_cases q3 : x ≤ v
      · rw [if_pos q3, p144, if_neg (by omega)]
      · rw [if_neg q3, p140, if_pos (by omega)]
    · rw [if0 q2, if_pos rfl, p144, if_neg (by omega)]
  have p95 : ∀ n m : Int, XX12_patch_p95 a b u v x n m g = if (v = -1 ∨ ((0 ≤ v ∧ v < wn 18 g) ∧ u < v)) ∧ (x = -1 ∨ ((0 ≤ x ∧ x < wn 18 g) ∧ v < x)) then XX12_patch_L180 a b n m 0 (wr (wr (wr g 195 0 u) 195 1 v) 195 2 x) else some (-1, g) := fun n m => by
    unfold XX12_patch_p95
    by_cases q : v = -1
    · rw [if_pos q, p117]
      by_cases t : x = -1 ∨ ((0 ≤ x ∧ x < wn 18 g) ∧ v < x)
      · rw [if_pos t, if_pos ⟨Or.inl q, t⟩]
      · rw [if_neg t, if_neg (fun y => t y.2)]
    rw [if_neg q, isW, cal_eq]
    by_cases q2 : 0 ≤ v ∧ v < wn 18 g
    · rw [if1 q2, if_neg n10]
      by_cases q3 : v ≤ u
      · rw [if_pos q3, p144, if_neg (by omega)]
      · rw [if_neg q3, p117]
        by_cases t : x = -1 ∨ ((0 ≤ x ∧ x < wn 18 g) ∧ v < x)
        · rw [if_pos t, if_pos ⟨by omega, t⟩]
        · rw [if_neg t, if_neg (fun y => t y.2)]
    · rw [if0 q2, if_pos rfl, p144, if_neg (by omega)]
  have p74 : ∀ n m : Int, XX12_patch_p74 a b u v x n m 1 g = if (u = -1 ∨ (0 ≤ u ∧ u < wn 18 g)) ∧ (v = -1 ∨ ((0 ≤ v ∧ v < wn 18 g) ∧ u < v)) ∧ (x = -1 ∨ ((0 ≤ x ∧ x < wn 18 g) ∧ v < x)) then XX12_patch_L180 a b n m 0 (wr (wr (wr g 195 0 u) 195 1 v) 195 2 x) else some (-1, g) := fun n m => by
    unfold XX12_patch_p74
    rw [if_neg n10]
    by_cases q : u = -1
    · rw [if_pos q, p95]
      by_cases t : (v = -1 ∨ ((0 ≤ v ∧ v < wn 18 g) ∧ u < v)) ∧ (x = -1 ∨ ((0 ≤ x ∧ x < wn 18 g) ∧ v < x))
      · rw [if_pos t, if_pos ⟨Or.inl q, t⟩]
      · rw [if_neg t, if_neg (fun y => t y.2)]
    rw [if_neg q, isW, cal_eq]
    by_cases q2 : 0 ≤ u ∧ u < wn 18 g
    · rw [if1 q2, if_neg n10, p95]
      by_cases t : (v = -1 ∨ ((0 ≤ v ∧ v < wn 18 g) ∧ u < v)) ∧ (x = -1 ∨ ((0 ≤ x ∧ x < wn 18 g) ∧ v < x))
      · rw [if_pos t, if_pos ⟨Or.inr q2, t⟩]
      · rw [if_neg t, if_neg (fun y => t y.2)]
    · rw [if0 q2, if_pos rfl, p144, if_neg (by omega)]
  have p73 : ∀ n m : Int, XX12_patch_p73 a b u v x n m g = some (-1, g) := fun n m => by unfold XX12_patch_p73 XX12_patch_p74; rw [if_pos rfl, p144]
  have p57 : ∀ n m : Int, XX12_patch_p57 a b u v x n m g = if (v ≠ -1 ∨ x = -1) ∧ (u = -1 ∨ (0 ≤ u ∧ u < wn 18 g)) ∧ (v = -1 ∨ ((0 ≤ v ∧ v < wn 18 g) ∧ u < v)) ∧ (x = -1 ∨ ((0 ≤ x ∧ x < wn 18 g) ∧ v < x)) then XX12_patch_L180 a b n m 0 (wr (wr (wr g 195 0 u) 195 1 v) 195 2 x) else some (-1, g) := fun n m => by
    have p69 : ∀ (X : v ≠ -1 ∨ x = -1), XX12_patch_p69 a b u v x n m g = if (v ≠ -1 ∨ x = -1) ∧ (u = -1 ∨ (0 ≤ u ∧ u < wn 18 g)) ∧ (v = -1 ∨ ((0 ≤ v ∧ v < wn 18 g) ∧ u < v)) ∧ (x = -1 ∨ ((0 ≤ x ∧ x < wn 18 g) ∧ v < x)) then XX12_patch_L180 a b n m 0 (wr (wr (wr g 195 0 u) 195 1 v) 195 2 x) else some (-1, g) := fun X => by
      unfold XX12_patch_p69
      rw [p74]
      by_cases t : (u = -1 ∨ (0 ≤ u ∧ u < wn 18 g)) ∧ (v = -1 ∨ ((0 ≤ v ∧ v < wn 18 g) ∧ u < v)) ∧ (x = -1 ∨ ((0 ≤ x ∧ x < wn 18 g) ∧ v < x))
      · rw [if_pos t, if_pos ⟨X, t⟩]
      · rw [if_neg t, if_neg (fun y => t y.2)]
    unfold XX12_patch_p57
    by_cases q : v = -1
    · rw [if_pos q]
      by_cases q2 : x = -1
      · rw [if_pos q2, p69 (Or.inr q2)]
      · rw [if_neg q2, p73, if_neg (by omega)]
    · rw [if_neg q, p69 (Or.inl q)]
  have p39 : ∀ n m : Int, XX12_patch_p39 a b u v x n m g = if 0 < n ∧ TLp (wn 18 g) u v x then XX12_patch_L180 a b n m 0 (wr (wr (wr g 195 0 u) 195 1 v) 195 2 x) else some (-1, g) := fun n m => by
    unfold XX12_patch_p39 TLp
    by_cases q : n ≤ 0
    · rw [if_pos q, p73, if_neg (by omega)]
    rw [if_neg q]
    by_cases q2 : u = -1
    · rw [if_pos q2]
      by_cases q3 : v = -1
      · rw [if_pos q3, p57]
        by_cases t : x = -1
        · rw [if_pos (by omega), if_pos (by omega)]
        · rw [if_neg (by omega), if_neg (by omega)]
      · rw [if_neg q3, p73, if_neg (by omega)]
    · rw [if_neg q2, p57]
      by_cases t : (v ≠ -1 ∨ x = -1) ∧ (u = -1 ∨ (0 ≤ u ∧ u < wn 18 g)) ∧ (v = -1 ∨ ((0 ≤ v ∧ v < wn 18 g) ∧ u < v)) ∧ (x = -1 ∨ ((0 ≤ x ∧ x < wn 18 g) ∧ v < x))
      · rw [if_pos t, if_pos (by omega)]
      · rw [if_neg t, if_neg (by omega)]
  unfold XX12_patch tlM
  rw [arePoints_wk hMS w.1, cal_eq]
  by_cases q1 : u = -1
  · rw [if_pos q1, if_pos q1, p39]; rfl
  rw [if_neg q1, if_neg q1]
  by_cases q2 : v = -1
  · rw [if_pos q2, if_pos q2, p39]; rfl
  rw [if_neg q2, if_neg q2]
  by_cases q3 : x = -1
  · rw [if_pos q3, if_pos q3, p39]; rfl
  rw [if_neg q3, if_neg q3, p39]; rfl
theorem ringL_ok {P : Int → Hp → Prop} {g0 : Hp} (w : Wk g0) {B : Nat → Nat → Bool} (hB : Hang (sc 18 g0) (wn 18 g0) (g0 19) (g0 20) B) {a b : Int} {n m : Nat} (hn : 1 ≤ n ∧ n ≤ 2) (hm3 : m ≤ 3) (ht : ∀ j, j < m → 0 ≤ g0 195 j ∧ g0 195 j < wn 18 g0) (hp : ∀ k, k < n → 0 ≤ p3 a b (-1) k ∧ p3 a b (-1) k < wn 18 g0)
    (hfin : (∀ j k, j < m → k < n → B (g0 195 j).toNat (p3 a b (-1) k).toNat = false) → ∀ g : Hp, (∀ x i, x ≠ 185 → g x i = g0 x i) → En (cal (XX12_finds a b n m 1 g) (fun r6 h7 => zb 0 (hm (wr h7 143 23 0) (fun h8 => if r6 = (-4) then some ((-4), h8) else cal (XX12_keepsPatch a b n m h8) (fun r9 h10 => some (r6, h10)))))) P)
    (hring : (∃ j k, j < m ∧ k < n ∧ B (g0 195 j).toNat (p3 a b (-1) k).toNat = true) → ∀ g : Hp, (∀ x i, x ≠ 185 → g x i = g0 x i) → P (-2) g) : En (XX12_patch_L180 a b n m 0 g0) P := by
  have lt := Pl_lt (by decide) w.2.1.1
  have pa := hp 0 (by omega)
  have pa : 0 ≤ a ∧ a < wn 18 g0 := pa
  unfold XX12_patch_L180
  refine En_lup5 (fun _ _ _ _ l9 _ => (5 - l9).toNat) (fun l1 l2 l6 l7 l9 g => a = l1 ∧ b = l2 ∧ (n : Int) = l6 ∧ (m : Int) = l7 ∧ 0 ≤ l9 ∧ l9 ≤ m ∧ (∀ x i, x ≠ 185 → g x i = g0 x i) ∧ ∀ j k : Nat, (j : Int) < l9 → k < n → B (g0 195 j).toNat (p3 a b (-1) k).toNat = false) ?_ FU _ _ _ _ _ _ (by unfold FU; omega) ⟨rfl, rfl, rfl, rfl, by omega, by omega, fun _ _ _ => rfl, fun j k hj => by omega⟩
  rintro self l1 l2 l6 l7 l9 g ih ⟨rfl, rfl, rfl, rfl, c0, c1, c2, c3⟩
  obtain ⟨j, rfl⟩ := Int.eq_ofNat_of_zero_le c0
  unfold XX12_patch_b180
  by_cases q : (m : Int) ≤ j
  · rw [if_pos q]
    exact hfin (fun j' k hj hk => c3 j' k (by omega) hk) g c2
  have wg : Wk g := Wk_tr (fun a i hh => c2 a i (by omega)) w
  have hMS := Wk_MS wg
  obtain ⟨r1, r2, r3, r4⟩ := Rel_s wg.1
  have e18 : g 18 = g0 18 := funext (fun i => c2 18 i (by omega))
  have hBg : Hang (sM g) (nM 0 g) (kM 0 g) (pM 0 g) B := by
    rw [r1, r3, sc_congr e18, wn_congr e18]
    refine Hang_congr lt.2.2.1 (fun w hw => ?_) (fun j hj => ?_) hB
    · rw [kM0 wg.1 w hw, c2 19 w (by omega)]
    · rw [pM0 wg.1 j hj, c2 20 j (by omega)]
  have hj := ht j (by omega)
  obtain ⟨t, ht1⟩ := Int.eq_ofNat_of_zero_le hj.1
  rw [if_neg q, inb_pos (by omega), Int.toNat_natCast, c2 195 j (by omega), ht1]
  refine En_cal (looks_ok hMS.1.1 (e := 0) (by omega) (hMS.1.2 0 (by omega)).1 (hMS.1.2 0 (by omega)).2 hBg (w := t) (by rw [r3, wn_congr e18]; omega)) (fun r h1 e1 hr => ?_)
  have f1 := fr_XX12_looks e1
  have c2' : ∀ x i, x ≠ 185 → h1 x i = g0 x i := fun x i hx => by rw [f1 x i (by omega)]; exact c2 x i hx
  have hra := hr a.toNat (by omega)
  have next : (∀ k, k < n → B t (p3 a b (-1) k).toNat = false) → En (XX12_patch_p226 self a b n m j h1) P := by
    intro hn'
    unfold XX12_patch_p226
    rw [chk_pos (by omega)]
    refine ih _ _ _ _ _ _ (by omega) ⟨rfl, rfl, rfl, rfl, by omega, by omega, c2', fun j' k h1 h2 => ?_⟩
    by_cases qj : j' = j
    · rw [qj, ht1, Int.toNat_natCast]; exact hn' k h2
    · exact c3 j' k (by omega) h2
  rw [inb_pos (by omega), hra]
  by_cases qa : B t a.toNat = true
  · rw [if_pos qa, if_neg n10]
    exact En_some (hring ⟨j, 0, by omega, by omega, by rw [ht1, Int.toNat_natCast]; exact qa⟩ h1 c2')
  · rw [if_neg qa, if_pos rfl]
    have qa := Bool.eq_false_iff.mpr qa
    by_cases n1 : (n : Int) ≤ 1
    · rw [if_pos n1]
      refine next (fun k hk => ?_)
      have : k = 0 := by omega
      subst this; exact qa
    · have pb := hp 1 (by omega)
      have pb : 0 ≤ b ∧ b < wn 18 g0 := pb
      have hrb := hr b.toNat (by omega)
      rw [if_neg n1, inb_pos (by omega), hrb]
      by_cases qb : B t b.toNat = true
      · rw [if_pos qb, if_neg n10]
        exact En_some (hring ⟨j, 1, by omega, by omega, by rw [ht1, Int.toNat_natCast]; exact qb⟩ h1 c2')
      · rw [if_neg qb, if_pos rfl]
        have qb := Bool.eq_false_iff.mpr qb
        refine next (fun k hk => ?_)
        rcases (by omega : k = 0 ∨ k = 1) with rfl | rfl
        · exact qa
        · exact qb
theorem Inv_pat {n : Nat} {h g : Hp} (hI : Inv n h) (e : ∀ a i, ¬ ((a = 16 ∧ 13 ≤ i ∧ i ≤ 14) ∨ a = 26 ∨ a = 36 ∨ (40 ≤ a ∧ a ≤ 52) ∨ (203 ≤ a ∧ a ≤ 205) ∨ (a = 53 ∧ 3 ≤ i) ∨ (55 ≤ a ∧ a ≤ 66) ∨ (70 ≤ a ∧ a ≤ 71) ∨ a = 77 ∨ (159 ≤ a ∧ a ≤ 166) ∨ (185 ≤ a ∧ a ≤ 202) ∨ (a = 143 ∧ (i = 0 ∨ (21 ≤ i ∧ i ≤ 27) ∨ (63 ≤ i ∧ i ≤ 64) ∨ (71 ≤ i ∧ i ≤ 74)))) → g a i = h a i) (j6 : J6 g) (j8 : J8 g) (j14 : J14 g) : Inv (n + 1) g := by
  obtain ⟨i1, i2, i3, i4, i5, i6, i7, i8, i9, i10, i11, i12, i13, i14, i15⟩ := hI
  exact ⟨J1_tr (fun a i hh => e a i (by omega)) i1, RelN_congr (fun a i hh => e a i (by omega)) i2, J2_tr (fun a i hh => e a i (by omega)) i3, J3_tr (fun a i hh => e a i (by omega)) i4, J4_tr (fun a i hh => e a i (by omega)) i5, J5_tr (fun a i hh => e a i (by omega)) i6, j6, J7_tr (fun a i hh => e a i (by omega)) i8, j8, J9_tr (fun a i hh => e a i (by omega)) i10, J10_tr (fun a i hh => e a i (by omega)) i11, J11_tr (fun a i hh => e a i (by omega)) i12, J12_tr (fun a i hh => e a i (by omega)) i13, J13_tr (fun a i hh => e a i (by omega)) i14, j14⟩
