theorem wr195 {g : Hp} {k : Nat} {z : Int} : ∀ y i, ¬ y = 195 → wr g 195 k z y i = g y i := fun y i hh => wq_ne (by omega)
/-- the model's threes, twos and ones -/
theorem threesM {n0 : Nat} {h gB : Hp} {a : Int} {F : Int × Int × Int × Int} {P : Int → Hp → Prop} (hI : Inv n0 h) (e : EqB h gB) (e197 : ∀ i, i < NB h a → gB 197 i = UUB h a i) (hend : ∀ g, RMB gB F g → En (if (g 143 73) = (-1) then some ((-4), g) else XX12_best_L273 a 0 g) P) {st : Int × Int × Int × Int} {g : Hp} (c : RMB gB st g) (es : on3B h a 0 st = F) : En (XX12_best_L170 a (NB h a) 0 g) P := by
  have lt := Pl_lt (by decide) (Inv_N0 hI)
  have hle := NB_le (a := a) hI.2.2.2.2.1 (by omega)
  have r197 : ∀ {s : Int × Int × Int × Int} {f : Hp}, RMB gB s f → ∀ i, i < NB h a → f 197 i = UUB h a i := fun cf i hi => by rw [cf.1 197 i (by omega)]; exact e197 i hi
  unfold XX12_best_L170
  refine En_lup3 (fun _ _ l _ => (20 - l).toNat) (fun l1 l2 l g => a = l1 ∧ (NB h a : Int) = l2 ∧ ∃ i : Nat, l = (i : Int) ∧ i ≤ NB h a ∧ ∃ s, RMB gB s g ∧ on3B h a i s = F) ?_ FU _ _ _ _ (by unfold FU; omega) ⟨rfl, rfl, 0, rfl, Nat.zero_le _, st, c, es⟩
  rintro self l1 l2 l g ih ⟨rfl, rfl, i, rfl, hi, s, cs, es⟩
  unfold XX12_best_b170
  by_cases q : (NB h a : Int) ≤ i
  · rw [if_pos q]
    unfold on3B at es
    rw [frB_end (by omega)] at es
    subst es
    exact hend g cs
  rw [if_neg q, chk_pos (by omega), nm_eq]
  unfold on3B at es
  rw [frB_step (by omega)] at es
  unfold XX12_best_L180
  refine En_lup4 (fun _ _ _ l4 _ => (20 - l4).toNat) (fun l1 l2 l3 l4 g => a = l1 ∧ (NB h a : Int) = l2 ∧ (i : Int) = l3 ∧ ∃ j : Nat, l4 = (j : Int) ∧ i < j ∧ j ≤ NB h a ∧ ∃ s, RMB gB s g ∧ on3B h a (i + 1) (th2B h a i j s) = F) ?_ FU _ _ _ _ _ (by unfold FU; omega) ⟨rfl, rfl, rfl, i + 1, by omega, by omega, by omega, s, cs, es⟩
  rintro self2 l1 l2 l3 l4 g2 ih2 ⟨rfl, rfl, rfl, j, rfl, hij, hj, s2, cs2, es2⟩
  unfold XX12_best_b180
  by_cases q2 : (NB h a : Int) ≤ j
  · rw [if_pos q2, chk_pos (by omega)]
    unfold th2B at es2
    rw [frB_end (by omega)] at es2
    exact ih _ _ _ _ (by omega) ⟨rfl, rfl, i + 1, by omega, by omega, s2, cs2, es2⟩
  rw [if_neg q2, chk_pos (by omega), nm_eq]
  unfold th2B at es2
  rw [frB_step (by omega)] at es2
  unfold XX12_best_L192
  refine En_lup5 (fun _ _ _ _ l5 _ => (20 - l5).toNat) (fun l1 l2 l3 l4 l5 g => a = l1 ∧ (NB h a : Int) = l2 ∧ (i : Int) = l3 ∧ (j : Int) = l4 ∧ ∃ k : Nat, l5 = (k : Int) ∧ j < k ∧ k ≤ NB h a ∧ ∃ s, RMB gB s g ∧ on3B h a (i + 1) (th2B h a i (j + 1) (th3B h a i j k s)) = F) ?_ FU _ _ _ _ _ _ (by unfold FU; omega) ⟨rfl, rfl, rfl, rfl, j + 1, by omega, by omega, by omega, s2, cs2, es2⟩
  rintro self3 l1 l2 l3 l4 l5 g3 ih3 ⟨rfl, rfl, rfl, rfl, k, rfl, hjk, hk, s3, cs3, es3⟩
  unfold XX12_best_b192
  by_cases q3 : (NB h a : Int) ≤ k
  · rw [if_pos q3, chk_pos (by omega)]
    unfold th3B at es3
    rw [frB_end (by omega)] at es3
    exact ih2 _ _ _ _ _ (by omega) ⟨rfl, rfl, rfl, j + 1, by omega, by omega, by omega, s3, cs3, es3⟩
  · have ek : tlM (UUB h a i) (UUB h a j) (UUB h a k) = 3 := by
      have h1 := (UUB_in (h := h) (a := a) (show i < NB h a by omega)).1
      have h2 := (UUB_in (h := h) (a := a) (show j < NB h a by omega)).1
      have h3 := (UUB_in (h := h) (a := a) (show k < NB h a by omega)).1
      unfold tlM
      rw [if_neg (by omega), if_neg (by omega), if_neg (by omega)]
    rw [if_neg q3, inb_pos (by omega), inb_pos (by decide), hm_eq, inb_pos (by omega), inb_pos (by decide), hm_eq, inb_pos (by omega), inb_pos (by decide), hm_eq]
    rw [Int.toNat_natCast, Int.toNat_natCast, Int.toNat_natCast, show (0 : Int).toNat = 0 from rfl, show (1 : Int).toNat = 1 from rfl, show (2 : Int).toNat = 2 from rfl]
    have e1 : wr g3 195 0 (g3 197 i) 197 j = g3 197 j := wq_ne (by omega)
    have e2 : wr (wr g3 195 0 (g3 197 i)) 195 1 (g3 197 j) 197 k = g3 197 k := by rw [wq_ne (by omega), wq_ne (by omega)]
    rw [e1, e2, r197 cs3 i (by omega), r197 cs3 j (by omega), r197 cs3 k (by omega)]
    have T := tries_ok hI e (RMB_tr wr195 (RMB_tr wr195 (RMB_tr wr195 cs3))) (VdB_3 hij hjk (show k < NB h a by omega)) (g := wr (wr (wr g3 195 0 (UUB h a i)) 195 1 (UUB h a j)) 195 2 (UUB h a k)) (fun q hq => by
      rw [ek] at hq
      rw [wr_row, wr_row, wr_row]
      unfold p3
      rcases (by omega : q = 0 ∨ q = 1 ∨ q = 2) with rfl | rfl | rfl <;> simp)
    rw [ek] at T
    refine En_cal T (fun r g4 _ hr => ?_)
    rw [chk_pos (by omega)]
    unfold th3B at es3
    rw [frB_step (by omega)] at es3
    exact ih3 _ _ _ _ _ _ (by omega) ⟨rfl, rfl, rfl, rfl, k + 1, by omega, by omega, by omega, _, hr, es3⟩
theorem twosM {n0 : Nat} {h gB : Hp} {a : Int} {F : Int × Int × Int × Int} {P : Int → Hp → Prop} (hI : Inv n0 h) (e : EqB h gB) (e197 : ∀ i, i < NB h a → gB 197 i = UUB h a i) (hend : ∀ g, RMB gB F g → En (if (g 143 73) = (-1) then some ((-4), g) else XX12_best_L273 a 0 g) P) {st : Int × Int × Int × Int} {g : Hp} (c : RMB gB st g) (es : on3B h a 0 (on2B h a 0 st) = F) : En (XX12_best_L109 a (NB h a) 0 g) P := by
  have lt := Pl_lt (by decide) (Inv_N0 hI)
  have hle := NB_le (a := a) hI.2.2.2.2.1 (by omega)
  have r197 : ∀ {s : Int × Int × Int × Int} {f : Hp}, RMB gB s f → ∀ i, i < NB h a → f 197 i = UUB h a i := fun cf i hi => by rw [cf.1 197 i (by omega)]; exact e197 i hi
  unfold XX12_best_L109
  refine En_lup3 (fun _ _ l _ => (20 - l).toNat) (fun l1 l2 l g => a = l1 ∧ (NB h a : Int) = l2 ∧ ∃ i : Nat, l = (i : Int) ∧ i ≤ NB h a ∧ ∃ s, RMB gB s g ∧ on3B h a 0 (on2B h a i s) = F) ?_ FU _ _ _ _ (by unfold FU; omega) ⟨rfl, rfl, 0, rfl, Nat.zero_le _, st, c, es⟩
  rintro self l1 l2 l g ih ⟨rfl, rfl, i, rfl, hi, s, cs, es⟩
  unfold XX12_best_b109
  by_cases q : (NB h a : Int) ≤ i
  · rw [if_pos q]
    unfold on2B at es
    rw [frB_end (by omega)] at es
    exact threesM hI e e197 hend cs es
  rw [if_neg q, chk_pos (by omega), nm_eq]
  unfold on2B at es
  rw [frB_step (by omega)] at es
  unfold XX12_best_L119
  refine En_lup4 (fun _ _ _ l4 _ => (20 - l4).toNat) (fun l1 l2 l3 l4 g => a = l1 ∧ (NB h a : Int) = l2 ∧ (i : Int) = l3 ∧ ∃ j : Nat, l4 = (j : Int) ∧ i < j ∧ j ≤ NB h a ∧ ∃ s, RMB gB s g ∧ on3B h a 0 (on2B h a (i + 1) (tw2B h a i j s)) = F) ?_ FU _ _ _ _ _ (by unfold FU; omega) ⟨rfl, rfl, rfl, i + 1, by omega, by omega, by omega, s, cs, es⟩
  rintro self2 l1 l2 l3 l4 g2 ih2 ⟨rfl, rfl, rfl, j, rfl, hij, hj, s2, cs2, es2⟩
  unfold XX12_best_b119
  by_cases q2 : (NB h a : Int) ≤ j
  · rw [if_pos q2, chk_pos (by omega)]
    unfold tw2B at es2
    rw [frB_end (by omega)] at es2
    exact ih _ _ _ _ (by omega) ⟨rfl, rfl, i + 1, by omega, by omega, s2, cs2, es2⟩
  · have ek : tlM (UUB h a i) (UUB h a j) (-1) = 2 := by
      have h1 := (UUB_in (h := h) (a := a) (show i < NB h a by omega)).1
      have h2 := (UUB_in (h := h) (a := a) (show j < NB h a by omega)).1
      unfold tlM
      rw [if_neg (by omega), if_neg (by omega), if_pos rfl]
    rw [if_neg q2, inb_pos (by omega), inb_pos (by decide), hm_eq, inb_pos (by omega), inb_pos (by decide), hm_eq]
    rw [Int.toNat_natCast, Int.toNat_natCast, show (0 : Int).toNat = 0 from rfl, show (1 : Int).toNat = 1 from rfl]
    have e1 : wr g2 195 0 (g2 197 i) 197 j = g2 197 j := wq_ne (by omega)
    rw [e1, r197 cs2 i (by omega), r197 cs2 j (by omega)]
    have T := tries_ok hI e (RMB_tr wr195 (RMB_tr wr195 cs2)) (VdB_2 hij (show j < NB h a by omega)) (g := wr (wr g2 195 0 (UUB h a i)) 195 1 (UUB h a j)) (fun q hq => by
      rw [ek] at hq
      rw [wr_row, wr_row]
      unfold p3
      rcases (by omega : q = 0 ∨ q = 1) with rfl | rfl <;> simp)
    rw [ek] at T
    refine En_cal T (fun r g4 _ hr => ?_)
    rw [chk_pos (by omega)]
    unfold tw2B at es2
    rw [frB_step (by omega)] at es2
    exact ih2 _ _ _ _ _ (by omega) ⟨rfl, rfl, rfl, j + 1, by omega, by omega, by omega, _, hr, es2⟩
theorem onesM {n0 : Nat} {h gB : Hp} {a : Int} {F : Int × Int × Int × Int} {P : Int → Hp → Prop} (hI : Inv n0 h) (e : EqB h gB) (e197 : ∀ i, i < NB h a → gB 197 i = UUB h a i) (hend : ∀ g, RMB gB F g → En (if (g 143 73) = (-1) then some ((-4), g) else XX12_best_L273 a 0 g) P) {st : Int × Int × Int × Int} {g : Hp} (c : RMB gB st g) (es : on3B h a 0 (on2B h a 0 (on1B h a 0 st)) = F) : En (XX12_best_L78 a (NB h a) 0 g) P := by
  have lt := Pl_lt (by decide) (Inv_N0 hI)
  have hle := NB_le (a := a) hI.2.2.2.2.1 (by omega)
  have r197 : ∀ {s : Int × Int × Int × Int} {f : Hp}, RMB gB s f → ∀ i, i < NB h a → f 197 i = UUB h a i := fun cf i hi => by rw [cf.1 197 i (by omega)]; exact e197 i hi
  unfold XX12_best_L78
  refine En_lup3 (fun _ _ l _ => (20 - l).toNat) (fun l1 l2 l g => a = l1 ∧ (NB h a : Int) = l2 ∧ ∃ i : Nat, l = (i : Int) ∧ i ≤ NB h a ∧ ∃ s, RMB gB s g ∧ on3B h a 0 (on2B h a 0 (on1B h a i s)) = F) ?_ FU _ _ _ _ (by unfold FU; omega) ⟨rfl, rfl, 0, rfl, Nat.zero_le _, st, c, es⟩
  rintro self l1 l2 l g ih ⟨rfl, rfl, i, rfl, hi, s, cs, es⟩
  unfold XX12_best_b78
  by_cases q : (NB h a : Int) ≤ i
  · rw [if_pos q]
    unfold on1B at es
    rw [frB_end (by omega)] at es
    exact twosM hI e e197 hend cs es
  · have ek : tlM (UUB h a i) (-1) (-1) = 1 := by
      have h1 := (UUB_in (h := h) (a := a) (show i < NB h a by omega)).1
      unfold tlM
      rw [if_neg (by omega), if_pos rfl]
    rw [if_neg q, inb_pos (by omega), inb_pos (by decide), hm_eq]
    rw [Int.toNat_natCast, show (0 : Int).toNat = 0 from rfl, r197 cs i (by omega)]
    have T := tries_ok hI e (RMB_tr wr195 cs) (VdB_1 (show i < NB h a by omega)) (g := wr g 195 0 (UUB h a i)) (fun q hq => by
      rw [ek] at hq
      rw [wr_row]
      unfold p3
      have : q = 0 := by omega
      subst this; simp)
    rw [ek] at T
    refine En_cal T (fun r g4 _ hr => ?_)
    rw [chk_pos (by omega)]
    unfold on1B at es
    rw [frB_step (by omega)] at es
    exact ih _ _ _ _ (by omega) ⟨rfl, rfl, i + 1, by omega, by omega, _, hr, es⟩
/-- the model lists the wires, and tries -/
theorem listM {n0 : Nat} {h gC : Hp} {a : Int} {P : Int → Hp → Prop} (hI : Inv n0 h) (hB : Hang (sc 18 h) (wn 18 h) (h 19) (h 20) (fun w v => tb (h 24 w) v)) (ha : 0 ≤ a ∧ a < wn 18 h) (e : EqB h gC) (j14 : J14 gC) (hend : ∀ gB g, (∀ y i, ¬ (y = 185 ∨ y = 197 ∨ (y = 143 ∧ (i = 23 ∨ i = 73))) → gB y i = gC y i) → gB 143 23 = 0 → EqB h gB → RMB gB (bsB h a) g → En (if (g 143 73) = (-1) then some ((-4), g) else XX12_best_L273 a 0 g) P) : En (XX12_best_L15 a 0 0 gC) P := by
  have lt := Pl_lt (by decide) (Inv_N0 hI)
  have j4 : J4 h := hI.2.2.2.2.1
  have hle := NB_le (a := a) j4 (by omega)
  unfold XX12_best_L15
  refine En_lup3 (fun _ _ l _ => (50 - l).toNat) (fun l1 l2 l g => a = l1 ∧ 0 ≤ l ∧ l ≤ wn 18 h ∧ l2 = (cntB (PB h a) l.toNat : Int) ∧ (∀ y i, ¬ (y = 185 ∨ y = 197) → g y i = gC y i) ∧ ∀ i, i < cntB (PB h a) l.toNat → g 197 i = UB (PB h a) l.toNat i) ?_ FU _ _ _ _ (by unfold FU; omega) ⟨rfl, by omega, by omega, rfl, fun _ _ _ => rfl, fun i hi => absurd hi (Nat.not_lt_zero _)⟩
  rintro self l1 l2 l g ih ⟨rfl, c0, c1, c2, c3, c4⟩
  obtain ⟨l, rfl⟩ := Int.eq_ofNat_of_zero_le c0
  rw [Int.toNat_natCast] at c2 c4
  have eg : EqB h g := fun y i hh => by rw [c3 y i (by omega)]; exact e y i hh
  have wg : Wk g := Wk_tr (fun y i hh => eg y i (by omega)) (Inv_Wk hI)
  have hMS := Wk_MS wg
  obtain ⟨r1, r2, r3, r4⟩ := Rel_s wg.1
  have g18 : g 18 = h 18 := funext (fun i => eg 18 i (by omega))
  unfold XX12_best_b15
  rw [wiresM_eq hMS.1.1 (by omega), cal_eq, r3, wn_congr g18]
  have hle2 := cntB_up (PB h a) (show l ≤ (wn 18 h).toNat by omega)
  have hle3 : cntB (PB h a) l ≤ NB h a := hle2
  by_cases q : wn 18 h ≤ l
  · have el : (wn 18 h).toNat = l := by omega
    have eN : cntB (PB h a) l = NB h a := by unfold NB; rw [el]
    rw [if_pos q, zb_0, hm_eq, hm_eq, c2, eN]
    have o : ∀ y i, ¬ (y = 143 ∧ (i = 23 ∨ i = 73)) → wr (wr g 143 23 0) 143 73 (-1) y i = g y i := fun y i hh => by rw [wq_ne (by omega), wq_ne (by omega)]
    have o23 : wr (wr g 143 23 0) 143 73 (-1) 143 23 = 0 := by rw [wr_o (by decide), wr_at]
    have o73 : wr (wr g 143 23 0) 143 73 (-1) 143 73 = -1 := wr_at
    generalize wr (wr g 143 23 0) 143 73 (-1) = gB at *
    have eB : EqB h gB := fun y i hh => by rw [o y i (by omega)]; exact eg y i hh
    have e197 : ∀ i, i < NB h a → gB 197 i = UUB h a i := fun i hi => by
      rw [o 197 i (by omega)]
      unfold UUB
      rw [el]
      exact c4 i (by omega)
    have c0' : RMB gB (-1, 0, 0, 0) gB := ⟨fun _ _ _ => rfl, J14_tr (fun y i hh => by rw [o y i (by omega), c3 y i (by omega)]) j14, Or.inl ⟨rfl, o73⟩⟩
    have T := tries_ok hI eB c0' (VdB_0 h a) (fun j hj => by
      have : tlM (-1) (-1) (-1) = 0 := rfl
      omega)
    refine En_cal T (fun r g4 _ hr => ?_)
    exact onesM hI eB e197 (fun g5 c5 => hend gB g5 (fun y i hh => by rw [o y i (by omega), c3 y i (by omega)]) o23 eB c5) hr rfl
  rw [if_neg q, inb_pos (by omega), Int.toNat_natCast, eg 157 l (by omega), (j4.1 l (by omega)).1]
  have skip : ∀ g2 : Hp, (∀ y i, ¬ (y = 185) → g2 y i = g y i) → PB h a l = false → En (XX12_best_p54 self a l2 l g2) P := by
    intro g2 k2 hp
    unfold XX12_best_p54
    rw [chk_pos (by omega)]
    have ec : cntB (PB h a) (l + 1) = cntB (PB h a) l := by rw [cntB_s, if_neg (by rw [hp]; decide)]; rfl
    refine ih _ _ _ _ (by omega) ⟨rfl, by omega, by omega, ?_, fun y i hh => by rw [k2 y i (by omega)]; exact c3 y i hh, ?_⟩
    · rw [show ((l : Int) + 1).toNat = l + 1 by omega, ec]; exact c2
    · rw [show ((l : Int) + 1).toNat = l + 1 by omega, ec]
      intro i hi
      rw [UB_old hi, k2 197 i (by omega)]; exact c4 i hi
  have jl := j4.1 l (by omega)
  by_cases q3 : h 54 l = -1
  · rw [if_pos q3]
    exact skip g (fun _ _ _ => rfl) (by unfold PB; rw [decide_eq_false (by omega)]; rfl)
  have hBg : Hang (sM g) (nM 0 g) (kM 0 g) (pM 0 g) (fun w v => tb (h 24 w) v) := by
    rw [r1, r3, sc_congr g18, wn_congr g18]
    refine Hang_congr lt.2.2.1 (fun w hw => ?_) (fun j hj => ?_) hB
    · rw [kM0 wg.1 w hw, eg 19 w (by omega)]
    · rw [pM0 wg.1 j hj, eg 20 j (by omega)]
  rw [if_neg q3]
  have dh : En (XX12_doesHang 0 l a g) (fun r g2 => (∀ y i, ¬ (y = 185) → g2 y i = g y i) ∧ r = if tb (h 24 l) a.toNat = true then 1 else 0) := by
    unfold XX12_doesHang
    refine En_cal (looks_ok hMS.1.1 (e := 0) (by omega) (hMS.1.2 0 (by omega)).1 (hMS.1.2 0 (by omega)).2 hBg (w := l) (by rw [r3, wn_congr g18]; omega)) (fun r h1 e1 hr => ?_)
    have f1 := fr_XX12_looks e1
    have := hr a.toNat (by omega)
    rw [inb_pos (by omega), this]
    by_cases t : tb (h 24 l) a.toNat = true
    · rw [if_pos t, zb_1]; exact En_some ⟨fun y i hh => f1 y i (by omega), rfl⟩
    · rw [if_neg t, zb_0]; exact En_some ⟨fun y i hh => f1 y i (by omega), rfl⟩
  refine En_cal dh (fun r g2 _ hr => ?_)
  obtain ⟨k2, hr⟩ := hr
  by_cases q4 : tb (h 24 l) a.toNat = true
  · rw [hr, if_pos q4, if_neg n10]
    exact skip g2 k2 (by unfold PB; rw [q4]; simp)
  · rw [hr, if_neg q4, if_pos rfl]
    have hp : PB h a l = true := by unfold PB; rw [decide_eq_true (by omega), Bool.eq_false_iff.mpr q4]; rfl
    have ec : cntB (PB h a) (l + 1) = cntB (PB h a) l + 1 := by rw [cntB_s, if_pos hp]
    have hle4 : cntB (PB h a) (l + 1) ≤ NB h a := cntB_up (PB h a) (show l + 1 ≤ (wn 18 h).toNat by omega)
    rw [inb_pos (by omega), hm_eq, chk_pos (by omega)]
    unfold XX12_best_p54
    rw [chk_pos (by omega)]
    refine ih _ _ _ _ (by omega) ⟨rfl, by omega, by omega, ?_, fun y i hh => by rw [wq_ne (by omega), k2 y i (by omega)]; exact c3 y i hh, ?_⟩
    · rw [show ((l : Int) + 1).toNat = l + 1 by omega, ec]; omega
    · rw [show ((l : Int) + 1).toNat = l + 1 by omega, ec]
      intro i hi
      rw [wr_row]
      by_cases t : i = l2.toNat
      · rw [if_pos t]
        have : i = cntB (PB h a) l := by omega
        subst this
        rw [UB_new hp]
      · rw [if_neg t, UB_old (by omega), k2 197 i (by omega)]; exact c4 i (by omega)
