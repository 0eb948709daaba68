/-- how many nodes, and the nodes, of the trees of one or two functions -/
noncomputable def nN (m n : Nat) (F : Nat → Nat) : Nat := cN m (F 0) + if n = 2 then cN m (F 1) else 0
noncomputable def tR (m : Nat) (F : Nat → Nat) (k : Nat) : Int × List (Int × Int × Int) := if k = 0 then trN m 9 (F 0) 0 else trN m 9 (F 1) (cN m (F 0))
def TS (b m n : Nat) (F : Nat → Nat) (g : Hp) : Prop := Nds b 0 0 (tR m F 0).2 g ∧ (n = 2 → Nds b 1 (cN m (F 0)) (tR m F 1).2 g)
theorem lup1_s {F : (Int → Hp → OR) → Int → Hp → OR} (n : Nat) (x : Int) (h : Hp) : lup1 F (n + 1) x h = F (lup1 F n) x h := rfl
theorem lup3_s {F : (Int → Int → Int → Hp → OR) → Int → Int → Int → Hp → OR} (n : Nat) (x y z : Int) (h : Hp) : lup3 F (n + 1) x y z h = F (lup3 F n) x y z h := rfl
/-- what keeping changes: of the class, of the model -/
def KfC (h g : Hp) : Prop := ∀ a i, ¬ ((a = 56 ∧ (i ≤ 1 ∨ i = 3 ∨ i = 5 ∨ i = 8)) ∨ (57 ≤ a ∧ a ≤ 65)) → g a i = h a i
def KfM (m : Nat) (h g : Hp) : Prop := ∀ a i, ¬ ((a = 143 ∧ 23 ≤ i ∧ i ≤ 27) ∨ (159 ≤ a ∧ a ≤ 166) ∨ a = 191 ∨ (a = 192 ∧ i = m) ∨ (a = 193 ∧ 256 * m ≤ i ∧ i < 256 * m + 256)) → g a i = h a i
theorem keepS_ok {m k s f : Nat} {self : Int → Hp → OR} {h : Hp} (hm : m < 4) (hk : k < 2) {n : Int} (h3 : h 56 3 = n) (hkn : (k : Int) < n) (h5 : h 56 5 = (m : Int)) (hs : h 56 8 = (s : Int)) (h52 : h 52 k = (f : Int)) (hf : f ≤ onN m) (h8 : s + cN m f ≤ 8) : ∃ g, XX7_keep_b67 self k h = self ((k + 1 : Nat) : Int) g ∧ g 56 8 = ((s + cN m f : Nat) : Int) ∧ Nds 61 k s (trN m 9 f s).2 g ∧ g 60 k = (trN m 9 f s).1 ∧ g 59 k = (f : Int) ∧ ∀ a i, ¬ (((61 ≤ a ∧ a ≤ 65) ∧ s ≤ i) ∨ (a = 56 ∧ i = 8) ∨ ((a = 59 ∨ a = 60) ∧ i = k)) → g a i = h a i := by
  have c4 := c_le4 hm hf
  have w : ∀ a i, ¬ (a = 59 ∧ i = k) → wr h 59 k f a i = h a i := fun a i hh => wq_ne hh
  obtain ⟨r, g1, e1, hr, g2, g3, g4⟩ := grow_ok hm 9 f s 0 (k : Int) (wr h 59 k f) hf (by omega) (by omega) (by rw [w 56 5 (by omega)]; exact h5) (by rw [w 56 8 (by omega)]; exact hs) h8
  have e1' : XX7_grow 10 f k 0 (wr h 59 k f) = some (r, g1) := e1
  refine ⟨wr g1 60 k r, ?_, ?_, ?_, ?_, ?_, fun a i hh => ?_⟩
  · unfold XX7_keep_b67
    rw [h3, if_neg (by omega), inb_pos (by omega), inb_pos (by omega), hm_eq, inb_pos (by omega), Int.toNat_natCast, h52, wr_at, e1', cal_eq, inb_pos (by omega), hm_eq, chk_pos (by omega)]
    rfl
  · rw [wq_ne (by omega)]; exact g2
  · exact Nds_congr (fun a j h1 _ _ => wq_ne (by omega)) g3
  · rw [wr_at]; exact hr
  · rw [wq_ne (by omega), g4 59 k (by omega), wr_at]
  · rw [wq_ne (by omega), g4 a i (by omega)]; exact w a i (by omega)
theorem keepC_ok {m n : Nat} {h : Hp} (hm : m < 4) (hn : 1 ≤ n ∧ n ≤ 2) (h3 : h 45 3 = (n : Int)) (h5 : h 45 5 = (m : Int)) {F : Nat → Nat} (hF : ∀ k, k < n → h 52 k = ((F k : Nat) : Int) ∧ F k ≤ onN m) : ∃ g, XX7_keep h = some (0, g) ∧ KfC h g ∧ (g 56 0 = 1 ∧ g 56 1 = 0 ∧ g 56 3 = (n : Int) ∧ g 56 5 = (m : Int) ∧ g 56 8 = ((nN m n F : Nat) : Int)) ∧ (∀ k, k < n → g 57 k = h 46 k ∧ g 59 k = ((F k : Nat) : Int) ∧ g 60 k = (tR m F k).1) ∧ (∀ j, j < m → g 58 j = h 47 j) ∧ TS 61 m n F g := by
  unfold XX7_keep
  rw [zb_1, hm_eq, zb_0, hm_eq, hm_eq, hm_eq]
  rw [show wr (wr h 56 0 1) 56 1 0 45 3 = h 45 3 by rw [wq_ne (by omega), wq_ne (by omega)], h3]
  rw [show wr (wr (wr h 56 0 1) 56 1 0) 56 3 n 45 5 = h 45 5 by rw [wq_ne (by omega), wq_ne (by omega), wq_ne (by omega)], h5]
  have a0 : wr (wr (wr (wr h 56 0 1) 56 1 0) 56 3 n) 56 5 m 56 0 = 1 := by rw [wq_ne (by omega), wq_ne (by omega), wq_ne (by omega), wr_at]
  have a1 : wr (wr (wr (wr h 56 0 1) 56 1 0) 56 3 n) 56 5 m 56 1 = 0 := by rw [wq_ne (by omega), wq_ne (by omega), wr_at]
  have a3 : wr (wr (wr (wr h 56 0 1) 56 1 0) 56 3 n) 56 5 m 56 3 = n := by rw [wq_ne (by omega), wr_at]
  have a5 : wr (wr (wr (wr h 56 0 1) 56 1 0) 56 3 n) 56 5 m 56 5 = m := wr_at
  have ao : ∀ a i, ¬ (a = 56 ∧ (i ≤ 1 ∨ i = 3 ∨ i = 5)) → wr (wr (wr (wr h 56 0 1) 56 1 0) 56 3 n) 56 5 m a i = h a i := fun a i hh => by rw [wq_ne (by omega), wq_ne (by omega), wq_ne (by omega), wq_ne (by omega)]
  generalize wr (wr (wr (wr h 56 0 1) 56 1 0) 56 3 n) 56 5 m = h4 at *
  rw [a3, acp_pos (by omega), hm_eq, Int.toNat_natCast, show (0 : Int).toNat = 0 from rfl]
  have b5 : cpy h4 46 0 57 0 n 56 5 = m := by rw [cpy_ne (by omega)]; exact a5
  rw [b5, acp_pos (by omega), hm_eq, hm_eq, Int.toNat_natCast]
  have d56 : ∀ i, i ≠ 8 → wr (cpy (cpy h4 46 0 57 0 n) 47 0 58 0 m) 56 8 0 56 i = h4 56 i := fun i hi => by rw [wr_o hi, cpy_ne (by omega), cpy_ne (by omega)]
  have d8 : wr (cpy (cpy h4 46 0 57 0 n) 47 0 58 0 m) 56 8 0 56 8 = ((0 : Nat) : Int) := wr_at
  have d57 : ∀ k, k < n → wr (cpy (cpy h4 46 0 57 0 n) 47 0 58 0 m) 56 8 0 57 k = h 46 k := fun k hk => by
    rw [wq_ne (by omega), cpy_ne (by omega), cpy_is (by omega), ao 46 _ (by omega)]; exact congrArg _ (by omega)
  have d58 : ∀ j, j < m → wr (cpy (cpy h4 46 0 57 0 n) 47 0 58 0 m) 56 8 0 58 j = h 47 j := fun j hj => by
    rw [wq_ne (by omega), cpy_is (by omega), cpy_ne (by omega), ao 47 _ (by omega)]; exact congrArg _ (by omega)
  have dz : ∀ a i, ¬ (a = 56 ∨ a = 57 ∨ a = 58) → wr (cpy (cpy h4 46 0 57 0 n) 47 0 58 0 m) 56 8 0 a i = h a i := fun a i hh => by
    rw [wq_ne (by omega), cpy_ne (by omega), cpy_ne (by omega), ao a i (by omega)]
  generalize wr (cpy (cpy h4 46 0 57 0 n) 47 0 58 0 m) 56 8 0 = h7 at *
  obtain ⟨f0a, f0b⟩ := hF 0 (by omega)
  have c0 := c_le4 hm f0b
  obtain ⟨g1, e1, u1, u2, u3, u4, u5⟩ := keepS_ok (self := lup1 XX7_keep_b67 (999998 + 1)) (m := m) (k := 0) (s := 0) (f := F 0) (h := h7) hm (by decide) (n := (n : Int)) (by rw [d56 3 (by decide)]; exact a3) (by omega) (by rw [d56 5 (by decide)]; exact a5) d8 (by rw [dz 52 0 (by omega)]; exact f0a) f0b (by omega)
  have l1 := trN_ok hm 9 (F 0) 0 f0b (by omega)
  unfold XX7_keep_L67
  have s0 : lup1 XX7_keep_b67 FU 0 h7 = lup1 XX7_keep_b67 (999998 + 1) ((0 + 1 : Nat) : Int) g1 := e1
  rw [s0, lup1_s]
  by_cases n1 : n = 1
  · subst n1
    refine ⟨g1, ?_, fun a i hh => ?_, ⟨?_, ?_, ?_, ?_, ?_⟩, fun k hk => ?_, fun j hj => ?_, ?_, fun t => by omega⟩
    · unfold XX7_keep_b67
      rw [u5 56 3 (by omega), d56 3 (by decide), a3, if_pos (by decide)]
    · rw [u5 a i (by omega)]
      by_cases q56 : a = 56
      · rw [q56, d56 i (by omega), ao 56 i (by omega)]
      · exact dz a i (by omega)
    · rw [u5 56 0 (by omega), d56 0 (by decide)]; exact a0
    · rw [u5 56 1 (by omega), d56 1 (by decide)]; exact a1
    · rw [u5 56 3 (by omega), d56 3 (by decide)]; exact a3
    · rw [u5 56 5 (by omega), d56 5 (by decide)]; exact a5
    · rw [u1]; unfold nN; rw [if_neg (by decide)]; omega
    · have : k = 0 := by omega
      subst this
      exact ⟨by rw [u5 57 0 (by omega)]; exact d57 0 (by decide), u4, u3⟩
    · rw [u5 58 j (by omega)]; exact d58 j hj
    · exact u2
  · have n2 : n = 2 := by omega
    subst n2
    obtain ⟨f1a, f1b⟩ := hF 1 (by omega)
    have c1 := c_le4 hm f1b
    obtain ⟨g2, e2, v1, v2, v3, v4, v5⟩ := keepS_ok (self := lup1 XX7_keep_b67 (999997 + 1)) (m := m) (k := 1) (s := 0 + cN m (F 0)) (f := F 1) (h := g1) hm (by decide) (n := 2) (by rw [u5 56 3 (by omega), d56 3 (by decide)]; exact a3) (by decide) (by rw [u5 56 5 (by omega), d56 5 (by decide)]; exact a5) u1 (by rw [u5 52 1 (by omega), dz 52 1 (by omega)]; exact f1a) f1b (by omega)
    have s1 : XX7_keep_b67 (lup1 XX7_keep_b67 999998) ((0 + 1 : Nat) : Int) g1 = lup1 XX7_keep_b67 (999997 + 1) ((1 + 1 : Nat) : Int) g2 := e2
    rw [s1, lup1_s]
    refine ⟨g2, ?_, fun a i hh => ?_, ⟨?_, ?_, ?_, ?_, ?_⟩, fun k hk => ?_, fun j hj => ?_, ?_, fun _ => ?_⟩
    · unfold XX7_keep_b67
      rw [v5 56 3 (by omega), u5 56 3 (by omega), d56 3 (by decide), a3, if_pos (by decide)]
    · rw [v5 a i (by omega), u5 a i (by omega)]
      by_cases q56 : a = 56
      · rw [q56, d56 i (by omega), ao 56 i (by omega)]
      · exact dz a i (by omega)
    · rw [v5 56 0 (by omega), u5 56 0 (by omega), d56 0 (by decide)]; exact a0
    · rw [v5 56 1 (by omega), u5 56 1 (by omega), d56 1 (by decide)]; exact a1
    · rw [v5 56 3 (by omega), u5 56 3 (by omega), d56 3 (by decide)]; exact a3
    · rw [v5 56 5 (by omega), u5 56 5 (by omega), d56 5 (by decide)]; exact a5
    · rw [v1]; unfold nN; rw [if_pos rfl]; omega
    · rcases (by omega : k = 0 ∨ k = 1) with rfl | rfl
      · exact ⟨by rw [v5 57 0 (by omega), u5 57 0 (by omega)]; exact d57 0 (by decide), by rw [v5 59 0 (by omega)]; exact u4, by rw [v5 60 0 (by omega)]; exact u3⟩
      · refine ⟨by rw [v5 57 1 (by omega), u5 57 1 (by omega)]; exact d57 1 (by decide), v4, ?_⟩
        rw [v3, Nat.zero_add]; rfl
    · rw [v5 58 j (by omega), u5 58 j (by omega)]; exact d58 j hj
    · refine Nds_congr (fun a j h1 h2 h3 => v5 a j ?_) u2
      have h3 : j < 0 + (trN m 9 (F 0) 0).2.length := h3
      rw [l1.1] at h3
      omega
    · rw [Nat.zero_add] at v2; exact v2
theorem keepM_ok {m n : Nat} {a b : Int} {h : Hp} (hm : m < 4) (hn : 1 ≤ n ∧ n ≤ 2) (hj : (h 192 m = 0 ∨ h 192 m = 1) ∧ (h 192 m = 1 → ∀ f : Nat, (f : Int) ≤ onI m → h 193 (256 * m + f) = cst m f)) {F : Nat → Nat} (h0 : h 143 71 = ((F 0 : Nat) : Int) ∧ F 0 ≤ onN m) (h1 : n = 2 → h 143 72 = ((F 1 : Nat) : Int) ∧ F 1 ≤ onN m) : En (XX12_keepsPatch a b n m h) (fun _ g => KfM m h g ∧ (g 143 23 = 1 ∧ g 143 24 = 0 ∧ g 143 25 = (n : Int) ∧ g 143 26 = (m : Int) ∧ g 143 27 = ((nN m n F : Nat) : Int)) ∧ (g 159 0 = a ∧ g 159 1 = b) ∧ (∀ k, k < n → g 161 k = ((F k : Nat) : Int)) ∧ (∀ j, j < m → g 160 j = h 195 j) ∧ TS 162 m n F g ∧ g 192 m = 1 ∧ ∀ x, x ≤ onN m → g 193 (256 * m + x) = ((cN m x : Nat) : Int)) := by
  unfold XX12_keepsPatch
  rw [zb_1, hm_eq, zb_0, hm_eq, hm_eq, hm_eq, hm_eq, inb_pos (by decide), hm_eq, inb_pos (by decide), hm_eq, inb_pos (by decide), hm_eq, inb_pos (by decide), hm_eq, show (0 : Int).toNat = 0 from rfl, show (1 : Int).toNat = 1 from rfl]
  have e71 : wr (wr (wr (wr (wr (wr (wr h 143 23 1) 143 24 0) 143 25 n) 143 26 m) 143 27 0) 159 0 a) 159 1 b 143 71 = ((F 0 : Nat) : Int) := by
    rw [wq_ne (by omega), wq_ne (by omega), wq_ne (by omega), wq_ne (by omega), wq_ne (by omega), wq_ne (by omega), wq_ne (by omega)]; exact h0.1
  rw [e71]
  have e72 : wr (wr (wr (wr (wr (wr (wr (wr h 143 23 1) 143 24 0) 143 25 n) 143 26 m) 143 27 0) 159 0 a) 159 1 b) 161 0 ((F 0 : Nat) : Int) 143 72 = h 143 72 := by
    rw [wq_ne (by omega), wq_ne (by omega), wq_ne (by omega), wq_ne (by omega), wq_ne (by omega), wq_ne (by omega), wq_ne (by omega), wq_ne (by omega)]
  rw [e72]
  have p23 : wr (wr (wr (wr (wr (wr (wr (wr (wr h 143 23 1) 143 24 0) 143 25 n) 143 26 m) 143 27 0) 159 0 a) 159 1 b) 161 0 ((F 0 : Nat) : Int)) 161 1 (h 143 72) 143 23 = 1 := by
    rw [wq_ne (by omega), wq_ne (by omega), wq_ne (by omega), wq_ne (by omega), wq_ne (by omega), wq_ne (by omega), wq_ne (by omega), wq_ne (by omega), wr_at]
  have p24 : wr (wr (wr (wr (wr (wr (wr (wr (wr h 143 23 1) 143 24 0) 143 25 n) 143 26 m) 143 27 0) 159 0 a) 159 1 b) 161 0 ((F 0 : Nat) : Int)) 161 1 (h 143 72) 143 24 = 0 := by
    rw [wq_ne (by omega), wq_ne (by omega), wq_ne (by omega), wq_ne (by omega), wq_ne (by omega), wq_ne (by omega), wq_ne (by omega), wr_at]
  have p25 : wr (wr (wr (wr (wr (wr (wr (wr (wr h 143 23 1) 143 24 0) 143 25 n) 143 26 m) 143 27 0) 159 0 a) 159 1 b) 161 0 ((F 0 : Nat) : Int)) 161 1 (h 143 72) 143 25 = (n : Int) := by
    rw [wq_ne (by omega), wq_ne (by omega), wq_ne (by omega), wq_ne (by omega), wq_ne (by omega), wq_ne (by omega), wr_at]
  have p26 : wr (wr (wr (wr (wr (wr (wr (wr (wr h 143 23 1) 143 24 0) 143 25 n) 143 26 m) 143 27 0) 159 0 a) 159 1 b) 161 0 ((F 0 : Nat) : Int)) 161 1 (h 143 72) 143 26 = (m : Int) := by
    rw [wq_ne (by omega), wq_ne (by omega), wq_ne (by omega), wq_ne (by omega), wq_ne (by omega), wr_at]
  have p27 : wr (wr (wr (wr (wr (wr (wr (wr (wr h 143 23 1) 143 24 0) 143 25 n) 143 26 m) 143 27 0) 159 0 a) 159 1 b) 161 0 ((F 0 : Nat) : Int)) 161 1 (h 143 72) 143 27 = ((0 : Nat) : Int) := by
    rw [wq_ne (by omega), wq_ne (by omega), wq_ne (by omega), wq_ne (by omega), wr_at]; rfl
  have q0 : wr (wr (wr (wr (wr (wr (wr (wr (wr h 143 23 1) 143 24 0) 143 25 n) 143 26 m) 143 27 0) 159 0 a) 159 1 b) 161 0 ((F 0 : Nat) : Int)) 161 1 (h 143 72) 159 0 = a := by
    rw [wq_ne (by omega), wq_ne (by omega), wq_ne (by omega), wr_at]
  have q1 : wr (wr (wr (wr (wr (wr (wr (wr (wr h 143 23 1) 143 24 0) 143 25 n) 143 26 m) 143 27 0) 159 0 a) 159 1 b) 161 0 ((F 0 : Nat) : Int)) 161 1 (h 143 72) 159 1 = b := by
    rw [wq_ne (by omega), wq_ne (by omega), wr_at]
  have f0 : wr (wr (wr (wr (wr (wr (wr (wr (wr h 143 23 1) 143 24 0) 143 25 n) 143 26 m) 143 27 0) 159 0 a) 159 1 b) 161 0 ((F 0 : Nat) : Int)) 161 1 (h 143 72) 161 0 = ((F 0 : Nat) : Int) := by
    rw [wr_o (by decide), wr_at]
  have f1 : wr (wr (wr (wr (wr (wr (wr (wr (wr h 143 23 1) 143 24 0) 143 25 n) 143 26 m) 143 27 0) 159 0 a) 159 1 b) 161 0 ((F 0 : Nat) : Int)) 161 1 (h 143 72) 161 1 = h 143 72 := wr_at
  have oo : ∀ x i, ¬ ((x = 143 ∧ 23 ≤ i ∧ i ≤ 27) ∨ x = 159 ∨ x = 161) → wr (wr (wr (wr (wr (wr (wr (wr (wr h 143 23 1) 143 24 0) 143 25 n) 143 26 m) 143 27 0) 159 0 a) 159 1 b) 161 0 ((F 0 : Nat) : Int)) 161 1 (h 143 72) x i = h x i := fun x i hh => by
    rw [wq_ne (by omega), wq_ne (by omega), wq_ne (by omega), wq_ne (by omega), wq_ne (by omega), wq_ne (by omega), wq_ne (by omega), wq_ne (by omega), wq_ne (by omega)]
  generalize wr (wr (wr (wr (wr (wr (wr (wr (wr h 143 23 1) 143 24 0) 143 25 n) 143 26 m) 143 27 0) 159 0 a) 159 1 b) 161 0 ((F 0 : Nat) : Int)) 161 1 (h 143 72) = k9 at *
  unfold XX12_keepsPatch_L63
  refine En_lup3 (fun _ _ l5 _ => (5 - l5).toNat) (fun l3 l4 l5 g => (n : Int) = l3 ∧ (m : Int) = l4 ∧ 0 ≤ l5 ∧ l5 ≤ m ∧ (∀ x i, ¬ (x = 160) → g x i = k9 x i) ∧ ∀ j : Nat, (j : Int) < l5 → g 160 j = h 195 j) ?_ FU _ _ _ _ (by unfold FU; omega) ⟨rfl, rfl, by omega, by omega, fun _ _ _ => rfl, fun j hj => by omega⟩
  rintro self l3 l4 l5 g ih ⟨rfl, rfl, c0, c1, c2, c3⟩
  unfold XX12_keepsPatch_b63
  by_cases q : ¬ (m : Int) ≤ l5
  · rw [if_neg q, inb_pos (by omega), inb_pos (by omega), hm_eq, chk_pos (by omega)]
    refine ih _ _ _ _ (by omega) ⟨rfl, rfl, by omega, by omega, fun x i hx => by rw [wr_ne hx]; exact c2 x i hx, fun j hj => ?_⟩
    rw [wr_row]
    by_cases qj : j = l5.toNat
    · rw [if_pos qj, c2 195 _ (by omega), oo 195 _ (by omega), qj]
    · rw [if_neg qj]; exact c3 j (by omega)
  rw [if_pos (Decidable.not_not.mp q)]
  refine En_cal (reckons_ok hm (h := g) (by rw [c2 192 m (by omega), oo 192 m (by omega)]; refine ⟨hj.1, fun t v hv => ?_⟩; rw [c2 193 _ (by omega), oo 193 _ (by omega)]; exact hj.2 t v hv)) (fun r1 g1 _ hr1 => ?_)
  obtain ⟨k1, z1, C1, N1⟩ := hr1
  have o1 : ∀ x i, ¬ (x = 160 ∨ x = 191 ∨ (x = 192 ∧ i = m) ∨ (x = 193 ∧ 256 * m ≤ i ∧ i < 256 * m + 256)) → g1 x i = k9 x i := fun x i hh => by rw [k1 x i (by omega), c2 x i (by omega)]
  have e160 : ∀ j, j < m → g1 160 j = h 195 j := fun j hj => by rw [k1 160 j (by omega)]; exact c3 j (by omega)
  have cc0 := c_le4 hm h0.2
  have l1 := trN_ok hm 9 (F 0) 0 h0.2 (by omega)
  unfold XX12_keepsPatch_L99
  rw [show FU = 999998 + 1 + 1 from rfl, lup3_s]
  unfold XX12_keepsPatch_b99
  rw [if_neg (by omega), inb_pos (by decide), show (0 : Int).toNat = 0 from rfl, o1 161 0 (by omega), f0]
  refine En_cal (trees_ok hm 9 (F 0) 0 0 g1 h0.2 (by omega) C1 (by rw [o1 143 27 (by omega)]; exact p27) (by omega)) (fun r2 g2 _ hr2 => ?_)
  obtain ⟨_, u1, u2, u3⟩ := hr2
  rw [chk_pos (by decide), lup3_s]
  by_cases n1 : n = 1
  · subst n1
    rw [if_pos (by decide)]
    refine En_some ⟨fun x i hh => by rw [u3 x i (by omega), o1 x i (by omega), oo x i (by omega)], ⟨by rw [u3 143 23 (by omega), o1 143 23 (by omega)]; exact p23, by rw [u3 143 24 (by omega), o1 143 24 (by omega)]; exact p24, by rw [u3 143 25 (by omega), o1 143 25 (by omega)]; exact p25, by rw [u3 143 26 (by omega), o1 143 26 (by omega)]; exact p26, by rw [u1]; unfold nN; rw [if_neg (by decide)]; omega⟩, ⟨by rw [u3 159 0 (by omega), o1 159 0 (by omega)]; exact q0, by rw [u3 159 1 (by omega), o1 159 1 (by omega)]; exact q1⟩, fun k hk => ?_, fun j hj => by rw [u3 160 j (by omega)]; exact e160 j hj, ⟨u2, fun t => by omega⟩, by rw [u3 192 m (by omega)]; exact z1, fun x hx => by rw [u3 193 _ (by omega)]; exact N1 x hx⟩
    have : k = 0 := by omega
    subst this
    rw [u3 161 0 (by omega), o1 161 0 (by omega)]; exact f0
  · have n2 : n = 2 := by omega
    subst n2
    obtain ⟨h1a, h1b⟩ := h1 rfl
    have cc1 := c_le4 hm h1b
    rw [if_neg (by decide), inb_pos (by decide), show ((0 : Int) + 1).toNat = 1 from rfl, u3 161 1 (by omega), o1 161 1 (by omega), f1, h1a]
    refine En_cal (trees_ok hm 9 (F 1) (0 + cN m (F 0)) 1 g2 h1b (by omega) (fun x hx => by rw [u3 191 x (by omega)]; exact C1 x hx) u1 (by omega)) (fun r3 g3 _ hr3 => ?_)
    obtain ⟨_, v1, v2, v3⟩ := hr3
    rw [chk_pos (by decide), show (999998 : Nat) = 999997 + 1 from rfl, lup3_s]
    rw [if_pos (by decide)]
    refine En_some ⟨fun x i hh => by rw [v3 x i (by omega), u3 x i (by omega), o1 x i (by omega), oo x i (by omega)], ⟨by rw [v3 143 23 (by omega), u3 143 23 (by omega), o1 143 23 (by omega)]; exact p23, by rw [v3 143 24 (by omega), u3 143 24 (by omega), o1 143 24 (by omega)]; exact p24, by rw [v3 143 25 (by omega), u3 143 25 (by omega), o1 143 25 (by omega)]; exact p25, by rw [v3 143 26 (by omega), u3 143 26 (by omega), o1 143 26 (by omega)]; exact p26, by rw [v1]; unfold nN; rw [if_pos rfl]; omega⟩, ⟨by rw [v3 159 0 (by omega), u3 159 0 (by omega), o1 159 0 (by omega)]; exact q0, by rw [v3 159 1 (by omega), u3 159 1 (by omega), o1 159 1 (by omega)]; exact q1⟩, fun k hk => ?_, fun j hj => by rw [v3 160 j (by omega), u3 160 j (by omega)]; exact e160 j hj, ⟨?_, fun _ => ?_⟩, by rw [v3 192 m (by omega), u3 192 m (by omega)]; exact z1, fun x hx => by rw [v3 193 _ (by omega), u3 193 _ (by omega)]; exact N1 x hx⟩
    · rcases (by omega : k = 0 ∨ k = 1) with rfl | rfl
      · rw [v3 161 0 (by omega), u3 161 0 (by omega), o1 161 0 (by omega)]; exact f0
      · rw [v3 161 1 (by omega), u3 161 1 (by omega), o1 161 1 (by omega), f1]; exact h1a
    · refine Nds_congr (fun a j h1 h2 h3 => v3 a j ?_) u2
      have h3 : j < 0 + (trN m 9 (F 0) 0).2.length := h3
      rw [l1.1] at h3
      omega
    · rw [Nat.zero_add] at v2; exact v2
