/-- a hard case: what is loaded for it, at the bits 8 q + c -/
def HCs (h : Hp) (c ks : Nat) : Prop := (ks : Int) < 64 * h 37 1 ∧ tb (h 39 (ks / 64)) (ks % 64) = true ∧
  (∀ w : Nat, (w : Int) < wn 18 h → ∀ q : Nat, q < 8 → tb (h 204 w) (8 * q + c) = tb (fOl h noF ((ks / 64 : Nat) : Int) w) (ks % 64)) ∧
  (∀ k : Nat, (k : Int) < h 18 2 + h 18 1 → ∀ q : Nat, q < 8 → tb (h 205 k) (8 * q + c) = tb (fWi h ((ks / 64 : Nat) : Int) (h 31 k).toNat) (ks % 64))
def Hrd (h : Hp) : Prop := (0 ≤ h 40 12 ∧ h 40 12 < 8) ∧ ∀ c, c < 8 → ∃ ks, HCs h c ks
theorem HCs_tr {h h1 : Hp} (e : ∀ a i, ((18 ≤ a ∧ a ≤ 21) ∨ (28 ≤ a ∧ a ≤ 31) ∨ (a = 37 ∧ i = 1) ∨ a = 39 ∨ a = 204 ∨ a = 205) → h1 a i = h a i) {c ks : Nat} (s : HCs h c ks) : HCs h1 c ks := by
  have f : ∀ a, ((18 ≤ a ∧ a ≤ 21) ∨ (28 ≤ a ∧ a ≤ 31) ∨ a = 39 ∨ a = 204 ∨ a = 205) → h1 a = h a := fun a ha => funext (fun i => e a i (by omega))
  unfold HCs
  rw [e 37 1 (by omega), f 39 (by omega), f 204 (by omega), f 205 (by omega), f 31 (by omega), fOl_congr (f 18 (by omega)) (f 19 (by omega)) (f 20 (by omega)), fWi_congr (f 28 (by omega)) (f 29 (by omega)) (f 30 (by omega)), wn_congr (f 18 (by omega)), f 18 (by omega)]
  exact s
theorem Hrd_tr {h h1 : Hp} (e : ∀ a i, ((18 ≤ a ∧ a ≤ 21) ∨ (28 ≤ a ∧ a ≤ 31) ∨ (a = 37 ∧ i = 1) ∨ a = 39 ∨ a = 204 ∨ a = 205 ∨ (a = 40 ∧ i = 12)) → h1 a i = h a i) (s : Hrd h) : Hrd h1 := by
  refine ⟨by rw [e 40 12 (by omega)]; exact s.1, fun c hc => ?_⟩
  obtain ⟨ks, t⟩ := s.2 c hc
  exact ⟨ks, HCs_tr (fun a i hh => e a i (by omega)) t⟩
/-- bits -/
theorem hardBits : ∀ n, n < 8 → ∀ i, i < 64 → tb (jshl 72340172838076673 ((n : Nat) : Int)) i = decide (i % 8 = n) := by decide +kernel
theorem countBits : ∀ k, k < 3 → ∀ q, q < 8 → ∀ c, c < 8 → tb (cntC (3 + k)) (8 * q + c) = decide (aand (ashr ((q : Nat) : Int) ((k : Nat) : Int)) 1 = 1) := by decide +kernel
theorem tb_255 : ∀ i, i < 64 → tb 255 i = decide (i < 8) := by decide +kernel
theorem jneg_0 : jneg 0 = 0 := by decide +kernel
theorem jneg_1 : jneg 1 = -1 := by decide +kernel
theorem hardBit {x v : Int} {n s : Nat} (hn : n < 8) (hs : s < 64) {i : Nat} (hi : i < 64) : tb (jor (jand x (jxor (jshl 72340172838076673 (n : Int)) (-1))) (jand (jshl 72340172838076673 (n : Int)) (jneg (jand (jshr v (s : Int)) 1)))) i = if i % 8 = n then tb v s else tb x i := by
  rw [tb_jor, tb_jand, tb_jand, tb_not _ hi, hardBits n hn i hi, jbit v (by omega) (by omega), Int.toNat_natCast]
  by_cases q : i % 8 = n
  · rw [if_pos q, decide_eq_true q]
    by_cases t : tb v s = true
    · rw [if_pos t, jneg_1, tb_m1, decide_eq_true hi, t]; simp
    · rw [if_neg t, jneg_0, tb_0, Bool.eq_false_iff.mpr t]; simp
  · rw [if_neg q, decide_eq_false q]; simp
theorem addHard_ok {g : Hp} (hT : Two g) {n : Nat} (hn : g 40 12 = (n : Int)) (hn8 : n < 8) {ks : Nat} (hk : ks < 256) : En (XX5_addHard ks g) (fun _ f => (∀ a i, ¬ (a = 204 ∨ a = 205 ∨ (a = 40 ∧ i = 12)) → f a i = g a i) ∧ f 40 12 = (((n + 1) % 8 : Nat) : Int) ∧ (∀ w : Nat, (w : Int) < wn 18 g → ∀ i, i < 64 → tb (f 204 w) i = if i % 8 = n then tb (fOl g noF ((ks / 64 : Nat) : Int) w) (ks % 64) else tb (g 204 w) i) ∧ (∀ k : Nat, (k : Int) < g 18 2 + g 18 1 → ∀ i, i < 64 → tb (f 205 k) i = if i % 8 = n then tb (fWi g ((ks / 64 : Nat) : Int) (g 31 k).toNat) (ks % 64) else tb (g 205 k) i)) := by
  have hN : Nums 40 18 g := hT.1.1
  have hNw : Nums 24 28 g := hT.2.1.1
  obtain ⟨b0, b1, b2, b3, b4⟩ := Pl_lt (by decide) hN
  obtain ⟨w0, w1, w2, w3, w4⟩ := Pl_lt (by decide) hNw
  have hsw : ∀ k : Nat, (k : Int) < g 28 2 + g 28 1 → 0 ≤ g 31 k ∧ g 31 k < wn 28 g := hT.2.1.2.2.2.1
  have hn6 : g 28 2 + g 28 1 ≤ 6 := by have := hNw.2.2.1; have := hNw.2.2.2.2.2.2.1; omega
  have hn0 : 0 ≤ g 28 2 + g 28 1 := by have := hNw.2.2.2.2.2.1; have := hNw.2.1; omega
  have hse : g 28 2 + g 28 1 = g 18 2 + g 18 1 := by have := hT.2.2.2.2.2; omega
  have ed : (ks : Int).tdiv 64 = ((ks / 64 : Nat) : Int) := rfl
  have em : (ks : Int) - ((ks / 64 : Nat) : Int) * 64 = ((ks % 64 : Nat) : Int) := by omega
  have hp4 : ks / 64 < 4 := by omega
  unfold XX5_addHard
  rw [hn, nm_eq]
  obtain ⟨B, hB⟩ : ∃ B, B = jshl 72340172838076673 (n : Int) := ⟨_, rfl⟩
  rw [← hB]
  unfold XX5_addHard_L12
  refine En_lup3 (fun _ _ l _ => (48 - l).toNat) (fun l1 l2 l4 f => (ks : Int) = l1 ∧ B = l2 ∧ 0 ≤ l4 ∧ l4 ≤ wn 18 g ∧ Eqx 204 g f ∧ (∀ w : Nat, (w : Int) < l4 → ∀ i, i < 64 → tb (f 204 w) i = if i % 8 = n then tb (fOl g noF ((ks / 64 : Nat) : Int) w) (ks % 64) else tb (g 204 w) i) ∧ ∀ w : Nat, l4 ≤ (w : Int) → f 204 w = g 204 w) ?_ FU _ _ _ _ (by unfold FU; omega) ⟨rfl, rfl, by omega, by omega, Eqx_refl _ _, fun w hw => by omega, fun w _ => rfl⟩
  rintro self12 l1 l2 l4 f ih12 ⟨rfl, rfl, c0, c1, e1, c2, c3⟩
  unfold XX5_addHard_b12
  rw [wires_eq (by decide) (Nums_congr (e1 18 (by omega)) hN), cal_eq, wn_congr (e1 18 (by omega))]
  by_cases q : wn 18 g ≤ l4
  · rw [if_pos q]
    have c2 : ∀ w : Nat, (w : Int) < wn 18 g → ∀ i, i < 64 → tb (f 204 w) i = if i % 8 = n then tb (fOl g noF ((ks / 64 : Nat) : Int) w) (ks % 64) else tb (g 204 w) i := fun w hw => c2 w (by omega)
    clear c3 ih12
    unfold XX5_addHard_L84
    refine En_lup3 (fun _ _ l _ => (6 - l).toNat) (fun l1 l2 l4 f2 => (ks : Int) = l1 ∧ B = l2 ∧ 0 ≤ l4 ∧ l4 ≤ g 28 2 + g 28 1 ∧ Eqx 205 f f2 ∧ (∀ k : Nat, (k : Int) < l4 → ∀ i, i < 64 → tb (f2 205 k) i = if i % 8 = n then tb (fWi g ((ks / 64 : Nat) : Int) (g 31 k).toNat) (ks % 64) else tb (g 205 k) i) ∧ ∀ k : Nat, l4 ≤ (k : Int) → f2 205 k = g 205 k) ?_ FU _ _ _ _ (by unfold FU; omega) ⟨rfl, rfl, by omega, hn0, Eqx_refl _ _, fun w hw => by omega, fun w _ => by rw [e1 205 (by omega)]⟩
    rintro self84 l1 l2 l5 f2 ih84 ⟨rfl, rfl, d0, d1, e2, d2, d3⟩
    have ee : ∀ a, ¬ (a = 204 ∨ a = 205) → f2 a = g a := fun a ha => by rw [e2 a (by omega), e1 a (by omega)]
    unfold XX5_addHard_b84
    rw [seenCount_eq (Nums_congr (ee 28 (by omega)) hNw), cal_eq, ee 28 (by omega)]
    by_cases q5 : g 28 2 + g 28 1 ≤ l5
    · have en : ((n : Int) + 1).tdiv 8 = (((n + 1) / 8 : Nat) : Int) := rfl
      rw [if_pos q5, show f2 40 12 = (n : Int) by rw [ee 40 (by omega)]; exact hn, chk_pos (by omega), en, chk_pos (by omega), hm_eq]
      refine En_some ⟨fun a i hh => ?_, ?_, fun w hw i hi => ?_, fun k hk i hi => ?_⟩
      · rw [wq_ne (by omega), ee a (by omega)]
      · rw [wr_at]; omega
      · rw [wr_ne (by omega), e2 204 (by omega)]; exact c2 w hw i hi
      · rw [wr_ne (by omega)]; exact d2 k (by omega) i hi
    · obtain ⟨k, rfl⟩ := Int.eq_ofNat_of_zero_le d0
      have hs := hsw k (by omega)
      rw [if_neg q5, inb_pos (by omega), Int.toNat_natCast, ee 31 (by omega), chk_pos (by omega), ed, chk_pos (by omega), chk_pos (by omega), inb_pos (by omega), nm_eq, inb_pos (by omega), em, chk_pos (by omega), inb_pos (by omega), hm_eq, chk_pos (by omega), ee 35 (by omega), show (4 * g 31 k + ((ks / 64 : Nat) : Int)).toNat = 4 * (g 31 k).toNat + ks / 64 by omega, Two_wish hT (w := (g 31 k).toNat) (part := ks / 64) (by omega) hp4]
      refine ih84 _ _ _ _ (by omega) ⟨rfl, rfl, by omega, by omega, Eqx_wr e2 _ _, fun k' hk' i hi => ?_, fun k' hk' => ?_⟩
      · by_cases qk : k' = k
        · rw [qk, wr_at, d3 k (by omega), hB, hardBit hn8 (by omega) hi]
        · rw [wr_o qk]; exact d2 k' (by omega) i hi
      · rw [wr_o (by omega)]; exact d3 k' (by omega)
  · obtain ⟨w, rfl⟩ := Int.eq_ofNat_of_zero_le c0
    rw [if_neg q, inb_pos (by omega), chk_pos (by omega), ed, chk_pos (by omega), chk_pos (by omega), inb_pos (by omega), em, chk_pos (by omega), inb_pos (by omega), hm_eq, chk_pos (by omega), show f 25 = g 25 from e1 _ (by omega), show (4 * (w : Int) + ((ks / 64 : Nat) : Int)).toNat = 4 * w + ks / 64 by omega, Int.toNat_natCast, Two_old hT (w := w) (part := ks / 64) (by omega) hp4]
    refine ih12 _ _ _ _ (by omega) ⟨rfl, rfl, by omega, by omega, Eqx_wr e1 _ _, fun w' hw' i hi => ?_, fun w' hw' => ?_⟩
    · by_cases qk : w' = w
      · rw [qk, wr_at, c3 w (by omega), hB, hardBit hn8 (by omega) hi]
      · rw [wr_o qk]; exact c2 w' (by omega) i hi
    · rw [wr_o (by omega)]; exact c3 w' (by omega)
/-- a hard case that has come; the others stay -/
theorem addHard_s {g : Hp} (hT : Two g) {n : Nat} (hn : g 40 12 = (n : Int)) (hn8 : n < 8) {ks : Nat} (hk : ks < 256) (h1 : (ks : Int) < 64 * g 37 1) (h2 : tb (g 39 (ks / 64)) (ks % 64) = true) : En (XX5_addHard ks g) (fun _ f => (∀ a i, ¬ (a = 204 ∨ a = 205 ∨ (a = 40 ∧ i = 12)) → f a i = g a i) ∧ f 40 12 = (((n + 1) % 8 : Nat) : Int) ∧ HCs f n ks ∧ ∀ c, c < 8 → c ≠ n → ∀ k2, HCs g c k2 → HCs f c k2) := by
  refine En_mono (addHard_ok hT hn hn8 hk) (fun r f _ hr => ?_)
  obtain ⟨f1, f2, f3, f4⟩ := hr
  have e : ∀ a, ((18 ≤ a ∧ a ≤ 21) ∨ (28 ≤ a ∧ a ≤ 31) ∨ a = 39) → f a = g a := fun a ha => funext (fun i => f1 a i (by omega))
  have key : ∀ c k2, HCs f c k2 ↔ (k2 : Int) < 64 * g 37 1 ∧ tb (g 39 (k2 / 64)) (k2 % 64) = true ∧
      (∀ w : Nat, (w : Int) < wn 18 g → ∀ q : Nat, q < 8 → tb (f 204 w) (8 * q + c) = tb (fOl g noF ((k2 / 64 : Nat) : Int) w) (k2 % 64)) ∧
      (∀ k : Nat, (k : Int) < g 18 2 + g 18 1 → ∀ q : Nat, q < 8 → tb (f 205 k) (8 * q + c) = tb (fWi g ((k2 / 64 : Nat) : Int) (g 31 k).toNat) (k2 % 64)) := by
    intro c k2
    unfold HCs
    rw [f1 37 1 (by omega), e 39 (by omega), e 31 (by omega), fOl_congr (e 18 (by omega)) (e 19 (by omega)) (e 20 (by omega)), fWi_congr (e 28 (by omega)) (e 29 (by omega)) (e 30 (by omega)), wn_congr (e 18 (by omega)), e 18 (by omega)]
  refine ⟨f1, f2, (key n ks).2 ⟨h1, h2, fun w hw q hq => ?_, fun k hk q hq => ?_⟩, fun c hc hne k2 s => (key c k2).2 ⟨s.1, s.2.1, fun w hw q hq => ?_, fun k hk q hq => ?_⟩⟩
  · rw [f3 w hw (8 * q + n) (by omega), if_pos (by omega)]
  · rw [f4 k hk (8 * q + n) (by omega), if_pos (by omega)]
  · rw [f3 w hw (8 * q + c) (by omega), if_neg (by omega)]; exact s.2.2.1 w hw q hq
  · rw [f4 k hk (8 * q + c) (by omega), if_neg (by omega)]; exact s.2.2.2 k hk q hq
/-- gates work bit by bit -/
theorem tb_mk {k a b c a2 b2 c2 : Int} {i j : Nat} (hi : i < 64) (hj : j < 64) (ha : tb a i = tb a2 j) (hb : tb b i = tb b2 j) (hc : tb c i = tb c2 j) : tb (mkW k a b c) i = tb (mkW k a2 b2 c2) j := by
  unfold mkW
  repeat' split
  all_goals simp only [tb_not _ hi, tb_not _ hj, tb_jor, tb_jand, tb_jxor, ha, hb, hc, tb_0, tb_m1, decide_eq_true hi, decide_eq_true hj]
theorem tb_Fw {kd pn A B : Nat → Int} {w i j : Nat} (hi : i < 64) (hj : j < 64) (h : ∀ k : Nat, (k : Int) < pinC (kd w).toNat → tb (A (pn (3 * w + k)).toNat) i = tb (B (pn (3 * w + k)).toNat) j) : tb (Fw kd pn A w) i = tb (Fw kd pn B w) j := by
  have p : ∀ k, tb (pk kd pn A w k) i = tb (pk kd pn B w k) j := by
    intro k
    unfold pk
    by_cases q : (k : Int) < pinC (kd w).toNat
    · rw [if_pos q, if_pos q]; exact h k q
    · rw [if_neg q, if_neg q, tb_0, tb_0]
  exact tb_mk hi hj (p 0) (p 1) (p 2)
theorem failsHard_ok {h : Hp} (hT : Two h) (hA : Aim h) (hH : ∀ c, c < 8 → ∃ ks, HCs h c ks) : En (XX5_failsHard h) (fun r _ => r = 0 ∨ (r = 1 ∧ ∃ ks : Nat, (ks : Int) < 64 * h 37 1 ∧ tb (h 39 (ks / 64)) (ks % 64) = true ∧ ∀ q : Nat, (q : Int) < 2 ^ (h 40 4).toNat → ¬ Mds h q ks)) := by
  have hN : Nums 40 18 h := hT.1.1
  have hP : PinOK (sc 18 h) (wn 18 h) (h 19) (h 20) := hT.1.2.1
  have hY : Acy (sc 18 h) (wn 18 h) (h 19) (h 20) := hT.1.2.2.1
  have hsn : ∀ k : Nat, (k : Int) < h 18 2 + h 18 1 → 0 ≤ h 21 k ∧ h 21 k < wn 18 h := hT.1.2.2.2.1
  obtain ⟨b0, b1, b2, b3, b4⟩ := Pl_lt (by decide) hN
  have hn6 : h 18 2 + h 18 1 ≤ 6 := by have := hN.2.2.1; have := hN.2.2.2.2.2.2.1; omega
  have hn0 : 0 ≤ h 18 2 + h 18 1 := by have := hN.2.2.2.2.2.1; have := hN.2.1; omega
  obtain ⟨z0, z1, z2⟩ := asg hA
  obtain ⟨a1, a2, a3, a4⟩ := id hA
  unfold XX5_failsHard
  rw [wires_eq (by decide) hN, cal_eq, acp_pos (by omega), hm_eq]
  have v1 : ∀ a i, a ≠ 42 → cpy h 204 (0 : Int).toNat 42 (0 : Int).toNat (wn 18 h).toNat a i = h a i := fun a i ha => cpy_ne (by omega)
  have v2 : ∀ w : Nat, (w : Int) < wn 18 h → cpy h 204 (0 : Int).toNat 42 (0 : Int).toNat (wn 18 h).toNat 42 w = h 204 w := fun w hw => by rw [cpy_is (by omega)]; exact congrArg _ (by omega)
  generalize cpy h 204 (0 : Int).toNat 42 (0 : Int).toNat (wn 18 h).toNat = h3 at *
  rw [seenCount_eq (Nums_congr (funext (fun i => v1 18 i (by omega))) hN), cal_eq, v1 18 2 (by omega), v1 18 1 (by omega), acp_pos (by omega), hm_eq]
  have u1 : ∀ a i, ¬ (a = 42 ∨ a = 203) → cpy h3 205 (0 : Int).toNat 203 (0 : Int).toNat (h 18 2 + h 18 1).toNat a i = h a i := fun a i ha => by rw [cpy_ne (by omega)]; exact v1 a i (by omega)
  have u2 : ∀ w : Nat, (w : Int) < wn 18 h → cpy h3 205 (0 : Int).toNat 203 (0 : Int).toNat (h 18 2 + h 18 1).toNat 42 w = h 204 w := fun w hw => by rw [cpy_ne (by omega)]; exact v2 w hw
  have u3 : ∀ k : Nat, (k : Int) < h 18 2 + h 18 1 → cpy h3 205 (0 : Int).toNat 203 (0 : Int).toNat (h 18 2 + h 18 1).toNat 203 k = h 205 k := fun k hk => by rw [cpy_is (by omega), v1 205 _ (by omega)]; exact congrArg _ (by omega)
  generalize cpy h3 205 (0 : Int).toNat 203 (0 : Int).toNat (h 18 2 + h 18 1).toNat = h6 at *
  clear v1 v2 h3
  have T6 : Two h6 := Two_congr (fun a i ha => u1 a i (by omega)) hT
  refine En_cal (findCone_ok T6) (fun r7 h8 e8 hc8 => ?_)
  obtain ⟨f8, n0, n1, to8, cn8⟩ := hc8
  have eC : Cone h6 = Cone h := Cone_congr (funext (fun i => u1 18 i (by omega))) (funext (fun i => u1 24 i (by omega))) (u1 40 5 (by omega))
  rw [eC, show h6 19 = h 19 from funext (fun i => u1 19 i (by omega)), show h6 20 = h 20 from funext (fun i => u1 20 i (by omega))] at to8
  rw [eC] at cn8
  have g1 : ∀ a i, ¬ (a = 42 ∨ a = 43 ∨ a = 203 ∨ (a = 40 ∧ i = 8)) → h8 a i = h a i := fun a i ha => by rw [f8 a i (by omega), u1 a i (by omega)]
  have g2 : ∀ w : Nat, (w : Int) < wn 18 h → h8 42 w = h 204 w := fun w hw => by rw [f8 42 w (by omega)]; exact u2 w hw
  have g3 : ∀ k : Nat, (k : Int) < h 18 2 + h 18 1 → h8 203 k = h 205 k := fun k hk => by rw [f8 203 k (by omega)]; exact u3 k hk
  clear f8 u1 u2 u3 T6 eC
  have ptn : ∀ w : Nat, isK (h 41) w (h 40 4).toNat = -1 ↔ tb (h 40 5) w = false := by
    intro w
    rw [isK_none]
    constructor
    · intro hh
      refine Bool.eq_false_iff.mpr (fun ht => ?_)
      obtain ⟨k, hk, e⟩ := (a4 w).1 ht
      exact hh k (by omega) e
    · intro hh k hk e
      have := (a4 w).2 ⟨k, by omega, e⟩
      rw [hh] at this; cases this
  unfold XX5_failsHard_L52
  refine En_lup1 (fun l _ => (3 - l).toNat) (fun l g => 0 ≤ l ∧ l ≤ h 40 4 ∧ Eqx 42 h8 g ∧ ∀ w : Nat, g 42 w = if isK (h 41) w l.toNat = -1 then h8 42 w else cntC (3 + (isK (h 41) w l.toNat).toNat)) ?_ FU _ _ (by unfold FU; omega) ⟨by omega, by omega, Eqx_refl _ _, fun w => rfl⟩
  rintro self52 l g ih52 ⟨c0, c1, e1, c2⟩
  unfold XX5_failsHard_b52
  rw [show g 40 4 = h 40 4 by rw [e1 40 (by omega), g1 40 4 (by omega)]]
  by_cases q1 : h 40 4 ≤ l
  · rw [if_pos q1]
    rw [show l.toNat = (h 40 4).toNat by omega] at c2
    clear ih52
    have x40 : g 40 = h8 40 := e1 _ (by omega)
    have x43 : g 43 = h8 43 := e1 _ (by omega)
    refine En_cal (matching_ok hT (g := g) (fun a ha => by rw [e1 a (by omega)]; exact funext (fun i => g1 a i (by omega))) (by rw [x40]; exact ⟨n0, n1⟩) (by rw [x40, x43]; exact to8)) (fun r h9 e9 hr => ?_)
    obtain ⟨e2, d2, hr⟩ := hr
    rw [x40, x43] at d2
    obtain ⟨ev1, ev2⟩ := d2
    have nonc : ∀ w : Nat, ¬ Cone h w → h9 42 w = g 42 w := fun w hw => ev1 w (fun j hj e => (to8.1 j hj).2 (by rw [e]; exact hw))
    -- a case that an assignment mends has its bit
    have bit : ∀ c, c < 8 → ∀ ks, HCs h c ks → ∀ q : Nat, (q : Int) < 2 ^ (h 40 4).toNat → Mds h q ks → tb r (8 * q + c) = true := by
      intro c hc ks hs q hq hm
      obtain ⟨s1, s2, s3, s4⟩ := hs
      have hq8 : q < 8 := by omega
      have wF := solW_is ((ks / 64 : Nat) : Int) (fcK (h 41) (h 40 4).toNat q) b2 hP hY
      have w0 := solW_is ((ks / 64 : Nat) : Int) noF b2 hP hY
      have bw : ∀ w : Nat, (w : Int) < wn 18 h → tb (h9 42 w) (8 * q + c) = tb (fOl h (fcK (h 41) (h 40 4).toNat q) ((ks / 64 : Nat) : Int) w) (ks % 64) := by
        refine rk_ind hP hY (Q := fun w => tb (h9 42 w) (8 * q + c) = tb (fOl h (fcK (h 41) (h 40 4).toNat q) ((ks / 64 : Nat) : Int) w) (ks % 64)) (fun w hw ih => ?_) (fun w hs hw => ?_)
        · by_cases qm : isK (h 41) w (h 40 4).toNat = -1
          · have hmk := (ptn w).1 qm
            by_cases qc : Cone h w
            · obtain ⟨j, hj, e⟩ := cn8 w qc
              have e3 := ev2 j (by omega)
              rw [e, Int.toNat_natCast] at e3
              have hf : fcK (h 41) (h 40 4).toNat q w = none := by unfold fcK; rw [if_pos qm]
              have e4 : fOl h (fcK (h 41) (h 40 4).toNat q) ((ks / 64 : Nat) : Int) w = Fw (h 19) (h 20) (fOl h (fcK (h 41) (h 40 4).toNat q) ((ks / 64 : Nat) : Int)) w := by
                have := wF.2 w qc.1 hw
                unfold Ff at this
                rw [hf] at this
                exact this
              rw [e3, e4]
              exact tb_Fw (by omega) (by omega) (fun k hk => ih k qc.1 hk)
            · rw [nonc w qc, c2 w, if_pos qm, g2 w hw, s3 w hw q hq8]
              by_cases qs : (w : Int) < sc 18 h
              · have e3 := wF.1 w qs
                have e4 := w0.1 w qs
                unfold fOl
                rw [e3, e4]
              · have hz : jand (h 24 w) (h 40 5) = 0 := Classical.byContradiction (fun hne => qc ⟨by omega, hw, hne, hmk⟩)
                rw [no_hang hT hA q _ w hw hz]
          · have hmk : tb (h 40 5) w = true := by
              cases hh : tb (h 40 5) w
              · exact absurd ((ptn w).2 hh) qm
              · rfl
            obtain ⟨k0, hk0, ek0⟩ := (a4 w).1 hmk
            have hsw := a3 k0 hk0
            have kb : 0 ≤ isK (h 41) w (h 40 4).toNat ∧ isK (h 41) w (h 40 4).toNat < 3 := by
              have := isK_b (h 41) (w : Int) (h 40 4).toNat
              omega
            rw [nonc w (fun hcn => by rw [hcn.2.2.2] at hmk; cases hmk), c2 w, if_neg qm, countBits _ (by omega) q hq8 c hc]
            have e4 := wF.2 w (by omega) hw
            unfold Ff fcK at e4
            rw [if_neg qm] at e4
            have e5 : fOl h (fcK (h 41) (h 40 4).toNat q) ((ks / 64 : Nat) : Int) w = if aand (ashr q (isK (h 41) w (h 40 4).toNat)) 1 = 1 then -1 else 0 := e4
            rw [e5, Int.toNat_of_nonneg kb.1]
            by_cases qb : aand (ashr q (isK (h 41) w (h 40 4).toNat)) 1 = 1
            · rw [if_pos qb, decide_eq_true qb, tb_m1, decide_eq_true (show ks % 64 < 64 by omega)]
            · rw [if_neg qb, decide_eq_false qb, tb_0]
        · have qm : isK (h 41) w (h 40 4).toNat = -1 := isK_none.2 (fun k hk he => by have := a3 k (by omega); omega)
          rw [nonc w (fun hcn => by have := hcn.1; omega), c2 w, if_pos qm, g2 w hw, s3 w hw q hq8]
          have e3 := wF.1 w hs
          have e4 := w0.1 w hs
          unfold fOl
          rw [e3, e4]
      rw [hr, tb_smF (by omega)]
      intro k hk
      have t1 := hsn k (by omega)
      have hm' : tb (mdW h (fcK (h 41) (h 40 4).toNat q) ((ks / 64 : Nat) : Int)) (ks % 64) = true := hm
      unfold mdW at hm'
      have t2 := (tb_smF (by omega) _).1 hm' k hk
      rw [bw _ (by omega), show g 203 = h8 203 from e1 _ (by omega), g3 k (by omega), s4 k (by omega) q hq8]
      exact t2
    clear ev1 ev2 nonc e2 c2 hr
    unfold XX5_failsHard_L94
    refine En_lup3 (fun _ _ l5 _ => (9 - l5).toNat) (fun l1 l3 l5 f => r = l1 ∧ 0 ≤ l5 ∧ l5 ≤ 8 ∧ ∀ c, c < 8 → (tb l3 c = true ↔ ∃ q : Nat, (q : Int) < l5 ∧ tb r (8 * q + c) = true)) ?_ FU _ _ _ _ (by unfold FU; omega) ⟨rfl, by omega, by omega, fun c hc => ⟨fun t => absurd t (by rw [tb_0]; decide), fun ⟨q, hq, _⟩ => absurd hq (by omega)⟩⟩
    rintro self94 l1 l3 l5 f ih94 ⟨rfl, d0, d1, d2⟩
    unfold XX5_failsHard_b94
    by_cases q8 : (8 : Int) ≤ l5
    · rw [if_pos q8]
      by_cases qz : jcmp (jand (jxor l3 (-1)) 255) 0 = 0
      · rw [if_pos qz, zb_0]
        exact En_some (Or.inl rfl)
      · rw [if_neg qz, zb_1]
        have hex : ∃ c, c < 64 ∧ tb (jand (jxor l3 (-1)) 255) c = true := Classical.byContradiction (fun hno => qz (jcmp0.2 ((tb_zero (jand_in _ _)).2 (fun c hc => Bool.eq_false_iff.mpr (fun ht => hno ⟨c, hc, ht⟩)))))
        obtain ⟨c, hc, hct⟩ := hex
        rw [tb_jand, Bool.and_eq_true, tb_not _ hc, tb_255 c hc, decide_eq_true_eq, Bool.not_eq_true'] at hct
        obtain ⟨ks, hs⟩ := hH c hct.2
        refine En_some (Or.inr ⟨rfl, ks, hs.1, hs.2.1, fun q hq hm => ?_⟩)
        have := (d2 c hct.2).2 ⟨q, by omega, bit c hct.2 ks hs q hq hm⟩
        rw [hct.1] at this; cases this
    · rw [if_neg q8, chk_pos (by omega), nm_eq, chk_pos (by omega)]
      refine ih94 _ _ _ _ (by omega) ⟨rfl, by omega, by omega, fun c hc => ?_⟩
      rw [tb_jor, Bool.or_eq_true, d2 c hc, tb_jshr _ (by omega) (by omega) (by omega), show c + (8 * l5).toNat = 8 * l5.toNat + c by omega]
      constructor
      · rintro (⟨q, hq, t⟩ | t)
        · exact ⟨q, by omega, t⟩
        · exact ⟨l5.toNat, by omega, t⟩
      · rintro ⟨q, hq, t⟩
        by_cases qe : (q : Int) < l5
        · exact Or.inl ⟨q, qe, t⟩
        · exact Or.inr (by rw [show l5.toNat = q by omega]; exact t)
  · rw [if_neg q1, inb_pos (by omega), chk_pos (by omega), inb_pos (by omega), show g 41 = h 41 by rw [e1 41 (by omega)]; exact funext (fun i => g1 41 i (by omega))]
    have hk := a3 l.toNat (by omega)
    rw [inb_pos (by omega), hm_eq, chk_pos (by omega)]
    refine ih52 _ _ (by omega) ⟨by omega, by omega, Eqx_wr e1 _ _, fun w => ?_⟩
    rw [show (l + 1).toNat = l.toNat + 1 by omega]
    by_cases qw : w = (h 41 l.toNat).toNat
    · have hi : isK (h 41) w (l.toNat + 1) = l := by
        show (if h 41 l.toNat = (w : Int) then _ else _) = _
        rw [if_pos (by omega)]; omega
      rw [hi, if_neg (by omega), qw, wr_at]
      exact congrArg _ (by omega)
    · have hi : isK (h 41) w (l.toNat + 1) = isK (h 41) w l.toNat := by
        show (if h 41 l.toNat = (w : Int) then _ else _) = _
        rw [if_neg (by omega)]
      rw [hi, wr_o qw]; exact c2 w
