theorem ti_ashr_hi (x : Int) {k : Int} (h0 : 0 ≤ k) (h1 : k < 32) {c : Nat} (hc : c < 32) (hk : 32 ≤ c + k.toNat) : ti (ashr x k) c = ti x 31 := by
  obtain ⟨n, rfl⟩ := Int.eq_ofNat_of_zero_le h0
  have hn : n < 32 := by omega
  unfold ti ashr
  rw [Int32.ofInt_toInt, Int32.toBitVec_shiftRight]
  have e := sh32 n hn
  simp only [Int.ofNat_eq_natCast, Int.toNat_natCast] at e hk ⊢
  rw [e, BitVec.sshiftRight_eq', BitVec.toNat_ofNat, Nat.mod_eq_of_lt (by omega), BitVec.getLsbD_sshiftRight]
  have h1 : ¬ (32 ≤ c) := by omega
  have h2 : ¬ (n + c < 32) := by omega
  simp [h1, h2, BitVec.msb_eq_getLsbD_last]
def encN (k g h : Nat) : Int := aor (aor (ashl k 16) (ashl g 8)) h
theorem bit_lt {n k c : Nat} (h : n < 2 ^ k) (hc : k ≤ c) : n.testBit c = false := Nat.testBit_lt_two_pow (Nat.lt_of_lt_of_le h (Nat.pow_le_pow_right (by decide) hc))
theorem enc_bit {k g h : Nat} (hk : k < 8) (hg : g < 256) (hh : h < 256) {c : Nat} (hc : c < 32) : ti (encN k g h) c = if c < 8 then h.testBit c else if c < 16 then g.testBit (c - 8) else k.testBit (c - 16) := by
  unfold encN
  rw [ti_aor, ti_aor, ti_ashl _ (by decide) (by decide), ti_ashl _ (by decide) (by decide), ti_nat (by omega) (by omega), ti_nat (by omega) (by omega), ti_nat (by omega) (by omega), Int.toNat_natCast, Int.toNat_natCast, Int.toNat_natCast, show (16 : Int).toNat = 16 from rfl, show (8 : Int).toNat = 8 from rfl]
  by_cases q : c < 8
  · rw [if_pos q]; simp [hc, q, show c < 16 by omega]
  rw [if_neg q]
  by_cases q2 : c < 16
  · rw [if_pos q2]; simp [hc, q, q2, bit_lt (n := h) (k := 8) hh (show 8 ≤ c by omega)]
  · rw [if_neg q2]
    simp [hc, q, q2, bit_lt (n := h) (k := 8) hh (show 8 ≤ c by omega), bit_lt (n := g) (k := 8) hg (show 8 ≤ c - 8 by omega)]
theorem enc_dec {k g h : Nat} (hk : k < 8) (hg : g < 256) (hh : h < 256) : ashr (encN k g h) 16 = k ∧ aand (ashr (encN k g h) 8) 255 = g ∧ aand (encN k g h) 255 = h ∧ 0 ≤ encN k g h := by
  have b255 : ∀ c : Nat, c < 32 → ti 255 c = decide (c < 8) := by
    intro c hc
    rw [ti_nat (by decide) (by decide)]
    exact (by decide : ∀ c : Nat, c < 32 → Nat.testBit 255 c = decide (c < 8)) c hc
  refine ⟨?_, ?_, ?_, (ti_lt (n := 31) (aor_in _ _) (by omega) (fun c h1 h2 => ?_)).1⟩
  · apply ti_ext (ashr_in _ _) ⟨by omega, by omega⟩
    intro c hc
    rw [ti_nat (x := (k : Int)) (by omega) (by omega), Int.toNat_natCast]
    by_cases q : c + 16 < 32
    · rw [ti_ashr _ (by decide) (by decide) (by simpa using q), show c + (16 : Int).toNat = c + 16 from rfl, enc_bit hk hg hh q, if_neg (by omega), if_neg (by omega), show c + 16 - 16 = c by omega]
    · rw [ti_ashr_hi _ (by decide) (by decide) hc (by simp; omega), enc_bit hk hg hh (by omega), if_neg (by omega), if_neg (by omega), bit_lt (n := k) (k := 3) hk (by omega), bit_lt (n := k) (k := 3) hk (by omega)]
  · apply ti_ext (aand_in _ _) ⟨by omega, by omega⟩
    intro c hc
    rw [ti_aand, b255 c hc, ti_nat (x := (g : Int)) (by omega) (by omega), Int.toNat_natCast]
    by_cases q : c < 8
    · rw [ti_ashr _ (by decide) (by decide) (by simp; omega), show c + (8 : Int).toNat = c + 8 from rfl, enc_bit hk hg hh (by omega), if_neg (by omega), if_pos (by omega), show c + 8 - 8 = c by omega, decide_eq_true q, Bool.and_true]
    · rw [decide_eq_false q, Bool.and_false, bit_lt (n := g) (k := 8) hg (by omega)]
  · apply ti_ext (aand_in _ _) ⟨by omega, by omega⟩
    intro c hc
    rw [ti_aand, b255 c hc, enc_bit hk hg hh hc, ti_nat (x := (h : Int)) (by omega) (by omega), Int.toNat_natCast]
    by_cases q : c < 8
    · rw [if_pos q, decide_eq_true q, Bool.and_true]
    · rw [decide_eq_false q, Bool.and_false, bit_lt (n := h) (k := 8) hh (by omega)]
  · have : c = 31 := by omega
    subst this
    show ti (encN k g h) 31 = false
    rw [enc_bit hk hg hh (by omega), if_neg (by omega), if_neg (by omega), bit_lt (n := k) (k := 3) hk (by omega)]
theorem enc_not {g : Nat} (hg : g < 256) : ashl (g : Int) 8 = encN 0 g 0 := by
  apply ti_ext (ashl_in _ _) (aor_in _ _)
  intro c hc
  show _ = ti (encN 0 g 0) c
  rw [enc_bit (by decide) hg (by decide) hc, ti_ashl _ (by decide) (by decide), ti_nat (by omega) (by omega), Int.toNat_natCast, show (8 : Int).toNat = 8 from rfl]
  by_cases q : c < 8
  · rw [if_pos q]; simp [q]
  rw [if_neg q]
  by_cases q2 : c < 16
  · rw [if_pos q2]; simp [hc, q]
  · rw [if_neg q2]; simp [hc, q, bit_lt (n := g) (k := 8) hg (show 8 ≤ c - 8 by omega)]
/-- g and h make f -/
def ChK (m f k g h : Nat) : Prop := (1 ≤ k ∧ k ≤ 5) ∧ g ≤ onN m ∧ h ≤ onN m ∧ opN k (onN m) g h = f ∧ cN m g + cN m h + 1 = cN m f
/-- how a tree begins -/
def Cho (m f k g h : Nat) : Prop := (k = 0 ∧ g = onN m ^^^ f ∧ h = 0 ∧ cN m g + 1 = cN m f) ∨ (cN m (onN m ^^^ f) + 1 ≠ cN m f ∧ ChK m f k g h ∧ ∀ k' g' h', (k' < k ∨ (k' = k ∧ (g' < g ∨ (g' = g ∧ h' < h)))) → ¬ ChK m f k' g' h')
theorem Cho_uniq {m f k g h k2 g2 h2 : Nat} (a : Cho m f k g h) (b : Cho m f k2 g2 h2) : k = k2 ∧ g = g2 ∧ h = h2 := by
  rcases a with ⟨rfl, rfl, rfl, a4⟩ | ⟨a1, a2, a3⟩
  · rcases b with ⟨rfl, rfl, rfl, _⟩ | ⟨b1, _⟩
    · exact ⟨rfl, rfl, rfl⟩
    · exact absurd a4 b1
  · rcases b with ⟨_, rfl, _, b4⟩ | ⟨b1, b2, b3⟩
    · exact absurd b4 a1
    · have n1 : ¬ (k < k2 ∨ (k = k2 ∧ (g < g2 ∨ (g = g2 ∧ h < h2)))) := fun t => b3 _ _ _ t a2
      have n2 : ¬ (k2 < k ∨ (k2 = k ∧ (g2 < g ∨ (g2 = g ∧ h2 < h)))) := fun t => a3 _ _ _ t b2
      omega
theorem xor_iff {g h f : Nat} : g ^^^ h = f ↔ h = f ^^^ g := by
  constructor
  · rintro rfl; rw [Nat.xor_comm g h, Nat.xor_assoc, Nat.xor_self, Nat.xor_zero]
  · rintro rfl; rw [Nat.xor_comm f g, ← Nat.xor_assoc, Nat.xor_self, Nat.zero_xor]
theorem bits0 {a : Nat} (h : ∀ c, a.testBit c = false) : a = 0 := Nat.eq_of_testBit_eq (fun c => by rw [h c, Nat.zero_testBit])
theorem on_has {m g c : Nat} (hm : m < 4) (hg : g ≤ onN m) (h : g.testBit c = true) : (onN m).testBit c = true := by
  have h1 := f_bit hm hg h
  have h8 := (on_eq m hm).2.2.2.1
  rw [on_bit m hm c (by omega), decide_eq_true h1]
theorem z_and {m g : Nat} (hm : m < 4) (hg : g ≤ onN m) (h : Nat) : (g &&& h) &&& (onN m ^^^ g) = 0 := bits0 (fun c => by
  rw [Nat.testBit_and, Nat.testBit_and, Nat.testBit_xor]
  by_cases q : g.testBit c = true
  · rw [q, on_has hm hg q]; simp
  · rw [Bool.eq_false_iff.mpr q]; simp)
theorem z_or {m g : Nat} (hm : m < 4) (hg : g ≤ onN m) (h : Nat) : g &&& (onN m ^^^ (g ||| h)) = 0 := bits0 (fun c => by
  rw [Nat.testBit_and, Nat.testBit_xor, Nat.testBit_or]
  by_cases q : g.testBit c = true
  · rw [q, on_has hm hg q]; simp
  · rw [Bool.eq_false_iff.mpr q]; simp)
theorem canMake_ok {m f k g : Nat} (hm : m < 4) (hf : f ≤ onN m) (hk : 1 ≤ k ∧ k ≤ 5) (hg : g ≤ onN m) (hp : Hp) : ∃ r, XX2_canMake m f k g hp = some (r, hp) ∧ (r = 1 ∨ (r = 0 ∧ ∀ h, opN k (onN m) g h ≠ f)) := by
  have hnf := not_le hm hf
  have fin : ∀ (n : Nat) (X : ∀ h, opN k (onN m) g h = f → n = 0), ∃ r, (if (n : Int) = 0 then zb 1 (some ((1 : Int), hp)) else zb 0 (some (0, hp))) = some (r, hp) ∧ (r = 1 ∨ (r = 0 ∧ ∀ h, opN k (onN m) g h ≠ f)) := by
    intro n X
    by_cases q : (n : Int) = 0
    · rw [if_pos q, zb_1]; exact ⟨1, rfl, Or.inl rfl⟩
    · rw [if_neg q, zb_0]; exact ⟨0, rfl, Or.inr ⟨rfl, fun h e => q (by rw [X h e]; rfl)⟩⟩
  unfold XX2_canMake
  rw [ones_eq hm, cal_eq, nm_eq, compl_eq hm hf]
  rcases (by omega : k = 1 ∨ k = 2 ∨ k = 3 ∨ k = 4 ∨ k = 5) with rfl | rfl | rfl | rfl | rfl
  · rw [if_pos (by decide), andn hm hf hg]
    exact fin _ (fun h e => by rw [← e]; exact z_and hm hg h)
  · rw [if_neg (by decide), if_pos (by decide), andn hm hg hf]
    exact fin _ (fun h e => by rw [← e]; exact z_or hm hg h)
  · rw [if_neg (by decide), if_neg (by decide), if_neg (by decide), if_neg (by decide), zb_1]
    exact ⟨1, rfl, Or.inl rfl⟩
  · rw [if_neg (by decide), if_neg (by decide), if_pos (by decide), andn hm hnf hg]
    exact fin _ (fun h e => by rw [← e]; show (onN m ^^^ (onN m ^^^ (g &&& h))) &&& (onN m ^^^ g) = 0; rw [not_not]; exact z_and hm hg h)
  · rw [if_neg (by decide), if_neg (by decide), if_neg (by decide), if_pos (by decide), andn hm hg hnf]
    exact fin _ (fun h e => by rw [not_not, ← e]; exact z_or hm hg h)
/-- the first h of a cost with which g makes f -/
def Mat (m f k g : Nat) (c : Int) (r : Int) : Prop := (r = -1 ∧ ∀ h, h ≤ onN m → ¬ (opN k (onN m) g h = f ∧ (cN m h : Int) = c)) ∨ ∃ h, h ≤ onN m ∧ r = (h : Int) ∧ opN k (onN m) g h = f ∧ (cN m h : Int) = c ∧ ∀ h', h' < h → ¬ (opN k (onN m) g h' = f ∧ (cN m h' : Int) = c)
theorem mateL_ok {m f k g a b : Nat} (hm : m < 4) (hk : 1 ≤ k ∧ k ≤ 5) (hg : g ≤ onN m) (hb : b ≤ onN m) (c : Int) (h1 : ∀ h, h < a → ¬ (opN k (onN m) g h = f ∧ (cN m h : Int) = c)) (h2 : ∀ h, b < h → h ≤ onN m → ¬ (opN k (onN m) g h = f ∧ (cN m h : Int) = c)) (hp : Hp) : En (XX2_mate_L52 m f k g c b a hp) (fun r h3 => h3 = hp ∧ Mat m f k g c r) := by
  obtain ⟨_, _, h255, _, _, _⟩ := on_eq m hm
  unfold XX2_mate_L52
  refine En_lup7 (fun _ _ _ _ _ _ l7 _ => (300 - l7).toNat) (fun l0 l1 l2 l3 l4 l6 l7 h3 => (m : Int) = l0 ∧ (f : Int) = l1 ∧ (k : Int) = l2 ∧ (g : Int) = l3 ∧ c = l4 ∧ (b : Int) = l6 ∧ hp = h3 ∧ 0 ≤ l7 ∧ ∀ h : Nat, (h : Int) < l7 → ¬ (opN k (onN m) g h = f ∧ (cN m h : Int) = c)) ?_ FU _ _ _ _ _ _ _ _ (by unfold FU; omega) ⟨rfl, rfl, rfl, rfl, rfl, rfl, rfl, by omega, fun h hh => h1 h (by omega)⟩
  rintro self l0 l1 l2 l3 l4 l6 l7 h3 ih ⟨rfl, rfl, rfl, rfl, rfl, rfl, rfl, c0, c1⟩
  obtain ⟨x, rfl⟩ := Int.eq_ofNat_of_zero_le c0
  unfold XX2_mate_b52
  by_cases q : (b : Int) < x
  · rw [if_pos q]
    refine En_some ⟨rfl, Or.inl ⟨rfl, fun h hh => ?_⟩⟩
    by_cases qh : h < x
    · exact c1 h (by omega)
    · exact h2 h (by omega) hh
  have hx : x ≤ onN m := by omega
  have next : ¬ (opN k (onN m) g x = f ∧ (cN m x : Int) = c) → En (XX2_mate_p93 self m f k g c b x hp) (fun r h3 => h3 = hp ∧ Mat m f k g c r) := by
    intro hn
    unfold XX2_mate_p93
    rw [chk_pos (by omega)]
    refine ih _ _ _ _ _ _ _ _ (by omega) ⟨rfl, rfl, rfl, rfl, rfl, rfl, rfl, by omega, fun h hh => ?_⟩
    by_cases qh : h = x
    · rw [qh]; exact hn
    · exact c1 h (by omega)
  rw [if_neg q, price_eq hm hx, cal_eq]
  by_cases q2 : ((cN m x : Nat) : Int) = c
  · rw [if_pos q2, made_eq, cal_eq, ones_eq hm, cal_eq, mk_op hm hk hg hx]
    by_cases q3 : ((opN k (onN m) g x : Nat) : Int) = f
    · rw [if_pos q3]
      exact En_some ⟨rfl, Or.inr ⟨x, hx, rfl, by omega, q2, fun h' hh => c1 h' (by omega)⟩⟩
    · rw [if_neg q3]; exact next (fun t => q3 (by rw [t.1]))
  · rw [if_neg q2]; exact next (fun t => q2 t.2)
theorem mate_ok {m f k g : Nat} (hm : m < 4) (hf : f ≤ onN m) (hk : 1 ≤ k ∧ k ≤ 5) (hg : g ≤ onN m) (c : Int) (hp : Hp) : En (XX2_mate m f k g c hp) (fun r h3 => h3 = hp ∧ Mat m f k g c r) := by
  obtain ⟨_, _, h255, _, _, _⟩ := on_eq m hm
  unfold XX2_mate
  by_cases q : c < 0
  · rw [if_pos q]
    exact En_some ⟨rfl, Or.inl ⟨rfl, fun h hh t => by omega⟩⟩
  rw [if_neg q]
  obtain ⟨r, e, hr⟩ := canMake_ok hm hf hk hg hp
  rw [e, cal_eq]
  rcases hr with rfl | ⟨rfl, hr⟩
  · rw [if_neg n10]
    unfold XX2_mate_p29 XX2_mate_p46
    by_cases q3 : (k : Int) = 3
    · have k3 : k = 3 := by omega
      have hxle : f ^^^ g ≤ onN m := le_on hm (Nat.xor_lt_two_pow (f_lt hm hf) (f_lt hm hg))
      rw [if_pos q3, if_pos q3, xor_eq (by omega) (by omega)]
      have only : ∀ h, opN k (onN m) g h = f → h = f ^^^ g := fun h e => by rw [k3] at e; exact xor_iff.1 e
      exact mateL_ok hm hk hg hxle c (fun h hh t => by have := only h t.1; omega) (fun h hh _ t => by have := only h t.1; omega) hp
    · rw [if_neg q3, if_neg q3, ones_eq hm, cal_eq]
      exact mateL_ok (a := 0) hm hk hg (Nat.le_refl _) c (fun h hh => absurd hh (by omega)) (fun h h1 h2 => by omega) hp
  · rw [if_pos rfl]
    exact En_some ⟨rfl, Or.inl ⟨rfl, fun h _ t => hr h t.1⟩⟩
theorem split_ok {m f : Nat} (hm : m < 4) (hf : f ≤ onN m) (h1 : 1 ≤ cN m f) (hp : Hp) : En (XX2_split m f hp) (fun r h3 => h3 = hp ∧ ∃ k g h, Cho m f k g h ∧ r = encN k g h) := by
  obtain ⟨_, _, h255, _, _, _⟩ := on_eq m hm
  have hnf := not_le hm hf
  unfold XX2_split
  rw [price_eq hm hf, cal_eq, chk_pos (by have := c_le4 hm hf; omega), nm_eq, ones_eq hm, cal_eq, nm_eq, compl_eq hm hf, price_eq hm hnf, cal_eq]
  by_cases q : ((cN m (onN m ^^^ f) : Nat) : Int) = (cN m f : Int) - 1
  · rw [if_pos q, enc_not (by omega)]
    exact En_some ⟨rfl, 0, _, 0, Or.inl ⟨rfl, rfl, rfl, by omega⟩, rfl⟩
  rw [if_neg q]
  unfold XX2_split_L34
  refine En_lup4 (fun _ _ _ l4 _ => (7 - l4).toNat) (fun l0 l1 l2 l4 h3 => (m : Int) = l0 ∧ (f : Int) = l1 ∧ (cN m f : Int) - 1 = l2 ∧ hp = h3 ∧ 1 ≤ l4 ∧ l4 ≤ 6 ∧ ∀ k g h : Nat, (k : Int) < l4 → ¬ ChK m f k g h) ?_ FU _ _ _ _ _ (by unfold FU; omega) ⟨rfl, rfl, rfl, rfl, by omega, by omega, fun k g h hh t => by have := t.1; omega⟩
  rintro self34 l0 l1 l2 l4 h3 ih34 ⟨rfl, rfl, rfl, rfl, c0, c1, c2⟩
  unfold XX2_split_b34
  by_cases q4 : 5 < l4
  · rcases c_wit hm hf h1 with w | ⟨k, g, h, w1, w2, w3, w4, w5⟩
    · omega
    · exact absurd ⟨w1, w2, w3, w4, w5⟩ (c2 k g h (by omega))
  rw [if_neg q4]
  obtain ⟨k, rfl⟩ := Int.eq_ofNat_of_zero_le (show 0 ≤ l4 by omega)
  unfold XX2_split_L43
  refine En_lup5 (fun _ _ _ _ l5 _ => (300 - l5).toNat) (fun l0 l1 l2 l4 l5 h3 => (m : Int) = l0 ∧ (f : Int) = l1 ∧ (cN m f : Int) - 1 = l2 ∧ (k : Int) = l4 ∧ hp = h3 ∧ 0 ≤ l5 ∧ ∀ g h : Nat, (g : Int) < l5 → ¬ ChK m f k g h) ?_ FU _ _ _ _ _ _ (by unfold FU; omega) ⟨rfl, rfl, rfl, rfl, rfl, by omega, fun g h hh => by omega⟩
  rintro self43 l0 l1 l2 l4 l5 h3 ih43 ⟨rfl, rfl, rfl, rfl, rfl, d0, d1⟩
  unfold XX2_split_b43
  rw [ones_eq hm, cal_eq]
  by_cases q5 : (onN m : Int) < l5
  · rw [if_pos q5, chk_pos (by omega)]
    refine ih34 _ _ _ _ _ (by omega) ⟨rfl, rfl, rfl, rfl, by omega, by omega, fun k' g h hh t => ?_⟩
    by_cases qk : k' = k
    · subst qk; exact d1 g h (by have := t.2.1; omega) t
    · exact c2 k' g h (by omega) t
  obtain ⟨g, rfl⟩ := Int.eq_ofNat_of_zero_le d0
  have hg : g ≤ onN m := by omega
  have g4 := c_le4 hm hg
  have f4 := c_le4 hm hf
  rw [if_neg q5, price_eq hm hg, cal_eq, chk_pos (by omega)]
  refine En_cal (mate_ok hm hf (k := k) (by omega) hg _ hp) (fun r h3 _ hr => ?_)
  obtain ⟨rfl, hr⟩ := hr
  rcases hr with ⟨rfl, hr⟩ | ⟨h, t1, rfl, t2, t3, t4⟩
  · rw [if_pos (by decide), chk_pos (by omega)]
    refine ih43 _ _ _ _ _ _ (by omega) ⟨rfl, rfl, rfl, rfl, rfl, by omega, fun g' h hh t => ?_⟩
    by_cases qg : g' = g
    · subst qg
      exact hr h t.2.2.1 ⟨t.2.2.2.1, by have := t.2.2.2.2; omega⟩
    · exact d1 g' h (by omega) t
  · rw [if_neg (by omega)]
    refine En_some ⟨rfl, k, g, h, Or.inr ⟨by omega, ⟨⟨by omega, by omega⟩, hg, t1, t2, by omega⟩, ?_⟩, rfl⟩
    rintro k' g' h' (u | ⟨rfl, u | ⟨rfl, u⟩⟩) t
    · exact c2 k' g' h' (by omega) t
    · exact d1 g' h' (by omega) t
    · exact t4 h' u ⟨t.2.2.2.1, by have := t.2.2.2.2; omega⟩
/-- no constant comes within a tree -/
theorem Cho_in {m f k g h : Nat} (hm : m < 4) (hf : f ≤ onN m) (h1 : 1 ≤ cN m f) (c : Cho m f k g h) : k ≤ 5 ∧ g ≤ onN m ∧ h ≤ onN m ∧ (g ≠ 0 ∧ g ≠ onN m) ∧ cN m g < cN m f ∧ (k ≠ 0 → (h ≠ 0 ∧ h ≠ onN m) ∧ cN m g + cN m h + 1 = cN m f) ∧ (k = 0 → cN m g + 1 = cN m f) := by
  have hz := c_zero hm hf
  have f0 : f ≠ 0 := fun e => by have := hz.2 (Or.inl e); omega
  have fo : f ≠ onN m := fun e => by have := hz.2 (Or.inr (Or.inl e)); omega
  have on_and : ∀ {x}, x ≤ onN m → onN m &&& x = x := fun {x} hx => Nat.eq_of_testBit_eq (fun c => by
    rw [Nat.testBit_and]
    by_cases q : x.testBit c = true
    · rw [q, on_has hm hx q]; rfl
    · rw [Bool.eq_false_iff.mpr q]; simp)
  have on_or : ∀ {x}, x ≤ onN m → onN m ||| x = onN m := fun {x} hx => Nat.eq_of_testBit_eq (fun c => by
    rw [Nat.testBit_or]
    by_cases q : x.testBit c = true
    · rw [q, on_has hm hx q]; rfl
    · rw [Bool.eq_false_iff.mpr q]; simp)
  rcases c with ⟨rfl, rfl, rfl, c4⟩ | ⟨c1, ⟨c2, c3, c4, c5, c6⟩, _⟩
  · refine ⟨by omega, not_le hm hf, Nat.zero_le _, ⟨fun e => fo ?_, fun e => f0 ?_⟩, by omega, fun t => absurd rfl t, fun _ => c4⟩
    · have := not_not (onN m) f; rw [e, Nat.xor_zero] at this; exact this.symm
    · have := not_not (onN m) f; rw [e, Nat.xor_self] at this; exact this.symm
  · have nx : ∀ x, f = onN m ^^^ x → cN m x + 1 = cN m f → False := fun x e1 e2 => c1 (by rw [e1, not_not, ← e1]; exact e2)
    have gz : g ≠ 0 := fun e => by
      have z : cN m g = 0 := (c_zero hm c3).2 (Or.inl e)
      have e6 : cN m h + 1 = cN m f := by omega
      have hne : f ≠ h := fun t => by rw [t] at e6; omega
      subst e
      rcases (by omega : k = 1 ∨ k = 2 ∨ k = 3 ∨ k = 4 ∨ k = 5) with rfl | rfl | rfl | rfl | rfl
      · exact f0 (by rw [← c5]; show 0 &&& h = 0; exact Nat.zero_and h)
      · exact hne (by rw [← c5]; show 0 ||| h = h; exact Nat.zero_or h)
      · exact hne (by rw [← c5]; show 0 ^^^ h = h; exact Nat.zero_xor h)
      · exact fo (by rw [← c5]; show onN m ^^^ (0 &&& h) = onN m; rw [Nat.zero_and, Nat.xor_zero])
      · exact nx h (by rw [← c5]; show onN m ^^^ (0 ||| h) = _; rw [Nat.zero_or]) e6
    have go : g ≠ onN m := fun e => by
      have z : cN m g = 0 := (c_zero hm c3).2 (Or.inr (Or.inl e))
      have e6 : cN m h + 1 = cN m f := by omega
      have hne : f ≠ h := fun t => by rw [t] at e6; omega
      subst e
      rcases (by omega : k = 1 ∨ k = 2 ∨ k = 3 ∨ k = 4 ∨ k = 5) with rfl | rfl | rfl | rfl | rfl
      · exact hne (by rw [← c5]; show onN m &&& h = h; exact on_and c4)
      · exact fo (by rw [← c5]; show onN m ||| h = onN m; exact on_or c4)
      · exact nx h (by rw [← c5]; rfl) e6
      · exact nx h (by rw [← c5]; show onN m ^^^ (onN m &&& h) = _; rw [on_and c4]) e6
      · exact f0 (by rw [← c5]; show onN m ^^^ (onN m ||| h) = 0; rw [on_or c4, Nat.xor_self])
    have hz' : h ≠ 0 := fun e => by
      have z : cN m h = 0 := (c_zero hm c4).2 (Or.inl e)
      have e6 : cN m g + 1 = cN m f := by omega
      have hne : f ≠ g := fun t => by rw [t] at e6; omega
      subst e
      rcases (by omega : k = 1 ∨ k = 2 ∨ k = 3 ∨ k = 4 ∨ k = 5) with rfl | rfl | rfl | rfl | rfl
      · exact f0 (by rw [← c5]; show g &&& 0 = 0; exact Nat.and_zero g)
      · exact hne (by rw [← c5]; show g ||| 0 = g; exact Nat.or_zero g)
      · exact hne (by rw [← c5]; show g ^^^ 0 = g; exact Nat.xor_zero g)
      · exact fo (by rw [← c5]; show onN m ^^^ (g &&& 0) = onN m; rw [Nat.and_zero, Nat.xor_zero])
      · exact nx g (by rw [← c5]; show onN m ^^^ (g ||| 0) = _; rw [Nat.or_zero]) e6
    have ho : h ≠ onN m := fun e => by
      have z : cN m h = 0 := (c_zero hm c4).2 (Or.inr (Or.inl e))
      have e6 : cN m g + 1 = cN m f := by omega
      have hne : f ≠ g := fun t => by rw [t] at e6; omega
      subst e
      rcases (by omega : k = 1 ∨ k = 2 ∨ k = 3 ∨ k = 4 ∨ k = 5) with rfl | rfl | rfl | rfl | rfl
      · exact hne (by rw [← c5]; show g &&& onN m = g; rw [Nat.and_comm]; exact on_and c3)
      · exact fo (by rw [← c5]; show g ||| onN m = onN m; rw [Nat.or_comm]; exact on_or c3)
      · exact nx g (by rw [← c5]; show g ^^^ onN m = _; rw [Nat.xor_comm]) e6
      · exact nx g (by rw [← c5]; show onN m ^^^ (g &&& onN m) = _; rw [Nat.and_comm, on_and c3]) e6
      · exact f0 (by rw [← c5]; show onN m ^^^ (g ||| onN m) = 0; rw [Nat.or_comm, on_or c3, Nat.xor_self])
    exact ⟨c2.2, c3, c4, ⟨gz, go⟩, by omega, fun _ => ⟨⟨hz', ho⟩, c6⟩, fun t => by omega⟩
