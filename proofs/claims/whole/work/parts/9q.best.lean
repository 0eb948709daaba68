/-- a fold upward -/
def frB {σ : Type} (f : Nat → σ → σ) : Nat → Nat → σ → σ
  | 0, _, s => s
  | d + 1, i, s => frB f d (i + 1) (f i s)
theorem frB_end {σ : Type} {f : Nat → σ → σ} {N i : Nat} {s : σ} (h : N ≤ i) : frB f (N - i) i s = s := by
  rw [Nat.sub_eq_zero_of_le h]; rfl
theorem frB_step {σ : Type} {f : Nat → σ → σ} {N i : Nat} {s : σ} (h : i < N) : frB f (N - i) i s = frB f (N - (i + 1)) (i + 1) (f i s) := by
  rw [show N - i = (N - (i + 1)) + 1 by omega]; rfl
/-- allowed for one point, by told wires -/
noncomputable def ABB (h : Hp) (a u v x : Int) : Nat → Nat → Prop := ALg (2 ^ (sM h).toNat) (fun c => h 149 c = 0) (fun c => pT h (p3 u v x) c (tlM u v x)) (mG h a (-1) 1)
def okB (h : Hp) (a u v x : Int) : Prop := ∀ p, p < 2 ^ tlM u v x → ∃ q, q < 2 ^ 1 ∧ ABB h a u v x q p
def csP (h : Hp) (a u v x r : Int) : Prop := (okB h a u v x ∧ ∃ a0 b0, FdA (ABB h a u v x) (tlM u v x) 1 r a0 b0) ∨ (¬ (okB h a u v x ∧ ∃ r a0 b0, FdA (ABB h a u v x) (tlM u v x) 1 r a0 b0) ∧ r = -4)
noncomputable def csB (h : Hp) (a u v x : Int) : Int := Classical.epsilon (csP h a u v x)
theorem csB_sp (h : Hp) (a u v x : Int) : csP h a u v x (csB h a u v x) := by
  refine Classical.epsilon_spec (p := csP h a u v x) ?_
  by_cases t : okB h a u v x ∧ ∃ r a0 b0, FdA (ABB h a u v x) (tlM u v x) 1 r a0 b0
  · obtain ⟨o, r, a0, b0, f⟩ := t
    exact ⟨r, Or.inl ⟨o, a0, b0, f⟩⟩
  · exact ⟨-4, Or.inr ⟨t, rfl⟩⟩
theorem csB_yes {h : Hp} {a u v x r a0 b0 : Int} (o : okB h a u v x) (f : FdA (ABB h a u v x) (tlM u v x) 1 r a0 b0) : csB h a u v x = r := by
  rcases csB_sp h a u v x with ⟨_, a1, b1, f1⟩ | ⟨t, _⟩
  · exact (FdA_uniq f1 f).1
  · exact absurd ⟨o, r, a0, b0, f⟩ t
theorem csB_no {h : Hp} {a u v x : Int} (o : ¬ okB h a u v x) : csB h a u v x = -4 := by
  rcases csB_sp h a u v x with ⟨t, _⟩ | ⟨_, t⟩
  · exact absurd t o
  · exact t
theorem FdA_b {A : Nat → Nat → Prop} {m : Nat} {r a b : Int} (hm : m < 4) (f : FdA A m 1 r a b) : 0 ≤ r ∧ r ≤ 4 := by
  rcases f with ⟨_, f, f1, _, rfl⟩ | ⟨t, _⟩
  · have := c_le4 hm f1.1; omega
  · omega
/-- the price of a wire told, and of the told wires -/
def pzB (h : Hp) (w : Int) : Int := if 0 ≤ w then h 54 w.toNat else 0
def smB (h : Hp) (u v x : Int) : Int := pzB h u + pzB h v + pzB h x
/-- the best so far, and a further set of told wires -/
noncomputable def updB (h : Hp) (a : Int) (st : Int × Int × Int × Int) (u v x : Int) : Int × Int × Int × Int :=
  if csB h a u v x = -4 then st else if st.1 = -1 ∨ 10 * csB h a u v x + smB h u v x < st.1 then (10 * csB h a u v x + smB h u v x, u, v, x) else st
def VdB (h : Hp) (a u v x : Int) : Prop := TLp (wn 18 h) u v x ∧ ∀ j, j < tlM u v x → 0 ≤ h 54 (p3 u v x j).toNat ∧ tb (h 24 (p3 u v x j).toNat) a.toNat = false
def VSB (h : Hp) (a : Int) (st : Int × Int × Int × Int) : Prop := st.1 = -1 ∨ (0 ≤ st.1 ∧ VdB h a st.2.1 st.2.2.1 st.2.2.2 ∧ okB h a st.2.1 st.2.2.1 st.2.2.2)
theorem okB_of {h : Hp} {a u v x : Int} (c : ¬ csB h a u v x = -4) : okB h a u v x := Classical.byContradiction (fun t => c (csB_no t))
theorem csB_b {h : Hp} {a u v x : Int} : csB h a u v x = -4 ∨ (0 ≤ csB h a u v x ∧ csB h a u v x ≤ 4) := by
  have hm := tlM_le u v x
  rcases csB_sp h a u v x with ⟨_, a1, b1, f1⟩ | ⟨_, t⟩
  · exact Or.inr (FdA_b (by omega) f1)
  · exact Or.inl t
/-- the told wires' prices -/
theorem VdB_pz {h : Hp} (j4 : J4 h) (w48 : wn 18 h ≤ 48) {a u v x : Int} (hV : VdB h a u v x) : (0 ≤ pzB h u ∧ pzB h u ≤ 9) ∧ (0 ≤ pzB h v ∧ pzB h v ≤ 9) ∧ (0 ≤ pzB h x ∧ pzB h x ≤ 9) := by
  obtain ⟨⟨⟨a1, a2, a3⟩, a4, a5⟩, hp⟩ := hV
  have key : ∀ w : Int, (w = -1 ∨ (0 ≤ w ∧ w < wn 18 h)) → (0 ≤ w → 0 ≤ h 54 w.toNat) → 0 ≤ pzB h w ∧ pzB h w ≤ 9 := by
    intro w hw hq
    unfold pzB
    by_cases q : 0 ≤ w
    · rw [if_pos q]
      have := (j4.1 w.toNat (by omega)).2.2
      exact ⟨hq q, this⟩
    · rw [if_neg q]; omega
  refine ⟨key u a1 (fun q => ?_), key v a2 (fun q => ?_), key x a3 (fun q => ?_)⟩
  · have := hp 0 (by unfold tlM; rw [if_neg (by omega)]; repeat' split
                     all_goals omega)
    exact this.1
  · have := hp 1 (by unfold tlM; rw [if_neg (by omega), if_neg (by omega)]; split <;> omega)
    exact this.1
  · have := hp 2 (by unfold tlM; rw [if_neg (by omega), if_neg (by omega), if_neg (by omega)]; omega)
    exact this.1
theorem VSB_upd {h : Hp} (j4 : J4 h) (w48 : wn 18 h ≤ 48) {a u v x : Int} {st : Int × Int × Int × Int} (hS : VSB h a st) (hV : VdB h a u v x) : VSB h a (updB h a st u v x) := by
  unfold updB
  by_cases q : csB h a u v x = -4
  · rw [if_pos q]; exact hS
  · rw [if_neg q]
    by_cases q2 : st.1 = -1 ∨ 10 * csB h a u v x + smB h u v x < st.1
    · rw [if_pos q2]
      have p := VdB_pz j4 w48 hV
      have c := (csB_b (h := h) (a := a) (u := u) (v := v) (x := x)).resolve_left q
      refine Or.inr ⟨?_, hV, okB_of q⟩
      show 0 ≤ 10 * csB h a u v x + smB h u v x
      unfold smB; omega
    · rw [if_neg q2]; exact hS
/-- what the class keeps while it searches -/
def CIB (h : Hp) (a : Int) (N : Nat) (U : Nat → Int) (st : Int × Int × Int × Int) (x : Hp) : Prop :=
  (∀ y i, ¬ ((42 ≤ y ∧ y ≤ 43) ∨ y = 203 ∨ (y = 40 ∧ 8 ≤ i ∧ i ≤ 9) ∨ (45 ≤ y ∧ y ≤ 52) ∨ (y = 53 ∧ 3 ≤ i) ∨ y = 55) → x y i = h y i) ∧ x 45 3 = 1 ∧ (∀ k : Nat, k < 1 → x 46 k = h 41 k) ∧ (∀ q part : Nat, q < 2 ^ 1 → (part : Int) < h 37 1 → x 48 (4 * q + part) = mdQ h q part) ∧ (x 53 3 = (N : Int) ∧ ∀ i, i < N → x 55 i = U i) ∧ VSB h a st ∧ ((st.1 = -1 ∧ x 53 7 = 0) ∨ (0 ≤ st.1 ∧ x 53 7 = 1 ∧ x 53 8 = st.1 ∧ x 53 4 = st.2.1 ∧ x 53 5 = st.2.2.1 ∧ x 53 6 = st.2.2.2))
theorem CIB_tr {h : Hp} {a : Int} {N : Nat} {U : Nat → Int} {st : Int × Int × Int × Int} {x g : Hp} (e : ∀ y i, ¬ (y = 47 ∨ y = 49 ∨ y = 52 ∨ (y = 45 ∧ ¬ i = 3)) → g y i = x y i) (c : CIB h a N U st x) : CIB h a N U st g := by
  obtain ⟨c1, c2, c3, c4, c5, c6, c7⟩ := c
  refine ⟨fun y i hh => by rw [e y i (by omega)]; exact c1 y i hh, by rw [e 45 3 (by omega)]; exact c2, fun k hk => by rw [e 46 k (by omega)]; exact c3 k hk, fun q part hq hp => by rw [e 48 _ (by omega)]; exact c4 q part hq hp, ⟨by rw [e 53 3 (by omega)]; exact c5.1, fun i hi => by rw [e 55 i (by omega)]; exact c5.2 i hi⟩, c6, ?_⟩
  rw [e 53 7 (by omega), e 53 8 (by omega), e 53 4 (by omega), e 53 5 (by omega), e 53 6 (by omega)]
  exact c7
theorem tryOne_ok {n0 : Nat} {h x : Hp} {a u v w : Int} {N : Nat} {U : Nat → Int} {st : Int × Int × Int × Int} (hI : Inv n0 h) (hT : Two h) (h40 : h 40 4 = 1) (h41 : ∀ k, k < 3 → h 41 k = p3 a (-1) (-1) k) (c : CIB h a N U st x) (hV : VdB h a u v w) : En (XX4_tryOne u v w x) (fun _ g => CIB h a N U (updB h a st u v w) g) := by
  have lt := Pl_lt (by decide) hT.1.1
  have j4 : J4 h := hI.2.2.2.2.1
  have hs := VSB_upd j4 (by omega) c.2.2.2.2.2.1 hV
  have hC : Cas h := hI.2.2.2.1.1
  have pz := VdB_pz j4 (by omega) hV
  have x54 : x 54 = h 54 := funext (fun i => c.1 54 i (by omega))
  have x18 : x 18 = h 18 := funext (fun i => c.1 18 i (by omega))
  have hN : Nums 40 18 x := by
    have := hT.1.1
    unfold Nums at *
    rw [x18]; exact this
  have tl := hV.1
  have i48 : ∀ z : Int, (z = -1 ∨ (0 ≤ z ∧ z < wn 18 h)) → 0 ≤ z → 0 ≤ z ∧ z < 48 := fun z _ _ => by omega
  have E0 : XX4_tryOne u v w x = XX4_tryOne_p45 u v w (pzB h u + pzB h v) (pzB h w) x := by
    have e28 : ∀ s : Int, 0 ≤ s → s ≤ 9 → XX4_tryOne_p28 u v w s (pzB h v) x = XX4_tryOne_p45 u v w (s + pzB h v) (pzB h w) x := by
      intro s h1 h2
      unfold XX4_tryOne_p28
      rw [chk_pos (by omega)]
      by_cases q : 0 ≤ w
      · rw [if_pos q, inb_pos (by have := tl.1.2.2; omega), x54]; unfold pzB; rw [if_pos q]
      · rw [if_neg q]; unfold pzB; rw [if_neg q]
    have e14 : ∀ s : Int, 0 ≤ s → s ≤ 9 → XX4_tryOne_p14 u v w s x = XX4_tryOne_p45 u v w (s + pzB h v) (pzB h w) x := by
      intro s h1 h2
      unfold XX4_tryOne_p14
      by_cases q : 0 ≤ v
      · rw [if_pos q, inb_pos (by have := tl.1.2.1; omega), x54, ← e28 s h1 h2]; congr 1; unfold pzB; rw [if_pos q]
      · rw [if_neg q, ← e28 s h1 h2]; congr 1; unfold pzB; rw [if_neg q]
    unfold XX4_tryOne
    by_cases q : 0 ≤ u
    · have hu : pzB h u = h 54 u.toNat := by unfold pzB; rw [if_pos q]
      rw [if_pos q, inb_pos (by have := tl.1.1; omega), x54, ← hu, e14 _ pz.1.1 pz.1.2]
    · have hu : pzB h u = 0 := by unfold pzB; rw [if_neg q]
      rw [if_neg q, hu, e14 _ (by omega) (by omega)]
  have sm : pzB h u + pzB h v + pzB h w = smB h u v w := rfl
  have csb := csB_b (h := h) (a := a) (u := u) (v := v) (x := w)
  rw [E0]
  unfold XX4_tryOne_p45
  rw [chk_pos (by omega), nm_eq, sm]
  have hsm : 0 ≤ smB h u v w ∧ smB h u v w ≤ 27 := by unfold smB; omega
  have main : En (XX4_tryOne_p64 u v w (smB h u v w) x) (fun _ g => CIB h a N U (updB h a st u v w) g) := by
    unfold XX4_tryOne_p64
    rcases tell_ok hN u v w with ⟨_, x1, e1, g5, g47, f1⟩ | ⟨t, _⟩
    rotate_left
    · exact absurd (by rw [wn_congr x18]; exact tl) t
    rw [e1, cal_eq, if_neg n10]
    have cI1 : CIB h a N U st x1 := CIB_tr (fun y i hh => f1 y i (by omega)) c
    have hm3 : tlM u v w ≤ 3 := tlM_le u v w
    have tlin := TLp_in tl
    have s1 : FS h x1 (tlM u v w) 1 (p3 u v w) := ⟨cI1.1, ⟨hm3, g5, fun j hj => by rw [g47 j (by omega), wn_congr (show x1 18 = h 18 from funext (fun i => cI1.1 18 i (by omega)))]; exact tlin j hj⟩, cI1.2.1, fun j hj => g47 j (by omega), cI1.2.2.1, cI1.2.2.2.1⟩
    obtain ⟨r5, x2, e5, s5, hr5, f5⟩ := core_ok hT hC (by omega) s1
    obtain ⟨c1, c2, c3, c4⟩ := FS_conv2 hI s1 (by rw [h40]; rfl) (by omega) h41 (g := h) (fun _ _ _ => rfl)
    have AL1 : ∀ q p, q < 2 ^ 1 → (AL x1 (tlM u v w) q p ↔ ABB h a u v w q p) := fun q p hq => by
      show ALg (x1 37 0).toNat _ _ _ q p ↔ _
      rw [c1]
      exact ALg_congr (fun c hc => c2 c (by omega)) (fun c _ => c3 c) (fun c hc => c4 q c hq (by omega)) p
    have cI2 : CIB h a N U st x2 := CIB_tr (fun y i hh => f5 y i (by omega)) cI1
    rw [e5, cal_eq]
    rcases hr5 with ⟨rfl, ok, hch⟩ | ⟨rfl, bad⟩
    · obtain ⟨r6, x3, e6, s6, hF, f6⟩ := hch
      have hF' : FdA (ABB h a u v w) (tlM u v w) 1 (x3 45 11) (x3 52 0) (x3 52 1) := FdA_congr (fun q p hq _ => AL1 q p hq) hF
      have hok : okB h a u v w := fun p hp => by
        obtain ⟨q, h1, h2⟩ := ok p hp
        exact ⟨q, h1, (AL1 q p h1).1 h2⟩
      have hcs := csB_yes hok hF'
      have cI3 : CIB h a N U st x3 := CIB_tr (fun y i hh => f6 y i (by omega)) cI2
      have hb := FdA_b (by omega) hF'
      rw [if_neg n10, e6, cal_eq, chk_pos (by omega), chk_pos (by omega), nm_eq]
      have eu : updB h a st u v w = if st.1 = -1 ∨ 10 * x3 45 11 + smB h u v w < st.1 then (10 * x3 45 11 + smB h u v w, u, v, w) else st := by
        unfold updB; rw [hcs, if_neg (by omega)]
      have p115 : (st.1 = -1 ∨ 10 * x3 45 11 + smB h u v w < st.1) → En (XX4_tryOne_p115 u v w (smB h u v w + 10 * x3 45 11) x3) (fun _ g => CIB h a N U (updB h a st u v w) g) := by
        intro hlt
        rw [eu, if_pos hlt] at hs
        rw [eu, if_pos hlt]
        unfold XX4_tryOne_p115
        rw [zb_1, hm_eq, hm_eq, hm_eq, hm_eq, hm_eq]
        obtain ⟨d1, d2, d3, d4, d5, d6, d7⟩ := cI3
        have o : ∀ y i, ¬ (y = 53 ∧ 4 ≤ i ∧ i ≤ 8) → wr (wr (wr (wr (wr x3 53 7 1) 53 8 (smB h u v w + 10 * x3 45 11)) 53 4 u) 53 5 v) 53 6 w y i = x3 y i := fun y i hh => by rw [wq_ne (by omega), wq_ne (by omega), wq_ne (by omega), wq_ne (by omega), wq_ne (by omega)]
        refine En_some ⟨fun y i hh => by rw [o y i (by omega)]; exact d1 y i hh, by rw [o 45 3 (by omega)]; exact d2, fun k hk => by rw [o 46 k (by omega)]; exact d3 k hk, fun q part hq hp => by rw [o 48 _ (by omega)]; exact d4 q part hq hp, ⟨by rw [o 53 3 (by omega)]; exact d5.1, fun i hi => by rw [o 55 i (by omega)]; exact d5.2 i hi⟩, hs, Or.inr ⟨?_, ?_, ?_, ?_, ?_, wr_at⟩⟩
        · show 0 ≤ 10 * x3 45 11 + smB h u v w
          omega
        · rw [wq_ne (by omega), wq_ne (by omega), wq_ne (by omega), wq_ne (by omega), wr_at]
        · rw [wq_ne (by omega), wq_ne (by omega), wq_ne (by omega), wr_at]
          show _ = 10 * x3 45 11 + smB h u v w
          omega
        · rw [wq_ne (by omega), wq_ne (by omega), wr_at]
        · rw [wq_ne (by omega), wr_at]
      rcases cI3.2.2.2.2.2.2 with ⟨z, z7⟩ | ⟨z, z7, z8, _⟩
      · rw [z7, if_pos rfl]; exact p115 (Or.inl z)
      · rw [z7, if_neg n10, z8]
        by_cases q : st.1 ≤ smB h u v w + 10 * x3 45 11
        · rw [if_pos q, eu, if_neg (by omega)]; exact En_some cI3
        · rw [if_neg q]; exact p115 (Or.inr (by omega))
    · rw [if_pos rfl]
      have hno : ¬ okB h a u v w := fun o => by
        obtain ⟨p, hp, hb⟩ := bad
        obtain ⟨q, h1, h2⟩ := o p hp
        exact hb q h1 ((AL1 q p h1).2 h2)
      have eu : updB h a st u v w = st := by unfold updB; rw [csB_no hno, if_pos rfl]
      rw [eu]; exact En_some cI2
  rcases c.2.2.2.2.2.2 with ⟨z, z7⟩ | ⟨z, z7, z8, _⟩
  · rw [z7, if_pos rfl]; exact main
  · rw [z7, if_neg n10, z8]
    by_cases q : st.1 ≤ smB h u v w
    · rw [if_pos q]
      have eu : updB h a st u v w = st := by
        unfold updB
        by_cases q2 : csB h a u v w = -4
        · rw [if_pos q2]
        · rw [if_neg q2, if_neg (by omega)]
      rw [eu]; exact En_some c
    · rw [if_neg q]; exact main
