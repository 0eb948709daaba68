/-- what the model keeps while it searches -/
def RMB (gB : Hp) (st : Int × Int × Int × Int) (g : Hp) : Prop :=
  (∀ y i, ¬ ((185 ≤ y ∧ y ≤ 196) ∨ (y = 143 ∧ (63 ≤ i ∧ i ≤ 64 ∨ 71 ≤ i ∧ i ≤ 74))) → g y i = gB y i) ∧ J14 g ∧ ((st.1 = -1 ∧ g 143 73 = -1) ∨ (0 ≤ st.1 ∧ g 143 73 = st.1 ∧ g 143 74 = (tlM st.2.1 st.2.2.1 st.2.2.2 : Int) ∧ ∀ j, j < tlM st.2.1 st.2.2.1 st.2.2.2 → g 196 j = p3 st.2.1 st.2.2.1 st.2.2.2 j))
theorem RMB_tr {gB g f : Hp} {st : Int × Int × Int × Int} (e : ∀ y i, ¬ y = 195 → f y i = g y i) (c : RMB gB st g) : RMB gB st f := by
  obtain ⟨c1, c2, c3⟩ := c
  refine ⟨fun y i hh => by rw [e y i (by omega)]; exact c1 y i hh, J14_tr (fun y i hh => e y i (by omega)) c2, ?_⟩
  rw [e 143 73 (by omega), e 143 74 (by omega)]
  rcases c3 with c3 | ⟨d1, d2, d3, d4⟩
  · exact Or.inl c3
  · exact Or.inr ⟨d1, d2, d3, fun j hj => by rw [e 196 j (by omega)]; exact d4 j hj⟩
/-- the model's base agrees with the words learnt -/
def EqB (h gB : Hp) : Prop := ∀ y i, ((18 ≤ y ∧ y ≤ 22) ∨ (28 ≤ y ∧ y ≤ 32) ∨ (y = 143 ∧ 1 ≤ i ∧ i ≤ 3) ∨ (144 ≤ y ∧ y ≤ 149) ∨ y = 157) → gB y i = h y i
theorem gconvB {h g : Hp} (e : EqB h g) (a : Int) {u v w : Int} (ht : ∀ j, j < tlM u v w → g 195 j = p3 u v w j) : sM g = sM h ∧ (fun c => g 149 c = 0) = (fun c => h 149 c = 0) ∧ (fun c => pT g (g 195) c (tlM u v w)) = (fun c => pT h (p3 u v w) c (tlM u v w)) ∧ mG g a (-1) 1 = mG h a (-1) 1 :=
  ⟨sM_congr (e 143 1 (by omega)) (e 143 2 (by omega)), funext (fun c => by rw [e 149 c (by omega)]), funext (fun c => pT_congr (fun a i ha => e a i (by omega)) (fun j hj => ht j hj) c), funext (fun q => funext (fun c => by unfold mG; rw [mdW_congr (h := h) (fun a i hh => e a i (by omega))]))⟩
/-- the model looks for functions of told wires -/
theorem findsB {n0 : Nat} {h g : Hp} {a u v w : Int} (hI : Inv n0 h) (e : EqB h g) (tl : TLp (wn 18 h) u v w) (j14 : J14 g) (ht : ∀ j, j < tlM u v w → g 195 j = p3 u v w j) : En (XX12_finds a (-1) 1 (tlM u v w) 0 g) (fun r f => (r = -4 ∧ ¬ okB h a u v w ∧ ∀ y i, ¬ ((186 ≤ y ∧ y ≤ 190) ∨ y = 194 ∨ (y = 143 ∧ (63 ≤ i ∧ i ≤ 64))) → f y i = g y i) ∨ (okB h a u v w ∧ FdA (ABB h a u v w) (tlM u v w) 1 r (f 143 71) (f 143 72) ∧ J14 f ∧ ∀ y i, ¬ ((186 ≤ y ∧ y ≤ 194) ∨ (y = 143 ∧ (63 ≤ i ∧ i ≤ 64 ∨ 71 ≤ i ∧ i ≤ 72))) → f y i = g y i)) := by
  have hm3 := tlM_le u v w
  have tlin := TLp_in tl
  have m4 : tlM u v w < 4 := by omega
  obtain ⟨q1, q2, q3, q4⟩ := gconvB e a ht
  have wg : Wk g := Wk_tr (fun a i hh => e a i (by omega)) (Inv_Wk hI)
  have F := finds_ok (n := 1) (a := a) (b := -1) (k := 0) m4 (by omega) (Or.inl rfl) wg (fun j hj => by rw [ht j hj, wn_congr (funext (fun i => e 18 i (by omega)) : g 18 = h 18)]; exact tlin j hj) (j14.1 _ m4)
  rw [q1, q2, q3, q4] at F
  obtain ⟨r, f, ef, hr⟩ := F
  refine ⟨r, f, ef, ?_⟩
  rcases hr with ⟨rfl, z1, cf, cc, ⟨c, d, k1, _, _, k2, _⟩, z3⟩ | ⟨z0, z1, z2, z3, z4⟩
  · left
    refine ⟨rfl, fun o => Cl_no (m := tlM u v w) (fun c => pT_lt _ _ _ _) (fun p hp => ?_) k1 k2, fun y i hh => ?_⟩
    · exact o p hp
    · rcases z3 with ⟨_, t1, t2⟩ | ⟨t, _⟩
      · by_cases qq : y = 143 ∧ 21 ≤ i ∧ i ≤ 22
        · obtain ⟨rfl, q5, q6⟩ := qq
          rcases (by omega : i = 21 ∨ i = 22) with rfl | rfl
          · exact t1
          · exact t2
        · exact z1 y i (by omega)
      · cases t
  · right
    exact ⟨fun p hp => z0 p hp, z1, J14_rck2 m4 j14 (fun y i hh => z2 y i (by omega)) z3 z4, fun y i hh => z2 y i (by omega)⟩
theorem triesL_ok {P : Int → Hp → Prop} {m : Nat} (hm : m ≤ 3) {g : Hp} (hP : ∀ f : Hp, (∀ y i, ¬ y = 196 → f y i = g y i) → (∀ j, j < m → f 196 j = g 195 j) → P 0 f) : En (XX12_tries_L91 m 0 g) P := by
  unfold XX12_tries_L91
  refine En_lup2 (fun _ l _ => (5 - l).toNat) (fun l2 l f => (m : Int) = l2 ∧ 0 ≤ l ∧ l ≤ m ∧ (∀ y i, ¬ y = 196 → f y i = g y i) ∧ ∀ j : Nat, (j : Int) < l → f 196 j = g 195 j) ?_ FU _ _ _ (by unfold FU; omega) ⟨rfl, by omega, by omega, fun _ _ _ => rfl, fun j hj => by omega⟩
  rintro self l2 l f ih ⟨rfl, c0, c1, c2, c3⟩
  obtain ⟨l, rfl⟩ := Int.eq_ofNat_of_zero_le c0
  unfold XX12_tries_b91
  by_cases q : (m : Int) ≤ l
  · rw [if_pos q]; exact En_some (hP f c2 (fun j hj => c3 j (by omega)))
  · rw [if_neg q, inb_pos (by omega), inb_pos (by omega), hm_eq, chk_pos (by omega), Int.toNat_natCast]
    refine ih _ _ _ (by omega) ⟨rfl, by omega, by omega, fun y i hh => by rw [wq_ne (by omega)]; exact c2 y i hh, fun j hj => ?_⟩
    rw [wr_row]
    by_cases t : j = l
    · subst t; rw [if_pos rfl]; exact c2 195 j (by omega)
    · rw [if_neg t]; exact c3 j (by omega)
theorem tries_ok {n0 : Nat} {h gB g : Hp} {a u v w : Int} {st : Int × Int × Int × Int} (hI : Inv n0 h) (e : EqB h gB) (c : RMB gB st g) (hV : VdB h a u v w) (ht : ∀ j, j < tlM u v w → g 195 j = p3 u v w j) : En (XX12_tries a (tlM u v w) g) (fun _ f => RMB gB (updB h a st u v w) f) := by
  have lt := Pl_lt (by decide) (Inv_N0 hI)
  have j4 : J4 h := hI.2.2.2.2.1
  have pz := VdB_pz j4 (by omega) hV
  have hm3 := tlM_le u v w
  have tlin := TLp_in hV.1
  have csb := csB_b (h := h) (a := a) (u := u) (v := v) (x := w)
  have eg : EqB h g := fun y i hh => by rw [c.1 y i (by omega)]; exact e y i hh
  have hsum : ∀ k, k < tlM u v w → h 157 (p3 u v w k).toNat = pzB h (p3 u v w k) := fun k hk => by
    have := tlin k hk
    unfold pzB
    rw [if_pos this.1]
    exact (j4.1 _ (by omega)).1
  have htot : (if 0 < tlM u v w then pzB h u else 0) + (if 1 < tlM u v w then pzB h v else 0) + (if 2 < tlM u v w then pzB h w else 0) = smB h u v w := by
    obtain ⟨⟨a1, a2, a3⟩, a4, a5⟩ := hV.1
    have pn : pzB h (-1) = 0 := by unfold pzB; rw [if_neg (by decide)]
    unfold smB tlM
    by_cases q1 : u = -1
    · have q2 : v = -1 := by omega
      have q3 : w = -1 := by omega
      rw [q1, q2, q3, pn, if_pos rfl]; decide
    · by_cases q2 : v = -1
      · have q3 : w = -1 := by omega
        rw [if_neg q1, if_pos q2, q2, q3, pn]; simp
      · by_cases q3 : w = -1
        · rw [if_neg q1, if_neg q2, if_pos q3, q3, pn]; simp
        · rw [if_neg q1, if_neg q2, if_neg q3]; simp
  unfold XX12_tries XX12_tries_L5
  refine En_lup4 (fun _ _ _ l _ => (5 - l).toNat) (fun l1 l2 l3 l f => a = l1 ∧ (tlM u v w : Int) = l2 ∧ 0 ≤ l ∧ l ≤ tlM u v w ∧ g = f ∧ l3 = (if 0 < l then pzB h u else 0) + (if 1 < l then pzB h v else 0) + (if 2 < l then pzB h w else 0)) ?_ FU _ _ _ _ _ (by unfold FU; omega) ⟨rfl, rfl, by omega, by omega, rfl, by simp⟩
  rintro self l1 l2 l3 l f ih ⟨rfl, rfl, c0, c1, rfl, c3⟩
  obtain ⟨l, rfl⟩ := Int.eq_ofNat_of_zero_le c0
  unfold XX12_tries_b5
  by_cases q : (tlM u v w : Int) ≤ l
  · rw [if_pos q]
    have c3 : l3 = smB h u v w := by
      rw [c3, ← htot]
      have : l = tlM u v w := by omega
      subst this
      congr 1
      · congr 1
        · by_cases t : 0 < tlM u v w
          · rw [if_pos t, if_pos (by omega)]
          · rw [if_neg t, if_neg (by omega)]
        · by_cases t : 1 < tlM u v w
          · rw [if_pos t, if_pos (by omega)]
          · rw [if_neg t, if_neg (by omega)]
      · by_cases t : 2 < tlM u v w
        · rw [if_pos t, if_pos (by omega)]
        · rw [if_neg t, if_neg (by omega)]
    subst c3
    have hsm : 0 ≤ smB h u v w ∧ smB h u v w ≤ 27 := by unfold smB; omega
    refine En_cal (findsB hI eg hV.1 c.2.1 ht) (fun r f _ hr => ?_)
    rcases hr with ⟨rfl, no, k⟩ | ⟨ok, fd, j, k⟩
    · rw [if_pos rfl]
      have eu : updB h a st u v w = st := by unfold updB; rw [csB_no no, if_pos rfl]
      rw [eu]
      obtain ⟨d1, d2, d3⟩ := c
      refine En_some ⟨fun y i hh => by rw [k y i (by omega)]; exact d1 y i hh, J14_tr (fun y i hh => k y i (by omega)) d2, ?_⟩
      rw [k 143 73 (by omega), k 143 74 (by omega)]
      rcases d3 with d3 | ⟨x1, x2, x3, x4⟩
      · exact Or.inl d3
      · exact Or.inr ⟨x1, x2, x3, fun j hj => by rw [k 196 j (by omega)]; exact x4 j hj⟩
    · have hb := FdA_b (by omega) fd
      have hcs := csB_yes ok fd
      have eu : updB h a st u v w = if st.1 = -1 ∨ 10 * r + smB h u v w < st.1 then (10 * r + smB h u v w, u, v, w) else st := by
        unfold updB; rw [hcs, if_neg (by omega)]
      have p72 : (st.1 = -1 ∨ 10 * r + smB h u v w < st.1) → En (XX12_tries_p72 (tlM u v w) (smB h u v w) r f) (fun _ f => RMB gB (updB h a st u v w) f) := by
        intro hlt
        rw [eu, if_pos hlt]
        unfold XX12_tries_p72
        rw [chk_pos (by omega), chk_pos (by omega), hm_eq, hm_eq]
        have o : ∀ y i, ¬ (y = 143 ∧ 73 ≤ i ∧ i ≤ 74) → wr (wr f 143 73 (10 * r + smB h u v w)) 143 74 (tlM u v w) y i = f y i := fun y i hh => by rw [wq_ne (by omega), wq_ne (by omega)]
        have o73 : wr (wr f 143 73 (10 * r + smB h u v w)) 143 74 (tlM u v w) 143 73 = 10 * r + smB h u v w := by rw [wr_o (by decide), wr_at]
        have o74 : wr (wr f 143 73 (10 * r + smB h u v w)) 143 74 (tlM u v w) 143 74 = (tlM u v w : Int) := wr_at
        generalize wr (wr f 143 73 (10 * r + smB h u v w)) 143 74 (tlM u v w) = f2 at *
        refine triesL_ok hm3 (fun f3 k3 v3 => ⟨fun y i hh => by rw [k3 y i (by omega), o y i (by omega), k y i (by omega)]; exact c.1 y i hh, J14_tr (fun y i hh => by rw [k3 y i (by omega), o y i (by omega)]) j, Or.inr ⟨?_, by rw [k3 143 73 (by omega)]; exact o73, by rw [k3 143 74 (by omega)]; exact o74, fun j hj => ?_⟩⟩)
        · show 0 ≤ 10 * r + smB h u v w
          omega
        · rw [v3 j hj, o 195 j (by omega), k 195 j (by omega)]; exact ht j hj
      have keep : RMB gB st f := by
        obtain ⟨d1, d2, d3⟩ := c
        refine ⟨fun y i hh => by rw [k y i (by omega)]; exact d1 y i hh, j, ?_⟩
        rw [k 143 73 (by omega), k 143 74 (by omega)]
        rcases d3 with d3 | ⟨x1, x2, x3, x4⟩
        · exact Or.inl d3
        · exact Or.inr ⟨x1, x2, x3, fun j hj => by rw [k 196 j (by omega)]; exact x4 j hj⟩
      rw [if_neg (by omega)]
      rcases keep.2.2 with ⟨z, z7⟩ | ⟨z, z7, _⟩
      · rw [z7, if_pos rfl]; exact p72 (Or.inl z)
      · rw [z7, if_neg (by omega), chk_pos (by omega), chk_pos (by omega)]
        by_cases q : st.1 ≤ 10 * r + smB h u v w
        · rw [if_pos q, eu, if_neg (by omega)]; exact En_some keep
        · rw [if_neg q]; exact p72 (Or.inr (by omega))
  · have hj := tlin l (by omega)
    have p9 : 0 ≤ pzB h (p3 u v w l) ∧ pzB h (p3 u v w l) ≤ 9 := by
      rcases (by omega : l = 0 ∨ l = 1 ∨ l = 2) with rfl | rfl | rfl
      · exact pz.1
      · exact pz.2.1
      · exact pz.2.2
    have l3b : 0 ≤ l3 ∧ l3 ≤ 27 := by
      rw [c3]
      repeat' split
      all_goals omega
    rw [if_neg q, inb_pos (by omega), Int.toNat_natCast, ht l (by omega), inb_pos (by omega), eg 157 _ (by omega), hsum l (by omega), chk_pos (by omega), nm_eq, chk_pos (by omega)]
    refine ih _ _ _ _ _ (by omega) ⟨rfl, rfl, by omega, by omega, rfl, ?_⟩
    rw [c3]
    rcases (by omega : l = 0 ∨ l = 1 ∨ l = 2) with rfl | rfl | rfl
    · have : pzB h (p3 u v w 0) = pzB h u := rfl
      rw [this]; simp
    · have : pzB h (p3 u v w 1) = pzB h v := rfl
      rw [this]; simp
    · have : pzB h (p3 u v w 2) = pzB h w := rfl
      rw [this]; simp
