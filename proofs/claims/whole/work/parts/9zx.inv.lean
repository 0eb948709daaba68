/-- a slot of the model that has been filled beside a plan taken from OLD, the count of undos aside -/
theorem PRel_nw {n : Nat} {h : Hp} (hI : Inv n h) {p sl : Nat} {g f : Hp} (hd : p + 4 < 18 ∨ 22 < p) (hp : ¬ (174 ≤ p + 4 ∧ p ≤ 184)) (t : TkV p 18 h g) (hg : ∀ a i, ((144 ≤ a ∧ a ≤ 151) ∨ (a = 143 ∧ 1 ≤ i ∧ i ≤ 3)) → g a i = h a i) (s : StoP sl 48 144 4 2 12 g f) : PRel p sl f := by
  obtain ⟨i1, i2, i3, _⟩ := id hI
  obtain ⟨r, _, r1, _, r2, _, _⟩ := i2
  obtain ⟨os1, os2⟩ := old_seen hI
  obtain ⟨_, n1, n2, _, _, n5, n6, _, _⟩ := Inv_N0 hI
  obtain ⟨t1, t2, t3, t4, t5⟩ := t
  obtain ⟨s1, s2, s3, s4, s5, s6, s7, s8, s9⟩ := s
  have e0 : f p 0 = h 18 0 := by rw [s1 p _ (by omega), t1 0 (by omega)]
  have e1 : f p 1 = h 18 1 := by rw [s1 p _ (by omega), t1 1 (by omega)]
  have e2 : f p 2 = h 18 2 := by rw [s1 p _ (by omega), t1 2 (by omega)]
  have e3 : f p 3 = h 18 3 := by rw [s1 p _ (by omega), t1 3 (by omega)]
  refine ⟨⟨?_, ?_, ?_, ?_⟩, fun w hw => ?_, fun j hj => ?_, fun k hk => ?_, fun k hk => ?_, fun w hw => ?_⟩
  · rw [e0, s2.1 sl, if_pos rfl, hg 143 1 (by omega)]; exact r.1
  · rw [e1, s2.2.1 sl, if_pos rfl, hg 143 2 (by omega)]; exact r.2.1
  · rw [e2, s2.2.2.1 sl, if_pos rfl, hg 143 3 (by omega)]; exact r.2.2.1
  · rw [e3, s2.2.2.2 sl, if_pos rfl, hg 144 0 (by omega)]; exact r.2.2.2
  · rw [Win_at s3 hw, hg 145 w (by omega), s1 (p + 1) _ (by omega), t2 w hw]; exact r1 w hw
  · rw [Win_at s6 hj, hg 146 j (by omega), s1 (p + 2) _ (by omega), t3 j hj]; exact r2 j hj
  · rw [e2] at hk
    rw [Win_at s7 (by omega), hg 147 k (by omega), s1 (p + 3) _ (by omega), t4 k (by omega)]; exact os1 k hk
  · rw [e1] at hk
    rw [Win_at s8 (by omega), hg 148 k (by omega), s1 (p + 3) _ (by omega), e2, t4 _ (by omega)]; exact os2 k hk
  · rw [Win_at s4 hw, Win_at s5 hw, hg 150 w (by omega), hg 151 w (by omega), s1 (p + 4) _ (by omega), t5 w hw]; exact i3 w hw
/-- the invariant behind apply -/
theorem apply_Inv {n N M U s b o c C : Nat} {k g f f1 g1 g2 m : Hp} {σ : TrS} {Pf Ef : Nat → Int} {F : List (Int × Int × Int)} {T : List Int} (hI : Inv n k) (p : PlB k N M) (ho : k 18 2 = (o : Int)) (hc : k 18 2 + k 18 1 = (c : Int)) (hC : k 37 0 = (C : Int)) (hgr : k 18 3 ≤ (σ.n : Int)) (op : OpC s U b (k 67 1) k g) (hU : ((U + s : Nat) : Int) = k 72 2) (hU4 : U < 4) (ac : ApC g N C σ Pf Ef F T f) (f1e : ∀ a i, ¬ ((174 ≤ a ∧ a ≤ 184) ∨ (a = 143 ∧ i = 36)) → f1 a i = f a i) (sl1 : ∀ t, t < 6 → SlE t t f f1) (sl2 : ∀ u, u < U → SlE (6 + u + s) (6 + u) f f1) (z1 : ∀ i, i < 120 → f1 184 i = 0 ∨ f1 184 i = 1) (st : StoP (6 + U) 48 144 4 2 12 f1 g1) (g2e : ∀ a i, ¬ ((a = 143 ∧ ((36 ≤ i ∧ i ≤ 38) ∨ i = 63)) ∨ (186 ≤ a ∧ a ≤ 188) ∨ a = 201) → g2 a i = g1 a i) (g236 : g2 143 36 = ((U + 1 : Nat) : Int)) (am : ApM g2 N o c σ Pf Ef F T m) (hF : F.length ≤ 126) : Inv (n + 1) m := by
  obtain ⟨i1, i2, i3, i4, i5, i6, i7, i8, i9, i10, i11, i12, i13, i14, i15⟩ := id hI
  have hP : Pl 40 18 k := i1.1.1
  have hN0 := hP.1
  have hnum := num_le hI
  have hN12 : N ≤ 12 := p.2.2.2.2.2.1
  obtain ⟨a1, a2, ⟨a3, a19, a20, a21, a22⟩, a67, a56, aF, aT, aT2, aT3⟩ := ac
  obtain ⟨m1, m2, ⟨m145, m145'⟩, ⟨m146, m146'⟩, ⟨m147, m147'⟩, ⟨m148, m148'⟩, mpl, ⟨m155, m155'⟩, mF, m23, mT, mT3⟩ := am
  have hb4 : 78 ≤ b ∧ b ≤ 93 := by have := op.2.2.2.1; omega
  have o1 := op.1
  have kf : ∀ a i, ¬ ((a = 17 ∧ i = 6) ∨ (a = 18 ∧ i = 3) ∨ (19 ≤ a ∧ a ≤ 25) ∨ a = 66 ∨ (a = 67 ∧ i = 1) ∨ (73 ≤ a ∧ a ≤ 97) ∨ (a = 72 ∧ (i = 2 ∨ i = 4 ∨ i = 6)) ∨ (a = 56 ∧ i = 0)) → f a i = k a i := fun a i hh => by rw [a1 a i (by omega), o1 a i (by omega)]
  have fg : ∀ a i, (a = 73 ∨ a = 74 ∨ (78 ≤ a ∧ a ≤ 97) ∨ (a = 72 ∧ i = 2)) → f a i = g a i := fun a i hh => a1 a i (by omega)
  have mlo : ∀ a i, a < 143 → m a i = f a i := fun a i hh => by rw [m1 a i (by omega), g2e a i (by omega), st.1 a i (by omega), f1e a i (by omega)]
  have mhi : ∀ a i, 143 ≤ a → ¬ ((a = 143 ∧ (i = 23 ∨ (36 ≤ i ∧ i ≤ 38) ∨ i = 63)) ∨ (a = 144 ∧ i = 0) ∨ (145 ≤ a ∧ a ≤ 148) ∨ (150 ≤ a ∧ a ≤ 151) ∨ a = 155 ∨ (167 ≤ a ∧ a ≤ 170) ∨ (174 ≤ a ∧ a ≤ 184) ∨ (186 ≤ a ∧ a ≤ 188) ∨ (200 ≤ a ∧ a ≤ 201)) → m a i = k a i := fun a i h1 hh => by rw [m1 a i (by omega), g2e a i (by omega), st.1 a i (by omega), f1e a i (by omega), kf a i (by omega)]
  have ghi : ∀ a i, 143 ≤ a → ¬ ((a = 143 ∧ ((36 ≤ i ∧ i ≤ 38) ∨ i = 63)) ∨ (174 ≤ a ∧ a ≤ 184) ∨ (186 ≤ a ∧ a ≤ 188) ∨ a = 201) → g2 a i = k a i := fun a i h1 hh => by rw [g2e a i (by omega), st.1 a i (by omega), f1e a i (by omega), kf a i (by omega)]
  have m184 : ∀ a i, (174 ≤ a ∧ a ≤ 184) → m a i = g1 a i := fun a i hh => by rw [m1 a i (by omega), g2e a i (by omega)]
  have km : ∀ a i, ¬ ((a = 17 ∧ i = 6) ∨ (a = 18 ∧ i = 3) ∨ (19 ≤ a ∧ a ≤ 25) ∨ a = 66 ∨ (a = 67 ∧ i = 1) ∨ (73 ≤ a ∧ a ≤ 97) ∨ (a = 72 ∧ (i = 2 ∨ i = 4 ∨ i = 6)) ∨ (a = 56 ∧ i = 0) ∨ (a = 143 ∧ (i = 23 ∨ (36 ≤ i ∧ i ≤ 38) ∨ i = 63)) ∨ (a = 144 ∧ i = 0) ∨ (145 ≤ a ∧ a ≤ 148) ∨ (150 ≤ a ∧ a ≤ 151) ∨ a = 155 ∨ (167 ≤ a ∧ a ≤ 170) ∨ (174 ≤ a ∧ a ≤ 184) ∨ (186 ≤ a ∧ a ≤ 188) ∨ (200 ≤ a ∧ a ≤ 201)) → m a i = k a i := fun a i hh => by
    by_cases q : a < 143
    · rw [mlo a i q, kf a i (by omega)]
    · exact mhi a i (by omega) (by omega)
  have r1 := i2.1
  have r2 := i2.2.1
  have hco : (o : Int) + k 18 1 = (c : Int) := by omega
  have n18 : 0 ≤ k 18 1 ∧ k 18 1 ≤ 2 ∧ 1 ≤ k 18 2 ∧ k 18 2 ≤ 4 := by unfold Nums at hN0; omega
  have e18 : ∀ i, i ≤ 2 → m 18 i = k 18 i := fun i hi => km 18 i (by omega)
  have e143 : ∀ i, 1 ≤ i → i ≤ 3 → m 143 i = k 143 i := fun i h1 h2 => km 143 i (by omega)
  have hW : wn 18 m = k 18 0 + k 18 1 + (σ.n : Int) := by unfold wn; rw [e18 0 (by omega), e18 1 (by omega), mlo 18 3 (by omega), a3]
  have jR : RelN m := by
    refine ⟨⟨?_, ?_, ?_, ?_⟩, ⟨?_, ?_, ?_, ?_⟩, fun w hw => ?_, fun w hw => ?_, fun j hj => ?_, fun j hj => ?_, fun j hj => ⟨?_, ?_⟩⟩
    · rw [e18 0 (by omega), e143 1 (by omega) (by omega)]; exact r1.1
    · rw [e18 1 (by omega), e143 2 (by omega) (by omega)]; exact r1.2.1
    · rw [e18 2 (by omega), e143 3 (by omega) (by omega)]; exact r1.2.2.1
    · rw [mlo 18 3 (by omega), a3, m2]
    · rw [km 28 0 (by omega), e143 1 (by omega) (by omega)]; exact r2.1
    · rw [km 28 1 (by omega), e143 2 (by omega) (by omega)]; exact r2.2.1
    · rw [km 28 2 (by omega), e143 3 (by omega) (by omega)]; exact r2.2.2.1
    · rw [km 28 3 (by omega), km 144 1 (by omega)]; exact r2.2.2.2
    · rw [mlo 19 w (by omega), a19]; exact m145 w hw
    · rw [m145' (48 + w) (by omega), ghi 145 _ (by omega) (by omega), km 29 w (by omega)]; exact i2.2.2.2.1 w hw
    · rw [mlo 20 j (by omega), a20]; exact m146 j hj
    · rw [m146' (144 + j) (by omega), ghi 146 _ (by omega) (by omega), km 30 j (by omega)]; exact i2.2.2.2.2.2.1 j hj
    · rw [e18 2 (by omega), e18 1 (by omega), hc] at hj
      rw [mlo 21 j (by omega), a21]
      unfold sn
      rw [e143 3 (by omega) (by omega), ← r1.2.2.1, ho]
      by_cases qk : (j : Int) < (o : Int)
      · rw [if_pos qk]
        show m 147 (4 * 0 + j) = _
        rw [Nat.mul_zero, Nat.zero_add]; exact m147 j (by omega)
      · rw [if_neg qk, Int.toNat_natCast]
        show m 148 (2 * 0 + j - o) = _
        rw [Nat.mul_zero, Nat.zero_add, m148 (j - o) (by omega)]
        exact congrArg _ (by omega)
    · rw [e18 2 (by omega), e18 1 (by omega)] at hj
      rw [km 31 j (by omega), ← (i2.2.2.2.2.2.2 j hj).2]
      have hj2 : (j : Int) < (c : Int) := by omega
      unfold sn
      rw [e143 3 (by omega) (by omega), ← r1.2.2.1, ho]
      by_cases qk : (j : Int) < (o : Int)
      · rw [if_pos qk, if_pos qk]
        show m 147 (4 * 1 + j) = k 147 (4 * 1 + j)
        rw [m147' _ (by omega), ghi 147 _ (by omega) (by omega)]
      · rw [if_neg qk, if_neg qk, Int.toNat_natCast]
        show m 148 (2 * 1 + j - o) = k 148 (2 * 1 + j - o)
        rw [m148' _ (by omega), ghi 148 _ (by omega) (by omega)]
  have j2 : J2 m := fun w hw => by
    rw [mlo 22 w (by omega), a22]
    exact mpl w hw
  have j9 : J9 m := J9_apl (N := N) (V := σ.U) i10 p.2.2.2.1 (fun a i hh => km a i (by omega)) (by rw [mlo 67 1 (by omega)]; exact a67) (fun z hz => m155 z hz)
  have eb : ∀ a i, (b ≤ a ∧ a ≤ b + 4) → f1 a i = g a i := fun a i hh => by rw [f1e a i (by omega), fg a i (by omega)]
  have hnew1 : PRel b (6 + U) g1 := PRel_nw hI (by omega) (by omega) (TkV_congr eb (fun _ _ _ => rfl) op.2.2.2.2.2.2.2.1) (fun a i hh => by rw [f1e a i (by omega), kf a i (by omega)]) st
  have hnew : PRel b (6 + U) m := PRel_tr (fun a i hh => by
    by_cases q : a < 143
    · rw [mlo a i q, st.1 a i (by omega), f1e a i (by omega)]
    · exact m184 a i (by omega)) hnew1
  have slk : ∀ t, SlE t t k f := fun t => SlE_id (fun a i hh => kf a i (by omega))
  have slm : ∀ t, SlE t t g1 m := fun t => SlE_id (fun a i hh => m184 a i hh)
  have j10 : J10 m := J10_apl hP i11 i10 op hU hU4 rfl (fun a i hh => by rw [mlo a i (by omega)]; exact fg a i hh) e18 (km 67 0 (by omega)) (by rw [m1 143 36 (by omega)]; exact g236) (fun u hu => SlE_tr (SlE_tr (slk _) (sl2 u hu)) (SlE_tr (SlE_so (by omega) st) (slm _))) hnew (fun z hz => by
    rw [m184 184 _ (by omega), Win_at st.2.2.2.2.2.2.2.2 hz, f1e 155 z (by omega), kf 155 z (by omega)])
  have j11 : J11 m := J11_apl (F := F) (T := T) hF (by omega) (LgC_tr (fun a i hh => mlo a i (by omega)) aF) mF (by rw [mlo 72 6 (by omega)]; exact aT) mT (fun i e he => by rw [mlo 76 i (by omega)]; exact aT3 i e he) mT3
  have j12 : J12 m := J12_apl i13 (fun a i hh => km a i (by omega)) (fun t ht => SlE_tr (SlE_tr (slk t) (sl1 t ht)) (SlE_tr (SlE_so (by omega) st) (slm t)))
  refine ⟨⟨NetOK_tr (fun a i hh => mlo a i (by omega)) a2, NetOK_tr (fun a i hh => km a i (by omega)) i1.2.1, by rw [km 17 1 (by omega)]; exact i1.2.2.1, by rw [km 27 1 (by omega)]; exact i1.2.2.2⟩, jR, j2, J3_tr (fun a i hh => km a i (by omega)) i4, J4_up (fun a i hh => km a i (by omega)) (by rw [hW]; unfold wn; omega) i5, J5_tr (fun a i hh => km a i (by omega)) i6, J6_tr (fun a i hh => km a i (by omega)) i7, J7_tr (fun a i hh => km a i (by omega)) i8, J8_no (by rw [mlo 56 0 (by omega)]; exact a56) m23, j9, j10, j11, j12, J13_tr (fun a i hh => km a i (by omega)) i14, fun v hv => ?_, fun z hz => ?_, fun i hi => ?_⟩
  · rw [km 192 v (by omega)]
    refine ⟨(i15.1 v hv).1, fun hh u hu => ?_⟩
    rw [km 193 _ (by omega)]; exact (i15.1 v hv).2 hh u hu
  · by_cases q : z < N
    · exact (m155 z q).1
    · rw [m155' z (by omega), ghi 155 z (by omega) (by omega)]; exact i15.2.1 z hz
  · rw [m184 184 i (by omega)]
    exact sto184 st (fun z hz => by rw [f1e 155 z (by omega), kf 155 z (by omega)]; exact i15.2.1 z hz) z1 i hi
