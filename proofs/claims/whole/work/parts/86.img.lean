/-- a plan that was taken from another -/
def TkV (p x : Nat) (h g : Hp) : Prop :=
  (∀ i, i ≤ 3 → g p i = h x i) ∧ (∀ w, w < 48 → g (p + 1) w = h (x + 1) w) ∧ (∀ j, j < 144 → g (p + 2) j = h (x + 2) j) ∧ (∀ k, k < 6 → g (p + 3) k = h (x + 3) k) ∧ (∀ w, w < 48 → g (p + 4) w = h (x + 4) w)
theorem TkV_congr {p x : Nat} {h g h1 g1 : Hp} (e : ∀ a i, (p ≤ a ∧ a ≤ p + 4) → g1 a i = g a i) (e2 : ∀ a i, (x ≤ a ∧ a ≤ x + 4) → h1 a i = h a i) (t : TkV p x h g) : TkV p x h1 g1 :=
  ⟨fun i hi => by rw [e p i (by omega), e2 x i (by omega)]; exact t.1 i hi, fun i hi => by rw [e _ i (by omega), e2 _ i (by omega)]; exact t.2.1 i hi, fun i hi => by rw [e _ i (by omega), e2 _ i (by omega)]; exact t.2.2.1 i hi, fun i hi => by rw [e _ i (by omega), e2 _ i (by omega)]; exact t.2.2.2.1 i hi, fun i hi => by rw [e _ i (by omega), e2 _ i (by omega)]; exact t.2.2.2.2 i hi⟩
theorem take_ok {p x : Nat} (hd : p + 4 < x ∨ x + 4 < p) (h : Hp) : ∃ g, XX8_take p x h = some (0, g) ∧ (∀ a i, ¬ (p ≤ a ∧ a ≤ p + 4) → g a i = h a i) ∧ TkV p x h g := by
  unfold XX8_take
  rw [hm_eq, hm_eq, hm_eq, hm_eq, acp_pos (by decide), hm_eq, acp_pos (by decide), hm_eq, acp_pos (by decide), hm_eq, acp_pos (by decide), hm_eq]
  refine ⟨_, rfl, fun a i hh => ?_, fun i hi => ?_, fun w hw => ?_, fun j hj => ?_, fun k hk => ?_, fun w hw => ?_⟩
  · rw [cpy_ne (by omega), cpy_ne (by omega), cpy_ne (by omega), cpy_ne (by omega), wq_ne (by omega), wq_ne (by omega), wq_ne (by omega), wq_ne (by omega)]
  · rw [cpy_ne (by omega), cpy_ne (by omega), cpy_ne (by omega), cpy_ne (by omega)]
    rcases (by omega : i = 0 ∨ i = 1 ∨ i = 2 ∨ i = 3) with rfl | rfl | rfl | rfl
    · rw [wq_ne (by omega), wq_ne (by omega), wq_ne (by omega), wq_at]
    · rw [wq_ne (by omega), wq_ne (by omega), wq_at, wq_ne (by omega)]
    · rw [wq_ne (by omega), wq_at, wq_ne (by omega), wq_ne (by omega)]
    · rw [wq_at, wq_ne (by omega), wq_ne (by omega), wq_ne (by omega)]
  · rw [cpy_ne (by omega), cpy_ne (by omega), cpy_ne (by omega), cpy_is (by omega), wq_ne (by omega), wq_ne (by omega), wq_ne (by omega), wq_ne (by omega)]
    exact congrArg _ (by omega)
  · rw [cpy_ne (by omega), cpy_ne (by omega), cpy_is (by omega), cpy_ne (by omega), wq_ne (by omega), wq_ne (by omega), wq_ne (by omega), wq_ne (by omega)]
    exact congrArg _ (by omega)
  · rw [cpy_ne (by omega), cpy_is (by omega), cpy_ne (by omega), cpy_ne (by omega), wq_ne (by omega), wq_ne (by omega), wq_ne (by omega), wq_ne (by omega)]
    exact congrArg _ (by omega)
  · rw [cpy_is (by omega), cpy_ne (by omega), cpy_ne (by omega), cpy_ne (by omega), wq_ne (by omega), wq_ne (by omega), wq_ne (by omega), wq_ne (by omega)]
    exact congrArg _ (by omega)
theorem Pl_take {p x : Nat} {h g : Hp} (t : TkV p x h g) (hP : Pl 40 x h) : Pl 40 p g ∧ wn p g = wn x h ∧ sc p g = sc x h := by
  obtain ⟨t1, t2, t3, t4, t5⟩ := t
  have lt := Pl_lt (by decide) hP.1
  have e0 := t1 0 (by omega)
  have e1 := t1 1 (by omega)
  have e2 := t1 2 (by omega)
  have e3 := t1 3 (by omega)
  have ew : wn p g = wn x h := by unfold wn; rw [e0, e1, e3]
  have es : sc p g = sc x h := by unfold sc; rw [e0, e1]
  obtain ⟨hN, hPi, hA, hS, hL⟩ := hP
  refine ⟨⟨?_, ?_, ?_, fun k hk => ?_, fun w hw => ?_⟩, ew, es⟩
  · unfold Nums at hN ⊢; rw [e0, e1, e2, e3]; exact hN
  · rw [ew, es]; exact PinOK_congr lt.2.2.1 t2 t3 hPi
  · rw [ew, es]; exact Acy_congr lt.2.2.1 t2 t3 hA
  · rw [e1, e2] at hk
    obtain ⟨_, n1, n2, _, _, n5, n6, _, _⟩ := hN
    rw [ew, t4 k (by omega)]; exact hS k hk
  · rw [t5 w hw]; exact hL w hw
/-- OLD of both sides, pin by pin -/
theorem old_seen {n : Nat} {h : Hp} (hI : Inv n h) : (∀ k : Nat, (k : Int) < h 18 2 → h 147 k = h 21 k) ∧ ∀ k : Nat, (k : Int) < h 18 1 → h 148 k = h 21 ((h 18 2).toNat + k) := by
  have r := hI.2.1.1
  have r3 := hI.2.1.2.2.2.2.2.2
  obtain ⟨_, n1, n2, _, _, n5, n6, _, _⟩ := Inv_N0 hI
  refine ⟨fun k hk => ?_, fun k hk => ?_⟩
  · have e := (r3 k (by omega)).1
    unfold sn at e
    rw [if_pos (by omega)] at e
    rw [← e]; exact congrArg _ (by show k = 4 * 0 + k; omega)
  · have e := (r3 ((h 18 2).toNat + k) (by omega)).1
    unfold sn at e
    rw [if_neg (by omega)] at e
    rw [← e]; exact congrArg _ (by show k = 2 * 0 + ((h 18 2).toNat + k) - (h 143 3).toNat; omega)
/-- a slot of the model that has been filled, and a plan taken from OLD -/
theorem PRel_new {n : Nat} {h : Hp} (hI : Inv n h) {p sl : Nat} {g f : Hp} (hd : p + 4 < 18 ∨ 22 < p) (hp : ¬ (174 ≤ p + 4 ∧ p ≤ 184)) (t : TkV p 18 h g) (hg : ∀ a i, (143 ≤ a ∧ a ≤ 151) → g a i = h a i) (s : StoP sl 48 144 4 2 12 g f) : PRel p sl f := by
  obtain ⟨i1, i2, i3, _⟩ := id hI
  obtain ⟨r, _, r1, _, r2, _, _⟩ := i2
  obtain ⟨os1, os2⟩ := old_seen hI
  obtain ⟨_, n1, n2, _, _, n5, n6, _, _⟩ := Inv_N0 hI
  obtain ⟨t1, t2, t3, t4, t5⟩ := t
  obtain ⟨s1, s2, s3, s4, s5, s6, s7, s8, s9⟩ := s
  have e0 : f p 0 = h 18 0 := by rw [s1 p _ (by omega), t1 0 (by omega)]
  have e1 : f p 1 = h 18 1 := by rw [s1 p _ (by omega), t1 1 (by omega)]
  have e2 : f p 2 = h 18 2 := by rw [s1 p _ (by omega), t1 2 (by omega)]
  have e3 : f p 3 = h 18 3 := by rw [s1 p _ (by omega), t1 3 (by omega)]
  refine ⟨⟨?_, ?_, ?_, ?_⟩, fun w hw => ?_, fun j hj => ?_, fun k hk => ?_, fun k hk => ?_, fun w hw => ?_⟩
  · rw [e0, s2.1 sl, if_pos rfl, hg 143 _ (by omega)]; exact r.1
  · rw [e1, s2.2.1 sl, if_pos rfl, hg 143 _ (by omega)]; exact r.2.1
  · rw [e2, s2.2.2.1 sl, if_pos rfl, hg 143 _ (by omega)]; exact r.2.2.1
  · rw [e3, s2.2.2.2 sl, if_pos rfl, hg 144 _ (by omega)]; exact r.2.2.2
  · rw [Win_at s3 hw, hg 145 _ (by omega), s1 (p + 1) _ (by omega), t2 w hw]; exact r1 w hw
  · rw [Win_at s6 hj, hg 146 _ (by omega), s1 (p + 2) _ (by omega), t3 j hj]; exact r2 j hj
  · rw [e2] at hk
    rw [Win_at s7 (by omega), hg 147 _ (by omega), s1 (p + 3) _ (by omega), t4 k (by omega)]; exact os1 k hk
  · rw [e1] at hk
    rw [Win_at s8 (by omega), hg 148 _ (by omega), s1 (p + 3) _ (by omega), e2, t4 _ (by omega)]; exact os2 k hk
  · rw [Win_at s4 hw, Win_at s5 hw, hg 150 _ (by omega), hg 151 _ (by omega), s1 (p + 4) _ (by omega), t5 w hw]; exact i3 w hw
/-- a slot that another one's filling leaves -/
theorem PRel_oth {b sl s2 : Nat} {h f : Hp} (hb : ¬ (174 ≤ b + 4 ∧ b ≤ 184)) (hne : s2 ≠ sl) (s : StoP sl 48 144 4 2 12 h f) (hN : h b 2 ≤ 4 ∧ h b 1 ≤ 2) (j : PRel b s2 h) : PRel b s2 f := by
  obtain ⟨s1, s2', s3, s4, s5, s6, s7, s8, s9⟩ := s
  obtain ⟨j1, j2, j3, j4, j5, j6⟩ := j
  refine ⟨⟨?_, ?_, ?_, ?_⟩, fun w hw => ?_, fun j hj => ?_, fun k hk => ?_, fun k hk => ?_, fun w hw => ?_⟩
  · rw [s1 b _ (by omega), s2'.1, if_neg hne]; exact j1.1
  · rw [s1 b _ (by omega), s2'.2.1, if_neg hne]; exact j1.2.1
  · rw [s1 b _ (by omega), s2'.2.2.1, if_neg hne]; exact j1.2.2.1
  · rw [s1 b _ (by omega), s2'.2.2.2, if_neg hne]; exact j1.2.2.2
  · rw [Win_no s3 (by omega), s1 (b + 1) _ (by omega)]; exact j2 w hw
  · rw [Win_no s6 (by omega), s1 (b + 2) _ (by omega)]; exact j3 j hj
  · rw [s1 b _ (by omega)] at hk
    rw [Win_no s7 (by omega), s1 (b + 3) _ (by omega)]; exact j4 k hk
  · rw [s1 b _ (by omega)] at hk
    rw [Win_no s8 (by omega), s1 (b + 3) _ (by omega), s1 b _ (by omega)]; exact j5 k hk
  · rw [Win_no s4 (by omega), Win_no s5 (by omega), s1 (b + 4) _ (by omega)]; exact j6 w hw
theorem Inv_slot {n : Nat} {h g : Hp} (hI : Inv n h) (e : ∀ a i, ¬ ((101 ≤ a ∧ a ≤ 142) ∨ (171 ≤ a ∧ a ≤ 184) ∨ a = 202) → g a i = h a i) (j10 : J10 g) (j : J12 g) (z : ∀ i, i < 120 → g 184 i = 0 ∨ g 184 i = 1) : Inv (n + 1) g := by
  obtain ⟨i1, i2, i3, i4, i5, i6, i7, i8, i9, i10, i11, i12, i13, i14, i15⟩ := hI
  refine ⟨J1_tr (fun a i hh => e a i (by omega)) i1, RelN_congr (fun a i hh => e a i (by omega)) i2, J2_tr (fun a i hh => e a i (by omega)) i3, J3_tr (fun a i hh => e a i (by omega)) i4, J4_tr (fun a i hh => e a i (by omega)) i5, J5_tr (fun a i hh => e a i (by omega)) i6, J6_tr (fun a i hh => e a i (by omega)) i7, J7_tr (fun a i hh => e a i (by omega)) i8, J8_tr (fun a i hh => e a i (by omega)) i9, J9_tr (fun a i hh => e a i (by omega)) i10, j10, J11_tr (fun a i hh => e a i (by omega)) i12, j, J13_tr (fun a i hh => e a i (by omega)) i14, fun m hm => ?_, fun k hk => by rw [e 155 k (by omega)]; exact i15.2.1 k hk, z⟩
  rw [e 192 m (by omega)]
  refine ⟨(i15.1 m hm).1, fun hh v hv => ?_⟩
  rw [e 193 _ (by omega)]; exact (i15.1 m hm).2 hh v hv
theorem sto184 {sl : Nat} {h f : Hp} (s : StoP sl 48 144 4 2 12 h f) (z1 : ∀ k, k < 12 → h 155 k = 0 ∨ h 155 k = 1) (z2 : ∀ i, i < 120 → h 184 i = 0 ∨ h 184 i = 1) : ∀ i, i < 120 → f 184 i = 0 ∨ f 184 i = 1 := by
  intro i hi
  rw [s.2.2.2.2.2.2.2.2 i]
  split
  · exact z1 _ (by omega)
  · exact z2 i hi
theorem isUsed01 {n : Nat} {h : Hp} (hI : Inv n h) {k : Nat} (hk : (k : Int) < h 67 0) : h 155 k = 0 ∨ h 155 k = 1 := ((hI.2.2.2.2.2.2.2.2.2.1.2.2.2.2) k hk).2.2.2.2.1
theorem Undo_oth {h f : Hp} {u sl : Nat} (hq : h 67 0 ≤ 12) (hb : 78 ≤ bef h u ∧ bef h u ≤ 93) (hne : 6 + u ≠ sl) (s : StoP sl 48 144 4 2 12 h f) (j : Undo h u) : Undo f u := by
  obtain ⟨u1, u2, u3, u4, u5⟩ := j
  have s1 := s.1
  have eb : bef f u = bef h u := by unfold bef; rw [s1 73 u (by omega)]
  obtain ⟨_, n1, n2, _, _, n5, n6, _, _⟩ := u1.1
  unfold Undo
  rw [eb]
  have h12 := u1.1
  refine ⟨Pl_tr (fun a i hh => s1 a i (by omega)) u1, PRel_oth (by omega) hne s (by omega) u2, ?_, ?_, fun k hk => ?_⟩
  · rw [s1 _ 0 (by omega), s1 _ 1 (by omega), s1 _ 2 (by omega), s1 18 _ (by omega), s1 18 _ (by omega), s1 18 _ (by omega)]; exact u3
  · rw [s1 74 _ (by omega), s1 67 _ (by omega)]; exact u4
  · rw [s1 67 _ (by omega)] at hk
    have := s.2.2.2.2.2.2.2.2
    rw [s1 74 _ (by omega), Win_no this (by omega)]; exact u5 k hk
theorem Tap_tr {h h1 : Hp} {k : Nat} (e : ∀ a i, ((101 + 7 * k ≤ a ∧ a ≤ 107 + 7 * k) ∨ ((a = 171 ∨ a = 172) ∧ i = k) ∨ a = 173 ∨ (174 ≤ a ∧ a ≤ 183)) → h1 a i = h a i) (t : Tap h k) : Tap h1 k := by
  obtain ⟨t1, t2, t3, t4⟩ := t
  unfold Tap
  rw [e _ 0 (by omega), e 171 k (by omega), e _ 1 (by omega), e 172 k (by omega)]
  refine ⟨t1, t2, fun hh => ?_, fun hh => ⟨Pl_tr (fun a i ha => e a i (by omega)) (t4 hh).1, PRel_tr (fun a i ha => e a i (by omega)) (t4 hh).2⟩⟩
  obtain ⟨a1, a2, a3, a4⟩ := t3 hh
  exact ⟨a1, a2, a3, fun i hi => by rw [e _ i (by omega), e 173 _ (by omega)]; exact a4 i hi⟩
theorem Tap_oth {h f : Hp} {k sl : Nat} (hk : k < 6) (hne : k ≠ sl) (s : StoP sl 48 144 4 2 12 h f) (t : Tap h k) : Tap f k := by
  have s1 := s.1
  obtain ⟨t1, t2, t3, t4⟩ := t
  unfold Tap
  rw [s1 _ 0 (by omega), s1 171 k (by omega), s1 _ 1 (by omega), s1 172 k (by omega)]
  refine ⟨t1, t2, fun hh => ?_, fun hh => ?_⟩
  · obtain ⟨a1, a2, a3, a4⟩ := t3 hh
    exact ⟨a1, a2, a3, fun i hi => by rw [s1 _ i (by omega), s1 173 _ (by omega)]; exact a4 i hi⟩
  · obtain ⟨p1, p2⟩ := t4 hh
    obtain ⟨_, n1, n2, _, _, n5, n6, _, _⟩ := p1.1
    exact ⟨Pl_tr (fun a i ha => s1 a i (by omega)) p1, PRel_oth (by omega) hne s (by omega) p2⟩
theorem m_image {n : Nat} {h : Hp} (hI : Inv n h) (x : Int) : Both n h (XX11_image x) (XX12_image x) := by
  by_cases q : 0 ≤ x ∧ x < 6
  · obtain ⟨d, rfl⟩ := Int.eq_ofNat_of_zero_le q.1
    have hd : d < 6 := by omega
    obtain ⟨i1, i2, i3, i4, i5, i6, i7, i8, i9, i10, i11, i12, i13, i14, i15⟩ := id hI
    obtain ⟨jd, t1, t2, t3, t4⟩ := i13 d hd
    obtain ⟨g1, eg1, hg1⟩ := hold_eq (101 + 7 * d) 5 0 h
    obtain ⟨g2, eg2, tk0, tk⟩ := take_ok (p := 101 + 7 * d + 2) (x := 18) (by omega) g1
    have e1 : ∀ a i, ¬ (101 + 7 * d ≤ a ∧ a ≤ 107 + 7 * d) → g1 a i = h a i := fun a i hh => by rw [hg1, if_neg (by omega), if_neg (by omega), if_neg (by omega)]
    have e2 : ∀ a i, ¬ (101 + 7 * d ≤ a ∧ a ≤ 107 + 7 * d) → g2 a i = h a i := fun a i hh => by rw [tk0 a i (by omega), e1 a i hh]
    have hz : ∀ k, k < 12 → wr (wr g2 171 d 5) 172 d 0 155 k = 0 ∨ wr (wr g2 171 d 5) 172 d 0 155 k = 1 := fun k hk => by
      rw [wq_ne (by omega), wq_ne (by omega), e2 155 k (by omega)]; exact i15.2.1 k hk
    obtain ⟨r3, f, e3, hS⟩ := stores_ok (sl := d) (by omega) hz
    have em : ∀ a i, ¬ ((101 + 7 * d ≤ a ∧ a ≤ 107 + 7 * d) ∨ ((a = 171 ∨ a = 172) ∧ i = d)) → wr (wr g2 171 d 5) 172 d 0 a i = h a i := fun a i hh => by
      rw [wq_ne (by omega), wq_ne (by omega), e2 a i (by omega)]
    have s1 := hS.1
    have E1 : XX11_image d h = some (g2 18 3, g2) := by
      unfold XX11_image
      rw [isTape_eq, cal_eq, if1 q, if_neg n10, inb_pos (by omega), nmP_eq, Int.toNat_natCast, jd, show ((101 + 7 * (d : Int))).toNat = 101 + 7 * d by omega, asr_pos (tp_asr hd), eg1, cal_eq, inb_pos (by omega), nmP_eq, e1 98 _ (by omega), jd, show ((101 + 7 * (d : Int))).toNat = 101 + 7 * d by omega, asr_pos (tp_asr hd), eg2, cal_eq]
    have E2 : XX12_image d g2 = some (f 144 0, f) := by
      unfold XX12_image
      rw [isTapeM_eq, cal_eq, if1 q, if_neg n10, inb_pos (by omega), hm_eq, inb_pos (by omega), hm_eq, Int.toNat_natCast, e3, cal_eq, inb_pos (by decide)]
      rfl
    have er : f 144 0 = g2 18 3 := by rw [s1 144 0 (by omega), em 144 0 (by omega), e2 18 3 (by omega)]; exact i2.1.2.2.2.symm
    rw [er] at E2
    refine Both_mk E1 E2 (Inv_slot hI (fun a i hh => by rw [s1 a i (by omega), em a i (by omega)]) ?_ ?_ (sto184 hS hz (fun i hi => by rw [em 184 i (by omega)]; exact i15.2.2 i hi)))
    · have jm : J10 (wr (wr g2 171 d 5) 172 d 0) := J10_tr (fun a i hh => em a i (by omega)) i11
      obtain ⟨j1, j2, j3, j4, j5, j6⟩ := id jm
      refine ⟨by rw [s1 72 2 (by omega), s1 143 _ (by omega)]; exact j1, by rw [s1 72 2 (by omega)]; exact j2, by rw [s1 72 2 (by omega)]; exact j3, fun u hu => by rw [s1 73 u (by omega)]; exact j4 u hu, fun u v h1 h2 => by rw [s1 73 u (by omega), s1 73 v (by omega)]; exact j5 u v h1 h2, fun u hu => ?_⟩
      rw [s1 72 2 (by omega)] at hu
      exact Undo_oth (by rw [em 67 0 (by omega)]; exact i10.2.2.1) (bef_in jm (by omega)) (by omega) hS (j6 u hu)
    · intro k hk
      refine ⟨by rw [s1 98 k (by omega), em 98 k (by omega)]; exact (i13 k hk).1, ?_⟩
      by_cases qk : k = d
      · subst qk
        have tk' : TkV (101 + 7 * k + 2) 18 h (wr (wr g2 171 k 5) 172 k 0) := TkV_congr (fun a i hh => by rw [wq_ne (by omega), wq_ne (by omega)]) (fun a i hh => (e1 a i (by omega)).symm) tk
        have f171 : f 171 k = 5 := by rw [s1 171 k (by omega), wq_ne (by omega), wr_at]
        have f172 : f 172 k = 0 := by rw [s1 172 k (by omega), wr_at]
        unfold Tap
        rw [f171, f172]
        refine ⟨?_, by decide, fun _ => ⟨?_, by decide, by decide, fun i hi => absurd hi (by omega)⟩, fun _ => ⟨?_, ?_⟩⟩
        · rw [s1 _ 0 (by omega), wq_ne (by omega), wq_ne (by omega), tk0 _ _ (by omega), hg1, if_neg (by omega), if_neg (by omega), if_pos (by omega)]
        · rw [s1 _ 1 (by omega), wq_ne (by omega), wq_ne (by omega), tk0 _ _ (by omega), hg1, if_neg (by omega), if_pos (by omega)]
        · exact Pl_tr (fun a i hh => s1 a i (by omega)) (Pl_take tk' i1.1.1).1
        · exact PRel_new hI (by omega) (by omega) tk' (fun a i hh => em a i (by omega)) hS
      · exact Tap_oth hk qk hS (Tap_tr (fun a i hh => em a i (by omega)) (i13 k hk).2)
  · refine Both_ro (r := -1) ?_ ?_ hI
    · unfold XX11_image; rw [isTape_eq, cal_eq, if0 q, if_pos rfl]
    · unfold XX12_image; rw [isTapeM_eq, cal_eq, if0 q, if_pos rfl]
