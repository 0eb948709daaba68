theorem Aim_net {h1 h2 : Hp} (f : ∀ a i, ¬ ((23 ≤ a ∧ a ≤ 25) ∨ (33 ≤ a ∧ a ≤ 35) ∨ (a = 17 ∧ i = 6) ∨ (a = 27 ∧ i = 6)) → h2 a i = h1 a i) (hA : Aim h1) : Aim h2 := by
  unfold Aim
  rw [f 40 4 (by omega), f 40 5 (by omega), show h2 41 = h1 41 from funext (fun i => f 41 i (by omega)), sc_congr (show h2 18 = h1 18 from funext (fun i => f 18 i (by omega))), wn_congr (show h2 18 = h1 18 from funext (fun i => f 18 i (by omega)))]
  exact hA
/-- aim, then both nets fresh: what the class knows then -/
theorem aim_Two {n : Nat} {h : Hp} (hI : Inv n h) {a b c r1 : Int} {h1 : Hp} (e1 : XX5_aim a b c h = some (r1, h1)) (hA : Aim h1) : ∃ r2 h2, XX11_refreshBoth h1 = some (r2, h2) ∧ Inv n h1 ∧ Inv n h2 ∧ Two h2 ∧ Aim h2 ∧ (∀ k i, (k = 40 ∨ k = 41) → h2 k i = h1 k i) ∧ ∀ a i, ¬ ((23 ≤ a ∧ a ≤ 25) ∨ (33 ≤ a ∧ a ≤ 35) ∨ (a = 17 ∧ i = 6) ∨ (a = 27 ∧ i = 6) ∨ a = 41 ∨ (a = 40 ∧ 4 ≤ i ∧ i ≤ 5)) → h2 a i = h a i := by
  have fa := fr_XX5_aim e1
  have i1 : Inv n h1 := Inv_scr (fun a i hh => fa a i (by omega)) hI
  obtain ⟨r2, h2, e2, i2, t2, f2⟩ := refreshBoth_Inv i1
  exact ⟨r2, h2, e2, i1, i2, t2, Aim_net f2 hA, fun k i hk => f2 k i (by omega), fun x i hh => by rw [f2 x i (by omega), fa x i (by omega)]⟩
/-- the model's row of mendings says what the class's words say -/
theorem mends_same {n : Nat} {h2 h3 : Hp} (i3 : Inv n h3) {a b c m : Int} (hm : 1 ≤ m ∧ m ≤ 3) (h24 : h2 40 4 = m) (h41 : ∀ k, k < 3 → h2 41 k = p3 a b c k) (g : ∀ x i, ((18 ≤ x ∧ x ≤ 21) ∨ (28 ≤ x ∧ x ≤ 31)) → h3 x i = h2 x i) :
    ∃ r4 h4 r5 h5, XX12_prepares h3 = some (r4, h4) ∧ XX12_mendings a b c m h4 = some (r5, h5) ∧ Inv n h5 ∧ (∀ q : Nat, (q : Int) < 2 ^ m.toNat → ∀ cs, cs < 256 → (MdM h5 q cs ↔ Mds h2 q cs)) ∧ ∀ a i, ¬ ((186 ≤ a ∧ a ≤ 190) ∨ (a = 143 ∧ 63 ≤ i ∧ i ≤ 64)) → h5 a i = h3 a i := by
  obtain ⟨r4, h4, e4, i4, p4, f4⟩ := prepares_Inv i3
  obtain ⟨r5, h5, e5, i5, p5, m5, f5⟩ := mendings_Inv i4 p4 a b c (m := m) hm
  refine ⟨r4, h4, r5, h5, e4, e5, i5, fun q hq cs hcs => ?_, fun x i hh => by rw [f5 x i (by omega), f4 x i (by omega)]⟩
  rw [Mds_p3 (a := a) (b := b) (c := c) h41 (by omega), h24]
  unfold MdM
  rw [m5 q hq (cs / 64) (by omega), mdW_congr (h := h2) (fun x i hh => by rw [f4 x i (by omega)]; exact g x i hh)]
theorem m_mend {n : Nat} {h : Hp} (hI : Inv n h) (a b c x : Int) : Both n h (XX11_mend a b c x) (XX12_mend a b c x) := by
  obtain ⟨r1, h1, e1, ha⟩ := aim_ok (Inv_N0 hI) a b c
  have fa := fr_XX5_aim e1
  rcases ha with ⟨hz, rfl, rfl⟩ | ⟨hp, rfl, hA, h404, h41⟩
  · refine Both_ro (r := -1) ?_ ?_ hI
    · unfold XX11_mend; rw [e1, cal_eq, if_pos rfl]
    · unfold XX12_mend; rw [arePoints_eq hI, cal_eq, hz, if_pos rfl]
  · have hpb := ptN_b h a b c
    obtain ⟨r2, h2, e2, i1, i2, t2, hA2, g40, f2⟩ := aim_Two hI e1 hA
    have n1 : h1 37 0 = h 37 0 := fa 37 0 (by omega)
    have hpt1 : ptN h1 a b c = ptN h a b c := ptN_congr (funext (fun i => fa 18 i (by omega))) a b c
    by_cases qc : 0 ≤ x ∧ x < h 37 0
    · have hnum := num_le hI
      obtain ⟨cs, rfl⟩ := Int.eq_ofNat_of_zero_le qc.1
      obtain ⟨r3, h3, e3, l3⟩ := leastMending_ok t2 hA2 (c := cs) (by omega)
      have f3 := fr_XX5_leastMending e3
      have i3 : Inv n h3 := Inv_scr (fun a i hh => f3 a i (by omega)) i2
      have hpt : ptN h3 a b c = ptN h a b c := ptN_congr (funext (fun i => by rw [f3 18 i (by omega), f2 18 i (by omega)])) a b c
      have h24 : h2 40 4 = ptN h a b c := by rw [g40 40 4 (by omega), h404]
      obtain ⟨r4, h4, r5, h5, e4, e5, i5, m5, f5⟩ := mends_same (h2 := h2) i3 (a := a) (b := b) (c := c) (m := ptN h a b c) (by omega) h24 (fun k hk => by rw [g40 41 k (by omega)]; exact h41 k hk) (fun x i hh => f3 x i (by omega))
      obtain ⟨r6, h6, e6, rfl, l6⟩ := leastMend_ok (h := h5) (n := ptN h a b c) (by omega) (c := cs) (by omega)
      have er : (if r6 = -1 then -4 else r6) = r3 := by
        unfold Lma at l3
        rw [h24] at l3
        rcases l3 with ⟨rfl, l3⟩ | ⟨q, hq, rfl, hm, l3⟩
        · rcases l6 with ⟨rfl, _⟩ | ⟨q, hq, rfl, hm, _⟩
          · rfl
          · exact absurd ((m5 q hq cs (by omega)).1 hm) (l3 q hq)
        · rcases l6 with ⟨rfl, l6⟩ | ⟨p, hp, rfl, hm6, l6⟩
          · exact absurd ((m5 q hq cs (by omega)).2 hm) (l6 q hq)
          · rw [if_neg (by omega)]
            rcases Nat.lt_trichotomy p q with t | t | t
            · exact absurd ((m5 p hp cs (by omega)).1 hm6) (l3 p t)
            · rw [t]
            · exact absurd ((m5 q hq cs (by omega)).2 hm) (l6 q t)
      refine Both_mk (r := r3) (h1 := h3) (h2 := h6) ?_ ?_ (Inv_up i5)
      · unfold XX11_mend; rw [e1, cal_eq, if_neg n10, has_eq, cal_eq, n1, if1 qc, if_neg n10, e2, cal_eq, e3, cal_eq]
      · unfold XX12_mend
        rw [arePoints_eq i3, cal_eq, hpt, if_neg (by omega), isCase_eq i3, cal_eq, f3 37 0 (by omega), f2 37 0 (by omega), if1 qc, if_neg n10, e4, cal_eq, e5, cal_eq, e6, cal_eq, ← er]
        split <;> rfl
    · refine Both_mk (r := -1) (h1 := h1) (h2 := h1) ?_ ?_ (Inv_up i1)
      · unfold XX11_mend; rw [e1, cal_eq, if_neg n10, has_eq, cal_eq, n1, if0 qc, if_pos rfl]
      · unfold XX12_mend; rw [arePoints_eq i1, cal_eq, hpt1, if_neg (by omega), isCase_eq i1, cal_eq, n1, if0 qc, if_pos rfl]
/-- the flip of one bit of a row of words -/
theorem m_free {n : Nat} {h : Hp} (hI : Inv n h) (x : Int) : Both n h (XX11_free x) (XX12_free x) := by
  obtain ⟨i1, i2, i3, i4, i5, i6, i7, i8, i9, i10, i11, i12, i13, i14, i15⟩ := id hI
  have hnum := num_le hI
  by_cases q : 0 ≤ x ∧ x < h 37 0
  · obtain ⟨c, rfl⟩ := Int.eq_ofNat_of_zero_le q.1
    have ed : (c : Int).tdiv 64 = ((c / 64 : Nat) : Int) := rfl
    have em : (c : Int) - ((c / 64 : Nat) : Int) * 64 = ((c % 64 : Nat) : Int) := by omega
    obtain ⟨hC, hf, hlv⟩ := i4
    have hfc := hf c (by omega)
    have hlc := hlv c q.2
    -- the heap of the class
    have hb : ∀ k, tb (jxor (h 39 (c / 64)) (jshl 1 ((c % 64 : Nat) : Int))) k = (tb (h 39 (c / 64)) k ^^ decide (k = c % 64)) := fun k => by rw [tb_jxor, tb_pow (by omega) (by omega), Int.toNat_natCast]
    have w39 : ∀ j, wr (wr h 56 0 0) 39 (c / 64) (jxor (h 39 (c / 64)) (jshl 1 ((c % 64 : Nat) : Int))) 39 j = if j = c / 64 then jxor (h 39 (c / 64)) (jshl 1 ((c % 64 : Nat) : Int)) else h 39 j := fun j => by
      by_cases qj : j = c / 64
      · rw [if_pos qj, qj, wr_at]
      · rw [if_neg qj, wr_o qj, wr_ne (by omega)]
    have lv1 : ∀ d : Nat, live (wr (wr h 56 0 0) 39 (c / 64) (jxor (h 39 (c / 64)) (jshl 1 ((c % 64 : Nat) : Int)))) d = (live h d ^^ decide (d = c)) := by
      intro d
      unfold live
      rw [w39]
      by_cases qd : d / 64 = c / 64
      · rw [if_pos qd, hb, qd]
        congr 1
        exact decide_eq_decide.mpr ⟨fun t => by omega, fun t => by omega⟩
      · rw [if_neg qd]
        have : ¬ d = c := fun t => qd (by rw [t])
        simp [this]
    refine Both_mk (r := if h 149 c = 0 then 1 else 0) (h1 := wr (wr h 56 0 0) 39 (c / 64) (jxor (h 39 (c / 64)) (jshl 1 ((c % 64 : Nat) : Int)))) (h2 := wr (wr (wr (wr h 56 0 0) 39 (c / 64) (jxor (h 39 (c / 64)) (jshl 1 ((c % 64 : Nat) : Int)))) 149 c (if h 149 c = 0 then 1 else 0)) 143 23 0) ?_ ?_ ?_
    · unfold XX11_free XX7_drop XX0_flip
      rw [has_eq, cal_eq, if1 q, if_neg n10, zb_0, hm_eq, cal_eq, ed, chk_pos (by omega), nm_eq, inb_pos (by omega), em, chk_pos (by omega), inb_pos (by omega), hm_eq, Int.toNat_natCast, wr_ne (h := h) (a := 56) (b := 39) (by omega), isLive_eq _ (by omega), cal_eq, lv1, hlc]
      rcases hfc with t | t
      · rw [t]; simp [cal_eq]
      · rw [t]; simp [cal_eq]
    · have e1 : ∀ a i, ¬ (a = 39 ∨ a = 56) → wr (wr h 56 0 0) 39 (c / 64) (jxor (h 39 (c / 64)) (jshl 1 ((c % 64 : Nat) : Int))) a i = h a i := fun a i hh => by rw [wq_ne (by omega), wq_ne (by omega)]
      generalize hg : wr (wr h 56 0 0) 39 (c / 64) (jxor (h 39 (c / 64)) (jshl 1 ((c % 64 : Nat) : Int))) = g at *
      have hMS := Inv_MS hI
      obtain ⟨m1, m2, m3, m4⟩ := MN_of (fun a i hh => e1 a i (by omega)) hMS.1.1
      obtain ⟨b0, b1, _⟩ := MN_lt hMS.1.1 (e := 0) (by omega)
      have hash : ashl 1 (sM h) = 2 ^ (sM h).toNat := ashl1 (by omega) (by omega)
      have hn : h 37 0 = 2 ^ (sM h).toNat := by rw [(Rel_s hI.2.1).1]; exact hC.1
      unfold XX12_free XX12_isCase
      rw [cases_eq m1, cal_eq, m3, hash, ← hn, chk_pos (by omega), in_eq, cal_eq, zbi, cal_eq, if1 (by omega), if_neg n10, inb_pos (by omega), Int.toNat_natCast, e1 149 c (by omega)]
      have fin : ∀ v : Int, (v = 0 ∨ v = 1) → XX12_free_p29 c c v g = some (v, wr (wr g 149 c v) 143 23 0) := by
        intro v hv
        unfold XX12_free_p29
        rw [inb_pos (by omega), zb_pos hv, hm_eq, zb_0, hm_eq, inb_pos (by omega), Int.toNat_natCast, wr_ne (h := wr g 149 c v) (by omega), wr_at]
        rcases hv with rfl | rfl
        · rw [if_pos rfl]
        · rw [if_neg n10]
      rcases hfc with t | t
      · rw [t, if_pos rfl, if_pos rfl, fin 1 (Or.inr rfl)]
      · rw [t, if_neg n10, if_neg n10, fin 0 (Or.inl rfl)]
    · have e : ∀ a i, ¬ (a = 39 ∨ (a = 56 ∧ i = 0) ∨ a = 149 ∨ (a = 143 ∧ i = 23)) → wr (wr (wr (wr h 56 0 0) 39 (c / 64) (jxor (h 39 (c / 64)) (jshl 1 ((c % 64 : Nat) : Int)))) 149 c (if h 149 c = 0 then 1 else 0)) 143 23 0 a i = h a i := fun a i hh => by rw [wq_ne (by omega), wq_ne (by omega), wq_ne (by omega), wq_ne (by omega)]
      have e39 : ∀ j, wr (wr (wr (wr h 56 0 0) 39 (c / 64) (jxor (h 39 (c / 64)) (jshl 1 ((c % 64 : Nat) : Int)))) 149 c (if h 149 c = 0 then 1 else 0)) 143 23 0 39 j = wr (wr h 56 0 0) 39 (c / 64) (jxor (h 39 (c / 64)) (jshl 1 ((c % 64 : Nat) : Int))) 39 j := fun j => by rw [wq_ne (by omega), wq_ne (by omega)]
      have e149 : ∀ j, wr (wr (wr (wr h 56 0 0) 39 (c / 64) (jxor (h 39 (c / 64)) (jshl 1 ((c % 64 : Nat) : Int)))) 149 c (if h 149 c = 0 then 1 else 0)) 143 23 0 149 j = if j = c then (if h 149 c = 0 then 1 else 0) else h 149 j := fun j => by
        rw [wq_ne (by omega)]
        by_cases qj : j = c
        · rw [if_pos qj, qj, wr_at]
        · rw [if_neg qj, wr_o qj, wq_ne (by omega), wq_ne (by omega)]
      have z1 : wr (wr (wr (wr h 56 0 0) 39 (c / 64) (jxor (h 39 (c / 64)) (jshl 1 ((c % 64 : Nat) : Int)))) 149 c (if h 149 c = 0 then 1 else 0)) 143 23 0 56 0 = 0 := by rw [wq_ne (by omega), wq_ne (by omega), wq_ne (by omega), wr_at]
      have z2 : wr (wr (wr (wr h 56 0 0) 39 (c / 64) (jxor (h 39 (c / 64)) (jshl 1 ((c % 64 : Nat) : Int)))) 149 c (if h 149 c = 0 then 1 else 0)) 143 23 0 143 23 = 0 := wr_at
      have lv2 : ∀ d, live (wr (wr (wr (wr h 56 0 0) 39 (c / 64) (jxor (h 39 (c / 64)) (jshl 1 ((c % 64 : Nat) : Int)))) 149 c (if h 149 c = 0 then 1 else 0)) 143 23 0) d = (live h d ^^ decide (d = c)) := fun d => by
        rw [← lv1 d]; unfold live; rw [e39]
      have in39 : ∀ j, j < 4 → inJ (wr (wr (wr (wr h 56 0 0) 39 (c / 64) (jxor (h 39 (c / 64)) (jshl 1 ((c % 64 : Nat) : Int)))) 149 c (if h 149 c = 0 then 1 else 0)) 143 23 0 39 j) := fun j hj => by
        rw [e39, w39]; split
        · exact jxor_in _ _
        · exact hC.2.2.2.1 j hj
      generalize wr (wr (wr (wr h 56 0 0) 39 (c / 64) (jxor (h 39 (c / 64)) (jshl 1 ((c % 64 : Nat) : Int)))) 149 c (if h 149 c = 0 then 1 else 0)) 143 23 0 = g at *
      refine ⟨J1_tr (fun a i hh => e a i (by omega)) i1, RelN_congr (fun a i hh => e a i (by omega)) i2, J2_tr (fun a i hh => e a i (by omega)) i3, ⟨⟨?_, ?_, ?_, in39, fun part hp k hk ht => ?_⟩, fun d hd => ?_, fun d hd => ?_⟩, J4_tr (fun a i hh => e a i (by omega)) i5, J5_tr (fun a i hh => e a i (by omega)) i6, J6_tr (fun a i hh => e a i (by omega)) i7, J7_tr (fun a i hh => e a i (by omega)) i8, J8_no z1 z2, J9_tr (fun a i hh => e a i (by omega)) i10, J10_tr (fun a i hh => e a i (by omega)) i11, J11_tr (fun a i hh => e a i (by omega)) i12, J12_tr (fun a i hh => e a i (by omega)) i13, J13_tr (fun a i hh => e a i (by omega)) i14, J14_tr (fun a i hh => e a i (by omega)) i15⟩
      · rw [e 37 0 (by omega), sc_congr (show g 18 = h 18 from funext (fun i => e 18 i (by omega)))]; exact hC.1
      · rw [e 37 0 (by omega), e 37 1 (by omega)]; exact hC.2.1
      · rw [show g 38 = h 38 from funext (fun i => e 38 i (by omega)), e 37 0 (by omega)]; exact hC.2.2.1
      · rw [e 37 0 (by omega)]
        have hl := lv2 (64 * part + k)
        unfold live at hl
        rw [show (64 * part + k) / 64 = part by omega, show (64 * part + k) % 64 = k by omega, ht] at hl
        by_cases qd : 64 * part + k = c
        · omega
        · refine hC.2.2.2.2 part hp k hk ?_
          revert hl
          simp [qd]
      · rw [e149]; split
        · split
          · exact Or.inr rfl
          · exact Or.inl rfl
        · exact hf d hd
      · rw [e 37 0 (by omega)] at hd
        rw [lv2, hlv d hd, e149]
        by_cases qd : d = c
        · rw [qd]
          rcases hfc with t | t <;> rw [t] <;> simp
        · simp [qd]
  · refine Both_ro (r := -1) ?_ ?_ hI
    · unfold XX11_free; rw [has_eq, cal_eq, if0 q, if_pos rfl]
    · unfold XX12_free; rw [isCase_eq hI, cal_eq, if0 q, if_pos rfl]
