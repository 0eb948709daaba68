theorem seen_chg0 {n : Nat} {h g : Hp} (hI : Inv n h) {pl : Nat} {w : Int} (hw : 0 ≤ w ∧ w < wn 18 h)
    (e : ∀ a i, ¬ (a = 21 ∨ (a = 17 ∧ i = 6) ∨ (a = 56 ∧ i = 0) ∨ (a = 72 ∧ i = 2) ∨ a = 147 ∨ a = 148 ∨ (a = 143 ∧ (i = 23 ∨ i = 36))) → g a i = h a i)
    (z1 : g 17 6 = 0) (z2 : g 56 0 = 0) (z3 : g 72 2 = 0) (z4 : g 143 23 = 0) (z5 : g 143 36 = 0)
    (e21 : ∀ k, g 21 k = if k = pl then w else h 21 k) (es : ∀ k : Nat, (k : Int) < h 18 2 + h 18 1 → sn 0 k g = (if k = pl then w else sn 0 k h) ∧ sn 1 k g = sn 1 k h) : Inv (n + 1) g := by
  have x18 : g 18 = h 18 := funext (fun i => e 18 i (by omega))
  refine Inv_chg0 hI (fun a i hh => e a i (by omega)) z1 z2 z3 z4 z5 ?_ ?_ (J2_tr (fun a i hh => e a i (by omega)) hI.2.2.1) (by rw [wn_congr x18]; exact Int.le_refl _)
  · have hP := hI.1.1.1
    unfold Pl at hP ⊢
    rw [sc_congr x18, wn_congr x18, x18, show g (18 + 1) = h (18 + 1) from funext (fun i => e _ i (by omega)), show g (18 + 2) = h (18 + 2) from funext (fun i => e _ i (by omega)), show g (18 + 4) = h (18 + 4) from funext (fun i => e _ i (by omega))]
    refine ⟨Nums_congr x18 hP.1, hP.2.1, hP.2.2.1, fun k hk => ?_, hP.2.2.2.2⟩
    show 0 ≤ g 21 k ∧ g 21 k < _
    rw [e21]
    split
    · exact hw
    · exact hP.2.2.2.1 k hk
  · obtain ⟨a1, a2, a3, a4, a5, a6, a7⟩ := hI.2.1
    unfold RelN
    rw [x18, show g 28 = h 28 from funext (fun i => e 28 i (by omega)), show g 19 = h 19 from funext (fun i => e 19 i (by omega)), show g 20 = h 20 from funext (fun i => e 20 i (by omega)), show g 29 = h 29 from funext (fun i => e 29 i (by omega)), show g 30 = h 30 from funext (fun i => e 30 i (by omega)), show g 31 = h 31 from funext (fun i => e 31 i (by omega)), show g 144 = h 144 from funext (fun i => e 144 i (by omega)), show g 145 = h 145 from funext (fun i => e 145 i (by omega)), show g 146 = h 146 from funext (fun i => e 146 i (by omega)), e 143 1 (by omega), e 143 2 (by omega), e 143 3 (by omega)]
    refine ⟨a1, a2, a3, a4, a5, a6, fun k hk => ?_⟩
    rw [(es k hk).1, (es k hk).2, e21 k]
    refine ⟨?_, (a7 k hk).2⟩
    split
    · rfl
    · exact (a7 k hk).1
theorem seen_chg1 {n : Nat} {h g : Hp} (hI : Inv n h) {pl : Nat} {w : Int} (hw : 0 ≤ w ∧ w < wn 28 h)
    (e : ∀ a i, ¬ (a = 31 ∨ (a = 27 ∧ i = 6) ∨ (a = 56 ∧ i = 0) ∨ a = 147 ∨ a = 148 ∨ (a = 143 ∧ i = 23)) → g a i = h a i)
    (z1 : g 27 6 = 0) (z2 : g 56 0 = 0) (z4 : g 143 23 = 0)
    (e31 : ∀ k, g 31 k = if k = pl then w else h 31 k) (es : ∀ k : Nat, (k : Int) < h 18 2 + h 18 1 → sn 1 k g = (if k = pl then w else sn 1 k h) ∧ sn 0 k g = sn 0 k h) : Inv (n + 1) g := by
  have x28 : g 28 = h 28 := funext (fun i => e 28 i (by omega))
  refine Inv_chg1 hI (fun a i hh => e a i (by omega)) z1 z2 z4 ?_ ?_
  · have hP := hI.1.2.1.1
    unfold Pl at hP ⊢
    rw [sc_congr x28, wn_congr x28, x28, show g (28 + 1) = h (28 + 1) from funext (fun i => e _ i (by omega)), show g (28 + 2) = h (28 + 2) from funext (fun i => e _ i (by omega)), show g (28 + 4) = h (28 + 4) from funext (fun i => e _ i (by omega))]
    refine ⟨Nums_congr x28 hP.1, hP.2.1, hP.2.2.1, fun k hk => ?_, hP.2.2.2.2⟩
    show 0 ≤ g 31 k ∧ g 31 k < _
    rw [e31]
    split
    · exact hw
    · exact hP.2.2.2.1 k hk
  · obtain ⟨a1, a2, a3, a4, a5, a6, a7⟩ := hI.2.1
    unfold RelN
    rw [x28, show g 18 = h 18 from funext (fun i => e 18 i (by omega)), show g 19 = h 19 from funext (fun i => e 19 i (by omega)), show g 20 = h 20 from funext (fun i => e 20 i (by omega)), show g 29 = h 29 from funext (fun i => e 29 i (by omega)), show g 30 = h 30 from funext (fun i => e 30 i (by omega)), show g 21 = h 21 from funext (fun i => e 21 i (by omega)), show g 144 = h 144 from funext (fun i => e 144 i (by omega)), show g 145 = h 145 from funext (fun i => e 145 i (by omega)), show g 146 = h 146 from funext (fun i => e 146 i (by omega)), e 143 1 (by omega), e 143 2 (by omega), e 143 3 (by omega)]
    refine ⟨a1, a2, a3, a4, a5, a6, fun k hk => ?_⟩
    rw [(es k hk).1, (es k hk).2, e31 k]
    refine ⟨(a7 k hk).1, ?_⟩
    split
    · rfl
    · exact (a7 k hk).2
theorem see17 {h : Hp} {pl : Int} (hp : 0 ≤ pl ∧ pl < 6) (w : Int) : XX11_see 17 pl w h = some (h 21 pl.toNat, wr (wr (wr (wr h 21 pl.toNat w) 17 6 0) 56 0 0) 72 2 0) := by
  unfold XX11_see; rw [inb_pos (by omega), nm_eq, inb_pos (by omega), hm_eq, changed17, cal_eq]
theorem see27 {h : Hp} {pl : Int} (hp : 0 ≤ pl ∧ pl < 6) (w : Int) : XX11_see 27 pl w h = some (h 31 pl.toNat, wr (wr (wr h 31 pl.toNat w) 27 6 0) 56 0 0) := by
  unfold XX11_see; rw [inb_pos (by omega), nm_eq, inb_pos (by omega), hm_eq, changed27, cal_eq]
theorem netOf0 (h : Hp) : XX11_netOf 0 h = some (((17 : Nat) : Int), h) := rfl
theorem netOf1 (h : Hp) : XX11_netOf 1 h = some (((27 : Nat) : Int), h) := rfl
theorem netOfx {x : Int} (h0 : ¬ x = 0) (h1 : ¬ x = 1) (h : Hp) : XX11_netOf x h = some (((0 : Nat) : Int), h) := by unfold XX11_netOf; rw [if_neg h0, if_neg h1]
theorem MN_of {h h1 : Hp} (e : ∀ a i, ((144 ≤ a ∧ a ≤ 148) ∨ (a = 143 ∧ 1 ≤ i ∧ i ≤ 3)) → h1 a i = h a i) (hM : MN h) : MN h1 ∧ (∀ d, nM d h1 = nM d h) ∧ sM h1 = sM h ∧ (∀ d k, sn d k h1 = sn d k h) :=
  ⟨MN_congr (e _ _ (by omega)) (e _ _ (by omega)) (e _ _ (by omega)) (funext (fun i => e _ _ (by omega))) hM, fun d => nM_congr (e _ _ (by omega)) (e _ _ (by omega)) (funext (fun i => e _ _ (by omega))) d, sM_congr (e _ _ (by omega)) (e _ _ (by omega)), fun d k => sn_congr (e _ _ (by omega)) (funext (fun i => e _ _ (by omega))) (funext (fun i => e _ _ (by omega))) d k⟩
theorem m_out {n : Nat} {h : Hp} (hI : Inv n h) (x y z : Int) : Both n h (XX11_out x y z) (XX12_out x y z) := by
  have hMS := Inv_MS hI
  obtain ⟨r1, r2, r3, r4⟩ := Rel_s hI.2.1
  have l0 := Pl_lt (by decide) (Inv_N0 hI)
  have l1 := Pl_lt (by decide) (Inv_N1 hI)
  have hN := Inv_N0 hI
  have hN1 := Inv_N1 hI
  have a1 := hI.2.1.1
  have a2 := hI.2.1.2.1
  have ob : 1 ≤ h 18 2 ∧ h 18 2 ≤ 4 ∧ 0 ≤ h 18 1 ∧ h 18 1 ≤ 2 := by obtain ⟨_, n1, n2, _, _, n5, n6, _, _⟩ := hN; omega
  by_cases q0 : x = 0
  · subst q0
    by_cases q1 : 0 ≤ y ∧ y < h 18 2
    · by_cases q2 : 0 ≤ z ∧ z < wn 18 h
      · have hs := hI.2.1.2.2.2.2.2.2 y.toNat (by omega)
        have hsn : sn 0 y.toNat h = h 147 y.toNat := by unfold sn; rw [if_pos (by omega)]; simp
        refine Both_mk (r := h 21 y.toNat) (h1 := wr (wr (wr (wr h 21 y.toNat z) 17 6 0) 56 0 0) 72 2 0) (h2 := wr (wr (wr (wr (wr (wr (wr h 21 y.toNat z) 17 6 0) 56 0 0) 72 2 0) 147 y.toNat z) 143 23 0) 143 36 0) ?_ ?_ ?_
        · unfold XX11_out; rw [netOf0, cal_eq, if_neg (by decide), asr_pos (by decide), if_neg (by omega)]
          show (if h 18 2 ≤ y then _ else cal (XX8_isWire 18 z h) _) = _
          rw [if_neg (by omega), isWire_eq (by decide) hN, cal_eq, if1 q2, if_neg n10]
          show cal (XX11_see 17 y z h) _ = _
          rw [see17 (by omega), cal_eq]
        · have e1 : ∀ a i, ¬ (a = 21 ∨ a = 17 ∨ a = 56 ∨ a = 72) → wr (wr (wr (wr h 21 y.toNat z) 17 6 0) 56 0 0) 72 2 0 a i = h a i := fun a i hh => by rw [wq_ne (by omega), wq_ne (by omega), wq_ne (by omega), wq_ne (by omega)]
          obtain ⟨m1, m2, m3, m4⟩ := MN_of (fun a i hh => e1 a i (by omega)) hMS.1.1
          unfold XX12_out
          rw [isNet_eq, cal_eq, if1 (by decide), if_neg n10, e1 143 3 (by omega), ← a1.2.2.1, chk_pos (by omega), in_eq, cal_eq, if1 (by omega), if_neg n10, isWireM_eq m1 (by omega), cal_eq, m2, r3, if1 q2, if_neg n10, chk_pos (by omega), chk_pos (by omega), inb_pos (by omega), nm_eq, chk_pos (by omega), chk_pos (by omega), inb_pos (by omega), hm_eq, changedM0, cal_eq, show (4 * 0 + y).toNat = y.toNat by omega, e1 147 _ (by omega), ← hsn, hs.1]
        · have e : ∀ a i, ¬ (a = 21 ∨ (a = 17 ∧ i = 6) ∨ (a = 56 ∧ i = 0) ∨ (a = 72 ∧ i = 2) ∨ a = 147 ∨ a = 148 ∨ (a = 143 ∧ (i = 23 ∨ i = 36))) → wr (wr (wr (wr (wr (wr (wr h 21 y.toNat z) 17 6 0) 56 0 0) 72 2 0) 147 y.toNat z) 143 23 0) 143 36 0 a i = h a i := fun a i hh => by rw [wq_ne (by omega), wq_ne (by omega), wq_ne (by omega), wq_ne (by omega), wq_ne (by omega), wq_ne (by omega), wq_ne (by omega)]
          refine seen_chg0 hI (pl := y.toNat) (w := z) q2 e ?_ ?_ ?_ ?_ ?_ (fun k => ?_) (fun k hk => ?_)
          · rw [wq_ne (by omega), wq_ne (by omega), wq_ne (by omega), wq_ne (by omega), wq_ne (by omega), wr_at]
          · rw [wq_ne (by omega), wq_ne (by omega), wq_ne (by omega), wq_ne (by omega), wr_at]
          · rw [wq_ne (by omega), wq_ne (by omega), wq_ne (by omega), wr_at]
          · rw [wq_ne (by omega), wr_at]
          · exact wr_at
          · rw [wq_ne (by omega), wq_ne (by omega), wq_ne (by omega), wq_ne (by omega), wq_ne (by omega), wq_ne (by omega)]
            by_cases qw : k = y.toNat
            · rw [if_pos qw, qw, wr_at]
            · rw [if_neg qw, wr_o qw]
          · have e147 : ∀ j, wr (wr (wr (wr (wr (wr (wr h 21 y.toNat z) 17 6 0) 56 0 0) 72 2 0) 147 y.toNat z) 143 23 0) 143 36 0 147 j = if j = y.toNat then z else h 147 j := fun j => by
              rw [wq_ne (by omega), wq_ne (by omega)]
              by_cases qw : j = y.toNat
              · rw [if_pos qw, qw, wr_at]
              · rw [if_neg qw, wr_o qw, wq_ne (by omega), wq_ne (by omega), wq_ne (by omega), wq_ne (by omega)]
            have e148 : ∀ j, wr (wr (wr (wr (wr (wr (wr h 21 y.toNat z) 17 6 0) 56 0 0) 72 2 0) 147 y.toNat z) 143 23 0) 143 36 0 148 j = h 148 j := fun j => by
              rw [wq_ne (by omega), wq_ne (by omega), wq_ne (by omega), wq_ne (by omega), wq_ne (by omega), wq_ne (by omega), wq_ne (by omega)]
            unfold sn
            rw [e 143 3 (by omega)]
            simp only [e147, e148]
            constructor
            · by_cases qk : (k : Int) < h 143 3
              · rw [if_pos qk, if_pos qk]; simp
              · rw [if_neg qk, if_neg qk, if_neg (by omega)]
            · by_cases qk : (k : Int) < h 143 3
              · rw [if_pos qk, if_pos qk, if_neg (by simp; omega)]
              · rw [if_neg qk, if_neg qk]
      · refine Both_ro (r := -1) ?_ ?_ hI
        · unfold XX11_out; rw [netOf0, cal_eq, if_neg (by decide), asr_pos (by decide), if_neg (by omega)]
          show (if h 18 2 ≤ y then _ else cal (XX8_isWire 18 z h) _) = _
          rw [if_neg (by omega), isWire_eq (by decide) hN, cal_eq, if0 q2, if_pos rfl]
        · unfold XX12_out; rw [isNet_eq, cal_eq, if1 (by decide), if_neg n10, ← a1.2.2.1, chk_pos (by omega), in_eq, cal_eq, if1 (by omega), if_neg n10, isWireM_eq hMS.1.1 (by omega), cal_eq, r3, if0 q2, if_pos rfl]
    · refine Both_ro (r := -1) ?_ ?_ hI
      · unfold XX11_out; rw [netOf0, cal_eq, if_neg (by decide), asr_pos (by decide)]
        show (if y < 0 then _ else if h 18 2 ≤ y then _ else _) = _
        by_cases qy : y < 0
        · rw [if_pos qy]
        · rw [if_neg qy, if_pos (by omega)]
      · unfold XX12_out; rw [isNet_eq, cal_eq, if1 (by decide), if_neg n10, ← a1.2.2.1, chk_pos (by omega), in_eq, cal_eq, if0 (by omega), if_pos rfl]
  by_cases q01 : x = 1
  · subst q01
    by_cases q1 : 0 ≤ y ∧ y < h 18 2
    · by_cases q2 : 0 ≤ z ∧ z < wn 28 h
      · have hs := hI.2.1.2.2.2.2.2.2 y.toNat (by omega)
        have hsn : sn 1 y.toNat h = h 147 (4 + y.toNat) := by unfold sn; rw [if_pos (by omega)]; rfl
        refine Both_mk (r := h 31 y.toNat) (h1 := wr (wr (wr h 31 y.toNat z) 27 6 0) 56 0 0) (h2 := wr (wr (wr (wr (wr (wr h 31 y.toNat z) 27 6 0) 56 0 0) 147 (4 + y.toNat) z) 143 23 0) 143 36 (h 143 36)) ?_ ?_ ?_
        · unfold XX11_out; rw [netOf1, cal_eq, if_neg (by decide), asr_pos (by decide), if_neg (by omega)]
          show (if h 28 2 ≤ y then _ else cal (XX8_isWire 28 z h) _) = _
          rw [if_neg (by omega), isWire_eq (by decide) hN1, cal_eq, if1 q2, if_neg n10]
          show cal (XX11_see 27 y z h) _ = _
          rw [see27 (by omega), cal_eq]
        · have e1 : ∀ a i, ¬ (a = 31 ∨ a = 27 ∨ a = 56) → wr (wr (wr h 31 y.toNat z) 27 6 0) 56 0 0 a i = h a i := fun a i hh => by rw [wq_ne (by omega), wq_ne (by omega), wq_ne (by omega)]
          obtain ⟨m1, m2, m3, m4⟩ := MN_of (fun a i hh => e1 a i (by omega)) hMS.1.1
          unfold XX12_out
          rw [isNet_eq, cal_eq, if1 (by decide), if_neg n10, e1 143 3 (by omega), ← a1.2.2.1, chk_pos (by omega), in_eq, cal_eq, if1 (by omega), if_neg n10, isWireM_eq m1 (by omega), cal_eq, m2, r4, if1 q2, if_neg n10, chk_pos (by omega), chk_pos (by omega), inb_pos (by omega), nm_eq, chk_pos (by omega), chk_pos (by omega), inb_pos (by omega), hm_eq, changedM1, cal_eq, show (4 * 1 + y).toNat = 4 + y.toNat by omega, e1 147 _ (by omega), ← hsn, hs.2, wr_ne (by omega), e1 143 36 (by omega)]
        · have e : ∀ a i, ¬ (a = 31 ∨ (a = 27 ∧ i = 6) ∨ (a = 56 ∧ i = 0) ∨ a = 147 ∨ a = 148 ∨ (a = 143 ∧ i = 23)) → wr (wr (wr (wr (wr (wr h 31 y.toNat z) 27 6 0) 56 0 0) 147 (4 + y.toNat) z) 143 23 0) 143 36 (h 143 36) a i = h a i := fun a i hh => by
            by_cases qa : a = 143 ∧ i = 36
            · rw [qa.1, qa.2, wr_at]
            · rw [wq_ne qa, wq_ne (by omega), wq_ne (by omega), wq_ne (by omega), wq_ne (by omega), wq_ne (by omega)]
          refine seen_chg1 hI (pl := y.toNat) (w := z) q2 e ?_ ?_ ?_ (fun k => ?_) (fun k hk => ?_)
          · rw [wq_ne (by omega), wq_ne (by omega), wq_ne (by omega), wq_ne (by omega), wr_at]
          · rw [wq_ne (by omega), wq_ne (by omega), wq_ne (by omega), wr_at]
          · rw [wq_ne (by omega), wr_at]
          · rw [wq_ne (by omega), wq_ne (by omega), wq_ne (by omega), wq_ne (by omega), wq_ne (by omega)]
            by_cases qw : k = y.toNat
            · rw [if_pos qw, qw, wr_at]
            · rw [if_neg qw, wr_o qw]
          · have e147 : ∀ j, wr (wr (wr (wr (wr (wr h 31 y.toNat z) 27 6 0) 56 0 0) 147 (4 + y.toNat) z) 143 23 0) 143 36 (h 143 36) 147 j = if j = 4 + y.toNat then z else h 147 j := fun j => by
              rw [wq_ne (by omega), wq_ne (by omega)]
              by_cases qw : j = 4 + y.toNat
              · rw [if_pos qw, qw, wr_at]
              · rw [if_neg qw, wr_o qw, wq_ne (by omega), wq_ne (by omega), wq_ne (by omega)]
            have e148 : ∀ j, wr (wr (wr (wr (wr (wr h 31 y.toNat z) 27 6 0) 56 0 0) 147 (4 + y.toNat) z) 143 23 0) 143 36 (h 143 36) 148 j = h 148 j := fun j => by
              rw [wq_ne (by omega), wq_ne (by omega), wq_ne (by omega), wq_ne (by omega), wq_ne (by omega), wq_ne (by omega)]
            unfold sn
            rw [e 143 3 (by omega)]
            simp only [e147, e148]
            constructor
            · by_cases qk : (k : Int) < h 143 3
              · rw [if_pos qk, if_pos qk]
                by_cases qy : k = y.toNat
                · rw [if_pos qy, if_pos (by simp; omega)]
                · rw [if_neg qy, if_neg (by simp; omega)]
              · rw [if_neg qk, if_neg qk, if_neg (by omega)]
            · by_cases qk : (k : Int) < h 143 3
              · rw [if_pos qk, if_pos qk, if_neg (by simp; omega)]
              · rw [if_neg qk, if_neg qk]
      · refine Both_ro (r := -1) ?_ ?_ hI
        · unfold XX11_out; rw [netOf1, cal_eq, if_neg (by decide), asr_pos (by decide), if_neg (by omega)]
          show (if h 28 2 ≤ y then _ else cal (XX8_isWire 28 z h) _) = _
          rw [if_neg (by omega), isWire_eq (by decide) hN1, cal_eq, if0 q2, if_pos rfl]
        · unfold XX12_out; rw [isNet_eq, cal_eq, if1 (by decide), if_neg n10, ← a1.2.2.1, chk_pos (by omega), in_eq, cal_eq, if1 (by omega), if_neg n10, isWireM_eq hMS.1.1 (by omega), cal_eq, r4, if0 q2, if_pos rfl]
    · refine Both_ro (r := -1) ?_ ?_ hI
      · unfold XX11_out; rw [netOf1, cal_eq, if_neg (by decide), asr_pos (by decide)]
        show (if y < 0 then _ else if h 28 2 ≤ y then _ else _) = _
        by_cases qy : y < 0
        · rw [if_pos qy]
        · rw [if_neg qy, if_pos (by omega)]
      · unfold XX12_out; rw [isNet_eq, cal_eq, if1 (by decide), if_neg n10, ← a1.2.2.1, chk_pos (by omega), in_eq, cal_eq, if0 (by omega), if_pos rfl]
  · refine Both_ro (r := -1) ?_ ?_ hI
    · unfold XX11_out; rw [netOfx q0 q01, cal_eq]; rfl
    · unfold XX12_out; rw [isNet_eq, cal_eq, if0 (by omega), if_pos rfl]
