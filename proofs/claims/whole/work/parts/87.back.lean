theorem Win_z {m : Nat} {s o q : Nat → Int} (h : Win 0 m s o q) {i : Nat} (hi : i < m) : q i = s i := by
  have := Win_at h hi; rw [Nat.zero_add] at this; exact this
theorem cntB_mono {f g : Nat → Bool} {n : Nat} (h : ∀ i, i < n → f i = true → g i = true) : cntB f n ≤ cntB g n := by
  induction n with
  | zero => exact Nat.le_refl _
  | succ n ih =>
    have := ih (fun i hi => h i (by omega))
    have h2 := h n (by omega)
    show cntB f n + _ ≤ cntB g n + _
    split <;> split <;> first | omega | (rename_i a b; exact absurd (h2 a) b)
theorem forget_ok {x : Int} (hx : 0 ≤ x ∧ x ≤ 48) {h : Hp} (hc : h 53 1 = (cntB (fun w => decide (0 ≤ h 54 w)) 48 : Nat)) : En (XX4_forgetFrom x h) (fun r g => r = 0 ∧ (∀ a i, ¬ (a = 54 ∨ (a = 53 ∧ i = 1)) → g a i = h a i) ∧ (∀ w : Nat, w < 48 → g 54 w = if (w : Int) < x then h 54 w else -1) ∧ g 53 1 = (cntB (fun w => decide (0 ≤ g 54 w)) 48 : Nat)) := by
  unfold XX4_forgetFrom XX4_forgetFrom_L2
  refine En_lup1 (fun l _ => (48 - l).toNat) (fun l g => x ≤ l ∧ l ≤ 48 ∧ (∀ a i, ¬ (a = 54 ∨ (a = 53 ∧ i = 1)) → g a i = h a i) ∧ (∀ w : Nat, w < 48 → g 54 w = if x ≤ (w : Int) ∧ (w : Int) < l then -1 else h 54 w) ∧ g 53 1 = (cntB (fun w => decide (0 ≤ g 54 w)) 48 : Nat)) ?_ FU _ _ (by unfold FU; omega) ⟨by omega, by omega, fun _ _ _ => rfl, fun w hw => by rw [if_neg (by omega)], hc⟩
  rintro self l g ih ⟨c0, c1, c2, c3, c4⟩
  unfold XX4_forgetFrom_b2
  by_cases q : 48 ≤ l
  · rw [if_pos q]
    refine En_some ⟨rfl, c2, fun w hw => ?_, c4⟩
    rw [c3 w hw]
    by_cases qw : (w : Int) < x
    · rw [if_neg (by omega), if_pos qw]
    · rw [if_pos (by omega), if_neg qw]
  · have hle := cntB_le (fun w => decide (0 ≤ g 54 w)) 48
    rw [if_neg q, give_eq (by omega) (by omega), cal_eq, chk_pos (by omega)]
    have e54 : ∀ v w, wr (wr g 53 1 v) 54 l.toNat (-1) 54 w = if w = l.toNat then -1 else g 54 w := fun v w => by rw [wr_row, wq_ne (by omega)]
    refine ih _ _ (by omega) ⟨by omega, by omega, fun a i hh => by rw [wq_ne (by omega), wq_ne (by omega)]; exact c2 a i hh, fun w hw => ?_, ?_⟩
    · rw [e54]
      by_cases qw : w = l.toNat
      · rw [if_pos qw, if_pos (by omega)]
      · rw [if_neg qw, c3 w hw]
        by_cases q2 : x ≤ (w : Int) ∧ (w : Int) < l
        · rw [if_pos q2, if_pos (by omega)]
        · rw [if_neg q2, if_neg (by omega)]
    · rw [wq_ne (by omega), wr_at, c4]
      have u := cntB_upd (f := fun w => decide (0 ≤ g 54 w)) (g := fun w => decide (0 ≤ if w = l.toNat then -1 else g 54 w)) (n := 48) (j := l.toNat) (by omega) (fun i _ hne => by show decide (0 ≤ if i = l.toNat then (-1 : Int) else g 54 i) = _; rw [if_neg hne])
      have hc2 : cntB (fun w => decide (0 ≤ wr (wr g 53 1 (((cntB (fun w => decide (0 ≤ g 54 w)) 48 : Nat) : Int) + ((if (-1 : Int) < 0 then 0 else 1) - (if g 54 l.toNat < 0 then 0 else 1)))) 54 l.toNat (-1) 54 w)) 48 = cntB (fun w => decide (0 ≤ if w = l.toNat then -1 else g 54 w)) 48 := cntB_congr (fun i _ => by rw [e54])
      rw [hc2, u]
      rw [show (if decide (0 ≤ if l.toNat = l.toNat then (-1 : Int) else g 54 l.toNat) = true then (1 : Int) else 0) = 0 by rw [if_pos rfl]; rfl]
      by_cases qg : g 54 l.toNat < 0
      · rw [if_pos (by omega), if_pos qg, if_neg (by simp; omega)]; omega
      · rw [if_pos (by omega), if_neg qg, if_pos (by simp; omega)]; omega
theorem oldRep_ok {h : Hp} (hP : Nums 40 18 h) (hc : h 53 1 = (cntB (fun w => decide (0 ≤ h 54 w)) 48 : Nat)) : ∃ g, XX11_oldIsReplaced h = some (0, g) ∧ (∀ a i, ¬ (a = 54 ∨ (a = 53 ∧ i = 1) ∨ (a = 17 ∧ i = 6) ∨ (a = 56 ∧ i = 0)) → g a i = h a i) ∧ (g 17 6 = 0 ∧ g 56 0 = 0) ∧ (∀ w : Nat, w < 48 → g 54 w = if (w : Int) < wn 18 h then h 54 w else -1) ∧ g 53 1 = (cntB (fun w => decide (0 ≤ g 54 w)) 48 : Nat) := by
  have lt := Pl_lt (by decide) hP
  have e18 : wr h 17 6 0 18 = h 18 := wr_ne (by decide)
  have e54 : wr h 17 6 0 54 = h 54 := wr_ne (by decide)
  have hc' : wr h 17 6 0 53 1 = (cntB (fun w => decide (0 ≤ wr h 17 6 0 54 w)) 48 : Nat) := by rw [wq_ne (by omega), e54]; exact hc
  obtain ⟨r, g, eg, rfl, f1, f2, f3⟩ := forget_ok (x := wn 18 h) (by omega) hc'
  refine ⟨wr g 56 0 0, ?_, fun a i hh => ?_, ⟨?_, wr_at⟩, fun w hw => ?_, ?_⟩
  · unfold XX11_oldIsReplaced XX6_stale XX7_drop
    rw [zb_0, hm_eq, cal_eq, wires_eq (by decide) (Nums_congr e18 hP), cal_eq, wn_congr e18, eg, cal_eq, zb_0, hm_eq, cal_eq]
  · rw [wq_ne (by omega), f1 a i (by omega), wq_ne (by omega)]
  · rw [wq_ne (by omega), f1 17 6 (by omega), wr_at]
  · rw [wq_ne (by omega), f2 w hw, e54]
  · rw [wq_ne (by omega), f3, show wr g 56 0 0 54 = g 54 from wr_ne (by decide)]
theorem RelN_repl {h g f : Hp} {b sl : Nat} {nw : Int} (hR : RelN h) (hN : Nums 40 18 h) (pr : PRel b sl h) (sh : h b 0 = h 18 0 ∧ h b 1 = h 18 1 ∧ h b 2 = h 18 2) (hg : ∀ a i, (144 ≤ a ∨ (a = 143 ∧ i ≤ 3)) → g a i = h a i) (hw : ∀ a i, (28 ≤ a ∧ a ≤ 32) → g a i = h a i) (t : TkV 18 b h g) (br : BriP sl 48 144 4 2 nw g f) : RelN f := by
  obtain ⟨b1, b2, b3, b4, b5, b6, b7, b8, b9⟩ := br
  obtain ⟨t1, t2, t3, t4, t5⟩ := t
  obtain ⟨p1, p2, p3, p4, p5, p6⟩ := pr
  obtain ⟨r1, r2, r3, r4, r5, r6, r7⟩ := hR
  obtain ⟨_, n1, n2, _, _, n5, n6, _, _⟩ := hN
  have k0 : f 143 1 = h 143 1 := by rw [b1 143 1 (by omega), hg 143 1 (by omega)]
  have k1 : f 143 2 = h 143 2 := by rw [b1 143 2 (by omega), hg 143 2 (by omega)]
  have k2 : f 143 3 = h 143 3 := by rw [b1 143 3 (by omega), hg 143 3 (by omega)]
  have c0 : f 18 0 = h 18 0 := by rw [b1 18 0 (by omega), t1 0 (by omega)]; exact sh.1
  have c1 : f 18 1 = h 18 1 := by rw [b1 18 1 (by omega), t1 1 (by omega)]; exact sh.2.1
  have c2 : f 18 2 = h 18 2 := by rw [b1 18 2 (by omega), t1 2 (by omega)]; exact sh.2.2
  have fw : ∀ a i, (28 ≤ a ∧ a ≤ 32) → f a i = h a i := fun a i hh => by rw [b1 a i (by omega), hw a i hh]
  refine ⟨⟨by rw [k0, c0]; exact r1.1, by rw [k1, c1]; exact r1.2.1, by rw [k2, c2]; exact r1.2.2.1, ?_⟩, ⟨by rw [k0, fw 28 0 (by omega)]; exact r2.1, by rw [k1, fw 28 1 (by omega)]; exact r2.2.1, by rw [k2, fw 28 2 (by omega)]; exact r2.2.2.1, ?_⟩, fun w hw => ?_, fun w hw => ?_, fun j hj => ?_, fun j hj => ?_, fun k hk => ⟨?_, ?_⟩⟩
  · rw [b1 18 3 (by omega), t1 3 (by omega), b2, hg 177 _ (by omega)]; exact p1.2.2.2
  · rw [fw 28 3 (by omega), b1 144 1 (by omega), hg 144 1 (by omega)]; exact r2.2.2.2
  · rw [Win_z b3 hw, hg 178 _ (by omega), b1 19 w (by omega), t2 w hw]; exact p2 w hw
  · rw [Win_no b3 (by omega), hg 145 _ (by omega), fw 29 w (by omega)]; exact r4 w hw
  · rw [Win_z b7 hj, hg 179 _ (by omega), b1 20 j (by omega), t3 j hj]; exact p3 j hj
  · rw [Win_no b7 (by omega), hg 146 _ (by omega), fw 30 j (by omega)]; exact r6 j hj
  · rw [c1, c2] at hk
    rw [b1 21 k (by omega), t4 k (by omega)]
    unfold sn
    rw [k2]
    by_cases q : (k : Int) < h 143 3
    · rw [if_pos q, show 4 * (0 : Int).toNat + k = k by simp, Win_z b8 (by omega), hg 180 _ (by omega)]
      exact p4 k (by omega)
    · rw [if_neg q, show 2 * (0 : Int).toNat + k - (h 143 3).toNat = k - (h 143 3).toNat by simp, Win_z b9 (by omega), hg 181 _ (by omega), p5 _ (by omega)]
      exact congrArg _ (by omega)
  · rw [c1, c2] at hk
    rw [fw 31 k (by omega), ← (r7 k hk).2]
    unfold sn
    rw [k2]
    by_cases q : (k : Int) < h 143 3
    · rw [if_pos q, if_pos q, Win_no b8 (by rw [show (1 : Int).toNat = 1 from rfl]; omega), hg 147 _ (by omega)]
    · rw [if_neg q, if_neg q, Win_no b9 (by rw [show (1 : Int).toNat = 1 from rfl]; omega), hg 148 _ (by omega)]
theorem J2_repl {h g f : Hp} {b sl : Nat} {nw : Int} (pr : PRel b sl h) (hg : ∀ a i, 144 ≤ a → g a i = h a i) (t : TkV 18 b h g) (br : BriP sl 48 144 4 2 nw g f) : J2 f := by
  obtain ⟨b1, b2, b3, b4, b5, b6, b7, b8, b9⟩ := br
  obtain ⟨t1, t2, t3, t4, t5⟩ := t
  intro w hw
  rw [Win_z b4 hw, Win_z b5 hw, hg 182 _ (by omega), hg 183 _ (by omega), b1 22 w (by omega), t5 w hw]
  exact pr.2.2.2.2.2 w hw
theorem J4_repl {h g f : Hp} {sl : Nat} {nw : Int} (j : J4 h) (hn : nw = wn 18 f) (e157 : ∀ w, w < 48 → g 157 w = h 157 w) (e54 : ∀ w : Nat, w < 48 → g 54 w = if (w : Int) < wn 18 f then h 54 w else -1) (ec : g 53 1 = (cntB (fun w => decide (0 ≤ g 54 w)) 48 : Nat)) (br : BriP sl 48 144 4 2 nw g f) : J4 f := by
  obtain ⟨b1, b2, b3, b4, b5, b6, b7, b8, b9⟩ := br
  obtain ⟨j1, j2, j3, j4⟩ := j
  have f54 : f 54 = g 54 := funext (fun i => b1 54 i (by omega))
  refine ⟨fun w hw => ?_, ?_, ?_, fun w hw hw2 => ?_⟩
  · rw [Win_z b6 hw, f54, e54 w hw, hn, e157 w hw]
    have := j1 w hw
    split
    · exact this
    · exact ⟨rfl, by decide, by decide⟩
  · rw [b1 53 1 (by omega), f54]; exact ec
  · rw [b1 53 1 (by omega), ec]
    have := cntB_mono (f := fun w => decide (0 ≤ g 54 w)) (g := fun w => decide (0 ≤ h 54 w)) (n := 48) (fun i hi ht => by
      have ht := of_decide_eq_true ht
      rw [e54 i hi] at ht
      refine decide_eq_true ?_
      split at ht
      · exact ht
      · omega)
    omega
  · rw [f54, e54 w hw2, if_neg (by omega)]
theorem Inv_repl {n : Nat} {h f : Hp} (hI : Inv n h) (e : ∀ a i, ¬ ((18 ≤ a ∧ a ≤ 22) ∨ (a = 17 ∧ i = 6) ∨ (a = 53 ∧ i = 1) ∨ a = 54 ∨ (a = 56 ∧ i = 0) ∨ (a = 67 ∧ i = 1) ∨ (a = 72 ∧ i = 2) ∨ (a = 143 ∧ (i = 23 ∨ i = 36)) ∨ (144 ≤ a ∧ a ≤ 148) ∨ (150 ≤ a ∧ a ≤ 151) ∨ a = 155 ∨ a = 157) → f a i = h a i) (sh : ∀ i, i ≤ 2 → f 18 i = h 18 i) (hP : Pl 40 18 f) (z1 : f 17 6 = 0) (z2 : f 56 0 = 0) (z3 : f 143 23 = 0) (hR : RelN f) (j2 : J2 f) (j4 : J4 f) (j9 : J9 f) (j10 : J10 f) (j14 : ∀ k, k < 12 → f 155 k = 0 ∨ f 155 k = 1) : Inv (n + 1) f := by
  obtain ⟨i1, i2, i3, i4, i5, i6, i7, i8, i9, i10, i11, i12, i13, i14, i15⟩ := hI
  have es : ∀ a i, (a = 38 ∨ a = 39 ∨ a = 149 ∨ (a = 37 ∧ i ≤ 1) ∨ (a = 18 ∧ i ≤ 1)) → f a i = h a i := fun a i hh => by
    by_cases q : a = 18
    · rw [q]; exact sh i (by omega)
    · exact e a i (by omega)
  refine ⟨⟨stale_ok z1 hP, NetOK_tr (fun a i hh => e a i (by omega)) i1.2.1, by rw [e 17 1 (by omega)]; exact i1.2.2.1, by rw [e 27 1 (by omega)]; exact i1.2.2.2⟩, hR, j2, J3_tr es i4, j4, J5_tr (fun a i hh => e a i (by omega)) i6, J6_tr (fun a i hh => e a i (by omega)) i7, J7_tr (fun a i hh => e a i (by omega)) i8, J8_no z2 z3, j9, j10, J11_tr (fun a i hh => e a i (by omega)) i12, J12_tr (fun a i hh => e a i (by omega)) i13, J13_tr (fun a i hh => e a i (by omega)) i14, fun m hm => ?_, j14, fun i hi => by rw [e 184 i (by omega)]; exact i15.2.2 i hi⟩
  rw [e 192 m (by omega)]
  refine ⟨(i15.1 m hm).1, fun hh v hv => ?_⟩
  rw [e 193 _ (by omega)]; exact (i15.1 m hm).2 hh v hv
