theorem Inv_tapeS {n : Nat} {h g : Hp} (hI : Inv n h) (e : ∀ a i, ¬ ((101 ≤ a ∧ a ≤ 142) ∨ (171 ≤ a ∧ a ≤ 173) ∨ a = 26 ∨ a = 36 ∨ (40 ≤ a ∧ a ≤ 52) ∨ (203 ≤ a ∧ a ≤ 205) ∨ (a = 53 ∧ 3 ≤ i) ∨ a = 55 ∨ a = 66 ∨ (70 ≤ a ∧ a ≤ 71) ∨ a = 77 ∨ (185 ≤ a ∧ a ≤ 191) ∨ (194 ≤ a ∧ a ≤ 202) ∨ (a = 143 ∧ (i = 0 ∨ (63 ≤ i ∧ i ≤ 64) ∨ (71 ≤ i ∧ i ≤ 74)))) → g a i = h a i) (j : J12 g) : Inv (n + 1) g := by
  obtain ⟨i1, i2, i3, i4, i5, i6, i7, i8, i9, i10, i11, i12, i13, i14, i15⟩ := hI
  exact ⟨J1_tr (fun a i hh => e a i (by omega)) i1, RelN_congr (fun a i hh => e a i (by omega)) i2, J2_tr (fun a i hh => e a i (by omega)) i3, J3_tr (fun a i hh => e a i (by omega)) i4, J4_tr (fun a i hh => e a i (by omega)) i5, J5_tr (fun a i hh => e a i (by omega)) i6, J6_tr (fun a i hh => e a i (by omega)) i7, J7_tr (fun a i hh => e a i (by omega)) i8, J8_tr (fun a i hh => e a i (by omega)) i9, J9_tr (fun a i hh => e a i (by omega)) i10, J10_tr (fun a i hh => e a i (by omega)) i11, J11_tr (fun a i hh => e a i (by omega)) i12, j, J13_tr (fun a i hh => e a i (by omega)) i14, J14_tr (fun a i hh => e a i (by omega)) i15⟩
theorem num_pow {n : Nat} {h : Hp} (hI : Inv n h) : h 37 0 = 2 ^ (sM h).toNat ∧ (h 37 0).toNat = 2 ^ (sM h).toNat ∧ ashl 1 (sM h) = h 37 0 := by
  have hnum := num_le hI
  obtain ⟨b0, b1, _⟩ := MN_lt (Inv_MS hI).1.1 (e := 0) (by omega)
  have e : h 37 0 = 2 ^ (sM h).toNat := by rw [(Rel_s hI.2.1).1]; exact hI.2.2.2.1.1.1
  have : ((2 ^ (sM h).toNat : Nat) : Int) = (2 : Int) ^ (sM h).toNat := by rw [Int.natCast_pow]; rfl
  refine ⟨e, by omega, ?_⟩
  rw [ashl1 (by omega) (by omega), e]
/-- what the model writes for a case -/
def LM (h : Hp) (m : Int) (c : Nat) (r : Int) : Prop := (¬ h 149 c = 0 ∧ r = 0) ∨ (h 149 c = 0 ∧ ∃ q : Nat, (q : Int) < 2 ^ m.toNat ∧ r = (q : Int) ∧ MdM h q c ∧ ∀ p, p < q → ¬ MdM h p c)
theorem witL_ok {h : Hp} (hM : MN h) {d : Nat} (hd : d < 6) {m : Int} (hm : 1 ≤ m ∧ m ≤ 3) (hl : ∀ c : Nat, (c : Int) < 2 ^ (sM h).toNat → h 149 c = 0 → ∃ q : Nat, (q : Int) < 2 ^ m.toNat ∧ MdM h q c) : En (XX12_witness_L73 d m 0 h) (fun r g => r = 2 ^ (sM h).toNat ∧ (∀ a i, ¬ (a = 173 ∧ (256 * d ≤ i ∧ i < 256 * d + 256)) → g a i = h a i) ∧ ∀ c : Nat, (c : Int) < 2 ^ (sM h).toNat → LM h m c (g 173 (256 * d + c))) := by
  obtain ⟨b0, b1, _⟩ := MN_lt hM (e := 0) (by omega)
  have hash : ashl 1 (sM h) = 2 ^ (sM h).toNat := ashl1 (by omega) (by omega)
  have hpl := pow_list b0 b1
  unfold XX12_witness_L73
  refine En_lup3 (fun _ _ l6 _ => (256 - l6).toNat) (fun l1 l5 l6 g => (d : Int) = l1 ∧ m = l5 ∧ 0 ≤ l6 ∧ l6 ≤ 2 ^ (sM h).toNat ∧ (∀ a i, ¬ (a = 173 ∧ (256 * d ≤ i ∧ i < 256 * d + 256)) → g a i = h a i) ∧ ∀ c : Nat, (c : Int) < l6 → LM h m c (g 173 (256 * d + c))) ?_ FU _ _ _ _ (by unfold FU; omega) ⟨rfl, rfl, by omega, by omega, fun _ _ _ => rfl, fun c hc => absurd hc (by omega)⟩
  rintro self l1 l5 l6 g ih ⟨rfl, rfl, c0, c1, c2, c3⟩
  have hMg : MN g := MN_congr (c2 143 1 (by omega)) (c2 143 2 (by omega)) (c2 143 3 (by omega)) (funext (fun i => c2 144 i (by omega))) hM
  have es : sM g = sM h := sM_congr (c2 143 1 (by omega)) (c2 143 2 (by omega))
  unfold XX12_witness_b73
  rw [cases_eq hMg, cal_eq, es, hash]
  by_cases q : (2 : Int) ^ (sM h).toNat ≤ l6
  · rw [if_pos q, cases_eq hMg, cal_eq, es, hash]
    exact En_some ⟨rfl, c2, fun c hc => c3 c (by omega)⟩
  rw [if_neg q, chk_pos (by omega), chk_pos (by omega), inb_pos (by omega)]
  obtain ⟨c, rfl⟩ := Int.eq_ofNat_of_zero_le c0
  rw [Int.toNat_natCast, c2 149 c (by omega)]
  have step : ∀ v : Int, LM h m c v → En (XX12_witness_p117 self d m c (256 * d + c) v g) (fun r g => r = 2 ^ (sM h).toNat ∧ (∀ a i, ¬ (a = 173 ∧ (256 * d ≤ i ∧ i < 256 * d + 256)) → g a i = h a i) ∧ ∀ c : Nat, (c : Int) < 2 ^ (sM h).toNat → LM h m c (g 173 (256 * d + c))) := by
    intro v hv
    unfold XX12_witness_p117
    rw [inb_pos (by omega), hm_eq, chk_pos (by omega), show (256 * (d : Int) + (c : Int)).toNat = 256 * d + c by omega]
    refine ih _ _ _ _ (by omega) ⟨rfl, rfl, by omega, by omega, fun a i hh => by rw [wq_ne (by omega)]; exact c2 a i hh, fun k hk => ?_⟩
    rw [wr_row]
    by_cases qk : k = c
    · rw [if_pos (by omega), qk]; exact hv
    · rw [if_neg (by omega)]; exact c3 k (by omega)
  by_cases qf : h 149 c = 0
  · rw [if_pos qf]
    obtain ⟨r, g2, e2, rfl, hr⟩ := leastMend_ok (h := g) hm (c := c) (by omega)
    have e190 : ∀ q, MdM g2 q c ↔ MdM h q c := fun q => by unfold MdM; rw [c2 190 _ (by omega)]
    rw [e2, cal_eq]
    refine step r (Or.inr ⟨qf, ?_⟩)
    rcases hr with ⟨rfl, hr⟩ | ⟨q', t1, t2, t3, t4⟩
    · obtain ⟨q', t1, t2⟩ := hl c (by omega) qf
      exact absurd ((e190 q').2 t2) (hr q' t1)
    · exact ⟨q', t1, t2, (e190 q').1 t3, fun p hp t => t4 p hp ((e190 p).2 t)⟩
  · rw [if_neg qf]
    exact step 0 (Or.inl ⟨qf, rfl⟩)
theorem LM_WL {h g : Hp} {m : Int} {c : Nat} {r r2 : Int} (hl : live h c = decide (g 149 c = 0)) (hm : ∀ q : Nat, (q : Int) < 2 ^ m.toNat → (MdM g q c ↔ Mds h q c)) (w : WL h (2 ^ m.toNat) c r) (l : LM g m c r2) : r = r2 := by
  rcases l with ⟨l1, rfl⟩ | ⟨l1, q, q1, rfl, q2, q3⟩
  · rcases w with ⟨p, w1, w2, w3, w4, w5⟩ | ⟨w1, w2⟩
    · rw [hl] at w3; exact absurd (of_decide_eq_true w3) l1
    · exact w1
  · rcases w with ⟨p, w1, rfl, w3, w4, w5⟩ | ⟨w1, w2⟩
    · rcases Nat.lt_trichotomy p q with t | t | t
      · exact absurd ((hm p w1).2 w4) (q3 p t)
      · rw [t]
      · exact absurd ((hm q q1).1 q2) (w5 q t)
    · rcases w2 with w2 | w2
      · rw [hl, decide_eq_true l1] at w2; cases w2
      · exact absurd ((hm q q1).1 q2) (w2 q q1)
theorem m_witness {n : Nat} {h : Hp} (hI : Inv n h) (x a b c : Int) : Both n h (XX11_witness x a b c) (XX12_witness x a b c) := by
  by_cases q : 0 ≤ x ∧ x < 6
  · obtain ⟨r1, h1, e1, ha⟩ := aim_ok (Inv_N0 hI) a b c
    have fa := fr_XX5_aim e1
    rcases ha with ⟨hz, rfl, rfl⟩ | ⟨hp, rfl, hA, h404, h41⟩
    · refine Both_ro (r := -1) ?_ ?_ hI
      · unfold XX11_witness; rw [isTape_eq, cal_eq, if1 q, if_neg n10, e1, cal_eq, if_pos rfl]
      · unfold XX12_witness; rw [arePoints_eq hI, cal_eq, isTapeM_eq, cal_eq, if1 q, if_neg n10, hz, if_pos rfl]
    · have hpb := ptN_b h a b c
      obtain ⟨d, rfl⟩ := Int.eq_ofNat_of_zero_le q.1
      have hd : d < 6 := by omega
      obtain ⟨r2, h2, e2, i1, i2, t2, hA2, g40, f2⟩ := aim_Two hI e1 hA
      obtain ⟨r3, h3, e3, l3⟩ := firstUnmended_ok t2 hA2 i2.2.2.2.1.1
      have k3 : Kp h2 h3 := fun a i hh => fr_XX5_firstUnmended e3 a i (by omega)
      have i3 : Inv n h3 := Inv_scr (fun a i hh => k3 a i (by omega)) i2
      have h24 : h2 40 4 = ptN h a b c := by rw [g40 40 4 (by omega), h404]
      obtain ⟨np, npn, nash⟩ := num_pow i2
      have hnum := num_le i2
      -- the model's answer from any heap that has the same nets
      have model : ∀ g : Hp, (∀ x i, ((18 ≤ x ∧ x ≤ 22) ∨ (28 ≤ x ∧ x ≤ 32) ∨ (143 ≤ x ∧ x ≤ 149)) → g x i = h2 x i) → Wk g ∧ ∃ r4 h4 r5 h5, XX12_arePoints a b c g = some (ptN h a b c, g) ∧ XX12_prepares g = some (r4, h4) ∧ XX12_mendings a b c (ptN h a b c) h4 = some (r5, h5) ∧ XX12_lacking (ptN h a b c) h5 = some (r3, h5) ∧ (∀ q : Nat, (q : Int) < 2 ^ (ptN h a b c).toNat → ∀ cs, cs < 256 → (MdM h5 q cs ↔ Mds h2 q cs)) ∧ ∀ a i, ¬ ((186 ≤ a ∧ a ≤ 190) ∨ (a = 143 ∧ 63 ≤ i ∧ i ≤ 64)) → h5 a i = g a i := by
        intro g hg
        have w : Wk g := Wk_tr (fun a i hh => hg a i (by omega)) (Inv_Wk i2)
        obtain ⟨r4, h4, r5, h5, e4, e5, m5, f5⟩ := mends_wk (h2 := h2) w (a := a) (b := b) (c := c) (m := ptN h a b c) (by omega) h24 (fun k hk => by rw [g40 41 k (by omega)]; exact h41 k hk) (fun x i hh => hg x i (by omega))
        have w5 : Wk h5 := Wk_tr (fun a i hh => f5 a i (by omega)) w
        obtain ⟨r6, h6, e6, rfl, l6⟩ := lacking_ok (Wk_MS w5).1.1 (n := ptN h a b c) (by omega)
        have sm : sM h6 = sM h2 := sM_congr (by rw [f5 143 1 (by omega), hg 143 1 (by omega)]) (by rw [f5 143 2 (by omega), hg 143 2 (by omega)])
        have er : r3 = r6 := by
          rw [npn, ← sm] at l3
          refine Lst_uniq l3 l6 (fun cs hcs => ?_)
          have hl := i2.2.2.2.1.2.2 cs (by rw [sm] at hcs; omega)
          rw [hl, decide_eq_true_eq, f5 149 cs (by omega), hg 149 cs (by omega)]
          refine and_congr_right (fun _ => ?_)
          rw [h24]
          refine forall_congr' (fun q => forall_congr' (fun hq => not_congr ?_))
          exact (m5 q hq cs (by rw [sm] at hcs; omega)).symm
        have hpt : ptN g a b c = ptN h a b c := ptN_congr (funext (fun i => by rw [hg 18 i (by omega), f2 18 i (by omega)])) a b c
        exact ⟨w, r4, h4, r5, h6, by rw [arePoints_wk (Wk_MS w) w.1, hpt], e4, e5, by rw [er]; exact e6, m5, f5⟩
      by_cases qr : r3 = 1000
      · subst qr
        have hlive : ∀ cs : Nat, cs < (h2 37 0).toNat → live h2 cs = true → ∃ q : Nat, (q : Int) < 2 ^ (ptN h a b c).toNat ∧ Mds h2 q cs := by
          intro cs hcs hl
          rcases l3 with ⟨_, l3⟩ | ⟨c', t1, t2, _⟩
          · refine Classical.byContradiction (fun hno => l3 cs hcs ⟨hl, fun q hq hm => hno ⟨q, by rw [h24] at hq; exact hq, hm⟩⟩)
          · omega
        -- the class
        obtain ⟨jd, _⟩ := i3.2.2.2.2.2.2.2.2.2.2.2.2.1 d hd
        have jd2 : (h3 98 d).toNat = 101 + 7 * d := by omega
        obtain ⟨g1, eg1, hg1⟩ := hold_eq (101 + 7 * d) 1 (h3 37 0) h3
        have o1 : ∀ a i, ¬ ((a = 101 + 7 * d) ∨ a = 101 + 7 * d + 1) → g1 a i = h3 a i := fun a i hh => by rw [hg1, if_neg (by omega), if_neg (by omega), if_neg (by omega)]
        have T1 : Two g1 := Two_congr (fun a i hh => by rw [o1 a i (by omega), k3 a i (by omega)]) t2
        have A1 : Aim g1 := by
          have := Aim_Kp k3 hA2
          unfold Aim
          rw [o1 40 4 (by omega), o1 40 5 (by omega), show g1 41 = h3 41 from funext (fun i => o1 41 i (by omega)), sc_congr (show g1 18 = h3 18 from funext (fun i => o1 18 i (by omega))), wn_congr (show g1 18 = h3 18 from funext (fun i => o1 18 i (by omega)))]
          exact this
        have C1 : Cas g1 := (J3_tr (fun a i hh => o1 a i (by omega)) i3.2.2.2.1).1
        obtain ⟨r7, hw, e7, kw, wl⟩ := writeLeast_ok T1 A1 C1 (p := 101 + 7 * d + 1) (by omega) (fun cs hcs => by rw [hg1, if_pos ⟨rfl, hcs⟩])
        have ew : ∀ a i, ¬ ((a = 101 + 7 * d) ∨ a = 101 + 7 * d + 1 ∨ (42 ≤ a ∧ a ≤ 43) ∨ a = 203 ∨ (a = 40 ∧ 8 ≤ i ∧ i ≤ 9)) → hw a i = h2 a i := fun a i hh => by rw [kw a i (by omega), o1 a i (by omega), k3 a i (by omega)]
        have E1 : XX11_witness d a b c h = some (h2 37 0, hw) := by
          have I6 : ∀ X : OR, inb (d : Int) 6 X = X := fun X => inb_pos (by omega)
          have A6 : ∀ X : OR, asr (101 + 7 * d = 101 ∨ 101 + 7 * d = 108 ∨ 101 + 7 * d = 115 ∨ 101 + 7 * d = 122 ∨ 101 + 7 * d = 129 ∨ 101 + 7 * d = 136) X = X := fun X => asr_pos (tp_asr (by omega))
          unfold XX11_witness
          rw [isTape_eq, cal_eq, if1 q, if_neg n10, e1, cal_eq, if_neg n10, e2, cal_eq, e3, cal_eq, if_pos rfl]
          simp only [I6, nmP_eq, Int.toNat_natCast, jd2, A6]
          rw [eg1, cal_eq]
          simp only [I6, nmP_eq, Int.toNat_natCast, o1 98 d (by omega), jd2, A6]
          rw [e7, cal_eq, ew 37 0 (by omega)]
        -- the model
        obtain ⟨w, r4, h4, r5, h5, e3', e4, e5, e6, m5, f5⟩ := model hw (fun x i hh => ew x i (by omega))
        have w5 : Wk h5 := Wk_tr (fun a i hh => f5 a i (by omega)) w
        have fx : ∀ a i, ¬ ((186 ≤ a ∧ a ≤ 190) ∨ (a = 143 ∧ 63 ≤ i ∧ i ≤ 64) ∨ (a = 101 + 7 * d) ∨ a = 101 + 7 * d + 1 ∨ (42 ≤ a ∧ a ≤ 43) ∨ a = 203 ∨ (a = 40 ∧ 8 ≤ i ∧ i ≤ 9)) → h5 a i = h2 a i := fun a i hh => by rw [f5 a i (by omega), ew a i (by omega)]
        have fy : ∀ a i, ¬ (a = 171 ∨ a = 172) → wr (wr h5 171 d 1) 172 d (h2 37 0) a i = h5 a i := fun a i hh => by rw [wq_ne (by omega), wq_ne (by omega)]
        have y171 : ∀ k, wr (wr h5 171 d 1) 172 d (h2 37 0) 171 k = if k = d then 1 else h5 171 k := fun k => by rw [wq_ne (by omega), wr_row]
        have y172 : ∀ k, wr (wr h5 171 d 1) 172 d (h2 37 0) 172 k = if k = d then h2 37 0 else h5 172 k := fun k => by rw [wr_row, wq_ne (by omega)]
        have E2a : XX12_witness d a b c hw = XX12_witness_L73 d (ptN h a b c) 0 (wr (wr h5 171 d 1) 172 d (h2 37 0)) := by
          unfold XX12_witness
          rw [e3', cal_eq, isTapeM_eq, cal_eq, if1 q, if_neg n10, if_neg (by omega), e4, cal_eq, e5, cal_eq, e6, cal_eq, if_pos rfl, inb_pos (by omega), hm_eq, Int.toNat_natCast, cases_eq (MN_congr (wq_ne (by omega)) (wq_ne (by omega)) (wq_ne (by omega)) (wr_ne (by omega)) (Wk_MS w5).1.1), cal_eq, inb_pos (by omega), hm_eq, sM_congr (h := h5) (wq_ne (by omega)) (wq_ne (by omega)), sM_congr (h := h2) (h1 := h5) (fx 143 1 (by omega)) (fx 143 2 (by omega)), nash]
        generalize wr (wr h5 171 d 1) 172 d (h2 37 0) = hy at *
        have sy : sM hy = sM h2 := sM_congr (by rw [fy 143 1 (by omega), fx 143 1 (by omega)]) (by rw [fy 143 2 (by omega), fx 143 2 (by omega)])
        have MMy : ∀ q cs, MdM hy q cs ↔ MdM h5 q cs := fun q cs => by unfold MdM; rw [fy 190 _ (by omega)]
        obtain ⟨rF, F, eF, erF, F1, F2⟩ := witL_ok (h := hy) (MN_congr (fy 143 1 (by omega)) (fy 143 2 (by omega)) (fy 143 3 (by omega)) (funext (fun i => fy 144 i (by omega))) (Wk_MS w5).1.1) hd (m := ptN h a b c) (by omega) (fun cs hcs hf => by
          rw [sy, ← np] at hcs
          rw [fy 149 cs (by omega), fx 149 cs (by omega)] at hf
          obtain ⟨q', t1, t2⟩ := hlive cs (by omega) (by rw [i2.2.2.2.1.2.2 cs hcs]; exact decide_eq_true hf)
          exact ⟨q', t1, (MMy q' cs).2 ((m5 q' t1 cs (by omega)).2 t2)⟩)
        rw [sy, ← np] at erF
        rw [sy, ← np] at F2
        subst erF
        refine Both_mk E1 (h2 := F) (by rw [E2a, eF]) (Inv_tapeS i2 (fun a i hh => by rw [F1 a i (by omega), fy a i (by omega), fx a i (by omega)]) ?_)
        refine J12_one (d := d) i2.2.2.2.2.2.2.2.2.2.2.2.2.1 (fun i => by rw [F1 98 i (by omega), fy 98 i (by omega), fx 98 i (by omega)]) (fun k hk hne => ⟨fun i => ⟨?_, ?_, fun hi => ?_⟩, fun a i ha => by rw [F1 a i (by omega), fy a i (by omega), fx a i (by omega)], PRel_same (fun a i ha => by rw [F1 a i (by omega), fy a i (by omega), fx a i (by omega)])⟩) (fun _ => ?_)
        · rw [F1 171 k (by omega), y171, if_neg hne, fx 171 k (by omega)]
        · rw [F1 172 k (by omega), y172, if_neg hne, fx 172 k (by omega)]
        · rw [F1 173 _ (by omega), fy 173 _ (by omega), fx 173 _ (by omega)]
        · have f171 : F 171 d = 1 := by rw [F1 171 d (by omega), y171, if_pos rfl]
          have f172 : F 172 d = h2 37 0 := by rw [F1 172 d (by omega), y172, if_pos rfl]
          unfold Tap
          rw [f171, f172]
          refine ⟨?_, by decide, fun _ => ⟨?_, by omega, by omega, fun i hi => ?_⟩, fun hh => by cases hh⟩
          · rw [F1 _ 0 (by omega), fy _ 0 (by omega), f5 _ 0 (by omega), kw _ 0 (by omega), hg1, if_neg (by omega), if_neg (by omega), if_pos (by omega)]
          · rw [F1 _ 1 (by omega), fy _ 1 (by omega), f5 _ 1 (by omega), kw _ 1 (by omega), hg1, if_neg (by omega), if_pos (by omega), k3 37 0 (by omega)]
          · rw [F1 (101 + 7 * d + 1) _ (by omega), fy _ _ (by omega), f5 _ _ (by omega)]
            have o37 : g1 37 0 = h2 37 0 := by rw [o1 37 0 (by omega), k3 37 0 (by omega)]
            have o404 : g1 40 4 = ptN h a b c := by rw [o1 40 4 (by omega), k3 40 4 (by omega), h24]
            have wl' := wl i (by rw [o37]; exact hi)
            rw [o404] at wl'
            refine LM_WL (h := g1) (g := hy) ?_ (fun q hq => ?_) wl' (F2 i hi)
            · have : live g1 i = live h2 i := by unfold live; rw [o1 39 _ (by omega), k3 39 _ (by omega)]
              rw [this, i2.2.2.2.1.2.2 i hi, fy 149 i (by omega), fx 149 i (by omega)]
            · rw [MMy, m5 q hq i (by omega)]
              have : Mds g1 q i ↔ Mds h2 q i := by
                unfold Mds mdQ
                rw [o404, h24, show g1 41 = h2 41 from funext (fun i => by rw [o1 41 i (by omega), k3 41 i (by omega)]), mdW_congr (h := h2) (fun a i hh => by rw [o1 a i (by omega), k3 a i (by omega)])]
              exact this.symm
      · obtain ⟨w, r4, h4, r5, h5, e3', e4, e5, e6, m5, f5⟩ := model h3 (fun x i hh => k3 x i (by omega))
        refine Both_mk (r := -4) (h1 := h3) (h2 := h5) ?_ ?_ (Inv_up (Inv_scr (fun a i hh => f5 a i (by omega)) i3))
        · unfold XX11_witness; rw [isTape_eq, cal_eq, if1 q, if_neg n10, e1, cal_eq, if_neg n10, e2, cal_eq, e3, cal_eq, if_neg qr]
        · unfold XX12_witness; rw [e3', cal_eq, isTapeM_eq, cal_eq, if1 q, if_neg n10, if_neg (by omega), e4, cal_eq, e5, cal_eq, e6, cal_eq, if_neg qr]
  · refine Both_ro (r := -1) ?_ ?_ hI
    · unfold XX11_witness; rw [isTape_eq, cal_eq, if0 q, if_pos rfl]
    · unfold XX12_witness; rw [arePoints_eq hI, cal_eq, isTapeM_eq, cal_eq, if0 q, if_pos rfl]
