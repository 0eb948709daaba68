def sn (e : Int) (k : Nat) (h : Hp) : Int := if (k : Int) < h 143 3 then h 147 (4 * e.toNat + k) else h 148 (2 * e.toNat + k - (h 143 3).toNat)
theorem seen_eq {h : Hp} (hM : MN h) {e : Int} (he : 0 ≤ e ∧ e < 2) {k : Nat} (hk : (k : Int) < h 143 3 + h 143 2) : XX12_seen e k h = some (sn e k h, h) := by
  obtain ⟨h0, h1, h2, h3, h4, h5, h6, h7, h8, h9, h10⟩ := hM
  unfold XX12_seen sn
  by_cases q : h 143 3 ≤ (k : Int)
  · rw [if_pos q, if_neg (by omega), chk_pos (by omega), chk_pos (by omega), chk_pos (by omega), inb_pos (by omega), show (2 * e + (k : Int) - h 143 3).toNat = 2 * e.toNat + k - (h 143 3).toNat by omega]
  · rw [if_neg q, if_pos (by omega), chk_pos (by omega), chk_pos (by omega), inb_pos (by omega), show (4 * e + (k : Int)).toNat = 4 * e.toNat + k by omega]
theorem observed_eq {h : Hp} (hM : MN h) : XX12_observed h = some (h 143 3 + h 143 2, h) := by
  obtain ⟨h0, h1, h2, h3, h4, h5, h6, h7, h8, h9, h10⟩ := hM
  unfold XX12_observed; rw [chk_pos (by omega)]
theorem sn_congr {h h1 : Hp} (e1 : h1 143 3 = h 143 3) (e2 : h1 147 = h 147) (e3 : h1 148 = h 148) (e : Int) (k : Nat) : sn e k h1 = sn e k h := by unfold sn; rw [e1, e2, e3]
theorem isK_congr {p p2 : Nat → Int} {w : Int} : ∀ {m : Nat}, (∀ k, k < m → p2 k = p k) → isK p2 w m = isK p w m := by
  intro m
  induction m with
  | zero => intro _; rfl
  | succ m ih =>
    intro h
    show (if _ then _ else _) = (if _ then _ else _)
    rw [h m (by omega), ih (fun k hk => h k (by omega))]
theorem fcK_congr {p p2 : Nat → Int} {m : Nat} {q : Int} (h : ∀ k, k < m → p2 k = p k) : fcK p2 m q = fcK p m q := by
  funext w; unfold fcK; rw [isK_congr h]
def p3 (a b c : Int) : Nat → Int := fun k => if k = 0 then a else if k = 1 then b else c
noncomputable def mdM (h : Hp) (fc : Nat → Option Int) (part : Int) : Int :=
  smF (fun k => solW (sM h) (nM 0 h) (kM 0 h) (pM 0 h) part fc (sn 0 k h).toNat) (fun k => solW (sM h) (nM 1 h) (kM 1 h) (pM 1 h) part noF (sn 1 k h).toNat) (h 143 3 + h 143 2).toNat
/-- the model's nets, and what is observed of them -/
def MS (h : Hp) : Prop := MO h ∧ ∀ e : Int, 0 ≤ e ∧ e < 2 → ∀ k : Nat, (k : Int) < h 143 3 + h 143 2 → 0 ≤ sn e k h ∧ sn e k h < nM e h
theorem MS_congr {h h1 : Hp} (e1 : h1 143 1 = h 143 1) (e2 : h1 143 2 = h 143 2) (e3 : h1 143 3 = h 143 3) (e4 : ∀ a i, (144 ≤ a ∧ a ≤ 148) → h1 a i = h a i) (hM : MS h) : MS h1 := by
  have e : ∀ a, (144 ≤ a ∧ a ≤ 148) → h1 a = h a := fun a ha => funext (fun i => e4 a i ha)
  refine ⟨MO_congr e1 e2 e3 (e _ (by omega)) (e _ (by omega)) (e _ (by omega)) hM.1, fun d hd k hk => ?_⟩
  rw [sn_congr e3 (e _ (by omega)) (e _ (by omega)), nM_congr e1 e2 (e _ (by omega))]
  exact hM.2 d hd k (by omega)
theorem mdM_congr {h h1 : Hp} (e1 : h1 143 1 = h 143 1) (e2 : h1 143 2 = h 143 2) (e3 : h1 143 3 = h 143 3) (e4 : ∀ a i, (144 ≤ a ∧ a ≤ 148) → h1 a i = h a i) (fc : Nat → Option Int) (part : Int) : mdM h1 fc part = mdM h fc part := by
  have e : ∀ a, (144 ≤ a ∧ a ≤ 148) → h1 a = h a := fun a ha => funext (fun i => e4 a i ha)
  unfold mdM
  rw [sM_congr e1 e2, nM_congr e1 e2 (e _ (by omega)), nM_congr e1 e2 (e _ (by omega)), kM_congr (e _ (by omega)), kM_congr (e _ (by omega)), pM_congr (e _ (by omega)), pM_congr (e _ (by omega)), e2, e3]
  congr 1
  · funext k; rw [sn_congr e3 (e _ (by omega)) (e _ (by omega))]
  · funext k; rw [sn_congr e3 (e _ (by omega)) (e _ (by omega))]
theorem mendings_ok {h : Hp} (hM : MS h) (hO : Ord (sM h) (nM 0 h) (kM 0 h) (pM 0 h) (fun i => h 186 i)) (hS : ∀ w : Nat, (w : Int) < sM h → ∀ part : Nat, part < 4 → vM 0 part h w = srcW w part)
    (hW : ∀ part : Nat, part < 4 → WEq (sM h) (nM 1 h) (kM 1 h) (pM 1 h) part noF (vM 1 part h)) {a b c n : Int} (hn : 1 ≤ n ∧ n ≤ 3) :
    En (XX12_mendings a b c n h) (fun _ h1 => h1 143 63 = 0 ∧ (∀ q : Nat, (q : Int) < 2 ^ n.toNat → ∀ part : Nat, part < 4 → h1 190 (4 * q + part) = mdM h (fcK (p3 a b c) n.toNat q) part) ∧ (∀ w : Nat, (w : Int) < sM h → ∀ part : Nat, part < 4 → vM 0 part h1 w = srcW w part) ∧ (∀ j, 192 ≤ j → h1 188 j = h 188 j)) := by
  obtain ⟨⟨hMN, hMO⟩, hSn⟩ := hM
  obtain ⟨b0, b1, b2, b3, b4, b5⟩ := MN_lt hMN (e := 0) (by omega)
  obtain ⟨bb0, bb1, bb2, bb3, bb4, bb5⟩ := MN_lt hMN (e := 1) (by omega)
  have ho6 : 1 ≤ h 143 3 + h 143 2 ∧ h 143 3 + h 143 2 ≤ 6 := by
    obtain ⟨h0, h1, h2, h3, h4, h5, h6, h7, h8, h9, h10⟩ := hMN; omega
  have hash : ashl 1 n = 2 ^ n.toNat := ashl1 (by omega) (by omega)
  have hpow : 1 ≤ (2 : Int) ^ n.toNat ∧ (2 : Int) ^ n.toNat ≤ 8 := by
    have : n.toNat = 1 ∨ n.toNat = 2 ∨ n.toNat = 3 := by omega
    rcases this with e | e | e <;> rw [e] <;> decide
  unfold XX12_mendings
  rw [inb_pos (by omega), hm_eq, inb_pos (by omega), hm_eq, inb_pos (by omega), hm_eq, hm_eq]
  unfold XX12_mendings_L30
  refine En_lup2 (fun _ l5 _ => (2 ^ n.toNat - l5).toNat) (fun l4 l5 h1 => n = l4 ∧ 0 ≤ l5 ∧ l5 ≤ 2 ^ n.toNat ∧ (∀ x i, ¬ (x = 189 ∨ x = 188 ∨ x = 190 ∨ (x = 143 ∧ (i = 63 ∨ i = 64))) → h1 x i = h x i) ∧ (∀ k, k < 3 → h1 189 k = p3 a b c k) ∧ h1 143 63 = n ∧ (∀ w : Nat, (w : Int) < sM h → ∀ part : Nat, part < 4 → vM 0 part h1 w = srcW w part) ∧ (∀ j, 192 ≤ j → h1 188 j = h 188 j) ∧ (∀ q : Nat, (q : Int) < l5 → ∀ part : Nat, part < 4 → h1 190 (4 * q + part) = mdM h (fcK (p3 a b c) n.toNat q) part)) ?_ FU _ _ _ (by unfold FU; omega) ⟨rfl, by omega, by omega, fun x i hh => ?_, fun k hk => ?_, wr_at, fun w hw part hp => ?_, fun j hj => ?_, fun q hq => by omega⟩
  rotate_left
  · rw [wq_ne (by omega), wq_ne (by omega), wq_ne (by omega), wq_ne (by omega)]
  · rw [wq_ne (by omega)]
    have : k = 0 ∨ k = 1 ∨ k = 2 := by omega
    rcases this with e | e | e <;> subst e <;> simp [wr, p3]
  · show wr _ _ _ _ 188 _ = _
    rw [wq_ne (by omega), wq_ne (by omega), wq_ne (by omega), wq_ne (by omega)]; exact hS w hw part hp
  · rw [wq_ne (by omega), wq_ne (by omega), wq_ne (by omega), wq_ne (by omega)]
  rintro self30 l4 l5 h1 ih30 ⟨rfl, c0, c1, e1, c2, c3, c4, c5, c6⟩
  unfold XX12_mendings_b30
  rw [hash]
  by_cases q : (2 : Int) ^ n.toNat ≤ l5
  · rw [if_pos q, hm_eq]
    exact En_some ⟨wr_at, fun q hq part hp => by rw [wq_ne (by omega)]; exact c6 q (by omega) part hp, fun w hw part hp => by show wr _ _ _ _ 188 _ = _; rw [wq_ne (by omega)]; exact c4 w hw part hp, fun j hj => by rw [wq_ne (by omega)]; exact c5 j hj⟩
  rw [if_neg q, hm_eq]
  obtain ⟨qq, rfl⟩ := Int.eq_ofNat_of_zero_le c0
  -- the held net worked out
  have y : ∀ x i, ¬ (x = 189 ∨ x = 188 ∨ x = 190 ∨ (x = 143 ∧ (i = 63 ∨ i = 64))) → wr h1 143 64 qq x i = h x i := fun x i hh => by rw [wq_ne (by omega)]; exact e1 x i hh
  have y4 : wr h1 143 64 qq 144 = h 144 := funext (fun i => y 144 i (by omega))
  have y5 : wr h1 143 64 qq 145 = h 145 := funext (fun i => y 145 i (by omega))
  have y6 : wr h1 143 64 qq 146 = h 146 := funext (fun i => y 146 i (by omega))
  have y86 : wr h1 143 64 qq 186 = h 186 := funext (fun i => y 186 i (by omega))
  have y1 := y 143 1 (by omega)
  have y2 := y 143 2 (by omega)
  have y3 := y 143 3 (by omega)
  have hMN1 := MN_congr y1 y2 y3 y4 hMN
  have y63 : wr h1 143 64 qq 143 63 = n := by rw [wq_ne (by omega)]; exact c3
  have y64 : wr h1 143 64 qq 143 64 = qq := wr_at
  have y89 : ∀ k, k < 3 → wr h1 143 64 qq 189 k = p3 a b c k := fun k hk => by rw [wq_ne (by omega)]; exact c2 k hk
  have hwk := works_ok hMN1 (e := 0) (by omega) (by rw [sM_congr y1 y2, nM_congr y1 y2 y4, kM_congr y5, pM_congr y6]; exact (hMO 0 (by omega)).1) (by rw [sM_congr y1 y2, nM_congr y1 y2 y4, kM_congr y5, pM_congr y6, y86]; simpa using hO) (by omega) (by
    rw [sM_congr y1 y2]
    intro w hw part hp
    show wr _ _ _ _ 188 _ = _
    rw [wq_ne (by omega)]; exact c4 w hw part hp)
  rw [sM_congr y1 y2, nM_congr y1 y2 y4, kM_congr y5, pM_congr y6] at hwk
  refine En_cal hwk (fun r2 h2 e2 hw2 => ?_)
  obtain ⟨hWE, hRest⟩ := hw2
  have f2 := fr_XX12_works e2
  have hfc : fcM 0 (wr h1 143 64 qq) = fcK (p3 a b c) n.toNat qq := by
    unfold fcM
    rw [if_pos rfl, y63, y64]
    exact fcK_congr (fun k hk => y89 k (by omega))
  rw [hfc] at hWE
  have z : ∀ x i, ¬ (x = 189 ∨ x = 188 ∨ x = 190 ∨ (x = 143 ∧ (i = 63 ∨ i = 64))) → h2 x i = h x i := fun x i hh => by rw [f2 x i (by omega)]; exact y x i hh
  have hMN2 : ∀ h3 : Hp, (∀ x i, x ≠ 190 → h3 x i = h2 x i) → MN h3 := fun h3 e3 => MN_congr (by rw [e3 _ _ (by omega), z _ _ (by omega)]) (by rw [e3 _ _ (by omega), z _ _ (by omega)]) (by rw [e3 _ _ (by omega), z _ _ (by omega)]) (funext (fun i => by rw [e3 _ _ (by omega), z _ _ (by omega)])) hMN
  have hV0 : ∀ part : Nat, part < 4 → ∀ w : Nat, (w : Int) < nM 0 h → h2 188 (4 * w + part) = solW (sM h) (nM 0 h) (kM 0 h) (pM 0 h) part (fcK (p3 a b c) n.toNat qq) w := fun part hp w hw => by
    have := solW_eq (hMO 0 (by omega)).1 (hMO 0 (by omega)).2 (hWE part hp) w hw
    rw [← this]; show h2 188 _ = h2 188 _; simp
  have hV1 : ∀ part : Nat, part < 4 → ∀ w : Nat, (w : Int) < nM 1 h → h2 188 (4 * (48 + w) + part) = solW (sM h) (nM 1 h) (kM 1 h) (pM 1 h) part noF w := fun part hp w hw => by
    have := solW_eq (hMO 1 (by omega)).1 (hMO 1 (by omega)).2 (hW part hp) w hw
    rw [← this, hRest _ (by simp; omega), wq_ne (by omega), c5 _ (by omega)]; show h 188 _ = h 188 _; simp
  have hSrc : ∀ w : Nat, (w : Int) < sM h → ∀ part : Nat, part < 4 → vM 0 part h2 w = srcW w part := fun w hw part hp => (hWE part hp).1 w hw
  have hNet1 : ∀ j, 192 ≤ j → h2 188 j = h 188 j := fun j hj => by rw [hRest j (by simp; omega), wq_ne (by omega)]; exact c5 j hj
  unfold XX12_mendings_L53
  refine En_lup3 (fun _ _ l6 _ => (4 - l6).toNat) (fun l4 l5 l6 h3 => n = l4 ∧ (qq : Int) = l5 ∧ 0 ≤ l6 ∧ l6 ≤ 4 ∧ (∀ x i, x ≠ 190 → h3 x i = h2 x i) ∧ (∀ q : Nat, (q : Int) < qq → ∀ part : Nat, part < 4 → h3 190 (4 * q + part) = mdM h (fcK (p3 a b c) n.toNat q) part) ∧ (∀ part : Nat, (part : Int) < l6 → h3 190 (4 * qq + part) = mdM h (fcK (p3 a b c) n.toNat qq) part)) ?_ FU _ _ _ _ (by unfold FU; omega) ⟨rfl, rfl, by omega, by omega, fun _ _ _ => rfl, fun q hq part hp => by rw [f2 190 _ (by omega), wq_ne (by omega)]; exact c6 q hq part hp, fun part hp => by omega⟩
  rintro self53 l4 l5 l6 h3 ih53 ⟨rfl, rfl, d0, d1, e3, d2, d3⟩
  unfold XX12_mendings_b53
  by_cases q6 : 4 ≤ l6
  · rw [if_pos q6, chk_pos (by omega)]
    refine ih30 _ _ _ (by omega) ⟨rfl, by omega, by omega, fun x i hh => by rw [e3 x i (by omega)]; exact z x i hh, fun k hk => ?_, ?_, fun w hw part hp => ?_, fun j hj => by rw [e3 188 j (by omega)]; exact hNet1 j hj, fun q hq part hp => ?_⟩
    · rw [e3 189 k (by omega), f2 189 k (by omega)]; exact y89 k hk
    · rw [e3 143 63 (by omega), f2 143 63 (by omega)]; exact y63
    · show h3 188 _ = _
      rw [e3 188 _ (by omega)]; exact hSrc w hw part hp
    · by_cases qe : q = qq
      · rw [qe]; exact d3 part (by omega)
      · exact d2 q (by omega) part hp
  rw [if_neg q6]
  obtain ⟨pt, rfl⟩ := Int.eq_ofNat_of_zero_le d0
  unfold XX12_mendings_L67
  refine En_lup5 (fun _ _ _ _ l9 _ => (6 - l9).toNat) (fun l4 l5 l6 l7 l9 h4 => n = l4 ∧ (qq : Int) = l5 ∧ (pt : Int) = l6 ∧ h3 = h4 ∧ 0 ≤ l9 ∧ l9 ≤ h 143 3 + h 143 2 ∧ l7 = smF (fun k => solW (sM h) (nM 0 h) (kM 0 h) (pM 0 h) pt (fcK (p3 a b c) n.toNat qq) (sn 0 k h).toNat) (fun k => solW (sM h) (nM 1 h) (kM 1 h) (pM 1 h) pt noF (sn 1 k h).toNat) l9.toNat) ?_ FU _ _ _ _ _ _ (by unfold FU; omega) ⟨rfl, rfl, rfl, rfl, by omega, by omega, rfl⟩
  rintro self67 l4 l5 l6 l7 l9 h4 ih67 ⟨rfl, rfl, rfl, rfl, m0, m1, m2⟩
  unfold XX12_mendings_b67
  have hM3 := hMN2 h3 e3
  have o3 : h3 143 3 + h3 143 2 = h 143 3 + h 143 2 := by rw [e3 _ _ (by omega), e3 _ _ (by omega), z _ _ (by omega), z _ _ (by omega)]
  rw [observed_eq hM3, cal_eq, o3]
  by_cases q9 : h 143 3 + h 143 2 ≤ l9
  · rw [if_pos q9, chk_pos (by omega), chk_pos (by omega), inb_pos (by omega), hm_eq, chk_pos (by omega), show (4 * (qq : Int) + (pt : Int)).toNat = 4 * qq + pt by omega]
    refine ih53 _ _ _ _ (by omega) ⟨rfl, rfl, by omega, by omega, fun x i hx => by rw [wr_ne hx]; exact e3 x i hx, fun q hq part hp => ?_, fun part hp => ?_⟩
    · rw [wr_o (by omega)]; exact d2 q hq part hp
    · by_cases qp : part = pt
      · rw [qp, wr_at, m2, show l9.toNat = (h 143 3 + h 143 2).toNat by omega]; rfl
      · rw [wr_o (by omega)]; exact d3 part (by omega)
  · rw [if_neg q9]
    obtain ⟨k, rfl⟩ := Int.eq_ofNat_of_zero_le m0
    have sne : ∀ e, sn e k h3 = sn e k h := fun e => sn_congr (by rw [e3 _ _ (by omega), z _ _ (by omega)]) (funext (fun i => by rw [e3 _ _ (by omega), z _ _ (by omega)])) (funext (fun i => by rw [e3 _ _ (by omega), z _ _ (by omega)])) e k
    have r0 := hSn 0 (by omega) k (by omega)
    have r1 := hSn 1 (by omega) k (by omega)
    rw [seen_eq hM3 (by omega) (by omega), cal_eq, sne, chk_pos (by omega), chk_pos (by omega), inb_pos (by omega), seen_eq hM3 (by omega) (by omega), cal_eq, sne, chk_pos (by omega), chk_pos (by omega), chk_pos (by omega), inb_pos (by omega), nm_eq, chk_pos (by omega)]
    rw [e3 188 _ (by omega), e3 188 _ (by omega), show (4 * sn 0 k h + (pt : Int)).toNat = 4 * (sn 0 k h).toNat + pt by omega, show (4 * (48 + sn 1 k h) + (pt : Int)).toNat = 4 * (48 + (sn 1 k h).toNat) + pt by omega, hV0 pt (by omega) _ (by omega), hV1 pt (by omega) _ (by omega)]
    refine ih67 _ _ _ _ _ _ (by omega) ⟨rfl, rfl, rfl, rfl, by omega, by omega, ?_⟩
    rw [show ((k : Int) + 1).toNat = k + 1 by omega, m2, Int.toNat_natCast]
    rfl
