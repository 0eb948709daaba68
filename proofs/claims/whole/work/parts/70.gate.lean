def fit1 (n : Int) (c : Prop) [Decidable c] (a : Int) : Prop := if c then (0 ≤ a ∧ a < n) else a = -1
theorem fit1_y {n : Int} {c : Prop} [Decidable c] {a : Int} (hc : c) : fit1 n c a ↔ (0 ≤ a ∧ a < n) := by unfold fit1; rw [if_pos hc]
theorem fit1_n {n : Int} {c : Prop} [Decidable c] {a : Int} (hc : ¬ c) : fit1 n c a ↔ a = -1 := by unfold fit1; rw [if_neg hc]
def Fit (n k a b c : Int) : Prop := fit1 n (0 < pinC k.toNat) a ∧ fit1 n (1 < pinC k.toNat) b ∧ fit1 n (2 < pinC k.toNat) c
theorem pinsFit_eq {lim : Int} {p : Nat} {h : Hp} (hl : lim ≤ 40) (hN : Nums lim p h) {k : Int} (hk : 0 ≤ k ∧ k ≤ 8) (a b c : Int) : ∃ r, XX11_pinsFit p k a b c h = some (r, h) ∧ ((r = 1 ∧ Fit (wn p h) k a b c) ∨ (r = 0 ∧ ¬ Fit (wn p h) k a b c)) := by
  unfold XX11_pinsFit
  rw [inb_pos (by omega), nm_eq]
  generalize hv : pinC k.toNat = v
  have s3 : fit1 (wn p h) (0 < v) a → fit1 (wn p h) (1 < v) b → ∃ r, XX11_pinsFit_p50 p c v h = some (r, h) ∧ ((r = 1 ∧ Fit (wn p h) k a b c) ∨ (r = 0 ∧ ¬ Fit (wn p h) k a b c)) := by
    intro fa fb
    unfold XX11_pinsFit_p50 XX11_pinsFit_p74 Fit
    rw [hv]
    by_cases q : v ≤ 2
    · rw [if_pos q, fit1_n (c := 2 < v) (a := c) (by omega)]
      by_cases qc : c = -1
      · exact ⟨1, by rw [if_pos qc, zb_1], Or.inl ⟨rfl, fa, fb, qc⟩⟩
      · exact ⟨0, by rw [if_neg qc, zb_0], Or.inr ⟨rfl, fun t => qc t.2.2⟩⟩
    · rw [if_neg q, isWire_eq hl hN, cal_eq, fit1_y (c := 2 < v) (a := c) (by omega)]
      by_cases qc : 0 ≤ c ∧ c < wn p h
      · exact ⟨1, by rw [if1 qc, if_neg n10, zb_1], Or.inl ⟨rfl, fa, fb, qc⟩⟩
      · exact ⟨0, by rw [if0 qc, if_pos rfl, zb_0], Or.inr ⟨rfl, fun t => qc t.2.2⟩⟩
  have no : ∀ X : OR, X = some (0, h) → ¬ Fit (wn p h) k a b c → ∃ r, X = some (r, h) ∧ ((r = 1 ∧ Fit (wn p h) k a b c) ∨ (r = 0 ∧ ¬ Fit (wn p h) k a b c)) := fun X e hf => ⟨0, e, Or.inr ⟨rfl, hf⟩⟩
  have s2 : fit1 (wn p h) (0 < v) a → ∃ r, XX11_pinsFit_p28 p b c v h = some (r, h) ∧ ((r = 1 ∧ Fit (wn p h) k a b c) ∨ (r = 0 ∧ ¬ Fit (wn p h) k a b c)) := by
    intro fa
    unfold XX11_pinsFit_p28
    by_cases q : v ≤ 1
    · rw [if_pos q]
      by_cases qb : b = -1
      · rw [if_pos qb]; exact s3 fa (by rw [fit1_n (by omega)]; exact qb)
      · rw [if_neg qb]; exact no _ zb_0 (fun t => by have := t.2.1; rw [hv, fit1_n (by omega)] at this; exact qb this)
    · rw [if_neg q, isWire_eq hl hN, cal_eq]
      by_cases qb : 0 ≤ b ∧ b < wn p h
      · rw [if1 qb, if_neg n10]; exact s3 fa (by rw [fit1_y (by omega)]; exact qb)
      · rw [if0 qb, if_pos rfl]; exact no _ zb_0 (fun t => by have := t.2.1; rw [hv, fit1_y (by omega)] at this; exact qb this)
  by_cases q : v ≤ 0
  · rw [if_pos q]
    by_cases qa : a = -1
    · rw [if_pos qa]; exact s2 (by rw [fit1_n (by omega)]; exact qa)
    · rw [if_neg qa]; exact no _ zb_0 (fun t => by have := t.1; rw [hv, fit1_n (by omega)] at this; exact qa this)
  · rw [if_neg q, isWire_eq hl hN, cal_eq]
    by_cases qa : 0 ≤ a ∧ a < wn p h
    · rw [if1 qa, if_neg n10]; exact s2 (by rw [fit1_y (by omega)]; exact qa)
    · rw [if0 qa, if_pos rfl]; exact no _ zb_0 (fun t => by have := t.1; rw [hv, fit1_y (by omega)] at this; exact qa this)
theorem fits_eq {h : Hp} (hM : MN h) {e : Int} (he : 0 ≤ e ∧ e < 2) (c : Prop) [Decidable c] {b : Int} (hb : b = if c then 1 else 0) (a : Int) : ∃ r, XX12_fits e b a h = some (r, h) ∧ ((r = 1 ∧ fit1 (nM e h) c a) ∨ (r = 0 ∧ ¬ fit1 (nM e h) c a)) := by
  unfold XX12_fits
  by_cases q : c
  · rw [hb, if_pos q, if_neg n10, isWireM_eq hM he, cal_eq, zbi, fit1_y q]
    by_cases qa : 0 ≤ a ∧ a < nM e h
    · exact ⟨1, by rw [if1 qa], Or.inl ⟨rfl, qa⟩⟩
    · exact ⟨0, by rw [if0 qa], Or.inr ⟨rfl, qa⟩⟩
  · rw [hb, if_neg q, if_pos rfl, fit1_n q]
    by_cases qa : a = -1
    · exact ⟨1, by rw [if_pos qa, zb_1], Or.inl ⟨rfl, qa⟩⟩
    · exact ⟨0, by rw [if_neg qa, zb_0], Or.inr ⟨rfl, qa⟩⟩
/-- the model's gate() as far as its pins -/
theorem gateM_fit {h : Hp} (hM : MN h) {e : Int} (he : 0 ≤ e ∧ e < 2) {k : Int} (hk : 0 ≤ k ∧ k ≤ 8) (a b c : Int) : (¬ Fit (nM e h) k a b c → XX12_gate e k a b c h = some (-1, h)) ∧ (Fit (nM e h) k a b c → XX12_gate e k a b c h = XX12_gate_p105 e k a b c (h 144 e.toNat) (if e = 0 then 40 else 24) h) := by
  have key : ∀ X : OR, X = XX12_gate e k a b c h → X = XX12_gate e k a b c h := fun _ t => t
  have hv : XX12_gate e k a b c h = if pinC k.toNat ≤ 0 then XX12_gate_p37 e k a b c (pinC k.toNat) e 0 h else XX12_gate_p37 e k a b c (pinC k.toNat) e 1 h := by
    unfold XX12_gate
    rw [isNet_eq, cal_eq, if1 (by omega), if_neg n10, in_eq, cal_eq, if1 (by omega), if_neg n10, pinsOf_eq hk.1 hk.2, cal_eq]
  have h37 : ∀ s2 : Int, (s2 = if 0 < pinC k.toNat then 1 else 0) → XX12_gate e k a b c h = XX12_gate_p37 e k a b c (pinC k.toNat) e s2 h := by
    intro s2 hs
    rw [hv, hs]
    by_cases q : pinC k.toNat ≤ 0
    · rw [if_pos q, if_neg (by omega)]
    · rw [if_neg q, if_pos (by omega)]
  obtain ⟨ra, ea, fa⟩ := fits_eq hM he (0 < pinC k.toNat) rfl a
  obtain ⟨rb, eb, fb⟩ := fits_eq hM he (1 < pinC k.toNat) rfl b
  obtain ⟨rc, ec, fc⟩ := fits_eq hM he (2 < pinC k.toNat) rfl c
  have p37 : XX12_gate e k a b c h = if ra = 0 then some (-1, h) else (if rb = 0 then some (-1, h) else (if rc = 0 then some (-1, h) else XX12_gate_p105 e k a b c (h 144 e.toNat) (if e = 0 then 40 else 24) h)) := by
    rw [h37 _ rfl]
    unfold XX12_gate_p37
    rw [ea, cal_eq]
    by_cases qa : ra = 0
    · rw [if_pos qa, if_pos qa]
    rw [if_neg qa, if_neg qa]
    have p57 : (if pinC k.toNat ≤ 1 then XX12_gate_p57 e k a b c (pinC k.toNat) e 0 h else XX12_gate_p57 e k a b c (pinC k.toNat) e 1 h) = XX12_gate_p57 e k a b c (pinC k.toNat) e (if 1 < pinC k.toNat then 1 else 0) h := by
      by_cases q : pinC k.toNat ≤ 1
      · rw [if_pos q, if_neg (by omega)]
      · rw [if_neg q, if_pos (by omega)]
    rw [p57]
    unfold XX12_gate_p57
    rw [eb, cal_eq]
    by_cases qb : rb = 0
    · rw [if_pos qb, if_pos qb]
    rw [if_neg qb, if_neg qb]
    have p78 : (if pinC k.toNat ≤ 2 then XX12_gate_p78 e k a b c e 0 h else XX12_gate_p78 e k a b c e 1 h) = XX12_gate_p78 e k a b c e (if 2 < pinC k.toNat then 1 else 0) h := by
      by_cases q : pinC k.toNat ≤ 2
      · rw [if_pos q, if_neg (by omega)]
      · rw [if_neg q, if_pos (by omega)]
    rw [p78]
    unfold XX12_gate_p78
    rw [ec, cal_eq]
    by_cases qc : rc = 0
    · rw [if_pos qc, if_pos qc]
    rw [if_neg qc, if_neg qc, inb_pos (by omega)]
    by_cases qe : e = 0
    · rw [if_pos qe, if_pos qe]
    · rw [if_neg qe, if_neg qe]
  constructor
  · intro hno
    rw [p37]
    rcases fa with ⟨rfl, fa⟩ | ⟨rfl, fa⟩
    · rw [if_neg n10]
      rcases fb with ⟨rfl, fb⟩ | ⟨rfl, fb⟩
      · rw [if_neg n10]
        rcases fc with ⟨rfl, fc⟩ | ⟨rfl, fc⟩
        · exact absurd ⟨fa, fb, fc⟩ hno
        · rw [if_pos rfl]
      · rw [if_pos rfl]
    · rw [if_pos rfl]
  · intro hy
    rw [p37]
    rcases fa with ⟨rfl, fa⟩ | ⟨rfl, fa⟩
    · rw [if_neg n10]
      rcases fb with ⟨rfl, fb⟩ | ⟨rfl, fb⟩
      · rw [if_neg n10]
        rcases fc with ⟨rfl, fc⟩ | ⟨rfl, fc⟩
        · rw [if_neg n10]
        · exact absurd hy.2.2 fc
      · exact absurd hy.2.1 fb
    · exact absurd hy.1 fa
/-- a gate more -/
theorem addGate_ok {lim : Int} {p : Nat} {h : Hp} (hl : lim ≤ 40) (hN : Nums lim p h) (hlt : h p 3 < lim) (k a b c pl : Int) : ∃ g, XX8_addGate p k a b c pl h = some (wn p h, g) ∧ (∀ x i, ¬ ((x = p ∧ i = 3) ∨ x = p + 1 ∨ x = p + 2 ∨ x = p + 4) → g x i = h x i) ∧ g p 3 = h p 3 + 1 ∧ (∀ w, g (p + 1) w = if w = (wn p h).toNat then k else h (p + 1) w) ∧ (∀ j, g (p + 2) j = if j = 3 * (wn p h).toNat then a else if j = 3 * (wn p h).toNat + 1 then b else if j = 3 * (wn p h).toNat + 2 then c else h (p + 2) j) ∧ (∀ w, g (p + 4) w = if w = (wn p h).toNat then pl else h (p + 4) w) := by
  have l0 := Pl_lt hl hN
  have hw : 0 ≤ wn p h ∧ wn p h < 48 := by omega
  have w3 : ∀ h7 : Hp, h7 p 3 = h p 3 → chk (h7 p 3 + 1) (hm (wr h7 p 3 (h7 p 3 + 1)) (fun h8 => some (wn p h, h8))) = some (wn p h, wr h7 p 3 (h p 3 + 1)) := fun h7 e7 => by rw [e7, chk_pos (by omega), hm_eq]
  refine ⟨wr (wr (wr (wr (wr (wr h (p + 1) (wn p h).toNat k) (p + 2) (3 * wn p h).toNat a) (p + 2) (3 * wn p h + 1).toNat b) (p + 2) (3 * wn p h + 2).toNat c) (p + 4) (wn p h).toNat pl) p 3 (h p 3 + 1), ?_, fun x i hh => by rw [wq_ne (by omega), wq_ne (by omega), wq_ne (by omega), wq_ne (by omega), wq_ne (by omega), wq_ne (by omega)], wr_at, fun w => ?_, fun j => ?_, fun w => ?_⟩
  · unfold XX8_addGate
    rw [wires_eq hl hN, cal_eq, inb_pos (by omega), hm_eq, chk_pos (by omega), inb_pos (by omega), hm_eq, chk_pos (by omega), chk_pos (by omega), inb_pos (by omega), hm_eq, chk_pos (by omega), chk_pos (by omega), inb_pos (by omega), hm_eq, inb_pos (by omega), hm_eq]
    exact w3 _ (by rw [wq_ne (by omega), wq_ne (by omega), wq_ne (by omega), wq_ne (by omega), wq_ne (by omega)])
  · rw [wq_ne (by omega), wq_ne (by omega), wq_ne (by omega), wq_ne (by omega), wq_ne (by omega)]
    by_cases q : w = (wn p h).toNat
    · rw [if_pos q, q, wr_at]
    · rw [if_neg q, wr_o q]
  · rw [wq_ne (by omega), wq_ne (by omega)]
    by_cases q2 : j = 3 * (wn p h).toNat + 2
    · rw [if_neg (by omega), if_neg (by omega), if_pos q2, wq_is (by omega)]
    · rw [wq_ne (by omega)]
      by_cases q1 : j = 3 * (wn p h).toNat + 1
      · rw [if_neg (by omega), if_pos q1, wq_is (by omega)]
      · rw [wq_ne (by omega)]
        by_cases q0 : j = 3 * (wn p h).toNat
        · rw [if_pos q0, wq_is (by omega)]
        · rw [if_neg q0, if_neg q1, if_neg q2, wq_ne (by omega), wq_ne (by omega)]
  · rw [wq_ne (by omega)]
    by_cases q : w = (wn p h).toNat
    · rw [if_pos q, q, wr_at]
    · rw [if_neg q, wr_o q, wq_ne (by omega), wq_ne (by omega), wq_ne (by omega), wq_ne (by omega)]
theorem PinOK_add {s n : Int} {kd pn kd2 pn2 : Nat → Int} (hn : 0 ≤ n) (hP : PinOK s n kd pn) {k a b c : Int} (hk : 0 ≤ k ∧ k ≤ 8) (hF : Fit n k a b c) (e1 : ∀ w, kd2 w = if w = n.toNat then k else kd w) (e2 : ∀ j, pn2 j = if j = 3 * n.toNat then a else if j = 3 * n.toNat + 1 then b else if j = 3 * n.toNat + 2 then c else pn j) : PinOK s (n + 1) kd2 pn2 := by
  intro w h1 h2
  rw [e1]
  by_cases q : w = n.toNat
  · rw [if_pos q]
    refine ⟨hk, fun i hi => ?_⟩
    have : i = 0 ∨ i = 1 ∨ i = 2 := by omega
    obtain ⟨f1, f2, f3⟩ := hF
    rcases this with e | e | e <;> subst e
    · rw [e2, if_pos (by omega)]
      constructor
      · intro hh; rw [fit1_y (by omega)] at f1; omega
      · intro hh; rw [fit1_n (by omega)] at f1; exact f1
    · rw [e2, if_neg (by omega), if_pos (by omega)]
      constructor
      · intro hh; rw [fit1_y (by omega)] at f2; omega
      · intro hh; rw [fit1_n (by omega)] at f2; exact f2
    · rw [e2, if_neg (by omega), if_neg (by omega), if_pos (by omega)]
      constructor
      · intro hh; rw [fit1_y (by omega)] at f3; omega
      · intro hh; rw [fit1_n (by omega)] at f3; exact f3
  · rw [if_neg q]
    have := hP w h1 (by omega)
    refine ⟨this.1, fun i hi => ?_⟩
    rw [e2, if_neg (by omega), if_neg (by omega), if_neg (by omega)]
    have t := this.2 i hi
    exact ⟨fun hh => by have := t.1 hh; omega, t.2⟩
theorem Acy_add {s n : Int} {kd pn kd2 pn2 : Nat → Int} (hn : 0 ≤ n) (hP : PinOK s n kd pn) (hA : Acy s n kd pn) {k a b c : Int} (hF : Fit n k a b c) (e1 : ∀ w, kd2 w = if w = n.toNat then k else kd w) (e2 : ∀ j, pn2 j = if j = 3 * n.toNat then a else if j = 3 * n.toNat + 1 then b else if j = 3 * n.toNat + 2 then c else pn j) : Acy s (n + 1) kd2 pn2 := by
  obtain ⟨rk, hr⟩ := hA
  have hbd : ∃ M, ∀ w : Nat, (w : Int) < n → rk w < M := by
    have : ∀ m : Nat, ∃ M, ∀ w : Nat, w < m → rk w < M := by
      intro m
      induction m with
      | zero => exact ⟨0, fun w hw => absurd hw (Nat.not_lt_zero _)⟩
      | succ m ih =>
        obtain ⟨M, hM⟩ := ih
        refine ⟨M + rk m + 1, fun w hw => ?_⟩
        by_cases q : w = m
        · rw [q]; omega
        · have := hM w (by omega); omega
    obtain ⟨M, hM⟩ := this n.toNat
    exact ⟨M, fun w hw => hM w (by omega)⟩
  obtain ⟨M, hM⟩ := hbd
  refine ⟨fun w => if w = n.toNat then M else rk w, fun w h1 h2 i hi => ?_⟩
  rw [e1] at hi
  dsimp only
  by_cases q : w = n.toNat
  · rw [if_pos q] at hi
    rw [if_pos q]
    have hb := pinC_b k.toNat
    have hpin : 0 ≤ pn2 (3 * w + i) ∧ pn2 (3 * w + i) < n := by
      have : i = 0 ∨ i = 1 ∨ i = 2 := by omega
      obtain ⟨f1, f2, f3⟩ := hF
      rcases this with e | e | e <;> subst e
      · rw [e2, if_pos (by omega)]; rw [fit1_y (by omega)] at f1; exact f1
      · rw [e2, if_neg (by omega), if_pos (by omega)]; rw [fit1_y (by omega)] at f2; exact f2
      · rw [e2, if_neg (by omega), if_neg (by omega), if_pos (by omega)]; rw [fit1_y (by omega)] at f3; exact f3
    rw [if_neg (by omega)]
    exact Or.inr (hM _ (by omega))
  · rw [if_neg q] at hi
    have hb := pinC_b (kd w).toNat
    rw [if_neg q, e2, if_neg (by omega), if_neg (by omega), if_neg (by omega)]
    have hp := ((hP w h1 (by omega)).2 i (by omega)).1 hi
    rw [if_neg (by omega)]
    exact hr w h1 (by omega) i hi
