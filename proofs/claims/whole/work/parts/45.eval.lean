theorem Ev_done {V : Type} {s n : Int} {kd pn od : Nat → Int} {Φ : (Nat → V) → Nat → V} (hs : 0 ≤ s) (hO : Ord s n kd pn od) {A W : Nat → V} (h : Ev Φ od (n - s).toNat A W) :
    (∀ w : Nat, (w : Int) < s → W w = A w) ∧ (∀ w : Nat, s ≤ w → (w : Int) < n → W w = Φ W w) := by
  obtain ⟨t, o1, o2⟩ := hO
  refine ⟨fun w hw => h.1 w (fun j hj e => ?_), fun w h1 h2 => ?_⟩
  · have := o1 j (by omega); omega
  · obtain ⟨i, hi, e⟩ := o2 w h1 h2
    have := h.2 i (by omega)
    rw [e, Int.toNat_natCast] at this
    exact this
/-- below: the bits of a gate and of its pins -/
def orP (pn : Nat → Int) (W : Nat → Int) (w : Nat) : Nat → Int
  | 0 => jshl 1 w
  | k + 1 => jor (orP pn W w k) (W (pn (3 * w + k)).toNat)
def Fb (kd pn : Nat → Int) (W : Nat → Int) (w : Nat) : Int := orP pn W w (pinC (kd w).toNat).toNat
theorem orP_congr {pn : Nat → Int} {A B : Nat → Int} {w : Nat} : ∀ {m : Nat}, (∀ k : Nat, k < m → A (pn (3 * w + k)).toNat = B (pn (3 * w + k)).toNat) → orP pn A w m = orP pn B w m := by
  intro m
  induction m with
  | zero => intro _; rfl
  | succ m ih => intro h; show jor _ _ = jor _ _; rw [ih (fun k hk => h k (by omega)), h m (by omega)]
theorem Loc_b (kd pn : Nat → Int) : Loc kd pn (Fb kd pn) := by
  intro A B w h
  exact orP_congr (fun k hk => h k (by omega))
theorem tb_orP {pn : Nat → Int} {W : Nat → Int} {w : Nat} (hw : w < 64) (v : Nat) : ∀ m : Nat, tb (orP pn W w m) v = true ↔ (v = w ∨ ∃ k : Nat, k < m ∧ tb (W (pn (3 * w + k)).toNat) v = true) := by
  intro m
  induction m with
  | zero =>
    show tb (jshl 1 w) v = true ↔ _
    rw [tb_pow (by omega) (by omega)]
    constructor
    · intro e; exact Or.inl (by simpa using e)
    · rintro (e | ⟨k, hk, _⟩)
      · simp [e]
      · exact absurd hk (Nat.not_lt_zero _)
  | succ m ih =>
    show tb (jor _ _) v = true ↔ _
    rw [tb_jor, Bool.or_eq_true, ih]
    constructor
    · rintro ((e | ⟨k, hk, e⟩) | e)
      · exact Or.inl e
      · exact Or.inr ⟨k, by omega, e⟩
      · exact Or.inr ⟨m, by omega, e⟩
    · rintro (e | ⟨k, hk, e⟩)
      · exact Or.inl (Or.inl e)
      · by_cases q : k = m
        · rw [q] at e; exact Or.inr e
        · exact Or.inl (Or.inr ⟨k, by omega, e⟩)
/-- ticks: the latest of the pins, and the delay -/
def mxP (pn : Nat → Int) (W : Nat → Int) (w : Nat) : Nat → Int
  | 0 => 0
  | k + 1 => imax (mxP pn W w k) (W (pn (3 * w + k)).toNat)
def Ft (dl kd pn : Nat → Int) (W : Nat → Int) (w : Nat) : Int := mxP pn W w (pinC (kd w).toNat).toNat + dl (kd w).toNat
theorem mxP_congr {pn : Nat → Int} {A B : Nat → Int} {w : Nat} : ∀ {m : Nat}, (∀ k : Nat, k < m → A (pn (3 * w + k)).toNat = B (pn (3 * w + k)).toNat) → mxP pn A w m = mxP pn B w m := by
  intro m
  induction m with
  | zero => intro _; rfl
  | succ m ih => intro h; show imax _ _ = imax _ _; rw [ih (fun k hk => h k (by omega)), h m (by omega)]
theorem Loc_t (dl kd pn : Nat → Int) : Loc kd pn (Ft dl kd pn) := by
  intro A B w h
  unfold Ft
  rw [mxP_congr (fun k hk => h k (by omega))]
/-- words -/
def mkW (k a b c : Int) : Int := if k = 0 then jxor a (-1) else if k = 1 then jand a b else if k = 2 then jor a b else if k = 3 then jxor a b else if k = 4 then jxor (jand a b) (-1) else if k = 5 then jxor (jor a b) (-1) else if k = 6 then jor (jand a b) (jand (jxor a (-1)) c) else if k = 8 then -1 else 0
theorem made_eq (k a b c : Int) (h : Hp) : XX6_made k a b c h = some (mkW k a b c, h) := by
  unfold XX6_made mkW
  repeat' split
  all_goals first | rfl | omega
theorem mkW_in (k a b c : Int) : inJ (mkW k a b c) := by
  unfold mkW
  repeat' split
  all_goals first | exact jxor_in _ _ | exact jand_in _ _ | exact jor_in _ _ | exact ⟨by decide, by decide⟩
def pk (kd pn W : Nat → Int) (w k : Nat) : Int := if (k : Int) < pinC (kd w).toNat then W (pn (3 * w + k)).toNat else 0
def Fw (kd pn W : Nat → Int) (w : Nat) : Int := mkW (kd w) (pk kd pn W w 0) (pk kd pn W w 1) (pk kd pn W w 2)
theorem pk_congr {kd pn A B : Nat → Int} {w : Nat} (h : ∀ k : Nat, (k : Int) < pinC (kd w).toNat → A (pn (3 * w + k)).toNat = B (pn (3 * w + k)).toNat) (k : Nat) : pk kd pn A w k = pk kd pn B w k := by
  unfold pk
  by_cases q : (k : Int) < pinC (kd w).toNat
  · rw [if_pos q, if_pos q, h k q]
  · rw [if_neg q, if_neg q]
theorem Loc_w (kd pn : Nat → Int) : Loc kd pn (Fw kd pn) := by
  intro A B w h
  unfold Fw
  rw [pk_congr h, pk_congr h, pk_congr h]
/-- with some wires held at values -/
def Ff (fc : Nat → Option Int) (kd pn W : Nat → Int) (w : Nat) : Int := match fc w with
  | some v => v
  | none => Fw kd pn W w
theorem Loc_f (fc : Nat → Option Int) (kd pn : Nat → Int) : Loc kd pn (Ff fc kd pn) := by
  intro A B w h
  unfold Ff
  rw [Loc_w kd pn A B w h]
def srcW (w part : Int) : Int := if 6 ≤ w then (if aand (ashr part (w - 6)) 1 = 1 then -1 else 0) else cntC w.toNat
theorem sourceWord_eq {w part : Int} (hw : 0 ≤ w ∧ w < 8) (h : Hp) : XX6_sourceWord w part h = some (srcW w part, h) := by
  unfold XX6_sourceWord srcW
  by_cases q : 6 ≤ w
  · rw [if_pos q, if_pos q, chk_pos (by omega)]; split <;> rfl
  · rw [if_neg q, if_neg q, inb_pos (by omega)]
theorem srcW_in (w part : Int) : inJ (srcW w part) := by
  unfold srcW
  split
  · split <;> exact ⟨by decide, by decide⟩
  · exact cntC_in _
theorem srcW_bits : ∀ w : Nat, w < 8 → ∀ part : Nat, part < 4 → ∀ c : Nat, c < 64 → (tb (srcW w part) c = true ↔ aand (ashr (64 * part + c) w) 1 = 1) := by decide +kernel
def WEq (s n : Int) (kd pn : Nat → Int) (part : Int) (fc : Nat → Option Int) (W : Nat → Int) : Prop :=
  (∀ w : Nat, (w : Int) < s → W w = srcW w part) ∧ (∀ w : Nat, s ≤ w → (w : Int) < n → W w = Ff fc kd pn W w)
theorem WEq_uniq {s n : Int} {kd pn : Nat → Int} {part : Int} {fc : Nat → Option Int} {W W2 : Nat → Int} (hP : PinOK s n kd pn) (hA : Acy s n kd pn) (h1 : WEq s n kd pn part fc W) (h2 : WEq s n kd pn part fc W2) : ∀ w : Nat, (w : Int) < n → W w = W2 w :=
  uniq hP hA (Loc_f fc kd pn) (fun w hw => by rw [h1.1 w hw, h2.1 w hw]) h1.2 h2.2
def noF : Nat → Option Int := fun _ => none
theorem findBelow_ok {lim : Int} {p : Nat} {h : Hp} (hl : lim ≤ 40) (hN : Nums lim (p + 1) h) (hP : PinOK (sc (p + 1) h) (wn (p + 1) h) (h (p + 1 + 1)) (h (p + 1 + 2))) (hO : Ord (sc (p + 1) h) (wn (p + 1) h) (h (p + 1 + 1)) (h (p + 1 + 2)) (h (p + 6))) :
    En (XX6_findBelow p h) (fun _ h1 => Hang (sc (p + 1) h) (wn (p + 1) h) (h (p + 1 + 1)) (h (p + 1 + 2)) (fun w v => tb (h1 (p + 7) w) v)) := by
  obtain ⟨b0, b1, b2, b3, b4⟩ := Pl_lt hl hN
  have hg : h (p + 1) 3 = wn (p + 1) h - sc (p + 1) h := by omega
  have hg40 : h (p + 1) 3 ≤ lim := hN.2.2.2.2.2.2.2.2
  generalize hkd : h (p + 1 + 1) = kd at *
  generalize hpn : h (p + 1 + 2) = pn at *
  generalize hod : h (p + 6) = od at *
  generalize hs : sc (p + 1) h = s at *
  generalize hn : wn (p + 1) h = n at *
  unfold XX6_findBelow XX6_findBelow_L2
  refine En_lup1 (fun l1 _ => (s - l1).toNat) (fun l1 h1 => 0 ≤ l1 ∧ l1 ≤ s ∧ Eqx (p + 7) h h1 ∧ ∀ w : Nat, (w : Int) < l1 → h1 (p + 7) w = jshl 1 w) ?_ FU _ _ (by unfold FU; omega) ⟨by omega, by omega, Eqx_refl _ _, fun w hw => by omega⟩
  rintro self2 l1 h1 ih ⟨c0, c1, e1, c2⟩
  unfold XX6_findBelow_b2
  have g1 : h1 (p + 1) = h (p + 1) := e1 _ (by omega)
  rw [sources_eq (Nums_congr g1 hN), cal_eq, sc_congr g1, hs]
  by_cases q : s ≤ l1
  · rw [if_pos q]
    have hA0 : ∀ w : Nat, (w : Int) < s → h1 (p + 7) w = jshl 1 w := fun w hw => c2 w (by omega)
    unfold XX6_findBelow_L30
    refine En_lup1 (fun l1 _ => (n - s - l1).toNat) (fun l1 h2 => 0 ≤ l1 ∧ l1 ≤ n - s ∧ Eqx (p + 7) h h2 ∧ Ev (Fb kd pn) od l1.toNat (h1 (p + 7)) (h2 (p + 7))) ?_ FU _ _ (by unfold FU; omega) ⟨by omega, by omega, e1, Ev_0⟩
    rintro self30 i h2 ih30 ⟨d0, d1, e2, d2⟩
    unfold XX6_findBelow_b30
    have g2 : h2 (p + 1) = h (p + 1) := e2 _ (by omega)
    have k1 : h2 (p + 1 + 1) = kd := by rw [← hkd]; exact e2 _ (by omega)
    have k2 : h2 (p + 1 + 2) = pn := by rw [← hpn]; exact e2 _ (by omega)
    have k3 : h2 (p + 6) = od := by rw [← hod]; exact e2 _ (by omega)
    rw [g2, hg]
    by_cases q2 : n - s ≤ i
    · rw [if_pos q2]
      have : i = n - s := by omega
      subst this
      obtain ⟨f1, f2⟩ := Ev_done (by omega) hO d2
      refine En_some ⟨fun w hw v => ?_, fun w hw hwn v => ?_⟩
      · dsimp only
        rw [f1 w hw, hA0 w hw, tb_pow (by omega) (by omega), Int.toNat_natCast]
      · dsimp only
        rw [f2 w hw hwn]
        unfold Fb
        rw [tb_orP (by omega)]
        constructor
        · rintro (e | ⟨k, hk, e⟩)
          · exact Or.inl e
          · exact Or.inr ⟨k, by omega, e⟩
        · rintro (e | ⟨k, hk, e⟩)
          · exact Or.inl e
          · exact Or.inr ⟨k, by omega, e⟩
    · rw [if_neg q2, inb_pos (by omega), nm_eq, nm_eq, k3]
      obtain ⟨hT, hO1, hO2⟩ := hO
      have hoi := hO1 i.toNat (by omega)
      obtain ⟨g, hgi⟩ := Int.eq_ofNat_of_zero_le (show 0 ≤ od i.toNat by omega)
      obtain ⟨hk, hpin⟩ := hP g (by omega) (by omega)
      have hb := pinC_b (kd g).toNat
      rw [hgi]
      unfold XX6_findBelow_L55
      refine En_lup4 (fun _ _ _ l5 _ => (3 - l5).toNat) (fun l1 l2 l3 l5 h3 => l1 = i ∧ l2 = g ∧ h3 = h2 ∧ 0 ≤ l5 ∧ l5 ≤ pinC (kd g).toNat ∧ l3 = orP pn (h2 (p + 7)) g l5.toNat) ?_ FU _ _ _ _ _ (by unfold FU; omega) ⟨rfl, rfl, rfl, by omega, by omega, rfl⟩
      rintro self55 l1 l2 l3 l5 h3 ih55 ⟨rfl, rfl, rfl, m0, m1, m2⟩
      unfold XX6_findBelow_b55
      rw [inb_pos (by omega), Int.toNat_natCast, k1, inb_pos (by omega)]
      by_cases q3 : pinC (kd g).toNat ≤ l5
      · rw [if_pos q3, inb_pos (by omega), hm_eq, chk_pos (by omega)]
        have e5 : l5.toNat = (pinC (kd g).toNat).toNat := by omega
        rw [e5] at m2
        have hgN : (od l1.toNat).toNat = g := by omega
        refine ih30 _ _ (by omega) ⟨by omega, by omega, Eqx_wr e2 _ _, ?_⟩
        rw [show (l1 + 1).toNat = l1.toNat + 1 by omega]
        refine Ev_step (Loc_b kd pn) hT (by omega) d2 (fun k hk => ?_) (fun j hj k hk => ?_) ?_ ?_
        · rw [hgN] at hk ⊢; exact ((hpin k (by omega)).1 hk).1
        · have hoj := hO1 j (by omega)
          have := hP (od j).toNat (by omega) (by omega)
          have hbj := pinC_b (kd (od j).toNat).toNat
          exact ((this.2 k (by omega)).1 hk).1
        · rw [hgN, wr_at, m2]; rfl
        · intro w hw
          rw [hgN] at hw
          exact wr_o hw _
      · rw [if_neg q3, k2]
        obtain ⟨j, rfl⟩ := Int.eq_ofNat_of_zero_le m0
        have hj := (hpin j (by omega)).1 (by omega)
        rw [chk_pos (by omega), chk_pos (by omega), inb_pos (by omega), show (3 * (g : Int) + (j : Int)).toNat = 3 * g + j by omega, inb_pos (by omega), nm_eq, chk_pos (by omega)]
        refine ih55 _ _ _ _ _ (by omega) ⟨rfl, rfl, rfl, by omega, by omega, ?_⟩
        rw [show ((j : Int) + 1).toNat = j + 1 by omega, m2, Int.toNat_natCast]
        rfl
  · rw [if_neg q, inb_pos (by omega), hm_eq, chk_pos (by omega)]
    refine ih _ _ (by omega) ⟨by omega, by omega, Eqx_wr e1 _ _, fun w hw => ?_⟩
    by_cases qw : w = l1.toNat
    · subst qw
      rw [wr_at, show ((l1.toNat : Nat) : Int) = l1 by omega]
    · rw [wr_o qw]; exact c2 w (by omega)
