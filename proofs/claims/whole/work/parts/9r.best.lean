/-- the wires that may be told, in their order -/
def ulB (P : Nat → Bool) : Nat → List Int
  | 0 => []
  | l + 1 => ulB P l ++ (if P l = true then [(l : Int)] else [])
def UB (P : Nat → Bool) (n i : Nat) : Int := ((ulB P n)[i]?).getD 0
theorem ulB_len (P : Nat → Bool) : ∀ n, (ulB P n).length = cntB P n := by
  intro n
  induction n with
  | zero => rfl
  | succ n ih =>
    show (ulB P n ++ _).length = cntB P n + _
    rw [List.length_append, ih]
    split <;> rfl
theorem UB_old {P : Nat → Bool} {n i : Nat} (h : i < cntB P n) : UB P (n + 1) i = UB P n i := by
  unfold UB
  show ((ulB P n ++ _)[i]?).getD 0 = _
  rw [List.getElem?_append_left (by rw [ulB_len]; exact h)]
theorem UB_new {P : Nat → Bool} {n : Nat} (h : P n = true) : UB P (n + 1) (cntB P n) = (n : Int) := by
  unfold UB
  show ((ulB P n ++ _)[cntB P n]?).getD 0 = _
  rw [List.getElem?_append_right (by rw [ulB_len]; exact Nat.le_refl _), ulB_len, Nat.sub_self, if_pos h]
  rfl
theorem cntB_s (P : Nat → Bool) (n : Nat) : cntB P (n + 1) = cntB P n + if P n = true then 1 else 0 := rfl
theorem cntB_up (P : Nat → Bool) {l n : Nat} (h : l ≤ n) : cntB P l ≤ cntB P n := by
  induction n with
  | zero => have : l = 0 := by omega
            subst this; exact Nat.le_refl _
  | succ n ih =>
    by_cases q : l = n + 1
    · subst q; exact Nat.le_refl _
    · have := ih (by omega)
      rw [cntB_s]; omega
theorem cntB_imp {P Q : Nat → Bool} {n : Nat} (h : ∀ w, w < n → P w = true → Q w = true) : cntB P n ≤ cntB Q n := by
  induction n with
  | zero => exact Nat.le_refl _
  | succ n ih =>
    have := ih (fun w hw => h w (by omega))
    have hn := h n (by omega)
    rw [cntB_s, cntB_s]
    by_cases q : P n = true
    · rw [if_pos q, if_pos (hn q)]; omega
    · rw [if_neg q]; omega
theorem UB_up {P : Nat → Bool} {l n i : Nat} (h : l ≤ n) (hi : i < cntB P l) : UB P n i = UB P l i := by
  induction n with
  | zero => have : l = 0 := by omega
            subst this; rfl
  | succ n ih =>
    by_cases q : l = n + 1
    · subst q; rfl
    · rw [UB_old (by have := cntB_up P (show l ≤ n by omega); omega), ih (by omega)]
theorem UB_in {P : Nat → Bool} : ∀ {n i : Nat}, i < cntB P n → ∃ w : Nat, w < n ∧ P w = true ∧ UB P n i = (w : Int) := by
  intro n
  induction n with
  | zero => intro i hi; exact absurd hi (Nat.not_lt_zero _)
  | succ n ih =>
    intro i hi
    by_cases q : i < cntB P n
    · obtain ⟨w, h1, h2, h3⟩ := ih q
      exact ⟨w, by omega, h2, by rw [UB_old q]; exact h3⟩
    · rw [cntB_s] at hi
      by_cases t : P n = true
      · rw [if_pos t] at hi
        have : i = cntB P n := by omega
        subst this
        exact ⟨n, by omega, t, UB_new t⟩
      · rw [if_neg t] at hi; omega
theorem UB_lt {P : Nat → Bool} : ∀ {n i j : Nat}, i < j → j < cntB P n → UB P n i < UB P n j := by
  intro n
  induction n with
  | zero => intro i j _ hj; exact absurd hj (Nat.not_lt_zero _)
  | succ n ih =>
    intro i j hij hj
    by_cases q : j < cntB P n
    · rw [UB_old q, UB_old (show i < cntB P n by omega)]; exact ih hij q
    · rw [cntB_s] at hj
      by_cases t : P n = true
      · rw [if_pos t] at hj
        have : j = cntB P n := by omega
        subst this
        rw [UB_new t, UB_old hij]
        obtain ⟨w, h1, _, h3⟩ := UB_in hij
        rw [h3]; omega
      · rw [if_neg t] at hj; omega
/-- a wire may be told to a point -/
def PB (h : Hp) (a : Int) (w : Nat) : Bool := decide (0 ≤ h 54 w) && !(tb (h 24 w) a.toNat)
def NB (h : Hp) (a : Int) : Nat := cntB (PB h a) (wn 18 h).toNat
def UUB (h : Hp) (a : Int) : Nat → Int := UB (PB h a) (wn 18 h).toNat
theorem NB_le {h : Hp} {a : Int} (j4 : J4 h) (w48 : wn 18 h ≤ 48) : NB h a ≤ 10 := by
  have h1 : NB h a ≤ cntB (fun w => decide (0 ≤ h 54 w)) (wn 18 h).toNat := cntB_imp (fun w _ hw => by
    unfold PB at hw
    rw [Bool.and_eq_true] at hw; exact hw.1)
  have h2 := cntB_up (fun w => decide (0 ≤ h 54 w)) (show (wn 18 h).toNat ≤ 48 by omega)
  have h3 := j4.2.1
  have h4 := j4.2.2.1
  omega
theorem UUB_in {h : Hp} {a : Int} {i : Nat} (hi : i < NB h a) : (0 ≤ UUB h a i ∧ UUB h a i < wn 18 h) ∧ 0 ≤ h 54 (UUB h a i).toNat ∧ tb (h 24 (UUB h a i).toNat) a.toNat = false := by
  obtain ⟨w, h1, h2, h3⟩ := UB_in hi
  have e : UUB h a i = (w : Int) := h3
  unfold PB at h2
  rw [Bool.and_eq_true, decide_eq_true_eq, Bool.not_eq_true'] at h2
  rw [e, Int.toNat_natCast]
  exact ⟨by omega, h2⟩
theorem UUB_lt {h : Hp} {a : Int} {i j : Nat} (hij : i < j) (hj : j < NB h a) : UUB h a i < UUB h a j := UB_lt hij hj
theorem VdB_0 (h : Hp) (a : Int) : VdB h a (-1) (-1) (-1) := ⟨⟨⟨Or.inl rfl, Or.inl rfl, Or.inl rfl⟩, Or.inl rfl, Or.inl rfl⟩, fun j hj => by
  have : tlM (-1) (-1) (-1) = 0 := rfl
  omega⟩
theorem VdB_1 {h : Hp} {a : Int} {i : Nat} (hi : i < NB h a) : VdB h a (UUB h a i) (-1) (-1) := by
  obtain ⟨u1, u2⟩ := UUB_in hi
  refine ⟨⟨⟨Or.inr u1, Or.inl rfl, Or.inl rfl⟩, Or.inl rfl, Or.inl rfl⟩, fun j hj => ?_⟩
  unfold tlM at hj
  rw [if_neg (by omega), if_pos rfl] at hj
  have : j = 0 := by omega
  subst this
  exact u2
theorem VdB_2 {h : Hp} {a : Int} {i j : Nat} (hij : i < j) (hj : j < NB h a) : VdB h a (UUB h a i) (UUB h a j) (-1) := by
  obtain ⟨u1, u2⟩ := UUB_in (show i < NB h a by omega)
  obtain ⟨v1, v2⟩ := UUB_in hj
  have lt := UUB_lt hij hj
  refine ⟨⟨⟨Or.inr u1, Or.inr v1, Or.inl rfl⟩, Or.inr ⟨by omega, lt⟩, Or.inl rfl⟩, fun k hk => ?_⟩
  unfold tlM at hk
  rw [if_neg (by omega), if_neg (by omega), if_pos rfl] at hk
  rcases (by omega : k = 0 ∨ k = 1) with rfl | rfl
  · exact u2
  · exact v2
theorem VdB_3 {h : Hp} {a : Int} {i j k : Nat} (hij : i < j) (hjk : j < k) (hk : k < NB h a) : VdB h a (UUB h a i) (UUB h a j) (UUB h a k) := by
  obtain ⟨u1, u2⟩ := UUB_in (show i < NB h a by omega)
  obtain ⟨v1, v2⟩ := UUB_in (show j < NB h a by omega)
  obtain ⟨w1, w2⟩ := UUB_in hk
  have lt := UUB_lt hij (show j < NB h a by omega)
  have lt2 := UUB_lt hjk hk
  refine ⟨⟨⟨Or.inr u1, Or.inr v1, Or.inr w1⟩, Or.inr ⟨by omega, lt⟩, Or.inr ⟨by omega, lt2⟩⟩, fun q hq => ?_⟩
  have := tlM_le (UUB h a i) (UUB h a j) (UUB h a k)
  rcases (by omega : q = 0 ∨ q = 1 ∨ q = 2) with rfl | rfl | rfl
  · exact u2
  · exact v2
  · exact w2
/-- the sets in their order, from some on -/
noncomputable def on1B (h : Hp) (a : Int) (i : Nat) (st : Int × Int × Int × Int) : Int × Int × Int × Int := frB (fun i st => updB h a st (UUB h a i) (-1) (-1)) (NB h a - i) i st
noncomputable def tw2B (h : Hp) (a : Int) (i j : Nat) (st : Int × Int × Int × Int) : Int × Int × Int × Int := frB (fun j st => updB h a st (UUB h a i) (UUB h a j) (-1)) (NB h a - j) j st
noncomputable def on2B (h : Hp) (a : Int) (i : Nat) (st : Int × Int × Int × Int) : Int × Int × Int × Int := frB (fun i st => tw2B h a i (i + 1) st) (NB h a - i) i st
noncomputable def th3B (h : Hp) (a : Int) (i j k : Nat) (st : Int × Int × Int × Int) : Int × Int × Int × Int := frB (fun k st => updB h a st (UUB h a i) (UUB h a j) (UUB h a k)) (NB h a - k) k st
noncomputable def th2B (h : Hp) (a : Int) (i j : Nat) (st : Int × Int × Int × Int) : Int × Int × Int × Int := frB (fun j st => th3B h a i j (j + 1) st) (NB h a - j) j st
noncomputable def on3B (h : Hp) (a : Int) (i : Nat) (st : Int × Int × Int × Int) : Int × Int × Int × Int := frB (fun i st => th2B h a i (i + 1) st) (NB h a - i) i st
/-- the best -/
noncomputable def bsB (h : Hp) (a : Int) : Int × Int × Int × Int := on3B h a 0 (on2B h a 0 (on1B h a 0 (updB h a (-1, 0, 0, 0) (-1) (-1) (-1))))
/-- the class lists the wires -/
theorem listUsable_ok {h x : Hp} {a : Int} (hN : Nums 40 18 h) (j4 : J4 h) (ha : 0 ≤ a ∧ a < wn 18 h) (e : ∀ y i, (y = 18 ∨ y = 24 ∨ y = 54) → x y i = h y i) : En (XX4_listUsable 17 a x) (fun _ g => (∀ y i, ¬ ((y = 53 ∧ i = 3) ∨ y = 55) → g y i = x y i) ∧ g 53 3 = (NB h a : Int) ∧ ∀ i, i < NB h a → g 55 i = UUB h a i) := by
  have lt := Pl_lt (by decide) hN
  have hle := NB_le (a := a) j4 (by omega)
  unfold XX4_listUsable
  rw [hm_eq]
  have o0 : ∀ y i, ¬ ((y = 53 ∧ i = 3) ∨ y = 55) → wr x 53 3 0 y i = x y i := fun y i hh => wq_ne (by omega)
  have v0 : wr x 53 3 0 53 3 = 0 := wr_at
  generalize wr x 53 3 0 = x0 at *
  unfold XX4_listUsable_L7
  refine En_lup2 (fun _ l _ => (50 - l).toNat) (fun l2 l g => a = l2 ∧ 0 ≤ l ∧ l ≤ wn 18 h ∧ (∀ y i, ¬ ((y = 53 ∧ i = 3) ∨ y = 55) → g y i = x y i) ∧ g 53 3 = (cntB (PB h a) l.toNat : Int) ∧ ∀ i, i < cntB (PB h a) l.toNat → g 55 i = UB (PB h a) l.toNat i) ?_ FU _ _ _ (by unfold FU; omega) ⟨rfl, by omega, by omega, o0, v0, fun i hi => absurd hi (Nat.not_lt_zero _)⟩
  rintro self l2 l g ih ⟨rfl, c0, c1, c2, c3, c4⟩
  obtain ⟨l, rfl⟩ := Int.eq_ofNat_of_zero_le c0
  rw [Int.toNat_natCast] at c3 c4
  have g18 : g 18 = h 18 := funext (fun i => by rw [c2 18 i (by omega), e 18 i (by omega)])
  have hNg : Nums 40 18 g := by unfold Nums at *; rw [g18]; exact hN
  unfold XX4_listUsable_b7
  rw [show 17 + 1 = 18 from rfl, wires_eq (by decide) hNg, cal_eq, wn_congr g18]
  by_cases q : wn 18 h ≤ l
  · rw [if_pos q]
    have el : (wn 18 h).toNat = l := by omega
    refine En_some ⟨c2, ?_, fun i hi => ?_⟩
    · rw [c3]; unfold NB; rw [el]
    · unfold NB at hi; unfold UUB; rw [el] at hi ⊢; exact c4 i hi
  rw [if_neg q]
  have hle2 := cntB_up (PB h a) (show l ≤ (wn 18 h).toNat by omega)
  have hle3 : cntB (PB h a) l ≤ NB h a := hle2
  by_cases q2 : 10 ≤ g 53 3
  · rw [if_pos q2]
    have eN : NB h a = cntB (PB h a) l := by omega
    refine En_some ⟨c2, by rw [c3, eN], fun i hi => ?_⟩
    unfold UUB
    rw [UB_up (l := l) (by omega) (by omega)]
    exact c4 i (by omega)
  rw [if_neg q2, inb_pos (by omega), Int.toNat_natCast, c2 54 l (by omega), e 54 l (by omega)]
  have skip : PB h a l = false → En (XX4_listUsable_p65 17 self a l g) (fun _ g => (∀ y i, ¬ ((y = 53 ∧ i = 3) ∨ y = 55) → g y i = x y i) ∧ g 53 3 = (NB h a : Int) ∧ ∀ i, i < NB h a → g 55 i = UUB h a i) := by
    intro hp
    unfold XX4_listUsable_p65
    rw [chk_pos (by omega)]
    have ec : cntB (PB h a) (l + 1) = cntB (PB h a) l := by rw [cntB_s, if_neg (by rw [hp]; decide)]; rfl
    refine ih _ _ _ (by omega) ⟨rfl, by omega, by omega, c2, ?_, ?_⟩
    · rw [show ((l : Int) + 1).toNat = l + 1 by omega, ec]; exact c3
    · rw [show ((l : Int) + 1).toNat = l + 1 by omega, ec]
      intro i hi
      rw [UB_old hi]; exact c4 i hi
  by_cases q3 : h 54 l < 0
  · rw [if_pos q3]
    exact skip (by unfold PB; rw [decide_eq_false (by omega)]; rfl)
  rw [if_neg q3, hangsOn_eq (by omega) (by omega), cal_eq, show 17 + 7 = 24 from rfl, Int.toNat_natCast, show g 24 l = h 24 l by rw [c2 24 l (by omega), e 24 l (by omega)]]
  by_cases q4 : tb (h 24 l) a.toNat = true
  · rw [if_pos q4, if_neg n10]
    exact skip (by unfold PB; rw [q4]; simp)
  · rw [if_neg q4, if_pos rfl]
    have hp : PB h a l = true := by unfold PB; rw [decide_eq_true (by omega), Bool.eq_false_iff.mpr q4]; rfl
    have ec : cntB (PB h a) (l + 1) = cntB (PB h a) l + 1 := by rw [cntB_s, if_pos hp]
    have w3 : wr g 55 (g 53 3).toNat l 53 3 = g 53 3 := wq_ne (by omega)
    rw [inb_pos (by omega), hm_eq, w3, chk_pos (by omega), hm_eq]
    unfold XX4_listUsable_p65
    rw [chk_pos (by omega)]
    refine ih _ _ _ (by omega) ⟨rfl, by omega, by omega, fun y i hh => by rw [wq_ne (by omega), wq_ne (by omega)]; exact c2 y i hh, ?_, ?_⟩
    · rw [show ((l : Int) + 1).toNat = l + 1 by omega, ec, wr_at]; omega
    · rw [show ((l : Int) + 1).toNat = l + 1 by omega, ec]
      intro i hi
      rw [wq_ne (by omega), wr_row]
      by_cases t : i = (g 53 3).toNat
      · rw [if_pos t]
        have : i = cntB (PB h a) l := by omega
        subst this
        rw [UB_new hp]
      · rw [if_neg t, UB_old (by omega)]; exact c4 i (by omega)
