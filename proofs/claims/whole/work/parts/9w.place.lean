/-- how many a set holds -/
def pcB (S : Nat) : Nat := cntB (fun s => S.testBit s) 12
theorem pcB_0 : pcB 0 = 0 := cntB_none (fun i _ => Nat.zero_testBit i)
theorem or_bit (S s c : Nat) : (S ||| 2 ^ s).testBit c = (S.testBit c || decide (c = s)) := by
  rw [Nat.testBit_or, Nat.testBit_two_pow]
  congr 1
  by_cases q : c = s
  · subst q; simp
  · rw [decide_eq_false q, decide_eq_false (fun t => q t.symm)]
theorem pcB_or {S s : Nat} (hs : s < 12) (hb : S.testBit s = false) : pcB (S ||| 2 ^ s) = pcB S + 1 :=
  cntB_set (j := s) hs hb (by show (S ||| 2 ^ s).testBit s = true; rw [or_bit]; simp) (fun i _ hne => by show (S ||| 2 ^ s).testBit i = S.testBit i; rw [or_bit, decide_eq_false hne, Bool.or_false])
theorem or_lt {S s N : Nat} (hS : S < 2 ^ N) (hs : s < N) : S ||| 2 ^ s < 2 ^ N := Nat.or_lt_two_pow hS (Nat.pow_lt_pow_right (by decide) hs)
theorem or_gt {S s : Nat} (hb : S.testBit s = false) : S < S ||| 2 ^ s := by
  have h1 : S ≤ S ||| 2 ^ s := Nat.left_le_or
  have h2 : S ≠ S ||| 2 ^ s := fun t => by
    have : (S ||| 2 ^ s).testBit s = true := by rw [or_bit]; simp
    rw [← t, hb] at this; cases this
  omega
/-- the least of some, and none is -1 -/
def mnP (v : Nat → Int) : Nat → Int
  | 0 => -1
  | n + 1 => if v n = -1 then mnP v n else if mnP v n = -1 then v n else if mnP v n ≤ v n then mnP v n else v n
theorem mnP_s (v : Nat → Int) (n : Nat) : mnP v (n + 1) = if v n = -1 then mnP v n else if mnP v n = -1 then v n else if mnP v n ≤ v n then mnP v n else v n := rfl
theorem mnP_in {v : Nat → Int} : ∀ {n : Nat}, mnP v n ≠ -1 → ∃ s, s < n ∧ v s = mnP v n := by
  intro n
  induction n with
  | zero => intro h; exact absurd rfl h
  | succ n ih =>
    intro h
    rw [mnP_s] at h ⊢
    by_cases q : v n = -1
    · rw [if_pos q] at h ⊢
      obtain ⟨s, h1, h2⟩ := ih h
      exact ⟨s, by omega, h2⟩
    · rw [if_neg q] at h ⊢
      by_cases q2 : mnP v n = -1
      · rw [if_pos q2]; exact ⟨n, by omega, rfl⟩
      · rw [if_neg q2]
        by_cases q3 : mnP v n ≤ v n
        · rw [if_pos q3]
          obtain ⟨s, h1, h2⟩ := ih q2
          exact ⟨s, by omega, h2⟩
        · rw [if_neg q3]; exact ⟨n, by omega, rfl⟩
theorem mnP_b {v : Nat → Int} {b : Int} {n : Nat} (h : ∀ s, s < n → v s = -1 ∨ (0 ≤ v s ∧ v s ≤ b)) : mnP v n = -1 ∨ (0 ≤ mnP v n ∧ mnP v n ≤ b) := by
  by_cases q : mnP v n = -1
  · exact Or.inl q
  · obtain ⟨s, h1, h2⟩ := mnP_in q
    rw [← h2] at q ⊢
    exact h s h1
/-- how far a spare is from a wire, and the length of its wires as a node -/
def dsB (h : Hp) (s w : Nat) : Int := iabs (h 153 s - h 150 w) + iabs (h 154 s - h 151 w)
def lfB (h : Hp) (s : Nat) (x : Int) : Int := if 100 ≤ x ∧ x < 100 + h 56 5 then dsB h s (h 58 (x - 100).toNat).toNat else 0
def lnB (h : Hp) (i s : Nat) : Int := dsB h s (h 57 (h 64 i).toNat).toNat + lfB h s (h 62 i) + lfB h s (h 63 i)
def vlB (h : Hp) (i S : Nat) (R : Nat → Int) (s : Nat) : Int := if S.testBit s = false ∧ (h 68 s = h 61 i ∧ h 155 s = 0) ∧ R (S ||| 2 ^ s) ≠ -1 then lnB h i s + R (S ||| 2 ^ s) else -1
/-- the least length of the nodes that are left -/
def rsP (h : Hp) (N M : Nat) : Nat → Nat → Int
  | 0, _ => 0
  | d + 1, S => mnP (vlB h (M - (d + 1)) S (rsP h N M d)) N
theorem iabs_b {x y : Int} (hx : 0 ≤ x ∧ x < 32) (hy : 0 ≤ y ∧ y < 32) : 0 ≤ iabs (x - y) ∧ iabs (x - y) ≤ 31 := by
  unfold iabs; split <;> omega
/-- what is known of spares and patch -/
def PlB (h : Hp) (N M : Nat) : Prop := J2 h ∧ J9 h ∧ Pat h ∧ h 67 0 = (N : Int) ∧ h 56 8 = (M : Int) ∧ N ≤ 12 ∧ M ≤ 8 ∧ 0 ≤ N ∧ wn 18 h ≤ 48 ∧ 0 ≤ sc 18 h
theorem PlB_ds {h : Hp} {N M s w : Nat} (p : PlB h N M) (hs : s < N) (hw : w < 48) : 0 ≤ dsB h s w ∧ dsB h s w ≤ 62 := by
  obtain ⟨j2, j9, _, e0, _⟩ := p
  obtain ⟨a1, a2, _⟩ := j2 w hw
  obtain ⟨_, b1, b2, _⟩ := j9.2.2.2.2 s (by omega)
  have := iabs_b b1 a1
  have := iabs_b b2 a2
  unfold dsB; omega
theorem PlB_pt {h : Hp} {N M i : Nat} (p : PlB h N M) (hi : i < M) : (0 ≤ h 64 i ∧ h 64 i < 2) ∧ 0 ≤ h 57 (h 64 i).toNat ∧ h 57 (h 64 i).toNat < 48 := by
  obtain ⟨_, _, ⟨_, p2, _, p4, p5, _, _, p8, _⟩, _, e8, _, _, _, w48, s0⟩ := p
  obtain ⟨_, _, _, ⟨_, o1, o2⟩, _⟩ := p8 i (by omega)
  have := p5 (h 64 i).toNat (by omega)
  omega
theorem PlB_tw {h : Hp} {N M : Nat} (p : PlB h N M) {x : Int} (hx : 100 ≤ x ∧ x < 100 + h 56 5) : (0 ≤ x - 100 ∧ x - 100 < 3) ∧ h 160 (x - 100).toNat = h 58 (x - 100).toNat ∧ 0 ≤ h 58 (x - 100).toNat ∧ h 58 (x - 100).toNat < 48 := by
  obtain ⟨_, _, ⟨_, _, p3, _, _, _, p7, _⟩, _, _, _, _, _, w48, s0⟩ := p
  have := p7 (x - 100).toNat (by omega)
  omega
theorem PlB_lf {h : Hp} {N M s : Nat} (p : PlB h N M) (hs : s < N) (x : Int) : 0 ≤ lfB h s x ∧ lfB h s x ≤ 62 := by
  unfold lfB
  split
  · next t => have := PlB_tw p t
              exact PlB_ds p hs (by omega)
  · omega
theorem PlB_ln {h : Hp} {N M i s : Nat} (p : PlB h N M) (hi : i < M) (hs : s < N) : 0 ≤ lnB h i s ∧ lnB h i s ≤ 186 := by
  have a := PlB_pt p hi
  have b := PlB_ds p hs (show (h 57 (h 64 i).toNat).toNat < 48 by omega)
  have c := PlB_lf p hs (h 62 i)
  have d := PlB_lf p hs (h 63 i)
  unfold lnB; omega
theorem rsP_b {h : Hp} {N M : Nat} (p : PlB h N M) : ∀ d, d ≤ M → ∀ S, rsP h N M d S = -1 ∨ (0 ≤ rsP h N M d S ∧ rsP h N M d S ≤ 186 * d) := by
  intro d
  induction d with
  | zero => intro _ S; right; show 0 ≤ (0 : Int) ∧ (0 : Int) ≤ _; omega
  | succ d ih =>
    intro hd S
    refine mnP_b (fun s hs => ?_)
    unfold vlB
    split
    · next t =>
      have a := (ih (by omega) (S ||| 2 ^ s)).resolve_left t.2.2
      have b := PlB_ln p (show M - (d + 1) < M by omega) hs
      right; omega
    · exact Or.inl rfl
/-- the first that is right -/
def fsP (q : Nat → Bool) : Nat → Nat → Nat
  | 0, s => s
  | k + 1, s => if q s = true then s else fsP q k (s + 1)
theorem fsP_eq {q : Nat → Bool} : ∀ {k a s : Nat}, a ≤ s → s < a + k → q s = true → (∀ t, a ≤ t → t < s → q t = false) → fsP q k a = s := by
  intro k
  induction k with
  | zero => intro a s h1 h2; omega
  | succ k ih =>
    intro a s h1 h2 h3 h4
    show (if q a = true then a else fsP q k (a + 1)) = s
    by_cases t : a = s
    · subst t; rw [if_pos h3]
    · rw [h4 a (by omega) (by omega), if_neg (by decide)]
      exact ih (by omega) (by omega) h3 (fun u h5 h6 => h4 u (by omega) h6)
def hitB (h : Hp) (N M i S s : Nat) : Bool := decide (vlB h i S (rsP h N M (M - (i + 1))) s = rsP h N M (M - i) S)
def chF (h : Hp) (N M i S : Nat) : Nat := fsP (hitB h N M i S) N 0
def stP (h : Hp) (N M : Nat) : Nat → Nat
  | 0 => 0
  | i + 1 => stP h N M i ||| 2 ^ chF h N M i (stP h N M i)
/-- on the way -/
def wayB (h : Hp) (N M i S : Nat) : Prop := S < 2 ^ N ∧ pcB S = i ∧ rsP h N M (M - i) S ≠ -1
theorem way_hit {h : Hp} {N M i S : Nat} (p : PlB h N M) (hi : i < M) (w : wayB h N M i S) : (∃ s, s < N ∧ hitB h N M i S s = true) ∧ ∀ s, s < N → hitB h N M i S s = true → (∀ t, t < s → hitB h N M i S t = false) → s = chF h N M i S ∧ wayB h N M (i + 1) (S ||| 2 ^ s) := by
  have e : rsP h N M (M - i) S = mnP (vlB h i S (rsP h N M (M - (i + 1)))) N := by
    have : M - i = (M - (i + 1)) + 1 := by omega
    rw [this]
    show mnP (vlB h (M - (M - (i + 1) + 1)) S _) N = _
    rw [show M - (M - (i + 1) + 1) = i by omega]
  refine ⟨?_, fun s hs hq hl => ⟨(fsP_eq (Nat.zero_le _) (by omega) hq (fun t _ ht => hl t ht)).symm, ?_⟩⟩
  · obtain ⟨s, h1, h2⟩ := mnP_in (by rw [← e]; exact w.2.2)
    exact ⟨s, h1, decide_eq_true (by rw [h2, e])⟩
  · have hq := of_decide_eq_true hq
    have hne : vlB h i S (rsP h N M (M - (i + 1))) s ≠ -1 := by rw [hq]; exact w.2.2
    unfold vlB at hne
    split at hne
    · next t => exact ⟨or_lt w.1 hs, by rw [pcB_or (by have := p.2.2.2.2.2.1; omega) t.1, w.2.1], t.2.2⟩
    · exact absurd rfl hne
