def cntB (f : Nat → Bool) : Nat → Nat
  | 0 => 0
  | n + 1 => cntB f n + if f n = true then 1 else 0
theorem cntB_le (f : Nat → Bool) (n : Nat) : cntB f n ≤ n := by
  induction n with
  | zero => exact Nat.le_refl _
  | succ n ih => unfold cntB; split <;> omega
theorem cntB_congr {f g : Nat → Bool} {n : Nat} (h : ∀ i, i < n → f i = g i) : cntB f n = cntB g n := by
  induction n with
  | zero => rfl
  | succ n ih => unfold cntB; rw [ih (fun i hi => h i (by omega)), h n (by omega)]
theorem cntB_full {f : Nat → Bool} {n : Nat} (h : cntB f n = n) : ∀ i, i < n → f i = true := by
  induction n with
  | zero => intro i hi; exact absurd hi (Nat.not_lt_zero _)
  | succ n ih =>
    intro i hi
    unfold cntB at h
    have := cntB_le f n
    by_cases q : f n = true
    · rw [if_pos q] at h
      by_cases qi : i = n
      · rw [qi]; exact q
      · exact ih (by omega) i (by omega)
    · rw [if_neg q] at h; omega
theorem cntB_set {f g : Nat → Bool} {n j : Nat} (hj : j < n) (h0 : f j = false) (h1 : g j = true) (h : ∀ i, i < n → i ≠ j → g i = f i) : cntB g n = cntB f n + 1 := by
  induction n with
  | zero => exact absurd hj (Nat.not_lt_zero _)
  | succ n ih =>
    unfold cntB
    by_cases q : j = n
    · subst q
      rw [cntB_congr (fun i hi => h i (by omega) (by omega)), h0, h1]
      simp
    · rw [ih (by omega) (fun i hi hne => h i (by omega) hne), h n (by omega) (by omega)]
      omega
theorem cntB_all {f : Nat → Bool} {n : Nat} (h : ∀ i, i < n → f i = true) : cntB f n = n := by
  induction n with
  | zero => rfl
  | succ n ih => unfold cntB; rw [ih (fun i hi => h i (by omega)), h n (by omega)]; rfl
theorem cntB_none {f : Nat → Bool} {n : Nat} (h : ∀ i, i < n → f i = false) : cntB f n = 0 := by
  induction n with
  | zero => rfl
  | succ n ih => unfold cntB; rw [ih (fun i hi => h i (by omega)), h n (by omega)]; rfl
theorem cntB_lo {f : Nat → Bool} {n m : Nat} (hm : m ≤ n) (h1 : ∀ i, i < m → f i = true) (h2 : ∀ i, m ≤ i → i < n → f i = false) : cntB f n = m := by
  induction n with
  | zero => have : m = 0 := by omega
            rw [this]; rfl
  | succ n ih =>
    unfold cntB
    by_cases q : m = n + 1
    · rw [cntB_all (fun i hi => h1 i (by omega)), h1 n (by omega), q]; rfl
    · rw [ih (by omega) (fun i hi hin => h2 i hi (by omega)), h2 n (by omega) (by omega)]; rfl
/-- a plan whose numbers are as they must be -/
def Nums (lim : Int) (p : Nat) (h : Hp) : Prop :=
  0 ≤ h p 0 ∧ 0 ≤ h p 1 ∧ h p 1 ≤ 2 ∧ 1 ≤ h p 0 + h p 1 ∧ h p 0 + h p 1 ≤ 8 ∧ 1 ≤ h p 2 ∧ h p 2 ≤ 4 ∧ 0 ≤ h p 3 ∧ h p 3 ≤ lim
def sc (p : Nat) (h : Hp) : Int := h p 0 + h p 1
def wn (p : Nat) (h : Hp) : Int := h p 0 + h p 1 + h p 3
def Pl (lim : Int) (p : Nat) (h : Hp) : Prop :=
  Nums lim p h ∧ PinOK (sc p h) (wn p h) (h (p + 1)) (h (p + 2)) ∧ Acy (sc p h) (wn p h) (h (p + 1)) (h (p + 2)) ∧
  (∀ k : Nat, (k : Int) < h p 2 + h p 1 → 0 ≤ h (p + 3) k ∧ h (p + 3) k < wn p h) ∧ (∀ w : Nat, w < 48 → 0 ≤ h (p + 4) w ∧ h (p + 4) w < 1024)
theorem sources_eq {lim : Int} {p : Nat} {h : Hp} (hN : Nums lim p h) : XX8_sources p h = some (sc p h, h) := by
  obtain ⟨h0, h1, h2, h3, h4, h5, h6, h7, h8⟩ := hN
  unfold XX8_sources sc; rw [chk_pos (by omega)]
theorem wires_eq {lim : Int} {p : Nat} {h : Hp} (hl : lim ≤ 40) (hN : Nums lim p h) : XX8_wires p h = some (wn p h, h) := by
  obtain ⟨h0, h1, h2, h3, h4, h5, h6, h7, h8⟩ := hN
  unfold XX8_wires wn; rw [chk_pos (by omega), chk_pos (by omega)]
theorem seenCount_eq {lim : Int} {p : Nat} {h : Hp} (hN : Nums lim p h) : XX8_seenCount p h = some (h p 2 + h p 1, h) := by
  obtain ⟨h0, h1, h2, h3, h4, h5, h6, h7, h8⟩ := hN
  unfold XX8_seenCount; rw [chk_pos (by omega)]
theorem isWire_eq {lim : Int} {p : Nat} {h : Hp} (hl : lim ≤ 40) (hN : Nums lim p h) (x : Int) : XX8_isWire p x h = some (if 0 ≤ x ∧ x < wn p h then 1 else 0, h) := by
  unfold XX8_isWire
  rw [wires_eq hl hN, cal_eq, zb_0, zb_1]
  by_cases q : x < 0
  · rw [if_pos q, if_neg (by omega)]
  · rw [if_neg q]
    by_cases q2 : wn p h ≤ x
    · rw [if_pos q2, if_neg (by omega)]
    · rw [if_neg q2, if_pos (by omega)]
theorem isGate_eq {lim : Int} {p : Nat} {h : Hp} (hl : lim ≤ 40) (hN : Nums lim p h) (x : Int) : XX8_isGate p x h = some (if sc p h ≤ x ∧ x < wn p h then 1 else 0, h) := by
  unfold XX8_isGate
  rw [sources_eq hN, cal_eq, wires_eq hl hN, cal_eq, zb_0, zb_1]
  by_cases q : x < sc p h
  · rw [if_pos q, if_neg (by omega)]
  · rw [if_neg q]
    by_cases q2 : wn p h ≤ x
    · rw [if_pos q2, if_neg (by omega)]
    · rw [if_neg q2, if_pos (by omega)]
theorem Pl_lt {lim : Int} {p : Nat} {h : Hp} (hl : lim ≤ 40) (hN : Nums lim p h) : 1 ≤ sc p h ∧ sc p h ≤ 8 ∧ wn p h ≤ 48 ∧ sc p h ≤ wn p h ∧ wn p h = sc p h + h p 3 := by
  obtain ⟨h0, h1, h2, h3, h4, h5, h6, h7, h8⟩ := hN
  unfold sc wn
  omega
theorem pinsReady_ok {p : Nat} {h : Hp} {s n : Int} (hP : PinOK s n (h (p + 1 + 1)) (h (p + 1 + 2))) (hn : n ≤ 48) (w : Nat) (hw : s ≤ w) (hwn : (w : Int) < n) (rd : Int) :
    En (XX6_pinsReady p w rd h) (fun r h1 => h1 = h ∧ ((r = 1 ∧ ∀ k : Nat, (k : Int) < pinC (h (p + 1 + 1) w).toNat → tb rd (h (p + 1 + 2) (3 * w + k)).toNat = true) ∨ (r = 0 ∧ ∃ k : Nat, (k : Int) < pinC (h (p + 1 + 1) w).toNat ∧ tb rd (h (p + 1 + 2) (3 * w + k)).toNat = false))) := by
  obtain ⟨hk, hpin⟩ := hP w hw hwn
  have hb := pinC_b (h (p + 1 + 1) w).toNat
  refine En_lup3 (fun _ _ l4 _ => (3 - l4).toNat) (fun l1 l2 l4 h1 => l1 = w ∧ l2 = rd ∧ h1 = h ∧ 0 ≤ l4 ∧ l4 ≤ 3 ∧ ∀ k : Nat, (k : Int) < l4 → (k : Int) < pinC (h (p + 1 + 1) w).toNat → tb rd (h (p + 1 + 2) (3 * w + k)).toNat = true) ?_ FU _ _ _ _ (by unfold FU; omega) ⟨rfl, rfl, rfl, by omega, by omega, fun k hk => by omega⟩
  rintro self l1 l2 l4 h1 ih ⟨rfl, rfl, rfl, a0, a1, a2⟩
  unfold XX6_pinsReady_b3
  rw [inb_pos (by omega), Int.toNat_natCast, inb_pos (by omega)]
  by_cases q : pinC (h1 (p + 1 + 1) w).toNat ≤ l4
  · rw [if_pos q]
    exact En_some ⟨rfl, Or.inl ⟨rfl, fun k hk => a2 k (by omega) hk⟩⟩
  · rw [if_neg q]
    obtain ⟨j, rfl⟩ := Int.eq_ofNat_of_zero_le a0
    have hj := (hpin j (by omega)).1 (by omega)
    rw [chk_pos (by omega), chk_pos (by omega), inb_pos (by omega), show (3 * (w : Int) + (j : Int)).toNat = 3 * w + j by omega]
    by_cases q2 : jcmp (jand (jshr l2 (h1 (p + 1 + 2) (3 * w + j))) 1) 0 = 0
    · rw [if_pos q2]
      exact En_some ⟨rfl, Or.inr ⟨rfl, j, by omega, (jbit0 l2 hj.1 (by omega)).1 q2⟩⟩
    · rw [if_neg q2, chk_pos (by omega)]
      refine ih _ _ _ _ (by omega) ⟨rfl, rfl, rfl, by omega, by omega, fun k hk hk2 => ?_⟩
      by_cases q3 : k = j
      · rw [q3]
        have := mt (jbit0 l2 hj.1 (by omega)).2 q2
        simpa using this
      · exact a2 k (by omega) hk2
/-- what sorting has done so far: the order of m gates, those that are ready -/
def Srt (s n : Int) (kd pn od : Nat → Int) (R : Nat → Bool) (m : Int) : Prop :=
  0 ≤ m ∧ m ≤ n - s ∧ TO (fun w => (w : Int) < s) m.toNat kd pn od ∧ (∀ i : Nat, (i : Int) < m → od i < n) ∧
  (∀ w : Nat, (w : Int) < s → R w = true) ∧ (∀ w : Nat, s ≤ w → (w : Int) < n → (R w = true ↔ ∃ i : Nat, (i : Int) < m ∧ od i = (w : Int))) ∧ (cntB R n.toNat : Int) = s + m
theorem Srt_push {s n : Int} {kd pn od od2 : Nat → Int} {R R2 : Nat → Bool} {m : Int} (hP : PinOK s n kd pn) (hs : 0 ≤ s) (h : Srt s n kd pn od R m) {w : Nat} (hw : s ≤ w) (hn : (w : Int) < n) (hR : R w = false) (hpin : ∀ k : Nat, (k : Int) < pinC (kd w).toNat → R (pn (3 * w + k)).toNat = true)
    (e1 : ∀ i : Nat, i ≠ m.toNat → od2 i = od i) (e2 : od2 m.toNat = (w : Int)) (r1 : ∀ v, v ≠ w → R2 v = R v) (r2 : R2 w = true) : m < n - s ∧ Srt s n kd pn od2 R2 (m + 1) := by
  obtain ⟨h0, h1, hT, hlt, hS, hG, hC⟩ := h
  have hc : cntB R2 n.toNat = cntB R n.toNat + 1 := cntB_set (j := w) (by omega) hR r2 (fun i _ hne => r1 i hne)
  have hcl := cntB_le R2 n.toNat
  refine ⟨by omega, by omega, by omega, ?_, ?_, ?_, ?_, by omega⟩
  · rw [show (m + 1).toNat = m.toNat + 1 by omega]
    refine TO_push hT (fun i hi => e1 i (by omega)) e2 (by omega) (fun j hj e => ?_) (fun k hk => ?_)
    · have := (hG w hw hn).2 ⟨j, by omega, e⟩
      rw [hR] at this; cases this
    · have hk3 : k < 3 := by have := (pinC_b (kd w).toNat).2; omega
      have hp := ((hP w hw hn).2 k hk3).1 hk
      by_cases q : pn (3 * w + k) < s
      · exact Or.inl (by omega)
      · obtain ⟨i, hi, e⟩ := (hG (pn (3 * w + k)).toNat (by omega) (by omega)).1 (hpin k hk)
        exact Or.inr ⟨i, by omega, by omega⟩
  · intro i hi
    by_cases q : i = m.toNat
    · rw [q, e2]; exact hn
    · rw [e1 i q]; exact hlt i (by omega)
  · intro v hv
    rw [r1 v (by omega)]; exact hS v hv
  · intro v hv hvn
    by_cases q : v = w
    · subst q
      exact ⟨fun _ => ⟨m.toNat, by omega, e2⟩, fun _ => r2⟩
    · rw [r1 v q, hG v hv hvn]
      constructor
      · rintro ⟨i, hi, e⟩; exact ⟨i, by omega, by rw [e1 i (by omega)]; exact e⟩
      · rintro ⟨i, hi, e⟩
        by_cases qi : i = m.toNat
        · rw [qi, e2] at e; omega
        · exact ⟨i, by omega, by rw [← e1 i qi]; exact e⟩
/-- all gates in order -/
def Ord (s n : Int) (kd pn od : Nat → Int) : Prop :=
  TO (fun w => (w : Int) < s) (n - s).toNat kd pn od ∧ (∀ i : Nat, (i : Int) < n - s → s ≤ od i ∧ od i < n) ∧ (∀ w : Nat, s ≤ w → (w : Int) < n → ∃ i : Nat, (i : Int) < n - s ∧ od i = (w : Int))
theorem Srt_done {s n : Int} {kd pn od : Nat → Int} {R : Nat → Bool} {m : Int} (hs : 0 ≤ s) (h : Srt s n kd pn od R m) (hm : n - s ≤ m) : Ord s n kd pn od := by
  obtain ⟨h0, h1, hT, hlt, hS, hG, hC⟩ := h
  have e : m = n - s := by omega
  subst e
  refine ⟨hT, fun i hi => ⟨?_, hlt i hi⟩, fun w hw hn => ?_⟩
  · have := hT.1 i (by omega); omega
  · exact (hG w hw hn).1 (cntB_full (f := R) (n := n.toNat) (by omega) w (by omega))
