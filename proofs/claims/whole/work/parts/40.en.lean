theorem chk_pos {x : Int} {X : OR} (h0 : -2147483648 ≤ x ∧ x < 2147483648) : chk x X = X := if_pos h0
theorem inb_pos {x : Int} {n : Nat} {X : OR} (h0 : 0 ≤ x ∧ x < n) : inb x n X = X := if_pos h0
theorem zb_pos {x : Int} {X : OR} (h0 : x = 0 ∨ x = 1) : zb x X = X := if_pos h0
theorem zb_0 {X : OR} : zb 0 X = X := rfl
theorem zb_1 {X : OR} : zb 1 X = X := rfl
theorem asr_pos {p : Prop} [Decidable p] {X : OR} (h0 : p) : asr p X = X := if_pos h0
theorem acp_pos {x y z : Int} {n m : Nat} {X : OR} (h0 : 0 ≤ x ∧ 0 ≤ y ∧ 0 ≤ z ∧ x + z ≤ n ∧ y + z ≤ m) : acp x y z n m X = X := if_pos h0
theorem nm_eq {x : Int} {f : Int → OR} : nm x f = f x := rfl
theorem nmP_eq {x : Nat} {f : Nat → OR} : nmP x f = f x := rfl
theorem hm_eq {h : Hp} {f : Hp → OR} : hm h f = f h := rfl
theorem cal_eq {r : Int} {h : Hp} {f : Int → Hp → OR} : cal (some (r, h)) f = f r h := rfl
theorem wq_at {h : Hp} {a i : Nat} {v : Int} : wr h a i v a i = v := if_pos ⟨rfl, rfl⟩
theorem wq_is {h : Hp} {a i b j : Nat} {v : Int} (e : b = a ∧ j = i) : wr h a i v b j = v := if_pos e
theorem wq_ne {h : Hp} {a i b j : Nat} {v : Int} (e : ¬ (b = a ∧ j = i)) : wr h a i v b j = h b j := if_neg e
theorem wq_ap {h : Hp} {a i b j : Nat} {v : Int} : wr h a i v b j = if b = a ∧ j = i then v else h b j := rfl
theorem cpy_is {h : Hp} {a i b j n x y : Nat} (e : x = b ∧ j ≤ y ∧ y < j + n) : cpy h a i b j n x y = h a (i + (y - j)) := if_pos e
theorem cpy_ne {h : Hp} {a i b j n x y : Nat} (e : ¬ (x = b ∧ j ≤ y ∧ y < j + n)) : cpy h a i b j n x y = h x y := if_neg e
theorem jcmp0 {a b : Int} : jcmp a b = 0 ↔ a = b := by
  unfold jcmp
  by_cases q : b < a
  · rw [if_pos q]; omega
  · rw [if_neg q]
    by_cases q2 : a = b
    · rw [if_pos q2]; simp [q2]
    · rw [if_neg q2]; simp [q2]
def En (X : OR) (P : Int → Hp → Prop) : Prop := ∃ r h, X = some (r, h) ∧ P r h
theorem En_some {r : Int} {h : Hp} {P : Int → Hp → Prop} (p : P r h) : En (some (r, h)) P := ⟨r, h, rfl, p⟩
theorem En_mono {X : OR} {P Q : Int → Hp → Prop} (e : En X P) (k : ∀ r h, X = some (r, h) → P r h → Q r h) : En X Q := by
  obtain ⟨r, h, e, p⟩ := e
  exact ⟨r, h, e, k r h e p⟩
theorem En_cal {Y : OR} {f : Int → Hp → OR} {P Q : Int → Hp → Prop} (e : En Y Q) (k : ∀ r h, Y = some (r, h) → Q r h → En (f r h) P) : En (cal Y f) P := by
  obtain ⟨r, h, e, q⟩ := e
  rw [e]
  exact k r h e q
theorem En_ite {c : Prop} [Decidable c] {X Y : OR} {P : Int → Hp → Prop} (a : c → En X P) (b : ¬ c → En Y P) : En (if c then X else Y) P := by
  split
  · next q => exact a q
  · next q => exact b q
theorem En_chk {x : Int} {X : OR} {P : Int → Hp → Prop} (h0 : -2147483648 ≤ x ∧ x < 2147483648) (k : En X P) : En (chk x X) P := by rw [chk_pos h0]; exact k
theorem En_inb {x : Int} {n : Nat} {X : OR} {P : Int → Hp → Prop} (h0 : 0 ≤ x ∧ x < n) (k : En X P) : En (inb x n X) P := by rw [inb_pos h0]; exact k
theorem En_eq {X : OR} {r : Int} {h : Hp} {P : Int → Hp → Prop} (e : X = some (r, h)) (p : P r h) : En X P := ⟨r, h, e, p⟩
theorem En_get {X : OR} {P : Int → Hp → Prop} {r : Int} {h : Hp} (e : En X P) (q : X = some (r, h)) : P r h := by
  obtain ⟨r1, h1, e1, p⟩ := e
  rw [e1] at q
  cases q
  exact p
theorem En_lup0 {F : (Hp → OR) → Hp → OR} {P : Int → Hp → Prop} (m : Hp → Nat) (I : Hp → Prop) (k : ∀ (self : Hp → OR) (h : Hp), (∀ (h2 : Hp), m  h2 < m  h → I  h2 → En (self  h2) P) → I  h → En (F self  h) P) (n : Nat) : ∀ (h : Hp), m  h < n → I  h → En (lup0 F n  h) P := by
  induction n with
  | zero => intro  h hm _; exact absurd hm (Nat.not_lt_zero _)
  | succ n ih => intro  h hm hi; exact k (lup0 F n)  h (fun  h2 hlt hi2 => ih  h2 (by omega) hi2) hi
theorem En_lup1 {F : (Int → Hp → OR) → Int → Hp → OR} {P : Int → Hp → Prop} (m : Int → Hp → Nat) (I : Int → Hp → Prop) (k : ∀ (self : Int → Hp → OR) (x0 : Int) (h : Hp), (∀ (y0 : Int) (h2 : Hp), m y0 h2 < m x0 h → I y0 h2 → En (self y0 h2) P) → I x0 h → En (F self x0 h) P) (n : Nat) : ∀ (x0 : Int) (h : Hp), m x0 h < n → I x0 h → En (lup1 F n x0 h) P := by
  induction n with
  | zero => intro x0 h hm _; exact absurd hm (Nat.not_lt_zero _)
  | succ n ih => intro x0 h hm hi; exact k (lup1 F n) x0 h (fun y0 h2 hlt hi2 => ih y0 h2 (by omega) hi2) hi
theorem En_lup2 {F : (Int → Int → Hp → OR) → Int → Int → Hp → OR} {P : Int → Hp → Prop} (m : Int → Int → Hp → Nat) (I : Int → Int → Hp → Prop) (k : ∀ (self : Int → Int → Hp → OR) (x0 x1 : Int) (h : Hp), (∀ (y0 y1 : Int) (h2 : Hp), m y0 y1 h2 < m x0 x1 h → I y0 y1 h2 → En (self y0 y1 h2) P) → I x0 x1 h → En (F self x0 x1 h) P) (n : Nat) : ∀ (x0 x1 : Int) (h : Hp), m x0 x1 h < n → I x0 x1 h → En (lup2 F n x0 x1 h) P := by
  induction n with
  | zero => intro x0 x1 h hm _; exact absurd hm (Nat.not_lt_zero _)
  | succ n ih => intro x0 x1 h hm hi; exact k (lup2 F n) x0 x1 h (fun y0 y1 h2 hlt hi2 => ih y0 y1 h2 (by omega) hi2) hi
theorem En_lup3 {F : (Int → Int → Int → Hp → OR) → Int → Int → Int → Hp → OR} {P : Int → Hp → Prop} (m : Int → Int → Int → Hp → Nat) (I : Int → Int → Int → Hp → Prop) (k : ∀ (self : Int → Int → Int → Hp → OR) (x0 x1 x2 : Int) (h : Hp), (∀ (y0 y1 y2 : Int) (h2 : Hp), m y0 y1 y2 h2 < m x0 x1 x2 h → I y0 y1 y2 h2 → En (self y0 y1 y2 h2) P) → I x0 x1 x2 h → En (F self x0 x1 x2 h) P) (n : Nat) : ∀ (x0 x1 x2 : Int) (h : Hp), m x0 x1 x2 h < n → I x0 x1 x2 h → En (lup3 F n x0 x1 x2 h) P := by
  induction n with
  | zero => intro x0 x1 x2 h hm _; exact absurd hm (Nat.not_lt_zero _)
  | succ n ih => intro x0 x1 x2 h hm hi; exact k (lup3 F n) x0 x1 x2 h (fun y0 y1 y2 h2 hlt hi2 => ih y0 y1 y2 h2 (by omega) hi2) hi
theorem En_lup4 {F : (Int → Int → Int → Int → Hp → OR) → Int → Int → Int → Int → Hp → OR} {P : Int → Hp → Prop} (m : Int → Int → Int → Int → Hp → Nat) (I : Int → Int → Int → Int → Hp → Prop) (k : ∀ (self : Int → Int → Int → Int → Hp → OR) (x0 x1 x2 x3 : Int) (h : Hp), (∀ (y0 y1 y2 y3 : Int) (h2 : Hp), m y0 y1 y2 y3 h2 < m x0 x1 x2 x3 h → I y0 y1 y2 y3 h2 → En (self y0 y1 y2 y3 h2) P) → I x0 x1 x2 x3 h → En (F self x0 x1 x2 x3 h) P) (n : Nat) : ∀ (x0 x1 x2 x3 : Int) (h : Hp), m x0 x1 x2 x3 h < n → I x0 x1 x2 x3 h → En (lup4 F n x0 x1 x2 x3 h) P := by
  induction n with
  | zero => intro x0 x1 x2 x3 h hm _; exact absurd hm (Nat.not_lt_zero _)
  | succ n ih => intro x0 x1 x2 x3 h hm hi; exact k (lup4 F n) x0 x1 x2 x3 h (fun y0 y1 y2 y3 h2 hlt hi2 => ih y0 y1 y2 y3 h2 (by omega) hi2) hi
theorem En_lup5 {F : (Int → Int → Int → Int → Int → Hp → OR) → Int → Int → Int → Int → Int → Hp → OR} {P : Int → Hp → Prop} (m : Int → Int → Int → Int → Int → Hp → Nat) (I : Int → Int → Int → Int → Int → Hp → Prop) (k : ∀ (self : Int → Int → Int → Int → Int → Hp → OR) (x0 x1 x2 x3 x4 : Int) (h : Hp), (∀ (y0 y1 y2 y3 y4 : Int) (h2 : Hp), m y0 y1 y2 y3 y4 h2 < m x0 x1 x2 x3 x4 h → I y0 y1 y2 y3 y4 h2 → En (self y0 y1 y2 y3 y4 h2) P) → I x0 x1 x2 x3 x4 h → En (F self x0 x1 x2 x3 x4 h) P) (n : Nat) : ∀ (x0 x1 x2 x3 x4 : Int) (h : Hp), m x0 x1 x2 x3 x4 h < n → I x0 x1 x2 x3 x4 h → En (lup5 F n x0 x1 x2 x3 x4 h) P := by
  induction n with
  | zero => intro x0 x1 x2 x3 x4 h hm _; exact absurd hm (Nat.not_lt_zero _)
  | succ n ih => intro x0 x1 x2 x3 x4 h hm hi; exact k (lup5 F n) x0 x1 x2 x3 x4 h (fun y0 y1 y2 y3 y4 h2 hlt hi2 => ih y0 y1 y2 y3 y4 h2 (by omega) hi2) hi
theorem En_lup6 {F : (Int → Int → Int → Int → Int → Int → Hp → OR) → Int → Int → Int → Int → Int → Int → Hp → OR} {P : Int → Hp → Prop} (m : Int → Int → Int → Int → Int → Int → Hp → Nat) (I : Int → Int → Int → Int → Int → Int → Hp → Prop) (k : ∀ (self : Int → Int → Int → Int → Int → Int → Hp → OR) (x0 x1 x2 x3 x4 x5 : Int) (h : Hp), (∀ (y0 y1 y2 y3 y4 y5 : Int) (h2 : Hp), m y0 y1 y2 y3 y4 y5 h2 < m x0 x1 x2 x3 x4 x5 h → I y0 y1 y2 y3 y4 y5 h2 → En (self y0 y1 y2 y3 y4 y5 h2) P) → I x0 x1 x2 x3 x4 x5 h → En (F self x0 x1 x2 x3 x4 x5 h) P) (n : Nat) : ∀ (x0 x1 x2 x3 x4 x5 : Int) (h : Hp), m x0 x1 x2 x3 x4 x5 h < n → I x0 x1 x2 x3 x4 x5 h → En (lup6 F n x0 x1 x2 x3 x4 x5 h) P := by
  induction n with
  | zero => intro x0 x1 x2 x3 x4 x5 h hm _; exact absurd hm (Nat.not_lt_zero _)
  | succ n ih => intro x0 x1 x2 x3 x4 x5 h hm hi; exact k (lup6 F n) x0 x1 x2 x3 x4 x5 h (fun y0 y1 y2 y3 y4 y5 h2 hlt hi2 => ih y0 y1 y2 y3 y4 y5 h2 (by omega) hi2) hi
theorem En_lup7 {F : (Int → Int → Int → Int → Int → Int → Int → Hp → OR) → Int → Int → Int → Int → Int → Int → Int → Hp → OR} {P : Int → Hp → Prop} (m : Int → Int → Int → Int → Int → Int → Int → Hp → Nat) (I : Int → Int → Int → Int → Int → Int → Int → Hp → Prop) (k : ∀ (self : Int → Int → Int → Int → Int → Int → Int → Hp → OR) (x0 x1 x2 x3 x4 x5 x6 : Int) (h : Hp), (∀ (y0 y1 y2 y3 y4 y5 y6 : Int) (h2 : Hp), m y0 y1 y2 y3 y4 y5 y6 h2 < m x0 x1 x2 x3 x4 x5 x6 h → I y0 y1 y2 y3 y4 y5 y6 h2 → En (self y0 y1 y2 y3 y4 y5 y6 h2) P) → I x0 x1 x2 x3 x4 x5 x6 h → En (F self x0 x1 x2 x3 x4 x5 x6 h) P) (n : Nat) : ∀ (x0 x1 x2 x3 x4 x5 x6 : Int) (h : Hp), m x0 x1 x2 x3 x4 x5 x6 h < n → I x0 x1 x2 x3 x4 x5 x6 h → En (lup7 F n x0 x1 x2 x3 x4 x5 x6 h) P := by
  induction n with
  | zero => intro x0 x1 x2 x3 x4 x5 x6 h hm _; exact absurd hm (Nat.not_lt_zero _)
  | succ n ih => intro x0 x1 x2 x3 x4 x5 x6 h hm hi; exact k (lup7 F n) x0 x1 x2 x3 x4 x5 x6 h (fun y0 y1 y2 y3 y4 y5 y6 h2 hlt hi2 => ih y0 y1 y2 y3 y4 y5 y6 h2 (by omega) hi2) hi
theorem En_lup8 {F : (Int → Int → Int → Int → Int → Int → Int → Int → Hp → OR) → Int → Int → Int → Int → Int → Int → Int → Int → Hp → OR} {P : Int → Hp → Prop} (m : Int → Int → Int → Int → Int → Int → Int → Int → Hp → Nat) (I : Int → Int → Int → Int → Int → Int → Int → Int → Hp → Prop) (k : ∀ (self : Int → Int → Int → Int → Int → Int → Int → Int → Hp → OR) (x0 x1 x2 x3 x4 x5 x6 x7 : Int) (h : Hp), (∀ (y0 y1 y2 y3 y4 y5 y6 y7 : Int) (h2 : Hp), m y0 y1 y2 y3 y4 y5 y6 y7 h2 < m x0 x1 x2 x3 x4 x5 x6 x7 h → I y0 y1 y2 y3 y4 y5 y6 y7 h2 → En (self y0 y1 y2 y3 y4 y5 y6 y7 h2) P) → I x0 x1 x2 x3 x4 x5 x6 x7 h → En (F self x0 x1 x2 x3 x4 x5 x6 x7 h) P) (n : Nat) : ∀ (x0 x1 x2 x3 x4 x5 x6 x7 : Int) (h : Hp), m x0 x1 x2 x3 x4 x5 x6 x7 h < n → I x0 x1 x2 x3 x4 x5 x6 x7 h → En (lup8 F n x0 x1 x2 x3 x4 x5 x6 x7 h) P := by
  induction n with
  | zero => intro x0 x1 x2 x3 x4 x5 x6 x7 h hm _; exact absurd hm (Nat.not_lt_zero _)
  | succ n ih => intro x0 x1 x2 x3 x4 x5 x6 x7 h hm hi; exact k (lup8 F n) x0 x1 x2 x3 x4 x5 x6 x7 h (fun y0 y1 y2 y3 y4 y5 y6 y7 h2 hlt hi2 => ih y0 y1 y2 y3 y4 y5 y6 y7 h2 (by omega) hi2) hi
theorem En_lup9 {F : (Int → Int → Int → Int → Int → Int → Int → Int → Int → Hp → OR) → Int → Int → Int → Int → Int → Int → Int → Int → Int → Hp → OR} {P : Int → Hp → Prop} (m : Int → Int → Int → Int → Int → Int → Int → Int → Int → Hp → Nat) (I : Int → Int → Int → Int → Int → Int → Int → Int → Int → Hp → Prop) (k : ∀ (self : Int → Int → Int → Int → Int → Int → Int → Int → Int → Hp → OR) (x0 x1 x2 x3 x4 x5 x6 x7 x8 : Int) (h : Hp), (∀ (y0 y1 y2 y3 y4 y5 y6 y7 y8 : Int) (h2 : Hp), m y0 y1 y2 y3 y4 y5 y6 y7 y8 h2 < m x0 x1 x2 x3 x4 x5 x6 x7 x8 h → I y0 y1 y2 y3 y4 y5 y6 y7 y8 h2 → En (self y0 y1 y2 y3 y4 y5 y6 y7 y8 h2) P) → I x0 x1 x2 x3 x4 x5 x6 x7 x8 h → En (F self x0 x1 x2 x3 x4 x5 x6 x7 x8 h) P) (n : Nat) : ∀ (x0 x1 x2 x3 x4 x5 x6 x7 x8 : Int) (h : Hp), m x0 x1 x2 x3 x4 x5 x6 x7 x8 h < n → I x0 x1 x2 x3 x4 x5 x6 x7 x8 h → En (lup9 F n x0 x1 x2 x3 x4 x5 x6 x7 x8 h) P := by
  induction n with
  | zero => intro x0 x1 x2 x3 x4 x5 x6 x7 x8 h hm _; exact absurd hm (Nat.not_lt_zero _)
  | succ n ih => intro x0 x1 x2 x3 x4 x5 x6 x7 x8 h hm hi; exact k (lup9 F n) x0 x1 x2 x3 x4 x5 x6 x7 x8 h (fun y0 y1 y2 y3 y4 y5 y6 y7 y8 h2 hlt hi2 => ih y0 y1 y2 y3 y4 y5 y6 y7 y8 h2 (by omega) hi2) hi
