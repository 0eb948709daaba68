theorem frB_add {σ : Type} {f : Nat → σ → σ} : ∀ (d e i : Nat) (s : σ), frB f (d + e) i s = frB f e (i + d) (frB f d i s) := by
  intro d
  induction d with
  | zero => intro e i s; rw [Nat.zero_add]; rfl
  | succ d ih =>
    intro e i s
    rw [show d + 1 + e = (d + e) + 1 by omega]
    show frB f (d + e) (i + 1) (f i s) = frB f e (i + (d + 1)) (frB f d (i + 1) (f i s))
    rw [ih, show i + 1 + d = i + (d + 1) by omega]
theorem frB_congr {σ : Type} {f g : Nat → σ → σ} : ∀ (d i : Nat) (s : σ), (∀ j s, i ≤ j → j < i + d → f j s = g j s) → frB f d i s = frB g d i s := by
  intro d
  induction d with
  | zero => intro i s _; rfl
  | succ d ih =>
    intro i s h
    show frB f d (i + 1) (f i s) = frB g d (i + 1) (g i s)
    rw [h i s (Nat.le_refl _) (by omega)]
    exact ih (i + 1) _ (fun j s h1 h2 => h j s (by omega) (by omega))
/-- the same growth over other pins -/
def RlT (s lo : Nat) (Q : Nat → Int) (σ τ : TrS) : Prop := τ.n = σ.n ∧ τ.K = σ.K ∧ τ.L = σ.L ∧ τ.W = σ.W ∧ τ.U = σ.U ∧ ∀ j, τ.P j = if lo ≤ j ∧ j < 3 * (s + σ.n) then σ.P j else Q j
theorem RlT_ad {s lo : Nat} {Q : Nat → Int} {σ τ : TrS} (hl : lo ≤ 3 * (s + σ.n)) (r : RlT s lo Q σ τ) (k a b pl : Int) : RlT s lo Q (adT s σ k a b pl) (adT s τ k a b pl) := by
  obtain ⟨r1, r2, r3, r4, r5, r6⟩ := r
  refine ⟨?_, ?_, ?_, r4, r5, fun j => ?_⟩
  · show τ.n + 1 = σ.n + 1
    rw [r1]
  · show (fun w => if w = s + τ.n then k else τ.K w) = fun w => if w = s + σ.n then k else σ.K w
    rw [r1, r2]
  · show (fun w => if w = s + τ.n then pl else τ.L w) = fun w => if w = s + σ.n then pl else σ.L w
    rw [r1, r3]
  · show (if j = 3 * (s + τ.n) then a else if j = 3 * (s + τ.n) + 1 then b else if j = 3 * (s + τ.n) + 2 then -1 else τ.P j) = if lo ≤ j ∧ j < 3 * (s + (σ.n + 1)) then (if j = 3 * (s + σ.n) then a else if j = 3 * (s + σ.n) + 1 then b else if j = 3 * (s + σ.n) + 2 then -1 else σ.P j) else Q j
    rw [r1, r6 j]
    by_cases t1 : j = 3 * (s + σ.n)
    · rw [if_pos t1, if_pos (by omega), if_pos t1]
    · rw [if_neg t1]
      by_cases t2 : j = 3 * (s + σ.n) + 1
      · rw [if_pos t2, if_pos (by omega), if_neg t1, if_pos t2]
      · rw [if_neg t2]
        by_cases t3 : j = 3 * (s + σ.n) + 2
        · rw [if_pos t3, if_pos (by omega), if_neg t1, if_neg t2, if_pos t3]
        · rw [if_neg t3]
          by_cases t4 : lo ≤ j ∧ j < 3 * (s + σ.n)
          · rw [if_pos t4, if_pos (by omega), if_neg t1, if_neg t2, if_neg t3]
          · rw [if_neg t4, if_neg (by omega)]
theorem RlT_nd {h : Hp} {s lo k i : Nat} {Q : Nat → Int} {σ τ : TrS} (hl : lo ≤ 3 * (s + σ.n)) (r : RlT s lo Q σ τ) : RlT s lo Q (ndT h s k i σ) (ndT h s k i τ) := by
  unfold ndT
  by_cases q : h 64 i = (k : Int)
  · rw [if_pos q, if_pos q, r.2.2.2.1, r.2.2.2.2.1, r.1]
    have a := RlT_ad hl r (h 61 i) (pwT h σ.W (h 62 i)) (pwT h σ.W (h 63 i)) (plT h k i)
    exact ⟨a.1, a.2.1, a.2.2.1, rfl, rfl, a.2.2.2.2.2⟩
  · rw [if_neg q, if_neg q]; exact r
theorem RlT_tr {h : Hp} {s lo M k : Nat} {Q : Nat → Int} {σ τ : TrS} (hl : lo ≤ 3 * (s + σ.n)) (r : RlT s lo Q σ τ) : RlT s lo Q (trT h s M k σ) (trT h s M k τ) ∧ rsT h s M k τ = rsT h s M k σ := by
  have key : RlT s lo Q (trT h s M k σ) (trT h s M k τ) := by
    unfold trT
    by_cases q : cnT h k = true
    · rw [if_pos q, if_pos q]; exact RlT_ad hl r _ _ _ _
    · rw [if_neg q, if_neg q]
      have loop : ∀ d i σ τ, lo ≤ 3 * (s + TrS.n σ) → RlT s lo Q σ τ → RlT s lo Q (frB (ndT h s k) d i σ) (frB (ndT h s k) d i τ) := by
        intro d
        induction d with
        | zero => intro i σ τ _ r; exact r
        | succ d ih =>
          intro i σ τ hl r
          have := ndT_n h s k i σ
          exact ih (i + 1) _ _ (by omega) (RlT_nd hl r)
      exact loop M 0 σ τ hl r
  refine ⟨key, ?_⟩
  unfold rsT
  rw [key.2.2.2.1, r.1]
/-- pins that a tree doesn't touch -/
theorem trT_old {h : Hp} {s M k : Nat} {σ : TrS} : ∀ j, j < 3 * (s + σ.n) → (trT h s M k σ).P j = σ.P j := by
  intro j hj
  have ad : ∀ (τ : TrS) (k a b pl : Int), σ.n ≤ τ.n → (adT s τ k a b pl).P j = τ.P j := fun τ k a b pl hn => by
    show (if j = 3 * (s + τ.n) then a else if j = 3 * (s + τ.n) + 1 then b else if j = 3 * (s + τ.n) + 2 then -1 else τ.P j) = _
    rw [if_neg (by omega), if_neg (by omega), if_neg (by omega)]
  unfold trT
  by_cases q : cnT h k = true
  · rw [if_pos q]; exact ad σ _ _ _ _ (Nat.le_refl _)
  · rw [if_neg q]
    have loop : ∀ d i τ, σ.n ≤ TrS.n τ → (frB (ndT h s k) d i τ).P j = τ.P j := by
      intro d
      induction d with
      | zero => intro i τ _; rfl
      | succ d ih =>
        intro i τ hn
        have e := ndT_n h s k i τ
        have st : (ndT h s k i τ).P j = τ.P j := by
          unfold ndT
          by_cases t : h 64 i = (k : Int)
          · rw [if_pos t]; exact ad τ (h 61 i) (pwT h τ.W (h 62 i)) (pwT h τ.W (h 63 i)) (plT h k i) hn
          · rw [if_neg t]
        show (frB (ndT h s k) d (i + 1) (ndT h s k i τ)).P j = _
        rw [ih (i + 1) _ (by omega), st]
    exact loop M 0 σ (Nat.le_refl _)
/-- tree 1 after replacing point 0 is replacing point 0 after tree 1 -/
theorem comm_P {h : Hp} {s M : Nat} {pt r : Int} {σ τ : TrS} (ht : τ = (σ.n, σ.K, sbR (3 * s) (3 * (s + σ.n)) pt r σ.P, σ.L, σ.W, σ.U)) (hno : ∀ j, 3 * (s + σ.n) ≤ j → j < 3 * (s + (trT h s M 1 σ).n) → (trT h s M 1 σ).P j ≠ pt) (hhi : ∀ j, 3 * (s + (trT h s M 1 σ).n) ≤ j → (trT h s M 1 σ).P j = σ.P j) (hn : σ.n ≤ (trT h s M 1 σ).n) : RlT s (3 * (s + σ.n)) (sbR (3 * s) (3 * (s + σ.n)) pt r σ.P) (trT h s M 1 σ) (trT h s M 1 τ) ∧ rsT h s M 1 τ = rsT h s M 1 σ ∧ (trT h s M 1 τ).P = sbR (3 * s) (3 * (s + (trT h s M 1 σ).n)) pt r (trT h s M 1 σ).P := by
  have r0 : RlT s (3 * (s + σ.n)) (sbR (3 * s) (3 * (s + σ.n)) pt r σ.P) σ τ := by
    rw [ht]
    refine ⟨rfl, rfl, rfl, rfl, rfl, fun j => ?_⟩
    rw [if_neg (by omega)]; rfl
  obtain ⟨a, b⟩ := RlT_tr (h := h) (M := M) (k := 1) (Nat.le_refl _) r0
  refine ⟨a, b, funext (fun j => ?_)⟩
  rw [a.2.2.2.2.2 j]
  by_cases t1 : 3 * (s + σ.n) ≤ j ∧ j < 3 * (s + (trT h s M 1 σ).n)
  · rw [if_pos t1]
    unfold sbR
    rw [if_neg (fun u => hno j t1.1 t1.2 u.2.2)]
  · rw [if_neg t1]
    by_cases t2 : j < 3 * (s + σ.n)
    · have e := trT_old (h := h) (s := s) (M := M) (k := 1) (σ := σ) j t2
      unfold sbR
      rw [e]
      by_cases u : 3 * s ≤ j ∧ j < 3 * (s + σ.n) ∧ σ.P j = pt
      · rw [if_pos u, if_pos ⟨u.1, by omega, u.2.2⟩]
      · rw [if_neg u, if_neg (fun v => u ⟨v.1, t2, v.2.2⟩)]
    · have e := hhi j (by omega)
      unfold sbR
      rw [e, if_neg (by omega), if_neg (by omega)]
/-- the journal of point 0 is the same before and after tree 1 -/
theorem comm_lg {s n1 n2 o c : Nat} {pt : Int} {P P2 E : Nat → Int} {A : List (Int × Int × Int)} (hn : n1 ≤ n2) (e : ∀ j, j < 3 * (s + n1) → P2 j = P j) (hno : ∀ j, 3 * (s + n1) ≤ j → j < 3 * (s + n2) → P2 j ≠ pt) : lgA s n2 o c pt P2 E A = lgA s n1 o c pt P E A := by
  unfold lgA
  congr 1
  rw [show 3 * (s + n2) - 3 * s = (3 * (s + n1) - 3 * s) + (3 * (s + n2) - 3 * (s + n1)) by omega, frB_add]
  have e1 : frB (lgJ pt P2) (3 * (s + n1) - 3 * s) (3 * s) A = frB (lgJ pt P) (3 * (s + n1) - 3 * s) (3 * s) A := frB_congr _ _ _ (fun j a h1 h2 => by unfold lgJ; rw [e j (by omega)])
  rw [e1]
  generalize frB (lgJ pt P) (3 * (s + n1) - 3 * s) (3 * s) A = X
  have none' : ∀ d i X, 3 * (s + n1) ≤ i → i + d ≤ 3 * (s + n2) → frB (lgJ pt P2) d i X = X := by
    intro d
    induction d with
    | zero => intro i X _ _; rfl
    | succ d ih =>
      intro i X h1 h2
      have : lgJ pt P2 i X = X := by unfold lgJ; rw [if_neg (hno i h1 (by omega))]
      show frB (lgJ pt P2) d (i + 1) (lgJ pt P2 i X) = X
      rw [this]; exact ih (i + 1) X (by omega) (by omega)
  exact none' _ _ X (by omega) (by omega)
/-- how long a journal is -/
theorem lgJ_1 (pt : Int) (P : Nat → Int) (j : Nat) (X : List (Int × Int × Int)) : (lgJ pt P j X).length = X.length + if decide (P j = pt) = true then 1 else 0 := by
  unfold lgJ
  by_cases q : P j = pt
  · rw [if_pos q, List.length_append, if_pos (decide_eq_true q)]; rfl
  · rw [if_neg q, if_neg (by rw [decide_eq_true_eq]; exact q)]; rfl
theorem lgE_1 (o : Nat) (pt : Int) (P : Nat → Int) (j : Nat) (X : List (Int × Int × Int)) : (lgE o pt P j X).length = X.length + if decide (P j = pt) = true then 1 else 0 := by
  unfold lgE
  by_cases q : P j = pt
  · rw [if_pos q, List.length_append, if_pos (decide_eq_true q)]; rfl
  · rw [if_neg q, if_neg (by rw [decide_eq_true_eq]; exact q)]; rfl
theorem frB_cnt {f : Nat → List (Int × Int × Int) → List (Int × Int × Int)} {b : Nat → Bool} (h : ∀ j X, (f j X).length = X.length + if b j = true then 1 else 0) : ∀ d j acc, (frB f d j acc).length = acc.length + cntB (fun i => b (j + i)) d := by
  intro d
  induction d with
  | zero => intro j acc; rfl
  | succ d ih =>
    intro j acc
    rw [frB_add d 1 j acc]
    show (f (j + d) (frB f d j acc)).length = acc.length + (cntB (fun i => b (j + i)) d + if b (j + d) = true then 1 else 0)
    rw [h, ih]; omega
theorem cntB_two {b d : Nat → Bool} : ∀ n, (∀ i, i < n → b i = true → d i = false) → cntB b n + cntB d n ≤ n := by
  intro n
  induction n with
  | zero => intro _; exact Nat.le_refl _
  | succ n ih =>
    intro h
    have a := ih (fun i hi => h i (by omega))
    have e := h n (by omega)
    rw [cntB_s, cntB_s]
    by_cases q : b n = true
    · rw [if_pos q, e q, if_neg (by decide)]; omega
    · rw [if_neg q]; split <;> omega
theorem lg_total {s n o c : Nat} {p0 p1 r0 : Int} {P E : Nat → Int} (hr : r0 ≠ p1) (hp : p0 ≠ p1) : (lgA s n o c p1 (sbR (3 * s) (3 * (s + n)) p0 r0 P) (sbR 0 c p0 r0 E) (lgA s n o c p0 P E [])).length ≤ 3 * n + c := by
  unfold lgA
  rw [frB_cnt (lgE_1 o p1 _), frB_cnt (lgJ_1 p1 _), frB_cnt (lgE_1 o p0 _), frB_cnt (lgJ_1 p0 _)]
  have dis : ∀ (lo hi j : Nat) (Q : Nat → Int), lo ≤ j → j < hi → decide (Q j = p0) = true → decide (sbR lo hi p0 r0 Q j = p1) = false := by
    intro lo hi j Q h1 h2 h3
    rw [decide_eq_true_eq] at h3
    refine decide_eq_false (fun t => ?_)
    unfold sbR at t
    rw [if_pos ⟨h1, h2, h3⟩] at t
    exact hr t
  have a := cntB_two (b := fun i => decide (P (3 * s + i) = p0)) (d := fun i => decide (sbR (3 * s) (3 * (s + n)) p0 r0 P (3 * s + i) = p1)) (3 * (s + n) - 3 * s) (fun i hi h => dis _ _ _ P (by omega) (by omega) h)
  have b := cntB_two (b := fun i => decide (E (0 + i) = p0)) (d := fun i => decide (sbR 0 c p0 r0 E (0 + i) = p1)) (c - 0) (fun i hi h => dis _ _ _ E (by omega) (by omega) h)
  have z : ([] : List (Int × Int × Int)).length = 0 := rfl
  omega
theorem lg_one {s n o c : Nat} {p0 : Int} {P E : Nat → Int} : (lgA s n o c p0 P E []).length ≤ 3 * n + c := by
  unfold lgA
  rw [frB_cnt (lgE_1 o p0 _), frB_cnt (lgJ_1 p0 _)]
  have a := cntB_le (fun i => decide (P (3 * s + i) = p0)) (3 * (s + n) - 3 * s)
  have b := cntB_le (fun i => decide (E (0 + i) = p0)) (c - 0)
  have z : ([] : List (Int × Int × Int)).length = 0 := rfl
  omega
