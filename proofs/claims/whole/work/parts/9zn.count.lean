theorem frT_cnt (h : Hp) (s k : Nat) : ∀ d i (σ : TrS), (frB (ndT h s k) d i σ).n = σ.n + cntB (fun j => decide (h 64 (i + j) = (k : Int))) d := by
  intro d
  induction d with
  | zero => intro i σ; rfl
  | succ d ih =>
    intro i σ
    rw [frB_add d 1 i σ]
    show (ndT h s k (i + d) (frB (ndT h s k) d i σ)).n = σ.n + (cntB (fun j => decide (h 64 (i + j) = (k : Int))) d + if decide (h 64 (i + d) = (k : Int)) = true then 1 else 0)
    rw [ndT_n, ih]
    by_cases q : h 64 (i + d) = (k : Int)
    · rw [if_pos q, if_pos (decide_eq_true q)]; omega
    · rw [if_neg q, if_neg (by rw [decide_eq_true_eq]; exact q)]; omega
def owT (h : Hp) (M k : Nat) : Nat := cntB (fun j => decide (h 64 j = (k : Int))) M
theorem trT_cnt (h : Hp) (s M k : Nat) (σ : TrS) : (trT h s M k σ).n = σ.n + if cnT h k = true then 1 else owT h M k := by
  unfold trT
  by_cases q : cnT h k = true
  · rw [if_pos q, if_pos q]; rfl
  · rw [if_neg q, if_neg q, frT_cnt]
    unfold owT
    rw [cntB_congr (g := fun j => decide (h 64 j = (k : Int))) (fun j _ => by rw [Nat.zero_add])]
/-- a constant's tree has no nodes -/
theorem owT_c {h : Hp} {N M k : Nat} (p : PlB h N M) (hk : (k : Int) < h 56 3) (hc : cnT h k = true) : owT h M k = 0 := by
  obtain ⟨_, _, pt, _, e8, _, m8, _⟩ := id p
  have q9k := pt.2.2.2.2.2.2.2.2.1 k hk
  have h60 : h 60 k = 200 ∨ h 60 k = 201 := by
    unfold cnT at hc
    rw [Bool.or_eq_true, decide_eq_true_eq, decide_eq_true_eq] at hc; exact hc
  by_cases z : 0 ≤ lf (h 56 5) (h 59 k)
  · rw [if_pos z] at q9k
    exact cntB_none (fun i hi => decide_eq_false (q9k.2 i (by omega)))
  · rw [if_neg z] at q9k; omega
theorem cntB_sum {b d : Nat → Bool} : ∀ n, (∀ i, i < n → d i = !b i) → cntB b n + cntB d n = n := by
  intro n
  induction n with
  | zero => intro _; rfl
  | succ n ih =>
    intro h
    have a := ih (fun i hi => h i (by omega))
    have e := h n (by omega)
    rw [cntB_s, cntB_s, e]
    cases q : b n
    · rw [if_neg (by decide), if_pos (by decide)]; omega
    · rw [if_pos rfl, if_neg (by decide)]; omega
/-- how many gates there are behind the trees -/
theorem total1 {h : Hp} {N M s : Nat} (p : PlB h N M) (h3 : h 56 3 = 1) (σ : TrS) : (trT h s M 0 σ).n = σ.n + (M + ctT h 1) := by
  obtain ⟨_, _, pt, _, e8, _, m8, _⟩ := id p
  have own := pt.2.2.2.2.2.2.2.1
  have all : owT h M 0 = M := cntB_all (fun i hi => decide_eq_true (by have := (own i (by omega)).2.2.2.1; show h 64 i = 0; omega))
  have e1 : ctT h 1 = 0 + if cnT h 0 = true then 1 else 0 := rfl
  rw [trT_cnt, e1]
  by_cases q : cnT h 0 = true
  · have := owT_c p (k := 0) (by omega) q
    rw [if_pos q, if_pos q]; omega
  · rw [if_neg q, if_neg q]; omega
theorem total2 {h : Hp} {N M s : Nat} (p : PlB h N M) (h3 : h 56 3 = 2) (σ : TrS) : (trT h s M 1 (trT h s M 0 σ)).n = σ.n + (M + ctT h 2) := by
  obtain ⟨_, _, pt, _, e8, _, m8, _⟩ := id p
  have own := pt.2.2.2.2.2.2.2.1
  have all : owT h M 0 + owT h M 1 = M := cntB_sum M (fun i hi => by
    have := (own i (by omega)).2.2.2.1
    rcases (by omega : h 64 i = 0 ∨ h 64 i = 1) with t | t <;> rw [t] <;> decide)
  have e2 : ctT h 2 = (0 + if cnT h 0 = true then 1 else 0) + if cnT h 1 = true then 1 else 0 := rfl
  have z0 := owT_c p (k := 0) (by omega)
  have z1 := owT_c p (k := 1) (by omega)
  rw [trT_cnt, trT_cnt, e2]
  by_cases q : cnT h 0 = true
  · have z0 := z0 q
    by_cases q1 : cnT h 1 = true
    · have z1 := z1 q1
      rw [if_pos q, if_pos q1, if_pos q, if_pos q1]; omega
    · rw [if_pos q, if_neg q1, if_pos q, if_neg q1]; omega
  · by_cases q1 : cnT h 1 = true
    · have z1 := z1 q1
      rw [if_neg q, if_pos q1, if_neg q, if_pos q1]; omega
    · rw [if_neg q, if_neg q1, if_neg q, if_neg q1]; omega
