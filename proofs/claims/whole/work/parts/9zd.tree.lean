/-- a net that is being patched: its gates, rows, new wires, spares in use -/
abbrev TrS : Type := Nat × (Nat → Int) × (Nat → Int) × (Nat → Int) × (Nat → Int) × (Nat → Bool)
def TrS.n (σ : TrS) : Nat := σ.1
def TrS.K (σ : TrS) : Nat → Int := σ.2.1
def TrS.P (σ : TrS) : Nat → Int := σ.2.2.1
def TrS.L (σ : TrS) : Nat → Int := σ.2.2.2.1
def TrS.W (σ : TrS) : Nat → Int := σ.2.2.2.2.1
def TrS.U (σ : TrS) : Nat → Bool := σ.2.2.2.2.2
def wuT (σ : TrS) (W : Nat → Int) (U : Nat → Bool) : TrS := (σ.n, σ.K, σ.P, σ.L, W, U)
def adT (s : Nat) (σ : TrS) (k a b pl : Int) : TrS := (σ.n + 1, fun w => if w = s + σ.n then k else σ.K w, fun j => if j = 3 * (s + σ.n) then a else if j = 3 * (s + σ.n) + 1 then b else if j = 3 * (s + σ.n) + 2 then -1 else σ.P j, fun w => if w = s + σ.n then pl else σ.L w, σ.W, σ.U)
/-- the wire of a part of a node -/
def pwT (h : Hp) (W : Nat → Int) (x : Int) : Int := if 0 ≤ x ∧ x < h 56 8 then W x.toNat else if 100 ≤ x ∧ x < 100 + h 56 5 then h 58 (x - 100).toNat else -1
def plT (h : Hp) (k i : Nat) : Int := if h 56 1 = 0 then h 22 (h 57 k).toNat else h 69 (h 65 i).toNat
def ndT (h : Hp) (s k i : Nat) (σ : TrS) : TrS :=
  if h 64 i = (k : Int) then wuT (adT s σ (h 61 i) (pwT h σ.W (h 62 i)) (pwT h σ.W (h 63 i)) (plT h k i)) (fun j => if j = i then ((s + σ.n : Nat) : Int) else σ.W j) (fun z => σ.U z || (decide (h 56 1 = 1) && decide ((z : Int) = h 65 i))) else σ
def cnT (h : Hp) (k : Nat) : Bool := decide (h 60 k = 200) || decide (h 60 k = 201)
def trT (h : Hp) (s M k : Nat) (σ : TrS) : TrS := if cnT h k = true then adT s σ (if h 60 k = 200 then 7 else 8) (-1) (-1) (h 22 (h 57 k).toNat) else frB (ndT h s k) M 0 σ
/-- what a tree makes; σ is before it -/
def rsT (h : Hp) (s M k : Nat) (σ : TrS) : Int := if cnT h k = true then ((s + σ.n : Nat) : Int) else pwT h (trT h s M k σ).W (h 60 k)
theorem ndT_n (h : Hp) (s k i : Nat) (σ : TrS) : (ndT h s k i σ).n = σ.n + if h 64 i = (k : Int) then 1 else 0 := by
  unfold ndT; split <;> rfl
theorem frT_n (h : Hp) (s k : Nat) : ∀ d i σ, σ.n ≤ (frB (ndT h s k) d i σ).n := by
  intro d
  induction d with
  | zero => intro i σ; exact Nat.le_refl _
  | succ d ih =>
    intro i σ
    have := ih (i + 1) (ndT h s k i σ)
    have e := ndT_n h s k i σ
    show σ.n ≤ (frB (ndT h s k) d (i + 1) (ndT h s k i σ)).n
    omega
/-- OLD as the class patches it; B is what the rest was -/
def CT (h B : Hp) (N M : Nat) (σ : TrS) (g : Hp) : Prop :=
  (∀ a i, ¬ ((a = 18 ∧ i = 3) ∨ (19 ≤ a ∧ a ≤ 20) ∨ a = 22 ∨ a = 66 ∨ (a = 67 ∧ i = 1)) → g a i = B a i) ∧ g 18 3 = (σ.n : Int) ∧ g 19 = σ.K ∧ g 20 = σ.P ∧ g 22 = σ.L ∧ (∀ i, i < M → σ.W i ≠ -1 → g 66 i = σ.W i) ∧ ((0 ≤ g 67 1 ∧ g 67 1 < ((2 ^ N : Nat) : Int)) ∧ ∀ z, z < N → ti (g 67 1) z = σ.U z)
/-- base rows that the class's heap keeps -/
def EqT (h B : Hp) : Prop := ∀ a i, ((a = 18 ∧ i ≤ 2) ∨ (56 ≤ a ∧ a ≤ 65) ∨ (a = 67 ∧ i = 0) ∨ a = 69) → B a i = h a i
/-- what the patch's nodes refer to is there -/
def AsT (h : Hp) (k i : Nat) (σ : TrS) : Prop := ∀ j, j < i → h 64 j = (k : Int) → σ.W j ≠ -1
theorem wireOf_eq {h B g : Hp} {N M : Nat} {σ : TrS} (p : PlB h N M) (e : EqT h B) (c : CT h B N M σ g) {x : Int} (hx : 0 ≤ x ∧ x < h 56 8 → σ.W x.toNat ≠ -1) : XX7_wireOf x g = some (pwT h σ.W x, g) := by
  obtain ⟨c1, _, _, _, _, c66, _⟩ := c
  have e8 := p.2.2.2.2.1
  have m8 := p.2.2.2.2.2.2.1
  have t3 : 0 ≤ h 56 5 ∧ h 56 5 ≤ 3 := p.2.2.1.2.2.1.2
  have g8 : g 56 8 = h 56 8 := by rw [c1 56 8 (by omega), e 56 8 (by omega)]
  have g5 : g 56 5 = h 56 5 := by rw [c1 56 5 (by omega), e 56 5 (by omega)]
  have p19 : ¬ (0 ≤ x ∧ x < h 56 8) → XX7_wireOf_p19 x g = some (pwT h σ.W x, g) := by
    intro q
    unfold XX7_wireOf_p19 pwT
    rw [if_neg q]
    by_cases q1 : x < 100
    · rw [if_pos q1, if_neg (by omega)]
    · rw [if_neg q1, g5, chk_pos (by omega)]
      by_cases q2 : 100 + h 56 5 ≤ x
      · rw [if_pos q2, if_neg (by omega)]
      · rw [if_neg q2, if_pos (by omega), chk_pos (by omega), inb_pos (by omega), c1 58 _ (by omega), e 58 _ (by omega)]
  unfold XX7_wireOf
  by_cases q1 : x < 0
  · rw [if_pos q1]; exact p19 (by omega)
  · rw [if_neg q1, g8]
    by_cases q2 : h 56 8 ≤ x
    · rw [if_pos q2]; exact p19 (by omega)
    · have hq : 0 ≤ x ∧ x < h 56 8 := by omega
      rw [if_neg q2, inb_pos (by omega), c66 x.toNat (by omega) (hx hq)]
      unfold pwT
      rw [if_pos hq]
/-- a gate is added, by the class -/
theorem addT_ok {h B g : Hp} {N M : Nat} {σ : TrS} {s : Nat} (hs : sc 18 h = (s : Int)) (hN0 : Nums 40 18 h) (e : EqT h B) (c : CT h B N M σ g) (hn : σ.n < 40) (k a b pl : Int) : ∃ g2, XX8_addGate 18 k a b (-1) pl g = some (((s + σ.n : Nat) : Int), g2) ∧ CT h B N M (adT s σ k a b pl) g2 := by
  obtain ⟨c1, c2, c3, c4, c5, c6, c7⟩ := c
  have z : ∀ i, i ≤ 2 → g 18 i = h 18 i := fun i hi => by rw [c1 18 i (by omega), e 18 i (by omega)]
  have hN : Nums 40 18 g := by
    unfold Nums at *
    rw [z 0 (by omega), z 1 (by omega), z 2 (by omega), c2]; omega
  have hw : wn 18 g = ((s + σ.n : Nat) : Int) := by
    unfold wn; rw [z 0 (by omega), z 1 (by omega), c2]
    unfold sc at hs; omega
  obtain ⟨g2, e2, k1, k3, kk, kp, kl⟩ := addGate_ok (by decide) hN (by omega) k a b (-1) pl
  rw [hw] at e2 kk kp kl
  rw [Int.toNat_natCast] at kk kp kl
  refine ⟨g2, e2, fun a i hh => by rw [k1 a i (by omega)]; exact c1 a i hh, ?_, ?_, ?_, ?_, fun i hi hh => by rw [k1 66 i (by omega)]; exact c6 i hi hh, ?_⟩
  · rw [k3, c2]; show _ = ((σ.n + 1 : Nat) : Int); omega
  · funext w
    show _ = if w = s + σ.n then k else σ.K w
    rw [← c3]; exact kk w
  · funext j
    show _ = if j = 3 * (s + σ.n) then a else if j = 3 * (s + σ.n) + 1 then b else if j = 3 * (s + σ.n) + 2 then -1 else σ.P j
    rw [← c4]; exact kp j
  · funext w
    show _ = if w = s + σ.n then pl else σ.L w
    rw [← c5]; exact kl w
  · rw [k1 67 1 (by omega)]; exact c7
theorem use_bits {N : Nat} (hN : N ≤ 12) {x : Int} (h0 : 0 ≤ x ∧ x < ((2 ^ N : Nat) : Int)) {s : Nat} (hs : s < N) : (0 ≤ aor x (ashl 1 s) ∧ aor x (ashl 1 s) < ((2 ^ N : Nat) : Int)) ∧ ∀ z, z < N → ti (aor x (ashl 1 s)) z = (ti x z || decide (z = s)) := by
  have h12 := p12 hN
  obtain ⟨S, rfl⟩ := Int.eq_ofNat_of_zero_le h0.1
  have hS : S < 2 ^ N := by omega
  have sb := (set_bit (show S < 4096 by omega) (show s < 12 by omega)).2
  have ol := or_lt hS hs
  rw [sb]
  refine ⟨by omega, fun z hz => ?_⟩
  rw [ti_nat (by omega) (by omega), ti_nat (by omega) (by omega), Int.toNat_natCast, Int.toNat_natCast, or_bit]
/-- the class adds a tree -/
theorem addTree_ok {h B g : Hp} {N M : Nat} {σ : TrS} {s k : Nat} (p : PlB h N M) (hs : sc 18 h = (s : Int)) (hN0 : Nums 40 18 h) (hk : (k : Int) < h 56 3) (e : EqT h B) (c : CT h B N M σ g) (hL : σ.L (h 57 k).toNat = h 22 (h 57 k).toNat) (hn : (trT h s M k σ).n ≤ 40) : En (XX7_addTree k 18 g) (fun r g2 => r = rsT h s M k σ ∧ CT h B N M (trT h s M k σ) g2) := by
  obtain ⟨_, j9, pt, e0, e8, n12, m8, mn, w48, s0⟩ := id p
  obtain ⟨q1, q2, q3, q4, q5, _, q7, q8, q9, _⟩ := id pt
  have hpt := q5 k hk
  have ge : ∀ (τ : TrS) (x : Hp), CT h B N M τ x → ∀ a i, ((56 ≤ a ∧ a ≤ 65) ∨ (a = 67 ∧ i = 0) ∨ a = 69) → x a i = h a i := fun τ x cx a i hh => by rw [cx.1 a i (by omega), e a i (by omega)]
  have g22 : g 22 (h 57 k).toNat = h 22 (h 57 k).toNat := by rw [c.2.2.2.2.1]; exact hL
  unfold XX7_addTree
  rw [inb_pos (by omega), Int.toNat_natCast, ge σ g c 57 k (by omega), inb_pos (by omega), show 18 + 4 = 22 from rfl, g22, nm_eq, inb_pos (by omega), ge σ g c 60 k (by omega)]
  have con : cnT h k = true → En (XX7_addTree_p37 18 k (h 22 (h 57 k).toNat) g) (fun r g2 => r = rsT h s M k σ ∧ CT h B N M (trT h s M k σ) g2) := by
    intro hc
    have et : trT h s M k σ = adT s σ (if h 60 k = 200 then 7 else 8) (-1) (-1) (h 22 (h 57 k).toNat) := by unfold trT; rw [if_pos hc]
    have er : rsT h s M k σ = ((s + σ.n : Nat) : Int) := by unfold rsT; rw [if_pos hc]
    rw [et] at hn ⊢
    rw [er]
    have hn' : σ.n < 40 := hn
    unfold XX7_addTree_p37
    rw [inb_pos (by omega), Int.toNat_natCast, ge σ g c 60 k (by omega)]
    by_cases q : h 60 k = 200
    · rw [if_pos q, if_pos q]
      unfold XX7_addTree_p57
      obtain ⟨g2, e2, c2⟩ := addT_ok hs hN0 e c hn' 7 (-1) (-1) (h 22 (h 57 k).toNat)
      rw [e2, cal_eq]
      exact En_some ⟨rfl, c2⟩
    · rw [if_neg q, if_neg q]
      unfold XX7_addTree_p57
      obtain ⟨g2, e2, c2⟩ := addT_ok hs hN0 e c hn' 8 (-1) (-1) (h 22 (h 57 k).toNat)
      rw [e2, cal_eq]
      exact En_some ⟨rfl, c2⟩
  by_cases h200 : h 60 k = 200
  · rw [if_pos h200]; exact con (by unfold cnT; rw [decide_eq_true h200]; rfl)
  rw [if_neg h200, inb_pos (by omega)]
  by_cases h201 : h 60 k = 201
  · rw [if_pos h201]; exact con (by unfold cnT; rw [decide_eq_true h201]; simp)
  rw [if_neg h201]
  have hc : ¬ cnT h k = true := by unfold cnT; rw [decide_eq_false h200, decide_eq_false h201]; decide
  have et : trT h s M k σ = frB (ndT h s k) (M - 0) 0 σ := by unfold trT; rw [if_neg hc]; rfl
  have er : rsT h s M k σ = pwT h (trT h s M k σ).W (h 60 k) := by unfold rsT; rw [if_neg hc]
  rw [er]
  generalize hF : trT h s M k σ = F at *
  unfold XX7_addTree_L69
  refine En_lup3 (fun _ _ l5 _ => (20 - l5).toNat) (fun l1 l4 l5 g2 => (k : Int) = l1 ∧ h 22 (h 57 k).toNat = l4 ∧ ∃ i : Nat, l5 = (i : Int) ∧ i ≤ M ∧ ∃ τ, CT h B N M τ g2 ∧ AsT h k i τ ∧ frB (ndT h s k) (M - i) i τ = F) ?_ FU _ _ _ _ (by unfold FU; omega) ⟨rfl, rfl, 0, rfl, Nat.zero_le _, σ, c, fun j hj => absurd hj (Nat.not_lt_zero _), et.symm⟩
  rintro self l1 l4 l5 g2 ih ⟨rfl, rfl, i, rfl, hi, τ, ct, as, ef⟩
  have gt := ge τ g2 ct
  unfold XX7_addTree_b69
  rw [gt 56 8 (by omega), e8]
  by_cases qi : (M : Int) ≤ i
  · rw [frB_end (by omega)] at ef
    subst ef
    have q9k := q9 k hk
    rw [if_pos qi, inb_pos (by omega), Int.toNat_natCast, gt 60 k (by omega), wireOf_eq p e ct (fun t => by
      by_cases z : 0 ≤ lf (h 56 5) (h 59 k)
      · rw [if_pos z] at q9k
        have : lf (h 56 5) (h 59 k) < 100 := by rw [← q9k.1]; omega
        unfold lf at z this
        exfalso
        repeat' split at z
        all_goals (first | omega | skip)
        all_goals (repeat' split at this)
        all_goals omega
      · rw [if_neg z] at q9k
        exact as (h 60 k).toNat (by omega) q9k.2.2.1), cal_eq]
    exact En_some ⟨rfl, ct⟩
  obtain ⟨⟨_, d1⟩, ⟨_, d2⟩, ⟨_, d3⟩, ⟨_, d4⟩, d5⟩ := q8 i (by omega)
  rw [frB_step (by omega)] at ef
  rw [if_neg qi, inb_pos (by omega), Int.toNat_natCast, gt 64 i (by omega)]
  by_cases qo : h 64 i = (k : Int)
  · have part : ∀ x, PartOK h i x → (0 ≤ x ∧ x < h 56 8 → τ.W x.toNat ≠ -1) := by
      intro x hx t
      unfold PartOK at hx
      rcases hx with ⟨x1, x2, x3⟩ | hx
      · exact as x.toNat (by omega) (by rw [x3]; exact qo)
      · omega
    have part3 : (0 ≤ h 63 i ∧ h 63 i < h 56 8 → τ.W (h 63 i).toNat ≠ -1) := by
      split at d3
      · omega
      · exact part _ d3
    have hn2 : τ.n < 40 := by
      have a := frT_n h s k (M - (i + 1)) (i + 1) (ndT h s k i τ)
      rw [ef, ndT_n, if_pos qo] at a
      omega
    have go : ∀ (x : Hp) (pl : Int) (V : Nat → Bool), (∀ a j, ¬ (a = 67 ∧ j = 1) → x a j = g2 a j) → pl = plT h k i → V = (fun z => τ.U z || (decide (h 56 1 = 1) && decide ((z : Int) = h 65 i))) → ((0 ≤ x 67 1 ∧ x 67 1 < ((2 ^ N : Nat) : Int)) ∧ ∀ z, z < N → ti (x 67 1) z = V z) → En (XX7_addTree_p112 18 self k (h 22 (h 57 k).toNat) i pl x) (fun r g2 => r = pwT h F.W (h 60 k) ∧ CT h B N M F g2) := by
      intro x pl V kx hpl hV hm
      have cx : CT h B N M (wuT τ τ.W V) x := by
        obtain ⟨c1, c2, c3, c4, c5, c6, _⟩ := ct
        exact ⟨fun a j hh => by rw [kx a j (by omega)]; exact c1 a j hh, by rw [kx 18 3 (by omega)]; exact c2, by rw [show x 19 = g2 19 from funext (fun j => kx 19 j (by omega))]; exact c3, by rw [show x 20 = g2 20 from funext (fun j => kx 20 j (by omega))]; exact c4, by rw [show x 22 = g2 22 from funext (fun j => kx 22 j (by omega))]; exact c5, fun j hj hh => by rw [kx 66 j (by omega)]; exact c6 j hj hh, hm⟩
      have xt := ge _ x cx
      unfold XX7_addTree_p112
      rw [inb_pos (by omega), inb_pos (by omega), Int.toNat_natCast, xt 62 i (by omega), wireOf_eq p e cx (part _ d2), cal_eq, inb_pos (by omega), xt 63 i (by omega), wireOf_eq p e cx part3, cal_eq, xt 61 i (by omega)]
      obtain ⟨g3, e3, c3⟩ := addT_ok hs hN0 e cx hn2 (h 61 i) (pwT h τ.W (h 62 i)) (pwT h τ.W (h 63 i)) pl
      have e3' : XX8_addGate 18 (h 61 i) (pwT h (wuT τ τ.W V).W (h 62 i)) (pwT h (wuT τ τ.W V).W (h 63 i)) (-1) pl x = some (((s + τ.n : Nat) : Int), g3) := e3
      rw [e3', cal_eq, inb_pos (by omega), hm_eq]
      unfold XX7_addTree_p157
      rw [chk_pos (by omega)]
      refine ih _ _ _ _ (by omega) ⟨rfl, rfl, i + 1, by omega, by omega, ndT h s k i τ, ?_, ?_, ef⟩
      · have en : ndT h s k i τ = wuT (adT s τ (h 61 i) (pwT h τ.W (h 62 i)) (pwT h τ.W (h 63 i)) (plT h k i)) (fun j => if j = i then ((s + τ.n : Nat) : Int) else τ.W j) V := by unfold ndT; rw [if_pos qo, hV]
        rw [en, ← hpl]
        obtain ⟨b1, b2, b3, b4, b5, b6, b7⟩ := c3
        refine ⟨fun a j hh => by rw [wq_ne (by omega)]; exact b1 a j hh, by rw [wq_ne (by omega)]; exact b2, by rw [wr_ne (by omega)]; exact b3, by rw [wr_ne (by omega)]; exact b4, by rw [wr_ne (by omega)]; exact b5, fun j hj hh => ?_, by rw [wq_ne (by omega)]; exact b7⟩
        rw [wr_row]
        show _ = if j = i then ((s + τ.n : Nat) : Int) else τ.W j
        by_cases t : j = i
        · rw [if_pos t, if_pos t]
        · rw [if_neg t, if_neg t]
          refine b6 j hj (fun u => hh ?_)
          show (if j = i then ((s + τ.n : Nat) : Int) else τ.W j) = -1
          rw [if_neg t]; exact u
      · intro j hj ho
        unfold ndT
        rw [if_pos qo]
        show (if j = i then ((s + τ.n : Nat) : Int) else τ.W j) ≠ -1
        by_cases t : j = i
        · rw [if_pos t]; omega
        · rw [if_neg t]; exact as j (by omega) ho
    rw [if_pos qo, gt 56 1 (by omega)]
    rcases q1.2 with q0 | q1'
    · rw [if_pos q0]
      exact go g2 _ τ.U (fun _ _ _ => rfl) (by unfold plT; rw [if_pos q0]) (funext (fun z => by rw [decide_eq_false (by omega)]; simp)) ct.2.2.2.2.2.2
    · rw [if_pos q1'] at d5
      obtain ⟨sp, hsp⟩ := Int.eq_ofNat_of_zero_le d5.2.1
      have hspN : sp < N := by omega
      rw [if_neg (by omega), inb_pos (by omega), gt 65 i (by omega)]
      unfold XX9_use
      rw [if_neg (by omega), gt 67 0 (by omega), if_pos (by omega), hm_eq, inb_pos (by omega), wq_ne (by omega), cal_eq, hsp, Int.toNat_natCast]
      have ub := use_bits n12 ct.2.2.2.2.2.2.1 hspN
      refine go _ _ _ (fun a j hh => wq_ne hh) (by unfold plT; rw [if_neg (by omega), hsp, Int.toNat_natCast]; exact gt 69 sp (by omega)) rfl ?_
      rw [wr_at]
      refine ⟨ub.1, fun z hz => ?_⟩
      rw [ub.2 z hz, ct.2.2.2.2.2.2.2 z hz, decide_eq_true q1', Bool.true_and, hsp]
      congr 1
      by_cases t : z = sp
      · subst t; simp
      · rw [decide_eq_false t, decide_eq_false (by omega)]
  · rw [if_neg qo]
    unfold XX7_addTree_p157
    rw [chk_pos (by omega)]
    have en : ndT h s k i τ = τ := by unfold ndT; rw [if_neg qo]
    refine ih _ _ _ _ (by omega) ⟨rfl, rfl, i + 1, by omega, by omega, ndT h s k i τ, by rw [en]; exact ct, fun j hj ho => ?_, ef⟩
    rw [en]
    by_cases t : j = i
    · rw [t] at ho; exact absurd ho qo
    · exact as j (by omega) ho
