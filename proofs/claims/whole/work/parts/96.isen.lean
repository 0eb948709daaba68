/-- what the search leaves as it was -/
def KpS (h g : Hp) : Prop := ∀ a i, ¬ ((41 ≤ a ∧ a ≤ 43) ∨ (a = 40 ∧ ((4 ≤ i ∧ i ≤ 5) ∨ (8 ≤ i ∧ i ≤ 9) ∨ i = 12))) → g a i = h a i
theorem KpS_trans {h h1 h2 : Hp} (a : KpS h h1) (b : KpS h1 h2) : KpS h h2 := fun x i hh => by rw [b x i hh]; exact a x i hh
theorem KpS_Kp {h h1 : Hp} (k : Kp h h1) : KpS h h1 := fun a i hh => k a i (by omega)
theorem Two_KpS {h h1 : Hp} (k : KpS h h1) (hT : Two h) : Two h1 := Two_congr (fun a i ha => k a i (by omega)) hT
theorem Cas_KpS {h h1 : Hp} (k : KpS h h1) (hC : Cas h) : Cas h1 := by
  unfold Cas
  rw [k 37 0 (by omega), k 37 1 (by omega), show h1 38 = h 38 from funext (fun i => k 38 i (by omega)), show h1 39 = h 39 from funext (fun i => k 39 i (by omega)), sc_congr (show h1 18 = h 18 from funext (fun i => k 18 i (by omega)))]
  exact hC
/-- one part is enough -/
def ENq (h : Hp) (part : Nat) : Prop := ∀ k, k < 64 → tb (h 39 part) k = true → ∃ q : Nat, (q : Int) < 2 ^ (h 40 4).toNat ∧ tb (mdQ h q part) k = true
theorem unm0 {h : Hp} {part : Nat} {r : Int} (hi : inJ r) (hr : ∀ c, c < 64 → (tb r c = true ↔ (tb (h 39 part) c = true ∧ ∀ q : Nat, (q : Int) < 2 ^ (h 40 4).toNat → tb (mdQ h q part) c = false))) : jcmp r 0 = 0 ↔ ENq h part := by
  rw [jcmp0, tb_zero hi]
  constructor
  · intro hz k hk hl
    refine Classical.byContradiction (fun hno => ?_)
    have := (hr k hk).2 ⟨hl, fun q hq => Bool.eq_false_iff.mpr (fun t => hno ⟨q, hq, t⟩)⟩
    rw [hz k hk] at this; cases this
  · intro he c hc
    refine Bool.eq_false_iff.mpr (fun t => ?_)
    obtain ⟨t1, t2⟩ := (hr c hc).1 t
    obtain ⟨q, hq, t3⟩ := he c hc t1
    rw [t2 q hq] at t3; cases t3
theorem ENq_Kp {h h1 : Hp} (k : Kp h h1) (part : Nat) : ENq h1 part ↔ ENq h part := by
  unfold ENq
  rw [k 39 part (by omega), k 40 4 (by omega)]
  simp only [mdQ_Kp k]
theorem isEnough_ok {h : Hp} (hT : Two h) (hC : Cas h) (hW : Wro h) {a b c m : Int} (hm : ptN h a b c = m) (hm1 : 1 ≤ m) : En (XX5_isEnough a b c h) (fun r g => KpS h g ∧ Wro g ∧ ((r = 1 ∧ EN h a b c m ∧ ∀ k, k < 3 → g 41 k = p3 a b c k) ∨ (r = 0 ∧ ¬ EN h a b c m))) := by
  obtain ⟨n0, n1, n2, n3, n4⟩ := Cas_num hC hT.1.1
  have hmb := ptN_b h a b c
  unfold XX5_isEnough
  refine En_cal (aim_ok hT.1.1 a b c) (fun r1 h1 e1 ha => ?_)
  have fa := fr_XX5_aim e1
  rcases ha with ⟨hz, _⟩ | ⟨_, _, hA, h404, h41⟩
  · omega
  have k1 : KpS h h1 := fun x i hh => fa x i (by omega)
  have T1 := Two_KpS k1 hT
  have W1 : Wro h1 := Wro_tr (fun x i hh => fa x i (by omega)) (by rw [fa 40 12 (by omega)]; exact hW.2.2.1) hW
  have hC1 := Cas_KpS k1 hC
  have h37 : h1 37 1 = h 37 1 := fa 37 1 (by omega)
  have hEN : EN h a b c m ↔ ∀ part : Nat, (part : Int) < h 37 1 → ENq h1 part := by
    have : ∀ (q : Nat) (part : Nat), mdQ h1 q part = mdW h (fcK (p3 a b c) m.toNat q) part := fun q part => by
      unfold mdQ
      rw [h404, hm, fcK_congr (p := p3 a b c) (fun k hk => h41 k (by omega)), mdW_congr (h := h) (fun x i hh => fa x i (by omega))]
    unfold EN ENq
    simp only [this]
    rw [h404, hm, show h1 39 = h 39 from funext (fun i => fa 39 i (by omega))]
  unfold XX5_isEnough_L11
  refine En_lup1 (fun l _ => (6 - l).toNat) (fun l g => h1 = g ∧ 0 ≤ l ∧ l ≤ h1 40 11) ?_ FU _ _ (by unfold FU; omega) ⟨rfl, by omega, W1.1⟩
  rintro self11 l g ih11 ⟨rfl, c0, c1⟩
  unfold XX5_isEnough_b11
  by_cases q : h1 40 11 ≤ l
  · rw [if_pos q]
    obtain ⟨hot, hh⟩ := Int.eq_ofNat_of_zero_le W1.2.2.1.1
    have hot4 : (hot : Int) < h1 37 1 := by have := W1.2.2.1.2; omega
    rw [hh]
    refine En_cal (unmended_ok T1 hA (part := hot) (by omega) (hC1.2.2.2.1 hot (by omega))) (fun r3 h4 e4 hr => ?_)
    have k4 := unmended_Kp e4
    have hu := unm0 hr.1 hr.2
    by_cases qz : jcmp r3 0 = 0
    · rw [if_pos qz]
      have hq := hu.1 qz
      unfold XX5_isEnough_L63
      refine En_lup1 (fun l _ => (4 - l).toNat) (fun l g => Kp h1 g ∧ 0 ≤ l ∧ l ≤ h 37 1 ∧ ∀ part : Nat, (part : Int) < l → ENq h1 part) ?_ FU _ _ (by unfold FU; omega) ⟨k4, by omega, by omega, fun part hp => absurd hp (by omega)⟩
      rintro self63 l5 g ih63 ⟨k5, d0, d1, d2⟩
      unfold XX5_isEnough_b63
      rw [k5 37 1 (by omega), h37, k5 40 12 (by omega), hh]
      have next : ∀ g2, Kp h1 g2 → (∀ part : Nat, (part : Int) = l5 → ENq h1 part) → l5 < h 37 1 → En (XX5_isEnough_p103 self63 l5 g2) (fun r g => KpS h g ∧ Wro g ∧ ((r = 1 ∧ EN h a b c m ∧ ∀ k, k < 3 → g 41 k = p3 a b c k) ∨ (r = 0 ∧ ¬ EN h a b c m))) := by
        intro g2 k6 he hl
        unfold XX5_isEnough_p103
        rw [chk_pos (by omega)]
        refine ih63 _ _ (by omega) ⟨k6, by omega, by omega, fun part hp => ?_⟩
        by_cases qp : (part : Int) = l5
        · exact he part qp
        · exact d2 part (by omega)
      by_cases q5 : h 37 1 ≤ l5
      · rw [if_pos q5, zb_1]
        refine En_some ⟨KpS_trans k1 (KpS_Kp k5), Wro_tr (fun x i hh => k5 x i (by omega)) (by rw [k5 40 12 (by omega)]; exact W1.2.2.1) W1, Or.inl ⟨rfl, hEN.2 (fun part hp => d2 part (by omega)), fun k hk => by rw [k5 41 k (by omega)]; exact h41 k hk⟩⟩
      rw [if_neg q5]
      by_cases qh : l5 = hot
      · rw [if_pos qh]
        exact next g k5 (fun part hp => by have : part = hot := by omega
                                           rw [this]; exact hq) (by omega)
      rw [if_neg qh]
      obtain ⟨part, rfl⟩ := Int.eq_ofNat_of_zero_le d0
      refine En_cal (unmended_ok (Two_Kp k5 T1) (Aim_Kp k5 hA) (part := part) (by omega) (by rw [k5 39 part (by omega)]; exact hC1.2.2.2.1 part (by omega))) (fun r5 h6 e6 hr6 => ?_)
      have k6 := Kp_trans k5 (unmended_Kp e6)
      have hu6 := unm0 hr6.1 hr6.2
      rw [ENq_Kp k5] at hu6
      by_cases qz6 : jcmp r5 0 = 0
      · rw [if_pos qz6]
        exact next h6 k6 (fun p' hp => by have : p' = part := by omega
                                          rw [this]; exact hu6.1 qz6) (by omega)
      · rw [if_neg qz6, hm_eq, zb_0]
        refine En_some ⟨fun x i hh => ?_, Wro_tr (h := h1) (fun x i hh => ?_) ?_ W1, Or.inr ⟨rfl, fun t => qz6 (hu6.2 (hEN.1 t part (by omega)))⟩⟩
        · rw [wq_ne (by omega), k6 x i (by omega)]; exact k1 x i hh
        · rw [wq_ne (by omega), k6 x i (by omega)]
        · rw [wr_at]; omega
    · rw [if_neg qz, zb_0]
      exact En_some ⟨KpS_trans k1 (KpS_Kp k4), Wro_tr (fun x i hh => k4 x i (by omega)) (by rw [k4 40 12 (by omega)]; exact W1.2.2.1) W1, Or.inr ⟨rfl, fun t => qz (hu.2 (hEN.1 t hot (by omega)))⟩⟩
  · have hw6 := W1.2.1
    rw [if_neg q, inb_pos (by omega)]
    by_cases qz : jcmp (jand (h1 44 l.toNat) (h1 40 5)) 0 = 0
    · rw [if_pos qz, zb_0]
      refine En_some ⟨k1, W1, Or.inr ⟨rfl, fun t => ?_⟩⟩
      obtain ⟨k, part, cb, t1, t2, t3, t4, t5, t6⟩ := W1.2.2.2 l.toNat (by omega)
      rw [t5] at qz
      obtain ⟨qq, hq, tm⟩ := hEN.1 t part (by omega) cb t3 t4
      have hs : 0 ≤ h1 21 k ∧ h1 21 k < wn 18 h1 := T1.1.2.2.2.1 k t1
      have nh := no_hang T1 hA qq part (h1 21 k).toNat (by omega) (jcmp0.1 qz)
      unfold mdQ mdW at tm
      have := (tb_smF t3 _).1 tm k (by omega)
      rw [nh] at this
      exact t6 this
    · rw [if_neg qz, chk_pos (by omega)]
      exact ih11 _ _ (by omega) ⟨rfl, by omega, by omega⟩
theorem isE {h g : Hp} (hT : Two h) (hC : Cas h) (k : KpS h g) (w : Wro g) {a b c m : Int} (hm : ptN h a b c = m) (hm1 : 1 ≤ m) : En (XX5_isEnough a b c g) (fun r f => KpS h f ∧ Wro f ∧ ((r = 1 ∧ EN h a b c m ∧ ∀ k, k < 3 → f 41 k = p3 a b c k) ∨ (r = 0 ∧ ¬ EN h a b c m))) := by
  refine En_mono (isEnough_ok (Two_KpS k hT) (Cas_KpS k hC) w (a := a) (b := b) (c := c) (m := m) (by rw [ptN_congr (funext (fun i => k 18 i (by omega)))]; exact hm) hm1) (fun r f _ hr => ?_)
  rw [EN_congr (h := h) (fun x i hh => k x i (by omega))] at hr
  exact ⟨KpS_trans k hr.1, hr.2⟩
