/-- what the search leaves as it was -/
def KpS (h g : Hp) : Prop := ∀ a i, ¬ ((41 ≤ a ∧ a ≤ 43) ∨ (203 ≤ a ∧ a ≤ 205) ∨ (a = 40 ∧ ((4 ≤ i ∧ i ≤ 5) ∨ (8 ≤ i ∧ i ≤ 9) ∨ i = 12))) → g a i = h a i
theorem KpS_trans {h h1 h2 : Hp} (a : KpS h h1) (b : KpS h1 h2) : KpS h h2 := fun x i hh => by rw [b x i hh]; exact a x i hh
theorem KpS_Kp {h h1 : Hp} (k : Kp h h1) : KpS h h1 := fun a i hh => k a i (by omega)
theorem Two_KpS {h h1 : Hp} (k : KpS h h1) (hT : Two h) : Two h1 := Two_congr (fun a i ha => k a i (by omega)) hT
theorem Cas_KpS {h h1 : Hp} (k : KpS h h1) (hC : Cas h) : Cas h1 := by
  unfold Cas
  rw [k 37 0 (by omega), k 37 1 (by omega), show h1 38 = h 38 from funext (fun i => k 38 i (by omega)), show h1 39 = h 39 from funext (fun i => k 39 i (by omega)), sc_congr (show h1 18 = h 18 from funext (fun i => k 18 i (by omega)))]
  exact hC
/-- the outputs that are wrong, and the hard cases -/
def WH (h : Hp) : Prop := Wro h ∧ Hrd h
theorem isEnough_ok {h : Hp} (hT : Two h) (hC : Cas h) (hW : WH h) {a b c m : Int} (hm : ptN h a b c = m) (hm1 : 1 ≤ m) : En (XX5_isEnough a b c h) (fun r g => KpS h g ∧ WH g ∧ ((r = 1 ∧ EN h a b c m ∧ ∀ k, k < 3 → g 41 k = p3 a b c k) ∨ (r = 0 ∧ ¬ EN h a b c m))) := by
  obtain ⟨n0, n1, n2, n3, n4⟩ := Cas_num hC hT.1.1
  have hmb := ptN_b h a b c
  unfold XX5_isEnough
  refine En_cal (aim_ok hT.1.1 a b c) (fun r1 h1 e1 ha => ?_)
  have fa := fr_XX5_aim e1
  rcases ha with ⟨hz, _⟩ | ⟨_, rfl, hA, h404, h41⟩
  · omega
  rw [if_neg n10]
  have k1 : KpS h h1 := fun x i hh => fa x i (by omega)
  have T1 := Two_KpS k1 hT
  have W1 : Wro h1 := Wro_tr (fun x i hh => fa x i (by omega)) hW.1
  have H1 : Hrd h1 := Hrd_tr (fun x i hh => fa x i (by omega)) hW.2
  have C1 := Cas_KpS k1 hC
  have h37 : h1 37 1 = h 37 1 := fa 37 1 (by omega)
  have h370 : h1 37 0 = h 37 0 := fa 37 0 (by omega)
  have h39 : h1 39 = h 39 := funext (fun i => fa 39 i (by omega))
  have hEN : EN h a b c m ↔ ∀ ks : Nat, (ks : Int) < 64 * h 37 1 → tb (h1 39 (ks / 64)) (ks % 64) = true → ∃ q : Nat, (q : Int) < 2 ^ (h1 40 4).toNat ∧ Mds h1 q ks := by
    have e : ∀ (q : Nat) (part : Nat), mdQ h1 q part = mdW h (fcK (p3 a b c) m.toNat q) part := fun q part => by
      unfold mdQ
      rw [h404, hm, fcK_congr (p := p3 a b c) (fun k hk => h41 k (by omega)), mdW_congr (h := h) (fun x i hh => fa x i (by omega))]
    unfold EN
    rw [h404, hm, h39]
    constructor
    · intro t ks hk hl
      obtain ⟨q, hq, t2⟩ := t (ks / 64) (by omega) (ks % 64) (by omega) hl
      refine ⟨q, hq, ?_⟩
      unfold Mds
      rw [e]; exact t2
    · intro t part hp k hk hl
      obtain ⟨q, hq, t2⟩ := t (64 * part + k) (by omega) (by rw [show (64 * part + k) / 64 = part by omega, show (64 * part + k) % 64 = k by omega]; exact hl)
      refine ⟨q, hq, ?_⟩
      rw [← e]; exact (Mds_at h1 q hk).1 t2
  unfold XX5_isEnough_L15
  refine En_lup1 (fun l _ => (6 - l).toNat) (fun l g => h1 = g ∧ 0 ≤ l ∧ l ≤ h1 40 11) ?_ FU _ _ (by unfold FU; omega) ⟨rfl, by omega, W1.1⟩
  rintro self15 l g ih15 ⟨rfl, c0, c1⟩
  unfold XX5_isEnough_b15
  by_cases q : h1 40 11 ≤ l
  · rw [if_pos q]
    refine En_cal (failsHard_ok T1 hA H1.2) (fun r3 h4 e4 hr => ?_)
    have k4 : Kp h1 h4 := fun x i hh => fr_XX5_failsHard e4 x i (by omega)
    rcases hr with rfl | ⟨rfl, ks, t1, t2, t3⟩
    · rw [if_pos rfl]
      have T4 := Two_Kp k4 T1
      have C4 : Cas h4 := Cas_KpS (KpS_Kp k4) C1
      have A4 := Aim_Kp k4 hA
      refine En_cal (firstUnmended_ok T4 A4 C4) (fun r5 h6 e6 hl => ?_)
      have k6 : Kp h1 h6 := Kp_trans k4 (fun x i hh => fr_XX5_firstUnmended e6 x i (by omega))
      have elive : live h4 = live h1 := by funext c; unfold live; rw [k4 39 _ (by omega)]
      rw [k4 37 0 (by omega), h370, k4 40 4 (by omega), Mds_Kp k4, elive] at hl
      have kS : KpS h h6 := KpS_trans k1 (KpS_Kp k6)
      have T6 := Two_Kp k6 T1
      have W6 : Wro h6 := Wro_tr (fun x i hh => k6 x i (by omega)) W1
      have H6 : Hrd h6 := Hrd_tr (fun x i hh => k6 x i (by omega)) H1
      rcases hl with ⟨rfl, hl⟩ | ⟨cs, hc1, rfl, ⟨hc2, hc3⟩, _⟩
      · rw [if_pos rfl]
        unfold XX5_isEnough_p78
        rw [if_pos rfl, zb_1]
        refine En_some ⟨kS, ⟨W6, H6⟩, Or.inl ⟨rfl, hEN.2 (fun ks hk hlv => ?_), fun k hk => by rw [k6 41 k (by omega)]; exact h41 k hk⟩⟩
        have hlt := hC.2.2.2.2 (ks / 64) (by omega) (ks % 64) (by omega) (by rw [← h39]; exact hlv)
        exact Classical.byContradiction (fun hno => hl ks (by omega) ⟨hlv, fun q hq hmd => hno ⟨q, hq, hmd⟩⟩)
      · rw [if_neg (by omega)]
        obtain ⟨n, hn⟩ := Int.eq_ofNat_of_zero_le H6.1.1
        have hn8 := H6.1.2
        refine En_cal (addHard_s T6 hn (by omega) (ks := cs) (by omega) (by rw [k6 37 1 (by omega), h37]; omega) (by rw [k6 39 _ (by omega)]; exact hc2)) (fun r7 h8 e8 h8r => ?_)
        obtain ⟨f1, f2, f3, f4⟩ := h8r
        unfold XX5_isEnough_p78
        rw [if_neg (by omega), zb_0]
        refine En_some ⟨fun x i hh => by rw [f1 x i (by omega)]; exact kS x i hh, ⟨Wro_tr (fun x i hh => f1 x i (by omega)) W6, ⟨by rw [f2]; omega, fun c hc => ?_⟩⟩, Or.inr ⟨rfl, fun t => ?_⟩⟩
        · by_cases qc : c = n
          · rw [qc]; exact ⟨cs, f3⟩
          · obtain ⟨ks, hs⟩ := H6.2 c hc
            exact ⟨ks, f4 c hc qc ks hs⟩
        · obtain ⟨q, hq, hmd⟩ := hEN.1 t cs (by omega) hc2
          exact hc3 q hq hmd
    · rw [if_neg n10, zb_0]
      refine En_some ⟨KpS_trans k1 (KpS_Kp k4), ⟨Wro_tr (fun x i hh => k4 x i (by omega)) W1, Hrd_tr (fun x i hh => k4 x i (by omega)) H1⟩, Or.inr ⟨rfl, fun t => ?_⟩⟩
      obtain ⟨q, hq, hmd⟩ := hEN.1 t ks (by omega) t2
      exact t3 q hq hmd
  · have hw6 := W1.2.1
    rw [if_neg q, inb_pos (by omega)]
    by_cases qz : jcmp (jand (h1 44 l.toNat) (h1 40 5)) 0 = 0
    · rw [if_pos qz, zb_0]
      refine En_some ⟨k1, ⟨W1, H1⟩, Or.inr ⟨rfl, fun t => ?_⟩⟩
      obtain ⟨k, part, cb, t1, t2, t3, t4, t5, t6⟩ := W1.2.2 l.toNat (by omega)
      rw [t5] at qz
      obtain ⟨qq, hq, tm⟩ := hEN.1 t (64 * part + cb) (by omega) (by rw [show (64 * part + cb) / 64 = part by omega, show (64 * part + cb) % 64 = cb by omega]; exact t4)
      have tm := (Mds_at h1 qq t3).1 tm
      have hs : 0 ≤ h1 21 k ∧ h1 21 k < wn 18 h1 := T1.1.2.2.2.1 k t1
      have nh := no_hang T1 hA qq part (h1 21 k).toNat (by omega) (jcmp0.1 qz)
      unfold mdQ mdW at tm
      have := (tb_smF t3 _).1 tm k (by omega)
      rw [nh] at this
      exact t6 this
    · rw [if_neg qz, chk_pos (by omega)]
      exact ih15 _ _ (by omega) ⟨rfl, by omega, by omega⟩
theorem isE {h g : Hp} (hT : Two h) (hC : Cas h) (k : KpS h g) (w : WH g) {a b c m : Int} (hm : ptN h a b c = m) (hm1 : 1 ≤ m) : En (XX5_isEnough a b c g) (fun r f => KpS h f ∧ WH f ∧ ((r = 1 ∧ EN h a b c m ∧ ∀ k, k < 3 → f 41 k = p3 a b c k) ∨ (r = 0 ∧ ¬ EN h a b c m))) := by
  refine En_mono (isEnough_ok (Two_KpS k hT) (Cas_KpS k hC) w (a := a) (b := b) (c := c) (m := m) (by rw [ptN_congr (funext (fun i => k 18 i (by omega)))]; exact hm) hm1) (fun r f _ hr => ?_)
  rw [EN_congr (h := h) (fun x i hh => k x i (by omega))] at hr
  exact ⟨KpS_trans k hr.1, hr.2⟩
