/-- what the mender's work leaves as it was -/
def Kp (h h1 : Hp) : Prop := ∀ a i, ¬ ((42 ≤ a ∧ a ≤ 43) ∨ a = 203 ∨ (a = 40 ∧ 8 ≤ i ∧ i ≤ 9)) → h1 a i = h a i
theorem Kp_refl (h : Hp) : Kp h h := fun _ _ _ => rfl
theorem Kp_trans {h h1 h2 : Hp} (a : Kp h h1) (b : Kp h1 h2) : Kp h h2 := fun x i hh => by rw [b x i hh]; exact a x i hh
theorem Two_Kp {h h1 : Hp} (k : Kp h h1) (hT : Two h) : Two h1 := Two_congr (fun a i ha => k a i (by omega)) hT
theorem Aim_Kp {h h1 : Hp} (k : Kp h h1) (hA : Aim h) : Aim h1 := by
  unfold Aim
  rw [k 40 4 (by omega), k 40 5 (by omega), show h1 41 = h 41 from funext (fun i => k 41 i (by omega)), sc_congr (show h1 18 = h 18 from funext (fun i => k 18 i (by omega))), wn_congr (show h1 18 = h 18 from funext (fun i => k 18 i (by omega)))]
  exact hA
noncomputable def mdQ (h : Hp) (q : Int) (part : Int) : Int := mdW h (fcK (h 41) (h 40 4).toNat q) part
theorem mdQ_Kp {h h1 : Hp} (k : Kp h h1) (q part : Int) : mdQ h1 q part = mdQ h q part := by
  unfold mdQ
  rw [k 40 4 (by omega), show h1 41 = h 41 from funext (fun i => k 41 i (by omega))]
  exact mdW_congr (fun a i ha => k a i (by omega)) _ _
theorem mended_Kp {h h1 : Hp} {q r : Int} (e : XX5_mended q h = some (r, h1)) : Kp h h1 := fun a i hh => fr_XX5_mended e a i (by omega)
theorem load_Kp {h h1 : Hp} {q r : Int} (e : XX5_load q h = some (r, h1)) : Kp h h1 := fun a i hh => fr_XX5_load e a i (by omega)
theorem asg {h : Hp} (hA : Aim h) : ashl 1 (h 40 4) = 2 ^ (h 40 4).toNat ∧ 2 ≤ (2 : Int) ^ (h 40 4).toNat ∧ (2 : Int) ^ (h 40 4).toNat ≤ 8 := by
  obtain ⟨a1, a2, _⟩ := hA
  refine ⟨ashl1 (by omega) (by omega), ?_⟩
  have : (h 40 4).toNat = 1 ∨ (h 40 4).toNat = 2 ∨ (h 40 4).toNat = 3 := by omega
  rcases this with e | e | e <;> rw [e] <;> decide
theorem assignments_eq {h : Hp} (hA : Aim h) : XX5_assignments h = some (2 ^ (h 40 4).toNat, h) := by
  unfold XX5_assignments; rw [(asg hA).1]
theorem unmended_ok {h : Hp} (hT : Two h) (hA : Aim h) {part : Nat} (hp : part < 4) (hi : inJ (h 39 part)) :
    En (XX5_unmended part h) (fun r _ => inJ r ∧ ∀ c, c < 64 → (tb r c = true ↔ (tb (h 39 part) c = true ∧ ∀ q : Nat, (q : Int) < 2 ^ (h 40 4).toNat → tb (mdQ h q part) c = false))) := by
  unfold XX5_unmended
  rw [inb_pos (by omega), nm_eq, Int.toNat_natCast]
  by_cases q0 : jcmp (h 39 part) 0 = 0
  · rw [if_pos q0]
    have hz := (tb_zero hi).1 (jcmp0.1 q0)
    exact En_some ⟨inJ_0, fun c hc => by rw [tb_0, hz c hc]; simp⟩
  rw [if_neg q0]
  refine En_cal (load_ok hT hp) (fun r2 h2 e2 hL => ?_)
  have k2 := load_Kp e2
  obtain ⟨z0, z1, z2⟩ := asg hA
  unfold XX5_unmended_L26
  refine En_lup2 (fun _ l4 _ => (8 - l4).toNat) (fun l2 l4 h3 => Kp h h3 ∧ Loaded part h3 ∧ 0 ≤ l4 ∧ l4 ≤ 2 ^ (h 40 4).toNat ∧ inJ l2 ∧ ∀ c, c < 64 → (tb l2 c = true ↔ (tb (h 39 part) c = true ∧ ∀ q : Nat, (q : Int) < l4 → tb (mdQ h q part) c = false))) ?_ FU _ _ _ (by unfold FU; omega) ⟨k2, hL, by omega, by omega, hi, fun c hc => ⟨fun hh => ⟨hh, fun q hq => by omega⟩, fun hh => hh.1⟩⟩
  rintro self l2 l4 h3 ih ⟨k3, hL3, c0, c1, c2, c3⟩
  unfold XX5_unmended_b26
  rw [assignments_eq (Aim_Kp k3 hA), cal_eq, k3 40 4 (by omega)]
  by_cases q : (2 : Int) ^ (h 40 4).toNat ≤ l4
  · rw [if_pos q]
    refine En_some ⟨c2, fun c hc => ?_⟩
    rw [c3 c hc, show l4 = 2 ^ (h 40 4).toNat by omega]
  rw [if_neg q]
  by_cases qz : jcmp l2 0 = 0
  · rw [if_pos qz]
    have hz := (tb_zero c2).1 (jcmp0.1 qz)
    refine En_some ⟨c2, fun c hc => ?_⟩
    rw [hz c hc]
    constructor
    · intro hh; cases hh
    · rintro ⟨h1, h2⟩
      have := (c3 c hc).2 ⟨h1, fun q hq => h2 q (by omega)⟩
      rw [hz c hc] at this; exact this
  rw [if_neg qz]
  obtain ⟨qq, rfl⟩ := Int.eq_ofNat_of_zero_le c0
  refine En_cal (mended_ok (Two_Kp k3 hT) (Aim_Kp k3 hA) hp hL3 (q := qq)) (fun r h4 e4 hr => ?_)
  obtain ⟨hr, hL4⟩ := hr
  have hr2 : r = mdQ h qq part := by rw [hr, ← mdQ_Kp k3]; rfl
  rw [nm_eq, chk_pos (by omega)]
  refine ih _ _ _ (by omega) ⟨Kp_trans k3 (mended_Kp e4), hL4, by omega, by omega, jand_in _ _, fun c hc => ?_⟩
  rw [tb_jand, tb_not _ hc, Bool.and_eq_true, c3 c hc, Bool.not_eq_true', hr2]
  constructor
  · rintro ⟨⟨h1, h2⟩, h3⟩
    refine ⟨h1, fun q hq => ?_⟩
    by_cases qe : q = qq
    · rw [qe]; exact h3
    · exact h2 q (by omega)
  · rintro ⟨h1, h2⟩
    exact ⟨⟨h1, fun q hq => h2 q (by omega)⟩, h2 qq (by omega)⟩
/-- an assignment mends a case -/
def Mds (h : Hp) (q : Nat) (c : Nat) : Prop := tb (mdQ h q ((c / 64 : Nat) : Int)) (c % 64) = true
theorem Mds_Kp {h h1 : Hp} (k : Kp h h1) : Mds h1 = Mds h := by funext q c; unfold Mds; rw [mdQ_Kp k]
theorem unmended_Kp {h h1 : Hp} {q r : Int} (e : XX5_unmended q h = some (r, h1)) : Kp h h1 := fun a i hh => fr_XX5_unmended e a i (by omega)
theorem firstUnmended_ok {h : Hp} (hT : Two h) (hA : Aim h) (hC : Cas h) : En (XX5_firstUnmended h) (fun r _ => Lst (h 37 0).toNat (fun c => live h c = true ∧ ∀ q : Nat, (q : Int) < 2 ^ (h 40 4).toNat → ¬ Mds h q c) r) := by
  obtain ⟨n0, n1, n2, n3, n4⟩ := Cas_num hC hT.1.1
  unfold XX5_firstUnmended XX5_firstUnmended_L2
  refine En_lup1 (fun l1 _ => (4 - l1).toNat) (fun l1 h1 => Kp h h1 ∧ 0 ≤ l1 ∧ l1 ≤ h 37 1 ∧ ∀ c : Nat, (c : Int) < 64 * l1 → c < (h 37 0).toNat → ¬ (live h c = true ∧ ∀ q : Nat, (q : Int) < 2 ^ (h 40 4).toNat → ¬ Mds h q c)) ?_ FU _ _ (by unfold FU; omega) ⟨Kp_refl _, by omega, by omega, fun c hc => by omega⟩
  rintro self l1 h1 ih ⟨k1, c0, c1, c2⟩
  unfold XX5_firstUnmended_b2
  rw [k1 37 1 (by omega)]
  by_cases q : h 37 1 ≤ l1
  · rw [if_pos q]
    exact En_some (Or.inl ⟨rfl, fun c hc => c2 c (by omega) hc⟩)
  · rw [if_neg q]
    obtain ⟨part, rfl⟩ := Int.eq_ofNat_of_zero_le c0
    refine En_cal (unmended_ok (Two_Kp k1 hT) (Aim_Kp k1 hA) (part := part) (by omega) (by rw [k1 39 _ (by omega)]; exact hC.2.2.2.1 part (by omega))) (fun r h2 e2 hr => ?_)
    obtain ⟨hi, hr⟩ := hr
    have hr : ∀ c, c < 64 → (tb r c = true ↔ (tb (h 39 part) c = true ∧ ∀ q : Nat, (q : Int) < 2 ^ (h 40 4).toNat → tb (mdQ h q part) c = false)) := by
      intro c hc
      rw [hr c hc, k1 39 _ (by omega), k1 40 4 (by omega)]
      simp only [mdQ_Kp k1]
    have k2 := Kp_trans k1 (unmended_Kp e2)
    have conv : ∀ c : Nat, c / 64 = part → (tb r (c % 64) = true ↔ (live h c = true ∧ ∀ q : Nat, (q : Int) < 2 ^ (h 40 4).toNat → ¬ Mds h q c)) := by
      intro c hcp
      rw [hr (c % 64) (by omega)]
      unfold live Mds
      rw [hcp]
      simp
    by_cases qz : jcmp r 0 = 0
    · rw [if_pos qz, chk_pos (by omega)]
      have hz := (tb_zero hi).1 (jcmp0.1 qz)
      refine ih _ _ (by omega) ⟨k2, by omega, by omega, fun c hc hcN hh => ?_⟩
      by_cases qc : (c : Int) < 64 * part
      · exact c2 c qc hcN hh
      · have := (conv c (by omega)).2 hh
        rw [hz _ (by omega)] at this; cases this
    · rw [if_neg qz]
      have hex : ∃ c, c < 64 ∧ tb r c = true := Classical.byContradiction (fun hno => qz (jcmp0.2 ((tb_zero hi).2 (fun c hc => Bool.eq_false_iff.mpr (fun ht => hno ⟨c, hc, ht⟩)))))
      obtain ⟨k, hk, hk1, hk2⟩ := least_ex hex
      rw [lowest_eq (by omega) hk hk1 (fun j hj => by simpa using hk2 j hj), cal_eq]
      have hkr := (hr k hk).1 hk1
      have hlt := hC.2.2.2.2 part (by omega) k hk hkr.1
      refine En_some (Or.inr ⟨64 * part + k, by omega, by omega, (conv _ (by omega)).1 (by rw [show (64 * part + k) % 64 = k by omega]; exact hk1), fun d hd hh => ?_⟩)
      by_cases qd : (d : Int) < 64 * part
      · exact c2 d qd (by omega) hh
      · exact hk2 (d % 64) (by omega) ((conv d (by omega)).2 hh)
/-- the least assignment that mends a case: w if none -/
def Lma (h : Hp) (m : Int) (c : Nat) (w r : Int) : Prop := (r = w ∧ ∀ q : Nat, (q : Int) < 2 ^ m.toNat → ¬ Mds h q c) ∨ (∃ q : Nat, (q : Int) < 2 ^ m.toNat ∧ r = (q : Int) ∧ Mds h q c ∧ ∀ p, p < q → ¬ Mds h p c)
theorem leastMending_ok {h : Hp} (hT : Two h) (hA : Aim h) {c : Nat} (hc : c < 256) : En (XX5_leastMending c h) (fun r _ => Lma h (h 40 4) c (-4) r) := by
  unfold XX5_leastMending
  have e : (c : Int).tdiv 64 = ((c / 64 : Nat) : Int) := rfl
  rw [e, chk_pos (by omega)]
  refine En_cal (load_ok hT (part := c / 64) (by omega)) (fun r2 h2 e2 hL => ?_)
  have k2 := load_Kp e2
  obtain ⟨z0, z1, z2⟩ := asg hA
  unfold XX5_leastMending_L10
  refine En_lup2 (fun _ l2 _ => (8 - l2).toNat) (fun l1 l2 h3 => (c : Int) = l1 ∧ Kp h h3 ∧ Loaded (c / 64) h3 ∧ 0 ≤ l2 ∧ l2 ≤ 2 ^ (h 40 4).toNat ∧ ∀ q : Nat, (q : Int) < l2 → ¬ Mds h q c) ?_ FU _ _ _ (by unfold FU; omega) ⟨rfl, k2, hL, by omega, by omega, fun q hq => by omega⟩
  rintro self l1 l2 h3 ih ⟨rfl, k3, hL3, c0, c1, c2⟩
  unfold XX5_leastMending_b10
  rw [assignments_eq (Aim_Kp k3 hA), cal_eq, k3 40 4 (by omega)]
  by_cases q : (2 : Int) ^ (h 40 4).toNat ≤ l2
  · rw [if_pos q]
    exact En_some (Or.inl ⟨rfl, fun q hq => c2 q (by omega)⟩)
  rw [if_neg q]
  obtain ⟨qq, rfl⟩ := Int.eq_ofNat_of_zero_le c0
  refine En_cal (mended_ok (Two_Kp k3 hT) (Aim_Kp k3 hA) (by omega) hL3 (q := qq)) (fun r h4 e4 hr => ?_)
  obtain ⟨hr, hL4⟩ := hr
  have hr2 : r = mdQ h qq ((c / 64 : Nat) : Int) := by rw [hr, ← mdQ_Kp k3]; rfl
  rw [e, chk_pos (by omega), show (c : Int) - ((c / 64 : Nat) : Int) * 64 = ((c % 64 : Nat) : Int) by omega]
  by_cases qb : jcmp (jand (jshr r ((c % 64 : Nat) : Int)) 1) 1 = 0
  · rw [if_pos qb]
    have := (jbit1 r (by omega) (by omega)).1 qb
    rw [Int.toNat_natCast, hr2] at this
    exact En_some (Or.inr ⟨qq, by omega, rfl, this, fun p hp => c2 p (by omega)⟩)
  · rw [if_neg qb, chk_pos (by omega)]
    refine ih _ _ _ (by omega) ⟨rfl, Kp_trans k3 (mended_Kp e4), hL4, by omega, by omega, fun q hq hm => ?_⟩
    by_cases qe : q = qq
    · rw [qe] at hm
      exact qb ((jbit1 r (by omega) (by omega)).2 (by rw [Int.toNat_natCast, hr2]; exact hm))
    · exact c2 q (by omega) hm
/-- the model: its row of mending assignments -/
def MdM (h : Hp) (q c : Nat) : Prop := tb (h 190 (4 * q + c / 64)) (c % 64) = true
theorem doesMend_eq (h : Hp) {q c : Nat} (hq : q < 8) (hc : c < 256) : XX12_doesMend q c h = some (if tb (h 190 (4 * q + c / 64)) (c % 64) = true then 1 else 0, h) := by
  unfold XX12_doesMend
  have e : (c : Int).tdiv 64 = ((c / 64 : Nat) : Int) := rfl
  rw [e, chk_pos (by omega), chk_pos (by omega), chk_pos (by omega), inb_pos (by omega), chk_pos (by omega), show (c : Int) - ((c / 64 : Nat) : Int) * 64 = ((c % 64 : Nat) : Int) by omega, show (4 * (q : Int) + ((c / 64 : Nat) : Int)).toNat = 4 * q + c / 64 by omega]
  by_cases qb : tb (h 190 (4 * q + c / 64)) (c % 64) = true
  · rw [if_pos ((jbit1 _ (by omega) (by omega)).2 (by rw [Int.toNat_natCast]; exact qb)), if_pos qb, zb_1]
  · rw [if_neg (fun hh => qb (by have := (jbit1 (h 190 (4 * q + c / 64)) (k := ((c % 64 : Nat) : Int)) (by omega) (by omega)).1 hh; rw [Int.toNat_natCast] at this; exact this)), if_neg qb, zb_0]
theorem leastMend_ok {h : Hp} {n : Int} (hn : 1 ≤ n ∧ n ≤ 3) {c : Nat} (hc : c < 256) : En (XX12_leastMend n c h) (fun r h1 => h1 = h ∧ ((r = -1 ∧ ∀ q : Nat, (q : Int) < 2 ^ n.toNat → ¬ MdM h q c) ∨ (∃ q : Nat, (q : Int) < 2 ^ n.toNat ∧ r = (q : Int) ∧ MdM h q c ∧ ∀ p, p < q → ¬ MdM h p c))) := by
  have hash : ashl 1 n = 2 ^ n.toNat := ashl1 (by omega) (by omega)
  have hpow : 1 ≤ (2 : Int) ^ n.toNat ∧ (2 : Int) ^ n.toNat ≤ 8 := by
    have : n.toNat = 1 ∨ n.toNat = 2 ∨ n.toNat = 3 := by omega
    rcases this with e | e | e <;> rw [e] <;> decide
  unfold XX12_leastMend XX12_leastMend_L2
  refine En_lup3 (fun _ _ l3 _ => (8 - l3).toNat) (fun l1 l2 l3 h1 => n = l1 ∧ (c : Int) = l2 ∧ h = h1 ∧ 0 ≤ l3 ∧ l3 ≤ 2 ^ n.toNat ∧ ∀ q : Nat, (q : Int) < l3 → ¬ MdM h q c) ?_ FU _ _ _ _ (by unfold FU; omega) ⟨rfl, rfl, rfl, by omega, by omega, fun q hq => by omega⟩
  rintro self l1 l2 l3 h1 ih ⟨rfl, rfl, rfl, c0, c1, c2⟩
  unfold XX12_leastMend_b2
  rw [hash]
  by_cases q : (2 : Int) ^ n.toNat ≤ l3
  · rw [if_pos q]
    exact En_some ⟨rfl, Or.inl ⟨rfl, fun q hq => c2 q (by omega)⟩⟩
  rw [if_neg q]
  obtain ⟨qq, rfl⟩ := Int.eq_ofNat_of_zero_le c0
  rw [doesMend_eq h (by omega) hc, cal_eq]
  by_cases qb : tb (h 190 (4 * qq + c / 64)) (c % 64) = true
  · rw [if_pos qb, if_neg (by decide)]
    exact En_some ⟨rfl, Or.inr ⟨qq, by omega, rfl, qb, fun p hp => c2 p (by omega)⟩⟩
  · rw [if_neg qb, if_pos rfl, chk_pos (by omega)]
    refine ih _ _ _ _ (by omega) ⟨rfl, rfl, rfl, by omega, by omega, fun q hq hm => ?_⟩
    by_cases qe : q = qq
    · rw [qe] at hm; exact qb hm
    · exact c2 q (by omega) hm
theorem lacking_ok {h : Hp} (hM : MN h) {n : Int} (hn : 1 ≤ n ∧ n ≤ 3) : En (XX12_lacking n h) (fun r h1 => h1 = h ∧ Lst (2 ^ (sM h).toNat) (fun c => h 149 c = 0 ∧ ∀ q : Nat, (q : Int) < 2 ^ n.toNat → ¬ MdM h q c) r) := by
  obtain ⟨b0, b1, _⟩ := MN_lt hM (e := 0) (by omega)
  have hash : ashl 1 (sM h) = 2 ^ (sM h).toNat := ashl1 (by omega) (by omega)
  have hpl := pow_list b0 b1
  have hpn : ((2 ^ (sM h).toNat : Nat) : Int) = (2 : Int) ^ (sM h).toNat := by rw [Int.natCast_pow]; rfl
  unfold XX12_lacking XX12_lacking_L2
  refine En_lup2 (fun _ l2 _ => (256 - l2).toNat) (fun l1 l2 h1 => n = l1 ∧ h = h1 ∧ 0 ≤ l2 ∧ l2 ≤ 2 ^ (sM h).toNat ∧ ∀ c : Nat, (c : Int) < l2 → ¬ (h 149 c = 0 ∧ ∀ q : Nat, (q : Int) < 2 ^ n.toNat → ¬ MdM h q c)) ?_ FU _ _ _ (by unfold FU; omega) ⟨rfl, rfl, by omega, by omega, fun c hc => by omega⟩
  rintro self l1 l2 h1 ih ⟨rfl, rfl, c0, c1, c2⟩
  unfold XX12_lacking_b2
  rw [cases_eq hM, cal_eq, hash]
  by_cases q : (2 : Int) ^ (sM h).toNat ≤ l2
  · rw [if_pos q]
    exact En_some ⟨rfl, Or.inl ⟨rfl, fun c hc => c2 c (by omega)⟩⟩
  rw [if_neg q, inb_pos (by omega)]
  obtain ⟨c, rfl⟩ := Int.eq_ofNat_of_zero_le c0
  rw [Int.toNat_natCast]
  have nx : ¬ (h 149 c = 0 ∧ ∀ q : Nat, (q : Int) < 2 ^ n.toNat → ¬ MdM h q c) → En (XX12_lacking_p31 self n c h) (fun r h1 => h1 = h ∧ Lst (2 ^ (sM h).toNat) (fun c => h 149 c = 0 ∧ ∀ q : Nat, (q : Int) < 2 ^ n.toNat → ¬ MdM h q c) r) := by
    intro hno
    unfold XX12_lacking_p31
    rw [chk_pos (by omega)]
    refine ih _ _ _ (by omega) ⟨rfl, rfl, by omega, by omega, fun d hd => ?_⟩
    by_cases qd : d = c
    · rw [qd]; exact hno
    · exact c2 d (by omega)
  by_cases qf : h 149 c = 0
  · rw [if_pos qf]
    refine En_cal (leastMend_ok hn (c := c) (by omega)) (fun r h2 _ hr => ?_)
    obtain ⟨rfl, hr⟩ := hr
    rcases hr with ⟨rfl, hr⟩ | ⟨q, hq, rfl, hm, _⟩
    · rw [if_pos rfl]
      exact En_some ⟨rfl, Or.inr ⟨c, by omega, rfl, ⟨qf, hr⟩, fun d hd => c2 d (by omega)⟩⟩
    · rw [if_neg (by omega)]
      exact nx (fun hh => hh.2 q hq hm)
  · rw [if_neg qf]
    exact nx (fun hh => qf hh.1)
