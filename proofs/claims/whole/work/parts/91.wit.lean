theorem Mds_at (h : Hp) (q : Nat) {part k : Nat} (hk : k < 64) : Mds h q (64 * part + k) ↔ tb (mdQ h q part) k = true := by
  unfold Mds; rw [show (64 * part + k) / 64 = part by omega, show (64 * part + k) % 64 = k by omega]
theorem live_at (h : Hp) {part k : Nat} (hk : k < 64) : live h (64 * part + k) = tb (h 39 part) k := by
  unfold live; rw [show (64 * part + k) / 64 = part by omega, show (64 * part + k) % 64 = k by omega]
/-- the mender's work, and a row -/
def KpA (p : Nat) (h h1 : Hp) : Prop := ∀ a i, ¬ ((42 ≤ a ∧ a ≤ 43) ∨ a = 203 ∨ (a = 40 ∧ 8 ≤ i ∧ i ≤ 9) ∨ a = p) → h1 a i = h a i
theorem KpA_of {p : Nat} {h h1 h2 : Hp} (k : KpA p h h1) (k2 : Kp h1 h2) : KpA p h h2 := fun a i hh => by rw [k2 a i (by omega)]; exact k a i hh
theorem Two_KpA {p : Nat} (hp : 101 ≤ p ∧ p ≤ 142) {h h1 : Hp} (k : KpA p h h1) (hT : Two h) : Two h1 := Two_congr (fun a i ha => k a i (by omega)) hT
theorem Aim_KpA {p : Nat} (hp : 101 ≤ p ∧ p ≤ 142) {h h1 : Hp} (k : KpA p h h1) (hA : Aim h) : Aim h1 := by
  unfold Aim
  rw [k 40 4 (by omega), k 40 5 (by omega), show h1 41 = h 41 from funext (fun i => k 41 i (by omega)), sc_congr (show h1 18 = h 18 from funext (fun i => k 18 i (by omega))), wn_congr (show h1 18 = h 18 from funext (fun i => k 18 i (by omega)))]
  exact hA
theorem mdQ_KpA {p : Nat} (hp : 101 ≤ p ∧ p ≤ 142) {h h1 : Hp} (k : KpA p h h1) (q part : Int) : mdQ h1 q part = mdQ h q part := by
  unfold mdQ
  rw [k 40 4 (by omega), show h1 41 = h 41 from funext (fun i => k 41 i (by omega))]
  exact mdW_congr (fun a i ha => k a i (by omega)) _ _
theorem Loaded_hi {part : Nat} {h h1 : Hp} (e : ∀ a, (a < 101 ∨ a = 203) → h1 a = h a) (hL : Loaded part h) : Loaded part h1 := by
  have ec : Cone h1 = Cone h := Cone_congr (e 18 (by omega)) (e 24 (by omega)) (by rw [e 40 (by omega)])
  unfold Loaded
  rw [ec, e 40 (by omega), e 19 (by omega), e 20 (by omega), e 43 (by omega), e 42 (by omega), e 25 (by omega), wn_congr (e 18 (by omega)), e 28 (by omega), e 203 (by omega), e 35 (by omega), e 31 (by omega)]
  exact hL
/-- the least assignment below q that mends a case that isn't free, or 0 -/
def WL (h : Hp) (q : Int) (c : Nat) (r : Int) : Prop := (∃ p : Nat, (p : Int) < q ∧ r = (p : Int) ∧ live h c = true ∧ Mds h p c ∧ ∀ p', p' < p → ¬ Mds h p' c) ∨ (r = 0 ∧ (live h c = false ∨ ∀ p : Nat, (p : Int) < q → ¬ Mds h p c))
theorem writeLeast_ok {h : Hp} (hT : Two h) (hA : Aim h) (hC : Cas h) {p : Nat} (hp : 101 ≤ p ∧ p ≤ 142) (hz : ∀ c, c < 256 → h p c = 0) : En (XX5_writeLeast p h) (fun _ g => KpA p h g ∧ ∀ c : Nat, (c : Int) < h 37 0 → WL h (2 ^ (h 40 4).toNat) c (g p c)) := by
  obtain ⟨n0, n1, n2, n3, n4⟩ := Cas_num hC hT.1.1
  obtain ⟨z0, z1, z2⟩ := asg hA
  unfold XX5_writeLeast XX5_writeLeast_L2
  refine En_lup1 (fun l _ => (4 - l).toNat) (fun l g => KpA p h g ∧ 0 ≤ l ∧ l ≤ h 37 1 ∧ (∀ c : Nat, (c : Int) < 64 * l → WL h (2 ^ (h 40 4).toNat) c (g p c)) ∧ ∀ c : Nat, c < 256 → 64 * l ≤ (c : Int) → g p c = 0) ?_ FU _ _ (by unfold FU; omega) ⟨fun _ _ _ => rfl, by omega, by omega, fun c hc => absurd hc (by omega), fun c hc _ => hz c hc⟩
  rintro self2 l g ih2 ⟨k1, c0, c1, c2, c3⟩
  unfold XX5_writeLeast_b2
  rw [k1 37 1 (by omega)]
  by_cases q : h 37 1 ≤ l
  · rw [if_pos q]
    exact En_some ⟨k1, fun c hc => c2 c (by omega)⟩
  rw [if_neg q]
  obtain ⟨part, rfl⟩ := Int.eq_ofNat_of_zero_le c0
  refine En_cal (load_ok (Two_KpA hp k1 hT) (part := part) (by omega)) (fun r2 g2 e2 hL => ?_)
  have kl := load_Kp e2
  have k2 := KpA_of k1 kl
  have row2 : ∀ c, g2 p c = g p c := fun c => kl p c (by omega)
  rw [inb_pos (by omega), nm_eq, Int.toNat_natCast, k2 39 part (by omega)]
  unfold XX5_writeLeast_L31
  refine En_lup3 (fun _ _ l5 _ => (8 - l5).toNat) (fun l2 l3 l5 g => (part : Int) = l2 ∧ KpA p h g ∧ Loaded part g ∧ 0 ≤ l5 ∧ l5 ≤ 2 ^ (h 40 4).toNat ∧ (∀ k, k < 64 → (tb l3 k = true ↔ (live h (64 * part + k) = true ∧ ∀ q : Nat, (q : Int) < l5 → ¬ Mds h q (64 * part + k)))) ∧ (∀ c : Nat, c < 64 * part → WL h (2 ^ (h 40 4).toNat) c (g p c)) ∧ (∀ k, k < 64 → WL h l5 (64 * part + k) (g p (64 * part + k))) ∧ ∀ c : Nat, c < 256 → 64 * part + 64 ≤ c → g p c = 0) ?_ FU _ _ _ _ (by unfold FU; omega) ⟨rfl, k2, hL, by omega, by omega, fun k hk => ?_, fun c hc => ?_, fun k hk => ?_, fun c hc hc2 => ?_⟩
  rotate_left
  · rw [live_at h hk]; exact ⟨fun t => ⟨t, fun q hq => absurd hq (by omega)⟩, fun t => t.1⟩
  · rw [row2]; exact c2 c (by omega)
  · rw [row2, c3 _ (by omega) (by omega)]; exact Or.inr ⟨rfl, Or.inr (fun q hq => absurd hq (by omega))⟩
  · rw [row2]; exact c3 c hc (by omega)
  clear hL k2 row2 kl e2 g2 c2 c3 k1 g
  rintro self31 l2 l3 l5 g ih31 ⟨rfl, k3, hL3, d0, d1, d2, d3, d4, d5⟩
  unfold XX5_writeLeast_b31
  rw [assignments_eq (Aim_KpA hp k3 hA), cal_eq, k3 40 4 (by omega)]
  by_cases q5 : (2 : Int) ^ (h 40 4).toNat ≤ l5
  · rw [if_pos q5, chk_pos (by omega)]
    have e5 : l5 = 2 ^ (h 40 4).toNat := by omega
    subst e5
    refine ih2 _ _ (by omega) ⟨k3, by omega, by omega, fun c hc => ?_, fun c hc hc2 => d5 c hc (by omega)⟩
    by_cases qc : c < 64 * part
    · exact d3 c qc
    · have := d4 (c - 64 * part) (by omega)
      rw [show 64 * part + (c - 64 * part) = c by omega] at this
      exact this
  rw [if_neg q5]
  obtain ⟨qq, rfl⟩ := Int.eq_ofNat_of_zero_le d0
  refine En_cal (mended_ok (Two_KpA hp k3 hT) (Aim_KpA hp k3 hA) (by omega) hL3 (q := qq)) (fun r g4 e4 hr => ?_)
  obtain ⟨hr, hL4⟩ := hr
  have hr2 : r = mdQ h qq part := by rw [hr, ← mdQ_KpA hp k3]; rfl
  have km := mended_Kp e4
  have k4 := KpA_of k3 km
  have row4 : ∀ c, g4 p c = g p c := fun c => km p c (by omega)
  rw [nm_eq]
  have here : ∀ k, k < 64 → (tb (jand r l3) k = true ↔ (Mds h qq (64 * part + k) ∧ live h (64 * part + k) = true ∧ ∀ q : Nat, (q : Int) < qq → ¬ Mds h q (64 * part + k))) := fun k hk => by
    rw [tb_jand, Bool.and_eq_true, d2 k hk, hr2, Mds_at h qq hk]
  generalize jand r l3 = v8 at here ⊢
  unfold XX5_writeLeast_L53
  refine En_lup5 (fun _ _ _ _ l8 _ => (64 - l8).toNat) (fun l2 l3' l5 l6 l8 f => (part : Int) = l2 ∧ l3 = l3' ∧ (qq : Int) = l5 ∧ v8 = l6 ∧ KpA p h f ∧ Loaded part f ∧ 0 ≤ l8 ∧ l8 ≤ 64 ∧ (∀ c : Nat, ¬ (64 * part ≤ c ∧ c < 64 * part + 64) → f p c = g p c) ∧ ∀ k : Nat, k < 64 → f p (64 * part + k) = if (k : Int) < l8 ∧ tb v8 k = true then (qq : Int) else g p (64 * part + k)) ?_ FU _ _ _ _ _ _ (by unfold FU; omega) ⟨rfl, rfl, rfl, rfl, k4, hL4, by omega, by omega, fun c _ => row4 c, fun k hk => by rw [row4, if_neg (by omega)]⟩
  clear k4 hL4 row4 km e4 g4 hr hr2 r
  rintro self53 l2 l3' l5 l6 l8 f ih53 ⟨rfl, rfl, rfl, rfl, k5, hL5, b0, b1, b2, b3⟩
  unfold XX5_writeLeast_b53
  by_cases q8 : 64 ≤ l8
  · rw [if_pos q8, nm_eq, chk_pos (by omega)]
    refine ih31 _ _ _ _ (by omega) ⟨rfl, k5, hL5, by omega, by omega, fun k hk => ?_, fun c hc => by rw [b2 c (by omega)]; exact d3 c hc, fun k hk => ?_, fun c hc hc2 => by rw [b2 c (by omega)]; exact d5 c hc hc2⟩
    · rw [tb_jand, tb_not _ hk, Bool.and_eq_true, d2 k hk, Bool.not_eq_true']
      constructor
      · rintro ⟨⟨t1, t2⟩, t3⟩
        refine ⟨t1, fun q hq hm => ?_⟩
        by_cases qe : q = qq
        · rw [qe] at hm
          rw [(here k hk).2 ⟨hm, t1, t2⟩] at t3; cases t3
        · exact t2 q (by omega) hm
      · rintro ⟨t1, t2⟩
        refine ⟨⟨t1, fun q hq => t2 q (by omega)⟩, Bool.eq_false_iff.mpr (fun t => t2 qq (by omega) ((here k hk).1 t).1)⟩
    · rw [b3 k hk]
      by_cases qt : tb v8 k = true
      · rw [if_pos ⟨by omega, qt⟩]
        obtain ⟨t1, t2, t3⟩ := (here k hk).1 qt
        exact Or.inl ⟨qq, by omega, rfl, t2, t1, fun p' hp' => t3 p' (by omega)⟩
      · rw [if_neg (fun t => qt t.2)]
        rcases d4 k hk with ⟨p', t1, t2, t3, t4, t5⟩ | ⟨t1, t2⟩
        · exact Or.inl ⟨p', by omega, t2, t3, t4, t5⟩
        · refine Or.inr ⟨t1, ?_⟩
          rcases t2 with t2 | t2
          · exact Or.inl t2
          · by_cases ql : live h (64 * part + k) = true
            · refine Or.inr (fun p' hp' hm => ?_)
              by_cases qe : p' = qq
              · rw [qe] at hm; exact qt ((here k hk).2 ⟨hm, ql, t2⟩)
              · exact t2 p' (by omega) hm
            · exact Or.inl (Bool.eq_false_iff.mpr ql)
  rw [if_neg q8]
  obtain ⟨k8, rfl⟩ := Int.eq_ofNat_of_zero_le b0
  have step : ∀ f2 : Hp, KpA p h f2 → Loaded part f2 → (∀ c : Nat, ¬ (64 * part ≤ c ∧ c < 64 * part + 64) → f2 p c = g p c) → (∀ k : Nat, k < 64 → f2 p (64 * part + k) = if (k : Int) < (k8 : Int) + 1 ∧ tb v8 k = true then (qq : Int) else g p (64 * part + k)) → En (XX5_writeLeast_p84 p self2 self31 self53 part l3 qq v8 k8 f2) (fun _ g => KpA p h g ∧ ∀ c : Nat, (c : Int) < h 37 0 → WL h (2 ^ (h 40 4).toNat) c (g p c)) := by
    intro f2 a1 a2 a3 a4
    unfold XX5_writeLeast_p84
    rw [chk_pos (by omega)]
    exact ih53 _ _ _ _ _ _ (by omega) ⟨rfl, rfl, rfl, rfl, a1, a2, by omega, by omega, a3, a4⟩
  by_cases qb : tb v8 k8 = true
  · rw [if_pos ((jbit1 _ (by omega) (by omega)).2 (by rw [Int.toNat_natCast]; exact qb)), chk_pos (by omega), chk_pos (by omega), inb_pos (by omega), hm_eq, show (64 * (part : Int) + (k8 : Int)).toNat = 64 * part + k8 by omega]
    refine step _ (fun a i hh => by rw [wr_ne (by omega)]; exact k5 a i hh) (Loaded_hi (fun a ha => wr_ne (by omega)) hL5) (fun c hc => by rw [wr_o (by omega)]; exact b2 c hc) (fun k hk => ?_)
    rw [wr_row]
    by_cases qk : k = k8
    · rw [if_pos (by omega), if_pos ⟨by omega, by rw [qk]; exact qb⟩]
    · rw [if_neg (by omega), b3 k hk]
      by_cases t : (k : Int) < (k8 : Int) ∧ tb v8 k = true
      · rw [if_pos t, if_pos ⟨by omega, t.2⟩]
      · rw [if_neg t, if_neg (fun t2 => t ⟨by omega, t2.2⟩)]
  · rw [if_neg (fun t => qb (by have := (jbit1 _ (by omega) (by omega)).1 t; rw [Int.toNat_natCast] at this; exact this))]
    refine step _ k5 hL5 b2 (fun k hk => ?_)
    rw [b3 k hk]
    by_cases qk : k = k8
    · rw [if_neg (by omega), if_neg (fun t => qb (by rw [← qk]; exact t.2))]
    · by_cases t : (k : Int) < (k8 : Int) ∧ tb v8 k = true
      · rw [if_pos t, if_pos ⟨by omega, t.2⟩]
      · rw [if_neg t, if_neg (fun t2 => t ⟨by omega, t2.2⟩)]
