theorem holders_ok {p part : Nat} (hp : part < 4) (len q : Int) (h : Hp) : En (XX5_holders part p len q h) (fun r h1 => h1 = h ∧ ∀ k, k < 64 → (tb r k = true ↔ (((64 * part + k : Nat) : Int) < len ∧ h p (64 * part + k) = q))) := by
  unfold XX5_holders XX5_holders_L6
  refine En_lup5 (fun _ _ _ _ l6 _ => (64 - l6).toNat) (fun l0 l2 l3 l4 l6 h1 => (part : Int) = l0 ∧ len = l2 ∧ q = l3 ∧ h = h1 ∧ 0 ≤ l6 ∧ l6 ≤ 64 ∧ ∀ k : Nat, k < 64 → (tb l4 k = true ↔ ((k : Int) < l6 ∧ ((64 * part + k : Nat) : Int) < len ∧ h p (64 * part + k) = q))) ?_ FU _ _ _ _ _ _ (by unfold FU; omega) ⟨rfl, rfl, rfl, rfl, by omega, by omega, fun k hk => by rw [tb_0]; exact ⟨fun t => (by cases t), fun t => absurd t.1 (by omega)⟩⟩
  rintro self l0 l2 l3 l4 l6 h1 ih ⟨rfl, rfl, rfl, rfl, c0, c1, c2⟩
  unfold XX5_holders_b6
  by_cases q1 : 64 ≤ l6
  · rw [if_pos q1]
    exact En_some ⟨rfl, fun k hk => by rw [c2 k hk]; exact ⟨fun t => t.2, fun t => ⟨by omega, t⟩⟩⟩
  rw [if_neg q1, chk_pos (by omega), chk_pos (by omega)]
  by_cases q2 : len ≤ (64 * (part : Int)) + l6
  · rw [if_pos q2]
    exact En_some ⟨rfl, fun k hk => by rw [c2 k hk]; exact ⟨fun t => t.2, fun t => ⟨by omega, t⟩⟩⟩
  obtain ⟨c, rfl⟩ := Int.eq_ofNat_of_zero_le c0
  rw [if_neg q2, chk_pos (by omega), chk_pos (by omega), inb_pos (by omega), show (64 * (part : Int) + (c : Int)).toNat = 64 * part + c by omega]
  by_cases q3 : h p (64 * part + c) = q
  · rw [if_pos (jcmp0.2 q3), nm_eq]
    unfold XX5_holders_p48
    rw [chk_pos (by omega)]
    refine ih _ _ _ _ _ _ (by omega) ⟨rfl, rfl, rfl, rfl, by omega, by omega, fun k hk => ?_⟩
    rw [tb_jor, Bool.or_eq_true, c2 k hk, tb_pow (by omega) (by omega), decide_eq_true_eq, Int.toNat_natCast]
    constructor
    · rintro (t | t)
      · exact ⟨by omega, t.2⟩
      · subst t; exact ⟨by omega, by omega, q3⟩
    · rintro ⟨t1, t2⟩
      by_cases qk : k = c
      · exact Or.inr qk
      · exact Or.inl ⟨by omega, t2⟩
  · rw [if_neg (fun t => q3 (jcmp0.1 t))]
    unfold XX5_holders_p48
    rw [chk_pos (by omega)]
    refine ih _ _ _ _ _ _ (by omega) ⟨rfl, rfl, rfl, rfl, by omega, by omega, fun k hk => ?_⟩
    rw [c2 k hk]
    constructor
    · rintro ⟨t1, t2⟩; exact ⟨by omega, t2⟩
    · rintro ⟨t1, t2⟩
      refine ⟨?_, t2⟩
      by_cases qk : k = c
      · subst qk; exact absurd t2.2 q3
      · omega
/-- the judgement from case a on: all is well up to b, or the first case that isn't -/
def Jdg (a b : Nat) (len : Int) (L G : Nat → Prop) (r : Int) : Prop := (r = 1000 ∧ ∀ c, a ≤ c → c < b → L c → (c : Int) < len ∧ G c) ∨ ∃ c, a ≤ c ∧ c < b ∧ L c ∧ ¬ ((c : Int) < len ∧ G c) ∧ (∀ d, a ≤ d → d < c → L d → (d : Int) < len ∧ G d) ∧ r = if len ≤ (c : Int) then -13 else (c : Int)
theorem Jdg_uniq {b : Nat} {len : Int} {L G L2 G2 : Nat → Prop} {r r2 : Int} (hb : b ≤ 256) (h : Jdg 0 b len L G r) (h2 : Jdg 0 b len L2 G2 r2) (eL : ∀ c, c < b → (L c ↔ L2 c)) (eG : ∀ c, c < b → (c : Int) < len → (G c ↔ G2 c)) : r = r2 := by
  have good : ∀ c, c < b → (((c : Int) < len ∧ G c) ↔ ((c : Int) < len ∧ G2 c)) := fun c hc => and_congr_right (fun t => eG c hc t)
  rcases h with ⟨rfl, h⟩ | ⟨c, c0, c1, c2, c3, c4, c5⟩
  · rcases h2 with ⟨rfl, _⟩ | ⟨d, d0, d1, d2, d3, _⟩
    · rfl
    · exact absurd ((good d d1).1 (h d d0 d1 ((eL d d1).2 d2))) d3
  · rcases h2 with ⟨rfl, h2⟩ | ⟨d, d0, d1, d2, d3, d4, d5⟩
    · exact absurd ((good c c1).2 (h2 c c0 c1 ((eL c c1).1 c2))) c3
    · have : c = d := by
        rcases Nat.lt_trichotomy c d with t | t | t
        · exact absurd ((good c c1).2 (d4 c c0 t ((eL c c1).1 c2))) c3
        · exact t
        · exact absurd ((good d d1).1 (c4 d d0 t ((eL d d1).2 d2))) d3
      rw [c5, d5, this]
/-- the element of a case is an assignment that mends it -/
def Gd1 (h : Hp) (p : Nat) (c : Nat) : Prop := ∃ q : Nat, (q : Int) < 2 ^ (h 40 4).toNat ∧ h p c = (q : Int) ∧ Mds h q c
theorem misIn_ok {h : Hp} (hT : Two h) (hA : Aim h) (hC : Cas h) {p : Nat} (hp : 101 ≤ p ∧ p ≤ 142) {part : Nat} (hpt : (part : Int) < h 37 1) (hL : Loaded part h) (len : Int) : En (XX5_firstMisjudgedIn part p len h) (fun r h1 => Kp h h1 ∧ Jdg (64 * part) (if (h 37 0).toNat < 64 * part + 64 then (h 37 0).toNat else 64 * part + 64) len (fun c => live h c = true) (Gd1 h p) r) := by
  obtain ⟨n0, n1, n2, n3, n4⟩ := Cas_num hC hT.1.1
  obtain ⟨z0, z1, z2⟩ := asg hA
  unfold XX5_firstMisjudgedIn XX5_firstMisjudgedIn_L6
  refine En_lup4 (fun _ _ _ l6 _ => (8 - l6).toNat) (fun l1 l3 l4 l6 g => (part : Int) = l1 ∧ len = l3 ∧ Kp h g ∧ Loaded part g ∧ 0 ≤ l6 ∧ l6 ≤ 2 ^ (h 40 4).toNat ∧ ∀ k, k < 64 → (tb l4 k = true ↔ (((64 * part + k : Nat) : Int) < len ∧ ∃ q : Nat, (q : Int) < l6 ∧ h p (64 * part + k) = (q : Int) ∧ Mds h q (64 * part + k)))) ?_ FU _ _ _ _ _ (by unfold FU; omega) ⟨rfl, rfl, Kp_refl h, hL, by omega, by omega, fun k hk => by rw [tb_0]; exact ⟨fun t => (by cases t), fun ⟨_, q, t, _⟩ => absurd t (by omega)⟩⟩
  rintro self6 l1 l3 l4 l6 g ih6 ⟨rfl, rfl, k1, hL1, c0, c1, c2⟩
  unfold XX5_firstMisjudgedIn_b6
  rw [assignments_eq (Aim_Kp k1 hA), cal_eq, k1 40 4 (by omega)]
  by_cases q6 : (2 : Int) ^ (h 40 4).toNat ≤ l6
  · rw [if_pos q6, chk_pos (by omega), nm_eq]
    have e6 : l6 = 2 ^ (h 40 4).toNat := by omega
    subst e6
    have c2' : ∀ c : Nat, 64 * part ≤ c → c < 64 * part + 64 → (tb l4 (c - 64 * part) = true ↔ ((c : Int) < len ∧ Gd1 h p c)) := by
      intro c h1 h2
      have := c2 (c - 64 * part) (by omega)
      rw [show 64 * part + (c - 64 * part) = c by omega] at this
      exact this
    unfold XX5_firstMisjudgedIn_L47
    refine En_lup4 (fun _ _ _ l6 _ => (256 - l6).toNat) (fun l1 l3 l4' l6 g => (part : Int) = l1 ∧ len = l3 ∧ l4 = l4' ∧ Kp h g ∧ 64 * part ≤ l6 ∧ l6 ≤ 64 * part + 64 ∧ (l6 ≤ h 37 0) ∧ ∀ c : Nat, 64 * part ≤ c → (c : Int) < l6 → live h c = true → (c : Int) < len ∧ Gd1 h p c) ?_ FU _ _ _ _ _ (by unfold FU; omega) ⟨rfl, rfl, rfl, k1, by omega, by omega, by omega, fun c h1 h2 => by omega⟩
    clear k1 hL1 c0 c1 c2 g
    rintro self47 l1 l3 l4' l6 g ih47 ⟨rfl, rfl, rfl, k2, d0, d1, d2, d3⟩
    unfold XX5_firstMisjudgedIn_b47
    rw [k2 37 0 (by omega)]
    by_cases q1 : h 37 0 ≤ l6
    · rw [if_pos q1]
      exact En_some ⟨k2, Or.inl ⟨rfl, fun c h1 h2 => d3 c h1 (by split at h2 <;> omega)⟩⟩
    rw [if_neg q1, chk_pos (by omega), chk_pos (by omega)]
    by_cases q2 : (64 * (part : Int)) + 64 ≤ l6
    · rw [if_pos q2]
      exact En_some ⟨k2, Or.inl ⟨rfl, fun c h1 h2 => d3 c h1 (by split at h2 <;> omega)⟩⟩
    rw [if_neg q2]
    obtain ⟨c, rfl⟩ := Int.eq_ofNat_of_zero_le (show 0 ≤ l6 by omega)
    have lv : live g c = live h c := by unfold live; rw [k2 39 _ (by omega)]
    have next : ((live h c = true → (c : Int) < len ∧ Gd1 h p c)) → En (XX5_firstMisjudgedIn_p110 self47 part len l4 c g) (fun r h1 => Kp h h1 ∧ Jdg (64 * part) (if (h 37 0).toNat < 64 * part + 64 then (h 37 0).toNat else 64 * part + 64) len (fun c => live h c = true) (Gd1 h p) r) := by
      intro hg
      unfold XX5_firstMisjudgedIn_p110
      rw [chk_pos (by omega)]
      refine ih47 _ _ _ _ _ (by omega) ⟨rfl, rfl, rfl, k2, by omega, by omega, by omega, fun d h1 h2 hl => ?_⟩
      by_cases qd : d = c
      · subst qd; exact hg hl
      · exact d3 d h1 (by omega) hl
    rw [isLive_eq g (by omega), cal_eq, lv]
    by_cases ql : live h c = true
    · rw [if1 ql, if_neg n10]
      by_cases qn : (c : Int) < len
      · rw [if_pos qn]
        have ed : (c : Int).tdiv 64 = ((c / 64 : Nat) : Int) := rfl
        have hm : (c : Int) - ((c / 64 : Nat) : Int) * 64 = ((c - 64 * part : Nat) : Int) := by omega
        rw [ed, hm, chk_pos (by omega)]
        by_cases qt : tb l4 (c - 64 * part) = true
        · rw [if_neg (fun t => by have := (jbit0 _ (by omega) (by omega)).1 t; rw [Int.toNat_natCast, qt] at this; cases this)]
          exact next (fun _ => (c2' c (by omega) (by omega)).1 qt)
        · rw [if_pos ((jbit0 _ (by omega) (by omega)).2 (by rw [Int.toNat_natCast]; exact Bool.eq_false_iff.mpr qt))]
          exact En_some ⟨k2, Or.inr ⟨c, by omega, by split <;> omega, ql, fun t => qt ((c2' c (by omega) (by omega)).2 t), fun d h1 h2 => d3 d h1 (by omega), by rw [if_neg (by omega)]⟩⟩
      · rw [if_neg qn]
        exact En_some ⟨k2, Or.inr ⟨c, by omega, by split <;> omega, ql, fun t => qn t.1, fun d h1 h2 => d3 d h1 (by omega), by rw [if_pos (by omega)]⟩⟩
    · rw [if0 ql, if_pos rfl]
      exact next (fun t => absurd t ql)
  rw [if_neg q6]
  obtain ⟨qq, rfl⟩ := Int.eq_ofNat_of_zero_le c0
  refine En_cal (mended_ok (Two_Kp k1 hT) (Aim_Kp k1 hA) (by omega) hL1 (q := qq)) (fun r g4 e4 hr => ?_)
  obtain ⟨hr, hL4⟩ := hr
  have hr2 : r = mdQ h qq part := by rw [hr, ← mdQ_Kp k1]; rfl
  have k4 := Kp_trans k1 (mended_Kp e4)
  obtain ⟨r8, h8, e8, rfl, hr8⟩ := holders_ok (p := p) (part := part) (by omega) len qq g4
  rw [e8, cal_eq, nm_eq, chk_pos (by omega)]
  refine ih6 _ _ _ _ _ (by omega) ⟨rfl, rfl, k4, hL4, by omega, by omega, fun k hk => ?_⟩
  rw [tb_jor, tb_jand, Bool.or_eq_true, Bool.and_eq_true, c2 k hk, hr8 k hk, hr2, ← Mds_at h qq hk, k4 p _ (by omega)]
  constructor
  · rintro (⟨t1, q, t2, t3, t4⟩ | ⟨t1, t2, t3⟩)
    · exact ⟨t1, q, by omega, t3, t4⟩
    · exact ⟨t2, qq, by omega, t3, t1⟩
  · rintro ⟨t1, q, t2, t3, t4⟩
    by_cases qe : q = qq
    · subst qe; exact Or.inr ⟨t4, t1, t3⟩
    · exact Or.inl ⟨t1, q, by omega, t3, t4⟩
theorem misjudged_ok {h : Hp} (hT : Two h) (hA : Aim h) (hC : Cas h) {p : Nat} (hp : 101 ≤ p ∧ p ≤ 142) (len : Int) : En (XX5_firstMisjudged p len h) (fun r h1 => Kp h h1 ∧ Jdg 0 (h 37 0).toNat len (fun c => live h c = true) (Gd1 h p) r) := by
  obtain ⟨n0, n1, n2, n3, n4⟩ := Cas_num hC hT.1.1
  unfold XX5_firstMisjudged XX5_firstMisjudged_L2
  refine En_lup2 (fun _ l3 _ => (4 - l3).toNat) (fun l2 l3 g => len = l2 ∧ Kp h g ∧ 0 ≤ l3 ∧ l3 ≤ h 37 1 ∧ ∀ c : Nat, (c : Int) < 64 * l3 → (c : Int) < h 37 0 → live h c = true → (c : Int) < len ∧ Gd1 h p c) ?_ FU _ _ _ (by unfold FU; omega) ⟨rfl, Kp_refl h, by omega, by omega, fun c hc => absurd hc (by omega)⟩
  rintro self l2 l3 g ih ⟨rfl, k1, c0, c1, c2⟩
  unfold XX5_firstMisjudged_b2
  rw [k1 37 1 (by omega)]
  by_cases q : h 37 1 ≤ l3
  · rw [if_pos q]
    exact En_some ⟨k1, Or.inl ⟨rfl, fun c _ h2 => c2 c (by omega) (by omega)⟩⟩
  rw [if_neg q]
  obtain ⟨part, rfl⟩ := Int.eq_ofNat_of_zero_le c0
  refine En_cal (load_ok (Two_Kp k1 hT) (part := part) (by omega)) (fun r2 g2 e2 hL => ?_)
  have k2 := Kp_trans k1 (load_Kp e2)
  have hC2 : Cas g2 := by
    unfold Cas
    rw [k2 37 0 (by omega), k2 37 1 (by omega), show g2 38 = h 38 from funext (fun i => k2 38 i (by omega)), show g2 39 = h 39 from funext (fun i => k2 39 i (by omega)), sc_congr (show g2 18 = h 18 from funext (fun i => k2 18 i (by omega)))]
    exact hC
  refine En_cal (misIn_ok (Two_Kp k2 hT) (Aim_Kp k2 hA) hC2 hp (part := part) (by rw [k2 37 1 (by omega)]; omega) hL len) (fun r3 g3 e3 hr => ?_)
  obtain ⟨k3, hr⟩ := hr
  have eG : Gd1 g2 p = Gd1 h p := by
    funext c
    unfold Gd1
    rw [k2 40 4 (by omega), k2 p c (by omega), Mds_Kp k2]
  have eL : live g2 = live h := by funext c; unfold live; rw [k2 39 _ (by omega)]
  rw [eG, eL, k2 37 0 (by omega)] at hr
  have k4 := Kp_trans k2 k3
  by_cases q3 : r3 = 1000
  · rw [if_pos q3, chk_pos (by omega)]
    refine ih _ _ _ (by omega) ⟨rfl, k4, by omega, by omega, fun c h1 h2 hl => ?_⟩
    by_cases qc : (c : Int) < 64 * part
    · exact c2 c qc h2 hl
    · rcases hr with ⟨_, hr⟩ | ⟨d, d0, d1, _, _, _, d5⟩
      · exact hr c (by omega) (by split <;> omega) hl
      · rw [q3] at d5
        split at d5
        · omega
        · split at d1 <;> omega
  · rw [if_neg q3]
    rcases hr with ⟨hr, _⟩ | ⟨d, d0, d1, d2, d3, d4, d5⟩
    · exact absurd hr q3
    · refine En_some ⟨k4, Or.inr ⟨d, by omega, by split at d1 <;> omega, d2, d3, fun e _ h2 hl => ?_, d5⟩⟩
      by_cases qe : e < 64 * part
      · exact c2 e (by omega) (by split at d1 <;> omega) hl
      · exact d4 e (by omega) h2 hl
/-- the model's judgement -/
def GdM (h : Hp) (m : Int) (d : Nat) (c : Nat) : Prop := ∃ q : Nat, (q : Int) < 2 ^ m.toNat ∧ h 173 (256 * d + c) = (q : Int) ∧ MdM h q c
theorem al2i_nat {q : Int} (h0 : 0 ≤ q) (h1 : q < 2147483648) : al2i q = q := by
  unfold al2i
  rw [Int64.toInt_toInt32, toJ (show inJ q by unfold inJ; omega)]
  exact Int.bmod_eq_of_le (by omega) (by omega)
theorem jcmp_lt {a b : Int} : jcmp a b < 0 ↔ a < b := by
  unfold jcmp
  by_cases q : b < a
  · rw [if_pos q]; omega
  · rw [if_neg q]
    by_cases q2 : a = b
    · rw [if_pos q2]; omega
    · rw [if_neg q2]; omega
theorem refuse_val {c r : Int} {h g : Hp} (e : XX12_refuse c h = some (r, g)) : r = c := by
  unfold XX12_refuse chk at e
  split at e
  · rw [hm_eq] at e; cases e; rfl
  · cases e
theorem judgeL_ok {h : Hp} (hM : MN h) {d : Nat} (hd : d < 6) {m : Int} (hm : 1 ≤ m ∧ m ≤ 3) (hn : XX12_refuse (-13) h ≠ none) : En (XX12_judge_L74 d m 0 h) (fun r g => Jdg 0 (2 ^ (sM h).toNat) (h 172 d) (fun c => h 149 c = 0) (GdM h m d) r ∧ ((r ≠ -13 ∧ g = h) ∨ (r = -13 ∧ XX12_refuse (-13) h = some (-13, g)))) := by
  obtain ⟨b0, b1, _⟩ := MN_lt hM (e := 0) (by omega)
  have hash : ashl 1 (sM h) = 2 ^ (sM h).toNat := ashl1 (by omega) (by omega)
  have hasm : ashl 1 m = 2 ^ m.toNat := ashl1 (by omega) (by omega)
  have hpl := pow_list b0 b1
  have hpn : ((2 ^ (sM h).toNat : Nat) : Int) = (2 : Int) ^ (sM h).toNat := by rw [Int.natCast_pow]; rfl
  have hm8 : (2 : Int) ^ m.toNat ≤ 8 := by
    have : m.toNat = 1 ∨ m.toNat = 2 ∨ m.toNat = 3 := by omega
    rcases this with e | e | e <;> rw [e] <;> decide
  unfold XX12_judge_L74
  refine En_lup3 (fun _ _ l6 _ => (256 - l6).toNat) (fun l1 l5 l6 g => (d : Int) = l1 ∧ m = l5 ∧ h = g ∧ 0 ≤ l6 ∧ l6 ≤ 2 ^ (sM h).toNat ∧ ∀ c : Nat, (c : Int) < l6 → h 149 c = 0 → (c : Int) < h 172 d ∧ GdM h m d c) ?_ FU _ _ _ _ (by unfold FU; omega) ⟨rfl, rfl, rfl, by omega, by omega, fun c hc => absurd hc (by omega)⟩
  rintro self l1 l5 l6 g ih ⟨rfl, rfl, rfl, c0, c1, c2⟩
  unfold XX12_judge_b74
  rw [cases_eq hM, cal_eq, hash]
  by_cases q : (2 : Int) ^ (sM h).toNat ≤ l6
  · rw [if_pos q]
    exact En_some ⟨Or.inl ⟨rfl, fun c _ h2 => c2 c (by omega)⟩, Or.inl ⟨by decide, rfl⟩⟩
  rw [if_neg q, inb_pos (by omega)]
  obtain ⟨c, rfl⟩ := Int.eq_ofNat_of_zero_le c0
  rw [Int.toNat_natCast]
  have next : (h 149 c = 0 → (c : Int) < h 172 d ∧ GdM h m d c) → En (XX12_judge_p159 self d m c h) (fun r g => Jdg 0 (2 ^ (sM h).toNat) (h 172 d) (fun c => h 149 c = 0) (GdM h m d) r ∧ ((r ≠ -13 ∧ g = h) ∨ (r = -13 ∧ XX12_refuse (-13) h = some (-13, g)))) := by
    intro hg
    unfold XX12_judge_p159
    rw [chk_pos (by omega)]
    refine ih _ _ _ _ (by omega) ⟨rfl, rfl, rfl, by omega, by omega, fun k hk hf => ?_⟩
    by_cases qk : k = c
    · subst qk; exact hg hf
    · exact c2 k (by omega) hf
  by_cases qf : h 149 c = 0
  · rw [if_pos qf, inb_pos (by omega), Int.toNat_natCast]
    by_cases ql : (c : Int) < h 172 d
    · have bad : ¬ GdM h m d c → En (some ((c : Int), h)) (fun r g => Jdg 0 (2 ^ (sM h).toNat) (h 172 d) (fun c => h 149 c = 0) (GdM h m d) r ∧ ((r ≠ -13 ∧ g = h) ∨ (r = -13 ∧ XX12_refuse (-13) h = some (-13, g)))) := fun hb =>
        En_some ⟨Or.inr ⟨c, by omega, by omega, qf, fun t => hb t.2, fun e _ h2 => c2 e (by omega), by rw [if_neg (by omega)]⟩, Or.inl ⟨by omega, rfl⟩⟩
      rw [if_pos ql, chk_pos (by omega), chk_pos (by omega), inb_pos (by omega), nm_eq, show (256 * (d : Int) + (c : Int)).toNat = 256 * d + c by omega]
      by_cases q0 : h 173 (256 * d + c) < 0
      · rw [if_pos (jcmp_lt.2 q0)]
        exact bad (fun ⟨q, _, t, _⟩ => by omega)
      rw [if_neg (fun t => q0 (jcmp_lt.1 t)), hasm]
      by_cases q1 : (2 : Int) ^ m.toNat ≤ h 173 (256 * d + c)
      · rw [if_pos (by have := (jcmp_lt (a := h 173 (256 * d + c)) (b := 2 ^ m.toNat)); omega)]
        exact bad (fun ⟨q, t1, t, _⟩ => by omega)
      rw [if_neg (by have := (jcmp_lt (a := h 173 (256 * d + c)) (b := 2 ^ m.toNat)).2 (by omega); omega), al2i_nat (by omega) (by omega)]
      obtain ⟨v, hv⟩ := Int.eq_ofNat_of_zero_le (show 0 ≤ h 173 (256 * d + c) by omega)
      rw [hv, doesMend_eq h (by omega) (by omega), cal_eq]
      by_cases qm : tb (h 190 (4 * v + c / 64)) (c % 64) = true
      · rw [if_pos qm, if_neg n10]
        exact next (fun _ => ⟨ql, v, by omega, hv, qm⟩)
      · rw [if_neg qm, if_pos rfl]
        exact bad (fun ⟨q, _, t, t2⟩ => by
          have : q = v := by omega
          subst this; exact qm t2)
    · rw [if_neg ql, cal_id]
      obtain ⟨⟨r, g⟩, hr⟩ := Option.ne_none_iff_exists'.mp hn
      have : r = -13 := refuse_val hr
      subst this
      exact En_eq hr ⟨Or.inr ⟨c, by omega, by omega, qf, fun t => ql t.1, fun e _ h2 => c2 e (by omega), by rw [if_pos (by omega)]⟩, Or.inr ⟨rfl, hr⟩⟩
  · rw [if_neg qf]
    exact next (fun t => absurd t qf)
