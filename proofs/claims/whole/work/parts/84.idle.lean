theorem tb_jshr_hi (x : Int) {k : Int} (h0 : 0 ≤ k) (h1 : k < 64) {c : Nat} (hc : c < 64) (hk : 64 ≤ c + k.toNat) : tb (jshr x k) c = tb x 63 := by
  obtain ⟨n, rfl⟩ := Int.eq_ofNat_of_zero_le h0
  have hn : n < 64 := by omega
  unfold tb jshr
  rw [Int64.ofInt_toInt, Int64.toBitVec_shiftRight]
  have e := sh64 n hn
  simp only [Int.ofNat_eq_natCast, Int.toNat_natCast] at e hk ⊢
  rw [e, BitVec.sshiftRight_eq', BitVec.toNat_ofNat, Nat.mod_eq_of_lt (by omega), BitVec.getLsbD_sshiftRight]
  have h1 : ¬ (64 ≤ c) := by omega
  have h2 : ¬ (n + c < 64) := by omega
  simp [h1, h2, BitVec.msb_eq_getLsbD_last]
theorem Side_of {n : Nat} {h h1 : Hp} {e : Int} {p : Nat} {lim : Int} (hI : Inv n h1) (hS : Side e p lim h) : Side e p lim h1 := by
  rcases hS.1 with ⟨rfl, rfl, rfl⟩ | ⟨rfl, rfl, rfl⟩
  · exact Side_0 hI
  · exact Side_1 hI
theorem Side_seen {n : Nat} {h : Hp} {e : Int} {p : Nat} {lim : Int} (hI : Inv n h) (hS : Side e p lim h) : h 143 3 + h 143 2 = h (p + 1) 2 + h (p + 1) 1 ∧ ∀ k : Nat, (k : Int) < h (p + 1) 2 + h (p + 1) 1 → sn e k h = h (p + 4) k := by
  have r := hI.2.1.1
  have r2 := hI.2.1.2.1
  have r3 := hI.2.1.2.2.2.2.2.2
  rcases hS.1 with ⟨rfl, rfl, rfl⟩ | ⟨rfl, rfl, rfl⟩
  · exact ⟨show h 143 3 + h 143 2 = h 18 2 + h 18 1 by omega, fun k hk => (r3 k hk).1⟩
  · refine ⟨show h 143 3 + h 143 2 = h 28 2 + h 28 1 by omega, fun k hk => (r3 k ?_).2⟩
    have hk : (k : Int) < h 28 2 + h 28 1 := hk
    omega
/-- what one of the observed hangs on -/
def Rch (p : Nat) (h : Hp) (m : Int) (v : Nat) : Prop := ∃ k : Nat, (k : Int) < m ∧ tb (h (p + 7) (h (p + 4) k).toNat) v = true
theorem idleC_ok {lim : Int} {p : Nat} {h : Hp} (hl : lim ≤ 40) (hN : NetOK lim p h) (hC : Cch p h) : En (XX11_idle_L21 p 0 0 h) (fun r h1 => h1 = h ∧ ∃ R : Nat → Bool, (∀ v, R v = true ↔ Rch p h (h (p + 1) 2 + h (p + 1) 1) v) ∧ r = (cntB (fun c => !R ((sc (p + 1) h).toNat + c)) (h (p + 1) 3).toNat : Nat)) := by
  have hNu : Nums lim (p + 1) h := hN.1.1
  obtain ⟨b0, b1, b2, b3, b4⟩ := Pl_lt hl hNu
  have hsn : ∀ k : Nat, (k : Int) < h (p + 1) 2 + h (p + 1) 1 → 0 ≤ h (p + 4) k ∧ h (p + 4) k < wn (p + 1) h := hN.1.2.2.2.1
  have hn6 : 1 ≤ h (p + 1) 2 + h (p + 1) 1 ∧ h (p + 1) 2 + h (p + 1) 1 ≤ 6 := by obtain ⟨_, n1, n2, _, _, n5, n6, _, _⟩ := hNu; omega
  have hg40 : 0 ≤ h (p + 1) 3 ∧ h (p + 1) 3 ≤ lim := hNu.2.2.2.2.2.2.2
  unfold XX11_idle_L21
  refine En_lup2 (fun _ l5 _ => (6 - l5).toNat) (fun l3 l5 h1 => h = h1 ∧ 0 ≤ l5 ∧ l5 ≤ h (p + 1) 2 + h (p + 1) 1 ∧ ∀ v, tb l3 v = true ↔ Rch p h l5 v) ?_ FU _ _ _ (by unfold FU; omega) ⟨rfl, by omega, by omega, fun v => ?_⟩
  rotate_left
  · rw [tb_0]
    constructor
    · intro hh; cases hh
    · rintro ⟨k, hk, _⟩; omega
  rintro self l3 l5 h1 ih ⟨rfl, c0, c1, c2⟩
  unfold XX11_idle_b21
  rw [seenCount_eq hNu, cal_eq]
  by_cases q : h (p + 1) 2 + h (p + 1) 1 ≤ l5
  · rw [if_pos q, sources_eq hNu, cal_eq, bitCount_eq, cal_eq, bcf_cnt]
    have e5 : l5 = h (p + 1) 2 + h (p + 1) 1 := by omega
    subst e5
    have hv : ∀ v : Nat, wn (p + 1) h ≤ v → tb l3 v = false := fun v hv => by
      refine Bool.eq_false_iff.mpr (fun ht => ?_)
      obtain ⟨k, hk, e⟩ := (c2 v).1 ht
      have := hsn k hk
      have := Hang_lt hN.1.2.1 hN.1.2.2.1 hC.2.1 (v := v) (h (p + 4) k).toNat (by omega) e
      omega
    have e1 : cntB (tb (jshr l3 (sc (p + 1) h))) 64 = cntB (fun c => tb l3 ((sc (p + 1) h).toNat + c)) (h (p + 1) 3).toNat := by
      have e2 : cntB (tb (jshr l3 (sc (p + 1) h))) 64 = cntB (fun c => tb l3 ((sc (p + 1) h).toNat + c)) 64 := by
        refine cntB_congr (fun c hc => ?_)
        by_cases q2 : c + (sc (p + 1) h).toNat < 64
        · rw [tb_jshr l3 (by omega) (by omega) q2, Nat.add_comm]
        · rw [tb_jshr_hi l3 (by omega) (by omega) hc (by omega), hv 63 (by omega), tb_ge l3 (by omega)]
      rw [e2]
      exact cntB_ext0 (by omega) (fun i hi _ => hv _ (by omega))
    have e3 := cntB_not (fun c => tb l3 ((sc (p + 1) h).toNat + c)) (h (p + 1) 3).toNat
    have e4 := cntB_le (fun c => tb l3 ((sc (p + 1) h).toNat + c)) (h (p + 1) 3).toNat
    rw [e1, chk_pos (by omega)]
    refine En_some ⟨rfl, tb l3, c2, ?_⟩
    omega
  · rw [if_neg q]
    have hk := hsn l5.toNat (by omega)
    have hk' : 0 ≤ h (p + 1 + 3) l5.toNat ∧ h (p + 1 + 3) l5.toNat < wn (p + 1) h := hk
    rw [inb_pos (by omega), inb_pos (by omega), nm_eq, chk_pos (by omega)]
    refine ih _ _ _ (by omega) ⟨rfl, by omega, by omega, fun v => ?_⟩
    rw [tb_jor, Bool.or_eq_true, c2 v]
    constructor
    · rintro (⟨k, hk, e⟩ | e)
      · exact ⟨k, by omega, e⟩
      · exact ⟨l5.toNat, by omega, e⟩
    · rintro ⟨k, hk, e⟩
      by_cases qk : k = l5.toNat
      · rw [qk] at e; exact Or.inr e
      · exact Or.inl ⟨k, by omega, e⟩
theorem idleM_ok {n : Nat} {h : Hp} (hI : Inv n h) {e : Int} {p : Nat} {lim : Int} (hS : Side e p lim h) (hC : Cch p h) {R : Nat → Bool} (hR : ∀ v, R v = true ↔ Rch p h (h (p + 1) 2 + h (p + 1) 1) v) : En (XX12_idle_L16 e 0 (sc (p + 1) h) h) (fun r h1 => (∀ a i, a ≠ 185 → h1 a i = h a i) ∧ r = (cntB (fun c => !R ((sc (p + 1) h).toNat + c)) (h (p + 1) 3).toNat : Nat)) := by
  obtain ⟨hx, hN, s1, s2, s3, s4⟩ := id hS
  have hl : lim ≤ 40 := by omega
  have he : 0 ≤ e ∧ e < 2 := by omega
  have hp : p = 17 ∨ p = 27 := by omega
  obtain ⟨b0, b1, b2, b3, b4⟩ := Pl_lt hl hN.1.1
  have hsn : ∀ k : Nat, (k : Int) < h (p + 1) 2 + h (p + 1) 1 → 0 ≤ h (p + 4) k ∧ h (p + 4) k < wn (p + 1) h := hN.1.2.2.2.1
  have hn6 : 1 ≤ h (p + 1) 2 + h (p + 1) 1 ∧ h (p + 1) 2 + h (p + 1) 1 ≤ 6 := by obtain ⟨_, n1, n2, _, _, n5, n6, _, _⟩ := hN.1.1; omega
  have hg40 : 0 ≤ h (p + 1) 3 ∧ h (p + 1) 3 ≤ lim := hN.1.1.2.2.2.2.2.2.2
  -- heaps that differ in what was looked at last
  have tr : ∀ h1 : Hp, (∀ a i, a ≠ 185 → h1 a i = h a i) → Inv n h1 ∧ Side e p lim h1 ∧ Cch p h1 ∧ nM e h1 = wn (p + 1) h ∧ MN h1 ∧ (∀ k : Nat, (k : Int) < h (p + 1) 2 + h (p + 1) 1 → sn e k h1 = h (p + 4) k) ∧ h1 143 3 + h1 143 2 = h (p + 1) 2 + h (p + 1) 1 := by
    intro h1 f
    have i1 : Inv n h1 := Inv_scr (fun a i hh => f a i (by omega)) hI
    have hS1 := Side_of i1 hS
    have f' : ∀ a, a ≠ 185 → h1 a = h a := fun a ha => funext (fun i => f a i ha)
    have ss := Side_seen i1 hS1
    refine ⟨i1, hS1, Cch_congr (f' _ (by omega)) (f' _ (by omega)) (f' _ (by omega)) (f' _ (by omega)) (f' _ (by omega)) (f' _ (by omega)) hC, ?_, (Inv_MS i1).1.1, fun k hk => ?_, ?_⟩
    · rw [hS1.2.2.2.1, wn_congr (f' _ (by omega))]
    · rw [ss.2 k (by rw [f _ _ (by omega), f _ _ (by omega)]; exact hk), f _ _ (by omega)]
    · rw [ss.1, f _ _ (by omega), f _ _ (by omega)]
  unfold XX12_idle_L16
  refine En_lup3 (fun _ _ l3 _ => (wn (p + 1) h - l3).toNat) (fun l1 l2 l3 h1 => e = l1 ∧ (∀ a i, a ≠ 185 → h1 a i = h a i) ∧ sc (p + 1) h ≤ l3 ∧ l3 ≤ wn (p + 1) h ∧ l2 = (cntB (fun c => !R ((sc (p + 1) h).toNat + c)) (l3 - sc (p + 1) h).toNat : Nat)) ?_ FU _ _ _ _ (by unfold FU; omega) ⟨rfl, fun _ _ _ => rfl, by omega, by omega, by rw [show sc (p + 1) h - sc (p + 1) h = 0 by omega]; rfl⟩
  rintro self16 l1 l2 l3 h1 ih16 ⟨rfl, f1, c0, c1, c2⟩
  obtain ⟨i1, hS1, hC1, w1, hM1, _, _⟩ := tr h1 f1
  unfold XX12_idle_b16
  rw [wiresM_eq hM1 he, cal_eq, w1]
  by_cases q : wn (p + 1) h ≤ l3
  · rw [if_pos q]
    refine En_some ⟨f1, ?_⟩
    rw [c2, show (l3 - sc (p + 1) h).toNat = (h (p + 1) 3).toNat by omega]
  rw [if_neg q]
  obtain ⟨w, rfl⟩ := Int.eq_ofNat_of_zero_le (show 0 ≤ l3 by omega)
  unfold XX12_idle_L31
  refine En_lup5 (fun _ _ _ _ l5 _ => (6 - l5).toNat) (fun l1 l2' l3 l4 l5 h2 => e = l1 ∧ l2 = l2' ∧ (w : Int) = l3 ∧ (∀ a i, a ≠ 185 → h2 a i = h a i) ∧ 0 ≤ l5 ∧ l5 ≤ h (p + 1) 2 + h (p + 1) 1 ∧ ((l4 = 1 ∧ ¬ Rch p h l5 w) ∨ (l4 = 0 ∧ R w = true))) ?_ FU _ _ _ _ _ _ (by unfold FU; omega) ⟨rfl, rfl, rfl, f1, by omega, by omega, Or.inl ⟨rfl, fun ⟨k, hk, _⟩ => by omega⟩⟩
  rintro self31 l1 l2' l3 l4 l5 h2 ih31 ⟨rfl, rfl, rfl, f2, d0, d1, d2⟩
  obtain ⟨i2, hS2, hC2, w2, hM2, sn2, ob2⟩ := tr h2 f2
  unfold XX12_idle_b31
  rw [observed_eq hM2, cal_eq, ob2]
  have hle := cntB_le (fun c => !R ((sc (p + 1) h).toNat + c)) ((w : Int) - sc (p + 1) h).toNat
  have hs : cntB (fun c => !R ((sc (p + 1) h).toNat + c)) ((w : Int) + 1 - sc (p + 1) h).toNat = cntB (fun c => !R ((sc (p + 1) h).toNat + c)) ((w : Int) - sc (p + 1) h).toNat + if (!R w) = true then 1 else 0 := by
    rw [show ((w : Int) + 1 - sc (p + 1) h).toNat = ((w : Int) - sc (p + 1) h).toNat + 1 by omega]
    conv => lhs; unfold cntB
    rw [show (sc (p + 1) h).toNat + ((w : Int) - sc (p + 1) h).toNat = w by omega]
  by_cases q5 : h (p + 1) 2 + h (p + 1) 1 ≤ l5
  · rw [if_pos q5]
    have e5 : l5 = h (p + 1) 2 + h (p + 1) 1 := by omega
    subst e5
    rcases d2 with ⟨rfl, d2⟩ | ⟨rfl, d2⟩
    · rw [if_neg n10]
      unfold XX12_idle_p85
      rw [chk_pos (by omega), nm_eq, chk_pos (by omega)]
      refine ih16 _ _ _ _ (by omega) ⟨rfl, f2, by omega, by omega, ?_⟩
      have : R w = false := Bool.eq_false_iff.mpr (fun ht => d2 ((hR w).1 ht))
      rw [hs, this, c2]; simp
    · rw [if_pos rfl]
      unfold XX12_idle_p85
      rw [chk_pos (by omega), nm_eq, chk_pos (by omega)]
      refine ih16 _ _ _ _ (by omega) ⟨rfl, f2, by omega, by omega, ?_⟩
      rw [hs, d2, c2]; simp
  rw [if_neg q5]
  rcases d2 with ⟨rfl, d2⟩ | ⟨rfl, d2⟩
  · rw [if_neg n10]
    obtain ⟨k, rfl⟩ := Int.eq_ofNat_of_zero_le d0
    have hk := hsn k (by omega)
    have x18 : h2 (p + 1) = h (p + 1) := funext (fun i => f2 _ i (by omega))
    rw [seen_eq hM2 he (by omega), cal_eq, sn2 k (by omega)]
    refine En_cal (doesHang_Inv i2 hS2 hC2 (w := h (p + 4) k) (v := w) (by rw [wn_congr x18]; exact hk) (by rw [wn_congr x18]; omega)) (fun r h3 _ hr => ?_)
    obtain ⟨hr, i3, f3⟩ := hr
    have f3' : ∀ a i, a ≠ 185 → h3 a i = h a i := fun a i ha => by rw [f3 a i ha]; exact f2 a i ha
    rw [f2 (p + 7) _ (by omega), Int.toNat_natCast] at hr
    by_cases qt : tb (h (p + 7) (h (p + 4) k).toNat) w = true
    · rw [if_pos qt] at hr
      subst hr
      rw [if_neg n10]
      unfold XX12_idle_p65 XX12_idle_p66
      rw [chk_pos (by omega)]
      exact ih31 _ _ _ _ _ _ (by omega) ⟨rfl, rfl, rfl, f3', by omega, by omega, Or.inr ⟨rfl, (hR w).2 ⟨k, by omega, qt⟩⟩⟩
    · rw [if_neg qt] at hr
      subst hr
      rw [if_pos rfl]
      unfold XX12_idle_p66
      rw [chk_pos (by omega)]
      refine ih31 _ _ _ _ _ _ (by omega) ⟨rfl, rfl, rfl, f3', by omega, by omega, Or.inl ⟨rfl, ?_⟩⟩
      rintro ⟨k2, hk2, e2⟩
      by_cases qk : k2 = k
      · rw [qk] at e2; exact qt e2
      · exact d2 ⟨k2, by omega, e2⟩
  · rw [if_pos rfl]
    unfold XX12_idle_p65 XX12_idle_p66
    rw [chk_pos (by omega)]
    exact ih31 _ _ _ _ _ _ (by omega) ⟨rfl, rfl, rfl, f2, by omega, by omega, Or.inr ⟨rfl, d2⟩⟩
def iB (p : Nat) (h2 : Hp) : OR := cal (XX6_refresh p h2) (fun r4 h5 => XX11_idle_L21 p 0 0 h5)
theorem idlN {n : Nat} {h : Hp} (hI : Inv n h) {e : Int} {p : Nat} {lim : Int} (hS : Side e p lim h) : Both n h (iB p) (XX12_idle e) := by
  have hx := hS.1
  have hl : lim ≤ 40 := by omega
  have he : 0 ≤ e ∧ e < 2 := by omega
  obtain ⟨r1, h1, e1, i1, hS1, c1, c2, c3⟩ := refresh_Inv hI hS
  obtain ⟨r2, h2, e2, rfl, R, hR, er⟩ := idleC_ok hl hS1.2.1 c1
  obtain ⟨r3, h3, e3, f3, er3⟩ := idleM_ok i1 hS1 c1 hR
  refine Both_mk (r := r2) (h1 := h2) (h2 := h3) ?_ ?_ (Inv_up (Inv_scr (fun a i hh => f3 a i (by omega)) i1))
  · unfold iB; rw [e1, cal_eq, e2]
  · unfold XX12_idle
    rw [isNet_eq, cal_eq, if1 (by omega), if_neg n10, begun_eq (Inv_MS i1).1.1, cal_eq, hS1.2.2.1, e3, er3, er]
theorem m_idle {n : Nat} {h : Hp} (hI : Inv n h) (x : Int) : Both n h (XX11_idle x) (XX12_idle x) := by
  by_cases q0 : x = 0
  · subst q0; exact idlN hI (Side_0 hI)
  by_cases q1 : x = 1
  · subst q1; exact idlN hI (Side_1 hI)
  refine Both_ro (r := -1) ?_ ?_ hI
  · unfold XX11_idle; rw [netOfx q0 q1, cal_eq]; rfl
  · unfold XX12_idle; rw [isNet_eq, cal_eq, if0 (by omega), if_pos rfl]
