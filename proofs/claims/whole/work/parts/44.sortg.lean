def Eqx (c : Nat) (h h1 : Hp) : Prop := ∀ a, a ≠ c → h1 a = h a
theorem Eqx_refl (c : Nat) (h : Hp) : Eqx c h h := fun _ _ => rfl
theorem Eqx_wr {c : Nat} {h h1 : Hp} (e : Eqx c h h1) (i : Nat) (v : Int) : Eqx c h (wr h1 c i v) := fun a ha => by rw [wr_ne ha]; exact e a ha
theorem Nums_congr {lim : Int} {p : Nat} {h h1 : Hp} (e : h1 p = h p) (hN : Nums lim p h) : Nums lim p h1 := by unfold Nums; rw [e]; exact hN
theorem sc_congr {p : Nat} {h h1 : Hp} (e : h1 p = h p) : sc p h1 = sc p h := by unfold sc; rw [e]
theorem wn_congr {p : Nat} {h h1 : Hp} (e : h1 p = h p) : wn p h1 = wn p h := by unfold wn; rw [e]
theorem sortGates_ok {lim : Int} {p : Nat} {h : Hp} (hl : lim ≤ 40) (hN : Nums lim (p + 1) h) (hP : PinOK (sc (p + 1) h) (wn (p + 1) h) (h (p + 1 + 1)) (h (p + 1 + 2))) (hA : Acy (sc (p + 1) h) (wn (p + 1) h) (h (p + 1 + 1)) (h (p + 1 + 2))) :
    En (XX6_sortGates p h) (fun _ h1 => Ord (sc (p + 1) h) (wn (p + 1) h) (h (p + 1 + 1)) (h (p + 1 + 2)) (h1 (p + 6))) := by
  obtain ⟨b0, b1, b2, b3, b4⟩ := Pl_lt hl hN
  generalize hkd : h (p + 1 + 1) = kd at *
  generalize hpn : h (p + 1 + 2) = pn at *
  generalize hs : sc (p + 1) h = s at *
  generalize hn : wn (p + 1) h = n at *
  unfold XX6_sortGates
  rw [sources_eq hN, cal_eq, hs, nm_eq]
  refine En_lup3 (fun _ _ l4 _ => (n - s - l4).toNat) (fun l1 l3 l4 h1 => Eqx (p + 6) h h1 ∧ Srt s n kd pn (h1 (p + 6)) (tb l1) l3 ∧ 0 ≤ l4 ∧ l4 ≤ l3) ?_ FU _ _ _ _ (by unfold FU; omega) ⟨Eqx_refl _ _, ⟨by omega, by omega, TO_0, fun i hi => by omega, fun w hw => ?_, fun w hw hn2 => ?_, ?_⟩, by omega, by omega⟩
  rotate_left
  · rw [tb_low (by omega) (by omega) (by omega)]; exact decide_eq_true (by omega)
  · rw [tb_low (by omega) (by omega) (by omega)]
    constructor
    · intro e; have := of_decide_eq_true e; omega
    · rintro ⟨i, hi, _⟩; omega
  · rw [cntB_lo (m := s.toNat) (by omega) (fun i hi => by rw [tb_low (by omega) (by omega) (by omega)]; exact decide_eq_true (by omega)) (fun i hi hi2 => by rw [tb_low (by omega) (by omega) (by omega)]; exact decide_eq_false (by omega))]
    omega
  rintro self17 r0 m0 l4 h0 ih17 ⟨e0, hS0, c0, c1⟩
  unfold XX6_sortGates_b17
  have g0 : h0 (p + 1) = h (p + 1) := e0 _ (by omega)
  have hg : h (p + 1) 3 = n - s := by omega
  rw [g0, hg]
  by_cases q : n - s ≤ l4
  · rw [if_pos q]; exact En_some (Srt_done (by omega) hS0 (by omega))
  rw [if_neg q]
  by_cases q : n - s ≤ m0
  · rw [if_pos q]; exact En_some (Srt_done (by omega) hS0 (by omega))
  rw [if_neg q, sources_eq (Nums_congr g0 hN), cal_eq, sc_congr g0, hs]
  -- a gate that comes in this pass
  have hex : ∃ w : Nat, s ≤ w ∧ (w : Int) < n ∧ tb r0 w = false := by
    refine Classical.byContradiction (fun hno => ?_)
    have : cntB (tb r0) n.toNat = n.toNat := cntB_all (fun i hi => by
      by_cases qs : (i : Int) < s
      · exact hS0.2.2.2.2.1 i qs
      · refine Classical.byContradiction (fun hf => hno ⟨i, by omega, by omega, by simpa using hf⟩))
    have := hS0.2.2.2.2.2.2; omega
  obtain ⟨w0, hw0, hw1, hw2⟩ := hex
  obtain ⟨v, hv0, hv1, hv2, hv3⟩ := ready_next hP hA (R := fun w => tb r0 w = true) hS0.2.2.2.2.1 hw0 hw1 (by simp [hw2])
  refine En_lup4 (fun _ _ _ l5 _ => (n - l5).toNat) (fun l1 l3 l4' l5 h1 => l4' = l4 ∧ Eqx (p + 6) h h1 ∧ Srt s n kd pn (h1 (p + 6)) (tb l1) l3 ∧ s ≤ l5 ∧ l5 ≤ n ∧ (∀ w, tb r0 w = true → tb l1 w = true) ∧ (l5 ≤ v → m0 ≤ l3 ∧ tb l1 v = false) ∧ (v < l5 → m0 + 1 ≤ l3)) ?_ FU _ _ _ _ _ (by unfold FU; omega) ⟨rfl, e0, hS0, by omega, by omega, fun _ hh => hh, fun _ => ⟨by omega, by simpa using hv2⟩, fun hh => by omega⟩
  rintro self49 l1 l3 l4' l5 h1 ih ⟨rfl, e1, hS, d0, d1, d2, d3, d4⟩
  unfold XX6_sortGates_b49
  have g1 : h1 (p + 1) = h (p + 1) := e1 _ (by omega)
  have k1 : h1 (p + 1 + 1) = kd := by rw [← hkd]; exact e1 _ (by omega)
  have k2 : h1 (p + 1 + 2) = pn := by rw [← hpn]; exact e1 _ (by omega)
  rw [wires_eq hl (Nums_congr g1 hN), cal_eq, wn_congr g1, hn]
  by_cases q5 : n ≤ l5
  · rw [if_pos q5, chk_pos (by omega)]
    have := d4 (by omega)
    exact ih17 _ _ _ _ (by omega) ⟨e1, hS, by omega, by omega⟩
  rw [if_neg q5]
  obtain ⟨g, rfl⟩ := Int.eq_ofNat_of_zero_le (show 0 ≤ l5 by omega)
  have go : ∀ (l1 l3 : Int) (h1 : Hp), Eqx (p + 6) h h1 → Srt s n kd pn (h1 (p + 6)) (tb l1) l3 → (∀ w, tb r0 w = true → tb l1 w = true) → ((g : Int) < v → m0 ≤ l3 ∧ tb l1 v = false) → ((v : Int) ≤ g → m0 + 1 ≤ l3) → En (XX6_sortGates_p100 p self17 self49 l1 l3 l4' g h1) (fun _ h1 => Ord s n kd pn (h1 (p + 6))) := by
    intro l1 l3 h1 e1 hS d2 d3 d4
    unfold XX6_sortGates_p100
    rw [chk_pos (by omega)]
    exact ih _ _ _ _ _ (by omega) ⟨rfl, e1, hS, by omega, by omega, d2, fun hh => d3 (by omega), fun hh => d4 (by omega)⟩
  by_cases qr : jcmp (jand (jshr l1 (g : Int)) 1) 0 = 0
  · rw [if_pos qr]
    have hf := (jbit0 l1 (by omega) (by omega)).1 qr
    rw [Int.toNat_natCast] at hf
    have hpr := pinsReady_ok (p := p) (h := h1) (s := s) (n := n) (by rw [k1, k2]; exact hP) b2 g (by omega) (by omega) l1
    refine En_cal hpr (fun r h2 _ hr => ?_)
    obtain ⟨rfl, hr⟩ := hr
    rw [k1, k2] at hr
    rcases hr with ⟨rfl, hr⟩ | ⟨rfl, k, hk, hr⟩
    · rw [if_neg (by omega), nm_eq]
      have hb : ∀ c, tb (jor l1 (jshl 1 (g : Int))) c = (tb l1 c || decide (c = g)) := fun c => by rw [tb_jor, tb_pow (by omega) (by omega), Int.toNat_natCast]
      obtain ⟨u1, u2⟩ := Srt_push hP (by omega) hS (w := g) (by omega) (by omega) hf hr (od2 := (wr h2 (p + 6) l3.toNat g) (p + 6)) (R2 := tb (jor l1 (jshl 1 (g : Int)))) (fun i hi => wr_o hi _) wr_at (fun c hc => by rw [hb]; simp [hc]) (by rw [hb]; simp)
      have z0 := hS.1
      have z1 : h (p + 1) 3 ≤ lim := hN.2.2.2.2.2.2.2.2
      rw [inb_pos (by omega), hm_eq, chk_pos (by omega)]
      refine go _ _ _ (Eqx_wr e1 _ _) u2 (fun w hw => by rw [hb, d2 w hw]; rfl) (fun hh => ?_) (fun hh => ?_)
      · have := d3 (by omega)
        refine ⟨by omega, ?_⟩
        rw [hb, this.2]; simp; omega
      · by_cases qv : (v : Int) = g
        · have := d3 (by omega); omega
        · have := d4 (by omega); omega
    · rw [if_pos rfl]
      refine go _ _ _ e1 hS d2 (fun hh => d3 (by omega)) (fun hh => ?_)
      by_cases qv : (v : Int) = g
      · exfalso
        have e : v = g := by omega
        subst e
        have := d2 _ (hv3 k hk)
        rw [hr] at this; cases this
      · exact d4 (by omega)
  · rw [if_neg qr]
    have hf := mt (jbit0 l1 (by omega) (by omega)).2 qr
    rw [Int.toNat_natCast] at hf
    refine go _ _ _ e1 hS d2 (fun hh => d3 (by omega)) (fun hh => ?_)
    by_cases qv : (v : Int) = g
    · exfalso
      have e : v = g := by omega
      subst e
      exact hf (d3 (by omega)).2
    · exact d4 (by omega)
