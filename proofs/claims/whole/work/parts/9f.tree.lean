theorem trees_step {m : Nat} (hm : m < 4) {rec : Int → Int → Int → Hp → OR} {d f s : Nat} {ow : Int} {h : Hp} (hf : f ≤ onN m) (hd : cN m f ≤ d) (hC : Cok m h) (hs : h 143 27 = (s : Int)) (h24 : s + cN m f ≤ 24)
    (hrec : ∀ d', d = d' + 1 → ∀ (x s' : Nat) (h' : Hp), x ≤ onN m → cN m x < cN m f → Cok m h' → h' 143 27 = (s' : Int) → s' + cN m x ≤ 24 → En (rec m x ow h') (GrP 162 143 27 m d' x s' ow h')) :
    En (XX12_trees_r rec m f ow h) (GrP 162 143 27 m d f s ow h) := by
  obtain ⟨_, _, h255, _, _, h1⟩ := on_eq m hm
  unfold XX12_trees_r
  rw [functions_eq hm, cal_eq, chk_pos (by omega), nm_eq, show (onN m : Int) + 1 - 1 = onN m by omega]
  by_cases q0 : (f : Int) = 0
  · have f0 : f = 0 := by omega
    have e : lf m f = 200 := by rw [lf_eq hm, if_pos f0]
    have := GrP_leaf (b := 162) (c := 143) (k := 27) (d := d) (ow := ow) hm hf hs (by rw [e]; decide)
    rw [e] at this
    rw [if_pos q0]
    unfold XX12_trees_p18
    rw [if_pos q0]
    exact En_some this
  by_cases qo : (f : Int) = onN m
  · have fo : f = onN m := by omega
    have e : lf m f = 201 := by rw [lf_eq hm, if_neg (by omega), if_pos fo]
    have := GrP_leaf (b := 162) (c := 143) (k := 27) (d := d) (ow := ow) hm hf hs (by rw [e]; decide)
    rw [e] at this
    rw [if_neg q0, if_pos qo]
    unfold XX12_trees_p18
    rw [if_neg q0]
    exact En_some this
  rw [if_neg q0, if_neg qo]
  have elf : lf m f = lfJ m f 0 := lf_J hm (by omega) (by omega)
  unfold XX12_trees_L35
  refine En_lup5 (fun _ _ _ _ l5 _ => (4 - l5).toNat) (fun l1 l2 l3 l4 l5 g => (m : Int) = l1 ∧ (f : Int) = l2 ∧ ow = l3 ∧ (onN m : Int) = l4 ∧ h = g ∧ 0 ≤ l5 ∧ l5 ≤ m ∧ lfJ m f 0 = lfJ m f l5.toNat) ?_ FU _ _ _ _ _ _ (by unfold FU; omega) ⟨rfl, rfl, rfl, rfl, rfl, by omega, by omega, rfl⟩
  rintro self35 l1 l2 l3 l4 l5 g ih35 ⟨rfl, rfl, rfl, rfl, rfl, c0, c1, c2⟩
  obtain ⟨l, rfl⟩ := Int.eq_ofNat_of_zero_le c0
  rw [Int.toNat_natCast] at c2
  unfold XX12_trees_b35
  by_cases q5 : ¬ (m : Int) ≤ l
  · rw [if_neg q5, projection_eq hm (by omega), cal_eq]
    by_cases qp : pjT m l = f
    · have e : lf m f = 100 + l := by rw [elf, c2]; unfold lfJ; rw [if_pos ⟨by omega, qp.symm⟩]
      have := GrP_leaf (b := 162) (c := 143) (k := 27) (d := d) (ow := ow) hm hf hs (by rw [e]; omega)
      rw [e] at this
      rw [if_pos qp, chk_pos (by omega)]
      exact En_some this
    · rw [if_neg qp, chk_pos (by omega)]
      refine ih35 _ _ _ _ _ _ (by omega) ⟨rfl, rfl, rfl, rfl, rfl, by omega, by omega, ?_⟩
      rw [c2, lfJ_next hm (by omega) (fun t => qp t.symm), show ((l : Int) + 1).toNat = l + 1 by omega]
  have q5 : (m : Int) ≤ l := Decidable.not_not.mp q5
  have q : ¬ 0 ≤ lf m f := by rw [elf, c2, lfJ_stop (by omega)]; decide
  have h1c : 1 ≤ cN m f := Nat.pos_of_ne_zero (fun t => q ((c_lf hm hf).1 t))
  obtain ⟨d', rfl⟩ : ∃ d', d = d' + 1 := ⟨d - 1, by omega⟩
  have hrec := hrec d' rfl
  have hnf := not_le hm hf
  have exo : axor (f : Int) (onN m) = ((onN m ^^^ f : Nat) : Int) := by rw [xor_eq (by omega) (by omega), Nat.xor_comm]
  have f4 := c_le4 hm hf
  rw [if_pos q5, exo, inb_pos (by omega), inb_pos (by omega), Int.toNat_natCast, Int.toNat_natCast, hC f hf, hC _ hnf, chk_pos (by omega)]
  by_cases qn : ((cN m (onN m ^^^ f) : Nat) : Int) = (cN m f : Int) - 1
  · rw [if_pos qn]
    refine En_cal (hrec (onN m ^^^ f) s h hnf (by omega) hC hs (by omega)) (fun ra h1 _ A => ?_)
    obtain ⟨g, eg, n1, n2, n3⟩ := nodeM_ok A.2.1 (by omega) ow 0 ra (-2)
    rw [eg, cal_eq]
    exact En_some (GrP_not (by decide) hm hf q (Or.inl ⟨rfl, rfl, rfl, by omega⟩) h1c hd A n1 n2 n3)
  rw [if_neg qn]
  unfold XX12_trees_L105
  refine En_lup5 (fun _ _ _ _ l5 _ => (7 - l5).toNat) (fun l1 l2 l3 l4 l5 g => (m : Int) = l1 ∧ (f : Int) = l2 ∧ ow = l3 ∧ (onN m : Int) = l4 ∧ h = g ∧ 1 ≤ l5 ∧ l5 ≤ 6 ∧ ∀ k g h : Nat, (k : Int) < l5 → ¬ ChK m f k g h) ?_ FU _ _ _ _ _ _ (by unfold FU; omega) ⟨rfl, rfl, rfl, rfl, rfl, by omega, by omega, fun k g h hh t => by have := t.1; omega⟩
  rintro self105 l1 l2 l3 l4 l5 g ih105 ⟨rfl, rfl, rfl, rfl, rfl, c0, c1, c2⟩
  unfold XX12_trees_b105
  by_cases q5 : 5 < l5
  · rcases c_wit hm hf h1c with w | ⟨k, g, h, w1, w2, w3, w4, w5⟩
    · omega
    · exact absurd ⟨w1, w2, w3, w4, w5⟩ (c2 k g h (by omega))
  rw [if_neg q5]
  obtain ⟨k, rfl⟩ := Int.eq_ofNat_of_zero_le (show 0 ≤ l5 by omega)
  unfold XX12_trees_L114
  refine En_lup6 (fun _ _ _ _ _ l6 _ => (300 - l6).toNat) (fun l1 l2 l3 l4 l5 l6 g => (m : Int) = l1 ∧ (f : Int) = l2 ∧ ow = l3 ∧ (onN m : Int) = l4 ∧ (k : Int) = l5 ∧ h = g ∧ 0 ≤ l6 ∧ ∀ g h : Nat, (g : Int) < l6 → ¬ ChK m f k g h) ?_ FU _ _ _ _ _ _ _ (by unfold FU; omega) ⟨rfl, rfl, rfl, rfl, rfl, rfl, by omega, fun g h hh => by omega⟩
  rintro self114 l1 l2 l3 l4 l5 l6 g ih114 ⟨rfl, rfl, rfl, rfl, rfl, rfl, d0, d1⟩
  unfold XX12_trees_b114
  by_cases q6 : (onN m : Int) < l6
  · rw [if_pos q6, chk_pos (by omega)]
    refine ih105 _ _ _ _ _ _ (by omega) ⟨rfl, rfl, rfl, rfl, rfl, by omega, by omega, fun k' g h hh t => ?_⟩
    by_cases qk : k' = k
    · subst qk; exact d1 g h (by have := t.2.1; omega) t
    · exact c2 k' g h (by omega) t
  rw [if_neg q6]
  obtain ⟨x, rfl⟩ := Int.eq_ofNat_of_zero_le d0
  have hx : x ≤ onN m := by omega
  unfold XX12_trees_L124
  refine En_lup7 (fun _ _ _ _ _ _ l7 _ => (300 - l7).toNat) (fun l1 l2 l3 l4 l5 l6 l7 g => (m : Int) = l1 ∧ (f : Int) = l2 ∧ ow = l3 ∧ (onN m : Int) = l4 ∧ (k : Int) = l5 ∧ (x : Int) = l6 ∧ h = g ∧ 0 ≤ l7 ∧ ∀ h : Nat, (h : Int) < l7 → ¬ ChK m f k x h) ?_ FU _ _ _ _ _ _ _ _ (by unfold FU; omega) ⟨rfl, rfl, rfl, rfl, rfl, rfl, rfl, by omega, fun h hh => by omega⟩
  rintro self124 l1 l2 l3 l4 l5 l6 l7 g ih124 ⟨rfl, rfl, rfl, rfl, rfl, rfl, rfl, b0, b1⟩
  unfold XX12_trees_b124
  by_cases q7 : (onN m : Int) < l7
  · rw [if_pos q7, chk_pos (by omega)]
    refine ih114 _ _ _ _ _ _ _ (by omega) ⟨rfl, rfl, rfl, rfl, rfl, rfl, by omega, fun g' h hh t => ?_⟩
    by_cases qg : g' = x
    · subst qg; exact b1 h (by have := t.2.2.1; omega) t
    · exact d1 g' h (by omega) t
  rw [if_neg q7]
  obtain ⟨y, rfl⟩ := Int.eq_ofNat_of_zero_le b0
  have hy : y ≤ onN m := by omega
  have next : ¬ ChK m f k x y → En (XX12_trees_p204 rec self105 self114 self124 m f ow (onN m) k x y h) (GrP 162 143 27 m (d' + 1) f s ow h) := by
    intro hn
    unfold XX12_trees_p204
    rw [chk_pos (by omega)]
    refine ih124 _ _ _ _ _ _ _ _ (by omega) ⟨rfl, rfl, rfl, rfl, rfl, rfl, rfl, by omega, fun h' hh t => ?_⟩
    by_cases qh : h' = y
    · subst qh; exact hn t
    · exact b1 h' (by omega) t
  have x4 := c_le4 hm hx
  have y4 := c_le4 hm hy
  rw [inb_pos (by omega), inb_pos (by omega), Int.toNat_natCast, Int.toNat_natCast, hC x hx, hC y hy, chk_pos (by omega), inb_pos (by omega), Int.toNat_natCast, hC f hf, chk_pos (by omega)]
  by_cases q8 : ((cN m x : Nat) : Int) + ((cN m y : Nat) : Int) = (cN m f : Int) - 1
  · rw [if_pos q8, joined_eq hm (by omega) hx hy, cal_eq]
    by_cases q9 : ((opN k (onN m) x y : Nat) : Int) = f
    · rw [if_pos q9]
      have cc : Cho m f k x y := by
        refine Or.inr ⟨by omega, ⟨⟨by omega, by omega⟩, hx, hy, by omega, by omega⟩, ?_⟩
        rintro k' g' h' (u | ⟨rfl, u | ⟨rfl, u⟩⟩) t
        · exact c2 k' g' h' (by omega) t
        · exact d1 g' h' (by omega) t
        · exact b1 h' (by omega) t
      refine En_cal (hrec x s h hx (by omega) hC hs (by omega)) (fun ra h1 _ A => ?_)
      have A4 := A.2.2.2
      refine En_cal (hrec y (s + cN m x) h1 hy (by omega) (fun v hv => by rw [A4 191 v (by omega)]; exact hC v hv) A.2.1 (by omega)) (fun rb h2 _ B => ?_)
      obtain ⟨g, eg, n1, n2, n3⟩ := nodeM_ok B.2.1 (by omega) ow k ra rb
      rw [eg, cal_eq]
      exact En_some (GrP_two (by decide) hm hf q (by omega) cc h1c hd A B n1 n2 n3)
    · rw [if_neg q9]; exact next (fun t => q9 (by rw [t.2.2.2.1]))
  · rw [if_neg q8]; exact next (fun t => q8 (by have := t.2.2.2.2; omega))
theorem trees_ok {m : Nat} (hm : m < 4) : ∀ (d f s : Nat) (ow : Int) (h : Hp), f ≤ onN m → cN m f ≤ d → Cok m h → h 143 27 = (s : Int) → s + cN m f ≤ 24 → En (XX12_trees (d + 1) m f ow h) (GrP 162 143 27 m d f s ow h) := by
  intro d
  induction d with
  | zero =>
    intro f s ow h hf hd hC hs h24
    exact trees_step (rec := XX12_trees 0) hm hf hd hC hs h24 (fun d' e => by omega)
  | succ d ih =>
    intro f s ow h hf hd hC hs h24
    refine trees_step (rec := XX12_trees (d + 1)) hm hf hd hC hs h24 (fun d' e x s' h' hx hc hC' hs' h24' => ?_)
    have : d' = d := by omega
    subst this
    exact ih x s' ow h' hx (by omega) hC' hs' h24'
