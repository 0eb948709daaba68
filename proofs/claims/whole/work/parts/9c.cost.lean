theorem lf_leaf {m f : Nat} (hm : m < 4) : 0 ≤ lf m f ↔ f = 0 ∨ f = onN m ∨ ∃ j, j < m ∧ (f : Int) = pjT m j := by
  rw [lf_eq hm]
  by_cases q0 : f = 0
  · rw [if_pos q0]; simp [q0]
  rw [if_neg q0]
  by_cases q1 : f = onN m
  · rw [if_pos q1]; simp [q1]
  rw [if_neg q1]
  by_cases m0 : 0 < m ∧ (f : Int) = pjT m 0
  · rw [if_pos m0]; exact ⟨fun _ => Or.inr (Or.inr ⟨0, m0.1, m0.2⟩), fun _ => by decide⟩
  rw [if_neg m0]
  by_cases m1 : 1 < m ∧ (f : Int) = pjT m 1
  · rw [if_pos m1]; exact ⟨fun _ => Or.inr (Or.inr ⟨1, m1.1, m1.2⟩), fun _ => by decide⟩
  rw [if_neg m1]
  by_cases m2 : 2 < m ∧ (f : Int) = pjT m 2
  · rw [if_pos m2]; exact ⟨fun _ => Or.inr (Or.inr ⟨2, m2.1, m2.2⟩), fun _ => by decide⟩
  rw [if_neg m2]
  constructor
  · intro h; omega
  · rintro (h | h | ⟨j, hj, he⟩)
    · exact absurd h q0
    · exact absurd h q1
    · rcases (by omega : j = 0 ∨ j = 1 ∨ j = 2) with rfl | rfl | rfl
      · exact absurd ⟨hj, he⟩ m0
      · exact absurd ⟨hj, he⟩ m1
      · exact absurd ⟨hj, he⟩ m2
theorem c_zero {m f : Nat} (hm : m < 4) (hf : f ≤ onN m) : cN m f = 0 ↔ f = 0 ∨ f = onN m ∨ ∃ j, j < m ∧ (f : Int) = pjT m j := by
  rw [(c_fact m hm f (by omega)).2.2.1, lf_leaf hm]
theorem reckons_ok {m : Nat} (hm : m < 4) {h : Hp} (hj : (h 192 m = 0 ∨ h 192 m = 1) ∧ (h 192 m = 1 → ∀ f : Nat, (f : Int) ≤ onI m → h 193 (256 * m + f) = cst m f)) : En (XX12_reckons m h) (fun _ g => Rck m h g ∧ g 192 m = 1 ∧ Cok m g ∧ ∀ f, f ≤ onN m → g 193 (256 * m + f) = ((cN m f : Nat) : Int)) := by
  obtain ⟨hI, _, h255, _, _, h1⟩ := on_eq m hm
  unfold XX12_reckons
  rw [functions_eq hm, cal_eq, chk_pos (by omega), nm_eq, inb_pos (by omega), Int.toNat_natCast, show (onN m : Int) + 1 - 1 = onN m by omega]
  by_cases q : h 192 m = 0
  · rw [if_pos q, inb_pos (by omega), zb_1, hm_eq]
    have k0 : Rck m h (wr h 192 m 1) := fun a i hh => by rw [wq_ne (by omega)]
    have z0 : wr h 192 m 1 192 m = 1 := wr_at
    generalize wr h 192 m 1 = g0 at *
    unfold XX12_reckons_L25
    refine En_lup3 (fun _ _ l3 _ => (256 - l3).toNat) (fun l1 l2 l3 g => (m : Int) = l1 ∧ (onN m : Int) = l2 ∧ 0 ≤ l3 ∧ l3 ≤ (onN m : Int) + 1 ∧ Rck m h g ∧ g 192 m = 1 ∧ ∀ f : Nat, (f : Int) < l3 → g 191 f = if f = 0 ∨ f = onN m then 0 else -1) ?_ FU _ _ _ _ (by unfold FU; omega) ⟨rfl, rfl, by omega, by omega, k0, z0, fun f hf => absurd hf (by omega)⟩
    clear k0 z0 g0
    rintro self l1 l2 l3 g ih ⟨rfl, rfl, c0, c1, c2, c3, c4⟩
    unfold XX12_reckons_b25
    by_cases q3 : (onN m : Int) < l3
    · rw [if_pos q3]
      unfold XX12_reckons_L58
      refine En_lup3 (fun _ _ l3 _ => (4 - l3).toNat) (fun l1 l2 l3 g => (m : Int) = l1 ∧ (onN m : Int) = l2 ∧ 0 ≤ l3 ∧ l3 ≤ m ∧ Rck m h g ∧ g 192 m = 1 ∧ ∀ f : Nat, f ≤ onN m → ((g 191 f = 0 ∧ (f = 0 ∨ f = onN m ∨ ∃ j : Nat, (j : Int) < l3 ∧ (f : Int) = pjT m j)) ∨ (g 191 f = -1 ∧ ¬ (f = 0 ∨ f = onN m ∨ ∃ j : Nat, (j : Int) < l3 ∧ (f : Int) = pjT m j)))) ?_ FU _ _ _ _ (by unfold FU; omega) ⟨rfl, rfl, by omega, by omega, c2, c3, fun f hf => ?_⟩
      rotate_left
      · rw [c4 f (by omega)]
        by_cases t : f = 0 ∨ f = onN m
        · rw [if_pos t]; exact Or.inl ⟨rfl, t.elim Or.inl (fun t => Or.inr (Or.inl t))⟩
        · rw [if_neg t]
          refine Or.inr ⟨rfl, ?_⟩
          rintro (u | u | ⟨j, u, _⟩)
          · exact t (Or.inl u)
          · exact t (Or.inr u)
          · omega
      clear c0 c1 c2 c3 c4 q3 ih self g l3
      rintro self l1 l2 l3 g ih ⟨rfl, rfl, c0, c1, c2, c3, c4⟩
      unfold XX12_reckons_b58
      by_cases q3 : (m : Int) ≤ l3
      · rw [if_pos q3]
        have s0 : Stg m 0 (g 191) := fun f hf => by
          have hz := c_zero hm hf
          rcases c4 f hf with ⟨t1, t2⟩ | ⟨t1, t2⟩
          · have : cN m f = 0 := hz.2 (t2.elim Or.inl (fun u => Or.inr (u.elim Or.inl (fun ⟨j, a, b⟩ => Or.inr ⟨j, by omega, b⟩))))
            exact Or.inl ⟨by rw [t1, this]; rfl, by omega⟩
          · refine Or.inr ⟨t1, ?_⟩
            refine Nat.pos_of_ne_zero (fun t => t2 ?_)
            exact (hz.1 t).elim Or.inl (fun u => Or.inr (u.elim Or.inl (fun ⟨j, a, b⟩ => Or.inr ⟨j, by omega, b⟩)))
        unfold XX12_reckons_L82
        refine En_lup3 (fun _ _ l3 _ => (6 - l3).toNat) (fun l1 l2 l3 g => (m : Int) = l1 ∧ (onN m : Int) = l2 ∧ 1 ≤ l3 ∧ l3 ≤ 5 ∧ Rck m h g ∧ g 192 m = 1 ∧ Stg m (l3.toNat - 1) (g 191)) ?_ FU _ _ _ _ (by unfold FU; omega) ⟨rfl, rfl, by omega, by omega, c2, c3, s0⟩
        clear c0 c1 c2 c3 c4 q3 ih self s0 g l3
        rintro self l1 l2 l3 g ih ⟨rfl, rfl, c0, c1, c2, c3, c4⟩
        obtain ⟨n, rfl⟩ := Int.eq_ofNat_of_zero_le (show 0 ≤ l3 by omega)
        rw [Int.toNat_natCast] at c4
        unfold XX12_reckons_b82
        obtain ⟨r, g', e, rfl, hr⟩ := lacks_ok hm g
        rw [e, cal_eq]
        rcases hr with ⟨rfl, hr⟩ | ⟨rfl, f, hf, hr⟩
        · rw [if_pos rfl]
          exact reckS_ok hm c2 c3 (fun f hf => by
            rcases c4 f hf with t | t
            · exact t.1
            · exact absurd t.1 (hr f hf))
        · rw [if_neg n10]
          have hn4 : n ≤ 4 := by
            have := c_le4 hm hf
            rcases c4 f hf with t | t
            · omega
            · omega
          refine En_cal (joins_ok hm (n := n) ⟨by omega, hn4⟩ c4) (fun r2 g2 _ hr2 => ?_)
          obtain ⟨e2, s2⟩ := hr2
          rw [chk_pos (by omega)]
          refine ih _ _ _ _ (by omega) ⟨rfl, rfl, by omega, by omega, fun a i hh => by rw [e2 a i (by omega)]; exact c2 a i hh, by rw [e2 192 m (by omega)]; exact c3, ?_⟩
          rw [show ((n : Int) + 1).toNat - 1 = n by omega]
          exact s2
      · obtain ⟨j, rfl⟩ := Int.eq_ofNat_of_zero_le c0
        obtain ⟨_, p2, p3', _, _⟩ := pj_tab m hm j (by omega)
        rw [if_neg q3, projection_eq hm (by omega), cal_eq, inb_pos (by omega), hm_eq, chk_pos (by omega)]
        refine ih _ _ _ _ (by omega) ⟨rfl, rfl, by omega, by omega, fun a i hh => by rw [wq_ne (by omega)]; exact c2 a i hh, by rw [wq_ne (by omega)]; exact c3, fun f hf => ?_⟩
        rw [wr_row]
        by_cases qf : f = (pjT m j).toNat
        · rw [if_pos qf]
          exact Or.inl ⟨rfl, Or.inr (Or.inr ⟨j, by omega, by omega⟩)⟩
        · rw [if_neg qf]
          rcases c4 f hf with ⟨t1, t2⟩ | ⟨t1, t2⟩
          · exact Or.inl ⟨t1, t2.elim Or.inl (fun u => Or.inr (u.elim Or.inl (fun ⟨j', a, b⟩ => Or.inr ⟨j', by omega, b⟩)))⟩
          · refine Or.inr ⟨t1, ?_⟩
            rintro (u | u | ⟨j', u, v⟩)
            · exact t2 (Or.inl u)
            · exact t2 (Or.inr (Or.inl u))
            · by_cases qj : j' = j
              · rw [qj] at v; omega
              · exact t2 (Or.inr (Or.inr ⟨j', by omega, v⟩))
    · rw [if_neg q3]
      obtain ⟨f, rfl⟩ := Int.eq_ofNat_of_zero_le c0
      have go : ∀ v : Int, v = (if f = 0 ∨ f = onN m then 0 else -1) → En (XX12_reckons_p49 self m (onN m) f f v g) (fun _ g => Rck m h g ∧ g 192 m = 1 ∧ Cok m g ∧ ∀ f, f ≤ onN m → g 193 (256 * m + f) = ((cN m f : Nat) : Int)) := by
        intro v hv
        unfold XX12_reckons_p49
        rw [inb_pos (by omega), hm_eq, chk_pos (by omega), Int.toNat_natCast]
        refine ih _ _ _ _ (by omega) ⟨rfl, rfl, by omega, by omega, fun a i hh => by rw [wq_ne (by omega)]; exact c2 a i hh, by rw [wq_ne (by omega)]; exact c3, fun f' hf' => ?_⟩
        rw [wr_row]
        by_cases qf : f' = f
        · rw [if_pos qf, hv, qf]
        · rw [if_neg qf]; exact c4 f' (by omega)
      by_cases qz : (f : Int) = 0
      · rw [if_pos qz]; exact go 0 (by rw [if_pos (Or.inl (by omega))])
      rw [if_neg qz]
      by_cases qo : (f : Int) = onN m
      · rw [if_pos qo]; exact go 0 (by rw [if_pos (Or.inr (by omega))])
      rw [if_neg qo]; exact go (-1) (by rw [if_neg (by omega)])
  · rw [if_neg q]
    have h1 : h 192 m = 1 := by have := hj.1; omega
    have h193 : ∀ f, f ≤ onN m → h 193 (256 * m + f) = ((cN m f : Nat) : Int) := fun f hf => by
      rw [hj.2 h1 f (by omega), cst_N hm hf]
    refine En_mono (reckL_ok hm h193) (fun r g _ hr => ?_)
    obtain ⟨e, hc⟩ := hr
    exact ⟨fun a i hh => e a i (by omega), by rw [e 192 m (by omega)]; exact h1, hc, fun f hf => by rw [e 193 _ (by omega)]; exact h193 f hf⟩
theorem J14_rck {m : Nat} (hm : m < 4) {h g : Hp} (j : J14 h) (k : Rck m h g) (z : g 192 m = 1) (c : ∀ f, f ≤ onN m → g 193 (256 * m + f) = ((cN m f : Nat) : Int)) : J14 g := by
  refine ⟨fun m' hm' => ?_, fun i hi => by rw [k 155 i (by omega)]; exact j.2.1 i hi, fun i hi => by rw [k 184 i (by omega)]; exact j.2.2 i hi⟩
  have hI' := (on_eq m' hm').1
  have h255 := (on_eq m' hm').2.2.1
  by_cases q : m' = m
  · subst q
    rw [z]
    exact ⟨Or.inr rfl, fun _ f hf => by rw [c f (by omega), cst_N hm (by omega)]⟩
  · rw [k 192 m' (by omega)]
    exact ⟨(j.1 m' hm').1, fun t f hf => by rw [k 193 _ (by omega)]; exact (j.1 m' hm').2 t f hf⟩
theorem Inv_rck {n m : Nat} (hm : m < 4) {h g : Hp} (hI : Inv n h) (k : Rck m h g) (z : g 192 m = 1) (c : ∀ f, f ≤ onN m → g 193 (256 * m + f) = ((cN m f : Nat) : Int)) : Inv n g := by
  obtain ⟨i1, i2, i3, i4, i5, i6, i7, i8, i9, i10, i11, i12, i13, i14, i15⟩ := hI
  have e : ∀ a i, ¬ (191 ≤ a ∧ a ≤ 193) → g a i = h a i := fun a i hh => k a i (by omega)
  refine ⟨J1_tr (fun a i hh => e a i (by omega)) i1, RelN_congr (fun a i hh => e a i (by omega)) i2, J2_tr (fun a i hh => e a i (by omega)) i3, J3_tr (fun a i hh => e a i (by omega)) i4, J4_tr (fun a i hh => e a i (by omega)) i5, J5_tr (fun a i hh => e a i (by omega)) i6, J6_tr (fun a i hh => e a i (by omega)) i7, ?_, J8_tr (fun a i hh => e a i (by omega)) i9, J9_tr (fun a i hh => e a i (by omega)) i10, J10_tr (fun a i hh => e a i (by omega)) i11, J11_tr (fun a i hh => e a i (by omega)) i12, J12_tr (fun a i hh => e a i (by omega)) i13, J13_tr (fun a i hh => e a i (by omega)) i14, J14_rck hm i15 k z c⟩
  unfold J7
  rw [e 16 15 (by omega), e 143 57 (by omega)]
  exact i8
theorem m_cost {n : Nat} {h : Hp} (hI : Inv n h) (x y : Int) : Both n h (XX11_cost x y) (XX12_cost x y) := by
  by_cases q : 0 ≤ x ∧ x ≤ 3
  · obtain ⟨m, rfl⟩ := Int.eq_ofNat_of_zero_le q.1
    have hm : m < 4 := by omega
    obtain ⟨hI', _, h255, _, _, h1⟩ := on_eq m hm
    by_cases q2 : 0 ≤ y ∧ y ≤ onN m
    · obtain ⟨f, rfl⟩ := Int.eq_ofNat_of_zero_le q2.1
      obtain ⟨r, g, e, k, z, c, c2⟩ := reckons_ok hm (hI.2.2.2.2.2.2.2.2.2.2.2.2.2.2.1 m hm)
      refine Both_mk (r := ((cN m f : Nat) : Int)) (h1 := h) (h2 := g) ?_ ?_ (Inv_up (Inv_rck hm hI k z c2))
      · unfold XX11_cost; rw [if_neg (by omega), if_neg (by omega), if_neg (by omega), ones_eq hm, cal_eq, if_pos (by omega), price_eq hm (by omega), cal_eq]
      · unfold XX12_cost; rw [in_eq, cal_eq, if1 q, if_neg n10, functions_eq hm, cal_eq, chk_pos (by omega), in_eq, cal_eq, if1 (by omega), if_neg n10, e, cal_eq, inb_pos (by omega), Int.toNat_natCast, c f (by omega)]
    · refine Both_ro (r := -1) ?_ ?_ hI
      · unfold XX11_cost; rw [if_neg (by omega), if_neg (by omega)]
        by_cases q3 : y < 0
        · rw [if_pos q3]
        · rw [if_neg q3, ones_eq hm, cal_eq, if_neg (by omega)]
      · unfold XX12_cost; rw [in_eq, cal_eq, if1 q, if_neg n10, functions_eq hm, cal_eq, chk_pos (by omega), in_eq, cal_eq, if0 (by omega), if_pos rfl]
  · refine Both_ro (r := -1) ?_ ?_ hI
    · unfold XX11_cost
      by_cases q3 : x < 0
      · rw [if_pos q3]
      · rw [if_neg q3, if_pos (by omega)]
    · unfold XX12_cost; rw [in_eq, cal_eq, if0 q, if_pos rfl]
