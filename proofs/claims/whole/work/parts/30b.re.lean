/-! ANOTHER NUMBERING: codes are names for addresses, so a world may be told again under other codes -/
def Bij (ρ σ : Nat → Nat) (n : Nat) : Prop := (∀ a, ρ (σ a) = a) ∧ (∀ a, σ (ρ a) = a) ∧ (∀ a, a < 16 → ρ a = a) ∧ (∀ a, a < 16 → σ a = a) ∧ ∀ a, 16 ≤ a → a < n → 16 ≤ ρ a ∧ ρ a < n
def reW (ρ σ : Nat → Nat) (w : Wd) : Wd := (w.1, fun a => w.2.1 (ρ a), fun a i => σ (w.2.2 (ρ a) i))
def reH (ρ σ : Nat → Nat) (w : Wd) (h : Hp) : Hp := fun a i => if (w.2.1 (ρ a)).1 ≠ 1 ∧ 4 ≤ (w.2.1 (ρ a)).2.1 then ((σ (h (ρ a) i).toNat : Nat) : Int) else h (ρ a) i
def reG (ρ : Nat → Nat) (Γ : Cx) : Cx := (Γ.1, Γ.2.1, fun a => Γ.2.2.1 (ρ a), Γ.2.2.2)
def rv (ρ : Nat → Nat) : AV → AV
  | .inl x => .inl x
  | .inr (.inl x) => .inr (.inl x)
  | .inr (.inr a) => .inr (.inr (ρ a))
theorem okV_rv {ρ : Nat → Nat} {v : AV} (h : okV (rv ρ v)) : okV v := by
  match v, h with
  | .inl x, h => exact h
  | .inr (.inl x), h => exact h
  | .inr (.inr a), _ => trivial
theorem rfN_re {ρ σ : Nat → Nat} {n : Nat} (hb : Bij ρ σ n) (ad : Nat → Nat) (x : Nat) : rfN (fun a => ad (ρ a)) (σ x) = rfN ad x := by
  unfold rfN
  by_cases q : x = 0
  · rw [if_pos q, if_pos (by rw [q]; exact hb.2.2.2.1 0 (by omega))]
  · rw [if_neg q, if_neg (fun z => q (by rw [← hb.1 x, z]; exact hb.2.2.1 0 (by omega)))]
    show some (ad (ρ (σ x))) = _
    rw [hb.1]
theorem toV_rv {ρ σ : Nat → Nat} {n : Nat} (hb : Bij ρ σ n) (ad : Nat → Nat) (v : AV) : toV ad (rv ρ v) = toV (fun a => ad (ρ a)) v := by
  match v with
  | .inl x => rfl
  | .inr (.inl x) => rfl
  | .inr (.inr a) =>
    show va_rf (rfN ad (ρ a)) = va_rf (rfN (fun a => ad (ρ a)) a)
    rw [← rfN_re hb ad (ρ a), hb.2.1]
theorem reH_o {ρ σ : Nat → Nat} {w : Wd} {h : Hp} {a : Nat} (q : (w.2.1 (ρ a)).1 = 1 ∨ (w.2.1 (ρ a)).2.1 < 4) (i : Nat) : reH ρ σ w h a i = h (ρ a) i := by
  unfold reH
  rw [if_neg (fun z => by rcases q with q | q; exact z.1 q; exact absurd z.2 (by omega))]
theorem reH_q {ρ σ : Nat → Nat} {w : Wd} {h : Hp} {a : Nat} (q : ¬ (w.2.1 (ρ a)).1 = 1) (q4 : 4 ≤ (w.2.1 (ρ a)).2.1) (i : Nat) : reH ρ σ w h a i = ((σ (h (ρ a) i).toNat : Nat) : Int) := by
  unfold reH
  rw [if_pos ⟨q, q4⟩]
theorem cE_re {ρ σ : Nat → Nat} {n : Nat} (hb : Bij ρ σ n) {dA : Nat → ClassId} {ad : Nat → Nat} {w : Wd} {h : Hp} (a : Nat) : cE dA (fun a => ad (ρ a)) (reW ρ σ w) (reH ρ σ w h) a = cE dA ad w h (ρ a) := by
  unfold cE
  show (if (w.2.1 (ρ a)).1 = 1 then Sum.inr ((w.2.1 (ρ a)).2.1, (List.range (nF (w.2.1 (ρ a)).2.1)).map (fun i => fV (fun a => ad (ρ a)) (ft (w.2.1 (ρ a)).2.1 i) (reH ρ σ w h a i) (σ (w.2.2 (ρ a) i)))) else Sum.inl (dA (w.2.1 (ρ a)).2.1, (w.2.1 (ρ a)).2.2, cnt (fun a => ad (ρ a)) (w.2.1 (ρ a)).2.1 (reH ρ σ w h a))) = _
  by_cases q : (w.2.1 (ρ a)).1 = 1
  · rw [if_pos q, if_pos q]
    have e : (fun i => fV (fun a => ad (ρ a)) (ft (w.2.1 (ρ a)).2.1 i) (reH ρ σ w h a i) (σ (w.2.2 (ρ a) i))) = fun i => fV ad (ft (w.2.1 (ρ a)).2.1 i) (h (ρ a) i) (w.2.2 (ρ a) i) := by
      funext i
      unfold fV
      rw [reH_o (Or.inl q), rfN_re hb]
    rw [e]
  · rw [if_neg q, if_neg q]
    have e : cnt (fun a => ad (ρ a)) (w.2.1 (ρ a)).2.1 (reH ρ σ w h a) = cnt ad (w.2.1 (ρ a)).2.1 (h (ρ a)) := by
      unfold cnt
      by_cases q4 : 4 ≤ (w.2.1 (ρ a)).2.1
      · have e2 : (fun j => rfN (fun a => ad (ρ a)) (reH ρ σ w h a j).toNat) = fun j => rfN ad (h (ρ a) j).toNat := by
          funext j
          rw [reH_q q q4, Int.toNat_natCast, rfN_re hb]
        rw [e2]
        by_cases q1 : (w.2.1 (ρ a)).2.1 = 1
        · omega
        · rw [if_neg q1, if_neg q1, if_pos q4, if_pos q4]
      · have e2 : reH ρ σ w h a = h (ρ a) := funext fun j => reH_o (Or.inr (by omega)) j
        rw [e2, if_neg q4, if_neg q4]
    rw [e]
theorem wsO_re {ρ σ : Nat → Nat} {w : Wd} (hb : Bij ρ σ w.1) {dA : Nat → ClassId} {ad : Nat → Nat} {h : Hp} {k : Nat} {q : Nat × va_E} (hk : (wsO dA (fun a => ad (ρ a)) (reW ρ σ w) (reH ρ σ w h))[k]? = some q) : ∃ j, ρ (k + 16) = j + 16 ∧ (wsO dA ad w h)[j]? = some q := by
  have hl : k < w.1 - 16 := by
    rcases Nat.lt_or_ge k (w.1 - 16) with z | z
    · exact z
    · unfold wsO at hk
      rw [List.getElem?_eq_none (by simpa [reW] using z)] at hk; cases hk
  have hr := hb.2.2.2.2 (k + 16) (by omega) (by omega)
  refine ⟨ρ (k + 16) - 16, by omega, ?_⟩
  rw [wsO_get hr.1 hr.2, ← cE_re hb, ← hk]
  have := wsO_get (dA := dA) (ad := fun a => ad (ρ a)) (w := reW ρ σ w) (h := reH ρ σ w h) (a := k + 16) (by omega) (by show k + 16 < w.1; omega)
  rw [Nat.add_sub_cancel] at this
  exact this.symm
theorem okH_re {ρ σ : Nat → Nat} {w : Wd} (hb : Bij ρ σ w.1) {h : Hp} (o : okH w h) : okH (reW ρ σ w) (reH ρ σ w h) := by
  intro a h1 h2 i
  have hr := hb.2.2.2.2 a h1 h2
  have := o (ρ a) hr.1 hr.2 i
  show okS (w.2.1 (ρ a)) i _
  by_cases q : (w.2.1 (ρ a)).1 = 1
  · rw [reH_o (Or.inl q)]; exact this
  · by_cases q4 : 4 ≤ (w.2.1 (ρ a)).2.1
    · unfold okS
      rw [if_neg q, if_neg (by omega), if_neg (by omega), if_pos q4]; trivial
    · rw [reH_o (Or.inr (by omega))]; exact this
theorem Co_re {Γ : Cx} {w : Wd} {h : Hp} {kc ks : Nat} {Q : State → Prop} {pc : Nat} {ls : List (Nat × AV)} {st : List AV} (ρ σ : Nat → Nat) (hb : Bij ρ σ w.1) (hall : ∀ a, Γ.2.2.2 a) (ls' : List (Nat × AV)) (st' : List AV) (hl : ls = ls'.map (fun q => (q.1, rv ρ q.2))) (hs : st = st'.map (rv ρ)) (k : Core (reG ρ Γ) (reW ρ σ w) (reH ρ σ w h) kc ks Q pc ls' st') : Core Γ w h kc ks Q pc ls st := by
  subst hl
  subst hs
  obtain ⟨⟨l, b0, D, dA⟩, ⟨p, e, R, s, m, args, below, meth, c⟩, adE, NE⟩ := Γ
  intro o1 o2 o3 ad H locs la e1 e2 e3 e4 e5
  have t1 : (st'.map (rv ρ)).map (toV ad) = st'.map (toV (fun a => ad (ρ a))) := by
    rw [List.map_map]; exact List.map_congr_left (fun v _ => toV_rv hb ad v)
  have t2 : (ls'.map (fun q => (q.1, rv ρ q.2))).map (fun q => (q.1, toV ad q.2)) = ls'.map (fun q => (q.1, toV (fun a => ad (ρ a)) q.2)) := by
    rw [List.map_map]; exact List.map_congr_left (fun v _ => by show (v.1, toV ad (rv ρ v.2)) = _; rw [toV_rv hb])
  rw [t2] at e5
  rw [t1]
  refine k (okH_re hb o1) (fun q hq => okV_rv (ρ := ρ) (o2 (q.1, rv ρ q.2) (List.mem_map.mpr ⟨q, hq, rfl⟩))) (fun v hv => okV_rv (ρ := ρ) (o3 _ (List.mem_map.mpr ⟨v, hv, rfl⟩))) (fun a => ad (ρ a)) H locs la (fun a _ => e1 (ρ a) (hall _)) ?_ ?_ e4 e5
  · intro i q hq
    obtain ⟨j, -, hj⟩ := wsO_re hb hq
    exact e2 j q hj
  · refine ⟨fun i i2 p1 p2 h1 h2 he => ?_, fun i q hq => ?_⟩
    · obtain ⟨j, r1, hj⟩ := wsO_re hb h1
      obtain ⟨j2, r2, hj2⟩ := wsO_re hb h2
      have := e3.1 j j2 p1 p2 hj hj2 he
      have e : ρ (i + 16) = ρ (i2 + 16) := by omega
      have := congrArg σ e
      rw [hb.2.1, hb.2.1] at this
      omega
    · obtain ⟨j, -, hj⟩ := wsO_re hb hq
      exact e3.2 j q hj
theorem Gd_re {Γ : Cx} {cc : ByteArray} {nL : Nat} {own : String} {ret : Option FieldType} {rr : Room} (ρ : Nat → Nat) (h16 : ∀ a, a < 16 → ρ a = a) (g : Gd Γ cc nL own ret rr) : Gd (reG ρ Γ) cc nL own ret rr := by
  obtain ⟨⟨l, b0, D, dA⟩, ⟨p, e, R, s, m, args, below, meth, c⟩, adE, NE⟩ := Γ
  obtain ⟨hx, hb, hml, hown, hts, hKU, hret, hlk, hNE, hRR⟩ := g
  refine ⟨hx, hb, hml, hown, hts, ⟨hKU.1, KS.ad hKU.2.1 (fun a ha => ?_), hKU.2.2⟩, hret, hlk, hNE, hRR⟩
  show adE (ρ a) = adE a
  rw [h16 a ha]
theorem reW_back {ρ σ : Nat → Nat} {n : Nat} (hb : Bij ρ σ n) (w : Wd) : reW σ ρ (reW ρ σ w) = w := by
  unfold reW
  simp only [hb.1]
theorem reG_back {ρ σ : Nat → Nat} {n : Nat} (hb : Bij ρ σ n) (Γ : Cx) : reG σ (reG ρ Γ) = Γ := by
  unfold reG
  simp only [hb.1]
theorem Mk_all {Γ : Cx} {n : Nat} (h : Mk Γ n) : ∀ a, Γ.2.2.2 a := by
  obtain ⟨⟨l, b0, D, dA⟩, ⟨p, e, R, s, m, args, below, meth, c⟩, adE, NE⟩ := Γ
  exact h.1
def rhoL1 : List Nat := [0, 1, 2, 3, 4, 5, 6, 7, 8, 9, 10, 11, 12, 13, 14, 15, 16, 17, 18, 19, 20, 21, 22, 23, 24, 25, 26, 27, 28, 29, 30, 31, 32, 33, 34, 35, 36, 37, 38, 39, 40, 41, 42, 44, 45, 48, 49, 50, 51, 52, 53, 54, 55, 56, 57, 58, 59, 60, 61, 62, 63, 64, 65, 66, 67, 68, 69, 70, 71, 72, 73, 74, 75, 76, 77, 78, 79, 80, 81, 82, 83, 84, 85, 86, 87, 88, 89, 90, 91, 92, 93, 94, 95, 96, 97, 98, 99, 100, 101, 102, 103, 104, 105, 106, 107, 108, 109, 110, 111, 112, 113, 114, 115, 116, 117, 118, 119, 120, 121, 122, 123, 124, 125, 126, 127, 128, 129, 130, 131, 132, 133, 134, 135, 136, 137, 138, 139, 140, 141, 142, 143, 144, 145, 43, 46, 47]
def sigL1 : List Nat := [0, 1, 2, 3, 4, 5, 6, 7, 8, 9, 10, 11, 12, 13, 14, 15, 16, 17, 18, 19, 20, 21, 22, 23, 24, 25, 26, 27, 28, 29, 30, 31, 32, 33, 34, 35, 36, 37, 38, 39, 40, 41, 42, 143, 43, 44, 144, 145, 45, 46, 47, 48, 49, 50, 51, 52, 53, 54, 55, 56, 57, 58, 59, 60, 61, 62, 63, 64, 65, 66, 67, 68, 69, 70, 71, 72, 73, 74, 75, 76, 77, 78, 79, 80, 81, 82, 83, 84, 85, 86, 87, 88, 89, 90, 91, 92, 93, 94, 95, 96, 97, 98, 99, 100, 101, 102, 103, 104, 105, 106, 107, 108, 109, 110, 111, 112, 113, 114, 115, 116, 117, 118, 119, 120, 121, 122, 123, 124, 125, 126, 127, 128, 129, 130, 131, 132, 133, 134, 135, 136, 137, 138, 139, 140, 141, 142]
def rho1 (a : Nat) : Nat := if 146 ≤ a then a else rhoL1.getD a 0
def sig1 (a : Nat) : Nat := if 146 ≤ a then a else sigL1.getD a 0
theorem rho1_b : ∀ a, rho1 (sig1 a) = a := by
  intro a
  rcases Nat.lt_or_ge a 146 with q | q
  · have h : ∀ a, a < 146 → rho1 (sig1 a) = a := by decide +kernel
    exact h a q
  · have e : sig1 a = a := if_pos q
    rw [e]; exact if_pos q
theorem rho1_l : ∀ a, a < 16 → rho1 a = a := by decide +kernel
theorem rho1_r : ∀ a, 16 ≤ a → a < 146 → 16 ≤ rho1 a ∧ rho1 a < 146 := by
  have h : ∀ a, a < 146 → 16 ≤ a → 16 ≤ rho1 a ∧ rho1 a < 146 := by decide +kernel
  exact fun a h1 h2 => h a h2 h1
theorem sig1_b : ∀ a, sig1 (rho1 a) = a := by
  intro a
  rcases Nat.lt_or_ge a 146 with q | q
  · have h : ∀ a, a < 146 → sig1 (rho1 a) = a := by decide +kernel
    exact h a q
  · have e : rho1 a = a := if_pos q
    rw [e]; exact if_pos q
theorem sig1_l : ∀ a, a < 16 → sig1 a = a := by decide +kernel
theorem sig1_r : ∀ a, 16 ≤ a → a < 146 → 16 ≤ sig1 a ∧ sig1 a < 146 := by
  have h : ∀ a, a < 146 → 16 ≤ a → 16 ≤ sig1 a ∧ sig1 a < 146 := by decide +kernel
  exact fun a h1 h2 => h a h2 h1
theorem bij1 : Bij rho1 sig1 146 := ⟨rho1_b, sig1_b, rho1_l, sig1_l, rho1_r⟩
theorem bij1i : Bij sig1 rho1 146 := ⟨sig1_b, rho1_b, sig1_l, rho1_l, sig1_r⟩
def rhoL2 : List Nat := [0, 1, 2, 3, 4, 5, 6, 7, 8, 9, 10, 11, 12, 13, 14, 15, 16, 17, 18, 19, 20, 21, 22, 23, 24, 25, 26, 27, 28, 29, 30, 31, 32, 33, 34, 35, 36, 37, 38, 39, 40, 41, 42, 44, 45, 48, 49, 50, 51, 52, 53, 54, 55, 56, 57, 58, 59, 60, 61, 62, 63, 64, 65, 66, 67, 68, 69, 70, 71, 72, 73, 74, 75, 76, 77, 78, 79, 80, 81, 82, 83, 84, 85, 86, 87, 88, 89, 90, 91, 92, 93, 94, 95, 96, 97, 98, 99, 100, 101, 102, 103, 104, 105, 106, 107, 108, 109, 110, 111, 112, 113, 114, 115, 116, 117, 118, 119, 120, 121, 122, 123, 124, 125, 126, 127, 128, 129, 130, 131, 132, 133, 134, 135, 136, 137, 138, 139, 140, 141, 142, 143, 144, 145, 146, 147, 148, 149, 150, 151, 152, 153, 154, 155, 156, 157, 158, 159, 160, 161, 162, 163, 164, 165, 166, 167, 168, 169, 170, 171, 172, 173, 174, 175, 176, 177, 178, 179, 180, 181, 182, 183, 184, 185, 186, 187, 188, 189, 190, 191, 192, 193, 194, 195, 196, 197, 198, 199, 200, 201, 202, 203, 204, 205, 43, 46, 47]
def sigL2 : List Nat := [0, 1, 2, 3, 4, 5, 6, 7, 8, 9, 10, 11, 12, 13, 14, 15, 16, 17, 18, 19, 20, 21, 22, 23, 24, 25, 26, 27, 28, 29, 30, 31, 32, 33, 34, 35, 36, 37, 38, 39, 40, 41, 42, 203, 43, 44, 204, 205, 45, 46, 47, 48, 49, 50, 51, 52, 53, 54, 55, 56, 57, 58, 59, 60, 61, 62, 63, 64, 65, 66, 67, 68, 69, 70, 71, 72, 73, 74, 75, 76, 77, 78, 79, 80, 81, 82, 83, 84, 85, 86, 87, 88, 89, 90, 91, 92, 93, 94, 95, 96, 97, 98, 99, 100, 101, 102, 103, 104, 105, 106, 107, 108, 109, 110, 111, 112, 113, 114, 115, 116, 117, 118, 119, 120, 121, 122, 123, 124, 125, 126, 127, 128, 129, 130, 131, 132, 133, 134, 135, 136, 137, 138, 139, 140, 141, 142, 143, 144, 145, 146, 147, 148, 149, 150, 151, 152, 153, 154, 155, 156, 157, 158, 159, 160, 161, 162, 163, 164, 165, 166, 167, 168, 169, 170, 171, 172, 173, 174, 175, 176, 177, 178, 179, 180, 181, 182, 183, 184, 185, 186, 187, 188, 189, 190, 191, 192, 193, 194, 195, 196, 197, 198, 199, 200, 201, 202]
def rho2 (a : Nat) : Nat := if 206 ≤ a then a else rhoL2.getD a 0
def sig2 (a : Nat) : Nat := if 206 ≤ a then a else sigL2.getD a 0
theorem rho2_b : ∀ a, rho2 (sig2 a) = a := by
  intro a
  rcases Nat.lt_or_ge a 206 with q | q
  · have h : ∀ a, a < 206 → rho2 (sig2 a) = a := by decide +kernel
    exact h a q
  · have e : sig2 a = a := if_pos q
    rw [e]; exact if_pos q
theorem rho2_l : ∀ a, a < 16 → rho2 a = a := by decide +kernel
theorem rho2_r : ∀ a, 16 ≤ a → a < 206 → 16 ≤ rho2 a ∧ rho2 a < 206 := by
  have h : ∀ a, a < 206 → 16 ≤ a → 16 ≤ rho2 a ∧ rho2 a < 206 := by decide +kernel
  exact fun a h1 h2 => h a h2 h1
theorem sig2_b : ∀ a, sig2 (rho2 a) = a := by
  intro a
  rcases Nat.lt_or_ge a 206 with q | q
  · have h : ∀ a, a < 206 → sig2 (rho2 a) = a := by decide +kernel
    exact h a q
  · have e : rho2 a = a := if_pos q
    rw [e]; exact if_pos q
theorem sig2_l : ∀ a, a < 16 → sig2 a = a := by decide +kernel
theorem sig2_r : ∀ a, 16 ≤ a → a < 206 → 16 ≤ sig2 a ∧ sig2 a < 206 := by
  have h : ∀ a, a < 206 → 16 ≤ a → 16 ≤ sig2 a ∧ sig2 a < 206 := by decide +kernel
  exact fun a h1 h2 => h a h2 h1
theorem bij2 : Bij rho2 sig2 207 := ⟨rho2_b, sig2_b, rho2_l, sig2_l, fun a h1 h2 => by
  rcases Nat.lt_or_ge a 206 with q | q
  · have := rho2_r a h1 q; omega
  · have e : rho2 a = a := if_pos q
    rw [e]; omega⟩
