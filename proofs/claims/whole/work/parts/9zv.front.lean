/-- OLD of the model beside OLD of another heap -/
def NtM (q g : Hp) : Prop := (g 143 1 = q 18 0 ∧ g 143 2 = q 18 1 ∧ g 143 3 = q 18 2 ∧ g 144 0 = q 18 3) ∧ (∀ w, w < 48 → g 145 w = q 19 w) ∧ (∀ j, j < 144 → g 146 j = q 20 j) ∧ ∀ k : Nat, (k : Int) < q 18 2 + q 18 1 → sn 0 k g = q 21 k
theorem NtM_tr {q g f : Hp} (e : ∀ a i, ((144 ≤ a ∧ a ≤ 148) ∨ (a = 143 ∧ 1 ≤ i ∧ i ≤ 3)) → f a i = g a i) (t : NtM q g) : NtM q f := by
  obtain ⟨⟨a1, a2, a3, a4⟩, b, c, d⟩ := t
  have hsn : ∀ k, sn 0 k f = sn 0 k g := fun k => sn_congr (e 143 3 (by omega)) (funext (fun i => e 147 i (by omega))) (funext (fun i => e 148 i (by omega))) 0 k
  exact ⟨⟨by rw [e 143 1 (by omega)]; exact a1, by rw [e 143 2 (by omega)]; exact a2, by rw [e 143 3 (by omega)]; exact a3, by rw [e 144 0 (by omega)]; exact a4⟩, fun w hw => by rw [e 145 w (by omega)]; exact b w hw, fun j hj => by rw [e 146 j (by omega)]; exact c j hj, fun k hk => by rw [hsn]; exact d k hk⟩
theorem NtM_s {q g : Hp} (t : NtM q g) : sM g = sc 18 q ∧ nM 0 g = wn 18 q := by
  obtain ⟨⟨a1, a2, a3, a4⟩, _⟩ := t
  unfold sM nM sc wn
  rw [a1, a2]
  exact ⟨rfl, congrArg (fun z => q 18 0 + q 18 1 + z) a4⟩
/-- the model works out its OLD -/
theorem knowsM {q g : Hp} (hP : Pl 40 18 q) (hM : MN g) (t : NtM q g) : En (XX12_knows 0 g) (fun _ g1 => (∀ a i, ¬ ((186 ≤ a ∧ a ≤ 188) ∨ (a = 143 ∧ i = 63)) → g1 a i = g a i) ∧ ∀ part w : Nat, part < 4 → (w : Int) < wn 18 q → vM 0 part g1 w = fOl q noF part w) := by
  have l0 := Pl_lt (by decide) hP.1
  obtain ⟨es, en⟩ := NtM_s t
  have k1 : ∀ w, w < 48 → kM 0 g w = q 19 w := fun w hw => by
    show g 145 (48 * 0 + w) = _
    rw [Nat.mul_zero, Nat.zero_add]; exact t.2.1 w hw
  have k2 : ∀ w, w < 144 → pM 0 g w = q 20 w := fun w hw => by
    show g 146 (144 * 0 + w) = _
    rw [Nat.mul_zero, Nat.zero_add]; exact t.2.2.1 w hw
  have hp : PinOK (sM g) (nM 0 g) (kM 0 g) (pM 0 g) := by
    rw [es, en]; exact PinOK_congr l0.2.2.1 k1 k2 hP.2.1
  have ha : Acy (sM g) (nM 0 g) (kM 0 g) (pM 0 g) := by
    rw [es, en]; exact Acy_congr l0.2.2.1 k1 k2 hP.2.2.1
  refine En_mono (knows_ok hM (e := 0) (by omega) hp ha) (fun r g1 e1 hr => ⟨fr_XX12_knows e1, fun part w h1 h2 => ?_⟩)
  have := hr.1 part h1
  rw [es, en, WEq_congr l0.2.2.1 k1 k2] at this
  exact solW_eq hP.2.1 hP.2.2.1 this w h2
/-- what is seen of OLD in a case -/
noncomputable def seB (h : Hp) (x k : Nat) : Bool := tb (fOl h noF ((x / 64 : Nat) : Int) (h 21 k).toNat) (x % 64)
theorem sbM_se {q g : Hp} (hP : Pl 40 18 q) (t : NtM q g) (v : ∀ part w : Nat, part < 4 → (w : Int) < wn 18 q → vM 0 part g w = fOl q noF part w) {c : Nat} (hc : q 18 2 + q 18 1 = (c : Int)) {x : Nat} (hx : x < 256) : shB (sbM g x) c = shB (seB q x) c := by
  rw [shB_eq]
  intro k hk
  have hs : 0 ≤ q 21 k ∧ q 21 k < wn 18 q := hP.2.2.2.1 k (by omega)
  unfold sbM seB
  rw [t.2.2.2 k (by omega), v _ _ (by omega) (by omega)]
/-- the model's apply, up to the first tree -/
theorem frontM {n U c C : Nat} {h f : Hp} (hI : Inv n h) (hc : h 18 2 + h 18 1 = (c : Int)) (hC : h 37 0 = (C : Int)) (hU : U < 4) (ef : ∀ a i, ¬ (a < 143 ∨ (174 ≤ a ∧ a ≤ 184) ∨ (a = 143 ∧ i = 36)) → f a i = h a i) (f36 : f 143 36 = (U : Int)) {r : Int} {P : Int → Hp → Prop} (hend : ∀ g1 g, StoP (6 + U) 48 144 4 2 12 f g1 → (∀ a i, ¬ ((a = 143 ∧ ((36 ≤ i ∧ i ≤ 38) ∨ i = 63)) ∨ (186 ≤ a ∧ a ≤ 188) ∨ a = 201) → g a i = g1 a i) → g 143 36 = ((U + 1 : Nat) : Int) → g 143 37 = 0 → g 143 38 = 0 → (∀ x, x < C → g 201 x = ((shB (seB h x) c : Nat) : Int)) → En (cal (XX12_comes 0 g) (fun r11 h12 => if (h12 143 25) ≤ 1 then XX12_apply_p201 r r11 (-1) h12 else cal (XX12_comes 1 h12) (fun r26 h27 => XX12_apply_p201 r r11 r26 h27))) P) : En (XX12_apply_p115 r f) P := by
  have hMS := Inv_MS hI
  have hP : Pl 40 18 h := hI.1.1.1
  have i15 := hI.2.2.2.2.2.2.2.2.2.2.2.2.2.2
  have hnum := num_le hI
  have l0 := Pl_lt (by decide) hP.1
  have r3 := hI.2.1.1
  have t0 : NtM h h := ⟨⟨r3.1.symm, r3.2.1.symm, r3.2.2.1.symm, r3.2.2.2.symm⟩, hI.2.1.2.2.1, hI.2.1.2.2.2.2.1, fun k hk => (hI.2.1.2.2.2.2.2.2 k hk).1⟩
  unfold XX12_apply_p115
  rw [f36, chk_pos (by omega), show 6 + (U : Int) = ((6 + U : Nat) : Int) by omega]
  refine En_cal (stores_ok (sl := 6 + U) (by omega) (fun k hk => by rw [ef 155 k (by omega)]; exact i15.2.1 k hk)) (fun r2 g1 _ hs => ?_)
  rw [hs.1 143 36 (by omega), f36, chk_pos (by omega), hm_eq]
  have e2 : ∀ a i, ¬ (a < 143 ∨ (174 ≤ a ∧ a ≤ 184) ∨ (a = 143 ∧ i = 36)) → wr g1 143 36 ((U : Int) + 1) a i = h a i := fun a i hh => by rw [wq_ne (by omega), hs.1 a i (by omega), ef a i hh]
  have o2 : ∀ a i, ¬ (a = 143 ∧ i = 36) → wr g1 143 36 ((U : Int) + 1) a i = g1 a i := fun a i hh => wq_ne hh
  have v2 : wr g1 143 36 ((U : Int) + 1) 143 36 = (U : Int) + 1 := wr_at
  generalize wr g1 143 36 ((U : Int) + 1) = g2 at *
  have hM2 : MN g2 := (MN_of (fun a i hh => e2 a i (by omega)) hMS.1.1).1
  have t2 : NtM h g2 := NtM_tr (fun a i hh => e2 a i (by omega)) t0
  refine En_cal (knowsM hP hM2 t2) (fun r5 g3 _ hk => ?_)
  obtain ⟨k3, v3⟩ := hk
  have hM3 : MN g3 := (MN_of (fun a i hh => k3 a i (by omega)) hM2).1
  have t3 : NtM h g3 := NtM_tr (fun a i hh => k3 a i (by omega)) t2
  have s3 : sM g3 = sc 18 h := (NtM_s t3).1
  refine aheadM hM3 (n := c) (C := C) (by rw [t3.1.2.2.1, t3.1.2.1]; exact hc) (fun k hk => ?_) ?_ (by omega) (fun g kg rg => ?_)
  · rw [t3.2.2.2 k (by omega)]
    have hs : 0 ≤ h 21 k ∧ h 21 k < wn 18 h := hP.2.2.2.1 k (by omega)
    omega
  · rw [s3, ashl1 (by omega) (by omega), ← hC]; exact hI.2.2.2.1.1.1.symm
  · rw [hm_eq, hm_eq]
    have o4 : ∀ a i, ¬ (a = 143 ∧ (i = 37 ∨ i = 38)) → wr (wr g 143 37 0) 143 38 0 a i = g a i := fun a i hh => by rw [wq_ne (by omega), wq_ne (by omega)]
    refine hend g1 _ hs (fun a i hh => by rw [o4 a i (by omega), kg a i (by omega), k3 a i (by omega), o2 a i (by omega)]) ?_ (by rw [wq_ne (by omega), wr_at]) wr_at (fun x hx => ?_)
    · rw [o4 143 36 (by omega), kg 143 36 (by omega), k3 143 36 (by omega), v2]; omega
    · rw [o4 201 x (by omega), rg x hx, sbM_se hP t3 v3 hc (by omega)]
/-- the model's apply, behind the last turn; q is the class's heap -/
theorem endM {q g : Hp} (hP : Pl 40 18 q) (hM : MN g) (t : NtM q g) {c C : Nat} (hc : q 18 2 + q 18 1 = (c : Int)) (hC : ashl 1 (sM g) = (C : Int)) (hC2 : C ≤ 256) {h : Hp} (g201 : ∀ x, x < C → g 201 x = ((shB (seB h x) c : Nat) : Int)) {D : Nat → Bool} (hD : ∀ x, x < C → (D x = true ↔ g 149 x = 0 ∧ ∃ k, k < c ∧ seB q x k ≠ seB h x k)) {T : List Int} (hT : frB (tsL D) (C - 0) 0 [] = T) (h38 : g 143 38 = 0) (r : Int) : En (XX12_apply_p232 r g) (fun x f => x = r ∧ (∀ a i, ¬ ((186 ≤ a ∧ a ≤ 188) ∨ a = 170 ∨ (a = 143 ∧ (i = 38 ∨ i = 23 ∨ i = 63))) → f a i = g a i) ∧ f 143 23 = 0 ∧ f 143 38 = ((T.length : Nat) : Int) ∧ ∀ i e, T[i]? = some e → f 170 i = e) := by
  have l0 := Pl_lt (by decide) hP.1
  unfold XX12_apply_p232
  refine En_cal (knowsM hP hM t) (fun r5 g3 _ hk => ?_)
  obtain ⟨k3, v3⟩ := hk
  have hM3 : MN g3 := (MN_of (fun a i hh => k3 a i (by omega)) hM).1
  have t3 : NtM q g3 := NtM_tr (fun a i hh => k3 a i (by omega)) t
  have s3 : sM g3 = sM g := (MN_of (fun a i hh => k3 a i (by omega)) hM).2.2.1
  refine En_mono (testsM hM3 (n := c) (C := C) (by rw [t3.1.2.2.1, t3.1.2.1]; exact hc) (fun k hk => ?_) (by rw [s3]; exact hC) hC2 (D := D) (fun x hx => ?_) hT (by rw [k3 143 38 (by omega)]; exact h38) r) (fun x f _ hf => ?_)
  · rw [t3.2.2.2 k (by omega)]
    have hs : 0 ≤ q 21 k ∧ q 21 k < wn 18 q := hP.2.2.2.1 k (by omega)
    omega
  · rw [hD x hx, k3 149 x (by omega), k3 201 x (by omega), g201 x hx, sbM_se hP t3 v3 hc (by omega)]
    have e : ((shB (seB q x) c : Nat) : Int) ≠ ((shB (seB h x) c : Nat) : Int) ↔ ∃ k, k < c ∧ seB q x k ≠ seB h x k := by
      have a : ((shB (seB q x) c : Nat) : Int) = ((shB (seB h x) c : Nat) : Int) ↔ ∀ k, k < c → seB q x k = seB h x k := by
        rw [← shB_eq]; omega
      constructor
      · intro z
        refine Classical.byContradiction (fun y => z (a.2 (fun k hk => Classical.byContradiction (fun u => y ⟨k, hk, u⟩))))
      · rintro ⟨k, hk, u⟩ z
        exact u (a.1 z k hk)
    rw [e]
  · obtain ⟨rfl, f1, f2, f3, f4⟩ := hf
    exact ⟨rfl, fun a i hh => by rw [f1 a i (by omega), k3 a i (by omega)], f2, f3, f4⟩
