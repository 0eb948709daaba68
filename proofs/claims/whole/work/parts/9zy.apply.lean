theorem ctT_congr {h k : Hp} (e : k 60 = h 60) : ∀ np, ctT k np = ctT h np
  | 0 => rfl
  | np + 1 => by
    show ctT k np + _ = ctT h np + _
    rw [ctT_congr e np]
    unfold cnT
    rw [e]
/-- the model, from the class's heap to the first tree -/
theorem pushM {n N M s U C c : Nat} {k f : Hp} {np : Nat} (hI : Inv n k) (p : PlB k N M) (enp : k 56 3 = (np : Int)) (hc : k 18 2 + k 18 1 = (c : Int)) (hC : k 37 0 = (C : Int)) (h23 : k 143 23 = 1) (hsz : k 18 3 + ((M + ctT k np : Nat) : Int) ≤ 40) (hU : ((U + s : Nat) : Int) = k 72 2) (hU4 : U < 4) (hs : (s = 1 ∧ U = 3) ∨ (s = 0 ∧ k 72 2 < 4)) (fk : ∀ a i, 143 ≤ a → f a i = k a i) {P : Int → Hp → Prop} (hend : ∀ f1 g1 g2, (∀ a i, ¬ ((174 ≤ a ∧ a ≤ 184) ∨ (a = 143 ∧ i = 36)) → f1 a i = f a i) → (∀ t, t < 6 → SlE t t f f1) → (∀ u, u < U → SlE (6 + u + s) (6 + u) f f1) → (∀ i, i < 120 → f1 184 i = 0 ∨ f1 184 i = 1) → StoP (6 + U) 48 144 4 2 12 f1 g1 → (∀ a i, ¬ ((a = 143 ∧ ((36 ≤ i ∧ i ≤ 38) ∨ i = 63)) ∨ (186 ≤ a ∧ a ≤ 188) ∨ a = 201) → g2 a i = g1 a i) → g2 143 36 = ((U + 1 : Nat) : Int) → g2 143 37 = 0 → g2 143 38 = 0 → (∀ x, x < C → g2 201 x = ((shB (seB k x) c : Nat) : Int)) → En (cal (XX12_comes 0 g2) (fun r11 h12 => if (h12 143 25) ≤ 1 then XX12_apply_p201 ((M + ctT k np : Nat) : Int) r11 (-1) h12 else cal (XX12_comes 1 h12) (fun r26 h27 => XX12_apply_p201 ((M + ctT k np : Nat) : Int) r11 r26 h27))) P) : En (XX12_apply f) P := by
  obtain ⟨i1, i2, i3, i4, i5, i6, i7, i8, i9, i10, i11, i12, i13, i14, i15⟩ := id hI
  have pt := p.2.2.1
  have hz : ∀ i, i < 120 → f 184 i = 0 ∨ f 184 i = 1 := fun i hi => by rw [fk 184 i (by omega)]; exact i15.2.2 i hi
  have f36 : f 143 36 = k 72 2 := by rw [fk 143 36 (by omega)]; exact i11.1.symm
  have f27 : f 143 27 = (M : Int) := by rw [fk 143 27 (by omega), ← pt.2.2.2.1.1]; exact p.2.2.2.2.1
  have fg : f 144 0 = k 18 3 := by rw [fk 144 0 (by omega)]; exact i2.1.2.2.2.symm
  have hn40 := (Inv_N0 hI).2.2.2.2.2.2.2
  have tail : ∀ f1 : Hp, (∀ a i, ¬ ((174 ≤ a ∧ a ≤ 184) ∨ (a = 143 ∧ i = 36)) → f1 a i = f a i) → f1 143 36 = (U : Int) → (∀ t, t < 6 → SlE t t f f1) → (∀ u, u < U → SlE (6 + u + s) (6 + u) f f1) → (∀ i, i < 120 → f1 184 i = 0 ∨ f1 184 i = 1) → En (XX12_apply_p115 ((M + ctT k np : Nat) : Int) f1) P := fun f1 e1 e36 s1 s2 z1 =>
    frontM hI hc hC hU4 (fun a i hh => by rw [e1 a i (by omega), fk a i (by omega)]) e36 (fun g1 g2 st x1 x2 x3 x4 x5 => hend f1 g1 g2 e1 s1 s2 z1 st x1 x2 x3 x4 x5)
  unfold XX12_apply
  rw [fk 143 23 (by omega), h23, if_neg (by decide), nm_eq, f27]
  refine gatesM_ok p enp (fun a i hh => fk a i (by omega)) (by rw [fg]; exact hn40) ?_
  rw [fg, if_pos hsz, f36]
  by_cases q : k 72 2 = 4
  · rw [if_pos q]
    have : s = 1 ∧ U = 3 := by omega
    obtain ⟨rfl, rfl⟩ := this
    exact L80_ok hz (by rw [f36]; exact q) (fun f1 e1 e36 s1 s2 z1 => tail f1 e1 e36 s1 s2 z1)
  · rw [if_neg q]
    have : s = 0 := by omega
    subst this
    exact tail f (fun _ _ _ => rfl) (by rw [f36]; omega) (fun t _ => SlE_id (fun _ _ _ => rfl)) (fun u _ => SlE_id (fun _ _ _ => rfl)) hz
/-- choosing the cases that are listed -/
theorem pickD (Q : Nat → Prop) : ∃ D : Nat → Bool, ∀ w, (D w = true ↔ Q w) := ⟨fun w => @decide (Q w) (Classical.propDecidable _), fun w => by simp⟩
theorem se_ne {q h : Hp} {s n : Nat} {σ : TrS} {Pf Ef : Nat → Int} {x k : Nat} (e0 : sc 18 q = (s : Int)) (e1 : wn 18 q = ((s + σ.n : Nat) : Int)) (q19 : q 19 = σ.K) (q20 : q 20 = Pf) (q21 : q 21 = Ef) : (tb (solW (s : Int) ((s + σ.n : Nat) : Int) σ.K Pf ((x / 64 : Nat) : Int) noF (Ef k).toNat) (x % 64) ≠ tb (fOl h noF ((x / 64 : Nat) : Int) (h 21 k).toNat) (x % 64)) ↔ seB q x k ≠ seB h x k := by
  unfold seB
  rw [show fOl q noF ((x / 64 : Nat) : Int) = solW (s : Int) ((s + σ.n : Nat) : Int) σ.K Pf ((x / 64 : Nat) : Int) noF by unfold fOl; rw [e0, e1, q19, q20], q21]
theorem m_apply {n0 : Nat} {h : Hp} (hI : Inv n0 h) : Both n0 h XX11_apply XX12_apply := by
  have lt := Pl_lt (by decide) (Inv_N0 hI)
  obtain ⟨k1, k2, k3⟩ := hI.2.2.2.2.2.2.2.2.1
  rcases k2 with k2 | k2
  · refine Both_ro (r := -1) ?_ ?_ hI
    · unfold XX11_apply; rw [k2, if_pos rfl]
    · unfold XX12_apply; rw [← k1, k2, if_pos rfl]
  -- there is a patch
  have hnum := num_le hI
  have mkp : ∀ x : Hp, Inv n0 x → x 56 0 = 1 → ∀ N M : Nat, x 67 0 = (N : Int) → x 56 8 = (M : Int) → PlB x N M := fun x hx h1 N M hN hM => by
    have j9 := hx.2.2.2.2.2.2.2.2.2.1
    have pt := hx.2.2.2.2.2.2.2.2.1.2.2 h1
    have lx := Pl_lt (by decide) (Inv_N0 hx)
    exact ⟨hx.2.2.1, j9, pt, hN, hM, by have := j9.2.2.1; omega, by have := pt.2.2.2.1.2.2; omega, by omega, by omega, by omega⟩
  have j9 := hI.2.2.2.2.2.2.2.2.2.1
  have pt0 := k3 k2
  obtain ⟨N, hN⟩ := Int.eq_ofNat_of_zero_le j9.2.1
  obtain ⟨M, hM⟩ := Int.eq_ofNat_of_zero_le pt0.2.2.2.1.2.1
  obtain ⟨np, hnp⟩ := Int.eq_ofNat_of_zero_le (show 0 ≤ h 56 3 by have := pt0.2.1.2.1; omega)
  have hnp2 : 1 ≤ np ∧ np ≤ 2 := by have := pt0.2.1.2; omega
  have p0 := mkp h hI k2 N M hN hM
  have hM8 : M ≤ 8 := p0.2.2.2.2.2.2.1
  have h23 : h 143 23 = 1 := by rw [← k1]; exact k2
  have eC := gatesC_ok (h := h) hM hM8 hnp hnp2.2
  have hct := ctT_le h np
  have hn40 : 0 ≤ h 18 3 ∧ h 18 3 ≤ 40 := (Inv_N0 hI).2.2.2.2.2.2.2
  by_cases q : ¬ h 18 3 + ((M + ctT h np : Nat) : Int) ≤ 40
  · refine Both_ro (r := -3) ?_ ?_ hI
    · unfold XX11_apply
      rw [k2, if_neg n10, eC, cal_eq, chk_pos (by omega), if_neg q]
    · have m27 : h 143 27 = (M : Int) := by rw [← pt0.2.2.2.1.1]; exact hM
      have g0 : h 144 0 = h 18 3 := hI.2.1.1.2.2.2.symm
      obtain ⟨r, f, ef, rfl, rfl⟩ := gatesM_ok (h := h) (g := h) p0 hnp (fun _ _ _ => rfl) (by rw [g0]; exact hn40) (P := fun r f => r = -3 ∧ f = h) (by rw [g0, if_neg q]; exact En_some ⟨rfl, rfl⟩)
      unfold XX12_apply
      rw [h23, if_neg (by decide), nm_eq, m27]; exact ef
  have q : h 18 3 + ((M + ctT h np : Nat) : Int) ≤ 40 := Classical.byContradiction q
  -- a fresh OLD
  obtain ⟨r3, k, ek, hIk, _, hCch, _, kh⟩ := refresh_Inv hI (Side_0 hI)
  have kh' : ∀ a i, ¬ ((a = 17 ∧ i = 6) ∨ (23 ≤ a ∧ a ≤ 25)) → k a i = h a i := fun a i hh => kh a i (by omega)
  have z2 : k 56 0 = 1 := by rw [kh' 56 0 (by omega)]; exact k2
  have z3 : k 56 3 = (np : Int) := by rw [kh' 56 3 (by omega)]; exact hnp
  have p := mkp k hIk z2 N M (by rw [kh' 67 0 (by omega)]; exact hN) (by rw [kh' 56 8 (by omega)]; exact hM)
  have ect : ctT k np = ctT h np := ctT_congr (funext (fun i => kh' 60 i (by omega))) np
  have e183 : k 18 3 = h 18 3 := kh' 18 3 (by omega)
  rw [← ect, ← e183] at q
  rw [← ect] at eC
  have hP : Pl 40 18 k := hIk.1.1.1
  have hN0 := hP.1
  have ltk := Pl_lt (by decide) hN0
  obtain ⟨s, hs⟩ := Int.eq_ofNat_of_zero_le (show 0 ≤ sc 18 k by omega)
  obtain ⟨n1, hn1⟩ := Int.eq_ofNat_of_zero_le (show 0 ≤ k 18 3 by have := hN0.2.2.2.2.2.2.2; omega)
  obtain ⟨o, ho⟩ := Int.eq_ofNat_of_zero_le (show 0 ≤ k 18 2 by have := hN0.2.2.2.2.2.1; omega)
  obtain ⟨c, hc⟩ := Int.eq_ofNat_of_zero_le (show 0 ≤ k 18 2 + k 18 1 by have := hN0.2.1; omega)
  have hnk := num_le hIk
  obtain ⟨C, hC⟩ := Int.eq_ofNat_of_zero_le (show 0 ≤ k 37 0 by omega)
  have hC2 : C ≤ 256 := by omega
  have o6 : c ≤ 6 := by unfold Nums at hN0; omega
  obtain ⟨sh, U, b, hU, hU4, hsh, r5, g, eg, op⟩ := open_ok hP hIk.2.2.2.2.2.2.2.2.2.2.1 (k 67 1)
  have hb4 : 78 ≤ b ∧ b ≤ 93 := by have := op.2.2.2.1; omega
  have gk : ∀ a i, ((18 ≤ a ∧ a ≤ 22) ∨ (37 ≤ a ∧ a ≤ 39) ∨ (56 ≤ a ∧ a ≤ 65) ∨ a = 67 ∨ a = 69) → g a i = k a i := fun a i hh => op.1 a i (by omega)
  have lg0 : LgC [] g := ⟨op.2.2.1, fun i e he => by simp at he⟩
  have h77 : ∀ j part : Nat, j < c → part < 4 → g 77 (4 * j + part) = fOl k noF part (k 21 j).toNat := fun j part h1 h2 => by
    have hsj : 0 ≤ k 21 j ∧ k 21 j < wn 18 k := hP.2.2.2.1 j (by omega)
    rw [op.2.2.2.2.2.2.2.2.2.2 j part (by omega) h2]
    exact Cch_fN (lim := 40) (p := 17) hIk.1.1 hCch h2 (show ((k 21 j).toNat : Int) < wn 18 k by omega)
  have hB : Hang (sc 18 k) (wn 18 k) (k 19) (k 20) (fun w v => tb (k 24 w) v) := hCch.2.1
  have E0 : ∀ {P : Int → Hp → Prop}, En (XX11_apply_L67 ((M + ctT k np : Nat) : Int) 0 g) P → ∃ r f, XX11_apply h = some (r, f) ∧ P r f := fun {P} hE => by
    obtain ⟨r, f, ef, hf⟩ := hE
    refine ⟨r, f, ?_, hf⟩
    unfold XX11_apply
    rw [k2, if_neg n10, eC, cal_eq, ← e183, chk_pos (by omega), if_pos q, ek, cal_eq, eg, cal_eq]; exact ef
  have fin : ∀ {σ : TrS} {Pf Ef : Nat → Int} {F : List (Int × Int × Int)} {T : List Int} {f : Hp}, XX11_apply h = some (((M + ctT k np : Nat) : Int), f) → ApC g N C σ Pf Ef F T f → F.length ≤ 126 → k 18 3 ≤ (σ.n : Int) → (∀ g2 : Hp, (∀ a i, ((a = 143 ∧ (1 ≤ i ∧ i ≤ 3 ∨ i = 12 ∨ 24 ≤ i ∧ i ≤ 27)) ∨ (144 ≤ a ∧ a ≤ 155) ∨ (159 ≤ a ∧ a ≤ 166)) → g2 a i = k a i) → g2 143 37 = 0 → g2 143 38 = 0 → (∀ x, x < C → g2 201 x = ((shB (seB k x) c : Nat) : Int)) → En (cal (XX12_comes 0 g2) (fun r11 h12 => if (h12 143 25) ≤ 1 then XX12_apply_p201 ((M + ctT k np : Nat) : Int) r11 (-1) h12 else cal (XX12_comes 1 h12) (fun r26 h27 => XX12_apply_p201 ((M + ctT k np : Nat) : Int) r11 r26 h27))) (fun x m => x = ((M + ctT k np : Nat) : Int) ∧ ApM g2 N o c σ Pf Ef F T m)) → Both n0 h XX11_apply XX12_apply := fun {σ Pf Ef F T f} e1 ac hF hgr hmod => by
    have fk : ∀ a i, 143 ≤ a → f a i = k a i := fun a i hh => by rw [ac.1 a i (by omega), op.1 a i (by omega)]
    obtain ⟨r, m, em, rfl, hm⟩ := pushM (f := f) (P := fun x m => x = ((M + ctT k np : Nat) : Int) ∧ Inv (n0 + 1) m) hIk p z3 hc hC (by rw [kh' 143 23 (by omega)]; exact h23) q hU hU4 hsh fk (fun f1 g1 g2 e1 s1 s2 z1 st x1 x2 x3 x4 x5 => by
      refine En_mono (hmod g2 (fun a i hh => by rw [x1 a i (by omega), st.1 a i (by omega), e1 a i (by omega), fk a i (by omega)]) x3 x4 x5) (fun x m _ hx => ⟨hx.1, ?_⟩)
      exact apply_Inv hIk p ho hc hC hgr op hU hU4 ac e1 s1 s2 z1 st x1 x2 hx.2 hF)
    exact Both_mk e1 em hm
  rcases (by omega : np = 1 ∨ np = 2) with rfl | rfl
  · obtain ⟨σ, hσ⟩ : ∃ x, trT k s M 0 (n1, k 19, k 20, k 22, fun _ => -1, fun z => ti (k 67 1) z) = x := ⟨_, rfl⟩
    obtain ⟨w, hw⟩ : ∃ x, rsT k s M 0 (n1, k 19, k 20, k 22, fun _ => -1, fun z => ti (k 67 1) z) = x := ⟨_, rfl⟩
    have tot := total1 (s := s) p z3 (n1, k 19, k 20, k 22, fun _ => -1, fun z => ti (k 67 1) z)
    rw [hσ] at tot
    have tot : σ.n = n1 + (M + ctT k 1) := tot
    have hn : σ.n ≤ 40 := by omega
    obtain ⟨Pf, hPf⟩ : ∃ x, sbR (3 * s) (3 * (s + σ.n)) (k 57 0) w σ.P = x := ⟨_, rfl⟩
    obtain ⟨Ef, hEf⟩ : ∃ x, sbR 0 c (k 57 0) w (k 21) = x := ⟨_, rfl⟩
    obtain ⟨F, hF⟩ : ∃ x, lgA s σ.n o c (k 57 0) σ.P (k 21) [] = x := ⟨_, rfl⟩
    obtain ⟨D, hD⟩ := pickD (fun x => live k x = true ∧ ∃ j, j < c ∧ tb (solW (s : Int) ((s + σ.n : Nat) : Int) σ.K Pf ((x / 64 : Nat) : Int) noF (Ef j).toNat) (x % 64) ≠ tb (fOl k noF ((x / 64 : Nat) : Int) (k 21 j).toNat) (x % 64))
    obtain ⟨T, hT⟩ : ∃ x, frB (tsL D) (C - 0) 0 [] = x := ⟨_, rfl⟩
    obtain ⟨r, f, E1, rfl, ac⟩ := E0 (applyC1 p hP hs hn1 ho hc z3 hB gk hC hC2 lg0 h77 hσ hw hn hPf hEf hF (fun x _ => hD x) hT)
    have hlen : F.length ≤ 126 := by
      have := lg_one (s := s) (n := σ.n) (o := o) (c := c) (p0 := k 57 0) (P := σ.P) (E := k 21)
      rw [hF] at this; omega
    obtain ⟨a3, a19, a20, a21, a22⟩ := ac.2.2.1
    have q0 : ∀ i, i ≤ 2 → f 18 i = k 18 i := fun i hi => by rw [ac.1 18 i (by omega), gk 18 i (by omega)]
    have esc : sc 18 f = (s : Int) := by rw [← hs]; unfold sc; rw [q0 0 (by omega), q0 1 (by omega)]
    have ewn : wn 18 f = ((s + σ.n : Nat) : Int) := by unfold wn; unfold sc at hs; rw [q0 0 (by omega), q0 1 (by omega), a3]; omega
    refine fin E1 ac hlen (by omega) (fun g2 e2 x3 x4 x5 => ?_)
    refine applyM1 p hIk hs hn1 ho hc z3 hC e2 x3 x4 x5 hσ hw hn hPf hEf hF ac.2.1.1 q0 a3 a19 a20 a21 (D := D) (fun x _ => ?_) hT _
    rw [hD x]
    exact and_congr Iff.rfl (exists_congr (fun j => and_congr Iff.rfl (se_ne (n := 0) esc ewn a19 a20 a21)))
  · obtain ⟨σ1, hσ1⟩ : ∃ x, trT k s M 0 (n1, k 19, k 20, k 22, fun _ => -1, fun z => ti (k 67 1) z) = x := ⟨_, rfl⟩
    obtain ⟨w0, hw0⟩ : ∃ x, rsT k s M 0 (n1, k 19, k 20, k 22, fun _ => -1, fun z => ti (k 67 1) z) = x := ⟨_, rfl⟩
    obtain ⟨σ, hσ⟩ : ∃ x, trT k s M 1 σ1 = x := ⟨_, rfl⟩
    obtain ⟨w1, hw1⟩ : ∃ x, rsT k s M 1 σ1 = x := ⟨_, rfl⟩
    have tot := total2 (s := s) p z3 (n1, k 19, k 20, k 22, fun _ => -1, fun z => ti (k 67 1) z)
    rw [hσ1, hσ] at tot
    have tot : σ.n = n1 + (M + ctT k 2) := tot
    have hn : σ.n ≤ 40 := by omega
    obtain ⟨Pm, hPm⟩ : ∃ x, sbR (3 * s) (3 * (s + σ.n)) (k 57 0) w0 σ.P = x := ⟨_, rfl⟩
    obtain ⟨Pf, hPf⟩ : ∃ x, sbR (3 * s) (3 * (s + σ.n)) (k 57 1) w1 Pm = x := ⟨_, rfl⟩
    obtain ⟨Em, hEm⟩ : ∃ x, sbR 0 c (k 57 0) w0 (k 21) = x := ⟨_, rfl⟩
    obtain ⟨Ef, hEf⟩ : ∃ x, sbR 0 c (k 57 1) w1 Em = x := ⟨_, rfl⟩
    obtain ⟨Fm, hFm⟩ : ∃ x, lgA s σ.n o c (k 57 0) σ.P (k 21) [] = x := ⟨_, rfl⟩
    obtain ⟨F, hF⟩ : ∃ x, lgA s σ.n o c (k 57 1) Pm Em Fm = x := ⟨_, rfl⟩
    obtain ⟨D, hD⟩ := pickD (fun x => live k x = true ∧ ∃ j, j < c ∧ tb (solW (s : Int) ((s + σ.n : Nat) : Int) σ.K Pf ((x / 64 : Nat) : Int) noF (Ef j).toNat) (x % 64) ≠ tb (fOl k noF ((x / 64 : Nat) : Int) (k 21 j).toNat) (x % 64))
    obtain ⟨T, hT⟩ : ∃ x, frB (tsL D) (C - 0) 0 [] = x := ⟨_, rfl⟩
    have z32 : k 56 3 = 2 := z3
    obtain ⟨r, f, E1, rfl, ac⟩ := E0 (applyC2 p hP hs hn1 ho hc z32 hB gk hC hC2 lg0 h77 hσ1 hw0 hσ hw1 hn hPm hPf hEm hEf hFm hF (fun x _ => hD x) hT)
    have hW : wn 18 k = ((s + n1 : Nat) : Int) := by unfold wn; unfold sc at hs; omega
    have hpl : ∀ w : Nat, w < 48 → 0 ≤ k 22 w ∧ k 22 w < 1024 := hP.2.2.2.2
    have ptk := p.2.2.1
    have hlen : F.length ≤ 126 := by
      obtain ⟨gd1, nw0, _⟩ := GdT_tr (k := 0) p hpl (by omega) (GdT_start (h := k) (s := s) (n0 := n1) (M := M) (fun z => ti (k 67 1) z))
      rw [hσ1] at nw0
      rw [hw0] at nw0
      have w0ne : w0 ≠ k 57 1 := NwT_pt p hs hW hB nw0 (by omega)
      have q01 := ptk.2.2.2.2.2.1 z32
      have := lg_total (s := s) (n := σ.n) (o := o) (c := c) (p0 := k 57 0) (p1 := k 57 1) (r0 := w0) (P := σ.P) (E := k 21) w0ne (by omega)
      rw [hPm, hEm, hFm, hF] at this; omega
    obtain ⟨a3, a19, a20, a21, a22⟩ := ac.2.2.1
    have q0 : ∀ i, i ≤ 2 → f 18 i = k 18 i := fun i hi => by rw [ac.1 18 i (by omega), gk 18 i (by omega)]
    have esc : sc 18 f = (s : Int) := by rw [← hs]; unfold sc; rw [q0 0 (by omega), q0 1 (by omega)]
    have ewn : wn 18 f = ((s + σ.n : Nat) : Int) := by unfold wn; unfold sc at hs; rw [q0 0 (by omega), q0 1 (by omega), a3]; omega
    refine fin E1 ac hlen (by omega) (fun g2 e2 x3 x4 x5 => ?_)
    refine applyM2 p hIk hs hn1 ho hc z32 hB hC e2 x3 x4 x5 hσ1 hw0 hσ hw1 hn hPm hPf hEm hEf hFm hF ac.2.1.1 q0 a3 a19 a20 a21 (D := D) (fun x _ => ?_) hT _
    rw [hD x]
    exact and_congr Iff.rfl (exists_congr (fun j => and_congr Iff.rfl (se_ne (n := 0) esc ewn a19 a20 a21)))
