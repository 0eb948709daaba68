theorem applyC2 {h g : Hp} {N M s n0 o c C : Nat} {B : Nat → Nat → Bool} {r1 : Int} (p : PlB h N M) (hP : Pl 40 18 h) (hs : sc 18 h = (s : Int)) (hn0 : h 18 3 = (n0 : Int)) (ho : h 18 2 = (o : Int)) (hc : h 18 2 + h 18 1 = (c : Int)) (hnp : h 56 3 = 2) (hB : Hang (sc 18 h) (wn 18 h) (h 19) (h 20) B) (e : ∀ a i, ((18 ≤ a ∧ a ≤ 22) ∨ (37 ≤ a ∧ a ≤ 39) ∨ (56 ≤ a ∧ a ≤ 65) ∨ a = 67 ∨ a = 69) → g a i = h a i) (hC : h 37 0 = (C : Int)) (hC2 : C ≤ 256) (lg : LgC [] g) (h77 : ∀ k part : Nat, k < c → part < 4 → g 77 (4 * k + part) = fOl h noF part (h 21 k).toNat)
    {σ1 σ : TrS} (hσ1 : trT h s M 0 (n0, h 19, h 20, h 22, fun _ => -1, fun z => ti (h 67 1) z) = σ1) {w0 : Int} (hw0 : rsT h s M 0 (n0, h 19, h 20, h 22, fun _ => -1, fun z => ti (h 67 1) z) = w0) (hσ : trT h s M 1 σ1 = σ) {w1 : Int} (hw1 : rsT h s M 1 σ1 = w1) (hn : σ.n ≤ 40) {Pm Pf Em Ef : Nat → Int} (hPm : sbR (3 * s) (3 * (s + σ.n)) (h 57 0) w0 σ.P = Pm) (hPf : sbR (3 * s) (3 * (s + σ.n)) (h 57 1) w1 Pm = Pf) (hEm : sbR 0 c (h 57 0) w0 (h 21) = Em) (hEf : sbR 0 c (h 57 1) w1 Em = Ef) {Fm F : List (Int × Int × Int)} (hFm : lgA s σ.n o c (h 57 0) σ.P (h 21) [] = Fm) (hF : lgA s σ.n o c (h 57 1) Pm Em Fm = F)
    {D : Nat → Bool} (hD : ∀ x, x < C → (D x = true ↔ live h x = true ∧ ∃ k, k < c ∧ tb (solW (s : Int) ((s + σ.n : Nat) : Int) σ.K Pf ((x / 64 : Nat) : Int) noF (Ef k).toNat) (x % 64) ≠ tb (fOl h noF ((x / 64 : Nat) : Int) (h 21 k).toNat) (x % 64))) {T : List Int} (hT : frB (tsL D) (C - 0) 0 [] = T) : En (XX11_apply_L67 r1 0 g) (fun r f => r = r1 ∧ ApC g N C σ Pf Ef F T f) := by
  have hN0 := hP.1
  have lt := Pl_lt (by decide) hN0
  have hW : wn 18 h = ((s + n0 : Nat) : Int) := by unfold wn; unfold sc at hs; omega
  have hpl : ∀ w : Nat, w < 48 → 0 ≤ h 22 w ∧ h 22 w < 1024 := hP.2.2.2.2
  have gd0 : GdT h s n0 M (h 20) (n0, h 19, h 20, h 22, fun _ => -1, fun z => ti (h 67 1) z) := GdT_start _
  have bq : KpT s n0 (h 19) (h 20) := fun v h1 h2 => by
    obtain ⟨a, b⟩ := hP.2.1 v (by omega) (by omega)
    exact ⟨a, fun k hk t => (b k hk).2 t⟩
  have pt := p.2.2.1
  have q50 := pt.2.2.2.2.1 0 (by omega)
  have q51 := pt.2.2.2.2.1 1 (by omega)
  have q01 := pt.2.2.2.2.2.1 hnp
  have s0 := p.2.2.2.2.2.2.2.2.2
  obtain ⟨gd1, nw0, _⟩ := GdT_tr (k := 0) p hpl (by omega) gd0
  rw [hσ1] at gd1 nw0
  rw [hw0] at nw0
  obtain ⟨gd2, nw1, hmono⟩ := GdT_tr (k := 1) p hpl (by omega) gd1
  rw [hσ] at gd2 nw1 hmono
  rw [hw1] at nw1
  have nw0' := NwT_up hmono nw0
  have o6 : c ≤ 6 := by unfold Nums at hN0; omega
  have w0ne : w0 ≠ h 57 1 := NwT_pt p hs hW hB nw0 (by omega)
  have hno : ∀ j, 3 * (s + σ1.n) ≤ j → j < 3 * (s + σ.n) → σ.P j ≠ h 57 0 := by
    intro j h1 h2
    have g1 := gd1.1
    obtain ⟨_, _, c3⟩ := gd2.2.2.2.1 (j / 3) (by omega) (by omega)
    obtain ⟨d1, d2⟩ := c3 (j % 3) (by omega)
    rw [show 3 * (j / 3) + j % 3 = j by omega] at d1 d2
    by_cases z : ((j % 3 : Nat) : Int) < pinC (σ.K (j / 3)).toNat
    · exact NwT_pt p hs hW hB (d1 z) (by omega)
    · rw [d2 (by omega)]; omega
  have hhi : ∀ j, 3 * (s + σ.n) ≤ j → σ.P j = σ1.P j := fun j hj => by rw [gd2.2.2.2.2.2.1 j hj, gd1.2.2.2.2.2.1 j (by omega)]
  obtain ⟨rl, ers, eP⟩ := comm_P (h := h) (s := s) (M := M) (pt := h 57 0) (r := w0) (σ := σ1) (τ := (σ1.n, σ1.K, sbR (3 * s) (3 * (s + σ1.n)) (h 57 0) w0 σ1.P, σ1.L, σ1.W, σ1.U)) rfl (by rw [hσ]; exact hno) (by rw [hσ]; exact hhi) (by rw [hσ]; exact hmono)
  rw [hσ] at rl eP
  rw [hw1] at ers
  rw [hPm] at eP
  have lgm : lgA s σ1.n o c (h 57 0) σ1.P (h 21) [] = Fm := by
    rw [← hFm]
    exact (comm_lg hmono (fun j hj => by rw [← hσ]; exact trT_old j hj) hno).symm
  have hl : F.length ≤ 126 := by
    have := lg_total (s := s) (n := σ.n) (o := o) (c := c) (p0 := h 57 0) (p1 := h 57 1) (r0 := w0) (P := σ.P) (E := h 21) w0ne (by omega)
    rw [hPm, hEm, hFm, hF] at this; omega
  have hlm : Fm.length ≤ 126 := by
    have := lg_one (s := s) (n := σ.n) (o := o) (c := c) (p0 := h 57 0) (P := σ.P) (E := h 21)
    rw [hFm] at this; omega
  generalize hτ : ((σ1.n, σ1.K, sbR (3 * s) (3 * (s + σ1.n)) (h 57 0) w0 σ1.P, σ1.L, σ1.W, σ1.U) : TrS) = τ at *
  have gdτ : GdT h s n0 M (sbR (3 * s) (3 * (s + n0)) (h 57 0) w0 (h 20)) τ := by rw [← hτ]; exact GdT_sb p hs hW hB (by omega) gd1
  unfold XX11_apply_L67
  refine En_lup2 (fun _ l _ => (5 - l).toNat) (fun l1 l x => r1 = l1 ∧ ((l = 0 ∧ g = x) ∨ (l = 1 ∧ (∀ a i, ¬ ((a = 18 ∧ i = 3) ∨ (19 ≤ a ∧ a ≤ 22) ∨ a = 66 ∨ (a = 67 ∧ i = 1) ∨ a = 75 ∨ (a = 72 ∧ i = 4)) → x a i = g a i) ∧ CT h x N M τ x ∧ x 21 = Em ∧ LgC Fm x) ∨ (l = 2 ∧ (∀ a i, ¬ ((a = 18 ∧ i = 3) ∨ (19 ≤ a ∧ a ≤ 22) ∨ a = 66 ∨ (a = 67 ∧ i = 1) ∨ a = 75 ∨ (a = 72 ∧ i = 4)) → x a i = g a i) ∧ CT h x N M (σ.n, σ.K, Pf, σ.L, σ.W, σ.U) x ∧ x 21 = Ef ∧ LgC F x))) ?_ FU _ _ _ (by unfold FU; omega) ⟨rfl, Or.inl ⟨rfl, rfl⟩⟩
  rintro self l1 l x ih ⟨rfl, hx⟩
  unfold XX11_apply_b67
  rcases hx with ⟨rfl, rfl⟩ | ⟨rfl, kx, cx, x21, lgx⟩ | ⟨rfl, kx, cx, x21, lgx⟩
  · rw [e 56 3 (by omega), hnp, if_neg (by decide)]
    refine stageC (k := 0) (self := self) (r1 := r1) (F := Fm) (E := h 21) (A := []) p hs hN0 ho hc (by omega) (fun a i hh => e a i (by omega)) (CT_start p (fun a i hh => e a i (by omega)) hn0) hpl gd0 hW bq (by rw [hσ1]; omega) (funext (fun i => e 21 i (by omega))) lg (by rw [hσ1]; exact lgm) hlm (fun f kf cf f21 lgf => ?_)
    rw [hσ1, hw0, hτ] at cf
    rw [hw0, hEm] at f21
    exact ih _ _ _ (by decide) ⟨rfl, Or.inr (Or.inl ⟨rfl, kf, cf, f21, lgf⟩)⟩
  · rw [kx 56 3 (by omega), e 56 3 (by omega), hnp, if_neg (by decide)]
    refine stageC (k := 1) (self := self) (r1 := r1) (F := F) (E := Em) (A := Fm) p hs hN0 ho hc (by omega) (fun a i hh => by rw [kx a i (by omega)]; exact e a i (by omega)) cx hpl gdτ hW (KpT_sb (by omega) bq) (by rw [rl.1]; exact hn) x21 lgx (by rw [eP, rl.1]; exact hF) hl (fun f kf cf f21 lgf => ?_)
    rw [eP, ers, rl.1, rl.2.1, rl.2.2.1, rl.2.2.2.1, rl.2.2.2.2.1, hPf] at cf
    rw [ers, hEf] at f21
    exact ih _ _ _ (by decide) ⟨rfl, Or.inr (Or.inr ⟨rfl, fun a i hh => by rw [kf a i hh]; exact kx a i hh, cf, f21, lgf⟩)⟩
  · rw [kx 56 3 (by omega), e 56 3 (by omega), hnp, if_pos (by decide)]
    obtain ⟨_, c3, c19, c20, c22, _, c67⟩ := cx
    have c3 : x 18 3 = (σ.n : Int) := c3
    have c19 : x 19 = σ.K := c19
    have c20 : x 20 = Pf := c20
    have c22 : x 22 = σ.L := c22
    have x0 : ∀ i, i ≤ 2 → x 18 i = h 18 i := fun i hi => by rw [kx 18 i (by omega), e 18 i (by omega)]
    have sx : sc 18 x = (s : Int) := by rw [← hs]; unfold sc; rw [x0 0 (by omega), x0 1 (by omega)]
    have wx : wn 18 x = ((s + σ.n : Nat) : Int) := by unfold wn; unfold sc at hs; rw [x0 0 (by omega), x0 1 (by omega), c3]; omega
    have ptiff : ∀ z, PtT h z ↔ (z = h 57 0 ∨ z = h 57 1) := fun z => by
      unfold PtT
      constructor
      · rintro ⟨k, k1, k2⟩
        rcases (by omega : k = 0 ∨ k = 1) with rfl | rfl
        · exact Or.inl k2
        · exact Or.inr k2
      · rintro (t | t)
        · exact ⟨0, by omega, t⟩
        · exact ⟨1, by omega, t⟩
    have two : ∀ (lo hi j : Nat) (Q : Nat → Int), lo ≤ j → j < hi → (sbR lo hi (h 57 1) w1 (sbR lo hi (h 57 0) w0 Q) j = Q j ∧ ¬ PtT h (Q j)) ∨ (PtT h (Q j) ∧ NwT h s n0 σ.n (sbR lo hi (h 57 1) w1 (sbR lo hi (h 57 0) w0 Q) j)) := by
      intro lo hi j Q h1 h2
      have e1 : sbR lo hi (h 57 0) w0 Q j = if Q j = h 57 0 then w0 else Q j := by
        unfold sbR
        by_cases t : Q j = h 57 0
        · rw [if_pos ⟨h1, h2, t⟩, if_pos t]
        · rw [if_neg (fun u => t u.2.2), if_neg t]
      have e2 : sbR lo hi (h 57 1) w1 (sbR lo hi (h 57 0) w0 Q) j = if sbR lo hi (h 57 0) w0 Q j = h 57 1 then w1 else sbR lo hi (h 57 0) w0 Q j := by
        generalize sbR lo hi (h 57 0) w0 Q = R
        unfold sbR
        by_cases t : R j = h 57 1
        · rw [if_pos ⟨h1, h2, t⟩, if_pos t]
        · rw [if_neg (fun u => t u.2.2), if_neg t]
      rw [e2, e1, ptiff]
      by_cases t0 : Q j = h 57 0
      · rw [if_pos t0, if_neg w0ne]; exact Or.inr ⟨Or.inl t0, nw0'⟩
      · rw [if_neg t0]
        by_cases t1 : Q j = h 57 1
        · rw [if_pos t1]; exact Or.inr ⟨Or.inr t1, nw1⟩
        · rw [if_neg t1]; exact Or.inl ⟨rfl, fun u => u.elim t0 t1⟩
    have hPx : Pl 40 18 x := patched_Pl (B := B) (σ := σ) hP hs hn0 p gd2 hn hB x0 c3 (fun v _ => by rw [c19]) (fun v _ => by rw [c22]) (fun j h1 h2 => by
      rw [c20, ← hPf, ← hPm]; exact two _ _ j _ h1 h2) (fun k hk => by
      rw [x21, ← hEf, ← hEm]
      rcases two 0 c k (h 21) (Nat.zero_le _) (by omega) with t | t
      · exact Or.inl t.1
      · exact Or.inr t.2)
    refine En_mono (endC (h := h) (C := C) (cnt := c) (D := D) (T := T) hPx (by rw [kx 37 0 (by omega), e 37 0 (by omega)]; exact hC) hC2 (by rw [x0 2 (by omega), x0 1 (by omega)]; exact hc) (fun k part h1 h2 => by rw [kx 77 _ (by omega)]; exact h77 k part h1 h2) (fun v => by unfold live; rw [kx 39 _ (by omega), e 39 _ (by omega)]) (fun v hv => by
      rw [hD v hv]
      have : ∀ part : Int, fOl x noF part = solW (s : Int) ((s + σ.n : Nat) : Int) σ.K Pf part noF := fun part => by unfold fOl; rw [sx, wx, c19, c20]
      rw [this, x21]) hT) (fun r f _ hf => ?_)
    obtain ⟨f1, f2, f3, f4, f5, f6, f7⟩ := hf
    exact ⟨f1, fun a i hh => by rw [f2 a i (by omega)]; exact kx a i (by omega), f3, ⟨by rw [f2 18 3 (by omega)]; exact c3, by rw [← c19]; exact funext (fun i => f2 19 i (by omega)), by rw [← c20]; exact funext (fun i => f2 20 i (by omega)), by rw [← x21]; exact funext (fun i => f2 21 i (by omega)), by rw [← c22]; exact funext (fun i => f2 22 i (by omega))⟩, by rw [f2 67 1 (by omega)]; exact c67, f4, LgC_tr (fun a i hh => f2 a i (by omega)) lgx, f5, f6, f7⟩
