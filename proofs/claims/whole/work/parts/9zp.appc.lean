/-- OLD and the journal as the class leaves them -/
def ApC (g : Hp) (N C : Nat) (σ : TrS) (Pf Ef : Nat → Int) (F : List (Int × Int × Int)) (T : List Int) (f : Hp) : Prop :=
  (∀ a i, ¬ ((a = 17 ∧ i = 6) ∨ (a = 18 ∧ i = 3) ∨ (19 ≤ a ∧ a ≤ 25) ∨ a = 66 ∨ (a = 67 ∧ i = 1) ∨ a = 75 ∨ a = 76 ∨ (a = 72 ∧ (i = 4 ∨ i = 6)) ∨ (a = 56 ∧ i = 0)) → f a i = g a i) ∧ NetOK 40 17 f ∧ (f 18 3 = (σ.n : Int) ∧ f 19 = σ.K ∧ f 20 = Pf ∧ f 21 = Ef ∧ f 22 = σ.L) ∧ ((0 ≤ f 67 1 ∧ f 67 1 < ((2 ^ N : Nat) : Int)) ∧ ∀ z, z < N → ti (f 67 1) z = σ.U z) ∧ f 56 0 = 0 ∧ LgC F f ∧ f 72 6 = ((T.length : Nat) : Int) ∧ T.length ≤ C ∧ ∀ i e, T[i]? = some e → f 76 i = e
theorem applyC1 {h g : Hp} {N M s n0 o c C : Nat} {B : Nat → Nat → Bool} {r1 : Int} (p : PlB h N M) (hP : Pl 40 18 h) (hs : sc 18 h = (s : Int)) (hn0 : h 18 3 = (n0 : Int)) (ho : h 18 2 = (o : Int)) (hc : h 18 2 + h 18 1 = (c : Int)) (hnp : h 56 3 = 1) (hB : Hang (sc 18 h) (wn 18 h) (h 19) (h 20) B) (e : ∀ a i, ((18 ≤ a ∧ a ≤ 22) ∨ (37 ≤ a ∧ a ≤ 39) ∨ (56 ≤ a ∧ a ≤ 65) ∨ a = 67 ∨ a = 69) → g a i = h a i) (hC : h 37 0 = (C : Int)) (hC2 : C ≤ 256) (lg : LgC [] g) (h77 : ∀ k part : Nat, k < c → part < 4 → g 77 (4 * k + part) = fOl h noF part (h 21 k).toNat)
    {σ : TrS} (hσ : trT h s M 0 (n0, h 19, h 20, h 22, fun _ => -1, fun z => ti (h 67 1) z) = σ) {w : Int} (hw : rsT h s M 0 (n0, h 19, h 20, h 22, fun _ => -1, fun z => ti (h 67 1) z) = w) (hn : σ.n ≤ 40) {Pf Ef : Nat → Int} (hPf : sbR (3 * s) (3 * (s + σ.n)) (h 57 0) w σ.P = Pf) (hEf : sbR 0 c (h 57 0) w (h 21) = Ef) {F : List (Int × Int × Int)} (hF : lgA s σ.n o c (h 57 0) σ.P (h 21) [] = F)
    {D : Nat → Bool} (hD : ∀ x, x < C → (D x = true ↔ live h x = true ∧ ∃ k, k < c ∧ tb (solW (s : Int) ((s + σ.n : Nat) : Int) σ.K Pf ((x / 64 : Nat) : Int) noF (Ef k).toNat) (x % 64) ≠ tb (fOl h noF ((x / 64 : Nat) : Int) (h 21 k).toNat) (x % 64))) {T : List Int} (hT : frB (tsL D) (C - 0) 0 [] = T) : En (XX11_apply_L67 r1 0 g) (fun r f => r = r1 ∧ ApC g N C σ Pf Ef F T f) := by
  have hN0 := hP.1
  have lt := Pl_lt (by decide) hN0
  have hW : wn 18 h = ((s + n0 : Nat) : Int) := by unfold wn; unfold sc at hs; omega
  have hpl : ∀ w : Nat, w < 48 → 0 ≤ h 22 w ∧ h 22 w < 1024 := hP.2.2.2.2
  have gd0 : GdT h s n0 M (h 20) (n0, h 19, h 20, h 22, fun _ => -1, fun z => ti (h 67 1) z) := GdT_start _
  have bq : KpT s n0 (h 19) (h 20) := fun v h1 h2 => by
    obtain ⟨a, b⟩ := hP.2.1 v (by omega) (by omega)
    exact ⟨a, fun k hk t => (b k hk).2 t⟩
  have pt := p.2.2.1
  obtain ⟨gd1, nw1, _⟩ := GdT_tr (k := 0) p hpl (by omega) gd0
  rw [hσ] at gd1 nw1
  rw [hw] at nw1
  have o6 : c ≤ 6 := by unfold Nums at hN0; omega
  have hl : F.length ≤ 126 := by
    have := lg_one (s := s) (n := σ.n) (o := o) (c := c) (p0 := h 57 0) (P := σ.P) (E := h 21)
    rw [hF] at this; omega
  unfold XX11_apply_L67
  refine En_lup2 (fun _ l _ => (5 - l).toNat) (fun l1 l x => r1 = l1 ∧ ((l = 0 ∧ g = x) ∨ (l = 1 ∧ (∀ a i, ¬ ((a = 18 ∧ i = 3) ∨ (19 ≤ a ∧ a ≤ 22) ∨ a = 66 ∨ (a = 67 ∧ i = 1) ∨ a = 75 ∨ (a = 72 ∧ i = 4)) → x a i = g a i) ∧ CT h x N M (σ.n, σ.K, Pf, σ.L, σ.W, σ.U) x ∧ x 21 = Ef ∧ LgC F x))) ?_ FU _ _ _ (by unfold FU; omega) ⟨rfl, Or.inl ⟨rfl, rfl⟩⟩
  rintro self l1 l x ih ⟨rfl, hx⟩
  unfold XX11_apply_b67
  rcases hx with ⟨rfl, rfl⟩ | ⟨rfl, kx, cx, x21, lgx⟩
  · rw [e 56 3 (by omega), hnp, if_neg (by decide)]
    refine stageC (k := 0) (self := self) (r1 := r1) (F := F) (E := h 21) (A := []) p hs hN0 ho hc (by omega) (fun a i hh => e a i (by omega)) (CT_start p (fun a i hh => e a i (by omega)) hn0) hpl gd0 hW bq (by rw [hσ]; exact hn) (funext (fun i => e 21 i (by omega))) lg (by rw [hσ]; exact hF) hl (fun f kf cf f21 lgf => ?_)
    rw [hσ, hw] at cf
    rw [hw] at f21
    rw [hPf] at cf
    rw [hEf] at f21
    exact ih _ _ _ (by decide) ⟨rfl, Or.inr ⟨rfl, kf, cf, f21, lgf⟩⟩
  · rw [kx 56 3 (by omega), e 56 3 (by omega), hnp, if_pos (by decide)]
    obtain ⟨_, c3, c19, c20, c22, _, c67⟩ := cx
    have c3 : x 18 3 = (σ.n : Int) := c3
    have c19 : x 19 = σ.K := c19
    have c20 : x 20 = Pf := c20
    have c22 : x 22 = σ.L := c22
    have x0 : ∀ i, i ≤ 2 → x 18 i = h 18 i := fun i hi => by rw [kx 18 i (by omega), e 18 i (by omega)]
    have sx : sc 18 x = (s : Int) := by rw [← hs]; unfold sc; rw [x0 0 (by omega), x0 1 (by omega)]
    have wx : wn 18 x = ((s + σ.n : Nat) : Int) := by unfold wn; unfold sc at hs; rw [x0 0 (by omega), x0 1 (by omega), c3]; omega
    have ptiff : ∀ z, PtT h z ↔ z = h 57 0 := fun z => by
      unfold PtT
      constructor
      · rintro ⟨k, k1, k2⟩
        have : k = 0 := by omega
        subst this; exact k2
      · intro t; exact ⟨0, by omega, t⟩
    have hPx : Pl 40 18 x := patched_Pl (B := B) (σ := σ) hP hs hn0 p gd1 hn hB x0 c3 (fun v _ => by rw [c19]) (fun v _ => by rw [c22]) (fun j h1 h2 => by
      rw [c20, ← hPf, ptiff]
      unfold sbR
      by_cases t : σ.P j = h 57 0
      · rw [if_pos ⟨h1, h2, t⟩]; exact Or.inr ⟨t, nw1⟩
      · rw [if_neg (fun u => t u.2.2)]; exact Or.inl ⟨rfl, t⟩) (fun k hk => by
      rw [x21, ← hEf]
      unfold sbR
      by_cases t : h 21 k = h 57 0
      · rw [if_pos ⟨Nat.zero_le _, by omega, t⟩]; exact Or.inr nw1
      · rw [if_neg (fun u => t u.2.2)]; exact Or.inl rfl)
    refine En_mono (endC (h := h) (C := C) (cnt := c) (D := D) (T := T) hPx (by rw [kx 37 0 (by omega), e 37 0 (by omega)]; exact hC) hC2 (by rw [x0 2 (by omega), x0 1 (by omega)]; exact hc) (fun k part h1 h2 => by rw [kx 77 _ (by omega)]; exact h77 k part h1 h2) (fun v => by unfold live; rw [kx 39 _ (by omega), e 39 _ (by omega)]) (fun v hv => by
      rw [hD v hv]
      have : ∀ part : Int, fOl x noF part = solW (s : Int) ((s + σ.n : Nat) : Int) σ.K Pf part noF := fun part => by unfold fOl; rw [sx, wx, c19, c20]
      rw [this, x21]) hT) (fun r f _ hf => ?_)
    obtain ⟨f1, f2, f3, f4, f5, f6, f7⟩ := hf
    exact ⟨f1, fun a i hh => by rw [f2 a i (by omega)]; exact kx a i (by omega), f3, ⟨by rw [f2 18 3 (by omega)]; exact c3, by rw [← c19]; exact funext (fun i => f2 19 i (by omega)), by rw [← c20]; exact funext (fun i => f2 20 i (by omega)), by rw [← x21]; exact funext (fun i => f2 21 i (by omega)), by rw [← c22]; exact funext (fun i => f2 22 i (by omega))⟩, by rw [f2 67 1 (by omega)]; exact c67, f4, LgC_tr (fun a i hh => f2 a i (by omega)) lgx, f5, f6, f7⟩
