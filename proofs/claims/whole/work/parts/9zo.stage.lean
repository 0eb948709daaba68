theorem KpT_of {h : Hp} {s n0 M : Nat} {Q : Nat → Int} {σ : TrS} (g : GdT h s n0 M Q σ) (b : KpT s n0 (h 19) Q) : KpT s σ.n σ.K σ.P := by
  obtain ⟨g1, g2, g3, g4, _⟩ := g
  intro w h1 h2
  by_cases q : w < s + n0
  · obtain ⟨a, c⟩ := b w h1 q
    rw [(g2 w q).1]
    refine ⟨a, fun k hk t => ?_⟩
    rw [g3 _ (by omega)]; exact c k hk t
  · obtain ⟨a, _, c⟩ := g4 w (by omega) h2
    exact ⟨a, fun k hk t => (c k hk).2 t⟩
/-- one point is patched, by the class -/
theorem stageC {h B g : Hp} {N M s n0 o c k : Nat} {σ : TrS} {Q E : Nat → Int} {A F : List (Int × Int × Int)} {P : Int → Hp → Prop} {self : Int → Int → Hp → OR} {r1 : Int} (p : PlB h N M) (hs : sc 18 h = (s : Int)) (hN0 : Nums 40 18 h) (ho : h 18 2 = (o : Int)) (hc : h 18 2 + h 18 1 = (c : Int)) (hk : (k : Int) < h 56 3) (e : EqT h B) (ct : CT h B N M σ g) (hpl : ∀ w : Nat, w < 48 → 0 ≤ h 22 w ∧ h 22 w < 1024) (gd : GdT h s n0 M Q σ) (hW : wn 18 h = ((s + n0 : Nat) : Int)) (bq : KpT s n0 (h 19) Q) (hn : (trT h s M k σ).n ≤ 40) (e21 : g 21 = E) (lg : LgC A g) (hF : lgA s (trT h s M k σ).n o c (h 57 k) (trT h s M k σ).P E A = F) (hl : F.length ≤ 126)
    (hend : ∀ f, (∀ a i, ¬ ((a = 18 ∧ i = 3) ∨ (19 ≤ a ∧ a ≤ 22) ∨ a = 66 ∨ (a = 67 ∧ i = 1) ∨ a = 75 ∨ (a = 72 ∧ i = 4)) → f a i = g a i) → CT h f N M ((trT h s M k σ).n, (trT h s M k σ).K, sbR (3 * s) (3 * (s + (trT h s M k σ).n)) (h 57 k) (rsT h s M k σ) (trT h s M k σ).P, (trT h s M k σ).L, (trT h s M k σ).W, (trT h s M k σ).U) f → f 21 = sbR 0 c (h 57 k) (rsT h s M k σ) E → LgC F f → En (self r1 ((k : Int) + 1) f) P) : En (cal (XX7_addTree k 18 g) (fun r15 h16 => inb (k : Int) 2 (cal (XX3_replace 18 (h16 57 (k : Int).toNat) r15 h16) (fun r17 h18 => chk ((k : Int) + 1) (self r1 ((k : Int) + 1) h18))))) P := by
  have pt := p.2.2.1
  have hpt := pt.2.2.2.2.1 k hk
  have lt := Pl_lt (by decide) hN0
  have np := pt.2.1.2
  have hL : σ.L (h 57 k).toNat = h 22 (h 57 k).toNat := (gd.2.1 (h 57 k).toNat (by omega)).2
  obtain ⟨gd1, _, _⟩ := GdT_tr p hpl hk gd
  refine En_cal (addTree_ok p hs hN0 hk e ct hL hn) (fun r g1 _ hr => ?_)
  obtain ⟨rfl, c1⟩ := hr
  have z : ∀ i, i ≤ 2 → g1 18 i = h 18 i := fun i hi => by rw [c1.1 18 i (by omega), e 18 i (by omega)]
  have n1 : g1 18 3 = ((trT h s M k σ).n : Int) := c1.2.1
  have hN1 : Nums 40 18 g1 := by
    unfold Nums at *
    rw [z 0 (by omega), z 1 (by omega), z 2 (by omega), n1]; omega
  have s1 : sc 18 g1 = (s : Int) := by rw [← hs]; unfold sc; rw [z 0 (by omega), z 1 (by omega)]
  have e57 : g1 57 k = h 57 k := by rw [c1.1 57 k (by omega), e 57 k (by omega)]
  have gB : ∀ a i, ¬ ((a = 18 ∧ i = 3) ∨ (19 ≤ a ∧ a ≤ 20) ∨ a = 22 ∨ a = 66 ∨ (a = 67 ∧ i = 1)) → g1 a i = g a i := fun a i hh => by rw [c1.1 a i hh, ct.1 a i hh]
  rw [inb_pos (by omega), Int.toNat_natCast, e57]
  refine En_cal (replace_ok (B := g1) (s := s) (n := (trT h s M k σ).n) (o := o) (c := c) (P := (trT h s M k σ).P) (E := E) (LG := A) (F := F) hN1 s1 n1 (by rw [z 2 (by omega)]; exact ho) (by rw [z 2 (by omega), z 1 (by omega)]; exact hc) (by rw [c1.2.2.1]; exact KpT_of gd1 bq) (by omega) hF hl (fun _ _ _ => rfl) c1.2.2.2.1 (by rw [← e21]; exact funext (fun i => gB 21 i (by omega))) (LgC_tr (fun a i hh => gB a i (by omega)) lg)) (fun r17 f _ h17 => ?_)
  obtain ⟨k2, f20, f21, lgf⟩ := h17
  rw [chk_pos (by omega)]
  obtain ⟨a1, a2, a3, a4, a5, a6, a7⟩ := c1
  refine hend f (fun a i hh => by rw [k2 a i (by omega)]; exact gB a i (by omega)) ⟨fun _ _ _ => rfl, by rw [k2 18 3 (by omega)]; exact a2, by rw [← show g1 19 = f 19 from funext (fun i => (k2 19 i (by omega)).symm)]; exact a3, f20, by rw [← show g1 22 = f 22 from funext (fun i => (k2 22 i (by omega)).symm)]; exact a5, fun i hi hh => by rw [k2 66 i (by omega)]; exact a6 i hi hh, by rw [k2 67 1 (by omega)]; exact a7⟩ f21 lgf
