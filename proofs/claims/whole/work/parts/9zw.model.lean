/-- OLD and the journal as the model leaves them; g is ahead of the first tree -/
def ApM (g : Hp) (N o c : Nat) (σ : TrS) (Pf Ef : Nat → Int) (F : List (Int × Int × Int)) (T : List Int) (m : Hp) : Prop :=
  (∀ a i, ¬ ((a = 143 ∧ (i = 23 ∨ i = 37 ∨ i = 38 ∨ i = 63)) ∨ (a = 144 ∧ i = 0) ∨ (145 ≤ a ∧ a ≤ 148) ∨ (150 ≤ a ∧ a ≤ 151) ∨ a = 155 ∨ (167 ≤ a ∧ a ≤ 170) ∨ (186 ≤ a ∧ a ≤ 188) ∨ a = 200) → m a i = g a i) ∧ m 144 0 = (σ.n : Int) ∧ ((∀ w, w < 48 → m 145 w = σ.K w) ∧ ∀ w, 48 ≤ w → m 145 w = g 145 w) ∧ ((∀ j, j < 144 → m 146 j = Pf j) ∧ ∀ j, 144 ≤ j → m 146 j = g 146 j) ∧
  ((∀ k, k < o → m 147 k = Ef k) ∧ ∀ k, o ≤ k → m 147 k = g 147 k) ∧ ((∀ k, k < c - o → m 148 k = Ef (o + k)) ∧ ∀ k, c - o ≤ k → m 148 k = g 148 k) ∧ (∀ w, w < 48 → (0 ≤ m 150 w ∧ m 150 w < 32) ∧ (0 ≤ m 151 w ∧ m 151 w < 32) ∧ σ.L w = 32 * m 151 w + m 150 w) ∧ ((∀ z, z < N → (m 155 z = 0 ∨ m 155 z = 1) ∧ σ.U z = decide (m 155 z = 1)) ∧ ∀ z, N ≤ z → m 155 z = g 155 z) ∧ LgM F m ∧ m 143 23 = 0 ∧ m 143 38 = ((T.length : Nat) : Int) ∧ ∀ i e, T[i]? = some e → m 170 i = e
/-- behind the last turn -/
theorem endT {n N M s o c C : Nat} {h g B m1 q : Hp} {σ : TrS} {Pf Ef : Nat → Int} {F : List (Int × Int × Int)} (hI : Inv n h) (hs : sc 18 h = (s : Int)) (ho : h 18 2 = (o : Int)) (hc : h 18 2 + h 18 1 = (c : Int)) (hC : h 37 0 = (C : Int)) (eg : ∀ a i, ((a = 143 ∧ (1 ≤ i ∧ i ≤ 3 ∨ i = 12 ∨ 24 ≤ i ∧ i ≤ 27)) ∨ (144 ≤ a ∧ a ≤ 155) ∨ (159 ≤ a ∧ a ≤ 166)) → g a i = h a i) (g38 : g 143 38 = 0) (g201 : ∀ x, x < C → g 201 x = ((shB (seB h x) c : Nat) : Int)) (mt : MT g N M σ B) (hn : σ.n ≤ 40) (tn : TnM B o c Pf Ef m1) (lg : LgM F m1) (hq : Pl 40 18 q) (q0 : ∀ i, i ≤ 2 → q 18 i = h 18 i) (q3 : q 18 3 = (σ.n : Int)) (q19 : q 19 = σ.K) (q20 : q 20 = Pf) (q21 : q 21 = Ef)
    {D : Nat → Bool} (hD : ∀ x, x < C → (D x = true ↔ live h x = true ∧ ∃ k, k < c ∧ seB q x k ≠ seB h x k)) {T : List Int} (hT : frB (tsL D) (C - 0) 0 [] = T) (r : Int) : En (XX12_apply_p232 r m1) (fun x m => x = r ∧ ApM g N o c σ Pf Ef F T m) := by
  have hMS := Inv_MS hI
  have hnum := num_le hI
  have r3 := hI.2.1.1
  have l0 := Pl_lt (by decide) (Inv_N0 hI)
  have hco : o ≤ c := by have := (Inv_N0 hI).2.1; omega
  obtain ⟨c1, c2, ⟨c3, c3'⟩, ⟨c4, c4'⟩, c5, c6, c7, c8⟩ := mt
  obtain ⟨t1, ⟨t2, t2'⟩, ⟨t3, t3'⟩, t4, t4'⟩ := tn
  have k1 : ∀ a i, ¬ ((a = 143 ∧ i = 37) ∨ (a = 144 ∧ i = 0) ∨ (145 ≤ a ∧ a ≤ 148) ∨ (150 ≤ a ∧ a ≤ 151) ∨ a = 155 ∨ (167 ≤ a ∧ a ≤ 169) ∨ a = 200) → m1 a i = g a i := fun a i hh => by rw [t1 a i (by omega), c1 a i (by omega)]
  have z : ∀ i, 1 ≤ i → i ≤ 3 → m1 143 i = h 143 i := fun i h1 h2 => by rw [k1 143 i (by omega), eg 143 i (by omega)]
  have z0 : m1 144 0 = (σ.n : Int) := by rw [t1 144 0 (by omega)]; exact c2
  have z1 : m1 144 1 = h 144 1 := by rw [k1 144 1 (by omega), eg 144 1 (by omega)]
  have hM1 : MN m1 := by
    have := hMS.1.1
    unfold MN at *
    rw [z 1 (by omega) (by omega), z 2 (by omega) (by omega), z 3 (by omega) (by omega), z0, z1]
    omega
  have s1 : sM m1 = sc 18 h := by
    rw [← (Rel_s hI.2.1).1]; exact sM_congr (z 1 (by omega) (by omega)) (z 2 (by omega) (by omega))
  have e145 : ∀ w, w < 48 → m1 145 w = σ.K w := fun w hw => by rw [t1 145 w (by omega)]; exact c3 w hw
  have nt : NtM q m1 := by
    refine ⟨⟨by rw [z 1 (by omega) (by omega), q0 0 (by omega)]; exact r3.1.symm, by rw [z 2 (by omega) (by omega), q0 1 (by omega)]; exact r3.2.1.symm, by rw [z 3 (by omega) (by omega), q0 2 (by omega)]; exact r3.2.2.1.symm, by rw [z0, q3]⟩, fun w hw => by rw [q19]; exact e145 w hw, fun j hj => by rw [q20]; exact t2 j hj, fun k hk => ?_⟩
    rw [q0 2 (by omega), q0 1 (by omega), hc] at hk
    rw [q21]
    unfold sn
    rw [z 3 (by omega) (by omega), ← r3.2.2.1, ho]
    by_cases qk : (k : Int) < (o : Int)
    · rw [if_pos qk]
      show m1 147 (4 * 0 + k) = _
      rw [Nat.mul_zero, Nat.zero_add]; exact t3 k (by omega)
    · rw [if_neg qk, Int.toNat_natCast]
      show m1 148 (2 * 0 + k - o) = _
      rw [Nat.mul_zero, Nat.zero_add, t4 (k - o) (by omega)]
      exact congrArg _ (by omega)
  have j3 := hI.2.2.2.1
  refine En_mono (endM hq hM1 nt (c := c) (C := C) (by rw [q0 2 (by omega), q0 1 (by omega)]; exact hc) (by rw [s1, ashl1 (by omega) (by omega), ← hC]; exact j3.1.1.symm) (by omega) (h := h) (fun x hx => by rw [k1 201 x (by omega)]; exact g201 x hx) (D := D) (fun x hx => ?_) hT (by rw [k1 143 38 (by omega)]; exact g38) r) (fun x m _ hf => ?_)
  · rw [hD x hx, k1 149 x (by omega), eg 149 x (by omega), j3.2.2 x (by omega), decide_eq_true_iff]
  · obtain ⟨rfl, f1, f2, f3, f4⟩ := hf
    refine ⟨rfl, fun a i hh => by rw [f1 a i (by omega), k1 a i (by omega)], by rw [f1 144 0 (by omega)]; exact z0, ⟨fun w hw => by rw [f1 145 w (by omega)]; exact e145 w hw, fun w hw => by rw [f1 145 w (by omega), t1 145 w (by omega)]; exact c3' w hw⟩, ⟨fun j hj => by rw [f1 146 j (by omega)]; exact t2 j hj, fun j hj => by rw [f1 146 j (by omega), t2' j hj]; exact c4' j hj⟩, ⟨fun k hk => by rw [f1 147 k (by omega)]; exact t3 k hk, fun k hk => by rw [f1 147 k (by omega), t3' k hk]; exact c1 147 k (by omega)⟩, ⟨fun k hk => by rw [f1 148 k (by omega)]; exact t4 k hk, fun k hk => by rw [f1 148 k (by omega), t4' k hk]; exact c1 148 k (by omega)⟩, fun w hw => ?_, ⟨fun u hu => ?_, fun u hu => ?_⟩, LgM_tr (fun a i hh => f1 a i (by omega)) lg, f2, f3, f4⟩
    · rw [f1 150 w (by omega), f1 151 w (by omega), t1 150 w (by omega), t1 151 w (by omega)]; exact c5 w hw
    · rw [f1 155 u (by omega), t1 155 u (by omega)]; exact c7 u hu
    · rw [f1 155 u (by omega), t1 155 u (by omega)]; exact c8 u hu
/-- kinds and pins of the model's grown net -/
theorem KpT_mt {g B : Hp} {N M s : Nat} {σ : TrS} (mt : MT g N M σ B) (hn : s + σ.n ≤ 48) {P : Nat → Int} (k : KpT s σ.n σ.K P) : KpT s σ.n (B 145) P := fun w h1 h2 => by
  rw [mt.2.2.1.1 w (by omega)]; exact k w h1 h2
/-- no turn yet -/
theorem TnM_0 {g B h : Hp} {n N M o c : Nat} {σ : TrS} (hI : Inv n h) (ho : h 18 2 = (o : Int)) (hc : h 18 2 + h 18 1 = (c : Int)) (eg : ∀ a i, ((a = 143 ∧ (1 ≤ i ∧ i ≤ 3 ∨ i = 12 ∨ 24 ≤ i ∧ i ≤ 27)) ∨ (144 ≤ a ∧ a ≤ 155) ∨ (159 ≤ a ∧ a ≤ 166)) → g a i = h a i) (mt : MT g N M σ B) : TnM B o c σ.P (h 21) B := by
  obtain ⟨os1, os2⟩ := old_seen hI
  refine ⟨fun _ _ _ => rfl, ⟨mt.2.2.2.1.1, fun _ _ => rfl⟩, ⟨fun k hk => ?_, fun _ _ => rfl⟩, fun k hk => ?_, fun _ _ => rfl⟩
  · rw [mt.1 147 k (by omega), eg 147 k (by omega)]; exact os1 k (by omega)
  · rw [mt.1 148 k (by omega), eg 148 k (by omega), os2 k (by omega), ho, Int.toNat_natCast]
/-- the model, one point -/
theorem applyM1 {n N M s n0 o c C : Nat} {h g q : Hp} (p : PlB h N M) (hI : Inv n h) (hs : sc 18 h = (s : Int)) (hn0 : h 18 3 = (n0 : Int)) (ho : h 18 2 = (o : Int)) (hc : h 18 2 + h 18 1 = (c : Int)) (hnp : h 56 3 = 1) (hC : h 37 0 = (C : Int)) (eg : ∀ a i, ((a = 143 ∧ (1 ≤ i ∧ i ≤ 3 ∨ i = 12 ∨ 24 ≤ i ∧ i ≤ 27)) ∨ (144 ≤ a ∧ a ≤ 155) ∨ (159 ≤ a ∧ a ≤ 166)) → g a i = h a i) (g37 : g 143 37 = 0) (g38 : g 143 38 = 0) (g201 : ∀ x, x < C → g 201 x = ((shB (seB h x) c : Nat) : Int))
    {σ : TrS} (hσ : trT h s M 0 (n0, h 19, h 20, h 22, fun _ => -1, fun z => ti (h 67 1) z) = σ) {w : Int} (hw : rsT h s M 0 (n0, h 19, h 20, h 22, fun _ => -1, fun z => ti (h 67 1) z) = w) (hn : σ.n ≤ 40) {Pf Ef : Nat → Int} (hPf : sbR (3 * s) (3 * (s + σ.n)) (h 57 0) w σ.P = Pf) (hEf : sbR 0 c (h 57 0) w (h 21) = Ef) {F : List (Int × Int × Int)} (hF : lgA s σ.n o c (h 57 0) σ.P (h 21) [] = F) (hq : Pl 40 18 q) (q0 : ∀ i, i ≤ 2 → q 18 i = h 18 i) (q3 : q 18 3 = (σ.n : Int)) (q19 : q 19 = σ.K) (q20 : q 20 = Pf) (q21 : q 21 = Ef)
    {D : Nat → Bool} (hD : ∀ x, x < C → (D x = true ↔ live h x = true ∧ ∃ k, k < c ∧ seB q x k ≠ seB h x k)) {T : List Int} (hT : frB (tsL D) (C - 0) 0 [] = T) (r : Int) : En (cal (XX12_comes 0 g) (fun r11 h12 => if (h12 143 25) ≤ 1 then XX12_apply_p201 r r11 (-1) h12 else cal (XX12_comes 1 h12) (fun r26 h27 => XX12_apply_p201 r r11 r26 h27))) (fun x m => x = r ∧ ApM g N o c σ Pf Ef F T m) := by
  have hMS := Inv_MS hI
  have hP : Pl 40 18 h := hI.1.1.1
  have hN0 := hP.1
  have lt := Pl_lt (by decide) hN0
  have r3 := hI.2.1.1
  have hsM : sM h = (s : Int) := by rw [(Rel_s hI.2.1).1]; exact hs
  have hpl : ∀ w : Nat, w < 48 → 0 ≤ h 22 w ∧ h 22 w < 1024 := hP.2.2.2.2
  have gd0 : GdT h s n0 M (h 20) (n0, h 19, h 20, h 22, fun _ => -1, fun z => ti (h 67 1) z) := GdT_start _
  have bq : KpT s n0 (h 19) (h 20) := fun v h1 h2 => by
    have hW : wn 18 h = ((s + n0 : Nat) : Int) := by unfold wn; unfold sc at hs; omega
    obtain ⟨a, b⟩ := hP.2.1 v (by omega) (by omega)
    exact ⟨a, fun k hk t => (b k hk).2 t⟩
  have pt := p.2.2.1
  have q57 := pt.2.2.2.2.1 0 (by omega)
  obtain ⟨gd1, nw1, _⟩ := GdT_tr (k := 0) p hpl (by omega) gd0
  rw [hσ] at gd1 nw1
  have o6 : c ≤ 6 := by unfold Nums at hN0; omega
  have hco : o ≤ c := by have := hN0.2.1; omega
  have hl : F.length ≤ 126 := by
    have := lg_one (s := s) (n := σ.n) (o := o) (c := c) (p0 := h 57 0) (P := σ.P) (E := h 21)
    rw [hF] at this; omega
  have eqm : EqM h g := fun a i hh => eg a i (by omega)
  refine En_cal (comes_ok (k := 0) p hMS.1.1 hsM (by omega) eqm (MT_start p hI.2.1 (fun a i hh => eg a i (by omega)) hn0) rfl (by rw [hσ]; exact hn)) (fun r11 B _ hr => ?_)
  obtain ⟨rfl, mt⟩ := hr
  rw [hσ] at mt
  rw [hw]
  obtain ⟨hMB, sB⟩ := MT_MN hMS.1.1 eqm mt hn
  have b25 : B 143 25 = 1 := by rw [mt.1 143 25 (by omega), eg 143 25 (by omega), ← pt.2.1.1]; exact hnp
  rw [b25, if_pos (by decide)]
  unfold XX12_apply_p201
  have b159 : B 159 (0 : Int).toNat = h 57 0 := by
    show B 159 0 = _
    rw [mt.1 159 0 (by omega), eg 159 0 (by omega)]; exact q57.1.symm
  rw [inb_pos (by omega), b159]
  refine En_cal (turns_ok (B := B) (s := s) (n := σ.n) (o := o) (c := c) (P := σ.P) (E := h 21) (LG := []) (F := F) hMB (by rw [sB]; exact hsM) mt.2.1 (by rw [mt.1 143 3 (by omega), eg 143 3 (by omega), ← r3.2.2.1]; exact ho) (by rw [mt.1 143 2 (by omega), eg 143 2 (by omega), ← r3.2.1]; omega) hco (KpT_mt mt (by omega) (KpT_of gd1 bq)) (by omega) hF hl (TnM_0 hI ho hc eg mt) ⟨by rw [mt.1 143 37 (by omega)]; exact g37, fun i e he => by simp at he⟩) (fun r13 m1 _ ht => ?_)
  obtain ⟨tn, lg⟩ := ht
  rw [tn.1 143 25 (by omega), b25, if_pos (by decide)]
  rw [hPf, hEf] at tn
  exact endT hI hs ho hc hC eg g38 g201 mt hn tn lg hq q0 q3 q19 q20 q21 hD hT r
/-- the model, two points -/
theorem applyM2 {n N M s n0 o c C : Nat} {h g q : Hp} {H : Nat → Nat → Bool} (p : PlB h N M) (hI : Inv n h) (hs : sc 18 h = (s : Int)) (hn0 : h 18 3 = (n0 : Int)) (ho : h 18 2 = (o : Int)) (hc : h 18 2 + h 18 1 = (c : Int)) (hnp : h 56 3 = 2) (hB : Hang (sc 18 h) (wn 18 h) (h 19) (h 20) H) (hC : h 37 0 = (C : Int)) (eg : ∀ a i, ((a = 143 ∧ (1 ≤ i ∧ i ≤ 3 ∨ i = 12 ∨ 24 ≤ i ∧ i ≤ 27)) ∨ (144 ≤ a ∧ a ≤ 155) ∨ (159 ≤ a ∧ a ≤ 166)) → g a i = h a i) (g37 : g 143 37 = 0) (g38 : g 143 38 = 0) (g201 : ∀ x, x < C → g 201 x = ((shB (seB h x) c : Nat) : Int))
    {σ1 σ : TrS} (hσ1 : trT h s M 0 (n0, h 19, h 20, h 22, fun _ => -1, fun z => ti (h 67 1) z) = σ1) {w0 : Int} (hw0 : rsT h s M 0 (n0, h 19, h 20, h 22, fun _ => -1, fun z => ti (h 67 1) z) = w0) (hσ : trT h s M 1 σ1 = σ) {w1 : Int} (hw1 : rsT h s M 1 σ1 = w1) (hn : σ.n ≤ 40) {Pm Pf Em Ef : Nat → Int} (hPm : sbR (3 * s) (3 * (s + σ.n)) (h 57 0) w0 σ.P = Pm) (hPf : sbR (3 * s) (3 * (s + σ.n)) (h 57 1) w1 Pm = Pf) (hEm : sbR 0 c (h 57 0) w0 (h 21) = Em) (hEf : sbR 0 c (h 57 1) w1 Em = Ef) {Fm F : List (Int × Int × Int)} (hFm : lgA s σ.n o c (h 57 0) σ.P (h 21) [] = Fm) (hF : lgA s σ.n o c (h 57 1) Pm Em Fm = F) (hq : Pl 40 18 q) (q0 : ∀ i, i ≤ 2 → q 18 i = h 18 i) (q3 : q 18 3 = (σ.n : Int)) (q19 : q 19 = σ.K) (q20 : q 20 = Pf) (q21 : q 21 = Ef)
    {D : Nat → Bool} (hD : ∀ x, x < C → (D x = true ↔ live h x = true ∧ ∃ k, k < c ∧ seB q x k ≠ seB h x k)) {T : List Int} (hT : frB (tsL D) (C - 0) 0 [] = T) (r : Int) : En (cal (XX12_comes 0 g) (fun r11 h12 => if (h12 143 25) ≤ 1 then XX12_apply_p201 r r11 (-1) h12 else cal (XX12_comes 1 h12) (fun r26 h27 => XX12_apply_p201 r r11 r26 h27))) (fun x m => x = r ∧ ApM g N o c σ Pf Ef F T m) := by
  have hMS := Inv_MS hI
  have hP : Pl 40 18 h := hI.1.1.1
  have hN0 := hP.1
  have lt := Pl_lt (by decide) hN0
  have r3 := hI.2.1.1
  have hsM : sM h = (s : Int) := by rw [(Rel_s hI.2.1).1]; exact hs
  have hW : wn 18 h = ((s + n0 : Nat) : Int) := by unfold wn; unfold sc at hs; omega
  have hpl : ∀ w : Nat, w < 48 → 0 ≤ h 22 w ∧ h 22 w < 1024 := hP.2.2.2.2
  have gd0 : GdT h s n0 M (h 20) (n0, h 19, h 20, h 22, fun _ => -1, fun z => ti (h 67 1) z) := GdT_start _
  have bq : KpT s n0 (h 19) (h 20) := fun v h1 h2 => by
    obtain ⟨a, b⟩ := hP.2.1 v (by omega) (by omega)
    exact ⟨a, fun k hk t => (b k hk).2 t⟩
  have pt := p.2.2.1
  have q50 := pt.2.2.2.2.1 0 (by omega)
  have q51 := pt.2.2.2.2.1 1 (by omega)
  have q01 := pt.2.2.2.2.2.1 hnp
  obtain ⟨gd1, nw0, _⟩ := GdT_tr (k := 0) p hpl (by omega) gd0
  rw [hσ1] at gd1 nw0
  rw [hw0] at nw0
  obtain ⟨gd2, nw1, hmono⟩ := GdT_tr (k := 1) p hpl (by omega) gd1
  rw [hσ] at gd2 nw1 hmono
  have o6 : c ≤ 6 := by unfold Nums at hN0; omega
  have hco : o ≤ c := by have := hN0.2.1; omega
  have w0ne : w0 ≠ h 57 1 := NwT_pt p hs hW hB nw0 (by omega)
  have hl : F.length ≤ 126 := by
    have := lg_total (s := s) (n := σ.n) (o := o) (c := c) (p0 := h 57 0) (p1 := h 57 1) (r0 := w0) (P := σ.P) (E := h 21) w0ne (by omega)
    rw [hPm, hEm, hFm, hF] at this; omega
  have hlm : Fm.length ≤ 126 := by
    have := lg_one (s := s) (n := σ.n) (o := o) (c := c) (p0 := h 57 0) (P := σ.P) (E := h 21)
    rw [hFm] at this; omega
  have hL1 : σ1.L (h 57 1).toNat = h 22 (h 57 1).toNat := (gd1.2.1 (h 57 1).toNat (by omega)).2
  have eqm : EqM h g := fun a i hh => eg a i (by omega)
  refine En_cal (comes_ok (k := 0) p hMS.1.1 hsM (by omega) eqm (MT_start p hI.2.1 (fun a i hh => eg a i (by omega)) hn0) rfl (by rw [hσ1]; omega)) (fun r11 B1 _ hr => ?_)
  obtain ⟨rfl, mt1⟩ := hr
  rw [hσ1] at mt1
  rw [hw0]
  have b25 : B1 143 25 = 2 := by rw [mt1.1 143 25 (by omega), eg 143 25 (by omega), ← pt.2.1.1]; exact hnp
  rw [b25, if_neg (by decide)]
  refine En_cal (comes_ok (k := 1) p hMS.1.1 hsM (by omega) eqm mt1 hL1 (by rw [hσ]; exact hn)) (fun r26 B _ hr => ?_)
  obtain ⟨rfl, mt⟩ := hr
  rw [hσ] at mt
  rw [hw1]
  obtain ⟨hMB, sB⟩ := MT_MN hMS.1.1 eqm mt hn
  have c25 : B 143 25 = 2 := by rw [mt.1 143 25 (by omega), eg 143 25 (by omega), ← pt.2.1.1]; exact hnp
  unfold XX12_apply_p201
  have b159 : ∀ i, i < 2 → B 159 i = h 57 i := fun i hi => by
    rw [mt.1 159 i (by omega), eg 159 i (by omega)]
    exact (pt.2.2.2.2.1 i (by omega)).1.symm
  have b0 : B 159 (0 : Int).toNat = h 57 0 := b159 0 (by omega)
  have sB' : sM B = (s : Int) := by rw [sB]; exact hsM
  have e3 : B 143 3 = (o : Int) := by rw [mt.1 143 3 (by omega), eg 143 3 (by omega), ← r3.2.2.1]; exact ho
  have e2 : B 143 2 = ((c - o : Nat) : Int) := by rw [mt.1 143 2 (by omega), eg 143 2 (by omega), ← r3.2.1]; omega
  have kp : KpT s σ.n σ.K σ.P := KpT_of gd2 bq
  rw [inb_pos (by omega), b0]
  refine En_cal (turns_ok (B := B) (s := s) (n := σ.n) (o := o) (c := c) (P := σ.P) (E := h 21) (LG := []) (F := Fm) hMB sB' mt.2.1 e3 e2 hco (KpT_mt mt (by omega) kp) (by omega) hFm hlm (TnM_0 hI ho hc eg mt) ⟨by rw [mt.1 143 37 (by omega)]; exact g37, fun i e he => by simp at he⟩) (fun r13 m1 _ ht => ?_)
  obtain ⟨tn, lg⟩ := ht
  rw [hPm, hEm] at tn
  have m159 : m1 159 (1 : Int).toNat = h 57 1 := by
    show m1 159 1 = _
    rw [tn.1 159 1 (by omega)]; exact b159 1 (by omega)
  rw [tn.1 143 25 (by omega), c25, if_neg (by decide), inb_pos (by omega), m159]
  refine En_cal (turns_ok (B := B) (s := s) (n := σ.n) (o := o) (c := c) (P := Pm) (E := Em) (LG := Fm) (F := F) hMB sB' mt.2.1 e3 e2 hco (KpT_mt mt (by omega) (by rw [← hPm]; exact KpT_sb (by omega) kp)) (by omega) hF hl tn lg) (fun r24 m2 _ ht2 => ?_)
  obtain ⟨tn2, lg2⟩ := ht2
  rw [hPf, hEf] at tn2
  exact endT hI hs ho hc hC eg g38 g201 mt hn tn2 lg2 hq q0 q3 q19 q20 q21 hD hT r
