theorem Pl_tr {lim : Int} {p : Nat} {h h1 : Hp} (e : ∀ a i, (p ≤ a ∧ a ≤ p + 4) → h1 a i = h a i) (hP : Pl lim p h) : Pl lim p h1 := by
  have e' : ∀ a, (p ≤ a ∧ a ≤ p + 4) → h1 a = h a := fun a ha => funext (fun i => e a i ha)
  unfold Pl at hP ⊢
  rw [sc_congr (e' p (by omega)), wn_congr (e' p (by omega)), e' p (by omega), e' (p + 1) (by omega), e' (p + 2) (by omega), e' (p + 3) (by omega), e' (p + 4) (by omega)]
  exact ⟨Nums_congr (e' p (by omega)) hP.1, hP.2⟩
theorem NetOK_tr {lim : Int} {p : Nat} {h h1 : Hp} (e : ∀ a i, ((p + 1 ≤ a ∧ a ≤ p + 8) ∨ (a = p ∧ i = 6)) → h1 a i = h a i) (hP : NetOK lim p h) : NetOK lim p h1 := by
  have e' : ∀ a, (p + 1 ≤ a ∧ a ≤ p + 8) → h1 a = h a := fun a ha => funext (fun i => e a i (Or.inl ha))
  refine ⟨Pl_tr (fun a i hh => e a i (by omega)) hP.1, by rw [e p 6 (by omega)]; exact hP.2.1, fun hh => ?_⟩
  rw [e p 6 (by omega)] at hh
  exact Cch_congr (e' _ (by omega)) (e' _ (by omega)) (e' _ (by omega)) (e' _ (by omega)) (e' _ (by omega)) (e' _ (by omega)) (hP.2.2 hh)
/-- 1: the nets -/
def J1 (h : Hp) : Prop := NetOK 40 17 h ∧ NetOK 24 27 h ∧ h 17 1 = 40 ∧ h 27 1 = 24
theorem J1_tr {h h1 : Hp} (e : ∀ a i, ((18 ≤ a ∧ a ≤ 25) ∨ (28 ≤ a ∧ a ≤ 35) ∨ (a = 17 ∧ (i = 1 ∨ i = 6)) ∨ (a = 27 ∧ (i = 1 ∨ i = 6))) → h1 a i = h a i) (j : J1 h) : J1 h1 :=
  ⟨NetOK_tr (fun a i hh => e a i (by omega)) j.1, NetOK_tr (fun a i hh => e a i (by omega)) j.2.1, by rw [e 17 1 (by omega)]; exact j.2.2.1, by rw [e 27 1 (by omega)]; exact j.2.2.2⟩
/-- 2: places -/
def J2 (h : Hp) : Prop := ∀ w, w < 48 → (0 ≤ h 150 w ∧ h 150 w < 32) ∧ (0 ≤ h 151 w ∧ h 151 w < 32) ∧ h 22 w = 32 * h 151 w + h 150 w
theorem J2_tr {h h1 : Hp} (e : ∀ a i, (a = 22 ∨ a = 150 ∨ a = 151) → h1 a i = h a i) (j : J2 h) : J2 h1 := fun w hw => by
  rw [e 22 w (by omega), e 150 w (by omega), e 151 w (by omega)]; exact j w hw
/-- 3: cases -/
def J3 (h : Hp) : Prop := Cas h ∧ (∀ c, c < 256 → h 149 c = 0 ∨ h 149 c = 1) ∧ ∀ c : Nat, (c : Int) < h 37 0 → live h c = decide (h 149 c = 0)
theorem J3_tr {h h1 : Hp} (e : ∀ a i, (a = 38 ∨ a = 39 ∨ a = 149 ∨ (a = 37 ∧ i ≤ 1) ∨ (a = 18 ∧ i ≤ 1)) → h1 a i = h a i) (j : J3 h) : J3 h1 := by
  have e38 : h1 38 = h 38 := funext (fun i => e 38 i (by omega))
  have e39 : h1 39 = h 39 := funext (fun i => e 39 i (by omega))
  have e149 : h1 149 = h 149 := funext (fun i => e 149 i (by omega))
  have es : sc 18 h1 = sc 18 h := by unfold sc; rw [e 18 0 (by omega), e 18 1 (by omega)]
  unfold J3 Cas live
  rw [e38, e39, e149, e 37 0 (by omega), e 37 1 (by omega), es]
  exact j
/-- 4: marks -/
def J4 (h : Hp) : Prop := (∀ w, w < 48 → h 157 w = h 54 w ∧ -1 ≤ h 54 w ∧ h 54 w ≤ 9) ∧ h 53 1 = (cntB (fun w => decide (0 ≤ h 54 w)) 48 : Nat) ∧ h 53 1 ≤ 10 ∧ ∀ w : Nat, wn 18 h ≤ w → w < 48 → h 54 w = -1
theorem J4_tr {h h1 : Hp} (e : ∀ a i, (a = 54 ∨ a = 157 ∨ (a = 53 ∧ i = 1) ∨ (a = 18 ∧ i ≤ 3)) → h1 a i = h a i) (j : J4 h) : J4 h1 := by
  have e54 : h1 54 = h 54 := funext (fun i => e 54 i (by omega))
  have e157 : h1 157 = h 157 := funext (fun i => e 157 i (by omega))
  have es : wn 18 h1 = wn 18 h := by unfold wn; rw [e 18 0 (by omega), e 18 1 (by omega), e 18 3 (by omega)]
  unfold J4
  rw [e54, e157, e 53 1 (by omega), es]
  exact j
/-- 5: points that are kept -/
def J5 (h : Hp) : Prop := h 16 12 = h 143 19 ∧ 0 ≤ h 16 12 ∧ h 16 12 ≤ 3 ∧ ∀ k : Nat, (k : Int) < h 16 12 → h 100 k = h 158 k
theorem J5_tr {h h1 : Hp} (e : ∀ a i, (a = 100 ∨ a = 158 ∨ (a = 16 ∧ i = 12) ∨ (a = 143 ∧ i = 19)) → h1 a i = h a i) (j : J5 h) : J5 h1 := by
  unfold J5
  rw [show h1 100 = h 100 from funext (fun i => e 100 i (by omega)), show h1 158 = h 158 from funext (fun i => e 158 i (by omega)), e 16 12 (by omega), e 143 19 (by omega)]
  exact j
/-- 6: the clash -/
def J6 (h : Hp) : Prop := h 16 13 = h 143 21 ∧ h 16 14 = h 143 22
theorem J6_tr {h h1 : Hp} (e : ∀ a i, ((a = 16 ∧ (i = 13 ∨ i = 14)) ∨ (a = 143 ∧ (i = 21 ∨ i = 22))) → h1 a i = h a i) (j : J6 h) : J6 h1 := by
  unfold J6
  rw [e 16 13 (by omega), e 16 14 (by omega), e 143 21 (by omega), e 143 22 (by omega)]
  exact j
/-- 7: refusals -/
def J7 (n : Nat) (h : Hp) : Prop := h 16 15 = h 143 57 ∧ 0 ≤ h 16 15 ∧ h 16 15 ≤ n
theorem J7_tr {n : Nat} {h h1 : Hp} (e : ∀ a i, ((a = 16 ∧ i = 15) ∨ (a = 143 ∧ i = 57)) → h1 a i = h a i) (j : J7 n h) : J7 (n + 1) h1 := by
  unfold J7
  rw [e 16 15 (by omega), e 143 57 (by omega)]
  exact ⟨j.1, j.2.1, by have := j.2.2; omega⟩
/-- functions of m wires -/
def onI (m : Int) : Int := ([1, 3, 15, 255] : List Int).getD m.toNat 0
def pjT (m : Int) (j : Nat) : Int := (([[], [2], [10, 12], [170, 204, 240]] : List (List Int)).getD m.toNat []).getD j 0
def lf (m f : Int) : Int := if f = 0 then 200 else if f = onI m then 201 else if 0 < m ∧ f = pjT m 0 then 100 else if 1 < m ∧ f = pjT m 1 then 101 else if 2 < m ∧ f = pjT m 2 then 102 else -1
/-- a part of a node: an earlier node of the same tree, or a told wire -/
def PartOK (h : Hp) (i : Nat) (x : Int) : Prop := (0 ≤ x ∧ x < i ∧ h 64 x.toNat = h 64 i) ∨ (100 ≤ x ∧ x < 100 + h 56 5)
/-- 8: the patch -/
def Pat (h : Hp) : Prop :=
  (h 56 1 = h 143 24 ∧ (h 56 1 = 0 ∨ h 56 1 = 1)) ∧ (h 56 3 = h 143 25 ∧ 1 ≤ h 56 3 ∧ h 56 3 ≤ 2) ∧ (h 56 5 = h 143 26 ∧ 0 ≤ h 56 5 ∧ h 56 5 ≤ 3) ∧ (h 56 8 = h 143 27 ∧ 0 ≤ h 56 8 ∧ h 56 8 ≤ 8) ∧
  (∀ k : Nat, (k : Int) < h 56 3 → h 57 k = h 159 k ∧ sc 18 h ≤ h 57 k ∧ h 57 k < wn 18 h ∧ h 59 k = h 161 k ∧ 0 ≤ h 59 k ∧ h 59 k ≤ onI (h 56 5)) ∧ (h 56 3 = 2 → h 57 0 < h 57 1) ∧
  (∀ j : Nat, (j : Int) < h 56 5 → h 58 j = h 160 j ∧ 0 ≤ h 58 j ∧ h 58 j < wn 18 h) ∧
  (∀ i : Nat, (i : Int) < h 56 8 → (h 61 i = h 162 i ∧ 0 ≤ h 61 i ∧ h 61 i ≤ 5) ∧ (h 62 i = h 163 i ∧ PartOK h i (h 62 i)) ∧ (h 63 i = h 164 i ∧ (if h 61 i = 0 then h 63 i = -2 else PartOK h i (h 63 i))) ∧ (h 64 i = h 165 i ∧ 0 ≤ h 64 i ∧ h 64 i < h 56 3) ∧
    (if h 56 1 = 1 then h 65 i = h 166 i ∧ 0 ≤ h 65 i ∧ h 65 i < h 67 0 else h 166 i = -2)) ∧
  (∀ k : Nat, (k : Int) < h 56 3 → if 0 ≤ lf (h 56 5) (h 59 k) then h 60 k = lf (h 56 5) (h 59 k) ∧ ∀ i : Nat, (i : Int) < h 56 8 → h 64 i ≠ k else (0 ≤ h 60 k ∧ h 60 k < h 56 8 ∧ h 64 (h 60 k).toNat = k ∧ ∀ i : Nat, (i : Int) < h 56 8 → h 60 k < i → h 64 i ≠ k)) ∧
  (∀ B, Hang (sc 18 h) (wn 18 h) (h 19) (h 20) B → ∀ j : Nat, (j : Int) < h 56 5 → ∀ k : Nat, (k : Int) < h 56 3 → B (h 58 j).toNat (h 57 k).toNat = false)
def J8 (h : Hp) : Prop := h 56 0 = h 143 23 ∧ (h 56 0 = 0 ∨ h 56 0 = 1) ∧ (h 56 0 = 1 → Pat h)
theorem J8_no {h1 : Hp} (e1 : h1 56 0 = 0) (e2 : h1 143 23 = 0) : J8 h1 := ⟨by rw [e1, e2], Or.inl e1, fun hh => by rw [e1] at hh; cases hh⟩
theorem J8_tr {h h1 : Hp} (e : ∀ a i, ((56 ≤ a ∧ a ≤ 65) ∨ (159 ≤ a ∧ a ≤ 166) ∨ (a = 143 ∧ 23 ≤ i ∧ i ≤ 27) ∨ (18 ≤ a ∧ a ≤ 20) ∨ (a = 67 ∧ i = 0)) → h1 a i = h a i) (j : J8 h) : J8 h1 := by
  have e' : ∀ a, ((56 ≤ a ∧ a ≤ 65) ∨ (159 ≤ a ∧ a ≤ 166) ∨ (18 ≤ a ∧ a ≤ 20)) → h1 a = h a := fun a ha => funext (fun i => e a i (by omega))
  unfold J8 Pat PartOK
  rw [sc_congr (e' 18 (by omega)), wn_congr (e' 18 (by omega)), e' 19 (by omega), e' 20 (by omega), e' 56 (by omega), e' 57 (by omega), e' 58 (by omega), e' 59 (by omega), e' 60 (by omega), e' 61 (by omega), e' 62 (by omega), e' 63 (by omega), e' 64 (by omega), e' 65 (by omega), e' 159 (by omega), e' 160 (by omega), e' 161 (by omega), e' 162 (by omega), e' 163 (by omega), e' 164 (by omega), e' 165 (by omega), e' 166 (by omega), e 143 23 (by omega), e 143 24 (by omega), e 143 25 (by omega), e 143 26 (by omega), e 143 27 (by omega), e 67 0 (by omega)]
  exact j
/-- 9: spares -/
def J9 (h : Hp) : Prop := h 67 0 = h 143 12 ∧ 0 ≤ h 67 0 ∧ h 67 0 ≤ 12 ∧ (0 ≤ h 67 1 ∧ h 67 1 < 2 ^ (h 67 0).toNat) ∧
  ∀ s : Nat, (s : Int) < h 67 0 → (h 68 s = h 152 s ∧ 0 ≤ h 68 s ∧ h 68 s ≤ 5) ∧ (0 ≤ h 153 s ∧ h 153 s < 32) ∧ (0 ≤ h 154 s ∧ h 154 s < 32) ∧ h 69 s = 32 * h 154 s + h 153 s ∧ (h 155 s = 0 ∨ h 155 s = 1) ∧ ti (h 67 1) s = decide (h 155 s = 1)
theorem J9_tr {h h1 : Hp} (e : ∀ a i, (a = 68 ∨ a = 69 ∨ (152 ≤ a ∧ a ≤ 155) ∨ (a = 67 ∧ i ≤ 1) ∨ (a = 143 ∧ i = 12)) → h1 a i = h a i) (j : J9 h) : J9 h1 := by
  have e' : ∀ a, (a = 68 ∨ a = 69 ∨ (152 ≤ a ∧ a ≤ 155)) → h1 a = h a := fun a ha => funext (fun i => e a i (by omega))
  unfold J9
  rw [e' 68 (by omega), e' 69 (by omega), e' 152 (by omega), e' 153 (by omega), e' 154 (by omega), e' 155 (by omega), e 67 0 (by omega), e 67 1 (by omega), e 143 12 (by omega)]
  exact j
/-- a plan of the class and a slot of the model -/
def PRel (b sl : Nat) (h : Hp) : Prop :=
  (h b 0 = h 174 sl ∧ h b 1 = h 175 sl ∧ h b 2 = h 176 sl ∧ h b 3 = h 177 sl) ∧ (∀ w, w < 48 → h 178 (48 * sl + w) = h (b + 1) w) ∧ (∀ j, j < 144 → h 179 (144 * sl + j) = h (b + 2) j) ∧
  (∀ k : Nat, (k : Int) < h b 2 → h 180 (4 * sl + k) = h (b + 3) k) ∧ (∀ k : Nat, (k : Int) < h b 1 → h 181 (2 * sl + k) = h (b + 3) ((h b 2).toNat + k)) ∧
  (∀ w, w < 48 → (0 ≤ h 182 (48 * sl + w) ∧ h 182 (48 * sl + w) < 32) ∧ (0 ≤ h 183 (48 * sl + w) ∧ h 183 (48 * sl + w) < 32) ∧ h (b + 4) w = 32 * h 183 (48 * sl + w) + h 182 (48 * sl + w))
theorem PRel_tr {b sl : Nat} {h h1 : Hp} (e : ∀ a i, ((b ≤ a ∧ a ≤ b + 4) ∨ (174 ≤ a ∧ a ≤ 183)) → h1 a i = h a i) (j : PRel b sl h) : PRel b sl h1 := by
  have e' : ∀ a, ((b ≤ a ∧ a ≤ b + 4) ∨ (174 ≤ a ∧ a ≤ 183)) → h1 a = h a := fun a ha => funext (fun i => e a i ha)
  unfold PRel
  rw [e' b (by omega), e' (b + 1) (by omega), e' (b + 2) (by omega), e' (b + 3) (by omega), e' (b + 4) (by omega), e' 174 (by omega), e' 175 (by omega), e' 176 (by omega), e' 177 (by omega), e' 178 (by omega), e' 179 (by omega), e' 180 (by omega), e' 181 (by omega), e' 182 (by omega), e' 183 (by omega)]
  exact j
/-- 10: what can be undone -/
def bef (h : Hp) (u : Nat) : Nat := (h 73 u).toNat
def Undo (h : Hp) (u : Nat) : Prop := Pl 40 (bef h u) h ∧ PRel (bef h u) (6 + u) h ∧ (h (bef h u) 0 = h 18 0 ∧ h (bef h u) 1 = h 18 1 ∧ h (bef h u) 2 = h 18 2) ∧ (0 ≤ h 74 u ∧ h 74 u < 2 ^ (h 67 0).toNat) ∧
  ∀ s : Nat, (s : Int) < h 67 0 → (h 184 (12 * (6 + u) + s) = 0 ∨ h 184 (12 * (6 + u) + s) = 1) ∧ ti (h 74 u) s = decide (h 184 (12 * (6 + u) + s) = 1)
def J10 (h : Hp) : Prop := h 72 2 = h 143 36 ∧ 0 ≤ h 72 2 ∧ h 72 2 ≤ 4 ∧ (∀ u, u < 4 → h 73 u = 78 ∨ h 73 u = 83 ∨ h 73 u = 88 ∨ h 73 u = 93) ∧ (∀ u v, u < v → v < 4 → h 73 u ≠ h 73 v) ∧ ∀ u : Nat, (u : Int) < h 72 2 → Undo h u
theorem bef_in {h : Hp} (j : J10 h) {u : Nat} (hu : u < 4) : 78 ≤ bef h u ∧ bef h u ≤ 93 := by
  have := j.2.2.2.1 u hu; unfold bef; omega
theorem J10_tr {h h1 : Hp} (e : ∀ a i, (a = 73 ∨ a = 74 ∨ (78 ≤ a ∧ a ≤ 97) ∨ (174 ≤ a ∧ a ≤ 184) ∨ (a = 72 ∧ i = 2) ∨ (a = 143 ∧ i = 36) ∨ (a = 18 ∧ i ≤ 2) ∨ (a = 67 ∧ i = 0)) → h1 a i = h a i) (j : J10 h) : J10 h1 := by
  have hb := fun u (hu : u < 4) => bef_in j hu
  obtain ⟨j1, j2, j3, j4, j5, j6⟩ := j
  have eb : ∀ u, bef h1 u = bef h u := fun u => by unfold bef; rw [e 73 u (by omega)]
  refine ⟨by rw [e 72 2 (by omega), e 143 36 (by omega)]; exact j1, by rw [e 72 2 (by omega)]; exact j2, by rw [e 72 2 (by omega)]; exact j3, fun u hu => by rw [e 73 u (by omega)]; exact j4 u hu, fun u v h1 h2 => by rw [e 73 u (by omega), e 73 v (by omega)]; exact j5 u v h1 h2, fun u hu => ?_⟩
  rw [e 72 2 (by omega)] at hu
  obtain ⟨u1, u2, u3, u4, u5⟩ := j6 u hu
  have hbu := hb u (by omega)
  unfold Undo
  rw [eb u]
  refine ⟨Pl_tr (fun a i hh => e a i (by omega)) u1, PRel_tr (fun a i hh => e a i (by omega)) u2, ?_, ?_, fun s hs => ?_⟩
  · rw [e (bef h u) 0 (by omega), e (bef h u) 1 (by omega), e (bef h u) 2 (by omega), e 18 0 (by omega), e 18 1 (by omega), e 18 2 (by omega)]; exact u3
  · rw [e 74 u (by omega), e 67 0 (by omega)]; exact u4
  · rw [e 67 0 (by omega)] at hs
    rw [e 74 u (by omega), e 184 _ (by omega)]; exact u5 s hs
theorem J10_no {h h1 : Hp} (e : ∀ i, h1 73 i = h 73 i) (e1 : h1 72 2 = 0) (e2 : h1 143 36 = 0) (j : J10 h) : J10 h1 :=
  ⟨by rw [e1, e2], by rw [e1]; decide, by rw [e1]; decide, fun u hu => by rw [e u]; exact j.2.2.2.1 u hu, fun u v h1 h2 => by rw [e u, e v]; exact j.2.2.2.2.1 u v h1 h2, fun u hu => by rw [e1] at hu; omega⟩
/-- 11: changes and tests -/
def J11 (h : Hp) : Prop := (h 72 4 = h 143 37 ∧ 0 ≤ h 72 4 ∧ h 72 4 ≤ 126) ∧ (∀ i : Nat, (i : Int) < h 72 4 → h 75 (3 * i) = h 167 i ∧ h 75 (3 * i + 1) = h 168 i ∧ h 75 (3 * i + 2) = h 169 i) ∧ (h 72 6 = h 143 38 ∧ 0 ≤ h 72 6 ∧ h 72 6 ≤ 256) ∧ ∀ i : Nat, (i : Int) < h 72 6 → h 76 i = h 170 i
theorem J11_tr {h h1 : Hp} (e : ∀ a i, (a = 75 ∨ a = 76 ∨ (167 ≤ a ∧ a ≤ 170) ∨ (a = 72 ∧ (i = 4 ∨ i = 6)) ∨ (a = 143 ∧ (i = 37 ∨ i = 38))) → h1 a i = h a i) (j : J11 h) : J11 h1 := by
  have e' : ∀ a, (a = 75 ∨ a = 76 ∨ (167 ≤ a ∧ a ≤ 170)) → h1 a = h a := fun a ha => funext (fun i => e a i (by omega))
  unfold J11
  rw [e' 75 (by omega), e' 76 (by omega), e' 167 (by omega), e' 168 (by omega), e' 169 (by omega), e' 170 (by omega), e 72 4 (by omega), e 72 6 (by omega), e 143 37 (by omega), e 143 38 (by omega)]
  exact j
/-- 12: tapes -/
def Tap (h : Hp) (d : Nat) : Prop := h (101 + 7 * d) 0 = h 171 d ∧ (0 ≤ h 171 d ∧ h 171 d ≤ 5) ∧ (h 171 d ≠ 0 → h (101 + 7 * d) 1 = h 172 d ∧ 0 ≤ h 172 d ∧ h 172 d ≤ 256 ∧ ∀ i : Nat, (i : Int) < h 172 d → h (101 + 7 * d + 1) i = h 173 (256 * d + i)) ∧
  (h 171 d = 5 → Pl 40 (101 + 7 * d + 2) h ∧ PRel (101 + 7 * d + 2) d h)
def J12 (h : Hp) : Prop := ∀ d, d < 6 → h 98 d = 101 + 7 * d ∧ Tap h d
theorem J12_tr {h h1 : Hp} (e : ∀ a i, (a = 98 ∨ (101 ≤ a ∧ a ≤ 142) ∨ (171 ≤ a ∧ a ≤ 183)) → h1 a i = h a i) (j : J12 h) : J12 h1 := by
  intro d hd
  obtain ⟨j0, j1, j2, j3, j4⟩ := j d hd
  unfold Tap
  rw [e 98 d (by omega), e (101 + 7 * d) 0 (by omega), e (101 + 7 * d) 1 (by omega), e 171 d (by omega), e 172 d (by omega)]
  refine ⟨j0, j1, j2, fun hh => ?_, fun hh => ?_⟩
  · obtain ⟨k1, k2, k3, k4⟩ := j3 hh
    exact ⟨k1, k2, k3, fun i hi => by rw [e _ i (by omega), e 173 _ (by omega)]; exact k4 i hi⟩
  · obtain ⟨k1, k2⟩ := j4 hh
    exact ⟨Pl_tr (fun a i hh => e a i (by omega)) k1, PRel_tr (fun a i hh => e a i (by omega)) k2⟩
/-- 13: delays -/
def J13 (h : Hp) : Prop := ∀ k, k < 9 → h 99 k = h 156 k ∧ 0 ≤ h 99 k ∧ h 99 k ≤ 9
theorem J13_tr {h h1 : Hp} (e : ∀ a i, (a = 99 ∨ a = 156) → h1 a i = h a i) (j : J13 h) : J13 h1 := fun k hk => by
  rw [e 99 k (by omega), e 156 k (by omega)]; exact j k hk
/-- 14: costs that the model has reckoned -/
def wid (m f : Int) : Int := if m = 3 then f else if m = 2 then f * 17 else if m = 1 then f * 85 else f * 255
def cst (m f : Int) : Int := prcC (wid m f).toNat
def J14 (h : Hp) : Prop := (∀ m : Nat, m < 4 → (h 192 m = 0 ∨ h 192 m = 1) ∧ (h 192 m = 1 → ∀ f : Nat, (f : Int) ≤ onI m → h 193 (256 * m + f) = cst m f)) ∧ (∀ k, k < 12 → h 155 k = 0 ∨ h 155 k = 1) ∧ ∀ i, i < 120 → h 184 i = 0 ∨ h 184 i = 1
theorem J14_tr {h h1 : Hp} (e : ∀ a i, (a = 155 ∨ a = 184 ∨ a = 192 ∨ a = 193) → h1 a i = h a i) (j : J14 h) : J14 h1 := by
  refine ⟨fun m hm => ?_, fun k hk => by rw [e 155 k (by omega)]; exact j.2.1 k hk, fun i hi => by rw [e 184 i (by omega)]; exact j.2.2 i hi⟩
  rw [e 192 m (by omega)]
  refine ⟨(j.1 m hm).1, fun hh f hf => ?_⟩
  rw [e 193 _ (by omega)]; exact (j.1 m hm).2 hh f hf
def Inv (n : Nat) (h : Hp) : Prop := J1 h ∧ RelN h ∧ J2 h ∧ J3 h ∧ J4 h ∧ J5 h ∧ J6 h ∧ J7 n h ∧ J8 h ∧ J9 h ∧ J10 h ∧ J11 h ∧ J12 h ∧ J13 h ∧ J14 h
/-- one call: both answer alike -/
def Both (n : Nat) (h : Hp) (X : Hp → OR) (Y : Hp → OR) : Prop := ∃ r h1 h2, X h = some (r, h1) ∧ Y h1 = some (r, h2) ∧ Inv (n + 1) h2
theorem Inv_up {n : Nat} {h : Hp} (hI : Inv n h) : Inv (n + 1) h := by
  obtain ⟨i1, i2, i3, i4, i5, i6, i7, i8, i9⟩ := hI
  exact ⟨i1, i2, i3, i4, i5, i6, i7, J7_tr (fun _ _ _ => rfl) i8, i9⟩
