/-- where a point is turned, in the order of the journal -/
def lgJ (pt : Int) (P : Nat → Int) (j : Nat) (acc : List (Int × Int × Int)) : List (Int × Int × Int) := if P j = pt then acc ++ [(0, ((j / 3 : Nat) : Int), ((j % 3 : Nat) : Int))] else acc
def lgE (o : Nat) (pt : Int) (E : Nat → Int) (k : Nat) (acc : List (Int × Int × Int)) : List (Int × Int × Int) := if E k = pt then acc ++ [if k < o then (1, (k : Int), 0) else (2, ((k - o : Nat) : Int), 0)] else acc
def sbR (lo hi : Nat) (pt w : Int) (P : Nat → Int) : Nat → Int := fun j => if lo ≤ j ∧ j < hi ∧ P j = pt then w else P j
theorem sbR_0 (lo : Nat) (pt w : Int) (P : Nat → Int) : sbR lo lo pt w P = P := funext (fun j => by unfold sbR; rw [if_neg (by omega)])
theorem sbR_hit {lo j : Nat} {pt w : Int} {P : Nat → Int} (h : lo ≤ j) (hp : P j = pt) : (fun i => if i = j then w else sbR lo j pt w P i) = sbR lo (j + 1) pt w P := by
  funext i
  unfold sbR
  by_cases t : i = j
  · subst t; rw [if_pos rfl, if_pos ⟨h, by omega, hp⟩]
  · rw [if_neg t]
    by_cases u : lo ≤ i ∧ i < j ∧ P i = pt
    · rw [if_pos u, if_pos ⟨u.1, by omega, u.2.2⟩]
    · rw [if_neg u, if_neg (fun v => u ⟨v.1, by omega, v.2.2⟩)]
theorem sbR_no {lo j : Nat} {pt w : Int} {P : Nat → Int} (hp : P j ≠ pt) : sbR lo (j + 1) pt w P = sbR lo j pt w P := by
  funext i
  unfold sbR
  by_cases u : lo ≤ i ∧ i < j ∧ P i = pt
  · rw [if_pos u, if_pos ⟨u.1, by omega, u.2.2⟩]
  · rw [if_neg u, if_neg (fun v => u ⟨v.1, by
      by_cases t : i = j
      · subst t; exact absurd v.2.2 hp
      · omega, v.2.2⟩)]
theorem sbR_at {lo j : Nat} {pt w : Int} {P : Nat → Int} : sbR lo j pt w P j = P j := by unfold sbR; rw [if_neg (by omega)]
theorem lgJ_len (pt : Int) (P : Nat → Int) : ∀ d j acc, acc.length ≤ (frB (lgJ pt P) d j acc).length := by
  intro d
  induction d with
  | zero => intro j acc; exact Nat.le_refl _
  | succ d ih =>
    intro j acc
    have := ih (j + 1) (lgJ pt P j acc)
    have e : acc.length ≤ (lgJ pt P j acc).length := by
      unfold lgJ; split
      · rw [List.length_append]; omega
      · exact Nat.le_refl _
    show _ ≤ (frB (lgJ pt P) d (j + 1) (lgJ pt P j acc)).length
    omega
theorem lgE_len (o : Nat) (pt : Int) (E : Nat → Int) : ∀ d j acc, acc.length ≤ (frB (lgE o pt E) d j acc).length := by
  intro d
  induction d with
  | zero => intro j acc; exact Nat.le_refl _
  | succ d ih =>
    intro j acc
    have := ih (j + 1) (lgE o pt E j acc)
    have e : acc.length ≤ (lgE o pt E j acc).length := by
      unfold lgE; split
      · rw [List.length_append]; omega
      · exact Nat.le_refl _
    show _ ≤ (frB (lgE o pt E) d (j + 1) (lgE o pt E j acc)).length
    omega
/-- all of a point's turns -/
def lgA (s n o c : Nat) (pt : Int) (P E : Nat → Int) (acc : List (Int × Int × Int)) : List (Int × Int × Int) := frB (lgE o pt E) (c - 0) 0 (frB (lgJ pt P) (3 * (s + n) - 3 * s) (3 * s) acc)
/-- a journal's rows hold a list -/
def LgC (LG : List (Int × Int × Int)) (g : Hp) : Prop := g 72 4 = ((LG.length : Nat) : Int) ∧ ∀ i e, LG[i]? = some e → g 75 (3 * i) = e.1 ∧ g 75 (3 * i + 1) = e.2.1 ∧ g 75 (3 * i + 2) = e.2.2
def LgM (LG : List (Int × Int × Int)) (g : Hp) : Prop := g 143 37 = ((LG.length : Nat) : Int) ∧ ∀ i e, LG[i]? = some e → g 167 i = e.1 ∧ g 168 i = e.2.1 ∧ g 169 i = e.2.2
theorem last_get {LG : List (Int × Int × Int)} {x e : Int × Int × Int} {i : Nat} (h : (LG ++ [x])[i]? = some e) : (i = LG.length ∧ e = x) ∨ (i ≠ LG.length ∧ LG[i]? = some e) := by
  by_cases t : i < LG.length
  · rw [List.getElem?_append_left t] at h
    exact Or.inr ⟨by omega, h⟩
  · rw [List.getElem?_append_right (by omega)] at h
    by_cases u : i = LG.length
    · subst u
      rw [Nat.sub_self] at h
      exact Or.inl ⟨rfl, (Option.some.inj h).symm⟩
    · have : (i - LG.length) = (i - LG.length - 1) + 1 := by omega
      rw [this] at h
      simp at h
theorem note_ok {LG : List (Int × Int × Int)} {g : Hp} (c : LgC LG g) (hl : LG.length < 126) (x y z : Int) : ∃ g2, XX3_note x y z g = some (0, g2) ∧ LgC (LG ++ [(x, y, z)]) g2 ∧ ∀ a i, ¬ (a = 75 ∨ (a = 72 ∧ i = 4)) → g2 a i = g a i := by
  obtain ⟨c1, c2⟩ := c
  unfold XX3_note
  have e1 : ∀ (x : Hp) (i : Nat) (v : Int), wr x 75 i v 72 4 = x 72 4 := fun x i v => wq_ne (by omega)
  simp only [hm_eq, e1]
  rw [c1, chk_pos (by omega), chk_pos (by omega), if_neg (by omega), chk_pos (by omega), inb_pos (by omega), chk_pos (by omega), chk_pos (by omega), inb_pos (by omega), chk_pos (by omega), chk_pos (by omega), inb_pos (by omega), chk_pos (by omega)]
  rw [show (3 * (((LG.length : Nat) : Int))).toNat = 3 * LG.length by omega, show (3 * (((LG.length : Nat) : Int)) + 1).toNat = 3 * LG.length + 1 by omega, show (3 * (((LG.length : Nat) : Int)) + 2).toNat = 3 * LG.length + 2 by omega]
  refine ⟨_, rfl, ⟨?_, fun i e he => ?_⟩, fun a i hh => ?_⟩
  · rw [wr_at, List.length_append]; show _ = ((LG.length + 1 : Nat) : Int); omega
  · rw [wr_ne (show (75 : Nat) ≠ 72 by omega), wr_row, wr_row, wr_row, wr_row, wr_row, wr_row, wr_row, wr_row, wr_row]
    rcases last_get he with ⟨rfl, rfl⟩ | ⟨t, he⟩
    · rw [if_neg (by omega), if_neg (by omega), if_pos rfl, if_neg (by omega), if_pos rfl, if_pos rfl]
      exact ⟨rfl, rfl, rfl⟩
    · rw [if_neg (by omega), if_neg (by omega), if_neg (by omega), if_neg (by omega), if_neg (by omega), if_neg (by omega), if_neg (by omega), if_neg (by omega), if_neg (by omega)]
      exact c2 i e he
  · rw [wq_ne (by omega), wq_ne (by omega), wq_ne (by omega), wq_ne (by omega)]
theorem changes_ok {LG : List (Int × Int × Int)} {g : Hp} (c : LgM LG g) (hl : LG.length < 126) (x y z : Int) : ∃ g2, XX12_changes x y z g = some (0, g2) ∧ LgM (LG ++ [(x, y, z)]) g2 ∧ ∀ a i, ¬ ((167 ≤ a ∧ a ≤ 169) ∨ (a = 143 ∧ i = 37)) → g2 a i = g a i := by
  obtain ⟨c1, c2⟩ := c
  unfold XX12_changes
  have e1 : ∀ (x : Hp) (a i : Nat) (v : Int), a ≠ 143 → wr x a i v 143 37 = x 143 37 := fun x a i v ha => wq_ne (by omega)
  rw [c1, inb_pos (by omega), hm_eq, e1 _ _ _ _ (by decide), c1, inb_pos (by omega), hm_eq, e1 _ _ _ _ (by decide), e1 _ _ _ _ (by decide), c1, inb_pos (by omega), hm_eq, e1 _ _ _ _ (by decide), e1 _ _ _ _ (by decide), e1 _ _ _ _ (by decide), c1, chk_pos (by omega), hm_eq, Int.toNat_natCast]
  refine ⟨_, rfl, ⟨?_, fun i e he => ?_⟩, fun a i hh => ?_⟩
  · rw [wr_at, List.length_append]; show _ = ((LG.length + 1 : Nat) : Int); omega
  · rw [wq_ne (show ¬ (167 = 143 ∧ _) by omega), wq_ne (show ¬ (168 = 143 ∧ _) by omega), wq_ne (show ¬ (169 = 143 ∧ _) by omega), wr_ne (show (167 : Nat) ≠ 169 by omega), wr_ne (show (167 : Nat) ≠ 168 by omega), wr_row, wr_ne (show (168 : Nat) ≠ 169 by omega), wr_row, wr_ne (show (168 : Nat) ≠ 167 by omega), wr_row, wr_ne (show (169 : Nat) ≠ 168 by omega), wr_ne (show (169 : Nat) ≠ 167 by omega)]
    rcases last_get he with ⟨rfl, rfl⟩ | ⟨t, he⟩
    · rw [if_pos rfl, if_pos rfl, if_pos rfl]; exact ⟨rfl, rfl, rfl⟩
    · rw [if_neg t, if_neg t, if_neg t]; exact c2 i e he
  · rw [wq_ne (by omega), wq_ne (by omega), wq_ne (by omega), wq_ne (by omega)]
theorem LgC_tr {LG : List (Int × Int × Int)} {g f : Hp} (e : ∀ a i, (a = 75 ∨ (a = 72 ∧ i = 4)) → f a i = g a i) (c : LgC LG g) : LgC LG f := ⟨by rw [e 72 4 (by omega)]; exact c.1, fun i x hx => by rw [e 75 _ (by omega), e 75 _ (by omega), e 75 _ (by omega)]; exact c.2 i x hx⟩
theorem LgM_tr {LG : List (Int × Int × Int)} {g f : Hp} (e : ∀ a i, ((167 ≤ a ∧ a ≤ 169) ∨ (a = 143 ∧ i = 37)) → f a i = g a i) (c : LgM LG g) : LgM LG f := ⟨by rw [e 143 37 (by omega)]; exact c.1, fun i x hx => by rw [e 167 _ (by omega), e 168 _ (by omega), e 169 _ (by omega)]; exact c.2 i x hx⟩
/-- pins that are not there are turned by nothing -/
theorem lgJ_skip {pt : Int} {P : Nat → Int} {N : Nat} : ∀ (d j : Nat) (acc : List (Int × Int × Int)), j + d ≤ N → (∀ i, j ≤ i → i < j + d → P i ≠ pt) → frB (lgJ pt P) (N - j) j acc = frB (lgJ pt P) (N - (j + d)) (j + d) acc := by
  intro d
  induction d with
  | zero => intro j acc _ _; rfl
  | succ d ih =>
    intro j acc hj hp
    rw [frB_step (by omega)]
    have : lgJ pt P j acc = acc := by unfold lgJ; rw [if_neg (hp j (by omega) (by omega))]
    rw [this, ih (j + 1) acc (by omega) (fun i h1 h2 => hp i (by omega) (by omega)), show j + 1 + d = j + (d + 1) by omega]
theorem sbR_skip {lo : Nat} {pt w : Int} {P : Nat → Int} : ∀ (d j : Nat), (∀ i, j ≤ i → i < j + d → P i ≠ pt) → sbR lo (j + d) pt w P = sbR lo j pt w P := by
  intro d
  induction d with
  | zero => intro j _; rfl
  | succ d ih =>
    intro j hp
    rw [show j + (d + 1) = (j + d) + 1 by omega, sbR_no (hp (j + d) (by omega) (by omega))]
    exact ih j (fun i h1 h2 => hp i h1 (by omega))
/-- kinds and pins as turning wants them -/
def KpT (s n : Nat) (K P : Nat → Int) : Prop := ∀ w : Nat, s ≤ w → w < s + n → (0 ≤ K w ∧ K w ≤ 8) ∧ ∀ k : Nat, k < 3 → pinC (K w).toNat ≤ k → P (3 * w + k) = -1
/-- the class replaces a point -/
theorem replace_ok {B g : Hp} {s n o c : Nat} {pt w : Int} {P E : Nat → Int} {LG F : List (Int × Int × Int)} (hN : Nums 40 18 B) (hs : sc 18 B = (s : Int)) (hn : B 18 3 = (n : Int)) (ho : B 18 2 = (o : Int)) (hc : B 18 2 + B 18 1 = (c : Int)) (hK : KpT s n (B 19) P) (hpt : 0 ≤ pt) (hF : lgA s n o c pt P E LG = F) (hl : F.length ≤ 126) (e : ∀ a i, ¬ ((20 ≤ a ∧ a ≤ 21) ∨ a = 75 ∨ (a = 72 ∧ i = 4)) → g a i = B a i) (e20 : g 20 = P) (e21 : g 21 = E) (lg : LgC LG g) : En (XX3_replace 18 pt w g) (fun _ f => (∀ a i, ¬ ((20 ≤ a ∧ a ≤ 21) ∨ a = 75 ∨ (a = 72 ∧ i = 4)) → f a i = B a i) ∧ f 20 = sbR (3 * s) (3 * (s + n)) pt w P ∧ f 21 = sbR 0 c pt w E ∧ LgC F f) := by
  have lt := Pl_lt (by decide) hN
  have hw : wn 18 B = ((s + n : Nat) : Int) := by unfold wn; unfold sc at hs; omega
  have o18 : o ≤ 4 ∧ c ≤ 6 := by unfold Nums at hN; omega
  have nums : ∀ x : Hp, (∀ a i, ¬ ((20 ≤ a ∧ a ≤ 21) ∨ a = 75 ∨ (a = 72 ∧ i = 4)) → x a i = B a i) → Nums 40 18 x := fun x ex => Nums_congr (funext (fun i => ex 18 i (by omega))) hN
  -- what is seen
  have seen : ∀ g0 : Hp, (∀ a i, ¬ ((20 ≤ a ∧ a ≤ 21) ∨ a = 75 ∨ (a = 72 ∧ i = 4)) → g0 a i = B a i) → g0 20 = sbR (3 * s) (3 * (s + n)) pt w P → g0 21 = E → ∀ L0, LgC L0 g0 → frB (lgE o pt E) (c - 0) 0 L0 = F → En (XX3_replace_L87 18 pt w 0 g0) (fun _ f => (∀ a i, ¬ ((20 ≤ a ∧ a ≤ 21) ∨ a = 75 ∨ (a = 72 ∧ i = 4)) → f a i = B a i) ∧ f 20 = sbR (3 * s) (3 * (s + n)) pt w P ∧ f 21 = sbR 0 c pt w E ∧ LgC F f) := by
    intro g0 e0 e200 e210 L0 lg0 eF
    unfold XX3_replace_L87
    refine En_lup3 (fun _ _ l _ => (20 - l).toNat) (fun l2 l3 l x => pt = l2 ∧ w = l3 ∧ ∃ k : Nat, l = (k : Int) ∧ k ≤ c ∧ (∀ a i, ¬ ((20 ≤ a ∧ a ≤ 21) ∨ a = 75 ∨ (a = 72 ∧ i = 4)) → x a i = B a i) ∧ x 20 = sbR (3 * s) (3 * (s + n)) pt w P ∧ x 21 = sbR 0 k pt w E ∧ ∃ L, LgC L x ∧ frB (lgE o pt E) (c - k) k L = F) ?_ FU _ _ _ _ (by unfold FU; omega) ⟨rfl, rfl, 0, rfl, Nat.zero_le _, e0, e200, by rw [sbR_0]; exact e210, L0, lg0, eF⟩
    rintro self l2 l3 l x ih ⟨rfl, rfl, k, rfl, hk, ex, x20, x21, L, lgx, eL⟩
    have x21k : x 21 k = E k := by rw [x21, sbR_at]
    unfold XX3_replace_b87
    rw [seenCount_eq (nums x ex), cal_eq, ex 18 2 (by omega), ex 18 1 (by omega), hc]
    by_cases q : (c : Int) ≤ (k : Int)
    · rw [if_pos q]
      rw [frB_end (by omega)] at eL
      have : k = c := by omega
      subst this; subst eL
      exact En_some ⟨ex, x20, x21, lgx⟩
    rw [if_neg q, inb_pos (by omega), show 18 + 3 = 21 from rfl, Int.toNat_natCast, x21k]
    rw [frB_step (by omega)] at eL
    by_cases q2 : E k = pt
    · have eL2 : lgE o pt E k L = L ++ [if k < o then (1, (k : Int), 0) else (2, ((k - o : Nat) : Int), 0)] := by unfold lgE; rw [if_pos q2]
      rw [eL2] at eL
      have hll : L.length < 126 := by
        have a := lgE_len o pt E (c - (k + 1)) (k + 1) (L ++ [if k < o then (1, (k : Int), 0) else (2, ((k - o : Nat) : Int), 0)])
        rw [eL, List.length_append] at a
        have : [if k < o then ((1 : Int), (k : Int), (0 : Int)) else (2, ((k - o : Nat) : Int), 0)].length = 1 := rfl
        omega
      have o2 : ∀ a i, ¬ (a = 21 ∧ i = k) → wr x 21 k w a i = x a i := fun a i hh => wq_ne hh
      have r21 : wr x 21 k w 21 = sbR 0 (k + 1) pt w E := by
        rw [← sbR_hit (Nat.zero_le _) q2, ← x21]
        funext i
        exact wr_row x 21 k w i
      have fin : ∀ y z : Int, (y, z, (0 : Int)) = (if k < o then (1, (k : Int), 0) else (2, ((k - o : Nat) : Int), 0)) → En (XX3_replace_p159 18 self pt w k y z (wr x 21 k w)) (fun _ f => (∀ a i, ¬ ((20 ≤ a ∧ a ≤ 21) ∨ a = 75 ∨ (a = 72 ∧ i = 4)) → f a i = B a i) ∧ f 20 = sbR (3 * s) (3 * (s + n)) pt w P ∧ f 21 = sbR 0 c pt w E ∧ LgC F f) := by
        intro y z hyz
        unfold XX3_replace_p159
        obtain ⟨x2, en, lg2, k2⟩ := note_ok (LgC_tr (fun a i hh => o2 a i (by omega)) lgx) hll y z 0
        rw [en, cal_eq]
        unfold XX3_replace_p163
        rw [chk_pos (by omega)]
        refine ih _ _ _ _ (by omega) ⟨rfl, rfl, k + 1, by omega, by omega, fun a i hh => by rw [k2 a i (by omega), o2 a i (by omega)]; exact ex a i hh, ?_, ?_, _, lg2, by rw [hyz]; exact eL⟩
        · rw [← x20]; exact funext (fun i => by rw [k2 20 i (by omega), o2 20 i (by omega)])
        · rw [← r21]; exact funext (fun i => k2 21 i (by omega))
      rw [if_pos q2, inb_pos (by omega), hm_eq, o2 18 2 (by omega), ex 18 2 (by omega), ho]
      by_cases q3 : (o : Int) ≤ (k : Int)
      · rw [if_pos q3]
        unfold XX3_replace_p129 XX3_replace_p142
        rw [if_pos rfl, if_pos rfl, o2 18 2 (by omega), ex 18 2 (by omega), ho, chk_pos (by omega)]
        refine fin 2 _ ?_
        rw [if_neg (by omega), show ((k - o : Nat) : Int) = (k : Int) - (o : Int) by omega]
      · rw [if_neg q3]
        unfold XX3_replace_p129 XX3_replace_p142
        rw [if_neg n10, if_neg n10]
        exact fin 1 _ (by rw [if_pos (by omega)])
    · have eL2 : lgE o pt E k L = L := by unfold lgE; rw [if_neg q2]
      rw [eL2] at eL
      rw [if_neg q2]
      unfold XX3_replace_p163
      rw [chk_pos (by omega)]
      exact ih _ _ _ _ (by omega) ⟨rfl, rfl, k + 1, by omega, by omega, ex, x20, by rw [sbR_no q2]; exact x21, L, lgx, eL⟩
  unfold XX3_replace
  have hNg := nums g e
  have hsg : sc 18 g = (s : Int) := by rw [← hs]; exact sc_congr (funext (fun i => e 18 i (by omega)))
  rw [sources_eq hNg, cal_eq, hsg]
  unfold XX3_replace_L6
  refine En_lup3 (fun _ _ l _ => (60 - l).toNat) (fun l2 l3 l x => pt = l2 ∧ w = l3 ∧ ∃ v : Nat, l = (v : Int) ∧ s ≤ v ∧ v ≤ s + n ∧ (∀ a i, ¬ ((20 ≤ a ∧ a ≤ 21) ∨ a = 75 ∨ (a = 72 ∧ i = 4)) → x a i = B a i) ∧ x 20 = sbR (3 * s) (3 * v) pt w P ∧ x 21 = E ∧ ∃ L, LgC L x ∧ frB (lgE o pt E) (c - 0) 0 (frB (lgJ pt P) (3 * (s + n) - 3 * v) (3 * v) L) = F) ?_ FU _ _ _ _ (by unfold FU; omega) ⟨rfl, rfl, s, rfl, Nat.le_refl _, by omega, e, by rw [sbR_0]; exact e20, e21, LG, lg, hF⟩
  rintro self l2 l3 l x ih ⟨rfl, rfl, v, rfl, hv1, hv2, ex, x20, x21, L, lgx, eL⟩
  have hwx : wn 18 x = ((s + n : Nat) : Int) := by rw [← hw]; exact wn_congr (funext (fun i => ex 18 i (by omega)))
  unfold XX3_replace_b6
  rw [wires_eq (by decide) (nums x ex), cal_eq, hwx]
  by_cases q : ((s + n : Nat) : Int) ≤ (v : Int)
  · rw [if_pos q]
    have : v = s + n := by omega
    subst this
    rw [Nat.sub_self] at eL
    exact seen x ex x20 x21 L lgx eL
  rw [if_neg q]
  obtain ⟨kv, kp⟩ := hK v hv1 (by omega)
  have pb := pinC_b (B 19 v).toNat
  unfold XX3_replace_L18
  refine En_lup4 (fun _ _ _ l5 _ => (5 - l5).toNat) (fun l2 l3 l4 l5 y => pt = l2 ∧ w = l3 ∧ (v : Int) = l4 ∧ ∃ k : Nat, l5 = (k : Int) ∧ (k : Int) ≤ pinC (B 19 v).toNat ∧ (∀ a i, ¬ ((20 ≤ a ∧ a ≤ 21) ∨ a = 75 ∨ (a = 72 ∧ i = 4)) → y a i = B a i) ∧ y 20 = sbR (3 * s) (3 * v + k) pt w P ∧ y 21 = E ∧ ∃ L, LgC L y ∧ frB (lgE o pt E) (c - 0) 0 (frB (lgJ pt P) (3 * (s + n) - (3 * v + k)) (3 * v + k) L) = F) ?_ FU _ _ _ _ _ (by unfold FU; omega) ⟨rfl, rfl, rfl, 0, rfl, by omega, ex, x20, x21, L, lgx, eL⟩
  clear eL lgx x20 x21 ex hwx
  rintro self2 l2 l3 l4 l5 y ih2 ⟨rfl, rfl, rfl, k, rfl, hk, ey, y20, y21, L2, lgy, eL2⟩
  unfold XX3_replace_b18
  have y19 : y 19 v = B 19 v := ey 19 v (by omega)
  rw [inb_pos (by omega), show 18 + 1 = 19 from rfl, show 18 + 2 = 20 from rfl, Int.toNat_natCast, y19, inb_pos (by omega)]
  by_cases q2 : pinC (B 19 v).toNat ≤ (k : Int)
  · rw [if_pos q2, chk_pos (by omega)]
    have hno : ∀ i, 3 * v + k ≤ i → i < 3 * v + k + (3 - k) → P i ≠ pt := fun i h1 h2 => by
      have := kp (i - 3 * v) (by omega) (by omega)
      rw [show 3 * v + (i - 3 * v) = i by omega] at this
      omega
    have h3 : 3 * v + k + (3 - k) = 3 * (v + 1) := by omega
    refine ih _ _ _ _ (by omega) ⟨rfl, rfl, v + 1, by omega, by omega, by omega, ey, ?_, y21, L2, lgy, ?_⟩
    · rw [y20, ← h3, sbR_skip (3 - k) (3 * v + k) hno]
    · rw [lgJ_skip (3 - k) (3 * v + k) L2 (by omega) hno, h3] at eL2
      exact eL2
  · have y20k : y 20 (3 * v + k) = P (3 * v + k) := by rw [y20, sbR_at]
    rw [if_neg q2, chk_pos (by omega), chk_pos (by omega), inb_pos (by omega), show (3 * (v : Int) + (k : Int)).toNat = 3 * v + k by omega, y20k]
    rw [frB_step (f := lgJ pt P) (by omega)] at eL2
    by_cases q3 : P (3 * v + k) = pt
    · have eA : lgJ pt P (3 * v + k) L2 = L2 ++ [(0, (v : Int), (k : Int))] := by
        unfold lgJ
        rw [if_pos q3, show (3 * v + k) / 3 = v by omega, show (3 * v + k) % 3 = k by omega]
      rw [eA] at eL2
      have hll : L2.length < 126 := by
        have a := lgJ_len pt P (3 * (s + n) - (3 * v + k + 1)) (3 * v + k + 1) (L2 ++ [(0, (v : Int), (k : Int))])
        have b := lgE_len o pt E (c - 0) 0 (frB (lgJ pt P) (3 * (s + n) - (3 * v + k + 1)) (3 * v + k + 1) (L2 ++ [(0, (v : Int), (k : Int))]))
        rw [eL2] at b
        rw [List.length_append] at a
        have : [((0 : Int), (v : Int), (k : Int))].length = 1 := rfl
        omega
      have o2 : ∀ a i, ¬ (a = 20 ∧ i = 3 * v + k) → wr y 20 (3 * v + k) w a i = y a i := fun a i hh => wq_ne hh
      have r20 : wr y 20 (3 * v + k) w 20 = sbR (3 * s) (3 * v + k + 1) pt w P := by
        rw [← sbR_hit (by omega) q3, ← y20]
        funext i
        exact wr_row y 20 (3 * v + k) w i
      obtain ⟨x2, en, lg2, k2⟩ := note_ok (LgC_tr (fun a i hh => o2 a i (by omega)) lgy) hll 0 v k
      rw [if_pos q3, chk_pos (by omega), chk_pos (by omega), inb_pos (by omega), hm_eq, en, cal_eq]
      unfold XX3_replace_p72
      rw [chk_pos (by omega)]
      refine ih2 _ _ _ _ _ (by omega) ⟨rfl, rfl, rfl, k + 1, by omega, by omega, fun a i hh => by rw [k2 a i (by omega), o2 a i (by omega)]; exact ey a i hh, ?_, ?_, _, lg2, eL2⟩
      · rw [show 3 * v + (k + 1) = 3 * v + k + 1 by omega, ← r20]; exact funext (fun i => k2 20 i (by omega))
      · rw [← y21]; exact funext (fun i => by rw [k2 21 i (by omega), o2 21 i (by omega)])
    · have eA : lgJ pt P (3 * v + k) L2 = L2 := by unfold lgJ; rw [if_neg q3]
      rw [eA] at eL2
      rw [if_neg q3]
      unfold XX3_replace_p72
      rw [chk_pos (by omega)]
      exact ih2 _ _ _ _ _ (by omega) ⟨rfl, rfl, rfl, k + 1, by omega, by omega, ey, by rw [show 3 * v + (k + 1) = 3 * v + k + 1 by omega, sbR_no q3]; exact y20, y21, L2, lgy, eL2⟩
