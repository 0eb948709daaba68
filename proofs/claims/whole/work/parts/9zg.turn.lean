/-- OLD's pins and what is seen of it, as the model has them -/
def TnM (B : Hp) (o c : Nat) (P E : Nat → Int) (g : Hp) : Prop :=
  (∀ a i, ¬ ((146 ≤ a ∧ a ≤ 148) ∨ (167 ≤ a ∧ a ≤ 169) ∨ (a = 143 ∧ i = 37)) → g a i = B a i) ∧ ((∀ j, j < 144 → g 146 j = P j) ∧ ∀ j, 144 ≤ j → g 146 j = B 146 j) ∧ ((∀ k, k < o → g 147 k = E k) ∧ ∀ k, o ≤ k → g 147 k = B 147 k) ∧ ((∀ k, k < c - o → g 148 k = E (o + k)) ∧ ∀ k, c - o ≤ k → g 148 k = B 148 k)
theorem TnM_rows {B g f : Hp} {o c : Nat} {P E P2 E2 : Nat → Int} (t : TnM B o c P E g) (e : ∀ a i, ¬ ((146 ≤ a ∧ a ≤ 148) ∨ (167 ≤ a ∧ a ≤ 169) ∨ (a = 143 ∧ i = 37)) → f a i = g a i) (hP : (∀ j, j < 144 → f 146 j = P2 j) ∧ ∀ j, 144 ≤ j → f 146 j = g 146 j) (hO : (∀ k, k < o → f 147 k = E2 k) ∧ ∀ k, o ≤ k → f 147 k = g 147 k) (hE : (∀ k, k < c - o → f 148 k = E2 (o + k)) ∧ ∀ k, c - o ≤ k → f 148 k = g 148 k) : TnM B o c P2 E2 f :=
  ⟨fun a i hh => by rw [e a i hh]; exact t.1 a i hh, ⟨hP.1, fun j hj => by rw [hP.2 j hj]; exact t.2.1.2 j hj⟩, ⟨hO.1, fun j hj => by rw [hO.2 j hj]; exact t.2.2.1.2 j hj⟩, ⟨hE.1, fun j hj => by rw [hE.2 j hj]; exact t.2.2.2.2 j hj⟩⟩
theorem TnM_tr {B g f : Hp} {o c : Nat} {P E : Nat → Int} (t : TnM B o c P E g) (e : ∀ a i, ¬ ((167 ≤ a ∧ a ≤ 169) ∨ (a = 143 ∧ i = 37)) → f a i = g a i) : TnM B o c P E f :=
  TnM_rows t (fun a i hh => e a i (by omega)) ⟨fun j hj => by rw [e 146 j (by omega)]; exact t.2.1.1 j hj, fun j _ => e 146 j (by omega)⟩ ⟨fun j hj => by rw [e 147 j (by omega)]; exact t.2.2.1.1 j hj, fun j _ => e 147 j (by omega)⟩ ⟨fun j hj => by rw [e 148 j (by omega)]; exact t.2.2.2.1 j hj, fun j _ => e 148 j (by omega)⟩
theorem sb_pt {lo j : Nat} {pt w : Int} {P : Nat → Int} (h : lo ≤ j) (hp : P j = pt) (i : Nat) : sbR lo (j + 1) pt w P i = if i = j then w else sbR lo j pt w P i := (congrFun (sbR_hit h hp) i).symm
/-- the model turns a point -/
theorem turns_ok {B g : Hp} {s n o c : Nat} {pt w : Int} {P E : Nat → Int} {LG F : List (Int × Int × Int)} (hM : MN B) (hs : sM B = (s : Int)) (hn : B 144 0 = (n : Int)) (ho : B 143 3 = (o : Int)) (hc : B 143 2 = ((c - o : Nat) : Int)) (hoc : o ≤ c) (hK : KpT s n (B 145) P) (hpt : 0 ≤ pt) (hF : lgA s n o c pt P E LG = F) (hl : F.length ≤ 126) (t : TnM B o c P E g) (lg : LgM LG g) : En (XX12_turns pt w g) (fun _ f => TnM B o c (sbR (3 * s) (3 * (s + n)) pt w P) (sbR 0 c pt w E) f ∧ LgM F f) := by
  have lt := MN_lt hM (e := 0) (by omega)
  have t0 : (0 : Int).toNat = 0 := rfl
  have hw : nM 0 B = ((s + n : Nat) : Int) := by rw [lt.2.2.2.2.1, hs, t0, hn]; omega
  have o18 : o ≤ 4 ∧ c - o ≤ 2 := by unfold MN at hM; omega
  have num : ∀ (P2 E2 : Nat → Int) (x : Hp), TnM B o c P2 E2 x → MN x ∧ sM x = (s : Int) ∧ nM 0 x = ((s + n : Nat) : Int) ∧ x 143 3 = (o : Int) ∧ x 143 2 = ((c - o : Nat) : Int) := by
    intro P2 E2 x tx
    have z : ∀ i, i ≤ 3 → x 143 i = B 143 i := fun i hi => tx.1 143 i (by omega)
    have z0 : x 144 0 = B 144 0 := tx.1 144 0 (by omega)
    have z1 : x 144 1 = B 144 1 := tx.1 144 1 (by omega)
    have h1 : MN x := by unfold MN at *; rw [z 1 (by omega), z 2 (by omega), z 3 (by omega), z0, z1]; exact hM
    refine ⟨h1, by rw [← hs]; exact sM_congr (z 1 (by omega)) (z 2 (by omega)), ?_, by rw [z 3 (by omega)]; exact ho, by rw [z 2 (by omega)]; exact hc⟩
    rw [← hw]; unfold nM; rw [z 1 (by omega), z 2 (by omega), t0, z0]
  -- the nexts
  have nexts : ∀ (g0 : Hp) (L0 : List (Int × Int × Int)), TnM B o c (sbR (3 * s) (3 * (s + n)) pt w P) (sbR 0 o pt w E) g0 → LgM L0 g0 → frB (lgE o pt E) (c - o) o L0 = F → En (XX12_turns_L120 pt w 0 g0) (fun _ f => TnM B o c (sbR (3 * s) (3 * (s + n)) pt w P) (sbR 0 c pt w E) f ∧ LgM F f) := by
    intro g0 L0 tg lg0 eF
    unfold XX12_turns_L120
    refine En_lup3 (fun _ _ l _ => (20 - l).toNat) (fun l2 l3 l x => pt = l2 ∧ w = l3 ∧ ∃ k : Nat, l = (k : Int) ∧ o + k ≤ c ∧ TnM B o c (sbR (3 * s) (3 * (s + n)) pt w P) (sbR 0 (o + k) pt w E) x ∧ ∃ L, LgM L x ∧ frB (lgE o pt E) (c - (o + k)) (o + k) L = F) ?_ FU _ _ _ _ (by unfold FU; omega) ⟨rfl, rfl, 0, rfl, hoc, tg, L0, lg0, eF⟩
    rintro self l2 l3 l x ih ⟨rfl, rfl, k, rfl, hk, tx, L, lgx, eL⟩
    obtain ⟨_, _, _, _, x2⟩ := num _ _ x tx
    unfold XX12_turns_b120
    rw [x2]
    by_cases q : ((c - o : Nat) : Int) ≤ (k : Int)
    · rw [if_pos q]
      rw [frB_end (by omega)] at eL
      have : o + k = c := by omega
      rw [this] at tx
      subst eL
      exact En_some ⟨tx, lgx⟩
    have xk : x 148 k = E (o + k) := by rw [tx.2.2.2.1 k (by omega), sbR_at]
    rw [if_neg q, inb_pos (by omega), Int.toNat_natCast, xk]
    rw [frB_step (by omega)] at eL
    by_cases q2 : E (o + k) = pt
    · have eL2 : lgE o pt E (o + k) L = L ++ [(2, (k : Int), 0)] := by unfold lgE; rw [if_pos q2, if_neg (by omega), show o + k - o = k by omega]
      rw [eL2] at eL
      have hll : L.length < 126 := by
        have a := lgE_len o pt E (c - (o + k + 1)) (o + k + 1) (L ++ [(2, (k : Int), 0)])
        rw [eL, List.length_append] at a
        have : [((2 : Int), (k : Int), (0 : Int))].length = 1 := rfl
        omega
      have o2 : ∀ a i, ¬ (a = 148 ∧ i = k) → wr x 148 k w a i = x a i := fun a i hh => wq_ne hh
      obtain ⟨x3, en, lg2, k2⟩ := changes_ok (LgM_tr (fun a i hh => o2 a i (by omega)) lgx) hll 2 k 0
      rw [if_pos q2, inb_pos (by omega), hm_eq, en, cal_eq]
      unfold XX12_turns_p152
      rw [chk_pos (by omega)]
      have t2 : TnM B o c (sbR (3 * s) (3 * (s + n)) pt w P) (sbR 0 (o + k + 1) pt w E) (wr x 148 k w) := TnM_rows tx (fun a i hh => o2 a i (by omega)) ⟨fun j hj => by rw [o2 146 j (by omega)]; exact tx.2.1.1 j hj, fun j _ => o2 146 j (by omega)⟩ ⟨fun j hj => by rw [o2 147 j (by omega), sb_pt (Nat.zero_le _) q2, if_neg (by omega)]; exact tx.2.2.1.1 j hj, fun j _ => o2 147 j (by omega)⟩ ⟨fun j hj => by
        rw [wr_row, sb_pt (Nat.zero_le _) q2]
        by_cases u : j = k
        · rw [if_pos u, if_pos (by omega)]
        · rw [if_neg u, if_neg (by omega)]; exact tx.2.2.2.1 j hj, fun j hj => by rw [wr_row, if_neg (by omega)]⟩
      exact ih _ _ _ _ (by omega) ⟨rfl, rfl, k + 1, by omega, by omega, TnM_tr t2 k2, _, lg2, eL⟩
    · have eL2 : lgE o pt E (o + k) L = L := by unfold lgE; rw [if_neg q2]
      rw [eL2] at eL
      rw [if_neg q2]
      unfold XX12_turns_p152
      rw [chk_pos (by omega)]
      exact ih _ _ _ _ (by omega) ⟨rfl, rfl, k + 1, by omega, by omega, by rw [show o + (k + 1) = o + k + 1 by omega, sbR_no q2]; exact tx, L, lgx, eL⟩
  -- the outs
  have outs : ∀ (g0 : Hp) (L0 : List (Int × Int × Int)), TnM B o c (sbR (3 * s) (3 * (s + n)) pt w P) E g0 → LgM L0 g0 → frB (lgE o pt E) (c - 0) 0 L0 = F → En (XX12_turns_L80 pt w 0 g0) (fun _ f => TnM B o c (sbR (3 * s) (3 * (s + n)) pt w P) (sbR 0 c pt w E) f ∧ LgM F f) := by
    intro g0 L0 tg lg0 eF
    unfold XX12_turns_L80
    refine En_lup3 (fun _ _ l _ => (20 - l).toNat) (fun l2 l3 l x => pt = l2 ∧ w = l3 ∧ ∃ k : Nat, l = (k : Int) ∧ k ≤ o ∧ TnM B o c (sbR (3 * s) (3 * (s + n)) pt w P) (sbR 0 k pt w E) x ∧ ∃ L, LgM L x ∧ frB (lgE o pt E) (c - k) k L = F) ?_ FU _ _ _ _ (by unfold FU; omega) ⟨rfl, rfl, 0, rfl, Nat.zero_le _, by rw [sbR_0]; exact tg, L0, lg0, eF⟩
    rintro self l2 l3 l x ih ⟨rfl, rfl, k, rfl, hk, tx, L, lgx, eL⟩
    obtain ⟨_, _, _, x3', _⟩ := num _ _ x tx
    unfold XX12_turns_b80
    rw [x3']
    by_cases q : (o : Int) ≤ (k : Int)
    · rw [if_pos q]
      have : k = o := by omega
      subst this
      exact nexts x L tx lgx eL
    have xk : x 147 k = E k := by rw [tx.2.2.1.1 k (by omega), sbR_at]
    rw [if_neg q, inb_pos (by omega), Int.toNat_natCast, xk]
    rw [frB_step (by omega)] at eL
    by_cases q2 : E k = pt
    · have eL2 : lgE o pt E k L = L ++ [(1, (k : Int), 0)] := by unfold lgE; rw [if_pos q2, if_pos (by omega)]
      rw [eL2] at eL
      have hll : L.length < 126 := by
        have a := lgE_len o pt E (c - (k + 1)) (k + 1) (L ++ [(1, (k : Int), 0)])
        rw [eL, List.length_append] at a
        have : [((1 : Int), (k : Int), (0 : Int))].length = 1 := rfl
        omega
      have o2 : ∀ a i, ¬ (a = 147 ∧ i = k) → wr x 147 k w a i = x a i := fun a i hh => wq_ne hh
      obtain ⟨x3, en, lg2, k2⟩ := changes_ok (LgM_tr (fun a i hh => o2 a i (by omega)) lgx) hll 1 k 0
      rw [if_pos q2, inb_pos (by omega), hm_eq, en, cal_eq]
      unfold XX12_turns_p112
      rw [chk_pos (by omega)]
      have t2 : TnM B o c (sbR (3 * s) (3 * (s + n)) pt w P) (sbR 0 (k + 1) pt w E) (wr x 147 k w) := TnM_rows tx (fun a i hh => o2 a i (by omega)) ⟨fun j hj => by rw [o2 146 j (by omega)]; exact tx.2.1.1 j hj, fun j _ => o2 146 j (by omega)⟩ ⟨fun j hj => by
        rw [wr_row, sb_pt (Nat.zero_le _) q2]
        by_cases u : j = k
        · rw [if_pos u, if_pos u]
        · rw [if_neg u, if_neg u]; exact tx.2.2.1.1 j hj, fun j hj => by rw [wr_row, if_neg (by omega)]⟩ ⟨fun j hj => by rw [o2 148 j (by omega), sb_pt (Nat.zero_le _) q2, if_neg (by omega)]; exact tx.2.2.2.1 j hj, fun j _ => o2 148 j (by omega)⟩
      exact ih _ _ _ _ (by omega) ⟨rfl, rfl, k + 1, by omega, by omega, TnM_tr t2 k2, _, lg2, eL⟩
    · have eL2 : lgE o pt E k L = L := by unfold lgE; rw [if_neg q2]
      rw [eL2] at eL
      rw [if_neg q2]
      unfold XX12_turns_p112
      rw [chk_pos (by omega)]
      exact ih _ _ _ _ (by omega) ⟨rfl, rfl, k + 1, by omega, by omega, by rw [sbR_no q2]; exact tx, L, lgx, eL⟩
  unfold XX12_turns
  obtain ⟨hMg, hsg, _, _, _⟩ := num _ _ g t
  rw [begun_eq hMg, cal_eq, hsg]
  unfold XX12_turns_L5
  refine En_lup3 (fun _ _ l _ => (60 - l).toNat) (fun l2 l3 l x => pt = l2 ∧ w = l3 ∧ ∃ v : Nat, l = (v : Int) ∧ s ≤ v ∧ v ≤ s + n ∧ TnM B o c (sbR (3 * s) (3 * v) pt w P) E x ∧ ∃ L, LgM L x ∧ frB (lgE o pt E) (c - 0) 0 (frB (lgJ pt P) (3 * (s + n) - 3 * v) (3 * v) L) = F) ?_ FU _ _ _ _ (by unfold FU; omega) ⟨rfl, rfl, s, rfl, Nat.le_refl _, by omega, by rw [sbR_0]; exact t, LG, lg, hF⟩
  rintro self l2 l3 l x ih ⟨rfl, rfl, v, rfl, hv1, hv2, tx, L, lgx, eL⟩
  obtain ⟨hMx, _, hwx, _, _⟩ := num _ _ x tx
  unfold XX12_turns_b5
  rw [wiresM_eq hMx (by omega), cal_eq, hwx]
  by_cases q : ((s + n : Nat) : Int) ≤ (v : Int)
  · rw [if_pos q]
    have : v = s + n := by omega
    subst this
    rw [Nat.sub_self] at eL
    exact outs x L tx lgx eL
  rw [if_neg q]
  obtain ⟨kv, kp⟩ := hK v hv1 (by omega)
  have pb := pinC_b (B 145 v).toNat
  unfold XX12_turns_L17
  refine En_lup4 (fun _ _ _ l5 _ => (5 - l5).toNat) (fun l2 l3 l4 l5 y => pt = l2 ∧ w = l3 ∧ (v : Int) = l4 ∧ ∃ k : Nat, l5 = (k : Int) ∧ (k : Int) ≤ pinC (B 145 v).toNat ∧ TnM B o c (sbR (3 * s) (3 * v + k) pt w P) E y ∧ ∃ L, LgM L y ∧ frB (lgE o pt E) (c - 0) 0 (frB (lgJ pt P) (3 * (s + n) - (3 * v + k)) (3 * v + k) L) = F) ?_ FU _ _ _ _ _ (by unfold FU; omega) ⟨rfl, rfl, rfl, 0, rfl, by omega, tx, L, lgx, eL⟩
  clear eL lgx tx hwx hMx
  rintro self2 l2 l3 l4 l5 y ih2 ⟨rfl, rfl, rfl, k, rfl, hk, ty, L2, lgy, eL2⟩
  unfold XX12_turns_b17
  have y19 : y 145 v = B 145 v := ty.1 145 v (by omega)
  rw [inb_pos (by omega), Int.toNat_natCast, y19, pinsOf_eq kv.1 kv.2, cal_eq]
  by_cases q2 : pinC (B 145 v).toNat ≤ (k : Int)
  · rw [if_pos q2, chk_pos (by omega)]
    have hno : ∀ i, 3 * v + k ≤ i → i < 3 * v + k + (3 - k) → P i ≠ pt := fun i h1 h2 => by
      have := kp (i - 3 * v) (by omega) (by omega)
      rw [show 3 * v + (i - 3 * v) = i by omega] at this
      omega
    have h3 : 3 * v + k + (3 - k) = 3 * (v + 1) := by omega
    refine ih _ _ _ _ (by omega) ⟨rfl, rfl, v + 1, by omega, by omega, by omega, ?_, L2, lgy, ?_⟩
    · rw [← h3, sbR_skip (3 - k) (3 * v + k) hno]; exact ty
    · rw [lgJ_skip (3 - k) (3 * v + k) L2 (by omega) hno, h3] at eL2
      exact eL2
  · have yk : y 146 (3 * v + k) = P (3 * v + k) := by rw [ty.2.1.1 _ (by omega), sbR_at]
    rw [if_neg q2, chk_pos (by omega), chk_pos (by omega), inb_pos (by omega), show (3 * (v : Int) + (k : Int)).toNat = 3 * v + k by omega, yk]
    rw [frB_step (f := lgJ pt P) (by omega)] at eL2
    by_cases q3 : P (3 * v + k) = pt
    · have eA : lgJ pt P (3 * v + k) L2 = L2 ++ [(0, (v : Int), (k : Int))] := by
        unfold lgJ
        rw [if_pos q3, show (3 * v + k) / 3 = v by omega, show (3 * v + k) % 3 = k by omega]
      rw [eA] at eL2
      have hll : L2.length < 126 := by
        have a := lgJ_len pt P (3 * (s + n) - (3 * v + k + 1)) (3 * v + k + 1) (L2 ++ [(0, (v : Int), (k : Int))])
        have b := lgE_len o pt E (c - 0) 0 (frB (lgJ pt P) (3 * (s + n) - (3 * v + k + 1)) (3 * v + k + 1) (L2 ++ [(0, (v : Int), (k : Int))]))
        rw [eL2] at b
        rw [List.length_append] at a
        have : [((0 : Int), (v : Int), (k : Int))].length = 1 := rfl
        omega
      have o2 : ∀ a i, ¬ (a = 146 ∧ i = 3 * v + k) → wr y 146 (3 * v + k) w a i = y a i := fun a i hh => wq_ne hh
      obtain ⟨x2, en, lg2, k2⟩ := changes_ok (LgM_tr (fun a i hh => o2 a i (by omega)) lgy) hll 0 v k
      rw [if_pos q3, chk_pos (by omega), chk_pos (by omega), inb_pos (by omega), hm_eq, en, cal_eq]
      unfold XX12_turns_p66
      rw [chk_pos (by omega)]
      have t2 : TnM B o c (sbR (3 * s) (3 * v + k + 1) pt w P) E (wr y 146 (3 * v + k) w) := TnM_rows ty (fun a i hh => o2 a i (by omega)) ⟨fun j hj => by
        rw [wr_row, sb_pt (by omega) q3]
        by_cases u : j = 3 * v + k
        · rw [if_pos u, if_pos u]
        · rw [if_neg u, if_neg u]; exact ty.2.1.1 j hj, fun j hj => by rw [wr_row, if_neg (by omega)]⟩ ⟨fun j hj => by rw [o2 147 j (by omega)]; exact ty.2.2.1.1 j hj, fun j _ => o2 147 j (by omega)⟩ ⟨fun j hj => by rw [o2 148 j (by omega)]; exact ty.2.2.2.1 j hj, fun j _ => o2 148 j (by omega)⟩
      exact ih2 _ _ _ _ _ (by omega) ⟨rfl, rfl, rfl, k + 1, by omega, by omega, TnM_tr t2 k2, _, lg2, eL2⟩
    · have eA : lgJ pt P (3 * v + k) L2 = L2 := by unfold lgJ; rw [if_neg q3]
      rw [eA] at eL2
      rw [if_neg q3]
      unfold XX12_turns_p66
      rw [chk_pos (by omega)]
      exact ih2 _ _ _ _ _ (by omega) ⟨rfl, rfl, rfl, k + 1, by omega, by omega, by rw [show 3 * v + (k + 1) = 3 * v + k + 1 by omega, sbR_no q3]; exact ty, L2, lgy, eL2⟩
