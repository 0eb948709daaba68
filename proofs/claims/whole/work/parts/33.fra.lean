def Ag (W : Nat → Nat → Prop) (h0 h : Hp) : Prop := ∀ a i, ¬ W a i → h a i = h0 a i
def Fr (W : Nat → Nat → Prop) (h0 : Hp) (X : OR) : Prop := ∀ r h1, X = some (r, h1) → ∀ a i, ¬ W a i → h1 a i = h0 a i
theorem Fr_some {W : Nat → Nat → Prop} {h0 h : Hp} {r : Int} (ag : Ag W h0 h) : Fr W h0 (some (r, h)) := by
  intro r1 h1 e
  cases e
  exact ag
theorem Fr_ite {W : Nat → Nat → Prop} {h0 : Hp} {c : Prop} [Decidable c] {X Y : OR} (a : Fr W h0 X) (b : Fr W h0 Y) : Fr W h0 (if c then X else Y) := by
  split
  · exact a
  · exact b
theorem Fr_nope {W : Nat → Nat → Prop} {h0 : Hp} : Fr W h0 none := by
  intro r1 h1 e
  cases e
theorem Fr_chk {W : Nat → Nat → Prop} {h0 : Hp} {x : Int} {X : OR} (a : Fr W h0 X) : Fr W h0 (chk x X) := Fr_ite a Fr_nope
theorem Fr_inb {W : Nat → Nat → Prop} {h0 : Hp} {x : Int} {n : Nat} {X : OR} (a : Fr W h0 X) : Fr W h0 (inb x n X) := Fr_ite a Fr_nope
theorem Fr_zb {W : Nat → Nat → Prop} {h0 : Hp} {x : Int} {X : OR} (a : Fr W h0 X) : Fr W h0 (zb x X) := Fr_ite a Fr_nope
theorem Fr_acp {W : Nat → Nat → Prop} {h0 : Hp} {x y z : Int} {n m : Nat} {X : OR} (a : Fr W h0 X) : Fr W h0 (acp x y z n m X) := Fr_ite a Fr_nope
theorem Fr_asr {W : Nat → Nat → Prop} {h0 : Hp} {p : Prop} [Decidable p] {X : OR} (a : p → Fr W h0 X) : Fr W h0 (asr p X) := by
  unfold asr
  split
  · next hp => exact a hp
  · exact Fr_nope
theorem Fr_nm {W : Nat → Nat → Prop} {h0 : Hp} {x : Int} {f : Int → OR} (a : ∀ v, Fr W h0 (f v)) : Fr W h0 (nm x f) := a x
theorem Fr_nmP {W : Nat → Nat → Prop} {h0 : Hp} {x : Nat} {f : Nat → OR} (a : ∀ v, Fr W h0 (f v)) : Fr W h0 (nmP x f) := a x
theorem Fr_wr {W : Nat → Nat → Prop} {h0 h : Hp} {a i : Nat} {v : Int} {f : Hp → OR} (ag : Ag W h0 h) (hw : W a i) (k : ∀ h1, Ag W h0 h1 → Fr W h0 (f h1)) : Fr W h0 (hm (wr h a i v) f) := by
  refine k _ (fun b j hn => ?_)
  show (if b = a ∧ j = i then v else h b j) = h0 b j
  rw [if_neg (fun hh => hn (by rw [hh.1, hh.2]; exact hw))]
  exact ag b j hn
theorem Fr_cpy {W : Nat → Nat → Prop} {h0 h : Hp} {a i b j n : Nat} {f : Hp → OR} (ag : Ag W h0 h) (hw : ∀ q, W b q) (k : ∀ h1, Ag W h0 h1 → Fr W h0 (f h1)) : Fr W h0 (hm (cpy h a i b j n) f) := by
  refine k _ (fun x y hn => ?_)
  show (if x = b ∧ j ≤ y ∧ y < j + n then h a (i + (y - j)) else h x y) = h0 x y
  rw [if_neg (fun hh => hn (by rw [hh.1]; exact hw _))]
  exact ag x y hn
theorem Fr_cal {W : Nat → Nat → Prop} {h0 : Hp} {Y : OR} {f : Int → Hp → OR} (a : Fr W h0 Y) (k : ∀ r h1, Ag W h0 h1 → Fr W h0 (f r h1)) : Fr W h0 (cal Y f) := by
  intro r h1 e
  obtain ⟨r1, h2, e1, e2⟩ := cal_e e
  exact k r1 h2 (a r1 h2 e1) r h1 e2
theorem Fr_lup0 {W : Nat → Nat → Prop} {h0 : Hp} {F : (Hp → OR) → Hp → OR} (k : ∀ self : Hp → OR, (∀ (h : Hp), Ag W h0 h → Fr W h0 (self  h)) → ∀ (h : Hp), Ag W h0 h → Fr W h0 (F self  h)) (n : Nat) : ∀ (h : Hp), Ag W h0 h → Fr W h0 (lup0 F n  h) := by
  induction n with
  | zero => intro  h _; exact Fr_nope
  | succ n ih => exact k (lup0 F n) ih
theorem Fr_lup1 {W : Nat → Nat → Prop} {h0 : Hp} {F : (Int → Hp → OR) → Int → Hp → OR} (k : ∀ self : Int → Hp → OR, (∀ (x0 : Int) (h : Hp), Ag W h0 h → Fr W h0 (self x0 h)) → ∀ (x0 : Int) (h : Hp), Ag W h0 h → Fr W h0 (F self x0 h)) (n : Nat) : ∀ (x0 : Int) (h : Hp), Ag W h0 h → Fr W h0 (lup1 F n x0 h) := by
  induction n with
  | zero => intro x0 h _; exact Fr_nope
  | succ n ih => exact k (lup1 F n) ih
theorem Fr_lup2 {W : Nat → Nat → Prop} {h0 : Hp} {F : (Int → Int → Hp → OR) → Int → Int → Hp → OR} (k : ∀ self : Int → Int → Hp → OR, (∀ (x0 x1 : Int) (h : Hp), Ag W h0 h → Fr W h0 (self x0 x1 h)) → ∀ (x0 x1 : Int) (h : Hp), Ag W h0 h → Fr W h0 (F self x0 x1 h)) (n : Nat) : ∀ (x0 x1 : Int) (h : Hp), Ag W h0 h → Fr W h0 (lup2 F n x0 x1 h) := by
  induction n with
  | zero => intro x0 x1 h _; exact Fr_nope
  | succ n ih => exact k (lup2 F n) ih
theorem Fr_lup3 {W : Nat → Nat → Prop} {h0 : Hp} {F : (Int → Int → Int → Hp → OR) → Int → Int → Int → Hp → OR} (k : ∀ self : Int → Int → Int → Hp → OR, (∀ (x0 x1 x2 : Int) (h : Hp), Ag W h0 h → Fr W h0 (self x0 x1 x2 h)) → ∀ (x0 x1 x2 : Int) (h : Hp), Ag W h0 h → Fr W h0 (F self x0 x1 x2 h)) (n : Nat) : ∀ (x0 x1 x2 : Int) (h : Hp), Ag W h0 h → Fr W h0 (lup3 F n x0 x1 x2 h) := by
  induction n with
  | zero => intro x0 x1 x2 h _; exact Fr_nope
  | succ n ih => exact k (lup3 F n) ih
theorem Fr_lup4 {W : Nat → Nat → Prop} {h0 : Hp} {F : (Int → Int → Int → Int → Hp → OR) → Int → Int → Int → Int → Hp → OR} (k : ∀ self : Int → Int → Int → Int → Hp → OR, (∀ (x0 x1 x2 x3 : Int) (h : Hp), Ag W h0 h → Fr W h0 (self x0 x1 x2 x3 h)) → ∀ (x0 x1 x2 x3 : Int) (h : Hp), Ag W h0 h → Fr W h0 (F self x0 x1 x2 x3 h)) (n : Nat) : ∀ (x0 x1 x2 x3 : Int) (h : Hp), Ag W h0 h → Fr W h0 (lup4 F n x0 x1 x2 x3 h) := by
  induction n with
  | zero => intro x0 x1 x2 x3 h _; exact Fr_nope
  | succ n ih => exact k (lup4 F n) ih
theorem Fr_lup5 {W : Nat → Nat → Prop} {h0 : Hp} {F : (Int → Int → Int → Int → Int → Hp → OR) → Int → Int → Int → Int → Int → Hp → OR} (k : ∀ self : Int → Int → Int → Int → Int → Hp → OR, (∀ (x0 x1 x2 x3 x4 : Int) (h : Hp), Ag W h0 h → Fr W h0 (self x0 x1 x2 x3 x4 h)) → ∀ (x0 x1 x2 x3 x4 : Int) (h : Hp), Ag W h0 h → Fr W h0 (F self x0 x1 x2 x3 x4 h)) (n : Nat) : ∀ (x0 x1 x2 x3 x4 : Int) (h : Hp), Ag W h0 h → Fr W h0 (lup5 F n x0 x1 x2 x3 x4 h) := by
  induction n with
  | zero => intro x0 x1 x2 x3 x4 h _; exact Fr_nope
  | succ n ih => exact k (lup5 F n) ih
theorem Fr_lup6 {W : Nat → Nat → Prop} {h0 : Hp} {F : (Int → Int → Int → Int → Int → Int → Hp → OR) → Int → Int → Int → Int → Int → Int → Hp → OR} (k : ∀ self : Int → Int → Int → Int → Int → Int → Hp → OR, (∀ (x0 x1 x2 x3 x4 x5 : Int) (h : Hp), Ag W h0 h → Fr W h0 (self x0 x1 x2 x3 x4 x5 h)) → ∀ (x0 x1 x2 x3 x4 x5 : Int) (h : Hp), Ag W h0 h → Fr W h0 (F self x0 x1 x2 x3 x4 x5 h)) (n : Nat) : ∀ (x0 x1 x2 x3 x4 x5 : Int) (h : Hp), Ag W h0 h → Fr W h0 (lup6 F n x0 x1 x2 x3 x4 x5 h) := by
  induction n with
  | zero => intro x0 x1 x2 x3 x4 x5 h _; exact Fr_nope
  | succ n ih => exact k (lup6 F n) ih
theorem Fr_lup7 {W : Nat → Nat → Prop} {h0 : Hp} {F : (Int → Int → Int → Int → Int → Int → Int → Hp → OR) → Int → Int → Int → Int → Int → Int → Int → Hp → OR} (k : ∀ self : Int → Int → Int → Int → Int → Int → Int → Hp → OR, (∀ (x0 x1 x2 x3 x4 x5 x6 : Int) (h : Hp), Ag W h0 h → Fr W h0 (self x0 x1 x2 x3 x4 x5 x6 h)) → ∀ (x0 x1 x2 x3 x4 x5 x6 : Int) (h : Hp), Ag W h0 h → Fr W h0 (F self x0 x1 x2 x3 x4 x5 x6 h)) (n : Nat) : ∀ (x0 x1 x2 x3 x4 x5 x6 : Int) (h : Hp), Ag W h0 h → Fr W h0 (lup7 F n x0 x1 x2 x3 x4 x5 x6 h) := by
  induction n with
  | zero => intro x0 x1 x2 x3 x4 x5 x6 h _; exact Fr_nope
  | succ n ih => exact k (lup7 F n) ih
theorem Fr_lup8 {W : Nat → Nat → Prop} {h0 : Hp} {F : (Int → Int → Int → Int → Int → Int → Int → Int → Hp → OR) → Int → Int → Int → Int → Int → Int → Int → Int → Hp → OR} (k : ∀ self : Int → Int → Int → Int → Int → Int → Int → Int → Hp → OR, (∀ (x0 x1 x2 x3 x4 x5 x6 x7 : Int) (h : Hp), Ag W h0 h → Fr W h0 (self x0 x1 x2 x3 x4 x5 x6 x7 h)) → ∀ (x0 x1 x2 x3 x4 x5 x6 x7 : Int) (h : Hp), Ag W h0 h → Fr W h0 (F self x0 x1 x2 x3 x4 x5 x6 x7 h)) (n : Nat) : ∀ (x0 x1 x2 x3 x4 x5 x6 x7 : Int) (h : Hp), Ag W h0 h → Fr W h0 (lup8 F n x0 x1 x2 x3 x4 x5 x6 x7 h) := by
  induction n with
  | zero => intro x0 x1 x2 x3 x4 x5 x6 x7 h _; exact Fr_nope
  | succ n ih => exact k (lup8 F n) ih
theorem Fr_lup9 {W : Nat → Nat → Prop} {h0 : Hp} {F : (Int → Int → Int → Int → Int → Int → Int → Int → Int → Hp → OR) → Int → Int → Int → Int → Int → Int → Int → Int → Int → Hp → OR} (k : ∀ self : Int → Int → Int → Int → Int → Int → Int → Int → Int → Hp → OR, (∀ (x0 x1 x2 x3 x4 x5 x6 x7 x8 : Int) (h : Hp), Ag W h0 h → Fr W h0 (self x0 x1 x2 x3 x4 x5 x6 x7 x8 h)) → ∀ (x0 x1 x2 x3 x4 x5 x6 x7 x8 : Int) (h : Hp), Ag W h0 h → Fr W h0 (F self x0 x1 x2 x3 x4 x5 x6 x7 x8 h)) (n : Nat) : ∀ (x0 x1 x2 x3 x4 x5 x6 x7 x8 : Int) (h : Hp), Ag W h0 h → Fr W h0 (lup9 F n x0 x1 x2 x3 x4 x5 x6 x7 x8 h) := by
  induction n with
  | zero => intro x0 x1 x2 x3 x4 x5 x6 x7 x8 h _; exact Fr_nope
  | succ n ih => exact k (lup9 F n) ih
theorem fg_XJ6_bitCount_0f7a4 {W : Nat → Nat → Prop} {h0 : Hp} (x0 : Int) (hW : ∀ a i : Nat, (False) → W a i) (h : Hp) (ag_h : Ag W h0 h) : Fr W h0 (XJ6_bitCount_0f7a4 x0 h) := by
  unfold XJ6_bitCount_0f7a4
  refine Fr_chk ?_
  refine Fr_nm (fun v1 => ?_)
  refine Fr_chk ?_
  refine Fr_nm (fun v2 => ?_)
  refine Fr_chk ?_
  refine Fr_nm (fun v3 => ?_)
  refine Fr_chk ?_
  refine Fr_nm (fun v4 => ?_)
  refine Fr_chk ?_
  refine Fr_nm (fun v5 => ?_)
  exact Fr_some ag_h
theorem fr_XJ6_bitCount_0f7a4 {x0 : Int} {h : Hp} {r : Int} {h1 : Hp} (e : XJ6_bitCount_0f7a4 x0 h = some (r, h1)) (a i : Nat) (hn : ¬ (False)) : h1 a i = h a i := fg_XJ6_bitCount_0f7a4 (W := fun a i => False) x0 (fun _ _ hh => hh) h (fun _ _ _ => rfl) r h1 e a i hn
theorem fe_XJ6_bitCount_0f7a4 {x0 : Int} {h : Hp} {r : Int} {h1 : Hp} (e : XJ6_bitCount_0f7a4 x0 h = some (r, h1)) : h1 = h := funext (fun a => funext (fun i => fr_XJ6_bitCount_0f7a4 e a i (fun hh => hh)))
theorem fg_XJ13_bitCount_95d88 {W : Nat → Nat → Prop} {h0 : Hp} (x0 : Int) (hW : ∀ a i : Nat, (False) → W a i) (h : Hp) (ag_h : Ag W h0 h) : Fr W h0 (XJ13_bitCount_95d88 x0 h) := by
  unfold XJ13_bitCount_95d88
  refine Fr_nm (fun v1 => ?_)
  refine Fr_nm (fun v2 => ?_)
  refine Fr_nm (fun v3 => ?_)
  refine Fr_nm (fun v4 => ?_)
  refine Fr_nm (fun v5 => ?_)
  refine Fr_nm (fun v6 => ?_)
  exact Fr_some ag_h
theorem fr_XJ13_bitCount_95d88 {x0 : Int} {h : Hp} {r : Int} {h1 : Hp} (e : XJ13_bitCount_95d88 x0 h = some (r, h1)) (a i : Nat) (hn : ¬ (False)) : h1 a i = h a i := fg_XJ13_bitCount_95d88 (W := fun a i => False) x0 (fun _ _ hh => hh) h (fun _ _ _ => rfl) r h1 e a i hn
theorem fe_XJ13_bitCount_95d88 {x0 : Int} {h : Hp} {r : Int} {h1 : Hp} (e : XJ13_bitCount_95d88 x0 h = some (r, h1)) : h1 = h := funext (fun a => funext (fun i => fr_XJ13_bitCount_95d88 e a i (fun hh => hh)))
theorem fg_XJ7_fill_53178_b5 {W : Nat → Nat → Prop} {h0 : Hp} (n : Nat) (a0 : Nat) (self5 : Int → Int → Int → Hp → OR) (hs_self5 : ∀ (y0 y1 y2 : Int) (hh : Hp), Ag W h0 hh → Fr W h0 (self5 y0 y1 y2 hh)) (l1 : Int) (l2 : Int) (l3 : Int) (hW : ∀ a i : Nat, (a = a0) → W a i) (h : Hp) (ag_h : Ag W h0 h) : Fr W h0 (XJ7_fill_53178_b5 n a0 self5 l1 l2 l3 h) := by
  unfold XJ7_fill_53178_b5
  refine Fr_ite ?_ ?_
  · exact Fr_some ag_h
  · refine Fr_inb ?_
    refine Fr_wr ag_h (hW _ _ (by omega)) (fun h2 ag_h2 => ?_)
    refine Fr_chk ?_
    exact hs_self5 _ _ _ _ ag_h2
theorem fg_XJ7_fill_53178_L5 {W : Nat → Nat → Prop} {h0 : Hp} (n : Nat) (a0 : Nat) (l1 : Int) (l2 : Int) (l3 : Int) (hW : ∀ a i : Nat, (a = a0) → W a i) (h : Hp) (ag_h : Ag W h0 h) : Fr W h0 (XJ7_fill_53178_L5 n a0 l1 l2 l3 h) := by
  unfold XJ7_fill_53178_L5
  exact Fr_lup3 (fun self hs z0 z1 z2 hh ag => fg_XJ7_fill_53178_b5 n a0 self hs z0 z1 z2 hW hh ag) FU _ _ _ _ ag_h
theorem fg_XJ7_fill_53178 {W : Nat → Nat → Prop} {h0 : Hp} (x0 : Nat) (n : Nat) (x1 : Int) (hW : ∀ a i : Nat, (a = x0) → W a i) (h : Hp) (ag_h : Ag W h0 h) : Fr W h0 (XJ7_fill_53178 x0 n x1 h) := by
  unfold XJ7_fill_53178
  refine Fr_nm (fun v1 => ?_)
  exact fg_XJ7_fill_53178_L5 _ _ _ _ _ (fun a i hh => hW a i (by omega)) _ ag_h
theorem fr_XJ7_fill_53178 {x0 : Nat} {n : Nat} {x1 : Int} {h : Hp} {r : Int} {h1 : Hp} (e : XJ7_fill_53178 x0 n x1 h = some (r, h1)) (a i : Nat) (hn : ¬ (a = x0)) : h1 a i = h a i := fg_XJ7_fill_53178 (W := fun a i => a = x0) x0 n x1 (fun _ _ hh => hh) h (fun _ _ _ => rfl) r h1 e a i hn
theorem fg_XJ7_fill_d0a16_b6 {W : Nat → Nat → Prop} {h0 : Hp} (n : Nat) (a0 : Nat) (self6 : Int → Int → Int → Hp → OR) (hs_self6 : ∀ (y0 y1 y2 : Int) (hh : Hp), Ag W h0 hh → Fr W h0 (self6 y0 y1 y2 hh)) (l1 : Int) (l3 : Int) (l4 : Int) (hW : ∀ a i : Nat, (a = a0) → W a i) (h : Hp) (ag_h : Ag W h0 h) : Fr W h0 (XJ7_fill_d0a16_b6 n a0 self6 l1 l3 l4 h) := by
  unfold XJ7_fill_d0a16_b6
  refine Fr_ite ?_ ?_
  · exact Fr_some ag_h
  · refine Fr_inb ?_
    refine Fr_wr ag_h (hW _ _ (by omega)) (fun h2 ag_h2 => ?_)
    refine Fr_chk ?_
    exact hs_self6 _ _ _ _ ag_h2
theorem fg_XJ7_fill_d0a16_L6 {W : Nat → Nat → Prop} {h0 : Hp} (n : Nat) (a0 : Nat) (l1 : Int) (l3 : Int) (l4 : Int) (hW : ∀ a i : Nat, (a = a0) → W a i) (h : Hp) (ag_h : Ag W h0 h) : Fr W h0 (XJ7_fill_d0a16_L6 n a0 l1 l3 l4 h) := by
  unfold XJ7_fill_d0a16_L6
  exact Fr_lup3 (fun self hs z0 z1 z2 hh ag => fg_XJ7_fill_d0a16_b6 n a0 self hs z0 z1 z2 hW hh ag) FU _ _ _ _ ag_h
theorem fg_XJ7_fill_d0a16 {W : Nat → Nat → Prop} {h0 : Hp} (x0 : Nat) (n : Nat) (x1 : Int) (hW : ∀ a i : Nat, (a = x0) → W a i) (h : Hp) (ag_h : Ag W h0 h) : Fr W h0 (XJ7_fill_d0a16 x0 n x1 h) := by
  unfold XJ7_fill_d0a16
  refine Fr_nm (fun v1 => ?_)
  exact fg_XJ7_fill_d0a16_L6 _ _ _ _ _ (fun a i hh => hW a i (by omega)) _ ag_h
theorem fr_XJ7_fill_d0a16 {x0 : Nat} {n : Nat} {x1 : Int} {h : Hp} {r : Int} {h1 : Hp} (e : XJ7_fill_d0a16 x0 n x1 h = some (r, h1)) (a i : Nat) (hn : ¬ (a = x0)) : h1 a i = h a i := fg_XJ7_fill_d0a16 (W := fun a i => a = x0) x0 n x1 (fun _ _ hh => hh) h (fun _ _ _ => rfl) r h1 e a i hn
theorem fg_XX0_start_p88 {W : Nat → Nat → Prop} {h0 : Hp} (hW : ∀ a i : Nat, (a = 39) → W a i) (h : Hp) (ag_h : Ag W h0 h) : Fr W h0 (XX0_start_p88  h) := by
  unfold XX0_start_p88
  refine Fr_acp ?_
  refine Fr_cpy ag_h (fun q => hW _ _ (by omega)) (fun h3 ag_h3 => ?_)
  exact Fr_some ag_h3
theorem fg_XX0_start_p58 {W : Nat → Nat → Prop} {h0 : Hp} (self33 : Int → Hp → OR) (hs_self33 : ∀ (y0 : Int) (hh : Hp), Ag W h0 hh → Fr W h0 (self33 y0 hh)) (l2 : Int) (s1 : Int) (s2 : Int) (hW : ∀ a i : Nat, (a = 38) → W a i) (h : Hp) (ag_h : Ag W h0 h) : Fr W h0 (XX0_start_p58 self33 l2 s1 s2 h) := by
  unfold XX0_start_p58
  refine Fr_inb ?_
  refine Fr_wr ag_h (hW _ _ (by omega)) (fun h5 ag_h5 => ?_)
  refine Fr_chk ?_
  exact hs_self33 _ _ ag_h5
theorem fg_XX0_start_b33 {W : Nat → Nat → Prop} {h0 : Hp} (self33 : Int → Hp → OR) (hs_self33 : ∀ (y0 : Int) (hh : Hp), Ag W h0 hh → Fr W h0 (self33 y0 hh)) (l2 : Int) (hW : ∀ a i : Nat, ((38 ≤ a ∧ a ≤ 39)) → W a i) (h : Hp) (ag_h : Ag W h0 h) : Fr W h0 (XX0_start_b33 self33 l2 h) := by
  unfold XX0_start_b33
  refine Fr_ite ?_ ?_
  · refine Fr_ite ?_ ?_
    · exact fg_XX0_start_p88 (fun a i hh => hW a i (by omega)) _ ag_h
    · refine Fr_inb ?_
      refine Fr_wr ag_h (hW _ _ (by omega)) (fun h4 ag_h4 => ?_)
      exact fg_XX0_start_p88 (fun a i hh => hW a i (by omega)) _ ag_h4
  · refine Fr_ite ?_ ?_
    · exact fg_XX0_start_p58 _ hs_self33 _ _ _ (fun a i hh => hW a i (by omega)) _ ag_h
    · exact fg_XX0_start_p58 _ hs_self33 _ _ _ (fun a i hh => hW a i (by omega)) _ ag_h
theorem fg_XX0_start_L33 {W : Nat → Nat → Prop} {h0 : Hp} (l2 : Int) (hW : ∀ a i : Nat, ((38 ≤ a ∧ a ≤ 39)) → W a i) (h : Hp) (ag_h : Ag W h0 h) : Fr W h0 (XX0_start_L33 l2 h) := by
  unfold XX0_start_L33
  exact Fr_lup1 (fun self hs z0 hh ag => fg_XX0_start_b33 self hs z0 hW hh ag) FU _ _ ag_h
theorem fg_XX0_start_p28 {W : Nat → Nat → Prop} {h0 : Hp} (s1 : Int) (hW : ∀ a i : Nat, ((38 ≤ a ∧ a ≤ 39) ∨ (a = 37 ∧ i = 1)) → W a i) (h : Hp) (ag_h : Ag W h0 h) : Fr W h0 (XX0_start_p28 s1 h) := by
  unfold XX0_start_p28
  refine Fr_wr ag_h (hW _ _ (Or.inr (by omega))) (fun h2 ag_h2 => ?_)
  exact fg_XX0_start_L33 _ (fun a i hh => hW a i (Or.inl (by omega))) _ ag_h2
theorem fg_XX0_start {W : Nat → Nat → Prop} {h0 : Hp} (x0 : Int) (hW : ∀ a i : Nat, ((38 ≤ a ∧ a ≤ 39) ∨ (a = 37 ∧ 0 ≤ i ∧ i ≤ 1)) → W a i) (h : Hp) (ag_h : Ag W h0 h) : Fr W h0 (XX0_start x0 h) := by
  unfold XX0_start
  refine Fr_wr ag_h (hW _ _ (Or.inr (by omega))) (fun h1 ag_h1 => ?_)
  refine Fr_ite ?_ ?_
  · exact fg_XX0_start_p28 _ (fun a i hh => hW a i ((fun q => q.elim (fun q => Or.inl (by omega)) (fun q => Or.inr (by omega))) hh)) _ ag_h1
  · refine Fr_chk ?_
    exact fg_XX0_start_p28 _ (fun a i hh => hW a i ((fun q => q.elim (fun q => Or.inl (by omega)) (fun q => Or.inr (by omega))) hh)) _ ag_h1
theorem fr_XX0_start {x0 : Int} {h : Hp} {r : Int} {h1 : Hp} (e : XX0_start x0 h = some (r, h1)) (a i : Nat) (hn : ¬ ((38 ≤ a ∧ a ≤ 39) ∨ (a = 37 ∧ 0 ≤ i ∧ i ≤ 1))) : h1 a i = h a i := fg_XX0_start (W := fun a i => (38 ≤ a ∧ a ≤ 39) ∨ (a = 37 ∧ 0 ≤ i ∧ i ≤ 1)) x0 (fun _ _ hh => hh) h (fun _ _ _ => rfl) r h1 e a i hn
theorem fg_XX0_has {W : Nat → Nat → Prop} {h0 : Hp} (x0 : Int) (hW : ∀ a i : Nat, (False) → W a i) (h : Hp) (ag_h : Ag W h0 h) : Fr W h0 (XX0_has x0 h) := by
  unfold XX0_has
  refine Fr_ite ?_ ?_
  · refine Fr_zb ?_
    exact Fr_some ag_h
  · refine Fr_ite ?_ ?_
    · refine Fr_zb ?_
      exact Fr_some ag_h
    · refine Fr_zb ?_
      exact Fr_some ag_h
theorem fr_XX0_has {x0 : Int} {h : Hp} {r : Int} {h1 : Hp} (e : XX0_has x0 h = some (r, h1)) (a i : Nat) (hn : ¬ (False)) : h1 a i = h a i := fg_XX0_has (W := fun a i => False) x0 (fun _ _ hh => hh) h (fun _ _ _ => rfl) r h1 e a i hn
theorem fe_XX0_has {x0 : Int} {h : Hp} {r : Int} {h1 : Hp} (e : XX0_has x0 h = some (r, h1)) : h1 = h := funext (fun a => funext (fun i => fr_XX0_has e a i (fun hh => hh)))
theorem fg_XX0_isLive {W : Nat → Nat → Prop} {h0 : Hp} (x0 : Int) (hW : ∀ a i : Nat, (False) → W a i) (h : Hp) (ag_h : Ag W h0 h) : Fr W h0 (XX0_isLive x0 h) := by
  unfold XX0_isLive
  refine Fr_chk ?_
  refine Fr_inb ?_
  refine Fr_chk ?_
  refine Fr_ite ?_ ?_
  · refine Fr_zb ?_
    exact Fr_some ag_h
  · refine Fr_zb ?_
    exact Fr_some ag_h
theorem fr_XX0_isLive {x0 : Int} {h : Hp} {r : Int} {h1 : Hp} (e : XX0_isLive x0 h = some (r, h1)) (a i : Nat) (hn : ¬ (False)) : h1 a i = h a i := fg_XX0_isLive (W := fun a i => False) x0 (fun _ _ hh => hh) h (fun _ _ _ => rfl) r h1 e a i hn
theorem fe_XX0_isLive {x0 : Int} {h : Hp} {r : Int} {h1 : Hp} (e : XX0_isLive x0 h = some (r, h1)) : h1 = h := funext (fun a => funext (fun i => fr_XX0_isLive e a i (fun hh => hh)))
theorem fg_XX0_flip {W : Nat → Nat → Prop} {h0 : Hp} (x0 : Int) (hW : ∀ a i : Nat, (a = 39) → W a i) (h : Hp) (ag_h : Ag W h0 h) : Fr W h0 (XX0_flip x0 h) := by
  unfold XX0_flip
  refine Fr_chk ?_
  refine Fr_nm (fun v1 => ?_)
  refine Fr_inb ?_
  refine Fr_chk ?_
  refine Fr_inb ?_
  refine Fr_wr ag_h (hW _ _ (by omega)) (fun h2 ag_h2 => ?_)
  refine Fr_cal (fg_XX0_isLive _ (fun a i hh => hh.elim) _ ag_h2) (fun r3 h4 ag_h4 => ?_)
  refine Fr_ite ?_ ?_
  · exact Fr_some ag_h4
  · exact Fr_some ag_h4
theorem fr_XX0_flip {x0 : Int} {h : Hp} {r : Int} {h1 : Hp} (e : XX0_flip x0 h = some (r, h1)) (a i : Nat) (hn : ¬ (a = 39)) : h1 a i = h a i := fg_XX0_flip (W := fun a i => a = 39) x0 (fun _ _ hh => hh) h (fun _ _ _ => rfl) r h1 e a i hn
theorem fg_XX0_freeCount_b7 {W : Nat → Nat → Prop} {h0 : Hp} (self7 : Int → Int → Hp → OR) (hs_self7 : ∀ (y0 y1 : Int) (hh : Hp), Ag W h0 hh → Fr W h0 (self7 y0 y1 hh)) (l1 : Int) (l2 : Int) (hW : ∀ a i : Nat, (False) → W a i) (h : Hp) (ag_h : Ag W h0 h) : Fr W h0 (XX0_freeCount_b7 self7 l1 l2 h) := by
  unfold XX0_freeCount_b7
  refine Fr_ite ?_ ?_
  · exact Fr_some ag_h
  · refine Fr_inb ?_
    refine Fr_cal (fg_XJ13_bitCount_95d88 _ (fun a i hh => hh.elim) _ ag_h) (fun r2 h3 ag_h3 => ?_)
    refine Fr_chk ?_
    refine Fr_nm (fun v4 => ?_)
    refine Fr_chk ?_
    exact hs_self7 _ _ _ ag_h3
theorem fg_XX0_freeCount_L7 {W : Nat → Nat → Prop} {h0 : Hp} (l1 : Int) (l2 : Int) (hW : ∀ a i : Nat, (False) → W a i) (h : Hp) (ag_h : Ag W h0 h) : Fr W h0 (XX0_freeCount_L7 l1 l2 h) := by
  unfold XX0_freeCount_L7
  exact Fr_lup2 (fun self hs z0 z1 hh ag => fg_XX0_freeCount_b7 self hs z0 z1 hW hh ag) FU _ _ _ ag_h
theorem fg_XX0_freeCount {W : Nat → Nat → Prop} {h0 : Hp} (hW : ∀ a i : Nat, (False) → W a i) (h : Hp) (ag_h : Ag W h0 h) : Fr W h0 (XX0_freeCount  h) := by
  unfold XX0_freeCount
  refine Fr_nm (fun v1 => ?_)
  exact fg_XX0_freeCount_L7 _ _ (fun a i hh => hh.elim) _ ag_h
theorem fr_XX0_freeCount {h : Hp} {r : Int} {h1 : Hp} (e : XX0_freeCount  h = some (r, h1)) (a i : Nat) (hn : ¬ (False)) : h1 a i = h a i := fg_XX0_freeCount (W := fun a i => False)  (fun _ _ hh => hh) h (fun _ _ _ => rfl) r h1 e a i hn
theorem fe_XX0_freeCount {h : Hp} {r : Int} {h1 : Hp} (e : XX0_freeCount  h = some (r, h1)) : h1 = h := funext (fun a => funext (fun i => fr_XX0_freeCount e a i (fun hh => hh)))
theorem fg_XX0_lowest {W : Nat → Nat → Prop} {h0 : Hp} (x0 : Int) (x1 : Int) (hW : ∀ a i : Nat, (False) → W a i) (h : Hp) (ag_h : Ag W h0 h) : Fr W h0 (XX0_lowest x0 x1 h) := by
  unfold XX0_lowest
  refine Fr_chk ?_
  refine Fr_cal (fg_XJ13_bitCount_95d88 _ (fun a i hh => hh.elim) _ ag_h) (fun r1 h2 ag_h2 => ?_)
  refine Fr_chk ?_
  exact Fr_some ag_h2
theorem fr_XX0_lowest {x0 : Int} {x1 : Int} {h : Hp} {r : Int} {h1 : Hp} (e : XX0_lowest x0 x1 h = some (r, h1)) (a i : Nat) (hn : ¬ (False)) : h1 a i = h a i := fg_XX0_lowest (W := fun a i => False) x0 x1 (fun _ _ hh => hh) h (fun _ _ _ => rfl) r h1 e a i hn
theorem fe_XX0_lowest {x0 : Int} {x1 : Int} {h : Hp} {r : Int} {h1 : Hp} (e : XX0_lowest x0 x1 h = some (r, h1)) : h1 = h := funext (fun a => funext (fun i => fr_XX0_lowest e a i (fun hh => hh)))
theorem fg_XX2_ones {W : Nat → Nat → Prop} {h0 : Hp} (x0 : Int) (hW : ∀ a i : Nat, (False) → W a i) (h : Hp) (ag_h : Ag W h0 h) : Fr W h0 (XX2_ones x0 h) := by
  unfold XX2_ones
  refine Fr_chk ?_
  exact Fr_some ag_h
theorem fr_XX2_ones {x0 : Int} {h : Hp} {r : Int} {h1 : Hp} (e : XX2_ones x0 h = some (r, h1)) (a i : Nat) (hn : ¬ (False)) : h1 a i = h a i := fg_XX2_ones (W := fun a i => False) x0 (fun _ _ hh => hh) h (fun _ _ _ => rfl) r h1 e a i hn
theorem fe_XX2_ones {x0 : Int} {h : Hp} {r : Int} {h1 : Hp} (e : XX2_ones x0 h = some (r, h1)) : h1 = h := funext (fun a => funext (fun i => fr_XX2_ones e a i (fun hh => hh)))
theorem fg_XX2_price_p35 {W : Nat → Nat → Prop} {h0 : Hp} (hW : ∀ a i : Nat, (False) → W a i) (h : Hp) (ag_h : Ag W h0 h) : Fr W h0 (XX2_price_p35  h) := by
  unfold XX2_price_p35
  exact Fr_some ag_h
theorem fg_XX2_price_b4 {W : Nat → Nat → Prop} {h0 : Hp} (self4 : Int → Int → Hp → OR) (hs_self4 : ∀ (y0 y1 : Int) (hh : Hp), Ag W h0 hh → Fr W h0 (self4 y0 y1 hh)) (l2 : Int) (l3 : Int) (hW : ∀ a i : Nat, (False) → W a i) (h : Hp) (ag_h : Ag W h0 h) : Fr W h0 (XX2_price_b4 self4 l2 l3 h) := by
  unfold XX2_price_b4
  refine Fr_ite ?_ ?_
  · refine Fr_ite ?_ ?_
    · exact fg_XX2_price_p35 (fun a i hh => hh.elim) _ ag_h
    · refine Fr_ite ?_ ?_
      · refine Fr_inb ?_
        exact Fr_some ag_h
      · exact fg_XX2_price_p35 (fun a i hh => hh.elim) _ ag_h
  · refine Fr_nm (fun v1 => ?_)
    refine Fr_chk ?_
    exact hs_self4 _ _ _ ag_h
theorem fg_XX2_price_L4 {W : Nat → Nat → Prop} {h0 : Hp} (l2 : Int) (l3 : Int) (hW : ∀ a i : Nat, (False) → W a i) (h : Hp) (ag_h : Ag W h0 h) : Fr W h0 (XX2_price_L4 l2 l3 h) := by
  unfold XX2_price_L4
  exact Fr_lup2 (fun self hs z0 z1 hh ag => fg_XX2_price_b4 self hs z0 z1 hW hh ag) FU _ _ _ ag_h
theorem fg_XX2_price {W : Nat → Nat → Prop} {h0 : Hp} (x0 : Int) (x1 : Int) (hW : ∀ a i : Nat, (False) → W a i) (h : Hp) (ag_h : Ag W h0 h) : Fr W h0 (XX2_price x0 x1 h) := by
  unfold XX2_price
  exact fg_XX2_price_L4 _ _ (fun a i hh => hh.elim) _ ag_h
theorem fr_XX2_price {x0 : Int} {x1 : Int} {h : Hp} {r : Int} {h1 : Hp} (e : XX2_price x0 x1 h = some (r, h1)) (a i : Nat) (hn : ¬ (False)) : h1 a i = h a i := fg_XX2_price (W := fun a i => False) x0 x1 (fun _ _ hh => hh) h (fun _ _ _ => rfl) r h1 e a i hn
theorem fe_XX2_price {x0 : Int} {x1 : Int} {h : Hp} {r : Int} {h1 : Hp} (e : XX2_price x0 x1 h = some (r, h1)) : h1 = h := funext (fun a => funext (fun i => fr_XX2_price e a i (fun hh => hh)))
theorem fg_XX2_leafOf_b22 {W : Nat → Nat → Prop} {h0 : Hp} (self22 : Int → Int → Int → Hp → OR) (hs_self22 : ∀ (y0 y1 y2 : Int) (hh : Hp), Ag W h0 hh → Fr W h0 (self22 y0 y1 y2 hh)) (l0 : Int) (l1 : Int) (l2 : Int) (hW : ∀ a i : Nat, (False) → W a i) (h : Hp) (ag_h : Ag W h0 h) : Fr W h0 (XX2_leafOf_b22 self22 l0 l1 l2 h) := by
  unfold XX2_leafOf_b22
  refine Fr_ite ?_ ?_
  · exact Fr_some ag_h
  · refine Fr_inb ?_
    refine Fr_cal (fg_XX2_ones _ (fun a i hh => hh.elim) _ ag_h) (fun r3 h4 ag_h4 => ?_)
    refine Fr_ite ?_ ?_
    · refine Fr_chk ?_
      exact Fr_some ag_h4
    · refine Fr_chk ?_
      exact hs_self22 _ _ _ _ ag_h4
theorem fg_XX2_leafOf_L22 {W : Nat → Nat → Prop} {h0 : Hp} (l0 : Int) (l1 : Int) (l2 : Int) (hW : ∀ a i : Nat, (False) → W a i) (h : Hp) (ag_h : Ag W h0 h) : Fr W h0 (XX2_leafOf_L22 l0 l1 l2 h) := by
  unfold XX2_leafOf_L22
  exact Fr_lup3 (fun self hs z0 z1 z2 hh ag => fg_XX2_leafOf_b22 self hs z0 z1 z2 hW hh ag) FU _ _ _ _ ag_h
theorem fg_XX2_leafOf {W : Nat → Nat → Prop} {h0 : Hp} (x0 : Int) (x1 : Int) (hW : ∀ a i : Nat, (False) → W a i) (h : Hp) (ag_h : Ag W h0 h) : Fr W h0 (XX2_leafOf x0 x1 h) := by
  unfold XX2_leafOf
  refine Fr_ite ?_ ?_
  · exact Fr_some ag_h
  · refine Fr_cal (fg_XX2_ones _ (fun a i hh => hh.elim) _ ag_h) (fun r1 h2 ag_h2 => ?_)
    refine Fr_ite ?_ ?_
    · exact Fr_some ag_h2
    · exact fg_XX2_leafOf_L22 _ _ _ (fun a i hh => hh.elim) _ ag_h2
theorem fr_XX2_leafOf {x0 : Int} {x1 : Int} {h : Hp} {r : Int} {h1 : Hp} (e : XX2_leafOf x0 x1 h = some (r, h1)) (a i : Nat) (hn : ¬ (False)) : h1 a i = h a i := fg_XX2_leafOf (W := fun a i => False) x0 x1 (fun _ _ hh => hh) h (fun _ _ _ => rfl) r h1 e a i hn
theorem fe_XX2_leafOf {x0 : Int} {x1 : Int} {h : Hp} {r : Int} {h1 : Hp} (e : XX2_leafOf x0 x1 h = some (r, h1)) : h1 = h := funext (fun a => funext (fun i => fr_XX2_leafOf e a i (fun hh => hh)))
theorem fg_XX2_canMake {W : Nat → Nat → Prop} {h0 : Hp} (x0 : Int) (x1 : Int) (x2 : Int) (x3 : Int) (hW : ∀ a i : Nat, (False) → W a i) (h : Hp) (ag_h : Ag W h0 h) : Fr W h0 (XX2_canMake x0 x1 x2 x3 h) := by
  unfold XX2_canMake
  refine Fr_cal (fg_XX2_ones _ (fun a i hh => hh.elim) _ ag_h) (fun r1 h2 ag_h2 => ?_)
  refine Fr_nm (fun v3 => ?_)
  refine Fr_ite ?_ ?_
  · refine Fr_ite ?_ ?_
    · refine Fr_zb ?_
      exact Fr_some ag_h2
    · refine Fr_zb ?_
      exact Fr_some ag_h2
  · refine Fr_ite ?_ ?_
    · refine Fr_ite ?_ ?_
      · refine Fr_zb ?_
        exact Fr_some ag_h2
      · refine Fr_zb ?_
        exact Fr_some ag_h2
    · refine Fr_ite ?_ ?_
      · refine Fr_ite ?_ ?_
        · refine Fr_zb ?_
          exact Fr_some ag_h2
        · refine Fr_zb ?_
          exact Fr_some ag_h2
      · refine Fr_ite ?_ ?_
        · refine Fr_ite ?_ ?_
          · refine Fr_zb ?_
            exact Fr_some ag_h2
          · refine Fr_zb ?_
            exact Fr_some ag_h2
        · refine Fr_zb ?_
          exact Fr_some ag_h2
theorem fr_XX2_canMake {x0 : Int} {x1 : Int} {x2 : Int} {x3 : Int} {h : Hp} {r : Int} {h1 : Hp} (e : XX2_canMake x0 x1 x2 x3 h = some (r, h1)) (a i : Nat) (hn : ¬ (False)) : h1 a i = h a i := fg_XX2_canMake (W := fun a i => False) x0 x1 x2 x3 (fun _ _ hh => hh) h (fun _ _ _ => rfl) r h1 e a i hn
theorem fe_XX2_canMake {x0 : Int} {x1 : Int} {x2 : Int} {x3 : Int} {h : Hp} {r : Int} {h1 : Hp} (e : XX2_canMake x0 x1 x2 x3 h = some (r, h1)) : h1 = h := funext (fun a => funext (fun i => fr_XX2_canMake e a i (fun hh => hh)))
theorem fg_XX6_made {W : Nat → Nat → Prop} {h0 : Hp} (x0 : Int) (x1 : Int) (x2 : Int) (x3 : Int) (hW : ∀ a i : Nat, (False) → W a i) (h : Hp) (ag_h : Ag W h0 h) : Fr W h0 (XX6_made x0 x1 x2 x3 h) := by
  unfold XX6_made
  refine Fr_ite ?_ ?_
  · exact Fr_some ag_h
  · refine Fr_ite ?_ ?_
    · exact Fr_some ag_h
    · refine Fr_ite ?_ ?_
      · exact Fr_some ag_h
      · refine Fr_ite ?_ ?_
        · exact Fr_some ag_h
        · refine Fr_ite ?_ ?_
          · exact Fr_some ag_h
          · refine Fr_ite ?_ ?_
            · exact Fr_some ag_h
            · refine Fr_ite ?_ ?_
              · exact Fr_some ag_h
              · refine Fr_ite ?_ ?_
                · exact Fr_some ag_h
                · exact Fr_some ag_h
theorem fr_XX6_made {x0 : Int} {x1 : Int} {x2 : Int} {x3 : Int} {h : Hp} {r : Int} {h1 : Hp} (e : XX6_made x0 x1 x2 x3 h = some (r, h1)) (a i : Nat) (hn : ¬ (False)) : h1 a i = h a i := fg_XX6_made (W := fun a i => False) x0 x1 x2 x3 (fun _ _ hh => hh) h (fun _ _ _ => rfl) r h1 e a i hn
theorem fe_XX6_made {x0 : Int} {x1 : Int} {x2 : Int} {x3 : Int} {h : Hp} {r : Int} {h1 : Hp} (e : XX6_made x0 x1 x2 x3 h = some (r, h1)) : h1 = h := funext (fun a => funext (fun i => fr_XX6_made e a i (fun hh => hh)))
theorem fg_XX2_mate_p93 {W : Nat → Nat → Prop} {h0 : Hp} (self52 : Int → Int → Int → Int → Int → Int → Int → Hp → OR) (hs_self52 : ∀ (y0 y1 y2 y3 y4 y5 y6 : Int) (hh : Hp), Ag W h0 hh → Fr W h0 (self52 y0 y1 y2 y3 y4 y5 y6 hh)) (l0 : Int) (l1 : Int) (l2 : Int) (l3 : Int) (l4 : Int) (l6 : Int) (l7 : Int) (hW : ∀ a i : Nat, (False) → W a i) (h : Hp) (ag_h : Ag W h0 h) : Fr W h0 (XX2_mate_p93 self52 l0 l1 l2 l3 l4 l6 l7 h) := by
  unfold XX2_mate_p93
  refine Fr_chk ?_
  exact hs_self52 _ _ _ _ _ _ _ _ ag_h
theorem fg_XX2_mate_b52 {W : Nat → Nat → Prop} {h0 : Hp} (self52 : Int → Int → Int → Int → Int → Int → Int → Hp → OR) (hs_self52 : ∀ (y0 y1 y2 y3 y4 y5 y6 : Int) (hh : Hp), Ag W h0 hh → Fr W h0 (self52 y0 y1 y2 y3 y4 y5 y6 hh)) (l0 : Int) (l1 : Int) (l2 : Int) (l3 : Int) (l4 : Int) (l6 : Int) (l7 : Int) (hW : ∀ a i : Nat, (False) → W a i) (h : Hp) (ag_h : Ag W h0 h) : Fr W h0 (XX2_mate_b52 self52 l0 l1 l2 l3 l4 l6 l7 h) := by
  unfold XX2_mate_b52
  refine Fr_ite ?_ ?_
  · exact Fr_some ag_h
  · refine Fr_cal (fg_XX2_price _ _ (fun a i hh => hh.elim) _ ag_h) (fun r5 h6 ag_h6 => ?_)
    refine Fr_ite ?_ ?_
    · refine Fr_cal (fg_XX6_made _ _ _ _ (fun a i hh => hh.elim) _ ag_h6) (fun r7 h8 ag_h8 => ?_)
      refine Fr_cal (fg_XX2_ones _ (fun a i hh => hh.elim) _ ag_h8) (fun r9 h10 ag_h10 => ?_)
      refine Fr_ite ?_ ?_
      · exact Fr_some ag_h10
      · exact fg_XX2_mate_p93 _ hs_self52 _ _ _ _ _ _ _ (fun a i hh => hh.elim) _ ag_h10
    · exact fg_XX2_mate_p93 _ hs_self52 _ _ _ _ _ _ _ (fun a i hh => hh.elim) _ ag_h6
theorem fg_XX2_mate_L52 {W : Nat → Nat → Prop} {h0 : Hp} (l0 : Int) (l1 : Int) (l2 : Int) (l3 : Int) (l4 : Int) (l6 : Int) (l7 : Int) (hW : ∀ a i : Nat, (False) → W a i) (h : Hp) (ag_h : Ag W h0 h) : Fr W h0 (XX2_mate_L52 l0 l1 l2 l3 l4 l6 l7 h) := by
  unfold XX2_mate_L52
  exact Fr_lup7 (fun self hs z0 z1 z2 z3 z4 z5 z6 hh ag => fg_XX2_mate_b52 self hs z0 z1 z2 z3 z4 z5 z6 hW hh ag) FU _ _ _ _ _ _ _ _ ag_h
theorem fg_XX2_mate_p46 {W : Nat → Nat → Prop} {h0 : Hp} (l0 : Int) (l1 : Int) (l2 : Int) (l3 : Int) (l4 : Int) (l5 : Int) (s0 : Int) (hW : ∀ a i : Nat, (False) → W a i) (h : Hp) (ag_h : Ag W h0 h) : Fr W h0 (XX2_mate_p46 l0 l1 l2 l3 l4 l5 s0 h) := by
  unfold XX2_mate_p46
  exact fg_XX2_mate_L52 _ _ _ _ _ _ _ (fun a i hh => hh.elim) _ ag_h
theorem fg_XX2_mate_p29 {W : Nat → Nat → Prop} {h0 : Hp} (l0 : Int) (l1 : Int) (l2 : Int) (l3 : Int) (l4 : Int) (s0 : Int) (hW : ∀ a i : Nat, (False) → W a i) (h : Hp) (ag_h : Ag W h0 h) : Fr W h0 (XX2_mate_p29 l0 l1 l2 l3 l4 s0 h) := by
  unfold XX2_mate_p29
  refine Fr_ite ?_ ?_
  · exact fg_XX2_mate_p46 _ _ _ _ _ _ _ (fun a i hh => hh.elim) _ ag_h
  · refine Fr_cal (fg_XX2_ones _ (fun a i hh => hh.elim) _ ag_h) (fun r3 h4 ag_h4 => ?_)
    exact fg_XX2_mate_p46 _ _ _ _ _ _ _ (fun a i hh => hh.elim) _ ag_h4
theorem fg_XX2_mate {W : Nat → Nat → Prop} {h0 : Hp} (x0 : Int) (x1 : Int) (x2 : Int) (x3 : Int) (x4 : Int) (hW : ∀ a i : Nat, (False) → W a i) (h : Hp) (ag_h : Ag W h0 h) : Fr W h0 (XX2_mate x0 x1 x2 x3 x4 h) := by
  unfold XX2_mate
  refine Fr_ite ?_ ?_
  · exact Fr_some ag_h
  · refine Fr_cal (fg_XX2_canMake _ _ _ _ (fun a i hh => hh.elim) _ ag_h) (fun r1 h2 ag_h2 => ?_)
    refine Fr_ite ?_ ?_
    · exact Fr_some ag_h2
    · refine Fr_ite ?_ ?_
      · exact fg_XX2_mate_p29 _ _ _ _ _ _ (fun a i hh => hh.elim) _ ag_h2
      · exact fg_XX2_mate_p29 _ _ _ _ _ _ (fun a i hh => hh.elim) _ ag_h2
theorem fr_XX2_mate {x0 : Int} {x1 : Int} {x2 : Int} {x3 : Int} {x4 : Int} {h : Hp} {r : Int} {h1 : Hp} (e : XX2_mate x0 x1 x2 x3 x4 h = some (r, h1)) (a i : Nat) (hn : ¬ (False)) : h1 a i = h a i := fg_XX2_mate (W := fun a i => False) x0 x1 x2 x3 x4 (fun _ _ hh => hh) h (fun _ _ _ => rfl) r h1 e a i hn
theorem fe_XX2_mate {x0 : Int} {x1 : Int} {x2 : Int} {x3 : Int} {x4 : Int} {h : Hp} {r : Int} {h1 : Hp} (e : XX2_mate x0 x1 x2 x3 x4 h = some (r, h1)) : h1 = h := funext (fun a => funext (fun i => fr_XX2_mate e a i (fun hh => hh)))
theorem fg_XX2_split_b43 {W : Nat → Nat → Prop} {h0 : Hp} (self34 : Int → Int → Int → Int → Hp → OR) (hs_self34 : ∀ (y0 y1 y2 y3 : Int) (hh : Hp), Ag W h0 hh → Fr W h0 (self34 y0 y1 y2 y3 hh)) (self43 : Int → Int → Int → Int → Int → Hp → OR) (hs_self43 : ∀ (y0 y1 y2 y3 y4 : Int) (hh : Hp), Ag W h0 hh → Fr W h0 (self43 y0 y1 y2 y3 y4 hh)) (l0 : Int) (l1 : Int) (l2 : Int) (l4 : Int) (l5 : Int) (hW : ∀ a i : Nat, (False) → W a i) (h : Hp) (ag_h : Ag W h0 h) : Fr W h0 (XX2_split_b43 self34 self43 l0 l1 l2 l4 l5 h) := by
  unfold XX2_split_b43
  refine Fr_cal (fg_XX2_ones _ (fun a i hh => hh.elim) _ ag_h) (fun r9 h10 ag_h10 => ?_)
  refine Fr_ite ?_ ?_
  · refine Fr_chk ?_
    exact hs_self34 _ _ _ _ _ ag_h10
  · refine Fr_cal (fg_XX2_price _ _ (fun a i hh => hh.elim) _ ag_h10) (fun r11 h12 ag_h12 => ?_)
    refine Fr_chk ?_
    refine Fr_cal (fg_XX2_mate _ _ _ _ _ (fun a i hh => hh.elim) _ ag_h12) (fun r13 h14 ag_h14 => ?_)
    refine Fr_ite ?_ ?_
    · refine Fr_chk ?_
      exact hs_self43 _ _ _ _ _ _ ag_h14
    · exact Fr_some ag_h14
theorem fg_XX2_split_L43 {W : Nat → Nat → Prop} {h0 : Hp} (self34 : Int → Int → Int → Int → Hp → OR) (hs_self34 : ∀ (y0 y1 y2 y3 : Int) (hh : Hp), Ag W h0 hh → Fr W h0 (self34 y0 y1 y2 y3 hh)) (l0 : Int) (l1 : Int) (l2 : Int) (l4 : Int) (l5 : Int) (hW : ∀ a i : Nat, (False) → W a i) (h : Hp) (ag_h : Ag W h0 h) : Fr W h0 (XX2_split_L43 self34 l0 l1 l2 l4 l5 h) := by
  unfold XX2_split_L43
  exact Fr_lup5 (fun self hs z0 z1 z2 z3 z4 hh ag => fg_XX2_split_b43 self34 hs_self34 self hs z0 z1 z2 z3 z4 hW hh ag) FU _ _ _ _ _ _ ag_h
theorem fg_XX2_split_b34 {W : Nat → Nat → Prop} {h0 : Hp} (self34 : Int → Int → Int → Int → Hp → OR) (hs_self34 : ∀ (y0 y1 y2 y3 : Int) (hh : Hp), Ag W h0 hh → Fr W h0 (self34 y0 y1 y2 y3 hh)) (l0 : Int) (l1 : Int) (l2 : Int) (l4 : Int) (hW : ∀ a i : Nat, (False) → W a i) (h : Hp) (ag_h : Ag W h0 h) : Fr W h0 (XX2_split_b34 self34 l0 l1 l2 l4 h) := by
  unfold XX2_split_b34
  refine Fr_ite ?_ ?_
  · exact Fr_some ag_h
  · exact fg_XX2_split_L43 _ hs_self34 _ _ _ _ _ (fun a i hh => hh.elim) _ ag_h
theorem fg_XX2_split_L34 {W : Nat → Nat → Prop} {h0 : Hp} (l0 : Int) (l1 : Int) (l2 : Int) (l4 : Int) (hW : ∀ a i : Nat, (False) → W a i) (h : Hp) (ag_h : Ag W h0 h) : Fr W h0 (XX2_split_L34 l0 l1 l2 l4 h) := by
  unfold XX2_split_L34
  exact Fr_lup4 (fun self hs z0 z1 z2 z3 hh ag => fg_XX2_split_b34 self hs z0 z1 z2 z3 hW hh ag) FU _ _ _ _ _ ag_h
theorem fg_XX2_split {W : Nat → Nat → Prop} {h0 : Hp} (x0 : Int) (x1 : Int) (hW : ∀ a i : Nat, (False) → W a i) (h : Hp) (ag_h : Ag W h0 h) : Fr W h0 (XX2_split x0 x1 h) := by
  unfold XX2_split
  refine Fr_cal (fg_XX2_price _ _ (fun a i hh => hh.elim) _ ag_h) (fun r1 h2 ag_h2 => ?_)
  refine Fr_chk ?_
  refine Fr_nm (fun v3 => ?_)
  refine Fr_cal (fg_XX2_ones _ (fun a i hh => hh.elim) _ ag_h2) (fun r4 h5 ag_h5 => ?_)
  refine Fr_nm (fun v6 => ?_)
  refine Fr_cal (fg_XX2_price _ _ (fun a i hh => hh.elim) _ ag_h5) (fun r7 h8 ag_h8 => ?_)
  refine Fr_ite ?_ ?_
  · exact Fr_some ag_h8
  · exact fg_XX2_split_L34 _ _ _ _ (fun a i hh => hh.elim) _ ag_h8
theorem fr_XX2_split {x0 : Int} {x1 : Int} {h : Hp} {r : Int} {h1 : Hp} (e : XX2_split x0 x1 h = some (r, h1)) (a i : Nat) (hn : ¬ (False)) : h1 a i = h a i := fg_XX2_split (W := fun a i => False) x0 x1 (fun _ _ hh => hh) h (fun _ _ _ => rfl) r h1 e a i hn
theorem fe_XX2_split {x0 : Int} {x1 : Int} {h : Hp} {r : Int} {h1 : Hp} (e : XX2_split x0 x1 h = some (r, h1)) : h1 = h := funext (fun a => funext (fun i => fr_XX2_split e a i (fun hh => hh)))
theorem fg_XX8_start {W : Nat → Nat → Prop} {h0 : Hp} (p : Nat) (x0 : Int) (x1 : Int) (x2 : Int) (hW : ∀ a i : Nat, ((a = p ∧ 0 ≤ i ∧ i ≤ 3) ∨ a = p + 3 ∨ a = p + 4) → W a i) (h : Hp) (ag_h : Ag W h0 h) : Fr W h0 (XX8_start p x0 x1 x2 h) := by
  unfold XX8_start
  refine Fr_wr ag_h (hW _ _ (Or.inl (by omega))) (fun h1 ag_h1 => ?_)
  refine Fr_wr ag_h1 (hW _ _ (Or.inl (by omega))) (fun h2 ag_h2 => ?_)
  refine Fr_wr ag_h2 (hW _ _ (Or.inl (by omega))) (fun h3 ag_h3 => ?_)
  refine Fr_wr ag_h3 (hW _ _ (Or.inl (by omega))) (fun h4 ag_h4 => ?_)
  refine Fr_cal (fg_XJ7_fill_53178 _ _ _ (fun a i hh => hW a i (Or.inr (Or.inl (by omega)))) _ ag_h4) (fun r5 h6 ag_h6 => ?_)
  refine Fr_cal (fg_XJ7_fill_53178 _ _ _ (fun a i hh => hW a i (Or.inr (Or.inr (by omega)))) _ ag_h6) (fun r7 h8 ag_h8 => ?_)
  exact Fr_some ag_h8
theorem fr_XX8_start {p : Nat} {x0 : Int} {x1 : Int} {x2 : Int} {h : Hp} {r : Int} {h1 : Hp} (e : XX8_start p x0 x1 x2 h = some (r, h1)) (a i : Nat) (hn : ¬ ((a = p ∧ 0 ≤ i ∧ i ≤ 3) ∨ a = p + 3 ∨ a = p + 4)) : h1 a i = h a i := fg_XX8_start (W := fun a i => (a = p ∧ 0 ≤ i ∧ i ≤ 3) ∨ a = p + 3 ∨ a = p + 4) p x0 x1 x2 (fun _ _ hh => hh) h (fun _ _ _ => rfl) r h1 e a i hn
theorem fg_XX8_sources {W : Nat → Nat → Prop} {h0 : Hp} (p : Nat) (hW : ∀ a i : Nat, (False) → W a i) (h : Hp) (ag_h : Ag W h0 h) : Fr W h0 (XX8_sources p h) := by
  unfold XX8_sources
  refine Fr_chk ?_
  exact Fr_some ag_h
theorem fr_XX8_sources {p : Nat} {h : Hp} {r : Int} {h1 : Hp} (e : XX8_sources p h = some (r, h1)) (a i : Nat) (hn : ¬ (False)) : h1 a i = h a i := fg_XX8_sources (W := fun a i => False) p (fun _ _ hh => hh) h (fun _ _ _ => rfl) r h1 e a i hn
theorem fe_XX8_sources {p : Nat} {h : Hp} {r : Int} {h1 : Hp} (e : XX8_sources p h = some (r, h1)) : h1 = h := funext (fun a => funext (fun i => fr_XX8_sources e a i (fun hh => hh)))
theorem fg_XX8_wires {W : Nat → Nat → Prop} {h0 : Hp} (p : Nat) (hW : ∀ a i : Nat, (False) → W a i) (h : Hp) (ag_h : Ag W h0 h) : Fr W h0 (XX8_wires p h) := by
  unfold XX8_wires
  refine Fr_chk ?_
  refine Fr_chk ?_
  exact Fr_some ag_h
theorem fr_XX8_wires {p : Nat} {h : Hp} {r : Int} {h1 : Hp} (e : XX8_wires p h = some (r, h1)) (a i : Nat) (hn : ¬ (False)) : h1 a i = h a i := fg_XX8_wires (W := fun a i => False) p (fun _ _ hh => hh) h (fun _ _ _ => rfl) r h1 e a i hn
theorem fe_XX8_wires {p : Nat} {h : Hp} {r : Int} {h1 : Hp} (e : XX8_wires p h = some (r, h1)) : h1 = h := funext (fun a => funext (fun i => fr_XX8_wires e a i (fun hh => hh)))
theorem fg_XX8_seenCount {W : Nat → Nat → Prop} {h0 : Hp} (p : Nat) (hW : ∀ a i : Nat, (False) → W a i) (h : Hp) (ag_h : Ag W h0 h) : Fr W h0 (XX8_seenCount p h) := by
  unfold XX8_seenCount
  refine Fr_chk ?_
  exact Fr_some ag_h
theorem fr_XX8_seenCount {p : Nat} {h : Hp} {r : Int} {h1 : Hp} (e : XX8_seenCount p h = some (r, h1)) (a i : Nat) (hn : ¬ (False)) : h1 a i = h a i := fg_XX8_seenCount (W := fun a i => False) p (fun _ _ hh => hh) h (fun _ _ _ => rfl) r h1 e a i hn
theorem fe_XX8_seenCount {p : Nat} {h : Hp} {r : Int} {h1 : Hp} (e : XX8_seenCount p h = some (r, h1)) : h1 = h := funext (fun a => funext (fun i => fr_XX8_seenCount e a i (fun hh => hh)))
theorem fg_XX8_isWire {W : Nat → Nat → Prop} {h0 : Hp} (p : Nat) (x0 : Int) (hW : ∀ a i : Nat, (False) → W a i) (h : Hp) (ag_h : Ag W h0 h) : Fr W h0 (XX8_isWire p x0 h) := by
  unfold XX8_isWire
  refine Fr_ite ?_ ?_
  · refine Fr_zb ?_
    exact Fr_some ag_h
  · refine Fr_cal (fg_XX8_wires _ (fun a i hh => hh.elim) _ ag_h) (fun r1 h2 ag_h2 => ?_)
    refine Fr_ite ?_ ?_
    · refine Fr_zb ?_
      exact Fr_some ag_h2
    · refine Fr_zb ?_
      exact Fr_some ag_h2
theorem fr_XX8_isWire {p : Nat} {x0 : Int} {h : Hp} {r : Int} {h1 : Hp} (e : XX8_isWire p x0 h = some (r, h1)) (a i : Nat) (hn : ¬ (False)) : h1 a i = h a i := fg_XX8_isWire (W := fun a i => False) p x0 (fun _ _ hh => hh) h (fun _ _ _ => rfl) r h1 e a i hn
theorem fe_XX8_isWire {p : Nat} {x0 : Int} {h : Hp} {r : Int} {h1 : Hp} (e : XX8_isWire p x0 h = some (r, h1)) : h1 = h := funext (fun a => funext (fun i => fr_XX8_isWire e a i (fun hh => hh)))
theorem fg_XX8_isGate {W : Nat → Nat → Prop} {h0 : Hp} (p : Nat) (x0 : Int) (hW : ∀ a i : Nat, (False) → W a i) (h : Hp) (ag_h : Ag W h0 h) : Fr W h0 (XX8_isGate p x0 h) := by
  unfold XX8_isGate
  refine Fr_cal (fg_XX8_sources _ (fun a i hh => hh.elim) _ ag_h) (fun r1 h2 ag_h2 => ?_)
  refine Fr_ite ?_ ?_
  · refine Fr_zb ?_
    exact Fr_some ag_h2
  · refine Fr_cal (fg_XX8_wires _ (fun a i hh => hh.elim) _ ag_h2) (fun r3 h4 ag_h4 => ?_)
    refine Fr_ite ?_ ?_
    · refine Fr_zb ?_
      exact Fr_some ag_h4
    · refine Fr_zb ?_
      exact Fr_some ag_h4
theorem fr_XX8_isGate {p : Nat} {x0 : Int} {h : Hp} {r : Int} {h1 : Hp} (e : XX8_isGate p x0 h = some (r, h1)) (a i : Nat) (hn : ¬ (False)) : h1 a i = h a i := fg_XX8_isGate (W := fun a i => False) p x0 (fun _ _ hh => hh) h (fun _ _ _ => rfl) r h1 e a i hn
theorem fe_XX8_isGate {p : Nat} {x0 : Int} {h : Hp} {r : Int} {h1 : Hp} (e : XX8_isGate p x0 h = some (r, h1)) : h1 = h := funext (fun a => funext (fun i => fr_XX8_isGate e a i (fun hh => hh)))
theorem fg_XX8_hasPin {W : Nat → Nat → Prop} {h0 : Hp} (p : Nat) (x0 : Int) (x1 : Int) (hW : ∀ a i : Nat, (False) → W a i) (h : Hp) (ag_h : Ag W h0 h) : Fr W h0 (XX8_hasPin p x0 x1 h) := by
  unfold XX8_hasPin
  refine Fr_ite ?_ ?_
  · refine Fr_zb ?_
    exact Fr_some ag_h
  · refine Fr_inb ?_
    refine Fr_inb ?_
    refine Fr_ite ?_ ?_
    · refine Fr_zb ?_
      exact Fr_some ag_h
    · refine Fr_zb ?_
      exact Fr_some ag_h
theorem fr_XX8_hasPin {p : Nat} {x0 : Int} {x1 : Int} {h : Hp} {r : Int} {h1 : Hp} (e : XX8_hasPin p x0 x1 h = some (r, h1)) (a i : Nat) (hn : ¬ (False)) : h1 a i = h a i := fg_XX8_hasPin (W := fun a i => False) p x0 x1 (fun _ _ hh => hh) h (fun _ _ _ => rfl) r h1 e a i hn
theorem fe_XX8_hasPin {p : Nat} {x0 : Int} {x1 : Int} {h : Hp} {r : Int} {h1 : Hp} (e : XX8_hasPin p x0 x1 h = some (r, h1)) : h1 = h := funext (fun a => funext (fun i => fr_XX8_hasPin e a i (fun hh => hh)))
theorem fg_XX8_addGate {W : Nat → Nat → Prop} {h0 : Hp} (p : Nat) (x0 : Int) (x1 : Int) (x2 : Int) (x3 : Int) (x4 : Int) (hW : ∀ a i : Nat, ((a = p ∧ i = 3) ∨ a = p + 1 ∨ a = p + 2 ∨ a = p + 4) → W a i) (h : Hp) (ag_h : Ag W h0 h) : Fr W h0 (XX8_addGate p x0 x1 x2 x3 x4 h) := by
  unfold XX8_addGate
  refine Fr_cal (fg_XX8_wires _ (fun a i hh => hh.elim) _ ag_h) (fun r1 h2 ag_h2 => ?_)
  refine Fr_inb ?_
  refine Fr_wr ag_h2 (hW _ _ (Or.inr (Or.inl (by omega)))) (fun h3 ag_h3 => ?_)
  refine Fr_chk ?_
  refine Fr_inb ?_
  refine Fr_wr ag_h3 (hW _ _ (Or.inr (Or.inr (Or.inl (by omega))))) (fun h4 ag_h4 => ?_)
  refine Fr_chk ?_
  refine Fr_chk ?_
  refine Fr_inb ?_
  refine Fr_wr ag_h4 (hW _ _ (Or.inr (Or.inr (Or.inl (by omega))))) (fun h5 ag_h5 => ?_)
  refine Fr_chk ?_
  refine Fr_chk ?_
  refine Fr_inb ?_
  refine Fr_wr ag_h5 (hW _ _ (Or.inr (Or.inr (Or.inl (by omega))))) (fun h6 ag_h6 => ?_)
  refine Fr_inb ?_
  refine Fr_wr ag_h6 (hW _ _ (Or.inr (Or.inr (Or.inr (by omega))))) (fun h7 ag_h7 => ?_)
  refine Fr_chk ?_
  refine Fr_wr ag_h7 (hW _ _ (Or.inl (by omega))) (fun h8 ag_h8 => ?_)
  exact Fr_some ag_h8
theorem fr_XX8_addGate {p : Nat} {x0 : Int} {x1 : Int} {x2 : Int} {x3 : Int} {x4 : Int} {h : Hp} {r : Int} {h1 : Hp} (e : XX8_addGate p x0 x1 x2 x3 x4 h = some (r, h1)) (a i : Nat) (hn : ¬ ((a = p ∧ i = 3) ∨ a = p + 1 ∨ a = p + 2 ∨ a = p + 4)) : h1 a i = h a i := fg_XX8_addGate (W := fun a i => (a = p ∧ i = 3) ∨ a = p + 1 ∨ a = p + 2 ∨ a = p + 4) p x0 x1 x2 x3 x4 (fun _ _ hh => hh) h (fun _ _ _ => rfl) r h1 e a i hn
theorem fg_XX8_sameShape {W : Nat → Nat → Prop} {h0 : Hp} (p : Nat) (x0 : Nat) (hW : ∀ a i : Nat, (False) → W a i) (h : Hp) (ag_h : Ag W h0 h) : Fr W h0 (XX8_sameShape p x0 h) := by
  unfold XX8_sameShape
  refine Fr_ite ?_ ?_
  · refine Fr_ite ?_ ?_
    · refine Fr_ite ?_ ?_
      · refine Fr_zb ?_
        exact Fr_some ag_h
      · refine Fr_zb ?_
        exact Fr_some ag_h
    · refine Fr_zb ?_
      exact Fr_some ag_h
  · refine Fr_zb ?_
    exact Fr_some ag_h
theorem fr_XX8_sameShape {p : Nat} {x0 : Nat} {h : Hp} {r : Int} {h1 : Hp} (e : XX8_sameShape p x0 h = some (r, h1)) (a i : Nat) (hn : ¬ (False)) : h1 a i = h a i := fg_XX8_sameShape (W := fun a i => False) p x0 (fun _ _ hh => hh) h (fun _ _ _ => rfl) r h1 e a i hn
theorem fe_XX8_sameShape {p : Nat} {x0 : Nat} {h : Hp} {r : Int} {h1 : Hp} (e : XX8_sameShape p x0 h = some (r, h1)) : h1 = h := funext (fun a => funext (fun i => fr_XX8_sameShape e a i (fun hh => hh)))
theorem fg_XX8_take {W : Nat → Nat → Prop} {h0 : Hp} (p : Nat) (x0 : Nat) (hW : ∀ a i : Nat, ((a = p ∧ 0 ≤ i ∧ i ≤ 3) ∨ a = p + 1 ∨ a = p + 2 ∨ a = p + 3 ∨ a = p + 4) → W a i) (h : Hp) (ag_h : Ag W h0 h) : Fr W h0 (XX8_take p x0 h) := by
  unfold XX8_take
  refine Fr_wr ag_h (hW _ _ (Or.inl (by omega))) (fun h1 ag_h1 => ?_)
  refine Fr_wr ag_h1 (hW _ _ (Or.inl (by omega))) (fun h2 ag_h2 => ?_)
  refine Fr_wr ag_h2 (hW _ _ (Or.inl (by omega))) (fun h3 ag_h3 => ?_)
  refine Fr_wr ag_h3 (hW _ _ (Or.inl (by omega))) (fun h4 ag_h4 => ?_)
  refine Fr_acp ?_
  refine Fr_cpy ag_h4 (fun q => hW _ _ (Or.inr (Or.inl (by omega)))) (fun h5 ag_h5 => ?_)
  refine Fr_acp ?_
  refine Fr_cpy ag_h5 (fun q => hW _ _ (Or.inr (Or.inr (Or.inl (by omega))))) (fun h6 ag_h6 => ?_)
  refine Fr_acp ?_
  refine Fr_cpy ag_h6 (fun q => hW _ _ (Or.inr (Or.inr (Or.inr (Or.inl (by omega)))))) (fun h7 ag_h7 => ?_)
  refine Fr_acp ?_
  refine Fr_cpy ag_h7 (fun q => hW _ _ (Or.inr (Or.inr (Or.inr (Or.inr (by omega)))))) (fun h8 ag_h8 => ?_)
  exact Fr_some ag_h8
theorem fr_XX8_take {p : Nat} {x0 : Nat} {h : Hp} {r : Int} {h1 : Hp} (e : XX8_take p x0 h = some (r, h1)) (a i : Nat) (hn : ¬ ((a = p ∧ 0 ≤ i ∧ i ≤ 3) ∨ a = p + 1 ∨ a = p + 2 ∨ a = p + 3 ∨ a = p + 4)) : h1 a i = h a i := fg_XX8_take (W := fun a i => (a = p ∧ 0 ≤ i ∧ i ≤ 3) ∨ a = p + 1 ∨ a = p + 2 ∨ a = p + 3 ∨ a = p + 4) p x0 (fun _ _ hh => hh) h (fun _ _ _ => rfl) r h1 e a i hn
theorem fg_XX10_hold {W : Nat → Nat → Prop} {h0 : Hp} (p : Nat) (x0 : Int) (x1 : Int) (hW : ∀ a i : Nat, ((a = p ∧ 0 ≤ i ∧ i ≤ 1) ∨ a = p + 1) → W a i) (h : Hp) (ag_h : Ag W h0 h) : Fr W h0 (XX10_hold p x0 x1 h) := by
  unfold XX10_hold
  refine Fr_wr ag_h (hW _ _ (Or.inl (by omega))) (fun h1 ag_h1 => ?_)
  refine Fr_wr ag_h1 (hW _ _ (Or.inl (by omega))) (fun h2 ag_h2 => ?_)
  refine Fr_cal (fg_XJ7_fill_d0a16 _ _ _ (fun a i hh => hW a i (Or.inr (by omega))) _ ag_h2) (fun r3 h4 ag_h4 => ?_)
  exact Fr_some ag_h4
theorem fr_XX10_hold {p : Nat} {x0 : Int} {x1 : Int} {h : Hp} {r : Int} {h1 : Hp} (e : XX10_hold p x0 x1 h = some (r, h1)) (a i : Nat) (hn : ¬ ((a = p ∧ 0 ≤ i ∧ i ≤ 1) ∨ a = p + 1)) : h1 a i = h a i := fg_XX10_hold (W := fun a i => (a = p ∧ 0 ≤ i ∧ i ≤ 1) ∨ a = p + 1) p x0 x1 (fun _ _ hh => hh) h (fun _ _ _ => rfl) r h1 e a i hn
theorem fg_XX10_isRow {W : Nat → Nat → Prop} {h0 : Hp} (p : Nat) (hW : ∀ a i : Nat, (False) → W a i) (h : Hp) (ag_h : Ag W h0 h) : Fr W h0 (XX10_isRow p h) := by
  unfold XX10_isRow
  refine Fr_ite ?_ ?_
  · refine Fr_zb ?_
    exact Fr_some ag_h
  · refine Fr_ite ?_ ?_
    · refine Fr_zb ?_
      exact Fr_some ag_h
    · refine Fr_zb ?_
      exact Fr_some ag_h
theorem fr_XX10_isRow {p : Nat} {h : Hp} {r : Int} {h1 : Hp} (e : XX10_isRow p h = some (r, h1)) (a i : Nat) (hn : ¬ (False)) : h1 a i = h a i := fg_XX10_isRow (W := fun a i => False) p (fun _ _ hh => hh) h (fun _ _ _ => rfl) r h1 e a i hn
theorem fe_XX10_isRow {p : Nat} {h : Hp} {r : Int} {h1 : Hp} (e : XX10_isRow p h = some (r, h1)) : h1 = h := funext (fun a => funext (fun i => fr_XX10_isRow e a i (fun hh => hh)))
theorem fg_XX10_hasElement {W : Nat → Nat → Prop} {h0 : Hp} (p : Nat) (x0 : Int) (hW : ∀ a i : Nat, (False) → W a i) (h : Hp) (ag_h : Ag W h0 h) : Fr W h0 (XX10_hasElement p x0 h) := by
  unfold XX10_hasElement
  refine Fr_ite ?_ ?_
  · refine Fr_zb ?_
    exact Fr_some ag_h
  · refine Fr_ite ?_ ?_
    · refine Fr_zb ?_
      exact Fr_some ag_h
    · refine Fr_zb ?_
      exact Fr_some ag_h
theorem fr_XX10_hasElement {p : Nat} {x0 : Int} {h : Hp} {r : Int} {h1 : Hp} (e : XX10_hasElement p x0 h = some (r, h1)) (a i : Nat) (hn : ¬ (False)) : h1 a i = h a i := fg_XX10_hasElement (W := fun a i => False) p x0 (fun _ _ hh => hh) h (fun _ _ _ => rfl) r h1 e a i hn
theorem fe_XX10_hasElement {p : Nat} {x0 : Int} {h : Hp} {r : Int} {h1 : Hp} (e : XX10_hasElement p x0 h = some (r, h1)) : h1 = h := funext (fun a => funext (fun i => fr_XX10_hasElement e a i (fun hh => hh)))
theorem fg_XX10_hasElements {W : Nat → Nat → Prop} {h0 : Hp} (p : Nat) (x0 : Int) (x1 : Int) (hW : ∀ a i : Nat, (False) → W a i) (h : Hp) (ag_h : Ag W h0 h) : Fr W h0 (XX10_hasElements p x0 x1 h) := by
  unfold XX10_hasElements
  refine Fr_ite ?_ ?_
  · refine Fr_zb ?_
    exact Fr_some ag_h
  · refine Fr_ite ?_ ?_
    · refine Fr_zb ?_
      exact Fr_some ag_h
    · refine Fr_chk ?_
      refine Fr_ite ?_ ?_
      · refine Fr_zb ?_
        exact Fr_some ag_h
      · refine Fr_zb ?_
        exact Fr_some ag_h
theorem fr_XX10_hasElements {p : Nat} {x0 : Int} {x1 : Int} {h : Hp} {r : Int} {h1 : Hp} (e : XX10_hasElements p x0 x1 h = some (r, h1)) (a i : Nat) (hn : ¬ (False)) : h1 a i = h a i := fg_XX10_hasElements (W := fun a i => False) p x0 x1 (fun _ _ hh => hh) h (fun _ _ _ => rfl) r h1 e a i hn
theorem fe_XX10_hasElements {p : Nat} {x0 : Int} {x1 : Int} {h : Hp} {r : Int} {h1 : Hp} (e : XX10_hasElements p x0 x1 h = some (r, h1)) : h1 = h := funext (fun a => funext (fun i => fr_XX10_hasElements e a i (fun hh => hh)))
theorem fg_XX10_narrowed {W : Nat → Nat → Prop} {h0 : Hp} (p : Nat) (x0 : Int) (hW : ∀ a i : Nat, (False) → W a i) (h : Hp) (ag_h : Ag W h0 h) : Fr W h0 (XX10_narrowed p x0 h) := by
  unfold XX10_narrowed
  refine Fr_nm (fun v1 => ?_)
  refine Fr_ite ?_ ?_
  · exact Fr_some ag_h
  · refine Fr_ite ?_ ?_
    · exact Fr_some ag_h
    · refine Fr_ite ?_ ?_
      · exact Fr_some ag_h
      · exact Fr_some ag_h
theorem fr_XX10_narrowed {p : Nat} {x0 : Int} {h : Hp} {r : Int} {h1 : Hp} (e : XX10_narrowed p x0 h = some (r, h1)) (a i : Nat) (hn : ¬ (False)) : h1 a i = h a i := fg_XX10_narrowed (W := fun a i => False) p x0 (fun _ _ hh => hh) h (fun _ _ _ => rfl) r h1 e a i hn
theorem fe_XX10_narrowed {p : Nat} {x0 : Int} {h : Hp} {r : Int} {h1 : Hp} (e : XX10_narrowed p x0 h = some (r, h1)) : h1 = h := funext (fun a => funext (fun i => fr_XX10_narrowed e a i (fun hh => hh)))
theorem fg_XX6_start {W : Nat → Nat → Prop} {h0 : Hp} (p : Nat) (x0 : Int) (x1 : Int) (x2 : Int) (hW : ∀ a i : Nat, ((a = p ∧ i = 6) ∨ (a = p + 1 ∧ 0 ≤ i ∧ i ≤ 3) ∨ a = p + 4 ∨ a = p + 5) → W a i) (h : Hp) (ag_h : Ag W h0 h) : Fr W h0 (XX6_start p x0 x1 x2 h) := by
  unfold XX6_start
  refine Fr_cal (fg_XX8_start _ _ _ _ (fun a i hh => hW a i ((fun q => q.elim (fun q => Or.inr (Or.inl (by omega))) (fun q => q.elim (fun q => Or.inr (Or.inr (Or.inl (by omega)))) (fun q => Or.inr (Or.inr (Or.inr (by omega)))))) hh)) _ ag_h) (fun r1 h2 ag_h2 => ?_)
  refine Fr_zb ?_
  refine Fr_wr ag_h2 (hW _ _ (Or.inl (by omega))) (fun h3 ag_h3 => ?_)
  exact Fr_some ag_h3
theorem fr_XX6_start {p : Nat} {x0 : Int} {x1 : Int} {x2 : Int} {h : Hp} {r : Int} {h1 : Hp} (e : XX6_start p x0 x1 x2 h = some (r, h1)) (a i : Nat) (hn : ¬ ((a = p ∧ i = 6) ∨ (a = p + 1 ∧ 0 ≤ i ∧ i ≤ 3) ∨ a = p + 4 ∨ a = p + 5)) : h1 a i = h a i := fg_XX6_start (W := fun a i => (a = p ∧ i = 6) ∨ (a = p + 1 ∧ 0 ≤ i ∧ i ≤ 3) ∨ a = p + 4 ∨ a = p + 5) p x0 x1 x2 (fun _ _ hh => hh) h (fun _ _ _ => rfl) r h1 e a i hn
theorem fg_XX6_stale {W : Nat → Nat → Prop} {h0 : Hp} (p : Nat) (hW : ∀ a i : Nat, ((a = p ∧ i = 6)) → W a i) (h : Hp) (ag_h : Ag W h0 h) : Fr W h0 (XX6_stale p h) := by
  unfold XX6_stale
  refine Fr_zb ?_
  refine Fr_wr ag_h (hW _ _ (by omega)) (fun h1 ag_h1 => ?_)
  exact Fr_some ag_h1
theorem fr_XX6_stale {p : Nat} {h : Hp} {r : Int} {h1 : Hp} (e : XX6_stale p h = some (r, h1)) (a i : Nat) (hn : ¬ ((a = p ∧ i = 6))) : h1 a i = h a i := fg_XX6_stale (W := fun a i => (a = p ∧ i = 6)) p (fun _ _ hh => hh) h (fun _ _ _ => rfl) r h1 e a i hn
theorem fg_XX6_pinsReady_b3 {W : Nat → Nat → Prop} {h0 : Hp} (a0 : Nat) (self3 : Int → Int → Int → Hp → OR) (hs_self3 : ∀ (y0 y1 y2 : Int) (hh : Hp), Ag W h0 hh → Fr W h0 (self3 y0 y1 y2 hh)) (l1 : Int) (l2 : Int) (l4 : Int) (hW : ∀ a i : Nat, (False) → W a i) (h : Hp) (ag_h : Ag W h0 h) : Fr W h0 (XX6_pinsReady_b3 a0 self3 l1 l2 l4 h) := by
  unfold XX6_pinsReady_b3
  refine Fr_inb ?_
  refine Fr_inb ?_
  refine Fr_ite ?_ ?_
  · refine Fr_zb ?_
    exact Fr_some ag_h
  · refine Fr_chk ?_
    refine Fr_chk ?_
    refine Fr_inb ?_
    refine Fr_ite ?_ ?_
    · refine Fr_zb ?_
      exact Fr_some ag_h
    · refine Fr_chk ?_
      exact hs_self3 _ _ _ _ ag_h
theorem fg_XX6_pinsReady_L3 {W : Nat → Nat → Prop} {h0 : Hp} (a0 : Nat) (l1 : Int) (l2 : Int) (l4 : Int) (hW : ∀ a i : Nat, (False) → W a i) (h : Hp) (ag_h : Ag W h0 h) : Fr W h0 (XX6_pinsReady_L3 a0 l1 l2 l4 h) := by
  unfold XX6_pinsReady_L3
  exact Fr_lup3 (fun self hs z0 z1 z2 hh ag => fg_XX6_pinsReady_b3 a0 self hs z0 z1 z2 hW hh ag) FU _ _ _ _ ag_h
theorem fg_XX6_pinsReady {W : Nat → Nat → Prop} {h0 : Hp} (p : Nat) (x0 : Int) (x1 : Int) (hW : ∀ a i : Nat, (False) → W a i) (h : Hp) (ag_h : Ag W h0 h) : Fr W h0 (XX6_pinsReady p x0 x1 h) := by
  unfold XX6_pinsReady
  exact fg_XX6_pinsReady_L3 _ _ _ _ (fun a i hh => hh.elim) _ ag_h
theorem fr_XX6_pinsReady {p : Nat} {x0 : Int} {x1 : Int} {h : Hp} {r : Int} {h1 : Hp} (e : XX6_pinsReady p x0 x1 h = some (r, h1)) (a i : Nat) (hn : ¬ (False)) : h1 a i = h a i := fg_XX6_pinsReady (W := fun a i => False) p x0 x1 (fun _ _ hh => hh) h (fun _ _ _ => rfl) r h1 e a i hn
theorem fe_XX6_pinsReady {p : Nat} {x0 : Int} {x1 : Int} {h : Hp} {r : Int} {h1 : Hp} (e : XX6_pinsReady p x0 x1 h = some (r, h1)) : h1 = h := funext (fun a => funext (fun i => fr_XX6_pinsReady e a i (fun hh => hh)))
theorem fg_XX6_sortGates_p100 {W : Nat → Nat → Prop} {h0 : Hp} (a0 : Nat) (self17 : Int → Int → Int → Hp → OR) (hs_self17 : ∀ (y0 y1 y2 : Int) (hh : Hp), Ag W h0 hh → Fr W h0 (self17 y0 y1 y2 hh)) (self49 : Int → Int → Int → Int → Hp → OR) (hs_self49 : ∀ (y0 y1 y2 y3 : Int) (hh : Hp), Ag W h0 hh → Fr W h0 (self49 y0 y1 y2 y3 hh)) (l1 : Int) (l3 : Int) (l4 : Int) (l5 : Int) (hW : ∀ a i : Nat, (False) → W a i) (h : Hp) (ag_h : Ag W h0 h) : Fr W h0 (XX6_sortGates_p100 a0 self17 self49 l1 l3 l4 l5 h) := by
  unfold XX6_sortGates_p100
  refine Fr_chk ?_
  exact hs_self49 _ _ _ _ _ ag_h
theorem fg_XX6_sortGates_b49 {W : Nat → Nat → Prop} {h0 : Hp} (a0 : Nat) (self17 : Int → Int → Int → Hp → OR) (hs_self17 : ∀ (y0 y1 y2 : Int) (hh : Hp), Ag W h0 hh → Fr W h0 (self17 y0 y1 y2 hh)) (self49 : Int → Int → Int → Int → Hp → OR) (hs_self49 : ∀ (y0 y1 y2 y3 : Int) (hh : Hp), Ag W h0 hh → Fr W h0 (self49 y0 y1 y2 y3 hh)) (l1 : Int) (l3 : Int) (l4 : Int) (l5 : Int) (hW : ∀ a i : Nat, (a = a0 + 6) → W a i) (h : Hp) (ag_h : Ag W h0 h) : Fr W h0 (XX6_sortGates_b49 a0 self17 self49 l1 l3 l4 l5 h) := by
  unfold XX6_sortGates_b49
  refine Fr_cal (fg_XX8_wires _ (fun a i hh => hh.elim) _ ag_h) (fun r6 h7 ag_h7 => ?_)
  refine Fr_ite ?_ ?_
  · refine Fr_chk ?_
    exact hs_self17 _ _ _ _ ag_h7
  · refine Fr_ite ?_ ?_
    · refine Fr_cal (fg_XX6_pinsReady _ _ _ (fun a i hh => hh.elim) _ ag_h7) (fun r8 h9 ag_h9 => ?_)
      refine Fr_ite ?_ ?_
      · exact fg_XX6_sortGates_p100 _ _ hs_self17 _ hs_self49 _ _ _ _ (fun a i hh => hh.elim) _ ag_h9
      · refine Fr_nm (fun v10 => ?_)
        refine Fr_inb ?_
        refine Fr_wr ag_h9 (hW _ _ (by omega)) (fun h11 ag_h11 => ?_)
        refine Fr_chk ?_
        exact fg_XX6_sortGates_p100 _ _ hs_self17 _ hs_self49 _ _ _ _ (fun a i hh => hh.elim) _ ag_h11
    · exact fg_XX6_sortGates_p100 _ _ hs_self17 _ hs_self49 _ _ _ _ (fun a i hh => hh.elim) _ ag_h7
theorem fg_XX6_sortGates_L49 {W : Nat → Nat → Prop} {h0 : Hp} (a0 : Nat) (self17 : Int → Int → Int → Hp → OR) (hs_self17 : ∀ (y0 y1 y2 : Int) (hh : Hp), Ag W h0 hh → Fr W h0 (self17 y0 y1 y2 hh)) (l1 : Int) (l3 : Int) (l4 : Int) (l5 : Int) (hW : ∀ a i : Nat, (a = a0 + 6) → W a i) (h : Hp) (ag_h : Ag W h0 h) : Fr W h0 (XX6_sortGates_L49 a0 self17 l1 l3 l4 l5 h) := by
  unfold XX6_sortGates_L49
  exact Fr_lup4 (fun self hs z0 z1 z2 z3 hh ag => fg_XX6_sortGates_b49 a0 self17 hs_self17 self hs z0 z1 z2 z3 hW hh ag) FU _ _ _ _ _ ag_h
theorem fg_XX6_sortGates_b17 {W : Nat → Nat → Prop} {h0 : Hp} (a0 : Nat) (self17 : Int → Int → Int → Hp → OR) (hs_self17 : ∀ (y0 y1 y2 : Int) (hh : Hp), Ag W h0 hh → Fr W h0 (self17 y0 y1 y2 hh)) (l1 : Int) (l3 : Int) (l4 : Int) (hW : ∀ a i : Nat, (a = a0 + 6) → W a i) (h : Hp) (ag_h : Ag W h0 h) : Fr W h0 (XX6_sortGates_b17 a0 self17 l1 l3 l4 h) := by
  unfold XX6_sortGates_b17
  refine Fr_ite ?_ ?_
  · exact Fr_some ag_h
  · refine Fr_ite ?_ ?_
    · exact Fr_some ag_h
    · refine Fr_cal (fg_XX8_sources _ (fun a i hh => hh.elim) _ ag_h) (fun r4 h5 ag_h5 => ?_)
      exact fg_XX6_sortGates_L49 _ _ hs_self17 _ _ _ _ (fun a i hh => hW a i (by omega)) _ ag_h5
theorem fg_XX6_sortGates_L17 {W : Nat → Nat → Prop} {h0 : Hp} (a0 : Nat) (l1 : Int) (l3 : Int) (l4 : Int) (hW : ∀ a i : Nat, (a = a0 + 6) → W a i) (h : Hp) (ag_h : Ag W h0 h) : Fr W h0 (XX6_sortGates_L17 a0 l1 l3 l4 h) := by
  unfold XX6_sortGates_L17
  exact Fr_lup3 (fun self hs z0 z1 z2 hh ag => fg_XX6_sortGates_b17 a0 self hs z0 z1 z2 hW hh ag) FU _ _ _ _ ag_h
theorem fg_XX6_sortGates {W : Nat → Nat → Prop} {h0 : Hp} (p : Nat) (hW : ∀ a i : Nat, (a = p + 6) → W a i) (h : Hp) (ag_h : Ag W h0 h) : Fr W h0 (XX6_sortGates p h) := by
  unfold XX6_sortGates
  refine Fr_cal (fg_XX8_sources _ (fun a i hh => hh.elim) _ ag_h) (fun r1 h2 ag_h2 => ?_)
  refine Fr_nm (fun v3 => ?_)
  exact fg_XX6_sortGates_L17 _ _ _ _ (fun a i hh => hW a i (by omega)) _ ag_h2
theorem fr_XX6_sortGates {p : Nat} {h : Hp} {r : Int} {h1 : Hp} (e : XX6_sortGates p h = some (r, h1)) (a i : Nat) (hn : ¬ (a = p + 6)) : h1 a i = h a i := fg_XX6_sortGates (W := fun a i => a = p + 6) p (fun _ _ hh => hh) h (fun _ _ _ => rfl) r h1 e a i hn
theorem fg_XX6_findBelow_b55 {W : Nat → Nat → Prop} {h0 : Hp} (a0 : Nat) (self30 : Int → Hp → OR) (hs_self30 : ∀ (y0 : Int) (hh : Hp), Ag W h0 hh → Fr W h0 (self30 y0 hh)) (self55 : Int → Int → Int → Int → Hp → OR) (hs_self55 : ∀ (y0 y1 y2 y3 : Int) (hh : Hp), Ag W h0 hh → Fr W h0 (self55 y0 y1 y2 y3 hh)) (l1 : Int) (l2 : Int) (l3 : Int) (l5 : Int) (hW : ∀ a i : Nat, (a = a0 + 7) → W a i) (h : Hp) (ag_h : Ag W h0 h) : Fr W h0 (XX6_findBelow_b55 a0 self30 self55 l1 l2 l3 l5 h) := by
  unfold XX6_findBelow_b55
  refine Fr_inb ?_
  refine Fr_inb ?_
  refine Fr_ite ?_ ?_
  · refine Fr_inb ?_
    refine Fr_wr ag_h (hW _ _ (by omega)) (fun h5 ag_h5 => ?_)
    refine Fr_chk ?_
    exact hs_self30 _ _ ag_h5
  · refine Fr_chk ?_
    refine Fr_chk ?_
    refine Fr_inb ?_
    refine Fr_inb ?_
    refine Fr_nm (fun v6 => ?_)
    refine Fr_chk ?_
    exact hs_self55 _ _ _ _ _ ag_h
theorem fg_XX6_findBelow_L55 {W : Nat → Nat → Prop} {h0 : Hp} (a0 : Nat) (self30 : Int → Hp → OR) (hs_self30 : ∀ (y0 : Int) (hh : Hp), Ag W h0 hh → Fr W h0 (self30 y0 hh)) (l1 : Int) (l2 : Int) (l3 : Int) (l5 : Int) (hW : ∀ a i : Nat, (a = a0 + 7) → W a i) (h : Hp) (ag_h : Ag W h0 h) : Fr W h0 (XX6_findBelow_L55 a0 self30 l1 l2 l3 l5 h) := by
  unfold XX6_findBelow_L55
  exact Fr_lup4 (fun self hs z0 z1 z2 z3 hh ag => fg_XX6_findBelow_b55 a0 self30 hs_self30 self hs z0 z1 z2 z3 hW hh ag) FU _ _ _ _ _ ag_h
theorem fg_XX6_findBelow_b30 {W : Nat → Nat → Prop} {h0 : Hp} (a0 : Nat) (self30 : Int → Hp → OR) (hs_self30 : ∀ (y0 : Int) (hh : Hp), Ag W h0 hh → Fr W h0 (self30 y0 hh)) (l1 : Int) (hW : ∀ a i : Nat, (a = a0 + 7) → W a i) (h : Hp) (ag_h : Ag W h0 h) : Fr W h0 (XX6_findBelow_b30 a0 self30 l1 h) := by
  unfold XX6_findBelow_b30
  refine Fr_ite ?_ ?_
  · exact Fr_some ag_h
  · refine Fr_inb ?_
    refine Fr_nm (fun v3 => ?_)
    refine Fr_nm (fun v4 => ?_)
    exact fg_XX6_findBelow_L55 _ _ hs_self30 _ _ _ _ (fun a i hh => hW a i (by omega)) _ ag_h
theorem fg_XX6_findBelow_L30 {W : Nat → Nat → Prop} {h0 : Hp} (a0 : Nat) (l1 : Int) (hW : ∀ a i : Nat, (a = a0 + 7) → W a i) (h : Hp) (ag_h : Ag W h0 h) : Fr W h0 (XX6_findBelow_L30 a0 l1 h) := by
  unfold XX6_findBelow_L30
  exact Fr_lup1 (fun self hs z0 hh ag => fg_XX6_findBelow_b30 a0 self hs z0 hW hh ag) FU _ _ ag_h
theorem fg_XX6_findBelow_b2 {W : Nat → Nat → Prop} {h0 : Hp} (a0 : Nat) (self2 : Int → Hp → OR) (hs_self2 : ∀ (y0 : Int) (hh : Hp), Ag W h0 hh → Fr W h0 (self2 y0 hh)) (l1 : Int) (hW : ∀ a i : Nat, (a = a0 + 7) → W a i) (h : Hp) (ag_h : Ag W h0 h) : Fr W h0 (XX6_findBelow_b2 a0 self2 l1 h) := by
  unfold XX6_findBelow_b2
  refine Fr_cal (fg_XX8_sources _ (fun a i hh => hh.elim) _ ag_h) (fun r1 h2 ag_h2 => ?_)
  refine Fr_ite ?_ ?_
  · exact fg_XX6_findBelow_L30 _ _ (fun a i hh => hW a i (by omega)) _ ag_h2
  · refine Fr_inb ?_
    refine Fr_wr ag_h2 (hW _ _ (by omega)) (fun h7 ag_h7 => ?_)
    refine Fr_chk ?_
    exact hs_self2 _ _ ag_h7
theorem fg_XX6_findBelow_L2 {W : Nat → Nat → Prop} {h0 : Hp} (a0 : Nat) (l1 : Int) (hW : ∀ a i : Nat, (a = a0 + 7) → W a i) (h : Hp) (ag_h : Ag W h0 h) : Fr W h0 (XX6_findBelow_L2 a0 l1 h) := by
  unfold XX6_findBelow_L2
  exact Fr_lup1 (fun self hs z0 hh ag => fg_XX6_findBelow_b2 a0 self hs z0 hW hh ag) FU _ _ ag_h
theorem fg_XX6_findBelow {W : Nat → Nat → Prop} {h0 : Hp} (p : Nat) (hW : ∀ a i : Nat, (a = p + 7) → W a i) (h : Hp) (ag_h : Ag W h0 h) : Fr W h0 (XX6_findBelow p h) := by
  unfold XX6_findBelow
  exact fg_XX6_findBelow_L2 _ _ (fun a i hh => hW a i (by omega)) _ ag_h
theorem fr_XX6_findBelow {p : Nat} {h : Hp} {r : Int} {h1 : Hp} (e : XX6_findBelow p h = some (r, h1)) (a i : Nat) (hn : ¬ (a = p + 7)) : h1 a i = h a i := fg_XX6_findBelow (W := fun a i => a = p + 7) p (fun _ _ hh => hh) h (fun _ _ _ => rfl) r h1 e a i hn
theorem fg_XX6_sourceWord {W : Nat → Nat → Prop} {h0 : Hp} (x0 : Int) (x1 : Int) (hW : ∀ a i : Nat, (False) → W a i) (h : Hp) (ag_h : Ag W h0 h) : Fr W h0 (XX6_sourceWord x0 x1 h) := by
  unfold XX6_sourceWord
  refine Fr_ite ?_ ?_
  · refine Fr_chk ?_
    refine Fr_ite ?_ ?_
    · exact Fr_some ag_h
    · exact Fr_some ag_h
  · refine Fr_inb ?_
    exact Fr_some ag_h
theorem fr_XX6_sourceWord {x0 : Int} {x1 : Int} {h : Hp} {r : Int} {h1 : Hp} (e : XX6_sourceWord x0 x1 h = some (r, h1)) (a i : Nat) (hn : ¬ (False)) : h1 a i = h a i := fg_XX6_sourceWord (W := fun a i => False) x0 x1 (fun _ _ hh => hh) h (fun _ _ _ => rfl) r h1 e a i hn
theorem fe_XX6_sourceWord {x0 : Int} {x1 : Int} {h : Hp} {r : Int} {h1 : Hp} (e : XX6_sourceWord x0 x1 h = some (r, h1)) : h1 = h := funext (fun a => funext (fun i => fr_XX6_sourceWord e a i (fun hh => hh)))
theorem fg_XX6_pinWord {W : Nat → Nat → Prop} {h0 : Hp} (p : Nat) (x0 : Int) (x1 : Int) (x2 : Int) (hW : ∀ a i : Nat, (False) → W a i) (h : Hp) (ag_h : Ag W h0 h) : Fr W h0 (XX6_pinWord p x0 x1 x2 h) := by
  unfold XX6_pinWord
  refine Fr_chk ?_
  refine Fr_chk ?_
  refine Fr_inb ?_
  refine Fr_nm (fun v1 => ?_)
  refine Fr_ite ?_ ?_
  · refine Fr_chk ?_
    refine Fr_chk ?_
    refine Fr_inb ?_
    exact Fr_some ag_h
  · exact Fr_some ag_h
theorem fr_XX6_pinWord {p : Nat} {x0 : Int} {x1 : Int} {x2 : Int} {h : Hp} {r : Int} {h1 : Hp} (e : XX6_pinWord p x0 x1 x2 h = some (r, h1)) (a i : Nat) (hn : ¬ (False)) : h1 a i = h a i := fg_XX6_pinWord (W := fun a i => False) p x0 x1 x2 (fun _ _ hh => hh) h (fun _ _ _ => rfl) r h1 e a i hn
theorem fe_XX6_pinWord {p : Nat} {x0 : Int} {x1 : Int} {x2 : Int} {h : Hp} {r : Int} {h1 : Hp} (e : XX6_pinWord p x0 x1 x2 h = some (r, h1)) : h1 = h := funext (fun a => funext (fun i => fr_XX6_pinWord e a i (fun hh => hh)))
theorem fg_XX6_fillWords_b43 {W : Nat → Nat → Prop} {h0 : Hp} (a0 : Nat) (self2 : Int → Hp → OR) (hs_self2 : ∀ (y0 : Int) (hh : Hp), Ag W h0 hh → Fr W h0 (self2 y0 hh)) (self43 : Int → Int → Hp → OR) (hs_self43 : ∀ (y0 y1 : Int) (hh : Hp), Ag W h0 hh → Fr W h0 (self43 y0 y1 hh)) (l1 : Int) (l2 : Int) (hW : ∀ a i : Nat, (a = a0 + 8) → W a i) (h : Hp) (ag_h : Ag W h0 h) : Fr W h0 (XX6_fillWords_b43 a0 self2 self43 l1 l2 h) := by
  unfold XX6_fillWords_b43
  refine Fr_ite ?_ ?_
  · refine Fr_chk ?_
    exact hs_self2 _ _ ag_h
  · refine Fr_inb ?_
    refine Fr_nm (fun v3 => ?_)
    refine Fr_chk ?_
    refine Fr_chk ?_
    refine Fr_inb ?_
    refine Fr_cal (fg_XX6_pinWord _ _ _ _ (fun a i hh => hh.elim) _ ag_h) (fun r4 h5 ag_h5 => ?_)
    refine Fr_cal (fg_XX6_pinWord _ _ _ _ (fun a i hh => hh.elim) _ ag_h5) (fun r6 h7 ag_h7 => ?_)
    refine Fr_cal (fg_XX6_pinWord _ _ _ _ (fun a i hh => hh.elim) _ ag_h7) (fun r8 h9 ag_h9 => ?_)
    refine Fr_cal (fg_XX6_made _ _ _ _ (fun a i hh => hh.elim) _ ag_h9) (fun r10 h11 ag_h11 => ?_)
    refine Fr_inb ?_
    refine Fr_wr ag_h11 (hW _ _ (by omega)) (fun h12 ag_h12 => ?_)
    refine Fr_chk ?_
    exact hs_self43 _ _ _ ag_h12
theorem fg_XX6_fillWords_L43 {W : Nat → Nat → Prop} {h0 : Hp} (a0 : Nat) (self2 : Int → Hp → OR) (hs_self2 : ∀ (y0 : Int) (hh : Hp), Ag W h0 hh → Fr W h0 (self2 y0 hh)) (l1 : Int) (l2 : Int) (hW : ∀ a i : Nat, (a = a0 + 8) → W a i) (h : Hp) (ag_h : Ag W h0 h) : Fr W h0 (XX6_fillWords_L43 a0 self2 l1 l2 h) := by
  unfold XX6_fillWords_L43
  exact Fr_lup2 (fun self hs z0 z1 hh ag => fg_XX6_fillWords_b43 a0 self2 hs_self2 self hs z0 z1 hW hh ag) FU _ _ _ ag_h
theorem fg_XX6_fillWords_b9 {W : Nat → Nat → Prop} {h0 : Hp} (a0 : Nat) (self2 : Int → Hp → OR) (hs_self2 : ∀ (y0 : Int) (hh : Hp), Ag W h0 hh → Fr W h0 (self2 y0 hh)) (self9 : Int → Int → Hp → OR) (hs_self9 : ∀ (y0 y1 : Int) (hh : Hp), Ag W h0 hh → Fr W h0 (self9 y0 y1 hh)) (l1 : Int) (l2 : Int) (hW : ∀ a i : Nat, (a = a0 + 8) → W a i) (h : Hp) (ag_h : Ag W h0 h) : Fr W h0 (XX6_fillWords_b9 a0 self2 self9 l1 l2 h) := by
  unfold XX6_fillWords_b9
  refine Fr_cal (fg_XX8_sources _ (fun a i hh => hh.elim) _ ag_h) (fun r1 h2 ag_h2 => ?_)
  refine Fr_ite ?_ ?_
  · exact fg_XX6_fillWords_L43 _ _ hs_self2 _ _ (fun a i hh => hW a i (by omega)) _ ag_h2
  · refine Fr_chk ?_
    refine Fr_chk ?_
    refine Fr_cal (fg_XX6_sourceWord _ _ (fun a i hh => hh.elim) _ ag_h2) (fun r13 h14 ag_h14 => ?_)
    refine Fr_inb ?_
    refine Fr_wr ag_h14 (hW _ _ (by omega)) (fun h15 ag_h15 => ?_)
    refine Fr_chk ?_
    exact hs_self9 _ _ _ ag_h15
theorem fg_XX6_fillWords_L9 {W : Nat → Nat → Prop} {h0 : Hp} (a0 : Nat) (self2 : Int → Hp → OR) (hs_self2 : ∀ (y0 : Int) (hh : Hp), Ag W h0 hh → Fr W h0 (self2 y0 hh)) (l1 : Int) (l2 : Int) (hW : ∀ a i : Nat, (a = a0 + 8) → W a i) (h : Hp) (ag_h : Ag W h0 h) : Fr W h0 (XX6_fillWords_L9 a0 self2 l1 l2 h) := by
  unfold XX6_fillWords_L9
  exact Fr_lup2 (fun self hs z0 z1 hh ag => fg_XX6_fillWords_b9 a0 self2 hs_self2 self hs z0 z1 hW hh ag) FU _ _ _ ag_h
theorem fg_XX6_fillWords_b2 {W : Nat → Nat → Prop} {h0 : Hp} (a0 : Nat) (self2 : Int → Hp → OR) (hs_self2 : ∀ (y0 : Int) (hh : Hp), Ag W h0 hh → Fr W h0 (self2 y0 hh)) (l1 : Int) (hW : ∀ a i : Nat, (a = a0 + 8) → W a i) (h : Hp) (ag_h : Ag W h0 h) : Fr W h0 (XX6_fillWords_b2 a0 self2 l1 h) := by
  unfold XX6_fillWords_b2
  refine Fr_ite ?_ ?_
  · exact Fr_some ag_h
  · exact fg_XX6_fillWords_L9 _ _ hs_self2 _ _ (fun a i hh => hW a i (by omega)) _ ag_h
theorem fg_XX6_fillWords_L2 {W : Nat → Nat → Prop} {h0 : Hp} (a0 : Nat) (l1 : Int) (hW : ∀ a i : Nat, (a = a0 + 8) → W a i) (h : Hp) (ag_h : Ag W h0 h) : Fr W h0 (XX6_fillWords_L2 a0 l1 h) := by
  unfold XX6_fillWords_L2
  exact Fr_lup1 (fun self hs z0 hh ag => fg_XX6_fillWords_b2 a0 self hs z0 hW hh ag) FU _ _ ag_h
theorem fg_XX6_fillWords {W : Nat → Nat → Prop} {h0 : Hp} (p : Nat) (hW : ∀ a i : Nat, (a = p + 8) → W a i) (h : Hp) (ag_h : Ag W h0 h) : Fr W h0 (XX6_fillWords p h) := by
  unfold XX6_fillWords
  exact fg_XX6_fillWords_L2 _ _ (fun a i hh => hW a i (by omega)) _ ag_h
theorem fr_XX6_fillWords {p : Nat} {h : Hp} {r : Int} {h1 : Hp} (e : XX6_fillWords p h = some (r, h1)) (a i : Nat) (hn : ¬ (a = p + 8)) : h1 a i = h a i := fg_XX6_fillWords (W := fun a i => a = p + 8) p (fun _ _ hh => hh) h (fun _ _ _ => rfl) r h1 e a i hn
theorem fg_XX6_refresh {W : Nat → Nat → Prop} {h0 : Hp} (p : Nat) (hW : ∀ a i : Nat, ((a = p ∧ i = 6) ∨ a = p + 6 ∨ a = p + 7 ∨ a = p + 8) → W a i) (h : Hp) (ag_h : Ag W h0 h) : Fr W h0 (XX6_refresh p h) := by
  unfold XX6_refresh
  refine Fr_ite ?_ ?_
  · refine Fr_cal (fg_XX6_sortGates _ (fun a i hh => hW a i (Or.inr (Or.inl (by omega)))) _ ag_h) (fun r1 h2 ag_h2 => ?_)
    refine Fr_cal (fg_XX6_findBelow _ (fun a i hh => hW a i (Or.inr (Or.inr (Or.inl (by omega))))) _ ag_h2) (fun r3 h4 ag_h4 => ?_)
    refine Fr_cal (fg_XX6_fillWords _ (fun a i hh => hW a i (Or.inr (Or.inr (Or.inr (by omega))))) _ ag_h4) (fun r5 h6 ag_h6 => ?_)
    refine Fr_zb ?_
    refine Fr_wr ag_h6 (hW _ _ (Or.inl (by omega))) (fun h7 ag_h7 => ?_)
    exact Fr_some ag_h7
  · exact Fr_some ag_h
theorem fr_XX6_refresh {p : Nat} {h : Hp} {r : Int} {h1 : Hp} (e : XX6_refresh p h = some (r, h1)) (a i : Nat) (hn : ¬ ((a = p ∧ i = 6) ∨ a = p + 6 ∨ a = p + 7 ∨ a = p + 8)) : h1 a i = h a i := fg_XX6_refresh (W := fun a i => (a = p ∧ i = 6) ∨ a = p + 6 ∨ a = p + 7 ∨ a = p + 8) p (fun _ _ hh => hh) h (fun _ _ _ => rfl) r h1 e a i hn
theorem fg_XX6_hangsOn {W : Nat → Nat → Prop} {h0 : Hp} (p : Nat) (x0 : Int) (x1 : Int) (hW : ∀ a i : Nat, (False) → W a i) (h : Hp) (ag_h : Ag W h0 h) : Fr W h0 (XX6_hangsOn p x0 x1 h) := by
  unfold XX6_hangsOn
  refine Fr_inb ?_
  refine Fr_ite ?_ ?_
  · refine Fr_zb ?_
    exact Fr_some ag_h
  · refine Fr_zb ?_
    exact Fr_some ag_h
theorem fr_XX6_hangsOn {p : Nat} {x0 : Int} {x1 : Int} {h : Hp} {r : Int} {h1 : Hp} (e : XX6_hangsOn p x0 x1 h = some (r, h1)) (a i : Nat) (hn : ¬ (False)) : h1 a i = h a i := fg_XX6_hangsOn (W := fun a i => False) p x0 x1 (fun _ _ hh => hh) h (fun _ _ _ => rfl) r h1 e a i hn
theorem fe_XX6_hangsOn {p : Nat} {x0 : Int} {x1 : Int} {h : Hp} {r : Int} {h1 : Hp} (e : XX6_hangsOn p x0 x1 h = some (r, h1)) : h1 = h := funext (fun a => funext (fun i => fr_XX6_hangsOn e a i (fun hh => hh)))
theorem fg_XX6_timeAll_b52 {W : Nat → Nat → Prop} {h0 : Hp} (a0 : Nat) (a1 : Nat) (self28 : Int → Hp → OR) (hs_self28 : ∀ (y0 : Int) (hh : Hp), Ag W h0 hh → Fr W h0 (self28 y0 hh)) (self52 : Int → Int → Int → Int → Hp → OR) (hs_self52 : ∀ (y0 y1 y2 y3 : Int) (hh : Hp), Ag W h0 hh → Fr W h0 (self52 y0 y1 y2 y3 hh)) (l2 : Int) (l3 : Int) (l4 : Int) (l5 : Int) (hW : ∀ a i : Nat, (a = a0 + 9) → W a i) (h : Hp) (ag_h : Ag W h0 h) : Fr W h0 (XX6_timeAll_b52 a0 a1 self28 self52 l2 l3 l4 l5 h) := by
  unfold XX6_timeAll_b52
  refine Fr_inb ?_
  refine Fr_inb ?_
  refine Fr_ite ?_ ?_
  · refine Fr_inb ?_
    refine Fr_inb ?_
    refine Fr_chk ?_
    refine Fr_inb ?_
    refine Fr_wr ag_h (hW _ _ (by omega)) (fun h4 ag_h4 => ?_)
    refine Fr_chk ?_
    exact hs_self28 _ _ ag_h4
  · refine Fr_chk ?_
    refine Fr_chk ?_
    refine Fr_inb ?_
    refine Fr_inb ?_
    refine Fr_nm (fun v5 => ?_)
    refine Fr_chk ?_
    exact hs_self52 _ _ _ _ _ ag_h
theorem fg_XX6_timeAll_L52 {W : Nat → Nat → Prop} {h0 : Hp} (a0 : Nat) (a1 : Nat) (self28 : Int → Hp → OR) (hs_self28 : ∀ (y0 : Int) (hh : Hp), Ag W h0 hh → Fr W h0 (self28 y0 hh)) (l2 : Int) (l3 : Int) (l4 : Int) (l5 : Int) (hW : ∀ a i : Nat, (a = a0 + 9) → W a i) (h : Hp) (ag_h : Ag W h0 h) : Fr W h0 (XX6_timeAll_L52 a0 a1 self28 l2 l3 l4 l5 h) := by
  unfold XX6_timeAll_L52
  exact Fr_lup4 (fun self hs z0 z1 z2 z3 hh ag => fg_XX6_timeAll_b52 a0 a1 self28 hs_self28 self hs z0 z1 z2 z3 hW hh ag) FU _ _ _ _ _ ag_h
theorem fg_XX6_timeAll_b28 {W : Nat → Nat → Prop} {h0 : Hp} (a0 : Nat) (a1 : Nat) (self28 : Int → Hp → OR) (hs_self28 : ∀ (y0 : Int) (hh : Hp), Ag W h0 hh → Fr W h0 (self28 y0 hh)) (l2 : Int) (hW : ∀ a i : Nat, (a = a0 + 9) → W a i) (h : Hp) (ag_h : Ag W h0 h) : Fr W h0 (XX6_timeAll_b28 a0 a1 self28 l2 h) := by
  unfold XX6_timeAll_b28
  refine Fr_ite ?_ ?_
  · exact Fr_some ag_h
  · refine Fr_inb ?_
    refine Fr_nm (fun v3 => ?_)
    exact fg_XX6_timeAll_L52 _ _ _ hs_self28 _ _ _ _ (fun a i hh => hW a i (by omega)) _ ag_h
theorem fg_XX6_timeAll_L28 {W : Nat → Nat → Prop} {h0 : Hp} (a0 : Nat) (a1 : Nat) (l2 : Int) (hW : ∀ a i : Nat, (a = a0 + 9) → W a i) (h : Hp) (ag_h : Ag W h0 h) : Fr W h0 (XX6_timeAll_L28 a0 a1 l2 h) := by
  unfold XX6_timeAll_L28
  exact Fr_lup1 (fun self hs z0 hh ag => fg_XX6_timeAll_b28 a0 a1 self hs z0 hW hh ag) FU _ _ ag_h
theorem fg_XX6_timeAll_b2 {W : Nat → Nat → Prop} {h0 : Hp} (a0 : Nat) (a1 : Nat) (self2 : Int → Hp → OR) (hs_self2 : ∀ (y0 : Int) (hh : Hp), Ag W h0 hh → Fr W h0 (self2 y0 hh)) (l2 : Int) (hW : ∀ a i : Nat, (a = a0 + 9) → W a i) (h : Hp) (ag_h : Ag W h0 h) : Fr W h0 (XX6_timeAll_b2 a0 a1 self2 l2 h) := by
  unfold XX6_timeAll_b2
  refine Fr_cal (fg_XX8_sources _ (fun a i hh => hh.elim) _ ag_h) (fun r1 h2 ag_h2 => ?_)
  refine Fr_ite ?_ ?_
  · exact fg_XX6_timeAll_L28 _ _ _ (fun a i hh => hW a i (by omega)) _ ag_h2
  · refine Fr_inb ?_
    refine Fr_wr ag_h2 (hW _ _ (by omega)) (fun h6 ag_h6 => ?_)
    refine Fr_chk ?_
    exact hs_self2 _ _ ag_h6
theorem fg_XX6_timeAll_L2 {W : Nat → Nat → Prop} {h0 : Hp} (a0 : Nat) (a1 : Nat) (l2 : Int) (hW : ∀ a i : Nat, (a = a0 + 9) → W a i) (h : Hp) (ag_h : Ag W h0 h) : Fr W h0 (XX6_timeAll_L2 a0 a1 l2 h) := by
  unfold XX6_timeAll_L2
  exact Fr_lup1 (fun self hs z0 hh ag => fg_XX6_timeAll_b2 a0 a1 self hs z0 hW hh ag) FU _ _ ag_h
theorem fg_XX6_timeAll {W : Nat → Nat → Prop} {h0 : Hp} (p : Nat) (x0 : Nat) (hW : ∀ a i : Nat, (a = p + 9) → W a i) (h : Hp) (ag_h : Ag W h0 h) : Fr W h0 (XX6_timeAll p x0 h) := by
  unfold XX6_timeAll
  exact fg_XX6_timeAll_L2 _ _ _ (fun a i hh => hW a i (by omega)) _ ag_h
theorem fr_XX6_timeAll {p : Nat} {x0 : Nat} {h : Hp} {r : Int} {h1 : Hp} (e : XX6_timeAll p x0 h = some (r, h1)) (a i : Nat) (hn : ¬ (a = p + 9)) : h1 a i = h a i := fg_XX6_timeAll (W := fun a i => a = p + 9) p x0 (fun _ _ hh => hh) h (fun _ _ _ => rfl) r h1 e a i hn
theorem fg_XX5_aim_b128 {W : Nat → Nat → Prop} {h0 : Hp} (self128 : Int → Hp → OR) (hs_self128 : ∀ (y0 : Int) (hh : Hp), Ag W h0 hh → Fr W h0 (self128 y0 hh)) (l4 : Int) (hW : ∀ a i : Nat, ((a = 40 ∧ i = 5)) → W a i) (h : Hp) (ag_h : Ag W h0 h) : Fr W h0 (XX5_aim_b128 self128 l4 h) := by
  unfold XX5_aim_b128
  refine Fr_ite ?_ ?_
  · refine Fr_zb ?_
    exact Fr_some ag_h
  · refine Fr_inb ?_
    refine Fr_wr ag_h (hW _ _ (by omega)) (fun h10 ag_h10 => ?_)
    refine Fr_chk ?_
    exact hs_self128 _ _ ag_h10
theorem fg_XX5_aim_L128 {W : Nat → Nat → Prop} {h0 : Hp} (l4 : Int) (hW : ∀ a i : Nat, ((a = 40 ∧ i = 5)) → W a i) (h : Hp) (ag_h : Ag W h0 h) : Fr W h0 (XX5_aim_L128 l4 h) := by
  unfold XX5_aim_L128
  exact Fr_lup1 (fun self hs z0 hh ag => fg_XX5_aim_b128 self hs z0 hW hh ag) FU _ _ ag_h
theorem fg_XX5_aim_p117 {W : Nat → Nat → Prop} {h0 : Hp} (s1 : Int) (hW : ∀ a i : Nat, ((a = 40 ∧ 4 ≤ i ∧ i ≤ 5)) → W a i) (h : Hp) (ag_h : Ag W h0 h) : Fr W h0 (XX5_aim_p117 s1 h) := by
  unfold XX5_aim_p117
  refine Fr_wr ag_h (hW _ _ (by omega)) (fun h8 ag_h8 => ?_)
  refine Fr_wr ag_h8 (hW _ _ (by omega)) (fun h9 ag_h9 => ?_)
  exact fg_XX5_aim_L128 _ (fun a i hh => hW a i (by omega)) _ ag_h9
theorem fg_XX5_aim_p76 {W : Nat → Nat → Prop} {h0 : Hp} (l1 : Int) (l2 : Int) (l3 : Int) (hW : ∀ a i : Nat, (a = 41 ∨ (a = 40 ∧ 4 ≤ i ∧ i ≤ 5)) → W a i) (h : Hp) (ag_h : Ag W h0 h) : Fr W h0 (XX5_aim_p76 l1 l2 l3 h) := by
  unfold XX5_aim_p76
  refine Fr_inb ?_
  refine Fr_wr ag_h (hW _ _ (Or.inl (by omega))) (fun h5 ag_h5 => ?_)
  refine Fr_inb ?_
  refine Fr_wr ag_h5 (hW _ _ (Or.inl (by omega))) (fun h6 ag_h6 => ?_)
  refine Fr_inb ?_
  refine Fr_wr ag_h6 (hW _ _ (Or.inl (by omega))) (fun h7 ag_h7 => ?_)
  refine Fr_ite ?_ ?_
  · exact fg_XX5_aim_p117 _ (fun a i hh => hW a i (Or.inr (by omega))) _ ag_h7
  · refine Fr_ite ?_ ?_
    · exact fg_XX5_aim_p117 _ (fun a i hh => hW a i (Or.inr (by omega))) _ ag_h7
    · exact fg_XX5_aim_p117 _ (fun a i hh => hW a i (Or.inr (by omega))) _ ag_h7
theorem fg_XX5_aim_p50 {W : Nat → Nat → Prop} {h0 : Hp} (l1 : Int) (l2 : Int) (l3 : Int) (hW : ∀ a i : Nat, (a = 41 ∨ (a = 40 ∧ 4 ≤ i ∧ i ≤ 5)) → W a i) (h : Hp) (ag_h : Ag W h0 h) : Fr W h0 (XX5_aim_p50 l1 l2 l3 h) := by
  unfold XX5_aim_p50
  refine Fr_ite ?_ ?_
  · exact fg_XX5_aim_p76 _ _ _ (fun a i hh => hW a i ((fun q => q.elim (fun q => Or.inl (by omega)) (fun q => Or.inr (by omega))) hh)) _ ag_h
  · refine Fr_ite ?_ ?_
    · refine Fr_zb ?_
      exact Fr_some ag_h
    · refine Fr_cal (fg_XX8_isGate _ _ (fun a i hh => hh.elim) _ ag_h) (fun r11 h12 ag_h12 => ?_)
      refine Fr_ite ?_ ?_
      · refine Fr_zb ?_
        exact Fr_some ag_h12
      · exact fg_XX5_aim_p76 _ _ _ (fun a i hh => hW a i ((fun q => q.elim (fun q => Or.inl (by omega)) (fun q => Or.inr (by omega))) hh)) _ ag_h12
theorem fg_XX5_aim {W : Nat → Nat → Prop} {h0 : Hp} (x0 : Int) (x1 : Int) (x2 : Int) (hW : ∀ a i : Nat, (a = 41 ∨ (a = 40 ∧ 4 ≤ i ∧ i ≤ 5)) → W a i) (h : Hp) (ag_h : Ag W h0 h) : Fr W h0 (XX5_aim x0 x1 x2 h) := by
  unfold XX5_aim
  refine Fr_cal (fg_XX8_isGate _ _ (fun a i hh => hh.elim) _ ag_h) (fun r1 h2 ag_h2 => ?_)
  refine Fr_ite ?_ ?_
  · refine Fr_zb ?_
    exact Fr_some ag_h2
  · refine Fr_ite ?_ ?_
    · refine Fr_ite ?_ ?_
      · exact fg_XX5_aim_p50 _ _ _ (fun a i hh => hW a i ((fun q => q.elim (fun q => Or.inl (by omega)) (fun q => Or.inr (by omega))) hh)) _ ag_h2
      · refine Fr_zb ?_
        exact Fr_some ag_h2
    · refine Fr_ite ?_ ?_
      · refine Fr_zb ?_
        exact Fr_some ag_h2
      · refine Fr_cal (fg_XX8_isGate _ _ (fun a i hh => hh.elim) _ ag_h2) (fun r3 h4 ag_h4 => ?_)
        refine Fr_ite ?_ ?_
        · refine Fr_zb ?_
          exact Fr_some ag_h4
        · exact fg_XX5_aim_p50 _ _ _ (fun a i hh => hW a i ((fun q => q.elim (fun q => Or.inl (by omega)) (fun q => Or.inr (by omega))) hh)) _ ag_h4
theorem fr_XX5_aim {x0 : Int} {x1 : Int} {x2 : Int} {h : Hp} {r : Int} {h1 : Hp} (e : XX5_aim x0 x1 x2 h = some (r, h1)) (a i : Nat) (hn : ¬ (a = 41 ∨ (a = 40 ∧ 4 ≤ i ∧ i ≤ 5))) : h1 a i = h a i := fg_XX5_aim (W := fun a i => a = 41 ∨ (a = 40 ∧ 4 ≤ i ∧ i ≤ 5)) x0 x1 x2 (fun _ _ hh => hh) h (fun _ _ _ => rfl) r h1 e a i hn
theorem fg_XX5_assignments {W : Nat → Nat → Prop} {h0 : Hp} (hW : ∀ a i : Nat, (False) → W a i) (h : Hp) (ag_h : Ag W h0 h) : Fr W h0 (XX5_assignments  h) := by
  unfold XX5_assignments
  exact Fr_some ag_h
theorem fr_XX5_assignments {h : Hp} {r : Int} {h1 : Hp} (e : XX5_assignments  h = some (r, h1)) (a i : Nat) (hn : ¬ (False)) : h1 a i = h a i := fg_XX5_assignments (W := fun a i => False)  (fun _ _ hh => hh) h (fun _ _ _ => rfl) r h1 e a i hn
theorem fe_XX5_assignments {h : Hp} {r : Int} {h1 : Hp} (e : XX5_assignments  h = some (r, h1)) : h1 = h := funext (fun a => funext (fun i => fr_XX5_assignments e a i (fun hh => hh)))
theorem fg_XX5_difference_b5 {W : Nat → Nat → Prop} {h0 : Hp} (self5 : Int → Int → Int → Hp → OR) (hs_self5 : ∀ (y0 y1 y2 : Int) (hh : Hp), Ag W h0 hh → Fr W h0 (self5 y0 y1 y2 hh)) (l1 : Int) (l2 : Int) (l4 : Int) (hW : ∀ a i : Nat, (False) → W a i) (h : Hp) (ag_h : Ag W h0 h) : Fr W h0 (XX5_difference_b5 self5 l1 l2 l4 h) := by
  unfold XX5_difference_b5
  refine Fr_cal (fg_XX8_seenCount _ (fun a i hh => hh.elim) _ ag_h) (fun r1 h2 ag_h2 => ?_)
  refine Fr_ite ?_ ?_
  · refine Fr_inb ?_
    exact Fr_some ag_h2
  · refine Fr_inb ?_
    refine Fr_chk ?_
    refine Fr_chk ?_
    refine Fr_inb ?_
    refine Fr_inb ?_
    refine Fr_chk ?_
    refine Fr_chk ?_
    refine Fr_inb ?_
    refine Fr_nm (fun v3 => ?_)
    refine Fr_chk ?_
    exact hs_self5 _ _ _ _ ag_h2
theorem fg_XX5_difference_L5 {W : Nat → Nat → Prop} {h0 : Hp} (l1 : Int) (l2 : Int) (l4 : Int) (hW : ∀ a i : Nat, (False) → W a i) (h : Hp) (ag_h : Ag W h0 h) : Fr W h0 (XX5_difference_L5 l1 l2 l4 h) := by
  unfold XX5_difference_L5
  exact Fr_lup3 (fun self hs z0 z1 z2 hh ag => fg_XX5_difference_b5 self hs z0 z1 z2 hW hh ag) FU _ _ _ _ ag_h
theorem fg_XX5_difference {W : Nat → Nat → Prop} {h0 : Hp} (x0 : Int) (hW : ∀ a i : Nat, (False) → W a i) (h : Hp) (ag_h : Ag W h0 h) : Fr W h0 (XX5_difference x0 h) := by
  unfold XX5_difference
  exact fg_XX5_difference_L5 _ _ _ (fun a i hh => hh.elim) _ ag_h
theorem fr_XX5_difference {x0 : Int} {h : Hp} {r : Int} {h1 : Hp} (e : XX5_difference x0 h = some (r, h1)) (a i : Nat) (hn : ¬ (False)) : h1 a i = h a i := fg_XX5_difference (W := fun a i => False) x0 (fun _ _ hh => hh) h (fun _ _ _ => rfl) r h1 e a i hn
theorem fe_XX5_difference {x0 : Int} {h : Hp} {r : Int} {h1 : Hp} (e : XX5_difference x0 h = some (r, h1)) : h1 = h := funext (fun a => funext (fun i => fr_XX5_difference e a i (fun hh => hh)))
theorem fg_XX5_firstDifference_b2 {W : Nat → Nat → Prop} {h0 : Hp} (self2 : Int → Hp → OR) (hs_self2 : ∀ (y0 : Int) (hh : Hp), Ag W h0 hh → Fr W h0 (self2 y0 hh)) (l1 : Int) (hW : ∀ a i : Nat, (False) → W a i) (h : Hp) (ag_h : Ag W h0 h) : Fr W h0 (XX5_firstDifference_b2 self2 l1 h) := by
  unfold XX5_firstDifference_b2
  refine Fr_ite ?_ ?_
  · exact Fr_some ag_h
  · refine Fr_cal (fg_XX5_difference _ (fun a i hh => hh.elim) _ ag_h) (fun r1 h2 ag_h2 => ?_)
    refine Fr_ite ?_ ?_
    · refine Fr_chk ?_
      exact hs_self2 _ _ ag_h2
    · refine Fr_cal (fg_XX0_lowest _ _ (fun a i hh => hh.elim) _ ag_h2) (fun r3 h4 ag_h4 => ?_)
      exact Fr_some ag_h4
theorem fg_XX5_firstDifference_L2 {W : Nat → Nat → Prop} {h0 : Hp} (l1 : Int) (hW : ∀ a i : Nat, (False) → W a i) (h : Hp) (ag_h : Ag W h0 h) : Fr W h0 (XX5_firstDifference_L2 l1 h) := by
  unfold XX5_firstDifference_L2
  exact Fr_lup1 (fun self hs z0 hh ag => fg_XX5_firstDifference_b2 self hs z0 hW hh ag) FU _ _ ag_h
theorem fg_XX5_firstDifference {W : Nat → Nat → Prop} {h0 : Hp} (hW : ∀ a i : Nat, (False) → W a i) (h : Hp) (ag_h : Ag W h0 h) : Fr W h0 (XX5_firstDifference  h) := by
  unfold XX5_firstDifference
  exact fg_XX5_firstDifference_L2 _ (fun a i hh => hh.elim) _ ag_h
theorem fr_XX5_firstDifference {h : Hp} {r : Int} {h1 : Hp} (e : XX5_firstDifference  h = some (r, h1)) (a i : Nat) (hn : ¬ (False)) : h1 a i = h a i := fg_XX5_firstDifference (W := fun a i => False)  (fun _ _ hh => hh) h (fun _ _ _ => rfl) r h1 e a i hn
theorem fe_XX5_firstDifference {h : Hp} {r : Int} {h1 : Hp} (e : XX5_firstDifference  h = some (r, h1)) : h1 = h := funext (fun a => funext (fun i => fr_XX5_firstDifference e a i (fun hh => hh)))
theorem fg_XX5_findCone_p83 {W : Nat → Nat → Prop} {h0 : Hp} (self7 : Int → Hp → OR) (hs_self7 : ∀ (y0 : Int) (hh : Hp), Ag W h0 hh → Fr W h0 (self7 y0 hh)) (l1 : Int) (hW : ∀ a i : Nat, (False) → W a i) (h : Hp) (ag_h : Ag W h0 h) : Fr W h0 (XX5_findCone_p83 self7 l1 h) := by
  unfold XX5_findCone_p83
  refine Fr_chk ?_
  exact hs_self7 _ _ ag_h
theorem fg_XX5_findCone_b7 {W : Nat → Nat → Prop} {h0 : Hp} (self7 : Int → Hp → OR) (hs_self7 : ∀ (y0 : Int) (hh : Hp), Ag W h0 hh → Fr W h0 (self7 y0 hh)) (l1 : Int) (hW : ∀ a i : Nat, (a = 43 ∨ (a = 40 ∧ i = 8)) → W a i) (h : Hp) (ag_h : Ag W h0 h) : Fr W h0 (XX5_findCone_b7 self7 l1 h) := by
  unfold XX5_findCone_b7
  refine Fr_ite ?_ ?_
  · exact Fr_some ag_h
  · refine Fr_inb ?_
    refine Fr_nm (fun v2 => ?_)
    refine Fr_inb ?_
    refine Fr_ite ?_ ?_
    · exact fg_XX5_findCone_p83 _ hs_self7 _ (fun a i hh => hh.elim) _ ag_h
    · refine Fr_ite ?_ ?_
      · refine Fr_inb ?_
        refine Fr_wr ag_h (hW _ _ (Or.inl (by omega))) (fun h3 ag_h3 => ?_)
        refine Fr_chk ?_
        refine Fr_wr ag_h3 (hW _ _ (Or.inr (by omega))) (fun h4 ag_h4 => ?_)
        exact fg_XX5_findCone_p83 _ hs_self7 _ (fun a i hh => hh.elim) _ ag_h4
      · exact fg_XX5_findCone_p83 _ hs_self7 _ (fun a i hh => hh.elim) _ ag_h
theorem fg_XX5_findCone_L7 {W : Nat → Nat → Prop} {h0 : Hp} (l1 : Int) (hW : ∀ a i : Nat, (a = 43 ∨ (a = 40 ∧ i = 8)) → W a i) (h : Hp) (ag_h : Ag W h0 h) : Fr W h0 (XX5_findCone_L7 l1 h) := by
  unfold XX5_findCone_L7
  exact Fr_lup1 (fun self hs z0 hh ag => fg_XX5_findCone_b7 self hs z0 hW hh ag) FU _ _ ag_h
theorem fg_XX5_findCone {W : Nat → Nat → Prop} {h0 : Hp} (hW : ∀ a i : Nat, (a = 43 ∨ (a = 40 ∧ i = 8)) → W a i) (h : Hp) (ag_h : Ag W h0 h) : Fr W h0 (XX5_findCone  h) := by
  unfold XX5_findCone
  refine Fr_wr ag_h (hW _ _ (Or.inr (by omega))) (fun h1 ag_h1 => ?_)
  exact fg_XX5_findCone_L7 _ (fun a i hh => hW a i ((fun q => q.elim (fun q => Or.inl (by omega)) (fun q => Or.inr (by omega))) hh)) _ ag_h1
theorem fr_XX5_findCone {h : Hp} {r : Int} {h1 : Hp} (e : XX5_findCone  h = some (r, h1)) (a i : Nat) (hn : ¬ (a = 43 ∨ (a = 40 ∧ i = 8))) : h1 a i = h a i := fg_XX5_findCone (W := fun a i => a = 43 ∨ (a = 40 ∧ i = 8))  (fun _ _ hh => hh) h (fun _ _ _ => rfl) r h1 e a i hn
theorem fg_XX5_load_b43 {W : Nat → Nat → Prop} {h0 : Hp} (self43 : Int → Int → Hp → OR) (hs_self43 : ∀ (y0 y1 : Int) (hh : Hp), Ag W h0 hh → Fr W h0 (self43 y0 y1 hh)) (l1 : Int) (l2 : Int) (hW : ∀ a i : Nat, (a = 43 ∨ a = 203 ∨ (a = 40 ∧ i = 8)) → W a i) (h : Hp) (ag_h : Ag W h0 h) : Fr W h0 (XX5_load_b43 self43 l1 l2 h) := by
  unfold XX5_load_b43
  refine Fr_cal (fg_XX8_seenCount _ (fun a i hh => hh.elim) _ ag_h) (fun r3 h4 ag_h4 => ?_)
  refine Fr_ite ?_ ?_
  · refine Fr_cal (fg_XX5_findCone (fun a i hh => hW a i ((fun q => q.elim (fun q => Or.inl (by omega)) (fun q => Or.inr (Or.inr (by omega)))) hh)) _ ag_h4) (fun r5 h6 ag_h6 => ?_)
    exact Fr_some ag_h6
  · refine Fr_inb ?_
    refine Fr_chk ?_
    refine Fr_chk ?_
    refine Fr_inb ?_
    refine Fr_inb ?_
    refine Fr_wr ag_h4 (hW _ _ (Or.inr (Or.inl (by omega)))) (fun h7 ag_h7 => ?_)
    refine Fr_chk ?_
    exact hs_self43 _ _ _ ag_h7
theorem fg_XX5_load_L43 {W : Nat → Nat → Prop} {h0 : Hp} (l1 : Int) (l2 : Int) (hW : ∀ a i : Nat, (a = 43 ∨ a = 203 ∨ (a = 40 ∧ i = 8)) → W a i) (h : Hp) (ag_h : Ag W h0 h) : Fr W h0 (XX5_load_L43 l1 l2 h) := by
  unfold XX5_load_L43
  exact Fr_lup2 (fun self hs z0 z1 hh ag => fg_XX5_load_b43 self hs z0 z1 hW hh ag) FU _ _ _ ag_h
theorem fg_XX5_load_b2 {W : Nat → Nat → Prop} {h0 : Hp} (self2 : Int → Int → Hp → OR) (hs_self2 : ∀ (y0 y1 : Int) (hh : Hp), Ag W h0 hh → Fr W h0 (self2 y0 y1 hh)) (l1 : Int) (l2 : Int) (hW : ∀ a i : Nat, ((42 ≤ a ∧ a ≤ 43) ∨ a = 203 ∨ (a = 40 ∧ i = 8)) → W a i) (h : Hp) (ag_h : Ag W h0 h) : Fr W h0 (XX5_load_b2 self2 l1 l2 h) := by
  unfold XX5_load_b2
  refine Fr_cal (fg_XX8_wires _ (fun a i hh => hh.elim) _ ag_h) (fun r1 h2 ag_h2 => ?_)
  refine Fr_ite ?_ ?_
  · exact fg_XX5_load_L43 _ _ (fun a i hh => hW a i ((fun q => q.elim (fun q => Or.inl (by omega)) (fun q => q.elim (fun q => Or.inr (Or.inl (by omega))) (fun q => Or.inr (Or.inr (by omega))))) hh)) _ ag_h2
  · refine Fr_chk ?_
    refine Fr_chk ?_
    refine Fr_inb ?_
    refine Fr_inb ?_
    refine Fr_wr ag_h2 (hW _ _ (Or.inl (by omega))) (fun h8 ag_h8 => ?_)
    refine Fr_chk ?_
    exact hs_self2 _ _ _ ag_h8
theorem fg_XX5_load_L2 {W : Nat → Nat → Prop} {h0 : Hp} (l1 : Int) (l2 : Int) (hW : ∀ a i : Nat, ((42 ≤ a ∧ a ≤ 43) ∨ a = 203 ∨ (a = 40 ∧ i = 8)) → W a i) (h : Hp) (ag_h : Ag W h0 h) : Fr W h0 (XX5_load_L2 l1 l2 h) := by
  unfold XX5_load_L2
  exact Fr_lup2 (fun self hs z0 z1 hh ag => fg_XX5_load_b2 self hs z0 z1 hW hh ag) FU _ _ _ ag_h
theorem fg_XX5_load {W : Nat → Nat → Prop} {h0 : Hp} (x0 : Int) (hW : ∀ a i : Nat, ((42 ≤ a ∧ a ≤ 43) ∨ a = 203 ∨ (a = 40 ∧ i = 8)) → W a i) (h : Hp) (ag_h : Ag W h0 h) : Fr W h0 (XX5_load x0 h) := by
  unfold XX5_load
  exact fg_XX5_load_L2 _ _ (fun a i hh => hW a i ((fun q => q.elim (fun q => Or.inl (by omega)) (fun q => q.elim (fun q => Or.inr (Or.inl (by omega))) (fun q => Or.inr (Or.inr (by omega))))) hh)) _ ag_h
theorem fr_XX5_load {x0 : Int} {h : Hp} {r : Int} {h1 : Hp} (e : XX5_load x0 h = some (r, h1)) (a i : Nat) (hn : ¬ ((42 ≤ a ∧ a ≤ 43) ∨ a = 203 ∨ (a = 40 ∧ i = 8))) : h1 a i = h a i := fg_XX5_load (W := fun a i => (42 ≤ a ∧ a ≤ 43) ∨ a = 203 ∨ (a = 40 ∧ i = 8)) x0 (fun _ _ hh => hh) h (fun _ _ _ => rfl) r h1 e a i hn
theorem fg_XX5_pinNow {W : Nat → Nat → Prop} {h0 : Hp} (x0 : Int) (x1 : Int) (hW : ∀ a i : Nat, (False) → W a i) (h : Hp) (ag_h : Ag W h0 h) : Fr W h0 (XX5_pinNow x0 x1 h) := by
  unfold XX5_pinNow
  refine Fr_chk ?_
  refine Fr_chk ?_
  refine Fr_inb ?_
  refine Fr_nm (fun v1 => ?_)
  refine Fr_ite ?_ ?_
  · refine Fr_inb ?_
    exact Fr_some ag_h
  · exact Fr_some ag_h
theorem fr_XX5_pinNow {x0 : Int} {x1 : Int} {h : Hp} {r : Int} {h1 : Hp} (e : XX5_pinNow x0 x1 h = some (r, h1)) (a i : Nat) (hn : ¬ (False)) : h1 a i = h a i := fg_XX5_pinNow (W := fun a i => False) x0 x1 (fun _ _ hh => hh) h (fun _ _ _ => rfl) r h1 e a i hn
theorem fe_XX5_pinNow {x0 : Int} {x1 : Int} {h : Hp} {r : Int} {h1 : Hp} (e : XX5_pinNow x0 x1 h = some (r, h1)) : h1 = h := funext (fun a => funext (fun i => fr_XX5_pinNow e a i (fun hh => hh)))
theorem fg_XX5_matching_b68 {W : Nat → Nat → Prop} {h0 : Hp} (self68 : Int → Int → Hp → OR) (hs_self68 : ∀ (y0 y1 : Int) (hh : Hp), Ag W h0 hh → Fr W h0 (self68 y0 y1 hh)) (l1 : Int) (l3 : Int) (hW : ∀ a i : Nat, (False) → W a i) (h : Hp) (ag_h : Ag W h0 h) : Fr W h0 (XX5_matching_b68 self68 l1 l3 h) := by
  unfold XX5_matching_b68
  refine Fr_cal (fg_XX8_seenCount _ (fun a i hh => hh.elim) _ ag_h) (fun r1 h2 ag_h2 => ?_)
  refine Fr_ite ?_ ?_
  · exact Fr_some ag_h2
  · refine Fr_inb ?_
    refine Fr_inb ?_
    refine Fr_inb ?_
    refine Fr_nm (fun v3 => ?_)
    refine Fr_chk ?_
    exact hs_self68 _ _ _ ag_h2
theorem fg_XX5_matching_L68 {W : Nat → Nat → Prop} {h0 : Hp} (l1 : Int) (l3 : Int) (hW : ∀ a i : Nat, (False) → W a i) (h : Hp) (ag_h : Ag W h0 h) : Fr W h0 (XX5_matching_L68 l1 l3 h) := by
  unfold XX5_matching_L68
  exact Fr_lup2 (fun self hs z0 z1 hh ag => fg_XX5_matching_b68 self hs z0 z1 hW hh ag) FU _ _ _ ag_h
theorem fg_XX5_matching_b2 {W : Nat → Nat → Prop} {h0 : Hp} (self2 : Int → Hp → OR) (hs_self2 : ∀ (y0 : Int) (hh : Hp), Ag W h0 hh → Fr W h0 (self2 y0 hh)) (l1 : Int) (hW : ∀ a i : Nat, (a = 42) → W a i) (h : Hp) (ag_h : Ag W h0 h) : Fr W h0 (XX5_matching_b2 self2 l1 h) := by
  unfold XX5_matching_b2
  refine Fr_ite ?_ ?_
  · exact fg_XX5_matching_L68 _ _ (fun a i hh => hh.elim) _ ag_h
  · refine Fr_inb ?_
    refine Fr_nm (fun v4 => ?_)
    refine Fr_inb ?_
    refine Fr_cal (fg_XX5_pinNow _ _ (fun a i hh => hh.elim) _ ag_h) (fun r5 h6 ag_h6 => ?_)
    refine Fr_cal (fg_XX5_pinNow _ _ (fun a i hh => hh.elim) _ ag_h6) (fun r7 h8 ag_h8 => ?_)
    refine Fr_cal (fg_XX5_pinNow _ _ (fun a i hh => hh.elim) _ ag_h8) (fun r9 h10 ag_h10 => ?_)
    refine Fr_cal (fg_XX6_made _ _ _ _ (fun a i hh => hh.elim) _ ag_h10) (fun r11 h12 ag_h12 => ?_)
    refine Fr_inb ?_
    refine Fr_wr ag_h12 (hW _ _ (by omega)) (fun h13 ag_h13 => ?_)
    refine Fr_chk ?_
    exact hs_self2 _ _ ag_h13
theorem fg_XX5_matching_L2 {W : Nat → Nat → Prop} {h0 : Hp} (l1 : Int) (hW : ∀ a i : Nat, (a = 42) → W a i) (h : Hp) (ag_h : Ag W h0 h) : Fr W h0 (XX5_matching_L2 l1 h) := by
  unfold XX5_matching_L2
  exact Fr_lup1 (fun self hs z0 hh ag => fg_XX5_matching_b2 self hs z0 hW hh ag) FU _ _ ag_h
theorem fg_XX5_matching {W : Nat → Nat → Prop} {h0 : Hp} (hW : ∀ a i : Nat, (a = 42) → W a i) (h : Hp) (ag_h : Ag W h0 h) : Fr W h0 (XX5_matching  h) := by
  unfold XX5_matching
  exact fg_XX5_matching_L2 _ (fun a i hh => hW a i (by omega)) _ ag_h
theorem fr_XX5_matching {h : Hp} {r : Int} {h1 : Hp} (e : XX5_matching  h = some (r, h1)) (a i : Nat) (hn : ¬ (a = 42)) : h1 a i = h a i := fg_XX5_matching (W := fun a i => a = 42)  (fun _ _ hh => hh) h (fun _ _ _ => rfl) r h1 e a i hn
theorem fg_XX5_mended_p36 {W : Nat → Nat → Prop} {h0 : Hp} (self2 : Int → Int → Hp → OR) (hs_self2 : ∀ (y0 y1 : Int) (hh : Hp), Ag W h0 hh → Fr W h0 (self2 y0 y1 hh)) (l1 : Int) (l2 : Int) (s1 : Int) (s2 : Int) (hW : ∀ a i : Nat, (a = 42) → W a i) (h : Hp) (ag_h : Ag W h0 h) : Fr W h0 (XX5_mended_p36 self2 l1 l2 s1 s2 h) := by
  unfold XX5_mended_p36
  refine Fr_inb ?_
  refine Fr_wr ag_h (hW _ _ (by omega)) (fun h3 ag_h3 => ?_)
  refine Fr_chk ?_
  exact hs_self2 _ _ _ ag_h3
theorem fg_XX5_mended_b2 {W : Nat → Nat → Prop} {h0 : Hp} (self2 : Int → Int → Hp → OR) (hs_self2 : ∀ (y0 y1 : Int) (hh : Hp), Ag W h0 hh → Fr W h0 (self2 y0 y1 hh)) (l1 : Int) (l2 : Int) (hW : ∀ a i : Nat, (a = 42) → W a i) (h : Hp) (ag_h : Ag W h0 h) : Fr W h0 (XX5_mended_b2 self2 l1 l2 h) := by
  unfold XX5_mended_b2
  refine Fr_ite ?_ ?_
  · refine Fr_cal (fg_XX5_matching (fun a i hh => hW a i (by omega)) _ ag_h) (fun r1 h2 ag_h2 => ?_)
    exact Fr_some ag_h2
  · refine Fr_inb ?_
    refine Fr_ite ?_ ?_
    · exact fg_XX5_mended_p36 _ hs_self2 _ _ _ _ (fun a i hh => hW a i (by omega)) _ ag_h
    · exact fg_XX5_mended_p36 _ hs_self2 _ _ _ _ (fun a i hh => hW a i (by omega)) _ ag_h
theorem fg_XX5_mended_L2 {W : Nat → Nat → Prop} {h0 : Hp} (l1 : Int) (l2 : Int) (hW : ∀ a i : Nat, (a = 42) → W a i) (h : Hp) (ag_h : Ag W h0 h) : Fr W h0 (XX5_mended_L2 l1 l2 h) := by
  unfold XX5_mended_L2
  exact Fr_lup2 (fun self hs z0 z1 hh ag => fg_XX5_mended_b2 self hs z0 z1 hW hh ag) FU _ _ _ ag_h
theorem fg_XX5_mended {W : Nat → Nat → Prop} {h0 : Hp} (x0 : Int) (hW : ∀ a i : Nat, (a = 42) → W a i) (h : Hp) (ag_h : Ag W h0 h) : Fr W h0 (XX5_mended x0 h) := by
  unfold XX5_mended
  exact fg_XX5_mended_L2 _ _ (fun a i hh => hW a i (by omega)) _ ag_h
theorem fr_XX5_mended {x0 : Int} {h : Hp} {r : Int} {h1 : Hp} (e : XX5_mended x0 h = some (r, h1)) (a i : Nat) (hn : ¬ (a = 42)) : h1 a i = h a i := fg_XX5_mended (W := fun a i => a = 42) x0 (fun _ _ hh => hh) h (fun _ _ _ => rfl) r h1 e a i hn
theorem fg_XX5_unmended_b26 {W : Nat → Nat → Prop} {h0 : Hp} (self26 : Int → Int → Hp → OR) (hs_self26 : ∀ (y0 y1 : Int) (hh : Hp), Ag W h0 hh → Fr W h0 (self26 y0 y1 hh)) (l2 : Int) (l4 : Int) (hW : ∀ a i : Nat, (a = 42) → W a i) (h : Hp) (ag_h : Ag W h0 h) : Fr W h0 (XX5_unmended_b26 self26 l2 l4 h) := by
  unfold XX5_unmended_b26
  refine Fr_cal (fg_XX5_assignments (fun a i hh => hh.elim) _ ag_h) (fun r4 h5 ag_h5 => ?_)
  refine Fr_ite ?_ ?_
  · exact Fr_some ag_h5
  · refine Fr_ite ?_ ?_
    · exact Fr_some ag_h5
    · refine Fr_cal (fg_XX5_mended _ (fun a i hh => hW a i (by omega)) _ ag_h5) (fun r6 h7 ag_h7 => ?_)
      refine Fr_nm (fun v8 => ?_)
      refine Fr_chk ?_
      exact hs_self26 _ _ _ ag_h7
theorem fg_XX5_unmended_L26 {W : Nat → Nat → Prop} {h0 : Hp} (l2 : Int) (l4 : Int) (hW : ∀ a i : Nat, (a = 42) → W a i) (h : Hp) (ag_h : Ag W h0 h) : Fr W h0 (XX5_unmended_L26 l2 l4 h) := by
  unfold XX5_unmended_L26
  exact Fr_lup2 (fun self hs z0 z1 hh ag => fg_XX5_unmended_b26 self hs z0 z1 hW hh ag) FU _ _ _ ag_h
theorem fg_XX5_unmended {W : Nat → Nat → Prop} {h0 : Hp} (x0 : Int) (hW : ∀ a i : Nat, ((42 ≤ a ∧ a ≤ 43) ∨ a = 203 ∨ (a = 40 ∧ i = 8)) → W a i) (h : Hp) (ag_h : Ag W h0 h) : Fr W h0 (XX5_unmended x0 h) := by
  unfold XX5_unmended
  refine Fr_inb ?_
  refine Fr_nm (fun v1 => ?_)
  refine Fr_ite ?_ ?_
  · exact Fr_some ag_h
  · refine Fr_cal (fg_XX5_load _ (fun a i hh => hW a i ((fun q => q.elim (fun q => Or.inl (by omega)) (fun q => q.elim (fun q => Or.inr (Or.inl (by omega))) (fun q => Or.inr (Or.inr (by omega))))) hh)) _ ag_h) (fun r2 h3 ag_h3 => ?_)
    exact fg_XX5_unmended_L26 _ _ (fun a i hh => hW a i (Or.inl (by omega))) _ ag_h3
theorem fr_XX5_unmended {x0 : Int} {h : Hp} {r : Int} {h1 : Hp} (e : XX5_unmended x0 h = some (r, h1)) (a i : Nat) (hn : ¬ ((42 ≤ a ∧ a ≤ 43) ∨ a = 203 ∨ (a = 40 ∧ i = 8))) : h1 a i = h a i := fg_XX5_unmended (W := fun a i => (42 ≤ a ∧ a ≤ 43) ∨ a = 203 ∨ (a = 40 ∧ i = 8)) x0 (fun _ _ hh => hh) h (fun _ _ _ => rfl) r h1 e a i hn
theorem fg_XX5_firstUnmended_b2 {W : Nat → Nat → Prop} {h0 : Hp} (self2 : Int → Hp → OR) (hs_self2 : ∀ (y0 : Int) (hh : Hp), Ag W h0 hh → Fr W h0 (self2 y0 hh)) (l1 : Int) (hW : ∀ a i : Nat, ((42 ≤ a ∧ a ≤ 43) ∨ a = 203 ∨ (a = 40 ∧ i = 8)) → W a i) (h : Hp) (ag_h : Ag W h0 h) : Fr W h0 (XX5_firstUnmended_b2 self2 l1 h) := by
  unfold XX5_firstUnmended_b2
  refine Fr_ite ?_ ?_
  · exact Fr_some ag_h
  · refine Fr_cal (fg_XX5_unmended _ (fun a i hh => hW a i ((fun q => q.elim (fun q => Or.inl (by omega)) (fun q => q.elim (fun q => Or.inr (Or.inl (by omega))) (fun q => Or.inr (Or.inr (by omega))))) hh)) _ ag_h) (fun r1 h2 ag_h2 => ?_)
    refine Fr_ite ?_ ?_
    · refine Fr_chk ?_
      exact hs_self2 _ _ ag_h2
    · refine Fr_cal (fg_XX0_lowest _ _ (fun a i hh => hh.elim) _ ag_h2) (fun r3 h4 ag_h4 => ?_)
      exact Fr_some ag_h4
theorem fg_XX5_firstUnmended_L2 {W : Nat → Nat → Prop} {h0 : Hp} (l1 : Int) (hW : ∀ a i : Nat, ((42 ≤ a ∧ a ≤ 43) ∨ a = 203 ∨ (a = 40 ∧ i = 8)) → W a i) (h : Hp) (ag_h : Ag W h0 h) : Fr W h0 (XX5_firstUnmended_L2 l1 h) := by
  unfold XX5_firstUnmended_L2
  exact Fr_lup1 (fun self hs z0 hh ag => fg_XX5_firstUnmended_b2 self hs z0 hW hh ag) FU _ _ ag_h
theorem fg_XX5_firstUnmended {W : Nat → Nat → Prop} {h0 : Hp} (hW : ∀ a i : Nat, ((42 ≤ a ∧ a ≤ 43) ∨ a = 203 ∨ (a = 40 ∧ i = 8)) → W a i) (h : Hp) (ag_h : Ag W h0 h) : Fr W h0 (XX5_firstUnmended  h) := by
  unfold XX5_firstUnmended
  exact fg_XX5_firstUnmended_L2 _ (fun a i hh => hW a i ((fun q => q.elim (fun q => Or.inl (by omega)) (fun q => q.elim (fun q => Or.inr (Or.inl (by omega))) (fun q => Or.inr (Or.inr (by omega))))) hh)) _ ag_h
theorem fr_XX5_firstUnmended {h : Hp} {r : Int} {h1 : Hp} (e : XX5_firstUnmended  h = some (r, h1)) (a i : Nat) (hn : ¬ ((42 ≤ a ∧ a ≤ 43) ∨ a = 203 ∨ (a = 40 ∧ i = 8))) : h1 a i = h a i := fg_XX5_firstUnmended (W := fun a i => (42 ≤ a ∧ a ≤ 43) ∨ a = 203 ∨ (a = 40 ∧ i = 8))  (fun _ _ hh => hh) h (fun _ _ _ => rfl) r h1 e a i hn
theorem fg_XX5_leastMending_b10 {W : Nat → Nat → Prop} {h0 : Hp} (self10 : Int → Int → Hp → OR) (hs_self10 : ∀ (y0 y1 : Int) (hh : Hp), Ag W h0 hh → Fr W h0 (self10 y0 y1 hh)) (l1 : Int) (l2 : Int) (hW : ∀ a i : Nat, (a = 42) → W a i) (h : Hp) (ag_h : Ag W h0 h) : Fr W h0 (XX5_leastMending_b10 self10 l1 l2 h) := by
  unfold XX5_leastMending_b10
  refine Fr_cal (fg_XX5_assignments (fun a i hh => hh.elim) _ ag_h) (fun r3 h4 ag_h4 => ?_)
  refine Fr_ite ?_ ?_
  · exact Fr_some ag_h4
  · refine Fr_cal (fg_XX5_mended _ (fun a i hh => hW a i (by omega)) _ ag_h4) (fun r5 h6 ag_h6 => ?_)
    refine Fr_chk ?_
    refine Fr_ite ?_ ?_
    · exact Fr_some ag_h6
    · refine Fr_chk ?_
      exact hs_self10 _ _ _ ag_h6
theorem fg_XX5_leastMending_L10 {W : Nat → Nat → Prop} {h0 : Hp} (l1 : Int) (l2 : Int) (hW : ∀ a i : Nat, (a = 42) → W a i) (h : Hp) (ag_h : Ag W h0 h) : Fr W h0 (XX5_leastMending_L10 l1 l2 h) := by
  unfold XX5_leastMending_L10
  exact Fr_lup2 (fun self hs z0 z1 hh ag => fg_XX5_leastMending_b10 self hs z0 z1 hW hh ag) FU _ _ _ ag_h
theorem fg_XX5_leastMending {W : Nat → Nat → Prop} {h0 : Hp} (x0 : Int) (hW : ∀ a i : Nat, ((42 ≤ a ∧ a ≤ 43) ∨ a = 203 ∨ (a = 40 ∧ i = 8)) → W a i) (h : Hp) (ag_h : Ag W h0 h) : Fr W h0 (XX5_leastMending x0 h) := by
  unfold XX5_leastMending
  refine Fr_chk ?_
  refine Fr_cal (fg_XX5_load _ (fun a i hh => hW a i ((fun q => q.elim (fun q => Or.inl (by omega)) (fun q => q.elim (fun q => Or.inr (Or.inl (by omega))) (fun q => Or.inr (Or.inr (by omega))))) hh)) _ ag_h) (fun r1 h2 ag_h2 => ?_)
  exact fg_XX5_leastMending_L10 _ _ (fun a i hh => hW a i (Or.inl (by omega))) _ ag_h2
theorem fr_XX5_leastMending {x0 : Int} {h : Hp} {r : Int} {h1 : Hp} (e : XX5_leastMending x0 h = some (r, h1)) (a i : Nat) (hn : ¬ ((42 ≤ a ∧ a ≤ 43) ∨ a = 203 ∨ (a = 40 ∧ i = 8))) : h1 a i = h a i := fg_XX5_leastMending (W := fun a i => (42 ≤ a ∧ a ≤ 43) ∨ a = 203 ∨ (a = 40 ∧ i = 8)) x0 (fun _ _ hh => hh) h (fun _ _ _ => rfl) r h1 e a i hn
theorem fg_XX5_writeLeast_p84 {W : Nat → Nat → Prop} {h0 : Hp} (a1 : Nat) (self2 : Int → Hp → OR) (hs_self2 : ∀ (y0 : Int) (hh : Hp), Ag W h0 hh → Fr W h0 (self2 y0 hh)) (self31 : Int → Int → Int → Hp → OR) (hs_self31 : ∀ (y0 y1 y2 : Int) (hh : Hp), Ag W h0 hh → Fr W h0 (self31 y0 y1 y2 hh)) (self53 : Int → Int → Int → Int → Int → Hp → OR) (hs_self53 : ∀ (y0 y1 y2 y3 y4 : Int) (hh : Hp), Ag W h0 hh → Fr W h0 (self53 y0 y1 y2 y3 y4 hh)) (l2 : Int) (l3 : Int) (l5 : Int) (l6 : Int) (l8 : Int) (hW : ∀ a i : Nat, (False) → W a i) (h : Hp) (ag_h : Ag W h0 h) : Fr W h0 (XX5_writeLeast_p84 a1 self2 self31 self53 l2 l3 l5 l6 l8 h) := by
  unfold XX5_writeLeast_p84
  refine Fr_chk ?_
  exact hs_self53 _ _ _ _ _ _ ag_h
theorem fg_XX5_writeLeast_b53 {W : Nat → Nat → Prop} {h0 : Hp} (a1 : Nat) (self2 : Int → Hp → OR) (hs_self2 : ∀ (y0 : Int) (hh : Hp), Ag W h0 hh → Fr W h0 (self2 y0 hh)) (self31 : Int → Int → Int → Hp → OR) (hs_self31 : ∀ (y0 y1 y2 : Int) (hh : Hp), Ag W h0 hh → Fr W h0 (self31 y0 y1 y2 hh)) (self53 : Int → Int → Int → Int → Int → Hp → OR) (hs_self53 : ∀ (y0 y1 y2 y3 y4 : Int) (hh : Hp), Ag W h0 hh → Fr W h0 (self53 y0 y1 y2 y3 y4 hh)) (l2 : Int) (l3 : Int) (l5 : Int) (l6 : Int) (l8 : Int) (hW : ∀ a i : Nat, (a = a1) → W a i) (h : Hp) (ag_h : Ag W h0 h) : Fr W h0 (XX5_writeLeast_b53 a1 self2 self31 self53 l2 l3 l5 l6 l8 h) := by
  unfold XX5_writeLeast_b53
  refine Fr_ite ?_ ?_
  · refine Fr_nm (fun v9 => ?_)
    refine Fr_chk ?_
    exact hs_self31 _ _ _ _ ag_h
  · refine Fr_ite ?_ ?_
    · refine Fr_chk ?_
      refine Fr_chk ?_
      refine Fr_inb ?_
      refine Fr_wr ag_h (hW _ _ (by omega)) (fun h10 ag_h10 => ?_)
      exact fg_XX5_writeLeast_p84 _ _ hs_self2 _ hs_self31 _ hs_self53 _ _ _ _ _ (fun a i hh => hh.elim) _ ag_h10
    · exact fg_XX5_writeLeast_p84 _ _ hs_self2 _ hs_self31 _ hs_self53 _ _ _ _ _ (fun a i hh => hh.elim) _ ag_h
theorem fg_XX5_writeLeast_L53 {W : Nat → Nat → Prop} {h0 : Hp} (a1 : Nat) (self2 : Int → Hp → OR) (hs_self2 : ∀ (y0 : Int) (hh : Hp), Ag W h0 hh → Fr W h0 (self2 y0 hh)) (self31 : Int → Int → Int → Hp → OR) (hs_self31 : ∀ (y0 y1 y2 : Int) (hh : Hp), Ag W h0 hh → Fr W h0 (self31 y0 y1 y2 hh)) (l2 : Int) (l3 : Int) (l5 : Int) (l6 : Int) (l8 : Int) (hW : ∀ a i : Nat, (a = a1) → W a i) (h : Hp) (ag_h : Ag W h0 h) : Fr W h0 (XX5_writeLeast_L53 a1 self2 self31 l2 l3 l5 l6 l8 h) := by
  unfold XX5_writeLeast_L53
  exact Fr_lup5 (fun self hs z0 z1 z2 z3 z4 hh ag => fg_XX5_writeLeast_b53 a1 self2 hs_self2 self31 hs_self31 self hs z0 z1 z2 z3 z4 hW hh ag) FU _ _ _ _ _ _ ag_h
theorem fg_XX5_writeLeast_b31 {W : Nat → Nat → Prop} {h0 : Hp} (a1 : Nat) (self2 : Int → Hp → OR) (hs_self2 : ∀ (y0 : Int) (hh : Hp), Ag W h0 hh → Fr W h0 (self2 y0 hh)) (self31 : Int → Int → Int → Hp → OR) (hs_self31 : ∀ (y0 y1 y2 : Int) (hh : Hp), Ag W h0 hh → Fr W h0 (self31 y0 y1 y2 hh)) (l2 : Int) (l3 : Int) (l5 : Int) (hW : ∀ a i : Nat, (a = 42 ∨ a = a1) → W a i) (h : Hp) (ag_h : Ag W h0 h) : Fr W h0 (XX5_writeLeast_b31 a1 self2 self31 l2 l3 l5 h) := by
  unfold XX5_writeLeast_b31
  refine Fr_cal (fg_XX5_assignments (fun a i hh => hh.elim) _ ag_h) (fun r4 h5 ag_h5 => ?_)
  refine Fr_ite ?_ ?_
  · refine Fr_chk ?_
    exact hs_self2 _ _ ag_h5
  · refine Fr_cal (fg_XX5_mended _ (fun a i hh => hW a i (Or.inl (by omega))) _ ag_h5) (fun r6 h7 ag_h7 => ?_)
    refine Fr_nm (fun v8 => ?_)
    exact fg_XX5_writeLeast_L53 _ _ hs_self2 _ hs_self31 _ _ _ _ _ (fun a i hh => hW a i (Or.inr (by omega))) _ ag_h7
theorem fg_XX5_writeLeast_L31 {W : Nat → Nat → Prop} {h0 : Hp} (a1 : Nat) (self2 : Int → Hp → OR) (hs_self2 : ∀ (y0 : Int) (hh : Hp), Ag W h0 hh → Fr W h0 (self2 y0 hh)) (l2 : Int) (l3 : Int) (l5 : Int) (hW : ∀ a i : Nat, (a = 42 ∨ a = a1) → W a i) (h : Hp) (ag_h : Ag W h0 h) : Fr W h0 (XX5_writeLeast_L31 a1 self2 l2 l3 l5 h) := by
  unfold XX5_writeLeast_L31
  exact Fr_lup3 (fun self hs z0 z1 z2 hh ag => fg_XX5_writeLeast_b31 a1 self2 hs_self2 self hs z0 z1 z2 hW hh ag) FU _ _ _ _ ag_h
theorem fg_XX5_writeLeast_b2 {W : Nat → Nat → Prop} {h0 : Hp} (a1 : Nat) (self2 : Int → Hp → OR) (hs_self2 : ∀ (y0 : Int) (hh : Hp), Ag W h0 hh → Fr W h0 (self2 y0 hh)) (l2 : Int) (hW : ∀ a i : Nat, ((42 ≤ a ∧ a ≤ 43) ∨ a = 203 ∨ (a = 40 ∧ i = 8) ∨ a = a1) → W a i) (h : Hp) (ag_h : Ag W h0 h) : Fr W h0 (XX5_writeLeast_b2 a1 self2 l2 h) := by
  unfold XX5_writeLeast_b2
  refine Fr_ite ?_ ?_
  · exact Fr_some ag_h
  · refine Fr_cal (fg_XX5_load _ (fun a i hh => hW a i ((fun q => q.elim (fun q => Or.inl (by omega)) (fun q => q.elim (fun q => Or.inr (Or.inl (by omega))) (fun q => Or.inr (Or.inr (Or.inl (by omega)))))) hh)) _ ag_h) (fun r1 h2 ag_h2 => ?_)
    refine Fr_inb ?_
    refine Fr_nm (fun v3 => ?_)
    exact fg_XX5_writeLeast_L31 _ _ hs_self2 _ _ _ (fun a i hh => hW a i ((fun q => q.elim (fun q => Or.inl (by omega)) (fun q => Or.inr (Or.inr (Or.inr (by omega))))) hh)) _ ag_h2
theorem fg_XX5_writeLeast_L2 {W : Nat → Nat → Prop} {h0 : Hp} (a1 : Nat) (l2 : Int) (hW : ∀ a i : Nat, ((42 ≤ a ∧ a ≤ 43) ∨ a = 203 ∨ (a = 40 ∧ i = 8) ∨ a = a1) → W a i) (h : Hp) (ag_h : Ag W h0 h) : Fr W h0 (XX5_writeLeast_L2 a1 l2 h) := by
  unfold XX5_writeLeast_L2
  exact Fr_lup1 (fun self hs z0 hh ag => fg_XX5_writeLeast_b2 a1 self hs z0 hW hh ag) FU _ _ ag_h
theorem fg_XX5_writeLeast {W : Nat → Nat → Prop} {h0 : Hp} (x0 : Nat) (hW : ∀ a i : Nat, ((42 ≤ a ∧ a ≤ 43) ∨ a = 203 ∨ (a = 40 ∧ i = 8) ∨ a = x0) → W a i) (h : Hp) (ag_h : Ag W h0 h) : Fr W h0 (XX5_writeLeast x0 h) := by
  unfold XX5_writeLeast
  exact fg_XX5_writeLeast_L2 _ _ (fun a i hh => hW a i ((fun q => q.elim (fun q => Or.inl (by omega)) (fun q => q.elim (fun q => Or.inr (Or.inl (by omega))) (fun q => q.elim (fun q => Or.inr (Or.inr (Or.inl (by omega)))) (fun q => Or.inr (Or.inr (Or.inr (by omega))))))) hh)) _ ag_h
theorem fr_XX5_writeLeast {x0 : Nat} {h : Hp} {r : Int} {h1 : Hp} (e : XX5_writeLeast x0 h = some (r, h1)) (a i : Nat) (hn : ¬ ((42 ≤ a ∧ a ≤ 43) ∨ a = 203 ∨ (a = 40 ∧ i = 8) ∨ a = x0)) : h1 a i = h a i := fg_XX5_writeLeast (W := fun a i => (42 ≤ a ∧ a ≤ 43) ∨ a = 203 ∨ (a = 40 ∧ i = 8) ∨ a = x0) x0 (fun _ _ hh => hh) h (fun _ _ _ => rfl) r h1 e a i hn
theorem fg_XX5_holders_p48 {W : Nat → Nat → Prop} {h0 : Hp} (a1 : Nat) (self6 : Int → Int → Int → Int → Int → Hp → OR) (hs_self6 : ∀ (y0 y1 y2 y3 y4 : Int) (hh : Hp), Ag W h0 hh → Fr W h0 (self6 y0 y1 y2 y3 y4 hh)) (l0 : Int) (l2 : Int) (l3 : Int) (l4 : Int) (l6 : Int) (hW : ∀ a i : Nat, (False) → W a i) (h : Hp) (ag_h : Ag W h0 h) : Fr W h0 (XX5_holders_p48 a1 self6 l0 l2 l3 l4 l6 h) := by
  unfold XX5_holders_p48
  refine Fr_chk ?_
  exact hs_self6 _ _ _ _ _ _ ag_h
theorem fg_XX5_holders_b6 {W : Nat → Nat → Prop} {h0 : Hp} (a1 : Nat) (self6 : Int → Int → Int → Int → Int → Hp → OR) (hs_self6 : ∀ (y0 y1 y2 y3 y4 : Int) (hh : Hp), Ag W h0 hh → Fr W h0 (self6 y0 y1 y2 y3 y4 hh)) (l0 : Int) (l2 : Int) (l3 : Int) (l4 : Int) (l6 : Int) (hW : ∀ a i : Nat, (False) → W a i) (h : Hp) (ag_h : Ag W h0 h) : Fr W h0 (XX5_holders_b6 a1 self6 l0 l2 l3 l4 l6 h) := by
  unfold XX5_holders_b6
  refine Fr_ite ?_ ?_
  · exact Fr_some ag_h
  · refine Fr_chk ?_
    refine Fr_chk ?_
    refine Fr_ite ?_ ?_
    · exact Fr_some ag_h
    · refine Fr_chk ?_
      refine Fr_chk ?_
      refine Fr_inb ?_
      refine Fr_ite ?_ ?_
      · refine Fr_nm (fun v1 => ?_)
        exact fg_XX5_holders_p48 _ _ hs_self6 _ _ _ _ _ (fun a i hh => hh.elim) _ ag_h
      · exact fg_XX5_holders_p48 _ _ hs_self6 _ _ _ _ _ (fun a i hh => hh.elim) _ ag_h
theorem fg_XX5_holders_L6 {W : Nat → Nat → Prop} {h0 : Hp} (a1 : Nat) (l0 : Int) (l2 : Int) (l3 : Int) (l4 : Int) (l6 : Int) (hW : ∀ a i : Nat, (False) → W a i) (h : Hp) (ag_h : Ag W h0 h) : Fr W h0 (XX5_holders_L6 a1 l0 l2 l3 l4 l6 h) := by
  unfold XX5_holders_L6
  exact Fr_lup5 (fun self hs z0 z1 z2 z3 z4 hh ag => fg_XX5_holders_b6 a1 self hs z0 z1 z2 z3 z4 hW hh ag) FU _ _ _ _ _ _ ag_h
theorem fg_XX5_holders {W : Nat → Nat → Prop} {h0 : Hp} (x0 : Int) (x1 : Nat) (x2 : Int) (x3 : Int) (hW : ∀ a i : Nat, (False) → W a i) (h : Hp) (ag_h : Ag W h0 h) : Fr W h0 (XX5_holders x0 x1 x2 x3 h) := by
  unfold XX5_holders
  exact fg_XX5_holders_L6 _ _ _ _ _ _ (fun a i hh => hh.elim) _ ag_h
theorem fr_XX5_holders {x0 : Int} {x1 : Nat} {x2 : Int} {x3 : Int} {h : Hp} {r : Int} {h1 : Hp} (e : XX5_holders x0 x1 x2 x3 h = some (r, h1)) (a i : Nat) (hn : ¬ (False)) : h1 a i = h a i := fg_XX5_holders (W := fun a i => False) x0 x1 x2 x3 (fun _ _ hh => hh) h (fun _ _ _ => rfl) r h1 e a i hn
theorem fe_XX5_holders {x0 : Int} {x1 : Nat} {x2 : Int} {x3 : Int} {h : Hp} {r : Int} {h1 : Hp} (e : XX5_holders x0 x1 x2 x3 h = some (r, h1)) : h1 = h := funext (fun a => funext (fun i => fr_XX5_holders e a i (fun hh => hh)))
theorem fg_XX5_firstMisjudgedIn_p110 {W : Nat → Nat → Prop} {h0 : Hp} (self47 : Int → Int → Int → Int → Hp → OR) (hs_self47 : ∀ (y0 y1 y2 y3 : Int) (hh : Hp), Ag W h0 hh → Fr W h0 (self47 y0 y1 y2 y3 hh)) (l1 : Int) (l3 : Int) (l4 : Int) (l6 : Int) (hW : ∀ a i : Nat, (False) → W a i) (h : Hp) (ag_h : Ag W h0 h) : Fr W h0 (XX5_firstMisjudgedIn_p110 self47 l1 l3 l4 l6 h) := by
  unfold XX5_firstMisjudgedIn_p110
  refine Fr_chk ?_
  exact hs_self47 _ _ _ _ _ ag_h
theorem fg_XX5_firstMisjudgedIn_b47 {W : Nat → Nat → Prop} {h0 : Hp} (self47 : Int → Int → Int → Int → Hp → OR) (hs_self47 : ∀ (y0 y1 y2 y3 : Int) (hh : Hp), Ag W h0 hh → Fr W h0 (self47 y0 y1 y2 y3 hh)) (l1 : Int) (l3 : Int) (l4 : Int) (l6 : Int) (hW : ∀ a i : Nat, (False) → W a i) (h : Hp) (ag_h : Ag W h0 h) : Fr W h0 (XX5_firstMisjudgedIn_b47 self47 l1 l3 l4 l6 h) := by
  unfold XX5_firstMisjudgedIn_b47
  refine Fr_ite ?_ ?_
  · exact Fr_some ag_h
  · refine Fr_chk ?_
    refine Fr_chk ?_
    refine Fr_ite ?_ ?_
    · exact Fr_some ag_h
    · refine Fr_cal (fg_XX0_isLive _ (fun a i hh => hh.elim) _ ag_h) (fun r4 h5 ag_h5 => ?_)
      refine Fr_ite ?_ ?_
      · exact fg_XX5_firstMisjudgedIn_p110 _ hs_self47 _ _ _ _ (fun a i hh => hh.elim) _ ag_h5
      · refine Fr_ite ?_ ?_
        · refine Fr_chk ?_
          refine Fr_ite ?_ ?_
          · exact Fr_some ag_h5
          · exact fg_XX5_firstMisjudgedIn_p110 _ hs_self47 _ _ _ _ (fun a i hh => hh.elim) _ ag_h5
        · exact Fr_some ag_h5
theorem fg_XX5_firstMisjudgedIn_L47 {W : Nat → Nat → Prop} {h0 : Hp} (l1 : Int) (l3 : Int) (l4 : Int) (l6 : Int) (hW : ∀ a i : Nat, (False) → W a i) (h : Hp) (ag_h : Ag W h0 h) : Fr W h0 (XX5_firstMisjudgedIn_L47 l1 l3 l4 l6 h) := by
  unfold XX5_firstMisjudgedIn_L47
  exact Fr_lup4 (fun self hs z0 z1 z2 z3 hh ag => fg_XX5_firstMisjudgedIn_b47 self hs z0 z1 z2 z3 hW hh ag) FU _ _ _ _ _ ag_h
theorem fg_XX5_firstMisjudgedIn_b6 {W : Nat → Nat → Prop} {h0 : Hp} (a2 : Nat) (self6 : Int → Int → Int → Int → Hp → OR) (hs_self6 : ∀ (y0 y1 y2 y3 : Int) (hh : Hp), Ag W h0 hh → Fr W h0 (self6 y0 y1 y2 y3 hh)) (l1 : Int) (l3 : Int) (l4 : Int) (l6 : Int) (hW : ∀ a i : Nat, (a = 42) → W a i) (h : Hp) (ag_h : Ag W h0 h) : Fr W h0 (XX5_firstMisjudgedIn_b6 a2 self6 l1 l3 l4 l6 h) := by
  unfold XX5_firstMisjudgedIn_b6
  refine Fr_cal (fg_XX5_assignments (fun a i hh => hh.elim) _ ag_h) (fun r1 h2 ag_h2 => ?_)
  refine Fr_ite ?_ ?_
  · refine Fr_chk ?_
    refine Fr_nm (fun v3 => ?_)
    exact fg_XX5_firstMisjudgedIn_L47 _ _ _ _ (fun a i hh => hh.elim) _ ag_h2
  · refine Fr_cal (fg_XX5_mended _ (fun a i hh => hW a i (by omega)) _ ag_h2) (fun r6 h7 ag_h7 => ?_)
    refine Fr_cal (fg_XX5_holders _ _ _ _ (fun a i hh => hh.elim) _ ag_h7) (fun r8 h9 ag_h9 => ?_)
    refine Fr_nm (fun v10 => ?_)
    refine Fr_chk ?_
    exact hs_self6 _ _ _ _ _ ag_h9
theorem fg_XX5_firstMisjudgedIn_L6 {W : Nat → Nat → Prop} {h0 : Hp} (a2 : Nat) (l1 : Int) (l3 : Int) (l4 : Int) (l6 : Int) (hW : ∀ a i : Nat, (a = 42) → W a i) (h : Hp) (ag_h : Ag W h0 h) : Fr W h0 (XX5_firstMisjudgedIn_L6 a2 l1 l3 l4 l6 h) := by
  unfold XX5_firstMisjudgedIn_L6
  exact Fr_lup4 (fun self hs z0 z1 z2 z3 hh ag => fg_XX5_firstMisjudgedIn_b6 a2 self hs z0 z1 z2 z3 hW hh ag) FU _ _ _ _ _ ag_h
theorem fg_XX5_firstMisjudgedIn {W : Nat → Nat → Prop} {h0 : Hp} (x0 : Int) (x1 : Nat) (x2 : Int) (hW : ∀ a i : Nat, (a = 42) → W a i) (h : Hp) (ag_h : Ag W h0 h) : Fr W h0 (XX5_firstMisjudgedIn x0 x1 x2 h) := by
  unfold XX5_firstMisjudgedIn
  exact fg_XX5_firstMisjudgedIn_L6 _ _ _ _ _ (fun a i hh => hW a i (by omega)) _ ag_h
theorem fr_XX5_firstMisjudgedIn {x0 : Int} {x1 : Nat} {x2 : Int} {h : Hp} {r : Int} {h1 : Hp} (e : XX5_firstMisjudgedIn x0 x1 x2 h = some (r, h1)) (a i : Nat) (hn : ¬ (a = 42)) : h1 a i = h a i := fg_XX5_firstMisjudgedIn (W := fun a i => a = 42) x0 x1 x2 (fun _ _ hh => hh) h (fun _ _ _ => rfl) r h1 e a i hn
theorem fg_XX5_firstMisjudged_b2 {W : Nat → Nat → Prop} {h0 : Hp} (a1 : Nat) (self2 : Int → Int → Hp → OR) (hs_self2 : ∀ (y0 y1 : Int) (hh : Hp), Ag W h0 hh → Fr W h0 (self2 y0 y1 hh)) (l2 : Int) (l3 : Int) (hW : ∀ a i : Nat, ((42 ≤ a ∧ a ≤ 43) ∨ a = 203 ∨ (a = 40 ∧ i = 8)) → W a i) (h : Hp) (ag_h : Ag W h0 h) : Fr W h0 (XX5_firstMisjudged_b2 a1 self2 l2 l3 h) := by
  unfold XX5_firstMisjudged_b2
  refine Fr_ite ?_ ?_
  · exact Fr_some ag_h
  · refine Fr_cal (fg_XX5_load _ (fun a i hh => hW a i ((fun q => q.elim (fun q => Or.inl (by omega)) (fun q => q.elim (fun q => Or.inr (Or.inl (by omega))) (fun q => Or.inr (Or.inr (by omega))))) hh)) _ ag_h) (fun r1 h2 ag_h2 => ?_)
    refine Fr_cal (fg_XX5_firstMisjudgedIn _ _ _ (fun a i hh => hW a i (Or.inl (by omega))) _ ag_h2) (fun r3 h4 ag_h4 => ?_)
    refine Fr_ite ?_ ?_
    · refine Fr_chk ?_
      exact hs_self2 _ _ _ ag_h4
    · exact Fr_some ag_h4
theorem fg_XX5_firstMisjudged_L2 {W : Nat → Nat → Prop} {h0 : Hp} (a1 : Nat) (l2 : Int) (l3 : Int) (hW : ∀ a i : Nat, ((42 ≤ a ∧ a ≤ 43) ∨ a = 203 ∨ (a = 40 ∧ i = 8)) → W a i) (h : Hp) (ag_h : Ag W h0 h) : Fr W h0 (XX5_firstMisjudged_L2 a1 l2 l3 h) := by
  unfold XX5_firstMisjudged_L2
  exact Fr_lup2 (fun self hs z0 z1 hh ag => fg_XX5_firstMisjudged_b2 a1 self hs z0 z1 hW hh ag) FU _ _ _ ag_h
theorem fg_XX5_firstMisjudged {W : Nat → Nat → Prop} {h0 : Hp} (x0 : Nat) (x1 : Int) (hW : ∀ a i : Nat, ((42 ≤ a ∧ a ≤ 43) ∨ a = 203 ∨ (a = 40 ∧ i = 8)) → W a i) (h : Hp) (ag_h : Ag W h0 h) : Fr W h0 (XX5_firstMisjudged x0 x1 h) := by
  unfold XX5_firstMisjudged
  exact fg_XX5_firstMisjudged_L2 _ _ _ (fun a i hh => hW a i ((fun q => q.elim (fun q => Or.inl (by omega)) (fun q => q.elim (fun q => Or.inr (Or.inl (by omega))) (fun q => Or.inr (Or.inr (by omega))))) hh)) _ ag_h
theorem fr_XX5_firstMisjudged {x0 : Nat} {x1 : Int} {h : Hp} {r : Int} {h1 : Hp} (e : XX5_firstMisjudged x0 x1 h = some (r, h1)) (a i : Nat) (hn : ¬ ((42 ≤ a ∧ a ≤ 43) ∨ a = 203 ∨ (a = 40 ∧ i = 8))) : h1 a i = h a i := fg_XX5_firstMisjudged (W := fun a i => (42 ≤ a ∧ a ≤ 43) ∨ a = 203 ∨ (a = 40 ∧ i = 8)) x0 x1 (fun _ _ hh => hh) h (fun _ _ _ => rfl) r h1 e a i hn
theorem fg_XX5_findWrong_p148 {W : Nat → Nat → Prop} {h0 : Hp} (self7 : Int → Hp → OR) (hs_self7 : ∀ (y0 : Int) (hh : Hp), Ag W h0 hh → Fr W h0 (self7 y0 hh)) (l1 : Int) (hW : ∀ a i : Nat, (False) → W a i) (h : Hp) (ag_h : Ag W h0 h) : Fr W h0 (XX5_findWrong_p148 self7 l1 h) := by
  unfold XX5_findWrong_p148
  refine Fr_chk ?_
  exact hs_self7 _ _ ag_h
theorem fg_XX5_findWrong_b50 {W : Nat → Nat → Prop} {h0 : Hp} (self7 : Int → Hp → OR) (hs_self7 : ∀ (y0 : Int) (hh : Hp), Ag W h0 hh → Fr W h0 (self7 y0 hh)) (self50 : Int → Int → Int → Int → Hp → OR) (hs_self50 : ∀ (y0 y1 y2 y3 : Int) (hh : Hp), Ag W h0 hh → Fr W h0 (self50 y0 y1 y2 y3 hh)) (l1 : Int) (l2 : Int) (l3 : Int) (l4 : Int) (hW : ∀ a i : Nat, (a = 44 ∨ (a = 40 ∧ i = 11)) → W a i) (h : Hp) (ag_h : Ag W h0 h) : Fr W h0 (XX5_findWrong_b50 self7 self50 l1 l2 l3 l4 h) := by
  unfold XX5_findWrong_b50
  refine Fr_ite ?_ ?_
  · exact fg_XX5_findWrong_p148 _ hs_self7 _ (fun a i hh => hh.elim) _ ag_h
  · refine Fr_chk ?_
    refine Fr_chk ?_
    refine Fr_inb ?_
    refine Fr_chk ?_
    refine Fr_chk ?_
    refine Fr_inb ?_
    refine Fr_nm (fun v6 => ?_)
    refine Fr_inb ?_
    refine Fr_ite ?_ ?_
    · refine Fr_chk ?_
      exact hs_self50 _ _ _ _ _ ag_h
    · refine Fr_inb ?_
      refine Fr_inb ?_
      refine Fr_wr ag_h (hW _ _ (Or.inl (by omega))) (fun h7 ag_h7 => ?_)
      refine Fr_chk ?_
      refine Fr_wr ag_h7 (hW _ _ (Or.inr (by omega))) (fun h8 ag_h8 => ?_)
      exact fg_XX5_findWrong_p148 _ hs_self7 _ (fun a i hh => hh.elim) _ ag_h8
theorem fg_XX5_findWrong_L50 {W : Nat → Nat → Prop} {h0 : Hp} (self7 : Int → Hp → OR) (hs_self7 : ∀ (y0 : Int) (hh : Hp), Ag W h0 hh → Fr W h0 (self7 y0 hh)) (l1 : Int) (l2 : Int) (l3 : Int) (l4 : Int) (hW : ∀ a i : Nat, (a = 44 ∨ (a = 40 ∧ i = 11)) → W a i) (h : Hp) (ag_h : Ag W h0 h) : Fr W h0 (XX5_findWrong_L50 self7 l1 l2 l3 l4 h) := by
  unfold XX5_findWrong_L50
  exact Fr_lup4 (fun self hs z0 z1 z2 z3 hh ag => fg_XX5_findWrong_b50 self7 hs_self7 self hs z0 z1 z2 z3 hW hh ag) FU _ _ _ _ _ ag_h
theorem fg_XX5_findWrong_b7 {W : Nat → Nat → Prop} {h0 : Hp} (self7 : Int → Hp → OR) (hs_self7 : ∀ (y0 : Int) (hh : Hp), Ag W h0 hh → Fr W h0 (self7 y0 hh)) (l1 : Int) (hW : ∀ a i : Nat, (a = 44 ∨ (a = 40 ∧ i = 11)) → W a i) (h : Hp) (ag_h : Ag W h0 h) : Fr W h0 (XX5_findWrong_b7 self7 l1 h) := by
  unfold XX5_findWrong_b7
  refine Fr_cal (fg_XX8_seenCount _ (fun a i hh => hh.elim) _ ag_h) (fun r2 h3 ag_h3 => ?_)
  refine Fr_ite ?_ ?_
  · exact Fr_some ag_h3
  · refine Fr_inb ?_
    refine Fr_nm (fun v4 => ?_)
    refine Fr_inb ?_
    refine Fr_nm (fun v5 => ?_)
    exact fg_XX5_findWrong_L50 _ hs_self7 _ _ _ _ (fun a i hh => hW a i ((fun q => q.elim (fun q => Or.inl (by omega)) (fun q => Or.inr (by omega))) hh)) _ ag_h3
theorem fg_XX5_findWrong_L7 {W : Nat → Nat → Prop} {h0 : Hp} (l1 : Int) (hW : ∀ a i : Nat, (a = 44 ∨ (a = 40 ∧ i = 11)) → W a i) (h : Hp) (ag_h : Ag W h0 h) : Fr W h0 (XX5_findWrong_L7 l1 h) := by
  unfold XX5_findWrong_L7
  exact Fr_lup1 (fun self hs z0 hh ag => fg_XX5_findWrong_b7 self hs z0 hW hh ag) FU _ _ ag_h
theorem fg_XX5_findWrong {W : Nat → Nat → Prop} {h0 : Hp} (hW : ∀ a i : Nat, (a = 44 ∨ (a = 40 ∧ i = 11)) → W a i) (h : Hp) (ag_h : Ag W h0 h) : Fr W h0 (XX5_findWrong  h) := by
  unfold XX5_findWrong
  refine Fr_wr ag_h (hW _ _ (Or.inr (by omega))) (fun h1 ag_h1 => ?_)
  exact fg_XX5_findWrong_L7 _ (fun a i hh => hW a i ((fun q => q.elim (fun q => Or.inl (by omega)) (fun q => Or.inr (by omega))) hh)) _ ag_h1
theorem fr_XX5_findWrong {h : Hp} {r : Int} {h1 : Hp} (e : XX5_findWrong  h = some (r, h1)) (a i : Nat) (hn : ¬ (a = 44 ∨ (a = 40 ∧ i = 11))) : h1 a i = h a i := fg_XX5_findWrong (W := fun a i => a = 44 ∨ (a = 40 ∧ i = 11))  (fun _ _ hh => hh) h (fun _ _ _ => rfl) r h1 e a i hn
theorem fg_XX5_addHard_b84 {W : Nat → Nat → Prop} {h0 : Hp} (self84 : Int → Int → Int → Hp → OR) (hs_self84 : ∀ (y0 y1 y2 : Int) (hh : Hp), Ag W h0 hh → Fr W h0 (self84 y0 y1 y2 hh)) (l1 : Int) (l2 : Int) (l4 : Int) (hW : ∀ a i : Nat, (a = 205 ∨ (a = 40 ∧ i = 12)) → W a i) (h : Hp) (ag_h : Ag W h0 h) : Fr W h0 (XX5_addHard_b84 self84 l1 l2 l4 h) := by
  unfold XX5_addHard_b84
  refine Fr_cal (fg_XX8_seenCount _ (fun a i hh => hh.elim) _ ag_h) (fun r4 h5 ag_h5 => ?_)
  refine Fr_ite ?_ ?_
  · refine Fr_chk ?_
    refine Fr_chk ?_
    refine Fr_wr ag_h5 (hW _ _ (Or.inr (by omega))) (fun h6 ag_h6 => ?_)
    exact Fr_some ag_h6
  · refine Fr_inb ?_
    refine Fr_chk ?_
    refine Fr_chk ?_
    refine Fr_chk ?_
    refine Fr_inb ?_
    refine Fr_nm (fun v7 => ?_)
    refine Fr_inb ?_
    refine Fr_chk ?_
    refine Fr_inb ?_
    refine Fr_wr ag_h5 (hW _ _ (Or.inl (by omega))) (fun h8 ag_h8 => ?_)
    refine Fr_chk ?_
    exact hs_self84 _ _ _ _ ag_h8
theorem fg_XX5_addHard_L84 {W : Nat → Nat → Prop} {h0 : Hp} (l1 : Int) (l2 : Int) (l4 : Int) (hW : ∀ a i : Nat, (a = 205 ∨ (a = 40 ∧ i = 12)) → W a i) (h : Hp) (ag_h : Ag W h0 h) : Fr W h0 (XX5_addHard_L84 l1 l2 l4 h) := by
  unfold XX5_addHard_L84
  exact Fr_lup3 (fun self hs z0 z1 z2 hh ag => fg_XX5_addHard_b84 self hs z0 z1 z2 hW hh ag) FU _ _ _ _ ag_h
theorem fg_XX5_addHard_b12 {W : Nat → Nat → Prop} {h0 : Hp} (self12 : Int → Int → Int → Hp → OR) (hs_self12 : ∀ (y0 y1 y2 : Int) (hh : Hp), Ag W h0 hh → Fr W h0 (self12 y0 y1 y2 hh)) (l1 : Int) (l2 : Int) (l4 : Int) (hW : ∀ a i : Nat, ((204 ≤ a ∧ a ≤ 205) ∨ (a = 40 ∧ i = 12)) → W a i) (h : Hp) (ag_h : Ag W h0 h) : Fr W h0 (XX5_addHard_b12 self12 l1 l2 l4 h) := by
  unfold XX5_addHard_b12
  refine Fr_cal (fg_XX8_wires _ (fun a i hh => hh.elim) _ ag_h) (fun r2 h3 ag_h3 => ?_)
  refine Fr_ite ?_ ?_
  · exact fg_XX5_addHard_L84 _ _ _ (fun a i hh => hW a i ((fun q => q.elim (fun q => Or.inl (by omega)) (fun q => Or.inr (by omega))) hh)) _ ag_h3
  · refine Fr_inb ?_
    refine Fr_chk ?_
    refine Fr_chk ?_
    refine Fr_chk ?_
    refine Fr_inb ?_
    refine Fr_chk ?_
    refine Fr_inb ?_
    refine Fr_wr ag_h3 (hW _ _ (Or.inl (by omega))) (fun h9 ag_h9 => ?_)
    refine Fr_chk ?_
    exact hs_self12 _ _ _ _ ag_h9
theorem fg_XX5_addHard_L12 {W : Nat → Nat → Prop} {h0 : Hp} (l1 : Int) (l2 : Int) (l4 : Int) (hW : ∀ a i : Nat, ((204 ≤ a ∧ a ≤ 205) ∨ (a = 40 ∧ i = 12)) → W a i) (h : Hp) (ag_h : Ag W h0 h) : Fr W h0 (XX5_addHard_L12 l1 l2 l4 h) := by
  unfold XX5_addHard_L12
  exact Fr_lup3 (fun self hs z0 z1 z2 hh ag => fg_XX5_addHard_b12 self hs z0 z1 z2 hW hh ag) FU _ _ _ _ ag_h
theorem fg_XX5_addHard {W : Nat → Nat → Prop} {h0 : Hp} (x0 : Int) (hW : ∀ a i : Nat, ((204 ≤ a ∧ a ≤ 205) ∨ (a = 40 ∧ i = 12)) → W a i) (h : Hp) (ag_h : Ag W h0 h) : Fr W h0 (XX5_addHard x0 h) := by
  unfold XX5_addHard
  refine Fr_nm (fun v1 => ?_)
  exact fg_XX5_addHard_L12 _ _ _ (fun a i hh => hW a i ((fun q => q.elim (fun q => Or.inl (by omega)) (fun q => Or.inr (by omega))) hh)) _ ag_h
theorem fr_XX5_addHard {x0 : Int} {h : Hp} {r : Int} {h1 : Hp} (e : XX5_addHard x0 h = some (r, h1)) (a i : Nat) (hn : ¬ ((204 ≤ a ∧ a ≤ 205) ∨ (a = 40 ∧ i = 12))) : h1 a i = h a i := fg_XX5_addHard (W := fun a i => (204 ≤ a ∧ a ≤ 205) ∨ (a = 40 ∧ i = 12)) x0 (fun _ _ hh => hh) h (fun _ _ _ => rfl) r h1 e a i hn
theorem fg_XX5_startSearch_b6 {W : Nat → Nat → Prop} {h0 : Hp} (self6 : Int → Int → Hp → OR) (hs_self6 : ∀ (y0 y1 : Int) (hh : Hp), Ag W h0 hh → Fr W h0 (self6 y0 y1 hh)) (l1 : Int) (l2 : Int) (hW : ∀ a i : Nat, ((204 ≤ a ∧ a ≤ 205) ∨ (a = 40 ∧ i = 12)) → W a i) (h : Hp) (ag_h : Ag W h0 h) : Fr W h0 (XX5_startSearch_b6 self6 l1 l2 h) := by
  unfold XX5_startSearch_b6
  refine Fr_ite ?_ ?_
  · exact Fr_some ag_h
  · refine Fr_cal (fg_XX5_addHard _ (fun a i hh => hW a i ((fun q => q.elim (fun q => Or.inl (by omega)) (fun q => Or.inr (by omega))) hh)) _ ag_h) (fun r3 h4 ag_h4 => ?_)
    refine Fr_chk ?_
    exact hs_self6 _ _ _ ag_h4
theorem fg_XX5_startSearch_L6 {W : Nat → Nat → Prop} {h0 : Hp} (l1 : Int) (l2 : Int) (hW : ∀ a i : Nat, ((204 ≤ a ∧ a ≤ 205) ∨ (a = 40 ∧ i = 12)) → W a i) (h : Hp) (ag_h : Ag W h0 h) : Fr W h0 (XX5_startSearch_L6 l1 l2 h) := by
  unfold XX5_startSearch_L6
  exact Fr_lup2 (fun self hs z0 z1 hh ag => fg_XX5_startSearch_b6 self hs z0 z1 hW hh ag) FU _ _ _ ag_h
theorem fg_XX5_startSearch {W : Nat → Nat → Prop} {h0 : Hp} (x0 : Int) (hW : ∀ a i : Nat, (a = 44 ∨ (204 ≤ a ∧ a ≤ 205) ∨ (a = 40 ∧ 11 ≤ i ∧ i ≤ 12)) → W a i) (h : Hp) (ag_h : Ag W h0 h) : Fr W h0 (XX5_startSearch x0 h) := by
  unfold XX5_startSearch
  refine Fr_cal (fg_XX5_findWrong (fun a i hh => hW a i ((fun q => q.elim (fun q => Or.inl (by omega)) (fun q => Or.inr (Or.inr (by omega)))) hh)) _ ag_h) (fun r1 h2 ag_h2 => ?_)
  exact fg_XX5_startSearch_L6 _ _ (fun a i hh => hW a i ((fun q => q.elim (fun q => Or.inr (Or.inl (by omega))) (fun q => Or.inr (Or.inr (by omega)))) hh)) _ ag_h2
theorem fr_XX5_startSearch {x0 : Int} {h : Hp} {r : Int} {h1 : Hp} (e : XX5_startSearch x0 h = some (r, h1)) (a i : Nat) (hn : ¬ (a = 44 ∨ (204 ≤ a ∧ a ≤ 205) ∨ (a = 40 ∧ 11 ≤ i ∧ i ≤ 12))) : h1 a i = h a i := fg_XX5_startSearch (W := fun a i => a = 44 ∨ (204 ≤ a ∧ a ≤ 205) ∨ (a = 40 ∧ 11 ≤ i ∧ i ≤ 12)) x0 (fun _ _ hh => hh) h (fun _ _ _ => rfl) r h1 e a i hn
theorem fg_XX5_failsHard_b94 {W : Nat → Nat → Prop} {h0 : Hp} (self94 : Int → Int → Int → Hp → OR) (hs_self94 : ∀ (y0 y1 y2 : Int) (hh : Hp), Ag W h0 hh → Fr W h0 (self94 y0 y1 y2 hh)) (l1 : Int) (l3 : Int) (l5 : Int) (hW : ∀ a i : Nat, (False) → W a i) (h : Hp) (ag_h : Ag W h0 h) : Fr W h0 (XX5_failsHard_b94 self94 l1 l3 l5 h) := by
  unfold XX5_failsHard_b94
  refine Fr_ite ?_ ?_
  · refine Fr_ite ?_ ?_
    · refine Fr_zb ?_
      exact Fr_some ag_h
    · refine Fr_zb ?_
      exact Fr_some ag_h
  · refine Fr_chk ?_
    refine Fr_nm (fun v11 => ?_)
    refine Fr_chk ?_
    exact hs_self94 _ _ _ _ ag_h
theorem fg_XX5_failsHard_L94 {W : Nat → Nat → Prop} {h0 : Hp} (l1 : Int) (l3 : Int) (l5 : Int) (hW : ∀ a i : Nat, (False) → W a i) (h : Hp) (ag_h : Ag W h0 h) : Fr W h0 (XX5_failsHard_L94 l1 l3 l5 h) := by
  unfold XX5_failsHard_L94
  exact Fr_lup3 (fun self hs z0 z1 z2 hh ag => fg_XX5_failsHard_b94 self hs z0 z1 z2 hW hh ag) FU _ _ _ _ ag_h
theorem fg_XX5_failsHard_b52 {W : Nat → Nat → Prop} {h0 : Hp} (self52 : Int → Hp → OR) (hs_self52 : ∀ (y0 : Int) (hh : Hp), Ag W h0 hh → Fr W h0 (self52 y0 hh)) (l1 : Int) (hW : ∀ a i : Nat, (a = 42) → W a i) (h : Hp) (ag_h : Ag W h0 h) : Fr W h0 (XX5_failsHard_b52 self52 l1 h) := by
  unfold XX5_failsHard_b52
  refine Fr_ite ?_ ?_
  · refine Fr_cal (fg_XX5_matching (fun a i hh => hW a i (by omega)) _ ag_h) (fun r9 h10 ag_h10 => ?_)
    exact fg_XX5_failsHard_L94 _ _ _ (fun a i hh => hh.elim) _ ag_h10
  · refine Fr_inb ?_
    refine Fr_chk ?_
    refine Fr_inb ?_
    refine Fr_inb ?_
    refine Fr_wr ag_h (hW _ _ (by omega)) (fun h12 ag_h12 => ?_)
    refine Fr_chk ?_
    exact hs_self52 _ _ ag_h12
theorem fg_XX5_failsHard_L52 {W : Nat → Nat → Prop} {h0 : Hp} (l1 : Int) (hW : ∀ a i : Nat, (a = 42) → W a i) (h : Hp) (ag_h : Ag W h0 h) : Fr W h0 (XX5_failsHard_L52 l1 h) := by
  unfold XX5_failsHard_L52
  exact Fr_lup1 (fun self hs z0 hh ag => fg_XX5_failsHard_b52 self hs z0 hW hh ag) FU _ _ ag_h
theorem fg_XX5_failsHard {W : Nat → Nat → Prop} {h0 : Hp} (hW : ∀ a i : Nat, ((42 ≤ a ∧ a ≤ 43) ∨ a = 203 ∨ (a = 40 ∧ i = 8)) → W a i) (h : Hp) (ag_h : Ag W h0 h) : Fr W h0 (XX5_failsHard  h) := by
  unfold XX5_failsHard
  refine Fr_cal (fg_XX8_wires _ (fun a i hh => hh.elim) _ ag_h) (fun r1 h2 ag_h2 => ?_)
  refine Fr_acp ?_
  refine Fr_cpy ag_h2 (fun q => hW _ _ (Or.inl (by omega))) (fun h3 ag_h3 => ?_)
  refine Fr_cal (fg_XX8_seenCount _ (fun a i hh => hh.elim) _ ag_h3) (fun r4 h5 ag_h5 => ?_)
  refine Fr_acp ?_
  refine Fr_cpy ag_h5 (fun q => hW _ _ (Or.inr (Or.inl (by omega)))) (fun h6 ag_h6 => ?_)
  refine Fr_cal (fg_XX5_findCone (fun a i hh => hW a i ((fun q => q.elim (fun q => Or.inl (by omega)) (fun q => Or.inr (Or.inr (by omega)))) hh)) _ ag_h6) (fun r7 h8 ag_h8 => ?_)
  exact fg_XX5_failsHard_L52 _ (fun a i hh => hW a i (Or.inl (by omega))) _ ag_h8
theorem fr_XX5_failsHard {h : Hp} {r : Int} {h1 : Hp} (e : XX5_failsHard  h = some (r, h1)) (a i : Nat) (hn : ¬ ((42 ≤ a ∧ a ≤ 43) ∨ a = 203 ∨ (a = 40 ∧ i = 8))) : h1 a i = h a i := fg_XX5_failsHard (W := fun a i => (42 ≤ a ∧ a ≤ 43) ∨ a = 203 ∨ (a = 40 ∧ i = 8))  (fun _ _ hh => hh) h (fun _ _ _ => rfl) r h1 e a i hn
theorem fg_XX5_isEnough_p78 {W : Nat → Nat → Prop} {h0 : Hp} (l4 : Int) (hW : ∀ a i : Nat, (False) → W a i) (h : Hp) (ag_h : Ag W h0 h) : Fr W h0 (XX5_isEnough_p78 l4 h) := by
  unfold XX5_isEnough_p78
  refine Fr_ite ?_ ?_
  · refine Fr_zb ?_
    exact Fr_some ag_h
  · refine Fr_zb ?_
    exact Fr_some ag_h
theorem fg_XX5_isEnough_b15 {W : Nat → Nat → Prop} {h0 : Hp} (self15 : Int → Hp → OR) (hs_self15 : ∀ (y0 : Int) (hh : Hp), Ag W h0 hh → Fr W h0 (self15 y0 hh)) (l4 : Int) (hW : ∀ a i : Nat, ((42 ≤ a ∧ a ≤ 43) ∨ (203 ≤ a ∧ a ≤ 205) ∨ (a = 40 ∧ i = 8) ∨ (a = 40 ∧ i = 12)) → W a i) (h : Hp) (ag_h : Ag W h0 h) : Fr W h0 (XX5_isEnough_b15 self15 l4 h) := by
  unfold XX5_isEnough_b15
  refine Fr_ite ?_ ?_
  · refine Fr_cal (fg_XX5_failsHard (fun a i hh => hW a i ((fun q => q.elim (fun q => Or.inl (by omega)) (fun q => q.elim (fun q => Or.inr (Or.inl (by omega))) (fun q => Or.inr (Or.inr (Or.inl (by omega)))))) hh)) _ ag_h) (fun r3 h4 ag_h4 => ?_)
    refine Fr_ite ?_ ?_
    · refine Fr_cal (fg_XX5_firstUnmended (fun a i hh => hW a i ((fun q => q.elim (fun q => Or.inl (by omega)) (fun q => q.elim (fun q => Or.inr (Or.inl (by omega))) (fun q => Or.inr (Or.inr (Or.inl (by omega)))))) hh)) _ ag_h4) (fun r5 h6 ag_h6 => ?_)
      refine Fr_ite ?_ ?_
      · exact fg_XX5_isEnough_p78 _ (fun a i hh => hh.elim) _ ag_h6
      · refine Fr_cal (fg_XX5_addHard _ (fun a i hh => hW a i ((fun q => q.elim (fun q => Or.inr (Or.inl (by omega))) (fun q => Or.inr (Or.inr (Or.inr (by omega))))) hh)) _ ag_h6) (fun r7 h8 ag_h8 => ?_)
        exact fg_XX5_isEnough_p78 _ (fun a i hh => hh.elim) _ ag_h8
    · refine Fr_zb ?_
      exact Fr_some ag_h4
  · refine Fr_inb ?_
    refine Fr_ite ?_ ?_
    · refine Fr_zb ?_
      exact Fr_some ag_h
    · refine Fr_chk ?_
      exact hs_self15 _ _ ag_h
theorem fg_XX5_isEnough_L15 {W : Nat → Nat → Prop} {h0 : Hp} (l4 : Int) (hW : ∀ a i : Nat, ((42 ≤ a ∧ a ≤ 43) ∨ (203 ≤ a ∧ a ≤ 205) ∨ (a = 40 ∧ i = 8) ∨ (a = 40 ∧ i = 12)) → W a i) (h : Hp) (ag_h : Ag W h0 h) : Fr W h0 (XX5_isEnough_L15 l4 h) := by
  unfold XX5_isEnough_L15
  exact Fr_lup1 (fun self hs z0 hh ag => fg_XX5_isEnough_b15 self hs z0 hW hh ag) FU _ _ ag_h
theorem fg_XX5_isEnough {W : Nat → Nat → Prop} {h0 : Hp} (x0 : Int) (x1 : Int) (x2 : Int) (hW : ∀ a i : Nat, ((41 ≤ a ∧ a ≤ 43) ∨ (203 ≤ a ∧ a ≤ 205) ∨ (a = 40 ∧ 4 ≤ i ∧ i ≤ 5) ∨ (a = 40 ∧ i = 8) ∨ (a = 40 ∧ i = 12)) → W a i) (h : Hp) (ag_h : Ag W h0 h) : Fr W h0 (XX5_isEnough x0 x1 x2 h) := by
  unfold XX5_isEnough
  refine Fr_cal (fg_XX5_aim _ _ _ (fun a i hh => hW a i ((fun q => q.elim (fun q => Or.inl (by omega)) (fun q => Or.inr (Or.inr (Or.inl (by omega))))) hh)) _ ag_h) (fun r1 h2 ag_h2 => ?_)
  refine Fr_ite ?_ ?_
  · refine Fr_zb ?_
    exact Fr_some ag_h2
  · exact fg_XX5_isEnough_L15 _ (fun a i hh => hW a i ((fun q => q.elim (fun q => Or.inl (by omega)) (fun q => q.elim (fun q => Or.inr (Or.inl (by omega))) (fun q => q.elim (fun q => Or.inr (Or.inr (Or.inr (Or.inl (by omega))))) (fun q => Or.inr (Or.inr (Or.inr (Or.inr (by omega)))))))) hh)) _ ag_h2
theorem fr_XX5_isEnough {x0 : Int} {x1 : Int} {x2 : Int} {h : Hp} {r : Int} {h1 : Hp} (e : XX5_isEnough x0 x1 x2 h = some (r, h1)) (a i : Nat) (hn : ¬ ((41 ≤ a ∧ a ≤ 43) ∨ (203 ≤ a ∧ a ≤ 205) ∨ (a = 40 ∧ 4 ≤ i ∧ i ≤ 5) ∨ (a = 40 ∧ i = 8) ∨ (a = 40 ∧ i = 12))) : h1 a i = h a i := fg_XX5_isEnough (W := fun a i => (41 ≤ a ∧ a ≤ 43) ∨ (203 ≤ a ∧ a ≤ 205) ∨ (a = 40 ∧ 4 ≤ i ∧ i ≤ 5) ∨ (a = 40 ∧ i = 8) ∨ (a = 40 ∧ i = 12)) x0 x1 x2 (fun _ _ hh => hh) h (fun _ _ _ => rfl) r h1 e a i hn
theorem fg_XX5_search_p121 {W : Nat → Nat → Prop} {h0 : Hp} (self22 : Int → Int → Int → Hp → OR) (hs_self22 : ∀ (y0 y1 y2 : Int) (hh : Hp), Ag W h0 hh → Fr W h0 (self22 y0 y1 y2 hh)) (l1 : Int) (l2 : Int) (l3 : Int) (hW : ∀ a i : Nat, (False) → W a i) (h : Hp) (ag_h : Ag W h0 h) : Fr W h0 (XX5_search_p121 self22 l1 l2 l3 h) := by
  unfold XX5_search_p121
  refine Fr_chk ?_
  exact hs_self22 _ _ _ _ ag_h
theorem fg_XX5_search_p115 {W : Nat → Nat → Prop} {h0 : Hp} (self22 : Int → Int → Int → Hp → OR) (hs_self22 : ∀ (y0 y1 y2 : Int) (hh : Hp), Ag W h0 hh → Fr W h0 (self22 y0 y1 y2 hh)) (self49 : Int → Int → Int → Int → Hp → OR) (hs_self49 : ∀ (y0 y1 y2 y3 : Int) (hh : Hp), Ag W h0 hh → Fr W h0 (self49 y0 y1 y2 y3 hh)) (l1 : Int) (l2 : Int) (l3 : Int) (l4 : Int) (hW : ∀ a i : Nat, (False) → W a i) (h : Hp) (ag_h : Ag W h0 h) : Fr W h0 (XX5_search_p115 self22 self49 l1 l2 l3 l4 h) := by
  unfold XX5_search_p115
  refine Fr_chk ?_
  exact hs_self49 _ _ _ _ _ ag_h
theorem fg_XX5_search_b84 {W : Nat → Nat → Prop} {h0 : Hp} (self22 : Int → Int → Int → Hp → OR) (hs_self22 : ∀ (y0 y1 y2 : Int) (hh : Hp), Ag W h0 hh → Fr W h0 (self22 y0 y1 y2 hh)) (self49 : Int → Int → Int → Int → Hp → OR) (hs_self49 : ∀ (y0 y1 y2 y3 : Int) (hh : Hp), Ag W h0 hh → Fr W h0 (self49 y0 y1 y2 y3 hh)) (self84 : Int → Int → Int → Int → Int → Hp → OR) (hs_self84 : ∀ (y0 y1 y2 y3 y4 : Int) (hh : Hp), Ag W h0 hh → Fr W h0 (self84 y0 y1 y2 y3 y4 hh)) (l1 : Int) (l2 : Int) (l3 : Int) (l4 : Int) (l5 : Int) (hW : ∀ a i : Nat, ((41 ≤ a ∧ a ≤ 43) ∨ (203 ≤ a ∧ a ≤ 205) ∨ (a = 40 ∧ 4 ≤ i ∧ i ≤ 5) ∨ (a = 40 ∧ i = 8) ∨ (a = 40 ∧ i = 12)) → W a i) (h : Hp) (ag_h : Ag W h0 h) : Fr W h0 (XX5_search_b84 self22 self49 self84 l1 l2 l3 l4 l5 h) := by
  unfold XX5_search_b84
  refine Fr_ite ?_ ?_
  · exact fg_XX5_search_p115 _ hs_self22 _ hs_self49 _ _ _ _ (fun a i hh => hh.elim) _ ag_h
  · refine Fr_ite ?_ ?_
    · exact fg_XX5_search_p115 _ hs_self22 _ hs_self49 _ _ _ _ (fun a i hh => hh.elim) _ ag_h
    · refine Fr_cal (fg_XX5_isEnough _ _ _ (fun a i hh => hW a i ((fun q => q.elim (fun q => Or.inl (by omega)) (fun q => q.elim (fun q => Or.inr (Or.inl (by omega))) (fun q => q.elim (fun q => Or.inr (Or.inr (Or.inl (by omega)))) (fun q => q.elim (fun q => Or.inr (Or.inr (Or.inr (Or.inl (by omega))))) (fun q => Or.inr (Or.inr (Or.inr (Or.inr (by omega))))))))) hh)) _ ag_h) (fun r7 h8 ag_h8 => ?_)
      refine Fr_ite ?_ ?_
      · refine Fr_chk ?_
        exact hs_self84 _ _ _ _ _ _ ag_h8
      · refine Fr_zb ?_
        exact Fr_some ag_h8
theorem fg_XX5_search_L84 {W : Nat → Nat → Prop} {h0 : Hp} (self22 : Int → Int → Int → Hp → OR) (hs_self22 : ∀ (y0 y1 y2 : Int) (hh : Hp), Ag W h0 hh → Fr W h0 (self22 y0 y1 y2 hh)) (self49 : Int → Int → Int → Int → Hp → OR) (hs_self49 : ∀ (y0 y1 y2 y3 : Int) (hh : Hp), Ag W h0 hh → Fr W h0 (self49 y0 y1 y2 y3 hh)) (l1 : Int) (l2 : Int) (l3 : Int) (l4 : Int) (l5 : Int) (hW : ∀ a i : Nat, ((41 ≤ a ∧ a ≤ 43) ∨ (203 ≤ a ∧ a ≤ 205) ∨ (a = 40 ∧ 4 ≤ i ∧ i ≤ 5) ∨ (a = 40 ∧ i = 8) ∨ (a = 40 ∧ i = 12)) → W a i) (h : Hp) (ag_h : Ag W h0 h) : Fr W h0 (XX5_search_L84 self22 self49 l1 l2 l3 l4 l5 h) := by
  unfold XX5_search_L84
  exact Fr_lup5 (fun self hs z0 z1 z2 z3 z4 hh ag => fg_XX5_search_b84 self22 hs_self22 self49 hs_self49 self hs z0 z1 z2 z3 z4 hW hh ag) FU _ _ _ _ _ _ ag_h
theorem fg_XX5_search_p78 {W : Nat → Nat → Prop} {h0 : Hp} (self22 : Int → Int → Int → Hp → OR) (hs_self22 : ∀ (y0 y1 y2 : Int) (hh : Hp), Ag W h0 hh → Fr W h0 (self22 y0 y1 y2 hh)) (self49 : Int → Int → Int → Int → Hp → OR) (hs_self49 : ∀ (y0 y1 y2 y3 : Int) (hh : Hp), Ag W h0 hh → Fr W h0 (self49 y0 y1 y2 y3 hh)) (l1 : Int) (l2 : Int) (l3 : Int) (l4 : Int) (hW : ∀ a i : Nat, ((41 ≤ a ∧ a ≤ 43) ∨ (203 ≤ a ∧ a ≤ 205) ∨ (a = 40 ∧ 4 ≤ i ∧ i ≤ 5) ∨ (a = 40 ∧ i = 8) ∨ (a = 40 ∧ i = 12)) → W a i) (h : Hp) (ag_h : Ag W h0 h) : Fr W h0 (XX5_search_p78 self22 self49 l1 l2 l3 l4 h) := by
  unfold XX5_search_p78
  refine Fr_chk ?_
  refine Fr_nm (fun v6 => ?_)
  exact fg_XX5_search_L84 _ hs_self22 _ hs_self49 _ _ _ _ _ (fun a i hh => hW a i ((fun q => q.elim (fun q => Or.inl (by omega)) (fun q => q.elim (fun q => Or.inr (Or.inl (by omega))) (fun q => q.elim (fun q => Or.inr (Or.inr (Or.inl (by omega)))) (fun q => q.elim (fun q => Or.inr (Or.inr (Or.inr (Or.inl (by omega))))) (fun q => Or.inr (Or.inr (Or.inr (Or.inr (by omega))))))))) hh)) _ ag_h
theorem fg_XX5_search_b49 {W : Nat → Nat → Prop} {h0 : Hp} (self22 : Int → Int → Int → Hp → OR) (hs_self22 : ∀ (y0 y1 y2 : Int) (hh : Hp), Ag W h0 hh → Fr W h0 (self22 y0 y1 y2 hh)) (self49 : Int → Int → Int → Int → Hp → OR) (hs_self49 : ∀ (y0 y1 y2 y3 : Int) (hh : Hp), Ag W h0 hh → Fr W h0 (self49 y0 y1 y2 y3 hh)) (l1 : Int) (l2 : Int) (l3 : Int) (l4 : Int) (hW : ∀ a i : Nat, ((41 ≤ a ∧ a ≤ 43) ∨ (203 ≤ a ∧ a ≤ 205) ∨ (a = 40 ∧ 4 ≤ i ∧ i ≤ 5) ∨ (a = 40 ∧ i = 8) ∨ (a = 40 ∧ i = 12)) → W a i) (h : Hp) (ag_h : Ag W h0 h) : Fr W h0 (XX5_search_b49 self22 self49 l1 l2 l3 l4 h) := by
  unfold XX5_search_b49
  refine Fr_ite ?_ ?_
  · exact fg_XX5_search_p121 _ hs_self22 _ _ _ (fun a i hh => hh.elim) _ ag_h
  · refine Fr_ite ?_ ?_
    · exact fg_XX5_search_p121 _ hs_self22 _ _ _ (fun a i hh => hh.elim) _ ag_h
    · refine Fr_ite ?_ ?_
      · refine Fr_cal (fg_XX5_isEnough _ _ _ (fun a i hh => hW a i ((fun q => q.elim (fun q => Or.inl (by omega)) (fun q => q.elim (fun q => Or.inr (Or.inl (by omega))) (fun q => q.elim (fun q => Or.inr (Or.inr (Or.inl (by omega)))) (fun q => q.elim (fun q => Or.inr (Or.inr (Or.inr (Or.inl (by omega))))) (fun q => Or.inr (Or.inr (Or.inr (Or.inr (by omega))))))))) hh)) _ ag_h) (fun r9 h10 ag_h10 => ?_)
        refine Fr_ite ?_ ?_
        · exact fg_XX5_search_p78 _ hs_self22 _ hs_self49 _ _ _ _ (fun a i hh => hW a i ((fun q => q.elim (fun q => Or.inl (by omega)) (fun q => q.elim (fun q => Or.inr (Or.inl (by omega))) (fun q => q.elim (fun q => Or.inr (Or.inr (Or.inl (by omega)))) (fun q => q.elim (fun q => Or.inr (Or.inr (Or.inr (Or.inl (by omega))))) (fun q => Or.inr (Or.inr (Or.inr (Or.inr (by omega))))))))) hh)) _ ag_h10
        · refine Fr_zb ?_
          exact Fr_some ag_h10
      · exact fg_XX5_search_p78 _ hs_self22 _ hs_self49 _ _ _ _ (fun a i hh => hW a i ((fun q => q.elim (fun q => Or.inl (by omega)) (fun q => q.elim (fun q => Or.inr (Or.inl (by omega))) (fun q => q.elim (fun q => Or.inr (Or.inr (Or.inl (by omega)))) (fun q => q.elim (fun q => Or.inr (Or.inr (Or.inr (Or.inl (by omega))))) (fun q => Or.inr (Or.inr (Or.inr (Or.inr (by omega))))))))) hh)) _ ag_h
theorem fg_XX5_search_L49 {W : Nat → Nat → Prop} {h0 : Hp} (self22 : Int → Int → Int → Hp → OR) (hs_self22 : ∀ (y0 y1 y2 : Int) (hh : Hp), Ag W h0 hh → Fr W h0 (self22 y0 y1 y2 hh)) (l1 : Int) (l2 : Int) (l3 : Int) (l4 : Int) (hW : ∀ a i : Nat, ((41 ≤ a ∧ a ≤ 43) ∨ (203 ≤ a ∧ a ≤ 205) ∨ (a = 40 ∧ 4 ≤ i ∧ i ≤ 5) ∨ (a = 40 ∧ i = 8) ∨ (a = 40 ∧ i = 12)) → W a i) (h : Hp) (ag_h : Ag W h0 h) : Fr W h0 (XX5_search_L49 self22 l1 l2 l3 l4 h) := by
  unfold XX5_search_L49
  exact Fr_lup4 (fun self hs z0 z1 z2 z3 hh ag => fg_XX5_search_b49 self22 hs_self22 self hs z0 z1 z2 z3 hW hh ag) FU _ _ _ _ _ ag_h
theorem fg_XX5_search_p44 {W : Nat → Nat → Prop} {h0 : Hp} (self22 : Int → Int → Int → Hp → OR) (hs_self22 : ∀ (y0 y1 y2 : Int) (hh : Hp), Ag W h0 hh → Fr W h0 (self22 y0 y1 y2 hh)) (l1 : Int) (l2 : Int) (l3 : Int) (hW : ∀ a i : Nat, ((41 ≤ a ∧ a ≤ 43) ∨ (203 ≤ a ∧ a ≤ 205) ∨ (a = 40 ∧ 4 ≤ i ∧ i ≤ 5) ∨ (a = 40 ∧ i = 8) ∨ (a = 40 ∧ i = 12)) → W a i) (h : Hp) (ag_h : Ag W h0 h) : Fr W h0 (XX5_search_p44 self22 l1 l2 l3 h) := by
  unfold XX5_search_p44
  refine Fr_chk ?_
  refine Fr_nm (fun v5 => ?_)
  exact fg_XX5_search_L49 _ hs_self22 _ _ _ _ (fun a i hh => hW a i ((fun q => q.elim (fun q => Or.inl (by omega)) (fun q => q.elim (fun q => Or.inr (Or.inl (by omega))) (fun q => q.elim (fun q => Or.inr (Or.inr (Or.inl (by omega)))) (fun q => q.elim (fun q => Or.inr (Or.inr (Or.inr (Or.inl (by omega))))) (fun q => Or.inr (Or.inr (Or.inr (Or.inr (by omega))))))))) hh)) _ ag_h
theorem fg_XX5_search_b22 {W : Nat → Nat → Prop} {h0 : Hp} (self22 : Int → Int → Int → Hp → OR) (hs_self22 : ∀ (y0 y1 y2 : Int) (hh : Hp), Ag W h0 hh → Fr W h0 (self22 y0 y1 y2 hh)) (l1 : Int) (l2 : Int) (l3 : Int) (hW : ∀ a i : Nat, ((41 ≤ a ∧ a ≤ 43) ∨ (203 ≤ a ∧ a ≤ 205) ∨ (a = 40 ∧ 4 ≤ i ∧ i ≤ 5) ∨ (a = 40 ∧ i = 8) ∨ (a = 40 ∧ i = 12)) → W a i) (h : Hp) (ag_h : Ag W h0 h) : Fr W h0 (XX5_search_b22 self22 l1 l2 l3 h) := by
  unfold XX5_search_b22
  refine Fr_ite ?_ ?_
  · refine Fr_zb ?_
    exact Fr_some ag_h
  · refine Fr_ite ?_ ?_
    · refine Fr_cal (fg_XX5_isEnough _ _ _ (fun a i hh => hW a i ((fun q => q.elim (fun q => Or.inl (by omega)) (fun q => q.elim (fun q => Or.inr (Or.inl (by omega))) (fun q => q.elim (fun q => Or.inr (Or.inr (Or.inl (by omega)))) (fun q => q.elim (fun q => Or.inr (Or.inr (Or.inr (Or.inl (by omega))))) (fun q => Or.inr (Or.inr (Or.inr (Or.inr (by omega))))))))) hh)) _ ag_h) (fun r11 h12 ag_h12 => ?_)
      refine Fr_ite ?_ ?_
      · exact fg_XX5_search_p44 _ hs_self22 _ _ _ (fun a i hh => hW a i ((fun q => q.elim (fun q => Or.inl (by omega)) (fun q => q.elim (fun q => Or.inr (Or.inl (by omega))) (fun q => q.elim (fun q => Or.inr (Or.inr (Or.inl (by omega)))) (fun q => q.elim (fun q => Or.inr (Or.inr (Or.inr (Or.inl (by omega))))) (fun q => Or.inr (Or.inr (Or.inr (Or.inr (by omega))))))))) hh)) _ ag_h12
      · refine Fr_zb ?_
        exact Fr_some ag_h12
    · exact fg_XX5_search_p44 _ hs_self22 _ _ _ (fun a i hh => hW a i ((fun q => q.elim (fun q => Or.inl (by omega)) (fun q => q.elim (fun q => Or.inr (Or.inl (by omega))) (fun q => q.elim (fun q => Or.inr (Or.inr (Or.inl (by omega)))) (fun q => q.elim (fun q => Or.inr (Or.inr (Or.inr (Or.inl (by omega))))) (fun q => Or.inr (Or.inr (Or.inr (Or.inr (by omega))))))))) hh)) _ ag_h
theorem fg_XX5_search_L22 {W : Nat → Nat → Prop} {h0 : Hp} (l1 : Int) (l2 : Int) (l3 : Int) (hW : ∀ a i : Nat, ((41 ≤ a ∧ a ≤ 43) ∨ (203 ≤ a ∧ a ≤ 205) ∨ (a = 40 ∧ 4 ≤ i ∧ i ≤ 5) ∨ (a = 40 ∧ i = 8) ∨ (a = 40 ∧ i = 12)) → W a i) (h : Hp) (ag_h : Ag W h0 h) : Fr W h0 (XX5_search_L22 l1 l2 l3 h) := by
  unfold XX5_search_L22
  exact Fr_lup3 (fun self hs z0 z1 z2 hh ag => fg_XX5_search_b22 self hs z0 z1 z2 hW hh ag) FU _ _ _ _ ag_h
theorem fg_XX5_search {W : Nat → Nat → Prop} {h0 : Hp} (x0 : Int) (hW : ∀ a i : Nat, ((41 ≤ a ∧ a ≤ 43) ∨ (203 ≤ a ∧ a ≤ 205) ∨ (a = 40 ∧ 4 ≤ i ∧ i ≤ 5) ∨ (a = 40 ∧ i = 8) ∨ (a = 40 ∧ i = 12)) → W a i) (h : Hp) (ag_h : Ag W h0 h) : Fr W h0 (XX5_search x0 h) := by
  unfold XX5_search
  refine Fr_cal (fg_XX8_wires _ (fun a i hh => hh.elim) _ ag_h) (fun r1 h2 ag_h2 => ?_)
  refine Fr_cal (fg_XX8_sources _ (fun a i hh => hh.elim) _ ag_h2) (fun r3 h4 ag_h4 => ?_)
  exact fg_XX5_search_L22 _ _ _ (fun a i hh => hW a i ((fun q => q.elim (fun q => Or.inl (by omega)) (fun q => q.elim (fun q => Or.inr (Or.inl (by omega))) (fun q => q.elim (fun q => Or.inr (Or.inr (Or.inl (by omega)))) (fun q => q.elim (fun q => Or.inr (Or.inr (Or.inr (Or.inl (by omega))))) (fun q => Or.inr (Or.inr (Or.inr (Or.inr (by omega))))))))) hh)) _ ag_h4
theorem fr_XX5_search {x0 : Int} {h : Hp} {r : Int} {h1 : Hp} (e : XX5_search x0 h = some (r, h1)) (a i : Nat) (hn : ¬ ((41 ≤ a ∧ a ≤ 43) ∨ (203 ≤ a ∧ a ≤ 205) ∨ (a = 40 ∧ 4 ≤ i ∧ i ≤ 5) ∨ (a = 40 ∧ i = 8) ∨ (a = 40 ∧ i = 12))) : h1 a i = h a i := fg_XX5_search (W := fun a i => (41 ≤ a ∧ a ≤ 43) ∨ (203 ≤ a ∧ a ≤ 205) ∨ (a = 40 ∧ 4 ≤ i ∧ i ≤ 5) ∨ (a = 40 ∧ i = 8) ∨ (a = 40 ∧ i = 12)) x0 (fun _ _ hh => hh) h (fun _ _ _ => rfl) r h1 e a i hn
theorem fg_XX1_tell_p135 {W : Nat → Nat → Prop} {h0 : Hp} (s1 : Int) (hW : ∀ a i : Nat, ((a = 45 ∧ i = 5)) → W a i) (h : Hp) (ag_h : Ag W h0 h) : Fr W h0 (XX1_tell_p135 s1 h) := by
  unfold XX1_tell_p135
  refine Fr_wr ag_h (hW _ _ (by omega)) (fun h4 ag_h4 => ?_)
  refine Fr_zb ?_
  exact Fr_some ag_h4
theorem fg_XX1_tell_p85 {W : Nat → Nat → Prop} {h0 : Hp} (l1 : Int) (l2 : Int) (l3 : Int) (hW : ∀ a i : Nat, (a = 47 ∨ (a = 45 ∧ i = 5)) → W a i) (h : Hp) (ag_h : Ag W h0 h) : Fr W h0 (XX1_tell_p85 l1 l2 l3 h) := by
  unfold XX1_tell_p85
  refine Fr_inb ?_
  refine Fr_wr ag_h (hW _ _ (Or.inl (by omega))) (fun h1 ag_h1 => ?_)
  refine Fr_inb ?_
  refine Fr_wr ag_h1 (hW _ _ (Or.inl (by omega))) (fun h2 ag_h2 => ?_)
  refine Fr_inb ?_
  refine Fr_wr ag_h2 (hW _ _ (Or.inl (by omega))) (fun h3 ag_h3 => ?_)
  refine Fr_ite ?_ ?_
  · exact fg_XX1_tell_p135 _ (fun a i hh => hW a i (Or.inr (by omega))) _ ag_h3
  · refine Fr_ite ?_ ?_
    · exact fg_XX1_tell_p135 _ (fun a i hh => hW a i (Or.inr (by omega))) _ ag_h3
    · refine Fr_ite ?_ ?_
      · exact fg_XX1_tell_p135 _ (fun a i hh => hW a i (Or.inr (by omega))) _ ag_h3
      · exact fg_XX1_tell_p135 _ (fun a i hh => hW a i (Or.inr (by omega))) _ ag_h3
theorem fg_XX1_tell_p68 {W : Nat → Nat → Prop} {h0 : Hp} (l1 : Int) (l2 : Int) (l3 : Int) (hW : ∀ a i : Nat, (a = 47 ∨ (a = 45 ∧ i = 5)) → W a i) (h : Hp) (ag_h : Ag W h0 h) : Fr W h0 (XX1_tell_p68 l1 l2 l3 h) := by
  unfold XX1_tell_p68
  refine Fr_ite ?_ ?_
  · exact fg_XX1_tell_p85 _ _ _ (fun a i hh => hW a i ((fun q => q.elim (fun q => Or.inl (by omega)) (fun q => Or.inr (by omega))) hh)) _ ag_h
  · refine Fr_ite ?_ ?_
    · refine Fr_zb ?_
      exact Fr_some ag_h
    · refine Fr_ite ?_ ?_
      · exact fg_XX1_tell_p85 _ _ _ (fun a i hh => hW a i ((fun q => q.elim (fun q => Or.inl (by omega)) (fun q => Or.inr (by omega))) hh)) _ ag_h
      · refine Fr_zb ?_
        exact Fr_some ag_h
theorem fg_XX1_tell_p53 {W : Nat → Nat → Prop} {h0 : Hp} (l1 : Int) (l2 : Int) (l3 : Int) (hW : ∀ a i : Nat, (a = 47 ∨ (a = 45 ∧ i = 5)) → W a i) (h : Hp) (ag_h : Ag W h0 h) : Fr W h0 (XX1_tell_p53 l1 l2 l3 h) := by
  unfold XX1_tell_p53
  refine Fr_ite ?_ ?_
  · exact fg_XX1_tell_p68 _ _ _ (fun a i hh => hW a i ((fun q => q.elim (fun q => Or.inl (by omega)) (fun q => Or.inr (by omega))) hh)) _ ag_h
  · refine Fr_ite ?_ ?_
    · refine Fr_zb ?_
      exact Fr_some ag_h
    · refine Fr_ite ?_ ?_
      · refine Fr_zb ?_
        exact Fr_some ag_h
      · exact fg_XX1_tell_p68 _ _ _ (fun a i hh => hW a i ((fun q => q.elim (fun q => Or.inl (by omega)) (fun q => Or.inr (by omega))) hh)) _ ag_h
theorem fg_XX1_tell_p37 {W : Nat → Nat → Prop} {h0 : Hp} (l1 : Int) (l2 : Int) (l3 : Int) (hW : ∀ a i : Nat, (a = 47 ∨ (a = 45 ∧ i = 5)) → W a i) (h : Hp) (ag_h : Ag W h0 h) : Fr W h0 (XX1_tell_p37 l1 l2 l3 h) := by
  unfold XX1_tell_p37
  refine Fr_ite ?_ ?_
  · exact fg_XX1_tell_p53 _ _ _ (fun a i hh => hW a i ((fun q => q.elim (fun q => Or.inl (by omega)) (fun q => Or.inr (by omega))) hh)) _ ag_h
  · refine Fr_cal (fg_XX8_isWire _ _ (fun a i hh => hh.elim) _ ag_h) (fun r5 h6 ag_h6 => ?_)
    refine Fr_ite ?_ ?_
    · refine Fr_zb ?_
      exact Fr_some ag_h6
    · exact fg_XX1_tell_p53 _ _ _ (fun a i hh => hW a i ((fun q => q.elim (fun q => Or.inl (by omega)) (fun q => Or.inr (by omega))) hh)) _ ag_h6
theorem fg_XX1_tell_p23 {W : Nat → Nat → Prop} {h0 : Hp} (l1 : Int) (l2 : Int) (l3 : Int) (hW : ∀ a i : Nat, (a = 47 ∨ (a = 45 ∧ i = 5)) → W a i) (h : Hp) (ag_h : Ag W h0 h) : Fr W h0 (XX1_tell_p23 l1 l2 l3 h) := by
  unfold XX1_tell_p23
  refine Fr_ite ?_ ?_
  · exact fg_XX1_tell_p37 _ _ _ (fun a i hh => hW a i ((fun q => q.elim (fun q => Or.inl (by omega)) (fun q => Or.inr (by omega))) hh)) _ ag_h
  · refine Fr_cal (fg_XX8_isWire _ _ (fun a i hh => hh.elim) _ ag_h) (fun r7 h8 ag_h8 => ?_)
    refine Fr_ite ?_ ?_
    · refine Fr_zb ?_
      exact Fr_some ag_h8
    · exact fg_XX1_tell_p37 _ _ _ (fun a i hh => hW a i ((fun q => q.elim (fun q => Or.inl (by omega)) (fun q => Or.inr (by omega))) hh)) _ ag_h8
theorem fg_XX1_tell {W : Nat → Nat → Prop} {h0 : Hp} (x0 : Int) (x1 : Int) (x2 : Int) (hW : ∀ a i : Nat, (a = 47 ∨ (a = 45 ∧ i = 5)) → W a i) (h : Hp) (ag_h : Ag W h0 h) : Fr W h0 (XX1_tell x0 x1 x2 h) := by
  unfold XX1_tell
  refine Fr_ite ?_ ?_
  · exact fg_XX1_tell_p23 _ _ _ (fun a i hh => hW a i ((fun q => q.elim (fun q => Or.inl (by omega)) (fun q => Or.inr (by omega))) hh)) _ ag_h
  · refine Fr_cal (fg_XX8_isWire _ _ (fun a i hh => hh.elim) _ ag_h) (fun r9 h10 ag_h10 => ?_)
    refine Fr_ite ?_ ?_
    · refine Fr_zb ?_
      exact Fr_some ag_h10
    · exact fg_XX1_tell_p23 _ _ _ (fun a i hh => hW a i ((fun q => q.elim (fun q => Or.inl (by omega)) (fun q => Or.inr (by omega))) hh)) _ ag_h10
theorem fr_XX1_tell {x0 : Int} {x1 : Int} {x2 : Int} {h : Hp} {r : Int} {h1 : Hp} (e : XX1_tell x0 x1 x2 h = some (r, h1)) (a i : Nat) (hn : ¬ (a = 47 ∨ (a = 45 ∧ i = 5))) : h1 a i = h a i := fg_XX1_tell (W := fun a i => a = 47 ∨ (a = 45 ∧ i = 5)) x0 x1 x2 (fun _ _ hh => hh) h (fun _ _ _ => rfl) r h1 e a i hn
theorem fg_XX1_toldHangOn_b2 {W : Nat → Nat → Prop} {h0 : Hp} (self2 : Int → Int → Hp → OR) (hs_self2 : ∀ (y0 y1 : Int) (hh : Hp), Ag W h0 hh → Fr W h0 (self2 y0 y1 hh)) (l1 : Int) (l3 : Int) (hW : ∀ a i : Nat, (False) → W a i) (h : Hp) (ag_h : Ag W h0 h) : Fr W h0 (XX1_toldHangOn_b2 self2 l1 l3 h) := by
  unfold XX1_toldHangOn_b2
  refine Fr_ite ?_ ?_
  · refine Fr_zb ?_
    exact Fr_some ag_h
  · refine Fr_inb ?_
    refine Fr_inb ?_
    refine Fr_ite ?_ ?_
    · refine Fr_chk ?_
      exact hs_self2 _ _ _ ag_h
    · refine Fr_zb ?_
      exact Fr_some ag_h
theorem fg_XX1_toldHangOn_L2 {W : Nat → Nat → Prop} {h0 : Hp} (l1 : Int) (l3 : Int) (hW : ∀ a i : Nat, (False) → W a i) (h : Hp) (ag_h : Ag W h0 h) : Fr W h0 (XX1_toldHangOn_L2 l1 l3 h) := by
  unfold XX1_toldHangOn_L2
  exact Fr_lup2 (fun self hs z0 z1 hh ag => fg_XX1_toldHangOn_b2 self hs z0 z1 hW hh ag) FU _ _ _ ag_h
theorem fg_XX1_toldHangOn {W : Nat → Nat → Prop} {h0 : Hp} (x0 : Int) (hW : ∀ a i : Nat, (False) → W a i) (h : Hp) (ag_h : Ag W h0 h) : Fr W h0 (XX1_toldHangOn x0 h) := by
  unfold XX1_toldHangOn
  exact fg_XX1_toldHangOn_L2 _ _ (fun a i hh => hh.elim) _ ag_h
theorem fr_XX1_toldHangOn {x0 : Int} {h : Hp} {r : Int} {h1 : Hp} (e : XX1_toldHangOn x0 h = some (r, h1)) (a i : Nat) (hn : ¬ (False)) : h1 a i = h a i := fg_XX1_toldHangOn (W := fun a i => False) x0 (fun _ _ hh => hh) h (fun _ _ _ => rfl) r h1 e a i hn
theorem fe_XX1_toldHangOn {x0 : Int} {h : Hp} {r : Int} {h1 : Hp} (e : XX1_toldHangOn x0 h = some (r, h1)) : h1 = h := funext (fun a => funext (fun i => fr_XX1_toldHangOn e a i (fun hh => hh)))
theorem fg_XX1_learn_b60 {W : Nat → Nat → Prop} {h0 : Hp} (self42 : Int → Hp → OR) (hs_self42 : ∀ (y0 : Int) (hh : Hp), Ag W h0 hh → Fr W h0 (self42 y0 hh)) (self60 : Int → Int → Hp → OR) (hs_self60 : ∀ (y0 y1 : Int) (hh : Hp), Ag W h0 hh → Fr W h0 (self60 y0 y1 hh)) (l2 : Int) (l3 : Int) (hW : ∀ a i : Nat, (a = 42 ∨ a = 48) → W a i) (h : Hp) (ag_h : Ag W h0 h) : Fr W h0 (XX1_learn_b60 self42 self60 l2 l3 h) := by
  unfold XX1_learn_b60
  refine Fr_ite ?_ ?_
  · refine Fr_chk ?_
    exact hs_self42 _ _ ag_h
  · refine Fr_chk ?_
    refine Fr_chk ?_
    refine Fr_cal (fg_XX5_mended _ (fun a i hh => hW a i (Or.inl (by omega))) _ ag_h) (fun r4 h5 ag_h5 => ?_)
    refine Fr_inb ?_
    refine Fr_wr ag_h5 (hW _ _ (Or.inr (by omega))) (fun h6 ag_h6 => ?_)
    refine Fr_chk ?_
    exact hs_self60 _ _ _ ag_h6
theorem fg_XX1_learn_L60 {W : Nat → Nat → Prop} {h0 : Hp} (self42 : Int → Hp → OR) (hs_self42 : ∀ (y0 : Int) (hh : Hp), Ag W h0 hh → Fr W h0 (self42 y0 hh)) (l2 : Int) (l3 : Int) (hW : ∀ a i : Nat, (a = 42 ∨ a = 48) → W a i) (h : Hp) (ag_h : Ag W h0 h) : Fr W h0 (XX1_learn_L60 self42 l2 l3 h) := by
  unfold XX1_learn_L60
  exact Fr_lup2 (fun self hs z0 z1 hh ag => fg_XX1_learn_b60 self42 hs_self42 self hs z0 z1 hW hh ag) FU _ _ _ ag_h
theorem fg_XX1_learn_b42 {W : Nat → Nat → Prop} {h0 : Hp} (self42 : Int → Hp → OR) (hs_self42 : ∀ (y0 : Int) (hh : Hp), Ag W h0 hh → Fr W h0 (self42 y0 hh)) (l2 : Int) (hW : ∀ a i : Nat, ((42 ≤ a ∧ a ≤ 43) ∨ a = 48 ∨ a = 203 ∨ (a = 40 ∧ i = 8)) → W a i) (h : Hp) (ag_h : Ag W h0 h) : Fr W h0 (XX1_learn_b42 self42 l2 h) := by
  unfold XX1_learn_b42
  refine Fr_ite ?_ ?_
  · exact Fr_some ag_h
  · refine Fr_cal (fg_XX5_load _ (fun a i hh => hW a i ((fun q => q.elim (fun q => Or.inl (by omega)) (fun q => q.elim (fun q => Or.inr (Or.inr (Or.inl (by omega)))) (fun q => Or.inr (Or.inr (Or.inr (by omega)))))) hh)) _ ag_h) (fun r2 h3 ag_h3 => ?_)
    exact fg_XX1_learn_L60 _ hs_self42 _ _ (fun a i hh => hW a i ((fun q => q.elim (fun q => Or.inl (by omega)) (fun q => Or.inr (Or.inl (by omega)))) hh)) _ ag_h3
theorem fg_XX1_learn_L42 {W : Nat → Nat → Prop} {h0 : Hp} (l2 : Int) (hW : ∀ a i : Nat, ((42 ≤ a ∧ a ≤ 43) ∨ a = 48 ∨ a = 203 ∨ (a = 40 ∧ i = 8)) → W a i) (h : Hp) (ag_h : Ag W h0 h) : Fr W h0 (XX1_learn_L42 l2 h) := by
  unfold XX1_learn_L42
  exact Fr_lup1 (fun self hs z0 hh ag => fg_XX1_learn_b42 self hs z0 hW hh ag) FU _ _ ag_h
theorem fg_XX1_learn_b14 {W : Nat → Nat → Prop} {h0 : Hp} (self14 : Int → Hp → OR) (hs_self14 : ∀ (y0 : Int) (hh : Hp), Ag W h0 hh → Fr W h0 (self14 y0 hh)) (l2 : Int) (hW : ∀ a i : Nat, ((42 ≤ a ∧ a ≤ 43) ∨ a = 46 ∨ a = 48 ∨ a = 203 ∨ (a = 40 ∧ i = 8)) → W a i) (h : Hp) (ag_h : Ag W h0 h) : Fr W h0 (XX1_learn_b14 self14 l2 h) := by
  unfold XX1_learn_b14
  refine Fr_ite ?_ ?_
  · exact fg_XX1_learn_L42 _ (fun a i hh => hW a i ((fun q => q.elim (fun q => Or.inl (by omega)) (fun q => q.elim (fun q => Or.inr (Or.inr (Or.inl (by omega)))) (fun q => q.elim (fun q => Or.inr (Or.inr (Or.inr (Or.inl (by omega))))) (fun q => Or.inr (Or.inr (Or.inr (Or.inr (by omega)))))))) hh)) _ ag_h
  · refine Fr_inb ?_
    refine Fr_inb ?_
    refine Fr_wr ag_h (hW _ _ (Or.inr (Or.inl (by omega)))) (fun h7 ag_h7 => ?_)
    refine Fr_chk ?_
    exact hs_self14 _ _ ag_h7
theorem fg_XX1_learn_L14 {W : Nat → Nat → Prop} {h0 : Hp} (l2 : Int) (hW : ∀ a i : Nat, ((42 ≤ a ∧ a ≤ 43) ∨ a = 46 ∨ a = 48 ∨ a = 203 ∨ (a = 40 ∧ i = 8)) → W a i) (h : Hp) (ag_h : Ag W h0 h) : Fr W h0 (XX1_learn_L14 l2 h) := by
  unfold XX1_learn_L14
  exact Fr_lup1 (fun self hs z0 hh ag => fg_XX1_learn_b14 self hs z0 hW hh ag) FU _ _ ag_h
theorem fg_XX1_learn {W : Nat → Nat → Prop} {h0 : Hp} (hW : ∀ a i : Nat, ((42 ≤ a ∧ a ≤ 43) ∨ a = 46 ∨ a = 48 ∨ a = 203 ∨ (a = 40 ∧ i = 8) ∨ (a = 45 ∧ i = 3)) → W a i) (h : Hp) (ag_h : Ag W h0 h) : Fr W h0 (XX1_learn  h) := by
  unfold XX1_learn
  refine Fr_wr ag_h (hW _ _ (Or.inr (Or.inr (Or.inr (Or.inr (Or.inr (by omega))))))) (fun h1 ag_h1 => ?_)
  exact fg_XX1_learn_L14 _ (fun a i hh => hW a i ((fun q => q.elim (fun q => Or.inl (by omega)) (fun q => q.elim (fun q => Or.inr (Or.inl (by omega))) (fun q => q.elim (fun q => Or.inr (Or.inr (Or.inl (by omega)))) (fun q => q.elim (fun q => Or.inr (Or.inr (Or.inr (Or.inl (by omega))))) (fun q => Or.inr (Or.inr (Or.inr (Or.inr (Or.inl (by omega)))))))))) hh)) _ ag_h1
theorem fr_XX1_learn {h : Hp} {r : Int} {h1 : Hp} (e : XX1_learn  h = some (r, h1)) (a i : Nat) (hn : ¬ ((42 ≤ a ∧ a ≤ 43) ∨ a = 46 ∨ a = 48 ∨ a = 203 ∨ (a = 40 ∧ i = 8) ∨ (a = 45 ∧ i = 3))) : h1 a i = h a i := fg_XX1_learn (W := fun a i => (42 ≤ a ∧ a ≤ 43) ∨ a = 46 ∨ a = 48 ∨ a = 203 ∨ (a = 40 ∧ i = 8) ∨ (a = 45 ∧ i = 3))  (fun _ _ hh => hh) h (fun _ _ _ => rfl) r h1 e a i hn
theorem fg_XX1_mendsAll_p111 {W : Nat → Nat → Prop} {h0 : Hp} (self2 : Int → Int → Int → Hp → OR) (hs_self2 : ∀ (y0 y1 y2 : Int) (hh : Hp), Ag W h0 hh → Fr W h0 (self2 y0 y1 y2 hh)) (l1 : Int) (l2 : Int) (l3 : Int) (l4 : Int) (hW : ∀ a i : Nat, (False) → W a i) (h : Hp) (ag_h : Ag W h0 h) : Fr W h0 (XX1_mendsAll_p111 self2 l1 l2 l3 l4 h) := by
  unfold XX1_mendsAll_p111
  refine Fr_ite ?_ ?_
  · refine Fr_chk ?_
    exact hs_self2 _ _ _ _ ag_h
  · refine Fr_zb ?_
    exact Fr_some ag_h
theorem fg_XX1_mendsAll_p102 {W : Nat → Nat → Prop} {h0 : Hp} (self2 : Int → Int → Int → Hp → OR) (hs_self2 : ∀ (y0 y1 y2 : Int) (hh : Hp), Ag W h0 hh → Fr W h0 (self2 y0 y1 y2 hh)) (self42 : Int → Int → Int → Int → Int → Hp → OR) (hs_self42 : ∀ (y0 y1 y2 y3 y4 : Int) (hh : Hp), Ag W h0 hh → Fr W h0 (self42 y0 y1 y2 y3 y4 hh)) (l1 : Int) (l2 : Int) (l3 : Int) (l6 : Int) (s0 : Int) (s1 : Int) (hW : ∀ a i : Nat, (False) → W a i) (h : Hp) (ag_h : Ag W h0 h) : Fr W h0 (XX1_mendsAll_p102 self2 self42 l1 l2 l3 l6 s0 s1 h) := by
  unfold XX1_mendsAll_p102
  refine Fr_nm (fun v3 => ?_)
  refine Fr_chk ?_
  exact hs_self42 _ _ _ _ _ _ ag_h
theorem fg_XX1_mendsAll_b42 {W : Nat → Nat → Prop} {h0 : Hp} (self2 : Int → Int → Int → Hp → OR) (hs_self2 : ∀ (y0 y1 y2 : Int) (hh : Hp), Ag W h0 hh → Fr W h0 (self2 y0 y1 y2 hh)) (self42 : Int → Int → Int → Int → Int → Hp → OR) (hs_self42 : ∀ (y0 y1 y2 y3 y4 : Int) (hh : Hp), Ag W h0 hh → Fr W h0 (self42 y0 y1 y2 y3 y4 hh)) (l1 : Int) (l2 : Int) (l3 : Int) (l4 : Int) (l6 : Int) (hW : ∀ a i : Nat, (False) → W a i) (h : Hp) (ag_h : Ag W h0 h) : Fr W h0 (XX1_mendsAll_b42 self2 self42 l1 l2 l3 l4 l6 h) := by
  unfold XX1_mendsAll_b42
  refine Fr_ite ?_ ?_
  · exact fg_XX1_mendsAll_p111 _ hs_self2 _ _ _ _ (fun a i hh => hh.elim) _ ag_h
  · refine Fr_ite ?_ ?_
    · exact fg_XX1_mendsAll_p111 _ hs_self2 _ _ _ _ (fun a i hh => hh.elim) _ ag_h
    · refine Fr_inb ?_
      refine Fr_chk ?_
      refine Fr_chk ?_
      refine Fr_inb ?_
      refine Fr_nm (fun v2 => ?_)
      refine Fr_ite ?_ ?_
      · exact fg_XX1_mendsAll_p102 _ hs_self2 _ hs_self42 _ _ _ _ _ _ (fun a i hh => hh.elim) _ ag_h
      · exact fg_XX1_mendsAll_p102 _ hs_self2 _ hs_self42 _ _ _ _ _ _ (fun a i hh => hh.elim) _ ag_h
theorem fg_XX1_mendsAll_L42 {W : Nat → Nat → Prop} {h0 : Hp} (self2 : Int → Int → Int → Hp → OR) (hs_self2 : ∀ (y0 y1 y2 : Int) (hh : Hp), Ag W h0 hh → Fr W h0 (self2 y0 y1 y2 hh)) (l1 : Int) (l2 : Int) (l3 : Int) (l4 : Int) (l6 : Int) (hW : ∀ a i : Nat, (False) → W a i) (h : Hp) (ag_h : Ag W h0 h) : Fr W h0 (XX1_mendsAll_L42 self2 l1 l2 l3 l4 l6 h) := by
  unfold XX1_mendsAll_L42
  exact Fr_lup5 (fun self hs z0 z1 z2 z3 z4 hh ag => fg_XX1_mendsAll_b42 self2 hs_self2 self hs z0 z1 z2 z3 z4 hW hh ag) FU _ _ _ _ _ _ ag_h
theorem fg_XX1_mendsAll_b2 {W : Nat → Nat → Prop} {h0 : Hp} (self2 : Int → Int → Int → Hp → OR) (hs_self2 : ∀ (y0 y1 y2 : Int) (hh : Hp), Ag W h0 hh → Fr W h0 (self2 y0 y1 y2 hh)) (l1 : Int) (l2 : Int) (l3 : Int) (hW : ∀ a i : Nat, (False) → W a i) (h : Hp) (ag_h : Ag W h0 h) : Fr W h0 (XX1_mendsAll_b2 self2 l1 l2 l3 h) := by
  unfold XX1_mendsAll_b2
  refine Fr_ite ?_ ?_
  · refine Fr_zb ?_
    exact Fr_some ag_h
  · refine Fr_inb ?_
    refine Fr_chk ?_
    refine Fr_chk ?_
    refine Fr_inb ?_
    refine Fr_nm (fun v1 => ?_)
    exact fg_XX1_mendsAll_L42 _ hs_self2 _ _ _ _ _ (fun a i hh => hh.elim) _ ag_h
theorem fg_XX1_mendsAll_L2 {W : Nat → Nat → Prop} {h0 : Hp} (l1 : Int) (l2 : Int) (l3 : Int) (hW : ∀ a i : Nat, (False) → W a i) (h : Hp) (ag_h : Ag W h0 h) : Fr W h0 (XX1_mendsAll_L2 l1 l2 l3 h) := by
  unfold XX1_mendsAll_L2
  exact Fr_lup3 (fun self hs z0 z1 z2 hh ag => fg_XX1_mendsAll_b2 self hs z0 z1 z2 hW hh ag) FU _ _ _ _ ag_h
theorem fg_XX1_mendsAll {W : Nat → Nat → Prop} {h0 : Hp} (x0 : Int) (x1 : Int) (hW : ∀ a i : Nat, (False) → W a i) (h : Hp) (ag_h : Ag W h0 h) : Fr W h0 (XX1_mendsAll x0 x1 h) := by
  unfold XX1_mendsAll
  exact fg_XX1_mendsAll_L2 _ _ _ (fun a i hh => hh.elim) _ ag_h
theorem fr_XX1_mendsAll {x0 : Int} {x1 : Int} {h : Hp} {r : Int} {h1 : Hp} (e : XX1_mendsAll x0 x1 h = some (r, h1)) (a i : Nat) (hn : ¬ (False)) : h1 a i = h a i := fg_XX1_mendsAll (W := fun a i => False) x0 x1 (fun _ _ hh => hh) h (fun _ _ _ => rfl) r h1 e a i hn
theorem fe_XX1_mendsAll {x0 : Int} {x1 : Int} {h : Hp} {r : Int} {h1 : Hp} (e : XX1_mendsAll x0 x1 h = some (r, h1)) : h1 = h := funext (fun a => funext (fun i => fr_XX1_mendsAll e a i (fun hh => hh)))
theorem fg_XX1_allow_p57 {W : Nat → Nat → Prop} {h0 : Hp} (self10 : Int → Hp → OR) (hs_self10 : ∀ (y0 : Int) (hh : Hp), Ag W h0 hh → Fr W h0 (self10 y0 hh)) (self24 : Int → Int → Int → Hp → OR) (hs_self24 : ∀ (y0 y1 y2 : Int) (hh : Hp), Ag W h0 hh → Fr W h0 (self24 y0 y1 y2 hh)) (l1 : Int) (l2 : Int) (l3 : Int) (hW : ∀ a i : Nat, (False) → W a i) (h : Hp) (ag_h : Ag W h0 h) : Fr W h0 (XX1_allow_p57 self10 self24 l1 l2 l3 h) := by
  unfold XX1_allow_p57
  refine Fr_chk ?_
  exact hs_self24 _ _ _ _ ag_h
theorem fg_XX1_allow_b24 {W : Nat → Nat → Prop} {h0 : Hp} (self10 : Int → Hp → OR) (hs_self10 : ∀ (y0 : Int) (hh : Hp), Ag W h0 hh → Fr W h0 (self10 y0 hh)) (self24 : Int → Int → Int → Hp → OR) (hs_self24 : ∀ (y0 y1 y2 : Int) (hh : Hp), Ag W h0 hh → Fr W h0 (self24 y0 y1 y2 hh)) (l1 : Int) (l2 : Int) (l3 : Int) (hW : ∀ a i : Nat, (a = 49) → W a i) (h : Hp) (ag_h : Ag W h0 h) : Fr W h0 (XX1_allow_b24 self10 self24 l1 l2 l3 h) := by
  unfold XX1_allow_b24
  refine Fr_ite ?_ ?_
  · refine Fr_ite ?_ ?_
    · refine Fr_zb ?_
      exact Fr_some ag_h
    · refine Fr_chk ?_
      exact hs_self10 _ _ ag_h
  · refine Fr_cal (fg_XX1_mendsAll _ _ (fun a i hh => hh.elim) _ ag_h) (fun r3 h4 ag_h4 => ?_)
    refine Fr_ite ?_ ?_
    · exact fg_XX1_allow_p57 _ hs_self10 _ hs_self24 _ _ _ (fun a i hh => hh.elim) _ ag_h4
    · refine Fr_inb ?_
      refine Fr_inb ?_
      refine Fr_wr ag_h4 (hW _ _ (by omega)) (fun h5 ag_h5 => ?_)
      exact fg_XX1_allow_p57 _ hs_self10 _ hs_self24 _ _ _ (fun a i hh => hh.elim) _ ag_h5
theorem fg_XX1_allow_L24 {W : Nat → Nat → Prop} {h0 : Hp} (self10 : Int → Hp → OR) (hs_self10 : ∀ (y0 : Int) (hh : Hp), Ag W h0 hh → Fr W h0 (self10 y0 hh)) (l1 : Int) (l2 : Int) (l3 : Int) (hW : ∀ a i : Nat, (a = 49) → W a i) (h : Hp) (ag_h : Ag W h0 h) : Fr W h0 (XX1_allow_L24 self10 l1 l2 l3 h) := by
  unfold XX1_allow_L24
  exact Fr_lup3 (fun self hs z0 z1 z2 hh ag => fg_XX1_allow_b24 self10 hs_self10 self hs z0 z1 z2 hW hh ag) FU _ _ _ _ ag_h
theorem fg_XX1_allow_b10 {W : Nat → Nat → Prop} {h0 : Hp} (self10 : Int → Hp → OR) (hs_self10 : ∀ (y0 : Int) (hh : Hp), Ag W h0 hh → Fr W h0 (self10 y0 hh)) (l1 : Int) (hW : ∀ a i : Nat, (a = 49) → W a i) (h : Hp) (ag_h : Ag W h0 h) : Fr W h0 (XX1_allow_b10 self10 l1 h) := by
  unfold XX1_allow_b10
  refine Fr_ite ?_ ?_
  · refine Fr_zb ?_
    exact Fr_some ag_h
  · exact fg_XX1_allow_L24 _ hs_self10 _ _ _ (fun a i hh => hW a i (by omega)) _ ag_h
theorem fg_XX1_allow_L10 {W : Nat → Nat → Prop} {h0 : Hp} (l1 : Int) (hW : ∀ a i : Nat, (a = 49) → W a i) (h : Hp) (ag_h : Ag W h0 h) : Fr W h0 (XX1_allow_L10 l1 h) := by
  unfold XX1_allow_L10
  exact Fr_lup1 (fun self hs z0 hh ag => fg_XX1_allow_b10 self hs z0 hW hh ag) FU _ _ ag_h
theorem fg_XX1_allow {W : Nat → Nat → Prop} {h0 : Hp} (hW : ∀ a i : Nat, (a = 49) → W a i) (h : Hp) (ag_h : Ag W h0 h) : Fr W h0 (XX1_allow  h) := by
  unfold XX1_allow
  refine Fr_cal (fg_XJ7_fill_53178 _ _ _ (fun a i hh => hW a i (by omega)) _ ag_h) (fun r1 h2 ag_h2 => ?_)
  exact fg_XX1_allow_L10 _ (fun a i hh => hW a i (by omega)) _ ag_h2
theorem fr_XX1_allow {h : Hp} {r : Int} {h1 : Hp} (e : XX1_allow  h = some (r, h1)) (a i : Nat) (hn : ¬ (a = 49)) : h1 a i = h a i := fg_XX1_allow (W := fun a i => a = 49)  (fun _ _ hh => hh) h (fun _ _ _ => rfl) r h1 e a i hn
theorem fg_XX1_patternOf_b4 {W : Nat → Nat → Prop} {h0 : Hp} (self4 : Int → Int → Int → Hp → OR) (hs_self4 : ∀ (y0 y1 y2 : Int) (hh : Hp), Ag W h0 hh → Fr W h0 (self4 y0 y1 y2 hh)) (l1 : Int) (l2 : Int) (l3 : Int) (hW : ∀ a i : Nat, (False) → W a i) (h : Hp) (ag_h : Ag W h0 h) : Fr W h0 (XX1_patternOf_b4 self4 l1 l2 l3 h) := by
  unfold XX1_patternOf_b4
  refine Fr_ite ?_ ?_
  · exact Fr_some ag_h
  · refine Fr_inb ?_
    refine Fr_chk ?_
    refine Fr_chk ?_
    refine Fr_chk ?_
    refine Fr_inb ?_
    refine Fr_nm (fun v1 => ?_)
    refine Fr_chk ?_
    refine Fr_nm (fun v2 => ?_)
    refine Fr_chk ?_
    exact hs_self4 _ _ _ _ ag_h
theorem fg_XX1_patternOf_L4 {W : Nat → Nat → Prop} {h0 : Hp} (l1 : Int) (l2 : Int) (l3 : Int) (hW : ∀ a i : Nat, (False) → W a i) (h : Hp) (ag_h : Ag W h0 h) : Fr W h0 (XX1_patternOf_L4 l1 l2 l3 h) := by
  unfold XX1_patternOf_L4
  exact Fr_lup3 (fun self hs z0 z1 z2 hh ag => fg_XX1_patternOf_b4 self hs z0 z1 z2 hW hh ag) FU _ _ _ _ ag_h
theorem fg_XX1_patternOf {W : Nat → Nat → Prop} {h0 : Hp} (x0 : Int) (hW : ∀ a i : Nat, (False) → W a i) (h : Hp) (ag_h : Ag W h0 h) : Fr W h0 (XX1_patternOf x0 h) := by
  unfold XX1_patternOf
  exact fg_XX1_patternOf_L4 _ _ _ (fun a i hh => hh.elim) _ ag_h
theorem fr_XX1_patternOf {x0 : Int} {h : Hp} {r : Int} {h1 : Hp} (e : XX1_patternOf x0 h = some (r, h1)) (a i : Nat) (hn : ¬ (False)) : h1 a i = h a i := fg_XX1_patternOf (W := fun a i => False) x0 (fun _ _ hh => hh) h (fun _ _ _ => rfl) r h1 e a i hn
theorem fe_XX1_patternOf {x0 : Int} {h : Hp} {r : Int} {h1 : Hp} (e : XX1_patternOf x0 h = some (r, h1)) : h1 = h := funext (fun a => funext (fun i => fr_XX1_patternOf e a i (fun hh => hh)))
theorem fg_XX1_mendingSet_b4 {W : Nat → Nat → Prop} {h0 : Hp} (self4 : Int → Int → Int → Hp → OR) (hs_self4 : ∀ (y0 y1 y2 : Int) (hh : Hp), Ag W h0 hh → Fr W h0 (self4 y0 y1 y2 hh)) (l1 : Int) (l2 : Int) (l3 : Int) (hW : ∀ a i : Nat, (False) → W a i) (h : Hp) (ag_h : Ag W h0 h) : Fr W h0 (XX1_mendingSet_b4 self4 l1 l2 l3 h) := by
  unfold XX1_mendingSet_b4
  refine Fr_ite ?_ ?_
  · exact Fr_some ag_h
  · refine Fr_chk ?_
    refine Fr_chk ?_
    refine Fr_chk ?_
    refine Fr_inb ?_
    refine Fr_chk ?_
    refine Fr_nm (fun v1 => ?_)
    refine Fr_chk ?_
    exact hs_self4 _ _ _ _ ag_h
theorem fg_XX1_mendingSet_L4 {W : Nat → Nat → Prop} {h0 : Hp} (l1 : Int) (l2 : Int) (l3 : Int) (hW : ∀ a i : Nat, (False) → W a i) (h : Hp) (ag_h : Ag W h0 h) : Fr W h0 (XX1_mendingSet_L4 l1 l2 l3 h) := by
  unfold XX1_mendingSet_L4
  exact Fr_lup3 (fun self hs z0 z1 z2 hh ag => fg_XX1_mendingSet_b4 self hs z0 z1 z2 hW hh ag) FU _ _ _ _ ag_h
theorem fg_XX1_mendingSet {W : Nat → Nat → Prop} {h0 : Hp} (x0 : Int) (hW : ∀ a i : Nat, (False) → W a i) (h : Hp) (ag_h : Ag W h0 h) : Fr W h0 (XX1_mendingSet x0 h) := by
  unfold XX1_mendingSet
  exact fg_XX1_mendingSet_L4 _ _ _ (fun a i hh => hh.elim) _ ag_h
theorem fr_XX1_mendingSet {x0 : Int} {h : Hp} {r : Int} {h1 : Hp} (e : XX1_mendingSet x0 h = some (r, h1)) (a i : Nat) (hn : ¬ (False)) : h1 a i = h a i := fg_XX1_mendingSet (W := fun a i => False) x0 (fun _ _ hh => hh) h (fun _ _ _ => rfl) r h1 e a i hn
theorem fe_XX1_mendingSet {x0 : Int} {h : Hp} {r : Int} {h1 : Hp} (e : XX1_mendingSet x0 h = some (r, h1)) : h1 = h := funext (fun a => funext (fun i => fr_XX1_mendingSet e a i (fun hh => hh)))
theorem fg_XX1_findClash_p111 {W : Nat → Nat → Prop} {h0 : Hp} (self27 : Int → Hp → OR) (hs_self27 : ∀ (y0 : Int) (hh : Hp), Ag W h0 hh → Fr W h0 (self27 y0 hh)) (l1 : Int) (hW : ∀ a i : Nat, (False) → W a i) (h : Hp) (ag_h : Ag W h0 h) : Fr W h0 (XX1_findClash_p111 self27 l1 h) := by
  unfold XX1_findClash_p111
  refine Fr_chk ?_
  exact hs_self27 _ _ ag_h
theorem fg_XX1_findClash_p72 {W : Nat → Nat → Prop} {h0 : Hp} (self27 : Int → Hp → OR) (hs_self27 : ∀ (y0 : Int) (hh : Hp), Ag W h0 hh → Fr W h0 (self27 y0 hh)) (l1 : Int) (l2 : Int) (hW : ∀ a i : Nat, (a = 50 ∨ (a = 45 ∧ 12 ≤ i ∧ i ≤ 13)) → W a i) (h : Hp) (ag_h : Ag W h0 h) : Fr W h0 (XX1_findClash_p72 self27 l1 l2 h) := by
  unfold XX1_findClash_p72
  refine Fr_inb ?_
  refine Fr_cal (fg_XX1_mendingSet _ (fun a i hh => hh.elim) _ ag_h) (fun r9 h10 ag_h10 => ?_)
  refine Fr_inb ?_
  refine Fr_wr ag_h10 (hW _ _ (Or.inl (by omega))) (fun h11 ag_h11 => ?_)
  refine Fr_inb ?_
  refine Fr_ite ?_ ?_
  · refine Fr_inb ?_
    refine Fr_wr ag_h11 (hW _ _ (Or.inr (by omega))) (fun h12 ag_h12 => ?_)
    refine Fr_wr ag_h12 (hW _ _ (Or.inr (by omega))) (fun h13 ag_h13 => ?_)
    exact Fr_some ag_h13
  · exact fg_XX1_findClash_p111 _ hs_self27 _ (fun a i hh => hh.elim) _ ag_h11
theorem fg_XX1_findClash_b27 {W : Nat → Nat → Prop} {h0 : Hp} (self27 : Int → Hp → OR) (hs_self27 : ∀ (y0 : Int) (hh : Hp), Ag W h0 hh → Fr W h0 (self27 y0 hh)) (l1 : Int) (hW : ∀ a i : Nat, ((50 ≤ a ∧ a ≤ 51) ∨ (a = 45 ∧ 12 ≤ i ∧ i ≤ 13)) → W a i) (h : Hp) (ag_h : Ag W h0 h) : Fr W h0 (XX1_findClash_b27 self27 l1 h) := by
  unfold XX1_findClash_b27
  refine Fr_ite ?_ ?_
  · exact Fr_some ag_h
  · refine Fr_cal (fg_XX0_isLive _ (fun a i hh => hh.elim) _ ag_h) (fun r5 h6 ag_h6 => ?_)
    refine Fr_ite ?_ ?_
    · exact fg_XX1_findClash_p111 _ hs_self27 _ (fun a i hh => hh.elim) _ ag_h6
    · refine Fr_cal (fg_XX1_patternOf _ (fun a i hh => hh.elim) _ ag_h6) (fun r7 h8 ag_h8 => ?_)
      refine Fr_inb ?_
      refine Fr_ite ?_ ?_
      · refine Fr_inb ?_
        refine Fr_wr ag_h8 (hW _ _ (Or.inl (by omega))) (fun h14 ag_h14 => ?_)
        exact fg_XX1_findClash_p72 _ hs_self27 _ _ (fun a i hh => hW a i ((fun q => q.elim (fun q => Or.inl (by omega)) (fun q => Or.inr (by omega))) hh)) _ ag_h14
      · exact fg_XX1_findClash_p72 _ hs_self27 _ _ (fun a i hh => hW a i ((fun q => q.elim (fun q => Or.inl (by omega)) (fun q => Or.inr (by omega))) hh)) _ ag_h8
theorem fg_XX1_findClash_L27 {W : Nat → Nat → Prop} {h0 : Hp} (l1 : Int) (hW : ∀ a i : Nat, ((50 ≤ a ∧ a ≤ 51) ∨ (a = 45 ∧ 12 ≤ i ∧ i ≤ 13)) → W a i) (h : Hp) (ag_h : Ag W h0 h) : Fr W h0 (XX1_findClash_L27 l1 h) := by
  unfold XX1_findClash_L27
  exact Fr_lup1 (fun self hs z0 hh ag => fg_XX1_findClash_b27 self hs z0 hW hh ag) FU _ _ ag_h
theorem fg_XX1_findClash {W : Nat → Nat → Prop} {h0 : Hp} (hW : ∀ a i : Nat, ((50 ≤ a ∧ a ≤ 51) ∨ (a = 45 ∧ 12 ≤ i ∧ i ≤ 13)) → W a i) (h : Hp) (ag_h : Ag W h0 h) : Fr W h0 (XX1_findClash  h) := by
  unfold XX1_findClash
  refine Fr_chk ?_
  refine Fr_cal (fg_XJ7_fill_53178 _ _ _ (fun a i hh => hW a i (Or.inl (by omega))) _ ag_h) (fun r1 h2 ag_h2 => ?_)
  refine Fr_cal (fg_XJ7_fill_53178 _ _ _ (fun a i hh => hW a i (Or.inl (by omega))) _ ag_h2) (fun r3 h4 ag_h4 => ?_)
  exact fg_XX1_findClash_L27 _ (fun a i hh => hW a i ((fun q => q.elim (fun q => Or.inl (by omega)) (fun q => Or.inr (by omega))) hh)) _ ag_h4
theorem fr_XX1_findClash {h : Hp} {r : Int} {h1 : Hp} (e : XX1_findClash  h = some (r, h1)) (a i : Nat) (hn : ¬ ((50 ≤ a ∧ a ≤ 51) ∨ (a = 45 ∧ 12 ≤ i ∧ i ≤ 13))) : h1 a i = h a i := fg_XX1_findClash (W := fun a i => (50 ≤ a ∧ a ≤ 51) ∨ (a = 45 ∧ 12 ≤ i ∧ i ≤ 13))  (fun _ _ hh => hh) h (fun _ _ _ => rfl) r h1 e a i hn
theorem fg_XX1_cheapest_p60 {W : Nat → Nat → Prop} {h0 : Hp} (self8 : Int → Int → Int → Int → Int → Hp → OR) (hs_self8 : ∀ (y0 y1 y2 y3 y4 : Int) (hh : Hp), Ag W h0 hh → Fr W h0 (self8 y0 y1 y2 y3 y4 hh)) (l1 : Int) (l2 : Int) (l3 : Int) (l4 : Int) (l5 : Int) (hW : ∀ a i : Nat, (False) → W a i) (h : Hp) (ag_h : Ag W h0 h) : Fr W h0 (XX1_cheapest_p60 self8 l1 l2 l3 l4 l5 h) := by
  unfold XX1_cheapest_p60
  refine Fr_chk ?_
  exact hs_self8 _ _ _ _ _ _ ag_h
theorem fg_XX1_cheapest_b8 {W : Nat → Nat → Prop} {h0 : Hp} (self8 : Int → Int → Int → Int → Int → Hp → OR) (hs_self8 : ∀ (y0 y1 y2 y3 y4 : Int) (hh : Hp), Ag W h0 hh → Fr W h0 (self8 y0 y1 y2 y3 y4 hh)) (l1 : Int) (l2 : Int) (l3 : Int) (l4 : Int) (l5 : Int) (hW : ∀ a i : Nat, (False) → W a i) (h : Hp) (ag_h : Ag W h0 h) : Fr W h0 (XX1_cheapest_b8 self8 l1 l2 l3 l4 l5 h) := by
  unfold XX1_cheapest_b8
  refine Fr_cal (fg_XX2_ones _ (fun a i hh => hh.elim) _ ag_h) (fun r1 h2 ag_h2 => ?_)
  refine Fr_ite ?_ ?_
  · exact Fr_some ag_h2
  · refine Fr_ite ?_ ?_
    · refine Fr_ite ?_ ?_
      · refine Fr_cal (fg_XX2_price _ _ (fun a i hh => hh.elim) _ ag_h2) (fun r3 h4 ag_h4 => ?_)
        refine Fr_ite ?_ ?_
        · exact fg_XX1_cheapest_p60 _ hs_self8 _ _ _ _ _ (fun a i hh => hh.elim) _ ag_h4
        · exact fg_XX1_cheapest_p60 _ hs_self8 _ _ _ _ _ (fun a i hh => hh.elim) _ ag_h4
      · exact fg_XX1_cheapest_p60 _ hs_self8 _ _ _ _ _ (fun a i hh => hh.elim) _ ag_h2
    · exact fg_XX1_cheapest_p60 _ hs_self8 _ _ _ _ _ (fun a i hh => hh.elim) _ ag_h2
theorem fg_XX1_cheapest_L8 {W : Nat → Nat → Prop} {h0 : Hp} (l1 : Int) (l2 : Int) (l3 : Int) (l4 : Int) (l5 : Int) (hW : ∀ a i : Nat, (False) → W a i) (h : Hp) (ag_h : Ag W h0 h) : Fr W h0 (XX1_cheapest_L8 l1 l2 l3 l4 l5 h) := by
  unfold XX1_cheapest_L8
  exact Fr_lup5 (fun self hs z0 z1 z2 z3 z4 hh ag => fg_XX1_cheapest_b8 self hs z0 z1 z2 z3 z4 hW hh ag) FU _ _ _ _ _ _ ag_h
theorem fg_XX1_cheapest {W : Nat → Nat → Prop} {h0 : Hp} (x0 : Int) (x1 : Int) (hW : ∀ a i : Nat, (False) → W a i) (h : Hp) (ag_h : Ag W h0 h) : Fr W h0 (XX1_cheapest x0 x1 h) := by
  unfold XX1_cheapest
  exact fg_XX1_cheapest_L8 _ _ _ _ _ (fun a i hh => hh.elim) _ ag_h
theorem fr_XX1_cheapest {x0 : Int} {x1 : Int} {h : Hp} {r : Int} {h1 : Hp} (e : XX1_cheapest x0 x1 h = some (r, h1)) (a i : Nat) (hn : ¬ (False)) : h1 a i = h a i := fg_XX1_cheapest (W := fun a i => False) x0 x1 (fun _ _ hh => hh) h (fun _ _ _ => rfl) r h1 e a i hn
theorem fe_XX1_cheapest {x0 : Int} {x1 : Int} {h : Hp} {r : Int} {h1 : Hp} (e : XX1_cheapest x0 x1 h = some (r, h1)) : h1 = h := funext (fun a => funext (fun i => fr_XX1_cheapest e a i (fun hh => hh)))
theorem fg_XX1_choose_p216 {W : Nat → Nat → Prop} {h0 : Hp} (self79 : Int → Int → Hp → OR) (hs_self79 : ∀ (y0 y1 : Int) (hh : Hp), Ag W h0 hh → Fr W h0 (self79 y0 y1 hh)) (l1 : Int) (l2 : Int) (hW : ∀ a i : Nat, (False) → W a i) (h : Hp) (ag_h : Ag W h0 h) : Fr W h0 (XX1_choose_p216 self79 l1 l2 h) := by
  unfold XX1_choose_p216
  refine Fr_chk ?_
  exact hs_self79 _ _ _ ag_h
theorem fg_XX1_choose_b79 {W : Nat → Nat → Prop} {h0 : Hp} (self79 : Int → Int → Hp → OR) (hs_self79 : ∀ (y0 y1 : Int) (hh : Hp), Ag W h0 hh → Fr W h0 (self79 y0 y1 hh)) (l1 : Int) (l2 : Int) (hW : ∀ a i : Nat, (a = 52 ∨ (a = 45 ∧ i = 11)) → W a i) (h : Hp) (ag_h : Ag W h0 h) : Fr W h0 (XX1_choose_b79 self79 l1 l2 h) := by
  unfold XX1_choose_b79
  refine Fr_ite ?_ ?_
  · exact Fr_some ag_h
  · refine Fr_cal (fg_XX2_price _ _ (fun a i hh => hh.elim) _ ag_h) (fun r4 h5 ag_h5 => ?_)
    refine Fr_inb ?_
    refine Fr_inb ?_
    refine Fr_nm (fun v6 => ?_)
    refine Fr_inb ?_
    refine Fr_inb ?_
    refine Fr_nm (fun v7 => ?_)
    refine Fr_ite ?_ ?_
    · exact fg_XX1_choose_p216 _ hs_self79 _ _ (fun a i hh => hh.elim) _ ag_h5
    · refine Fr_ite ?_ ?_
      · refine Fr_cal (fg_XX1_cheapest _ _ (fun a i hh => hh.elim) _ ag_h5) (fun r8 h9 ag_h9 => ?_)
        refine Fr_cal (fg_XX2_price _ _ (fun a i hh => hh.elim) _ ag_h9) (fun r10 h11 ag_h11 => ?_)
        refine Fr_chk ?_
        refine Fr_nm (fun v12 => ?_)
        refine Fr_ite ?_ ?_
        · exact fg_XX1_choose_p216 _ hs_self79 _ _ (fun a i hh => hh.elim) _ ag_h11
        · refine Fr_wr ag_h11 (hW _ _ (Or.inr (by omega))) (fun h13 ag_h13 => ?_)
          refine Fr_inb ?_
          refine Fr_wr ag_h13 (hW _ _ (Or.inl (by omega))) (fun h14 ag_h14 => ?_)
          refine Fr_inb ?_
          refine Fr_wr ag_h14 (hW _ _ (Or.inl (by omega))) (fun h15 ag_h15 => ?_)
          exact fg_XX1_choose_p216 _ hs_self79 _ _ (fun a i hh => hh.elim) _ ag_h15
      · exact fg_XX1_choose_p216 _ hs_self79 _ _ (fun a i hh => hh.elim) _ ag_h5
theorem fg_XX1_choose_L79 {W : Nat → Nat → Prop} {h0 : Hp} (l1 : Int) (l2 : Int) (hW : ∀ a i : Nat, (a = 52 ∨ (a = 45 ∧ i = 11)) → W a i) (h : Hp) (ag_h : Ag W h0 h) : Fr W h0 (XX1_choose_L79 l1 l2 h) := by
  unfold XX1_choose_L79
  exact Fr_lup2 (fun self hs z0 z1 hh ag => fg_XX1_choose_b79 self hs z0 z1 hW hh ag) FU _ _ _ ag_h
theorem fg_XX1_choose {W : Nat → Nat → Prop} {h0 : Hp} (hW : ∀ a i : Nat, (a = 52 ∨ (a = 45 ∧ i = 11)) → W a i) (h : Hp) (ag_h : Ag W h0 h) : Fr W h0 (XX1_choose  h) := by
  unfold XX1_choose
  refine Fr_cal (fg_XX2_ones _ (fun a i hh => hh.elim) _ ag_h) (fun r1 h2 ag_h2 => ?_)
  refine Fr_ite ?_ ?_
  · refine Fr_inb ?_
    refine Fr_inb ?_
    refine Fr_cal (fg_XX1_cheapest _ _ (fun a i hh => hh.elim) _ ag_h2) (fun r16 h17 ag_h17 => ?_)
    refine Fr_inb ?_
    refine Fr_wr ag_h17 (hW _ _ (Or.inl (by omega))) (fun h18 ag_h18 => ?_)
    refine Fr_inb ?_
    refine Fr_wr ag_h18 (hW _ _ (Or.inl (by omega))) (fun h19 ag_h19 => ?_)
    refine Fr_inb ?_
    refine Fr_cal (fg_XX2_price _ _ (fun a i hh => hh.elim) _ ag_h19) (fun r20 h21 ag_h21 => ?_)
    refine Fr_wr ag_h21 (hW _ _ (Or.inr (by omega))) (fun h22 ag_h22 => ?_)
    exact Fr_some ag_h22
  · refine Fr_wr ag_h2 (hW _ _ (Or.inr (by omega))) (fun h3 ag_h3 => ?_)
    exact fg_XX1_choose_L79 _ _ (fun a i hh => hW a i ((fun q => q.elim (fun q => Or.inl (by omega)) (fun q => Or.inr (by omega))) hh)) _ ag_h3
theorem fr_XX1_choose {h : Hp} {r : Int} {h1 : Hp} (e : XX1_choose  h = some (r, h1)) (a i : Nat) (hn : ¬ (a = 52 ∨ (a = 45 ∧ i = 11))) : h1 a i = h a i := fg_XX1_choose (W := fun a i => a = 52 ∨ (a = 45 ∧ i = 11))  (fun _ _ hh => hh) h (fun _ _ _ => rfl) r h1 e a i hn
theorem fg_XX3_start {W : Nat → Nat → Prop} {h0 : Hp} (hW : ∀ a i : Nat, ((a = 72 ∧ i = 2) ∨ (a = 72 ∧ i = 4) ∨ (a = 72 ∧ i = 6)) → W a i) (h : Hp) (ag_h : Ag W h0 h) : Fr W h0 (XX3_start  h) := by
  unfold XX3_start
  refine Fr_wr ag_h (hW _ _ (Or.inl (by omega))) (fun h1 ag_h1 => ?_)
  refine Fr_wr ag_h1 (hW _ _ (Or.inr (Or.inl (by omega)))) (fun h2 ag_h2 => ?_)
  refine Fr_wr ag_h2 (hW _ _ (Or.inr (Or.inr (by omega)))) (fun h3 ag_h3 => ?_)
  exact Fr_some ag_h3
theorem fr_XX3_start {h : Hp} {r : Int} {h1 : Hp} (e : XX3_start  h = some (r, h1)) (a i : Nat) (hn : ¬ ((a = 72 ∧ i = 2) ∨ (a = 72 ∧ i = 4) ∨ (a = 72 ∧ i = 6))) : h1 a i = h a i := fg_XX3_start (W := fun a i => (a = 72 ∧ i = 2) ∨ (a = 72 ∧ i = 4) ∨ (a = 72 ∧ i = 6))  (fun _ _ hh => hh) h (fun _ _ _ => rfl) r h1 e a i hn
theorem fg_XX3_forgetOldest_b9 {W : Nat → Nat → Prop} {h0 : Hp} (a1 : Nat) (self9 : Int → Hp → OR) (hs_self9 : ∀ (y0 : Int) (hh : Hp), Ag W h0 hh → Fr W h0 (self9 y0 hh)) (l2 : Int) (hW : ∀ a i : Nat, ((73 ≤ a ∧ a ≤ 74) ∨ (a = 72 ∧ i = 2)) → W a i) (h : Hp) (ag_h : Ag W h0 h) : Fr W h0 (XX3_forgetOldest_b9 a1 self9 l2 h) := by
  unfold XX3_forgetOldest_b9
  refine Fr_ite ?_ ?_
  · refine Fr_inb ?_
    refine Fr_wr ag_h (hW _ _ (Or.inl (by omega))) (fun h3 ag_h3 => ?_)
    refine Fr_wr ag_h3 (hW _ _ (Or.inr (by omega))) (fun h4 ag_h4 => ?_)
    exact Fr_some ag_h4
  · refine Fr_chk ?_
    refine Fr_inb ?_
    refine Fr_nmP (fun u5 => ?_)
    refine Fr_asr (fun ha1 => ?_)
    refine Fr_inb ?_
    refine Fr_wr ag_h (hW _ _ (Or.inl (by omega))) (fun h7 ag_h7 => ?_)
    refine Fr_chk ?_
    refine Fr_inb ?_
    refine Fr_inb ?_
    refine Fr_wr ag_h7 (hW _ _ (Or.inl (by omega))) (fun h8 ag_h8 => ?_)
    refine Fr_chk ?_
    exact hs_self9 _ _ ag_h8
theorem fg_XX3_forgetOldest_L9 {W : Nat → Nat → Prop} {h0 : Hp} (a1 : Nat) (l2 : Int) (hW : ∀ a i : Nat, ((73 ≤ a ∧ a ≤ 74) ∨ (a = 72 ∧ i = 2)) → W a i) (h : Hp) (ag_h : Ag W h0 h) : Fr W h0 (XX3_forgetOldest_L9 a1 l2 h) := by
  unfold XX3_forgetOldest_L9
  exact Fr_lup1 (fun self hs z0 hh ag => fg_XX3_forgetOldest_b9 a1 self hs z0 hW hh ag) FU _ _ ag_h
theorem fg_XX3_forgetOldest {W : Nat → Nat → Prop} {h0 : Hp} (hW : ∀ a i : Nat, ((73 ≤ a ∧ a ≤ 74) ∨ (a = 72 ∧ i = 2)) → W a i) (h : Hp) (ag_h : Ag W h0 h) : Fr W h0 (XX3_forgetOldest  h) := by
  unfold XX3_forgetOldest
  refine Fr_inb ?_
  refine Fr_nmP (fun u1 => ?_)
  refine Fr_asr (fun ha1 => ?_)
  exact fg_XX3_forgetOldest_L9 _ _ (fun a i hh => hW a i ((fun q => q.elim (fun q => Or.inl (by omega)) (fun q => Or.inr (by omega))) hh)) _ ag_h
theorem fr_XX3_forgetOldest {h : Hp} {r : Int} {h1 : Hp} (e : XX3_forgetOldest  h = some (r, h1)) (a i : Nat) (hn : ¬ ((73 ≤ a ∧ a ≤ 74) ∨ (a = 72 ∧ i = 2))) : h1 a i = h a i := fg_XX3_forgetOldest (W := fun a i => (73 ≤ a ∧ a ≤ 74) ∨ (a = 72 ∧ i = 2))  (fun _ _ hh => hh) h (fun _ _ _ => rfl) r h1 e a i hn
theorem fg_XX3_open_b55 {W : Nat → Nat → Prop} {h0 : Hp} (a1 : Nat) (self55 : Int → Hp → OR) (hs_self55 : ∀ (y0 : Int) (hh : Hp), Ag W h0 hh → Fr W h0 (self55 y0 hh)) (l3 : Int) (hW : ∀ a i : Nat, (a = 77) → W a i) (h : Hp) (ag_h : Ag W h0 h) : Fr W h0 (XX3_open_b55 a1 self55 l3 h) := by
  unfold XX3_open_b55
  refine Fr_cal (fg_XX8_seenCount _ (fun a i hh => hh.elim) _ ag_h) (fun r8 h9 ag_h9 => ?_)
  refine Fr_ite ?_ ?_
  · exact Fr_some ag_h9
  · refine Fr_inb ?_
    refine Fr_chk ?_
    refine Fr_chk ?_
    refine Fr_acp ?_
    refine Fr_cpy ag_h9 (fun q => hW _ _ (by omega)) (fun h10 ag_h10 => ?_)
    refine Fr_chk ?_
    exact hs_self55 _ _ ag_h10
theorem fg_XX3_open_L55 {W : Nat → Nat → Prop} {h0 : Hp} (a1 : Nat) (l3 : Int) (hW : ∀ a i : Nat, (a = 77) → W a i) (h : Hp) (ag_h : Ag W h0 h) : Fr W h0 (XX3_open_L55 a1 l3 h) := by
  unfold XX3_open_L55
  exact Fr_lup1 (fun self hs z0 hh ag => fg_XX3_open_b55 a1 self hs z0 hW hh ag) FU _ _ ag_h
theorem fg_XX3_open_p12 {W : Nat → Nat → Prop} {h0 : Hp} (a1 : Nat) (l2 : Int) (hW : ∀ a i : Nat, ((78 ≤ a ∧ a ≤ 97) ∨ a = 74 ∨ a = 77 ∨ (a = 72 ∧ i = 2) ∨ (a = 72 ∧ i = 4)) → W a i) (h : Hp) (ag_h : Ag W h0 h) : Fr W h0 (XX3_open_p12 a1 l2 h) := by
  unfold XX3_open_p12
  refine Fr_inb ?_
  refine Fr_nmP (fun u1 => ?_)
  refine Fr_asr (fun ha1 => ?_)
  refine Fr_cal (fg_XX8_take _ _ (fun a i hh => hW a i ((fun q => q.elim (fun q => Or.inl (by omega)) (fun q => q.elim (fun q => Or.inl (by omega)) (fun q => q.elim (fun q => Or.inl (by omega)) (fun q => q.elim (fun q => Or.inl (by omega)) (fun q => Or.inl (by omega)))))) hh)) _ ag_h) (fun r3 h4 ag_h4 => ?_)
  refine Fr_inb ?_
  refine Fr_wr ag_h4 (hW _ _ (Or.inr (Or.inl (by omega)))) (fun h5 ag_h5 => ?_)
  refine Fr_chk ?_
  refine Fr_wr ag_h5 (hW _ _ (Or.inr (Or.inr (Or.inr (Or.inl (by omega)))))) (fun h6 ag_h6 => ?_)
  refine Fr_wr ag_h6 (hW _ _ (Or.inr (Or.inr (Or.inr (Or.inr (by omega)))))) (fun h7 ag_h7 => ?_)
  exact fg_XX3_open_L55 _ _ (fun a i hh => hW a i (Or.inr (Or.inr (Or.inl (by omega))))) _ ag_h7
theorem fg_XX3_open {W : Nat → Nat → Prop} {h0 : Hp} (x0 : Nat) (x1 : Int) (hW : ∀ a i : Nat, ((78 ≤ a ∧ a ≤ 97) ∨ (73 ≤ a ∧ a ≤ 74) ∨ a = 77 ∨ (a = 72 ∧ i = 2) ∨ (a = 72 ∧ i = 4)) → W a i) (h : Hp) (ag_h : Ag W h0 h) : Fr W h0 (XX3_open x0 x1 h) := by
  unfold XX3_open
  refine Fr_ite ?_ ?_
  · exact fg_XX3_open_p12 _ _ (fun a i hh => hW a i ((fun q => q.elim (fun q => Or.inl (by omega)) (fun q => q.elim (fun q => Or.inr (Or.inl (by omega))) (fun q => q.elim (fun q => Or.inr (Or.inr (Or.inl (by omega)))) (fun q => q.elim (fun q => Or.inr (Or.inr (Or.inr (Or.inl (by omega))))) (fun q => Or.inr (Or.inr (Or.inr (Or.inr (by omega))))))))) hh)) _ ag_h
  · refine Fr_cal (fg_XX3_forgetOldest (fun a i hh => hW a i ((fun q => q.elim (fun q => Or.inr (Or.inl (by omega))) (fun q => Or.inr (Or.inr (Or.inr (Or.inl (by omega)))))) hh)) _ ag_h) (fun r11 h12 ag_h12 => ?_)
    exact fg_XX3_open_p12 _ _ (fun a i hh => hW a i ((fun q => q.elim (fun q => Or.inl (by omega)) (fun q => q.elim (fun q => Or.inr (Or.inl (by omega))) (fun q => q.elim (fun q => Or.inr (Or.inr (Or.inl (by omega)))) (fun q => q.elim (fun q => Or.inr (Or.inr (Or.inr (Or.inl (by omega))))) (fun q => Or.inr (Or.inr (Or.inr (Or.inr (by omega))))))))) hh)) _ ag_h12
theorem fr_XX3_open {x0 : Nat} {x1 : Int} {h : Hp} {r : Int} {h1 : Hp} (e : XX3_open x0 x1 h = some (r, h1)) (a i : Nat) (hn : ¬ ((78 ≤ a ∧ a ≤ 97) ∨ (73 ≤ a ∧ a ≤ 74) ∨ a = 77 ∨ (a = 72 ∧ i = 2) ∨ (a = 72 ∧ i = 4))) : h1 a i = h a i := fg_XX3_open (W := fun a i => (78 ≤ a ∧ a ≤ 97) ∨ (73 ≤ a ∧ a ≤ 74) ∨ a = 77 ∨ (a = 72 ∧ i = 2) ∨ (a = 72 ∧ i = 4)) x0 x1 (fun _ _ hh => hh) h (fun _ _ _ => rfl) r h1 e a i hn
theorem fg_XX3_takeBack {W : Nat → Nat → Prop} {h0 : Hp} (x0 : Nat) (hW : ∀ a i : Nat, ((a = 72 ∧ i = 2) ∨ (a = x0 ∧ 0 ≤ i ∧ i ≤ 3) ∨ a = x0 + 1 ∨ a = x0 + 2 ∨ a = x0 + 3 ∨ a = x0 + 4) → W a i) (h : Hp) (ag_h : Ag W h0 h) : Fr W h0 (XX3_takeBack x0 h) := by
  unfold XX3_takeBack
  refine Fr_chk ?_
  refine Fr_wr ag_h (hW _ _ (Or.inl (by omega))) (fun h1 ag_h1 => ?_)
  refine Fr_inb ?_
  refine Fr_nmP (fun u2 => ?_)
  refine Fr_asr (fun ha1 => ?_)
  refine Fr_cal (fg_XX8_take _ _ (fun a i hh => hW a i ((fun q => q.elim (fun q => Or.inr (Or.inl (by omega))) (fun q => q.elim (fun q => Or.inr (Or.inr (Or.inl (by omega)))) (fun q => q.elim (fun q => Or.inr (Or.inr (Or.inr (Or.inl (by omega))))) (fun q => q.elim (fun q => Or.inr (Or.inr (Or.inr (Or.inr (Or.inl (by omega)))))) (fun q => Or.inr (Or.inr (Or.inr (Or.inr (Or.inr (by omega)))))))))) hh)) _ ag_h1) (fun r4 h5 ag_h5 => ?_)
  refine Fr_inb ?_
  exact Fr_some ag_h5
theorem fr_XX3_takeBack {x0 : Nat} {h : Hp} {r : Int} {h1 : Hp} (e : XX3_takeBack x0 h = some (r, h1)) (a i : Nat) (hn : ¬ ((a = 72 ∧ i = 2) ∨ (a = x0 ∧ 0 ≤ i ∧ i ≤ 3) ∨ a = x0 + 1 ∨ a = x0 + 2 ∨ a = x0 + 3 ∨ a = x0 + 4)) : h1 a i = h a i := fg_XX3_takeBack (W := fun a i => (a = 72 ∧ i = 2) ∨ (a = x0 ∧ 0 ≤ i ∧ i ≤ 3) ∨ a = x0 + 1 ∨ a = x0 + 2 ∨ a = x0 + 3 ∨ a = x0 + 4) x0 (fun _ _ hh => hh) h (fun _ _ _ => rfl) r h1 e a i hn
theorem fg_XX3_note {W : Nat → Nat → Prop} {h0 : Hp} (x0 : Int) (x1 : Int) (x2 : Int) (hW : ∀ a i : Nat, (a = 75 ∨ (a = 72 ∧ i = 4)) → W a i) (h : Hp) (ag_h : Ag W h0 h) : Fr W h0 (XX3_note x0 x1 x2 h) := by
  unfold XX3_note
  refine Fr_chk ?_
  refine Fr_chk ?_
  refine Fr_ite ?_ ?_
  · exact Fr_some ag_h
  · refine Fr_chk ?_
    refine Fr_inb ?_
    refine Fr_wr ag_h (hW _ _ (Or.inl (by omega))) (fun h1 ag_h1 => ?_)
    refine Fr_chk ?_
    refine Fr_chk ?_
    refine Fr_inb ?_
    refine Fr_wr ag_h1 (hW _ _ (Or.inl (by omega))) (fun h2 ag_h2 => ?_)
    refine Fr_chk ?_
    refine Fr_chk ?_
    refine Fr_inb ?_
    refine Fr_wr ag_h2 (hW _ _ (Or.inl (by omega))) (fun h3 ag_h3 => ?_)
    refine Fr_chk ?_
    refine Fr_wr ag_h3 (hW _ _ (Or.inr (by omega))) (fun h4 ag_h4 => ?_)
    exact Fr_some ag_h4
theorem fr_XX3_note {x0 : Int} {x1 : Int} {x2 : Int} {h : Hp} {r : Int} {h1 : Hp} (e : XX3_note x0 x1 x2 h = some (r, h1)) (a i : Nat) (hn : ¬ (a = 75 ∨ (a = 72 ∧ i = 4))) : h1 a i = h a i := fg_XX3_note (W := fun a i => a = 75 ∨ (a = 72 ∧ i = 4)) x0 x1 x2 (fun _ _ hh => hh) h (fun _ _ _ => rfl) r h1 e a i hn
theorem fg_XX3_replace_p163 {W : Nat → Nat → Prop} {h0 : Hp} (a1 : Nat) (self87 : Int → Int → Int → Hp → OR) (hs_self87 : ∀ (y0 y1 y2 : Int) (hh : Hp), Ag W h0 hh → Fr W h0 (self87 y0 y1 y2 hh)) (l2 : Int) (l3 : Int) (l4 : Int) (hW : ∀ a i : Nat, (False) → W a i) (h : Hp) (ag_h : Ag W h0 h) : Fr W h0 (XX3_replace_p163 a1 self87 l2 l3 l4 h) := by
  unfold XX3_replace_p163
  refine Fr_chk ?_
  exact hs_self87 _ _ _ _ ag_h
theorem fg_XX3_replace_p159 {W : Nat → Nat → Prop} {h0 : Hp} (a1 : Nat) (self87 : Int → Int → Int → Hp → OR) (hs_self87 : ∀ (y0 y1 y2 : Int) (hh : Hp), Ag W h0 hh → Fr W h0 (self87 y0 y1 y2 hh)) (l2 : Int) (l3 : Int) (l4 : Int) (s1 : Int) (s2 : Int) (hW : ∀ a i : Nat, (a = 75 ∨ (a = 72 ∧ i = 4)) → W a i) (h : Hp) (ag_h : Ag W h0 h) : Fr W h0 (XX3_replace_p159 a1 self87 l2 l3 l4 s1 s2 h) := by
  unfold XX3_replace_p159
  refine Fr_cal (fg_XX3_note _ _ _ (fun a i hh => hW a i ((fun q => q.elim (fun q => Or.inl (by omega)) (fun q => Or.inr (by omega))) hh)) _ ag_h) (fun r8 h9 ag_h9 => ?_)
  exact fg_XX3_replace_p163 _ _ hs_self87 _ _ _ (fun a i hh => hh.elim) _ ag_h9
theorem fg_XX3_replace_p142 {W : Nat → Nat → Prop} {h0 : Hp} (a1 : Nat) (self87 : Int → Int → Int → Hp → OR) (hs_self87 : ∀ (y0 y1 y2 : Int) (hh : Hp), Ag W h0 hh → Fr W h0 (self87 y0 y1 y2 hh)) (l2 : Int) (l3 : Int) (l4 : Int) (l5 : Int) (s1 : Int) (hW : ∀ a i : Nat, (a = 75 ∨ (a = 72 ∧ i = 4)) → W a i) (h : Hp) (ag_h : Ag W h0 h) : Fr W h0 (XX3_replace_p142 a1 self87 l2 l3 l4 l5 s1 h) := by
  unfold XX3_replace_p142
  refine Fr_ite ?_ ?_
  · refine Fr_chk ?_
    exact fg_XX3_replace_p159 _ _ hs_self87 _ _ _ _ _ (fun a i hh => hW a i ((fun q => q.elim (fun q => Or.inl (by omega)) (fun q => Or.inr (by omega))) hh)) _ ag_h
  · exact fg_XX3_replace_p159 _ _ hs_self87 _ _ _ _ _ (fun a i hh => hW a i ((fun q => q.elim (fun q => Or.inl (by omega)) (fun q => Or.inr (by omega))) hh)) _ ag_h
theorem fg_XX3_replace_p129 {W : Nat → Nat → Prop} {h0 : Hp} (a1 : Nat) (self87 : Int → Int → Int → Hp → OR) (hs_self87 : ∀ (y0 y1 y2 : Int) (hh : Hp), Ag W h0 hh → Fr W h0 (self87 y0 y1 y2 hh)) (l2 : Int) (l3 : Int) (l4 : Int) (s0 : Int) (hW : ∀ a i : Nat, (a = 75 ∨ (a = 72 ∧ i = 4)) → W a i) (h : Hp) (ag_h : Ag W h0 h) : Fr W h0 (XX3_replace_p129 a1 self87 l2 l3 l4 s0 h) := by
  unfold XX3_replace_p129
  refine Fr_ite ?_ ?_
  · exact fg_XX3_replace_p142 _ _ hs_self87 _ _ _ _ _ (fun a i hh => hW a i ((fun q => q.elim (fun q => Or.inl (by omega)) (fun q => Or.inr (by omega))) hh)) _ ag_h
  · exact fg_XX3_replace_p142 _ _ hs_self87 _ _ _ _ _ (fun a i hh => hW a i ((fun q => q.elim (fun q => Or.inl (by omega)) (fun q => Or.inr (by omega))) hh)) _ ag_h
theorem fg_XX3_replace_b87 {W : Nat → Nat → Prop} {h0 : Hp} (a1 : Nat) (self87 : Int → Int → Int → Hp → OR) (hs_self87 : ∀ (y0 y1 y2 : Int) (hh : Hp), Ag W h0 hh → Fr W h0 (self87 y0 y1 y2 hh)) (l2 : Int) (l3 : Int) (l4 : Int) (hW : ∀ a i : Nat, (a = 75 ∨ (a = 72 ∧ i = 4) ∨ a = a1 + 3) → W a i) (h : Hp) (ag_h : Ag W h0 h) : Fr W h0 (XX3_replace_b87 a1 self87 l2 l3 l4 h) := by
  unfold XX3_replace_b87
  refine Fr_cal (fg_XX8_seenCount _ (fun a i hh => hh.elim) _ ag_h) (fun r5 h6 ag_h6 => ?_)
  refine Fr_ite ?_ ?_
  · exact Fr_some ag_h6
  · refine Fr_inb ?_
    refine Fr_ite ?_ ?_
    · refine Fr_inb ?_
      refine Fr_wr ag_h6 (hW _ _ (Or.inr (Or.inr (by omega)))) (fun h7 ag_h7 => ?_)
      refine Fr_ite ?_ ?_
      · exact fg_XX3_replace_p129 _ _ hs_self87 _ _ _ _ (fun a i hh => hW a i ((fun q => q.elim (fun q => Or.inl (by omega)) (fun q => Or.inr (Or.inl (by omega)))) hh)) _ ag_h7
      · exact fg_XX3_replace_p129 _ _ hs_self87 _ _ _ _ (fun a i hh => hW a i ((fun q => q.elim (fun q => Or.inl (by omega)) (fun q => Or.inr (Or.inl (by omega)))) hh)) _ ag_h7
    · exact fg_XX3_replace_p163 _ _ hs_self87 _ _ _ (fun a i hh => hh.elim) _ ag_h6
theorem fg_XX3_replace_L87 {W : Nat → Nat → Prop} {h0 : Hp} (a1 : Nat) (l2 : Int) (l3 : Int) (l4 : Int) (hW : ∀ a i : Nat, (a = 75 ∨ (a = 72 ∧ i = 4) ∨ a = a1 + 3) → W a i) (h : Hp) (ag_h : Ag W h0 h) : Fr W h0 (XX3_replace_L87 a1 l2 l3 l4 h) := by
  unfold XX3_replace_L87
  exact Fr_lup3 (fun self hs z0 z1 z2 hh ag => fg_XX3_replace_b87 a1 self hs z0 z1 z2 hW hh ag) FU _ _ _ _ ag_h
theorem fg_XX3_replace_p72 {W : Nat → Nat → Prop} {h0 : Hp} (a1 : Nat) (self6 : Int → Int → Int → Hp → OR) (hs_self6 : ∀ (y0 y1 y2 : Int) (hh : Hp), Ag W h0 hh → Fr W h0 (self6 y0 y1 y2 hh)) (self18 : Int → Int → Int → Int → Hp → OR) (hs_self18 : ∀ (y0 y1 y2 y3 : Int) (hh : Hp), Ag W h0 hh → Fr W h0 (self18 y0 y1 y2 y3 hh)) (l2 : Int) (l3 : Int) (l4 : Int) (l5 : Int) (hW : ∀ a i : Nat, (False) → W a i) (h : Hp) (ag_h : Ag W h0 h) : Fr W h0 (XX3_replace_p72 a1 self6 self18 l2 l3 l4 l5 h) := by
  unfold XX3_replace_p72
  refine Fr_chk ?_
  exact hs_self18 _ _ _ _ _ ag_h
theorem fg_XX3_replace_b18 {W : Nat → Nat → Prop} {h0 : Hp} (a1 : Nat) (self6 : Int → Int → Int → Hp → OR) (hs_self6 : ∀ (y0 y1 y2 : Int) (hh : Hp), Ag W h0 hh → Fr W h0 (self6 y0 y1 y2 hh)) (self18 : Int → Int → Int → Int → Hp → OR) (hs_self18 : ∀ (y0 y1 y2 y3 : Int) (hh : Hp), Ag W h0 hh → Fr W h0 (self18 y0 y1 y2 y3 hh)) (l2 : Int) (l3 : Int) (l4 : Int) (l5 : Int) (hW : ∀ a i : Nat, (a = 75 ∨ (a = 72 ∧ i = 4) ∨ a = a1 + 2) → W a i) (h : Hp) (ag_h : Ag W h0 h) : Fr W h0 (XX3_replace_b18 a1 self6 self18 l2 l3 l4 l5 h) := by
  unfold XX3_replace_b18
  refine Fr_inb ?_
  refine Fr_inb ?_
  refine Fr_ite ?_ ?_
  · refine Fr_chk ?_
    exact hs_self6 _ _ _ _ ag_h
  · refine Fr_chk ?_
    refine Fr_chk ?_
    refine Fr_inb ?_
    refine Fr_ite ?_ ?_
    · refine Fr_chk ?_
      refine Fr_chk ?_
      refine Fr_inb ?_
      refine Fr_wr ag_h (hW _ _ (Or.inr (Or.inr (by omega)))) (fun h10 ag_h10 => ?_)
      refine Fr_cal (fg_XX3_note _ _ _ (fun a i hh => hW a i ((fun q => q.elim (fun q => Or.inl (by omega)) (fun q => Or.inr (Or.inl (by omega)))) hh)) _ ag_h10) (fun r11 h12 ag_h12 => ?_)
      exact fg_XX3_replace_p72 _ _ hs_self6 _ hs_self18 _ _ _ _ (fun a i hh => hh.elim) _ ag_h12
    · exact fg_XX3_replace_p72 _ _ hs_self6 _ hs_self18 _ _ _ _ (fun a i hh => hh.elim) _ ag_h
theorem fg_XX3_replace_L18 {W : Nat → Nat → Prop} {h0 : Hp} (a1 : Nat) (self6 : Int → Int → Int → Hp → OR) (hs_self6 : ∀ (y0 y1 y2 : Int) (hh : Hp), Ag W h0 hh → Fr W h0 (self6 y0 y1 y2 hh)) (l2 : Int) (l3 : Int) (l4 : Int) (l5 : Int) (hW : ∀ a i : Nat, (a = 75 ∨ (a = 72 ∧ i = 4) ∨ a = a1 + 2) → W a i) (h : Hp) (ag_h : Ag W h0 h) : Fr W h0 (XX3_replace_L18 a1 self6 l2 l3 l4 l5 h) := by
  unfold XX3_replace_L18
  exact Fr_lup4 (fun self hs z0 z1 z2 z3 hh ag => fg_XX3_replace_b18 a1 self6 hs_self6 self hs z0 z1 z2 z3 hW hh ag) FU _ _ _ _ _ ag_h
theorem fg_XX3_replace_b6 {W : Nat → Nat → Prop} {h0 : Hp} (a1 : Nat) (self6 : Int → Int → Int → Hp → OR) (hs_self6 : ∀ (y0 y1 y2 : Int) (hh : Hp), Ag W h0 hh → Fr W h0 (self6 y0 y1 y2 hh)) (l2 : Int) (l3 : Int) (l4 : Int) (hW : ∀ a i : Nat, (a = 75 ∨ (a = 72 ∧ i = 4) ∨ a = a1 + 2 ∨ a = a1 + 3) → W a i) (h : Hp) (ag_h : Ag W h0 h) : Fr W h0 (XX3_replace_b6 a1 self6 l2 l3 l4 h) := by
  unfold XX3_replace_b6
  refine Fr_cal (fg_XX8_wires _ (fun a i hh => hh.elim) _ ag_h) (fun r3 h4 ag_h4 => ?_)
  refine Fr_ite ?_ ?_
  · exact fg_XX3_replace_L87 _ _ _ _ (fun a i hh => hW a i ((fun q => q.elim (fun q => Or.inl (by omega)) (fun q => q.elim (fun q => Or.inr (Or.inl (by omega))) (fun q => Or.inr (Or.inr (Or.inr (by omega)))))) hh)) _ ag_h4
  · exact fg_XX3_replace_L18 _ _ hs_self6 _ _ _ _ (fun a i hh => hW a i ((fun q => q.elim (fun q => Or.inl (by omega)) (fun q => q.elim (fun q => Or.inr (Or.inl (by omega))) (fun q => Or.inr (Or.inr (Or.inl (by omega)))))) hh)) _ ag_h4
theorem fg_XX3_replace_L6 {W : Nat → Nat → Prop} {h0 : Hp} (a1 : Nat) (l2 : Int) (l3 : Int) (l4 : Int) (hW : ∀ a i : Nat, (a = 75 ∨ (a = 72 ∧ i = 4) ∨ a = a1 + 2 ∨ a = a1 + 3) → W a i) (h : Hp) (ag_h : Ag W h0 h) : Fr W h0 (XX3_replace_L6 a1 l2 l3 l4 h) := by
  unfold XX3_replace_L6
  exact Fr_lup3 (fun self hs z0 z1 z2 hh ag => fg_XX3_replace_b6 a1 self hs z0 z1 z2 hW hh ag) FU _ _ _ _ ag_h
theorem fg_XX3_replace {W : Nat → Nat → Prop} {h0 : Hp} (x0 : Nat) (x1 : Int) (x2 : Int) (hW : ∀ a i : Nat, (a = 75 ∨ (a = 72 ∧ i = 4) ∨ a = x0 + 2 ∨ a = x0 + 3) → W a i) (h : Hp) (ag_h : Ag W h0 h) : Fr W h0 (XX3_replace x0 x1 x2 h) := by
  unfold XX3_replace
  refine Fr_cal (fg_XX8_sources _ (fun a i hh => hh.elim) _ ag_h) (fun r1 h2 ag_h2 => ?_)
  exact fg_XX3_replace_L6 _ _ _ _ (fun a i hh => hW a i ((fun q => q.elim (fun q => Or.inl (by omega)) (fun q => q.elim (fun q => Or.inr (Or.inl (by omega))) (fun q => q.elim (fun q => Or.inr (Or.inr (Or.inl (by omega)))) (fun q => Or.inr (Or.inr (Or.inr (by omega))))))) hh)) _ ag_h2
theorem fr_XX3_replace {x0 : Nat} {x1 : Int} {x2 : Int} {h : Hp} {r : Int} {h1 : Hp} (e : XX3_replace x0 x1 x2 h = some (r, h1)) (a i : Nat) (hn : ¬ (a = 75 ∨ (a = 72 ∧ i = 4) ∨ a = x0 + 2 ∨ a = x0 + 3)) : h1 a i = h a i := fg_XX3_replace (W := fun a i => a = 75 ∨ (a = 72 ∧ i = 4) ∨ a = x0 + 2 ∨ a = x0 + 3) x0 x1 x2 (fun _ _ hh => hh) h (fun _ _ _ => rfl) r h1 e a i hn
theorem fg_XX3_differs_b2 {W : Nat → Nat → Prop} {h0 : Hp} (a1 : Nat) (self2 : Int → Int → Hp → OR) (hs_self2 : ∀ (y0 y1 : Int) (hh : Hp), Ag W h0 hh → Fr W h0 (self2 y0 y1 hh)) (l2 : Int) (l3 : Int) (hW : ∀ a i : Nat, (False) → W a i) (h : Hp) (ag_h : Ag W h0 h) : Fr W h0 (XX3_differs_b2 a1 self2 l2 l3 h) := by
  unfold XX3_differs_b2
  refine Fr_cal (fg_XX8_seenCount _ (fun a i hh => hh.elim) _ ag_h) (fun r1 h2 ag_h2 => ?_)
  refine Fr_ite ?_ ?_
  · refine Fr_zb ?_
    exact Fr_some ag_h2
  · refine Fr_inb ?_
    refine Fr_chk ?_
    refine Fr_chk ?_
    refine Fr_chk ?_
    refine Fr_inb ?_
    refine Fr_nm (fun v3 => ?_)
    refine Fr_chk ?_
    refine Fr_chk ?_
    refine Fr_chk ?_
    refine Fr_inb ?_
    refine Fr_chk ?_
    refine Fr_ite ?_ ?_
    · refine Fr_zb ?_
      exact Fr_some ag_h2
    · refine Fr_chk ?_
      exact hs_self2 _ _ _ ag_h2
theorem fg_XX3_differs_L2 {W : Nat → Nat → Prop} {h0 : Hp} (a1 : Nat) (l2 : Int) (l3 : Int) (hW : ∀ a i : Nat, (False) → W a i) (h : Hp) (ag_h : Ag W h0 h) : Fr W h0 (XX3_differs_L2 a1 l2 l3 h) := by
  unfold XX3_differs_L2
  exact Fr_lup2 (fun self hs z0 z1 hh ag => fg_XX3_differs_b2 a1 self hs z0 z1 hW hh ag) FU _ _ _ ag_h
theorem fg_XX3_differs {W : Nat → Nat → Prop} {h0 : Hp} (x0 : Nat) (x1 : Int) (hW : ∀ a i : Nat, (False) → W a i) (h : Hp) (ag_h : Ag W h0 h) : Fr W h0 (XX3_differs x0 x1 h) := by
  unfold XX3_differs
  exact fg_XX3_differs_L2 _ _ _ (fun a i hh => hh.elim) _ ag_h
theorem fr_XX3_differs {x0 : Nat} {x1 : Int} {h : Hp} {r : Int} {h1 : Hp} (e : XX3_differs x0 x1 h = some (r, h1)) (a i : Nat) (hn : ¬ (False)) : h1 a i = h a i := fg_XX3_differs (W := fun a i => False) x0 x1 (fun _ _ hh => hh) h (fun _ _ _ => rfl) r h1 e a i hn
theorem fe_XX3_differs {x0 : Nat} {x1 : Int} {h : Hp} {r : Int} {h1 : Hp} (e : XX3_differs x0 x1 h = some (r, h1)) : h1 = h := funext (fun a => funext (fun i => fr_XX3_differs e a i (fun hh => hh)))
theorem fg_XX3_findTests_p52 {W : Nat → Nat → Prop} {h0 : Hp} (a1 : Nat) (self7 : Int → Hp → OR) (hs_self7 : ∀ (y0 : Int) (hh : Hp), Ag W h0 hh → Fr W h0 (self7 y0 hh)) (l3 : Int) (hW : ∀ a i : Nat, (False) → W a i) (h : Hp) (ag_h : Ag W h0 h) : Fr W h0 (XX3_findTests_p52 a1 self7 l3 h) := by
  unfold XX3_findTests_p52
  refine Fr_chk ?_
  exact hs_self7 _ _ ag_h
theorem fg_XX3_findTests_b7 {W : Nat → Nat → Prop} {h0 : Hp} (a1 : Nat) (self7 : Int → Hp → OR) (hs_self7 : ∀ (y0 : Int) (hh : Hp), Ag W h0 hh → Fr W h0 (self7 y0 hh)) (l3 : Int) (hW : ∀ a i : Nat, (a = 76 ∨ (a = 72 ∧ i = 6)) → W a i) (h : Hp) (ag_h : Ag W h0 h) : Fr W h0 (XX3_findTests_b7 a1 self7 l3 h) := by
  unfold XX3_findTests_b7
  refine Fr_ite ?_ ?_
  · exact Fr_some ag_h
  · refine Fr_cal (fg_XX0_isLive _ (fun a i hh => hh.elim) _ ag_h) (fun r2 h3 ag_h3 => ?_)
    refine Fr_ite ?_ ?_
    · exact fg_XX3_findTests_p52 _ _ hs_self7 _ (fun a i hh => hh.elim) _ ag_h3
    · refine Fr_cal (fg_XX3_differs _ _ (fun a i hh => hh.elim) _ ag_h3) (fun r4 h5 ag_h5 => ?_)
      refine Fr_ite ?_ ?_
      · exact fg_XX3_findTests_p52 _ _ hs_self7 _ (fun a i hh => hh.elim) _ ag_h5
      · refine Fr_inb ?_
        refine Fr_wr ag_h5 (hW _ _ (Or.inl (by omega))) (fun h6 ag_h6 => ?_)
        refine Fr_chk ?_
        refine Fr_wr ag_h6 (hW _ _ (Or.inr (by omega))) (fun h7 ag_h7 => ?_)
        exact fg_XX3_findTests_p52 _ _ hs_self7 _ (fun a i hh => hh.elim) _ ag_h7
theorem fg_XX3_findTests_L7 {W : Nat → Nat → Prop} {h0 : Hp} (a1 : Nat) (l3 : Int) (hW : ∀ a i : Nat, (a = 76 ∨ (a = 72 ∧ i = 6)) → W a i) (h : Hp) (ag_h : Ag W h0 h) : Fr W h0 (XX3_findTests_L7 a1 l3 h) := by
  unfold XX3_findTests_L7
  exact Fr_lup1 (fun self hs z0 hh ag => fg_XX3_findTests_b7 a1 self hs z0 hW hh ag) FU _ _ ag_h
theorem fg_XX3_findTests {W : Nat → Nat → Prop} {h0 : Hp} (x0 : Nat) (hW : ∀ a i : Nat, (a = 76 ∨ (a = 72 ∧ i = 6)) → W a i) (h : Hp) (ag_h : Ag W h0 h) : Fr W h0 (XX3_findTests x0 h) := by
  unfold XX3_findTests
  refine Fr_wr ag_h (hW _ _ (Or.inr (by omega))) (fun h1 ag_h1 => ?_)
  exact fg_XX3_findTests_L7 _ _ (fun a i hh => hW a i ((fun q => q.elim (fun q => Or.inl (by omega)) (fun q => Or.inr (by omega))) hh)) _ ag_h1
theorem fr_XX3_findTests {x0 : Nat} {h : Hp} {r : Int} {h1 : Hp} (e : XX3_findTests x0 h = some (r, h1)) (a i : Nat) (hn : ¬ (a = 76 ∨ (a = 72 ∧ i = 6))) : h1 a i = h a i := fg_XX3_findTests (W := fun a i => a = 76 ∨ (a = 72 ∧ i = 6)) x0 (fun _ _ hh => hh) h (fun _ _ _ => rfl) r h1 e a i hn
theorem fg_XX4_start {W : Nat → Nat → Prop} {h0 : Hp} (hW : ∀ a i : Nat, (a = 54 ∨ (a = 53 ∧ i = 1)) → W a i) (h : Hp) (ag_h : Ag W h0 h) : Fr W h0 (XX4_start  h) := by
  unfold XX4_start
  refine Fr_cal (fg_XJ7_fill_53178 _ _ _ (fun a i hh => hW a i (Or.inl (by omega))) _ ag_h) (fun r1 h2 ag_h2 => ?_)
  refine Fr_wr ag_h2 (hW _ _ (Or.inr (by omega))) (fun h3 ag_h3 => ?_)
  exact Fr_some ag_h3
theorem fr_XX4_start {h : Hp} {r : Int} {h1 : Hp} (e : XX4_start  h = some (r, h1)) (a i : Nat) (hn : ¬ (a = 54 ∨ (a = 53 ∧ i = 1))) : h1 a i = h a i := fg_XX4_start (W := fun a i => a = 54 ∨ (a = 53 ∧ i = 1))  (fun _ _ hh => hh) h (fun _ _ _ => rfl) r h1 e a i hn
theorem fg_XX4_give_p28 {W : Nat → Nat → Prop} {h0 : Hp} (l1 : Int) (l2 : Int) (s1 : Int) (s2 : Int) (s3 : Int) (hW : ∀ a i : Nat, (a = 54 ∨ (a = 53 ∧ i = 1)) → W a i) (h : Hp) (ag_h : Ag W h0 h) : Fr W h0 (XX4_give_p28 l1 l2 s1 s2 s3 h) := by
  unfold XX4_give_p28
  refine Fr_chk ?_
  refine Fr_chk ?_
  refine Fr_wr ag_h (hW _ _ (Or.inr (by omega))) (fun h1 ag_h1 => ?_)
  refine Fr_inb ?_
  refine Fr_wr ag_h1 (hW _ _ (Or.inl (by omega))) (fun h2 ag_h2 => ?_)
  exact Fr_some ag_h2
theorem fg_XX4_give_p14 {W : Nat → Nat → Prop} {h0 : Hp} (l1 : Int) (l2 : Int) (s1 : Int) (s2 : Int) (hW : ∀ a i : Nat, (a = 54 ∨ (a = 53 ∧ i = 1)) → W a i) (h : Hp) (ag_h : Ag W h0 h) : Fr W h0 (XX4_give_p14 l1 l2 s1 s2 h) := by
  unfold XX4_give_p14
  refine Fr_inb ?_
  refine Fr_ite ?_ ?_
  · exact fg_XX4_give_p28 _ _ _ _ _ (fun a i hh => hW a i ((fun q => q.elim (fun q => Or.inl (by omega)) (fun q => Or.inr (by omega))) hh)) _ ag_h
  · exact fg_XX4_give_p28 _ _ _ _ _ (fun a i hh => hW a i ((fun q => q.elim (fun q => Or.inl (by omega)) (fun q => Or.inr (by omega))) hh)) _ ag_h
theorem fg_XX4_give {W : Nat → Nat → Prop} {h0 : Hp} (x0 : Int) (x1 : Int) (hW : ∀ a i : Nat, (a = 54 ∨ (a = 53 ∧ i = 1)) → W a i) (h : Hp) (ag_h : Ag W h0 h) : Fr W h0 (XX4_give x0 x1 h) := by
  unfold XX4_give
  refine Fr_ite ?_ ?_
  · exact fg_XX4_give_p14 _ _ _ _ (fun a i hh => hW a i ((fun q => q.elim (fun q => Or.inl (by omega)) (fun q => Or.inr (by omega))) hh)) _ ag_h
  · exact fg_XX4_give_p14 _ _ _ _ (fun a i hh => hW a i ((fun q => q.elim (fun q => Or.inl (by omega)) (fun q => Or.inr (by omega))) hh)) _ ag_h
theorem fr_XX4_give {x0 : Int} {x1 : Int} {h : Hp} {r : Int} {h1 : Hp} (e : XX4_give x0 x1 h = some (r, h1)) (a i : Nat) (hn : ¬ (a = 54 ∨ (a = 53 ∧ i = 1))) : h1 a i = h a i := fg_XX4_give (W := fun a i => a = 54 ∨ (a = 53 ∧ i = 1)) x0 x1 (fun _ _ hh => hh) h (fun _ _ _ => rfl) r h1 e a i hn
theorem fg_XX4_forgetFrom_b2 {W : Nat → Nat → Prop} {h0 : Hp} (self2 : Int → Hp → OR) (hs_self2 : ∀ (y0 : Int) (hh : Hp), Ag W h0 hh → Fr W h0 (self2 y0 hh)) (l2 : Int) (hW : ∀ a i : Nat, (a = 54 ∨ (a = 53 ∧ i = 1)) → W a i) (h : Hp) (ag_h : Ag W h0 h) : Fr W h0 (XX4_forgetFrom_b2 self2 l2 h) := by
  unfold XX4_forgetFrom_b2
  refine Fr_ite ?_ ?_
  · exact Fr_some ag_h
  · refine Fr_cal (fg_XX4_give _ _ (fun a i hh => hW a i ((fun q => q.elim (fun q => Or.inl (by omega)) (fun q => Or.inr (by omega))) hh)) _ ag_h) (fun r1 h2 ag_h2 => ?_)
    refine Fr_chk ?_
    exact hs_self2 _ _ ag_h2
theorem fg_XX4_forgetFrom_L2 {W : Nat → Nat → Prop} {h0 : Hp} (l2 : Int) (hW : ∀ a i : Nat, (a = 54 ∨ (a = 53 ∧ i = 1)) → W a i) (h : Hp) (ag_h : Ag W h0 h) : Fr W h0 (XX4_forgetFrom_L2 l2 h) := by
  unfold XX4_forgetFrom_L2
  exact Fr_lup1 (fun self hs z0 hh ag => fg_XX4_forgetFrom_b2 self hs z0 hW hh ag) FU _ _ ag_h
theorem fg_XX4_forgetFrom {W : Nat → Nat → Prop} {h0 : Hp} (x0 : Int) (hW : ∀ a i : Nat, (a = 54 ∨ (a = 53 ∧ i = 1)) → W a i) (h : Hp) (ag_h : Ag W h0 h) : Fr W h0 (XX4_forgetFrom x0 h) := by
  unfold XX4_forgetFrom
  exact fg_XX4_forgetFrom_L2 _ (fun a i hh => hW a i ((fun q => q.elim (fun q => Or.inl (by omega)) (fun q => Or.inr (by omega))) hh)) _ ag_h
theorem fr_XX4_forgetFrom {x0 : Int} {h : Hp} {r : Int} {h1 : Hp} (e : XX4_forgetFrom x0 h = some (r, h1)) (a i : Nat) (hn : ¬ (a = 54 ∨ (a = 53 ∧ i = 1))) : h1 a i = h a i := fg_XX4_forgetFrom (W := fun a i => a = 54 ∨ (a = 53 ∧ i = 1)) x0 (fun _ _ hh => hh) h (fun _ _ _ => rfl) r h1 e a i hn
theorem fg_XX4_listUsable_p65 {W : Nat → Nat → Prop} {h0 : Hp} (a1 : Nat) (self7 : Int → Int → Hp → OR) (hs_self7 : ∀ (y0 y1 : Int) (hh : Hp), Ag W h0 hh → Fr W h0 (self7 y0 y1 hh)) (l2 : Int) (l3 : Int) (hW : ∀ a i : Nat, (False) → W a i) (h : Hp) (ag_h : Ag W h0 h) : Fr W h0 (XX4_listUsable_p65 a1 self7 l2 l3 h) := by
  unfold XX4_listUsable_p65
  refine Fr_chk ?_
  exact hs_self7 _ _ _ ag_h
theorem fg_XX4_listUsable_b7 {W : Nat → Nat → Prop} {h0 : Hp} (a1 : Nat) (self7 : Int → Int → Hp → OR) (hs_self7 : ∀ (y0 y1 : Int) (hh : Hp), Ag W h0 hh → Fr W h0 (self7 y0 y1 hh)) (l2 : Int) (l3 : Int) (hW : ∀ a i : Nat, (a = 55 ∨ (a = 53 ∧ i = 3)) → W a i) (h : Hp) (ag_h : Ag W h0 h) : Fr W h0 (XX4_listUsable_b7 a1 self7 l2 l3 h) := by
  unfold XX4_listUsable_b7
  refine Fr_cal (fg_XX8_wires _ (fun a i hh => hh.elim) _ ag_h) (fun r2 h3 ag_h3 => ?_)
  refine Fr_ite ?_ ?_
  · exact Fr_some ag_h3
  · refine Fr_ite ?_ ?_
    · exact Fr_some ag_h3
    · refine Fr_inb ?_
      refine Fr_ite ?_ ?_
      · exact fg_XX4_listUsable_p65 _ _ hs_self7 _ _ (fun a i hh => hh.elim) _ ag_h3
      · refine Fr_cal (fg_XX6_hangsOn _ _ _ (fun a i hh => hh.elim) _ ag_h3) (fun r4 h5 ag_h5 => ?_)
        refine Fr_ite ?_ ?_
        · refine Fr_inb ?_
          refine Fr_wr ag_h5 (hW _ _ (Or.inl (by omega))) (fun h6 ag_h6 => ?_)
          refine Fr_chk ?_
          refine Fr_wr ag_h6 (hW _ _ (Or.inr (by omega))) (fun h7 ag_h7 => ?_)
          exact fg_XX4_listUsable_p65 _ _ hs_self7 _ _ (fun a i hh => hh.elim) _ ag_h7
        · exact fg_XX4_listUsable_p65 _ _ hs_self7 _ _ (fun a i hh => hh.elim) _ ag_h5
theorem fg_XX4_listUsable_L7 {W : Nat → Nat → Prop} {h0 : Hp} (a1 : Nat) (l2 : Int) (l3 : Int) (hW : ∀ a i : Nat, (a = 55 ∨ (a = 53 ∧ i = 3)) → W a i) (h : Hp) (ag_h : Ag W h0 h) : Fr W h0 (XX4_listUsable_L7 a1 l2 l3 h) := by
  unfold XX4_listUsable_L7
  exact Fr_lup2 (fun self hs z0 z1 hh ag => fg_XX4_listUsable_b7 a1 self hs z0 z1 hW hh ag) FU _ _ _ ag_h
theorem fg_XX4_listUsable {W : Nat → Nat → Prop} {h0 : Hp} (x0 : Nat) (x1 : Int) (hW : ∀ a i : Nat, (a = 55 ∨ (a = 53 ∧ i = 3)) → W a i) (h : Hp) (ag_h : Ag W h0 h) : Fr W h0 (XX4_listUsable x0 x1 h) := by
  unfold XX4_listUsable
  refine Fr_wr ag_h (hW _ _ (Or.inr (by omega))) (fun h1 ag_h1 => ?_)
  exact fg_XX4_listUsable_L7 _ _ _ (fun a i hh => hW a i ((fun q => q.elim (fun q => Or.inl (by omega)) (fun q => Or.inr (by omega))) hh)) _ ag_h1
theorem fr_XX4_listUsable {x0 : Nat} {x1 : Int} {h : Hp} {r : Int} {h1 : Hp} (e : XX4_listUsable x0 x1 h = some (r, h1)) (a i : Nat) (hn : ¬ (a = 55 ∨ (a = 53 ∧ i = 3))) : h1 a i = h a i := fg_XX4_listUsable (W := fun a i => a = 55 ∨ (a = 53 ∧ i = 3)) x0 x1 (fun _ _ hh => hh) h (fun _ _ _ => rfl) r h1 e a i hn
theorem fg_XX4_tryOne_p115 {W : Nat → Nat → Prop} {h0 : Hp} (l2 : Int) (l3 : Int) (l4 : Int) (l5 : Int) (hW : ∀ a i : Nat, ((a = 53 ∧ 4 ≤ i ∧ i ≤ 8)) → W a i) (h : Hp) (ag_h : Ag W h0 h) : Fr W h0 (XX4_tryOne_p115 l2 l3 l4 l5 h) := by
  unfold XX4_tryOne_p115
  refine Fr_zb ?_
  refine Fr_wr ag_h (hW _ _ (by omega)) (fun h9 ag_h9 => ?_)
  refine Fr_wr ag_h9 (hW _ _ (by omega)) (fun h10 ag_h10 => ?_)
  refine Fr_wr ag_h10 (hW _ _ (by omega)) (fun h11 ag_h11 => ?_)
  refine Fr_wr ag_h11 (hW _ _ (by omega)) (fun h12 ag_h12 => ?_)
  refine Fr_wr ag_h12 (hW _ _ (by omega)) (fun h13 ag_h13 => ?_)
  exact Fr_some ag_h13
theorem fg_XX4_tryOne_p64 {W : Nat → Nat → Prop} {h0 : Hp} (l2 : Int) (l3 : Int) (l4 : Int) (l5 : Int) (hW : ∀ a i : Nat, (a = 47 ∨ a = 49 ∨ a = 52 ∨ (a = 45 ∧ i = 5) ∨ (a = 45 ∧ i = 11) ∨ (a = 53 ∧ 4 ≤ i ∧ i ≤ 8)) → W a i) (h : Hp) (ag_h : Ag W h0 h) : Fr W h0 (XX4_tryOne_p64 l2 l3 l4 l5 h) := by
  unfold XX4_tryOne_p64
  refine Fr_cal (fg_XX1_tell _ _ _ (fun a i hh => hW a i ((fun q => q.elim (fun q => Or.inl (by omega)) (fun q => Or.inr (Or.inr (Or.inr (Or.inl (by omega)))))) hh)) _ ag_h) (fun r2 h3 ag_h3 => ?_)
  refine Fr_ite ?_ ?_
  · exact Fr_some ag_h3
  · refine Fr_cal (fg_XX1_allow (fun a i hh => hW a i (Or.inr (Or.inl (by omega)))) _ ag_h3) (fun r4 h5 ag_h5 => ?_)
    refine Fr_ite ?_ ?_
    · exact Fr_some ag_h5
    · refine Fr_cal (fg_XX1_choose (fun a i hh => hW a i ((fun q => q.elim (fun q => Or.inr (Or.inr (Or.inl (by omega)))) (fun q => Or.inr (Or.inr (Or.inr (Or.inr (Or.inl (by omega))))))) hh)) _ ag_h5) (fun r6 h7 ag_h7 => ?_)
      refine Fr_chk ?_
      refine Fr_chk ?_
      refine Fr_nm (fun v8 => ?_)
      refine Fr_ite ?_ ?_
      · exact fg_XX4_tryOne_p115 _ _ _ _ (fun a i hh => hW a i (Or.inr (Or.inr (Or.inr (Or.inr (Or.inr (by omega))))))) _ ag_h7
      · refine Fr_ite ?_ ?_
        · exact Fr_some ag_h7
        · exact fg_XX4_tryOne_p115 _ _ _ _ (fun a i hh => hW a i (Or.inr (Or.inr (Or.inr (Or.inr (Or.inr (by omega))))))) _ ag_h7
theorem fg_XX4_tryOne_p45 {W : Nat → Nat → Prop} {h0 : Hp} (l2 : Int) (l3 : Int) (l4 : Int) (s0 : Int) (s1 : Int) (hW : ∀ a i : Nat, (a = 47 ∨ a = 49 ∨ a = 52 ∨ (a = 45 ∧ i = 5) ∨ (a = 45 ∧ i = 11) ∨ (a = 53 ∧ 4 ≤ i ∧ i ≤ 8)) → W a i) (h : Hp) (ag_h : Ag W h0 h) : Fr W h0 (XX4_tryOne_p45 l2 l3 l4 s0 s1 h) := by
  unfold XX4_tryOne_p45
  refine Fr_chk ?_
  refine Fr_nm (fun v1 => ?_)
  refine Fr_ite ?_ ?_
  · exact fg_XX4_tryOne_p64 _ _ _ _ (fun a i hh => hW a i ((fun q => q.elim (fun q => Or.inl (by omega)) (fun q => q.elim (fun q => Or.inr (Or.inl (by omega))) (fun q => q.elim (fun q => Or.inr (Or.inr (Or.inl (by omega)))) (fun q => q.elim (fun q => Or.inr (Or.inr (Or.inr (Or.inl (by omega))))) (fun q => q.elim (fun q => Or.inr (Or.inr (Or.inr (Or.inr (Or.inl (by omega)))))) (fun q => Or.inr (Or.inr (Or.inr (Or.inr (Or.inr (by omega))))))))))) hh)) _ ag_h
  · refine Fr_ite ?_ ?_
    · exact Fr_some ag_h
    · exact fg_XX4_tryOne_p64 _ _ _ _ (fun a i hh => hW a i ((fun q => q.elim (fun q => Or.inl (by omega)) (fun q => q.elim (fun q => Or.inr (Or.inl (by omega))) (fun q => q.elim (fun q => Or.inr (Or.inr (Or.inl (by omega)))) (fun q => q.elim (fun q => Or.inr (Or.inr (Or.inr (Or.inl (by omega))))) (fun q => q.elim (fun q => Or.inr (Or.inr (Or.inr (Or.inr (Or.inl (by omega)))))) (fun q => Or.inr (Or.inr (Or.inr (Or.inr (Or.inr (by omega))))))))))) hh)) _ ag_h
theorem fg_XX4_tryOne_p28 {W : Nat → Nat → Prop} {h0 : Hp} (l2 : Int) (l3 : Int) (l4 : Int) (s0 : Int) (s1 : Int) (hW : ∀ a i : Nat, (a = 47 ∨ a = 49 ∨ a = 52 ∨ (a = 45 ∧ i = 5) ∨ (a = 45 ∧ i = 11) ∨ (a = 53 ∧ 4 ≤ i ∧ i ≤ 8)) → W a i) (h : Hp) (ag_h : Ag W h0 h) : Fr W h0 (XX4_tryOne_p28 l2 l3 l4 s0 s1 h) := by
  unfold XX4_tryOne_p28
  refine Fr_chk ?_
  refine Fr_ite ?_ ?_
  · refine Fr_inb ?_
    exact fg_XX4_tryOne_p45 _ _ _ _ _ (fun a i hh => hW a i ((fun q => q.elim (fun q => Or.inl (by omega)) (fun q => q.elim (fun q => Or.inr (Or.inl (by omega))) (fun q => q.elim (fun q => Or.inr (Or.inr (Or.inl (by omega)))) (fun q => q.elim (fun q => Or.inr (Or.inr (Or.inr (Or.inl (by omega))))) (fun q => q.elim (fun q => Or.inr (Or.inr (Or.inr (Or.inr (Or.inl (by omega)))))) (fun q => Or.inr (Or.inr (Or.inr (Or.inr (Or.inr (by omega))))))))))) hh)) _ ag_h
  · exact fg_XX4_tryOne_p45 _ _ _ _ _ (fun a i hh => hW a i ((fun q => q.elim (fun q => Or.inl (by omega)) (fun q => q.elim (fun q => Or.inr (Or.inl (by omega))) (fun q => q.elim (fun q => Or.inr (Or.inr (Or.inl (by omega)))) (fun q => q.elim (fun q => Or.inr (Or.inr (Or.inr (Or.inl (by omega))))) (fun q => q.elim (fun q => Or.inr (Or.inr (Or.inr (Or.inr (Or.inl (by omega)))))) (fun q => Or.inr (Or.inr (Or.inr (Or.inr (Or.inr (by omega))))))))))) hh)) _ ag_h
theorem fg_XX4_tryOne_p14 {W : Nat → Nat → Prop} {h0 : Hp} (l2 : Int) (l3 : Int) (l4 : Int) (s0 : Int) (hW : ∀ a i : Nat, (a = 47 ∨ a = 49 ∨ a = 52 ∨ (a = 45 ∧ i = 5) ∨ (a = 45 ∧ i = 11) ∨ (a = 53 ∧ 4 ≤ i ∧ i ≤ 8)) → W a i) (h : Hp) (ag_h : Ag W h0 h) : Fr W h0 (XX4_tryOne_p14 l2 l3 l4 s0 h) := by
  unfold XX4_tryOne_p14
  refine Fr_ite ?_ ?_
  · refine Fr_inb ?_
    exact fg_XX4_tryOne_p28 _ _ _ _ _ (fun a i hh => hW a i ((fun q => q.elim (fun q => Or.inl (by omega)) (fun q => q.elim (fun q => Or.inr (Or.inl (by omega))) (fun q => q.elim (fun q => Or.inr (Or.inr (Or.inl (by omega)))) (fun q => q.elim (fun q => Or.inr (Or.inr (Or.inr (Or.inl (by omega))))) (fun q => q.elim (fun q => Or.inr (Or.inr (Or.inr (Or.inr (Or.inl (by omega)))))) (fun q => Or.inr (Or.inr (Or.inr (Or.inr (Or.inr (by omega))))))))))) hh)) _ ag_h
  · exact fg_XX4_tryOne_p28 _ _ _ _ _ (fun a i hh => hW a i ((fun q => q.elim (fun q => Or.inl (by omega)) (fun q => q.elim (fun q => Or.inr (Or.inl (by omega))) (fun q => q.elim (fun q => Or.inr (Or.inr (Or.inl (by omega)))) (fun q => q.elim (fun q => Or.inr (Or.inr (Or.inr (Or.inl (by omega))))) (fun q => q.elim (fun q => Or.inr (Or.inr (Or.inr (Or.inr (Or.inl (by omega)))))) (fun q => Or.inr (Or.inr (Or.inr (Or.inr (Or.inr (by omega))))))))))) hh)) _ ag_h
theorem fg_XX4_tryOne {W : Nat → Nat → Prop} {h0 : Hp} (x1 : Int) (x2 : Int) (x3 : Int) (hW : ∀ a i : Nat, (a = 47 ∨ a = 49 ∨ a = 52 ∨ (a = 45 ∧ i = 5) ∨ (a = 45 ∧ i = 11) ∨ (a = 53 ∧ 4 ≤ i ∧ i ≤ 8)) → W a i) (h : Hp) (ag_h : Ag W h0 h) : Fr W h0 (XX4_tryOne x1 x2 x3 h) := by
  unfold XX4_tryOne
  refine Fr_ite ?_ ?_
  · refine Fr_inb ?_
    exact fg_XX4_tryOne_p14 _ _ _ _ (fun a i hh => hW a i ((fun q => q.elim (fun q => Or.inl (by omega)) (fun q => q.elim (fun q => Or.inr (Or.inl (by omega))) (fun q => q.elim (fun q => Or.inr (Or.inr (Or.inl (by omega)))) (fun q => q.elim (fun q => Or.inr (Or.inr (Or.inr (Or.inl (by omega))))) (fun q => q.elim (fun q => Or.inr (Or.inr (Or.inr (Or.inr (Or.inl (by omega)))))) (fun q => Or.inr (Or.inr (Or.inr (Or.inr (Or.inr (by omega))))))))))) hh)) _ ag_h
  · exact fg_XX4_tryOne_p14 _ _ _ _ (fun a i hh => hW a i ((fun q => q.elim (fun q => Or.inl (by omega)) (fun q => q.elim (fun q => Or.inr (Or.inl (by omega))) (fun q => q.elim (fun q => Or.inr (Or.inr (Or.inl (by omega)))) (fun q => q.elim (fun q => Or.inr (Or.inr (Or.inr (Or.inl (by omega))))) (fun q => q.elim (fun q => Or.inr (Or.inr (Or.inr (Or.inr (Or.inl (by omega)))))) (fun q => Or.inr (Or.inr (Or.inr (Or.inr (Or.inr (by omega))))))))))) hh)) _ ag_h
theorem fr_XX4_tryOne {x1 : Int} {x2 : Int} {x3 : Int} {h : Hp} {r : Int} {h1 : Hp} (e : XX4_tryOne x1 x2 x3 h = some (r, h1)) (a i : Nat) (hn : ¬ (a = 47 ∨ a = 49 ∨ a = 52 ∨ (a = 45 ∧ i = 5) ∨ (a = 45 ∧ i = 11) ∨ (a = 53 ∧ 4 ≤ i ∧ i ≤ 8))) : h1 a i = h a i := fg_XX4_tryOne (W := fun a i => a = 47 ∨ a = 49 ∨ a = 52 ∨ (a = 45 ∧ i = 5) ∨ (a = 45 ∧ i = 11) ∨ (a = 53 ∧ 4 ≤ i ∧ i ≤ 8)) x1 x2 x3 (fun _ _ hh => hh) h (fun _ _ _ => rfl) r h1 e a i hn
theorem fg_XX4_tryTwos_b14 {W : Nat → Nat → Prop} {h0 : Hp} (self2 : Int → Hp → OR) (hs_self2 : ∀ (y0 : Int) (hh : Hp), Ag W h0 hh → Fr W h0 (self2 y0 hh)) (self14 : Int → Int → Hp → OR) (hs_self14 : ∀ (y0 y1 : Int) (hh : Hp), Ag W h0 hh → Fr W h0 (self14 y0 y1 hh)) (l2 : Int) (l3 : Int) (hW : ∀ a i : Nat, (a = 47 ∨ a = 49 ∨ a = 52 ∨ (a = 45 ∧ i = 5) ∨ (a = 45 ∧ i = 11) ∨ (a = 53 ∧ 4 ≤ i ∧ i ≤ 8)) → W a i) (h : Hp) (ag_h : Ag W h0 h) : Fr W h0 (XX4_tryTwos_b14 self2 self14 l2 l3 h) := by
  unfold XX4_tryTwos_b14
  refine Fr_ite ?_ ?_
  · refine Fr_chk ?_
    exact hs_self2 _ _ ag_h
  · refine Fr_inb ?_
    refine Fr_inb ?_
    refine Fr_cal (fg_XX4_tryOne _ _ _ (fun a i hh => hW a i ((fun q => q.elim (fun q => Or.inl (by omega)) (fun q => q.elim (fun q => Or.inr (Or.inl (by omega))) (fun q => q.elim (fun q => Or.inr (Or.inr (Or.inl (by omega)))) (fun q => q.elim (fun q => Or.inr (Or.inr (Or.inr (Or.inl (by omega))))) (fun q => q.elim (fun q => Or.inr (Or.inr (Or.inr (Or.inr (Or.inl (by omega)))))) (fun q => Or.inr (Or.inr (Or.inr (Or.inr (Or.inr (by omega))))))))))) hh)) _ ag_h) (fun r2 h3 ag_h3 => ?_)
    refine Fr_chk ?_
    exact hs_self14 _ _ _ ag_h3
theorem fg_XX4_tryTwos_L14 {W : Nat → Nat → Prop} {h0 : Hp} (self2 : Int → Hp → OR) (hs_self2 : ∀ (y0 : Int) (hh : Hp), Ag W h0 hh → Fr W h0 (self2 y0 hh)) (l2 : Int) (l3 : Int) (hW : ∀ a i : Nat, (a = 47 ∨ a = 49 ∨ a = 52 ∨ (a = 45 ∧ i = 5) ∨ (a = 45 ∧ i = 11) ∨ (a = 53 ∧ 4 ≤ i ∧ i ≤ 8)) → W a i) (h : Hp) (ag_h : Ag W h0 h) : Fr W h0 (XX4_tryTwos_L14 self2 l2 l3 h) := by
  unfold XX4_tryTwos_L14
  exact Fr_lup2 (fun self hs z0 z1 hh ag => fg_XX4_tryTwos_b14 self2 hs_self2 self hs z0 z1 hW hh ag) FU _ _ _ ag_h
theorem fg_XX4_tryTwos_b2 {W : Nat → Nat → Prop} {h0 : Hp} (self2 : Int → Hp → OR) (hs_self2 : ∀ (y0 : Int) (hh : Hp), Ag W h0 hh → Fr W h0 (self2 y0 hh)) (l2 : Int) (hW : ∀ a i : Nat, (a = 47 ∨ a = 49 ∨ a = 52 ∨ (a = 45 ∧ i = 5) ∨ (a = 45 ∧ i = 11) ∨ (a = 53 ∧ 4 ≤ i ∧ i ≤ 8)) → W a i) (h : Hp) (ag_h : Ag W h0 h) : Fr W h0 (XX4_tryTwos_b2 self2 l2 h) := by
  unfold XX4_tryTwos_b2
  refine Fr_ite ?_ ?_
  · exact Fr_some ag_h
  · refine Fr_chk ?_
    refine Fr_nm (fun v1 => ?_)
    exact fg_XX4_tryTwos_L14 _ hs_self2 _ _ (fun a i hh => hW a i ((fun q => q.elim (fun q => Or.inl (by omega)) (fun q => q.elim (fun q => Or.inr (Or.inl (by omega))) (fun q => q.elim (fun q => Or.inr (Or.inr (Or.inl (by omega)))) (fun q => q.elim (fun q => Or.inr (Or.inr (Or.inr (Or.inl (by omega))))) (fun q => q.elim (fun q => Or.inr (Or.inr (Or.inr (Or.inr (Or.inl (by omega)))))) (fun q => Or.inr (Or.inr (Or.inr (Or.inr (Or.inr (by omega))))))))))) hh)) _ ag_h
theorem fg_XX4_tryTwos_L2 {W : Nat → Nat → Prop} {h0 : Hp} (l2 : Int) (hW : ∀ a i : Nat, (a = 47 ∨ a = 49 ∨ a = 52 ∨ (a = 45 ∧ i = 5) ∨ (a = 45 ∧ i = 11) ∨ (a = 53 ∧ 4 ≤ i ∧ i ≤ 8)) → W a i) (h : Hp) (ag_h : Ag W h0 h) : Fr W h0 (XX4_tryTwos_L2 l2 h) := by
  unfold XX4_tryTwos_L2
  exact Fr_lup1 (fun self hs z0 hh ag => fg_XX4_tryTwos_b2 self hs z0 hW hh ag) FU _ _ ag_h
theorem fg_XX4_tryTwos {W : Nat → Nat → Prop} {h0 : Hp} (hW : ∀ a i : Nat, (a = 47 ∨ a = 49 ∨ a = 52 ∨ (a = 45 ∧ i = 5) ∨ (a = 45 ∧ i = 11) ∨ (a = 53 ∧ 4 ≤ i ∧ i ≤ 8)) → W a i) (h : Hp) (ag_h : Ag W h0 h) : Fr W h0 (XX4_tryTwos  h) := by
  unfold XX4_tryTwos
  exact fg_XX4_tryTwos_L2 _ (fun a i hh => hW a i ((fun q => q.elim (fun q => Or.inl (by omega)) (fun q => q.elim (fun q => Or.inr (Or.inl (by omega))) (fun q => q.elim (fun q => Or.inr (Or.inr (Or.inl (by omega)))) (fun q => q.elim (fun q => Or.inr (Or.inr (Or.inr (Or.inl (by omega))))) (fun q => q.elim (fun q => Or.inr (Or.inr (Or.inr (Or.inr (Or.inl (by omega)))))) (fun q => Or.inr (Or.inr (Or.inr (Or.inr (Or.inr (by omega))))))))))) hh)) _ ag_h
theorem fr_XX4_tryTwos {h : Hp} {r : Int} {h1 : Hp} (e : XX4_tryTwos  h = some (r, h1)) (a i : Nat) (hn : ¬ (a = 47 ∨ a = 49 ∨ a = 52 ∨ (a = 45 ∧ i = 5) ∨ (a = 45 ∧ i = 11) ∨ (a = 53 ∧ 4 ≤ i ∧ i ≤ 8))) : h1 a i = h a i := fg_XX4_tryTwos (W := fun a i => a = 47 ∨ a = 49 ∨ a = 52 ∨ (a = 45 ∧ i = 5) ∨ (a = 45 ∧ i = 11) ∨ (a = 53 ∧ 4 ≤ i ∧ i ≤ 8))  (fun _ _ hh => hh) h (fun _ _ _ => rfl) r h1 e a i hn
theorem fg_XX4_tryThrees_b27 {W : Nat → Nat → Prop} {h0 : Hp} (self2 : Int → Hp → OR) (hs_self2 : ∀ (y0 : Int) (hh : Hp), Ag W h0 hh → Fr W h0 (self2 y0 hh)) (self14 : Int → Int → Hp → OR) (hs_self14 : ∀ (y0 y1 : Int) (hh : Hp), Ag W h0 hh → Fr W h0 (self14 y0 y1 hh)) (self27 : Int → Int → Int → Hp → OR) (hs_self27 : ∀ (y0 y1 y2 : Int) (hh : Hp), Ag W h0 hh → Fr W h0 (self27 y0 y1 y2 hh)) (l2 : Int) (l3 : Int) (l4 : Int) (hW : ∀ a i : Nat, (a = 47 ∨ a = 49 ∨ a = 52 ∨ (a = 45 ∧ i = 5) ∨ (a = 45 ∧ i = 11) ∨ (a = 53 ∧ 4 ≤ i ∧ i ≤ 8)) → W a i) (h : Hp) (ag_h : Ag W h0 h) : Fr W h0 (XX4_tryThrees_b27 self2 self14 self27 l2 l3 l4 h) := by
  unfold XX4_tryThrees_b27
  refine Fr_ite ?_ ?_
  · refine Fr_chk ?_
    exact hs_self14 _ _ _ ag_h
  · refine Fr_inb ?_
    refine Fr_inb ?_
    refine Fr_inb ?_
    refine Fr_cal (fg_XX4_tryOne _ _ _ (fun a i hh => hW a i ((fun q => q.elim (fun q => Or.inl (by omega)) (fun q => q.elim (fun q => Or.inr (Or.inl (by omega))) (fun q => q.elim (fun q => Or.inr (Or.inr (Or.inl (by omega)))) (fun q => q.elim (fun q => Or.inr (Or.inr (Or.inr (Or.inl (by omega))))) (fun q => q.elim (fun q => Or.inr (Or.inr (Or.inr (Or.inr (Or.inl (by omega)))))) (fun q => Or.inr (Or.inr (Or.inr (Or.inr (Or.inr (by omega))))))))))) hh)) _ ag_h) (fun r3 h4 ag_h4 => ?_)
    refine Fr_chk ?_
    exact hs_self27 _ _ _ _ ag_h4
theorem fg_XX4_tryThrees_L27 {W : Nat → Nat → Prop} {h0 : Hp} (self2 : Int → Hp → OR) (hs_self2 : ∀ (y0 : Int) (hh : Hp), Ag W h0 hh → Fr W h0 (self2 y0 hh)) (self14 : Int → Int → Hp → OR) (hs_self14 : ∀ (y0 y1 : Int) (hh : Hp), Ag W h0 hh → Fr W h0 (self14 y0 y1 hh)) (l2 : Int) (l3 : Int) (l4 : Int) (hW : ∀ a i : Nat, (a = 47 ∨ a = 49 ∨ a = 52 ∨ (a = 45 ∧ i = 5) ∨ (a = 45 ∧ i = 11) ∨ (a = 53 ∧ 4 ≤ i ∧ i ≤ 8)) → W a i) (h : Hp) (ag_h : Ag W h0 h) : Fr W h0 (XX4_tryThrees_L27 self2 self14 l2 l3 l4 h) := by
  unfold XX4_tryThrees_L27
  exact Fr_lup3 (fun self hs z0 z1 z2 hh ag => fg_XX4_tryThrees_b27 self2 hs_self2 self14 hs_self14 self hs z0 z1 z2 hW hh ag) FU _ _ _ _ ag_h
theorem fg_XX4_tryThrees_b14 {W : Nat → Nat → Prop} {h0 : Hp} (self2 : Int → Hp → OR) (hs_self2 : ∀ (y0 : Int) (hh : Hp), Ag W h0 hh → Fr W h0 (self2 y0 hh)) (self14 : Int → Int → Hp → OR) (hs_self14 : ∀ (y0 y1 : Int) (hh : Hp), Ag W h0 hh → Fr W h0 (self14 y0 y1 hh)) (l2 : Int) (l3 : Int) (hW : ∀ a i : Nat, (a = 47 ∨ a = 49 ∨ a = 52 ∨ (a = 45 ∧ i = 5) ∨ (a = 45 ∧ i = 11) ∨ (a = 53 ∧ 4 ≤ i ∧ i ≤ 8)) → W a i) (h : Hp) (ag_h : Ag W h0 h) : Fr W h0 (XX4_tryThrees_b14 self2 self14 l2 l3 h) := by
  unfold XX4_tryThrees_b14
  refine Fr_ite ?_ ?_
  · refine Fr_chk ?_
    exact hs_self2 _ _ ag_h
  · refine Fr_chk ?_
    refine Fr_nm (fun v2 => ?_)
    exact fg_XX4_tryThrees_L27 _ hs_self2 _ hs_self14 _ _ _ (fun a i hh => hW a i ((fun q => q.elim (fun q => Or.inl (by omega)) (fun q => q.elim (fun q => Or.inr (Or.inl (by omega))) (fun q => q.elim (fun q => Or.inr (Or.inr (Or.inl (by omega)))) (fun q => q.elim (fun q => Or.inr (Or.inr (Or.inr (Or.inl (by omega))))) (fun q => q.elim (fun q => Or.inr (Or.inr (Or.inr (Or.inr (Or.inl (by omega)))))) (fun q => Or.inr (Or.inr (Or.inr (Or.inr (Or.inr (by omega))))))))))) hh)) _ ag_h
theorem fg_XX4_tryThrees_L14 {W : Nat → Nat → Prop} {h0 : Hp} (self2 : Int → Hp → OR) (hs_self2 : ∀ (y0 : Int) (hh : Hp), Ag W h0 hh → Fr W h0 (self2 y0 hh)) (l2 : Int) (l3 : Int) (hW : ∀ a i : Nat, (a = 47 ∨ a = 49 ∨ a = 52 ∨ (a = 45 ∧ i = 5) ∨ (a = 45 ∧ i = 11) ∨ (a = 53 ∧ 4 ≤ i ∧ i ≤ 8)) → W a i) (h : Hp) (ag_h : Ag W h0 h) : Fr W h0 (XX4_tryThrees_L14 self2 l2 l3 h) := by
  unfold XX4_tryThrees_L14
  exact Fr_lup2 (fun self hs z0 z1 hh ag => fg_XX4_tryThrees_b14 self2 hs_self2 self hs z0 z1 hW hh ag) FU _ _ _ ag_h
theorem fg_XX4_tryThrees_b2 {W : Nat → Nat → Prop} {h0 : Hp} (self2 : Int → Hp → OR) (hs_self2 : ∀ (y0 : Int) (hh : Hp), Ag W h0 hh → Fr W h0 (self2 y0 hh)) (l2 : Int) (hW : ∀ a i : Nat, (a = 47 ∨ a = 49 ∨ a = 52 ∨ (a = 45 ∧ i = 5) ∨ (a = 45 ∧ i = 11) ∨ (a = 53 ∧ 4 ≤ i ∧ i ≤ 8)) → W a i) (h : Hp) (ag_h : Ag W h0 h) : Fr W h0 (XX4_tryThrees_b2 self2 l2 h) := by
  unfold XX4_tryThrees_b2
  refine Fr_ite ?_ ?_
  · exact Fr_some ag_h
  · refine Fr_chk ?_
    refine Fr_nm (fun v1 => ?_)
    exact fg_XX4_tryThrees_L14 _ hs_self2 _ _ (fun a i hh => hW a i ((fun q => q.elim (fun q => Or.inl (by omega)) (fun q => q.elim (fun q => Or.inr (Or.inl (by omega))) (fun q => q.elim (fun q => Or.inr (Or.inr (Or.inl (by omega)))) (fun q => q.elim (fun q => Or.inr (Or.inr (Or.inr (Or.inl (by omega))))) (fun q => q.elim (fun q => Or.inr (Or.inr (Or.inr (Or.inr (Or.inl (by omega)))))) (fun q => Or.inr (Or.inr (Or.inr (Or.inr (Or.inr (by omega))))))))))) hh)) _ ag_h
theorem fg_XX4_tryThrees_L2 {W : Nat → Nat → Prop} {h0 : Hp} (l2 : Int) (hW : ∀ a i : Nat, (a = 47 ∨ a = 49 ∨ a = 52 ∨ (a = 45 ∧ i = 5) ∨ (a = 45 ∧ i = 11) ∨ (a = 53 ∧ 4 ≤ i ∧ i ≤ 8)) → W a i) (h : Hp) (ag_h : Ag W h0 h) : Fr W h0 (XX4_tryThrees_L2 l2 h) := by
  unfold XX4_tryThrees_L2
  exact Fr_lup1 (fun self hs z0 hh ag => fg_XX4_tryThrees_b2 self hs z0 hW hh ag) FU _ _ ag_h
theorem fg_XX4_tryThrees {W : Nat → Nat → Prop} {h0 : Hp} (hW : ∀ a i : Nat, (a = 47 ∨ a = 49 ∨ a = 52 ∨ (a = 45 ∧ i = 5) ∨ (a = 45 ∧ i = 11) ∨ (a = 53 ∧ 4 ≤ i ∧ i ≤ 8)) → W a i) (h : Hp) (ag_h : Ag W h0 h) : Fr W h0 (XX4_tryThrees  h) := by
  unfold XX4_tryThrees
  exact fg_XX4_tryThrees_L2 _ (fun a i hh => hW a i ((fun q => q.elim (fun q => Or.inl (by omega)) (fun q => q.elim (fun q => Or.inr (Or.inl (by omega))) (fun q => q.elim (fun q => Or.inr (Or.inr (Or.inl (by omega)))) (fun q => q.elim (fun q => Or.inr (Or.inr (Or.inr (Or.inl (by omega))))) (fun q => q.elim (fun q => Or.inr (Or.inr (Or.inr (Or.inr (Or.inl (by omega)))))) (fun q => Or.inr (Or.inr (Or.inr (Or.inr (Or.inr (by omega))))))))))) hh)) _ ag_h
theorem fr_XX4_tryThrees {h : Hp} {r : Int} {h1 : Hp} (e : XX4_tryThrees  h = some (r, h1)) (a i : Nat) (hn : ¬ (a = 47 ∨ a = 49 ∨ a = 52 ∨ (a = 45 ∧ i = 5) ∨ (a = 45 ∧ i = 11) ∨ (a = 53 ∧ 4 ≤ i ∧ i ≤ 8))) : h1 a i = h a i := fg_XX4_tryThrees (W := fun a i => a = 47 ∨ a = 49 ∨ a = 52 ∨ (a = 45 ∧ i = 5) ∨ (a = 45 ∧ i = 11) ∨ (a = 53 ∧ 4 ≤ i ∧ i ≤ 8))  (fun _ _ hh => hh) h (fun _ _ _ => rfl) r h1 e a i hn
theorem fg_XX4_search_p94 {W : Nat → Nat → Prop} {h0 : Hp} (hW : ∀ a i : Nat, (False) → W a i) (h : Hp) (ag_h : Ag W h0 h) : Fr W h0 (XX4_search_p94  h) := by
  unfold XX4_search_p94
  refine Fr_zb ?_
  exact Fr_some ag_h
theorem fg_XX4_search_b22 {W : Nat → Nat → Prop} {h0 : Hp} (self22 : Int → Hp → OR) (hs_self22 : ∀ (y0 : Int) (hh : Hp), Ag W h0 hh → Fr W h0 (self22 y0 hh)) (l4 : Int) (hW : ∀ a i : Nat, (a = 47 ∨ a = 49 ∨ a = 52 ∨ (a = 45 ∧ i = 5) ∨ (a = 45 ∧ i = 11) ∨ (a = 53 ∧ 4 ≤ i ∧ i ≤ 8)) → W a i) (h : Hp) (ag_h : Ag W h0 h) : Fr W h0 (XX4_search_b22 self22 l4 h) := by
  unfold XX4_search_b22
  refine Fr_ite ?_ ?_
  · refine Fr_cal (fg_XX4_tryTwos (fun a i hh => hW a i ((fun q => q.elim (fun q => Or.inl (by omega)) (fun q => q.elim (fun q => Or.inr (Or.inl (by omega))) (fun q => q.elim (fun q => Or.inr (Or.inr (Or.inl (by omega)))) (fun q => q.elim (fun q => Or.inr (Or.inr (Or.inr (Or.inl (by omega))))) (fun q => q.elim (fun q => Or.inr (Or.inr (Or.inr (Or.inr (Or.inl (by omega)))))) (fun q => Or.inr (Or.inr (Or.inr (Or.inr (Or.inr (by omega))))))))))) hh)) _ ag_h) (fun r6 h7 ag_h7 => ?_)
    refine Fr_cal (fg_XX4_tryThrees (fun a i hh => hW a i ((fun q => q.elim (fun q => Or.inl (by omega)) (fun q => q.elim (fun q => Or.inr (Or.inl (by omega))) (fun q => q.elim (fun q => Or.inr (Or.inr (Or.inl (by omega)))) (fun q => q.elim (fun q => Or.inr (Or.inr (Or.inr (Or.inl (by omega))))) (fun q => q.elim (fun q => Or.inr (Or.inr (Or.inr (Or.inr (Or.inl (by omega)))))) (fun q => Or.inr (Or.inr (Or.inr (Or.inr (Or.inr (by omega))))))))))) hh)) _ ag_h7) (fun r8 h9 ag_h9 => ?_)
    refine Fr_ite ?_ ?_
    · exact fg_XX4_search_p94 (fun a i hh => hh.elim) _ ag_h9
    · refine Fr_cal (fg_XX1_tell _ _ _ (fun a i hh => hW a i ((fun q => q.elim (fun q => Or.inl (by omega)) (fun q => Or.inr (Or.inr (Or.inr (Or.inl (by omega)))))) hh)) _ ag_h9) (fun r10 h11 ag_h11 => ?_)
      refine Fr_cal (fg_XX1_allow (fun a i hh => hW a i (Or.inr (Or.inl (by omega)))) _ ag_h11) (fun r12 h13 ag_h13 => ?_)
      refine Fr_cal (fg_XX1_choose (fun a i hh => hW a i ((fun q => q.elim (fun q => Or.inr (Or.inr (Or.inl (by omega)))) (fun q => Or.inr (Or.inr (Or.inr (Or.inr (Or.inl (by omega))))))) hh)) _ ag_h13) (fun r14 h15 ag_h15 => ?_)
      exact fg_XX4_search_p94 (fun a i hh => hh.elim) _ ag_h15
  · refine Fr_inb ?_
    refine Fr_cal (fg_XX4_tryOne _ _ _ (fun a i hh => hW a i ((fun q => q.elim (fun q => Or.inl (by omega)) (fun q => q.elim (fun q => Or.inr (Or.inl (by omega))) (fun q => q.elim (fun q => Or.inr (Or.inr (Or.inl (by omega)))) (fun q => q.elim (fun q => Or.inr (Or.inr (Or.inr (Or.inl (by omega))))) (fun q => q.elim (fun q => Or.inr (Or.inr (Or.inr (Or.inr (Or.inl (by omega)))))) (fun q => Or.inr (Or.inr (Or.inr (Or.inr (Or.inr (by omega))))))))))) hh)) _ ag_h) (fun r16 h17 ag_h17 => ?_)
    refine Fr_chk ?_
    exact hs_self22 _ _ ag_h17
theorem fg_XX4_search_L22 {W : Nat → Nat → Prop} {h0 : Hp} (l4 : Int) (hW : ∀ a i : Nat, (a = 47 ∨ a = 49 ∨ a = 52 ∨ (a = 45 ∧ i = 5) ∨ (a = 45 ∧ i = 11) ∨ (a = 53 ∧ 4 ≤ i ∧ i ≤ 8)) → W a i) (h : Hp) (ag_h : Ag W h0 h) : Fr W h0 (XX4_search_L22 l4 h) := by
  unfold XX4_search_L22
  exact Fr_lup1 (fun self hs z0 hh ag => fg_XX4_search_b22 self hs z0 hW hh ag) FU _ _ ag_h
theorem fg_XX4_search {W : Nat → Nat → Prop} {h0 : Hp} (x1 : Nat) (x2 : Int) (hW : ∀ a i : Nat, (a = 47 ∨ a = 49 ∨ a = 52 ∨ a = 55 ∨ (a = 45 ∧ i = 5) ∨ (a = 45 ∧ i = 11) ∨ (a = 53 ∧ 3 ≤ i ∧ i ≤ 8)) → W a i) (h : Hp) (ag_h : Ag W h0 h) : Fr W h0 (XX4_search x1 x2 h) := by
  unfold XX4_search
  refine Fr_cal (fg_XX4_listUsable _ _ (fun a i hh => hW a i ((fun q => q.elim (fun q => Or.inr (Or.inr (Or.inr (Or.inl (by omega))))) (fun q => Or.inr (Or.inr (Or.inr (Or.inr (Or.inr (Or.inr (by omega)))))))) hh)) _ ag_h) (fun r1 h2 ag_h2 => ?_)
  refine Fr_zb ?_
  refine Fr_wr ag_h2 (hW _ _ (Or.inr (Or.inr (Or.inr (Or.inr (Or.inr (Or.inr (by omega)))))))) (fun h3 ag_h3 => ?_)
  refine Fr_cal (fg_XX4_tryOne _ _ _ (fun a i hh => hW a i ((fun q => q.elim (fun q => Or.inl (by omega)) (fun q => q.elim (fun q => Or.inr (Or.inl (by omega))) (fun q => q.elim (fun q => Or.inr (Or.inr (Or.inl (by omega)))) (fun q => q.elim (fun q => Or.inr (Or.inr (Or.inr (Or.inr (Or.inl (by omega)))))) (fun q => q.elim (fun q => Or.inr (Or.inr (Or.inr (Or.inr (Or.inr (Or.inl (by omega))))))) (fun q => Or.inr (Or.inr (Or.inr (Or.inr (Or.inr (Or.inr (by omega)))))))))))) hh)) _ ag_h3) (fun r4 h5 ag_h5 => ?_)
  exact fg_XX4_search_L22 _ (fun a i hh => hW a i ((fun q => q.elim (fun q => Or.inl (by omega)) (fun q => q.elim (fun q => Or.inr (Or.inl (by omega))) (fun q => q.elim (fun q => Or.inr (Or.inr (Or.inl (by omega)))) (fun q => q.elim (fun q => Or.inr (Or.inr (Or.inr (Or.inr (Or.inl (by omega)))))) (fun q => q.elim (fun q => Or.inr (Or.inr (Or.inr (Or.inr (Or.inr (Or.inl (by omega))))))) (fun q => Or.inr (Or.inr (Or.inr (Or.inr (Or.inr (Or.inr (by omega)))))))))))) hh)) _ ag_h5
theorem fr_XX4_search {x1 : Nat} {x2 : Int} {h : Hp} {r : Int} {h1 : Hp} (e : XX4_search x1 x2 h = some (r, h1)) (a i : Nat) (hn : ¬ (a = 47 ∨ a = 49 ∨ a = 52 ∨ a = 55 ∨ (a = 45 ∧ i = 5) ∨ (a = 45 ∧ i = 11) ∨ (a = 53 ∧ 3 ≤ i ∧ i ≤ 8))) : h1 a i = h a i := fg_XX4_search (W := fun a i => a = 47 ∨ a = 49 ∨ a = 52 ∨ a = 55 ∨ (a = 45 ∧ i = 5) ∨ (a = 45 ∧ i = 11) ∨ (a = 53 ∧ 3 ≤ i ∧ i ≤ 8)) x1 x2 (fun _ _ hh => hh) h (fun _ _ _ => rfl) r h1 e a i hn
theorem fg_XX7_drop {W : Nat → Nat → Prop} {h0 : Hp} (hW : ∀ a i : Nat, ((a = 56 ∧ i = 0)) → W a i) (h : Hp) (ag_h : Ag W h0 h) : Fr W h0 (XX7_drop  h) := by
  unfold XX7_drop
  refine Fr_zb ?_
  refine Fr_wr ag_h (hW _ _ (by omega)) (fun h1 ag_h1 => ?_)
  exact Fr_some ag_h1
theorem fr_XX7_drop {h : Hp} {r : Int} {h1 : Hp} (e : XX7_drop  h = some (r, h1)) (a i : Nat) (hn : ¬ ((a = 56 ∧ i = 0))) : h1 a i = h a i := fg_XX7_drop (W := fun a i => (a = 56 ∧ i = 0))  (fun _ _ hh => hh) h (fun _ _ _ => rfl) r h1 e a i hn
theorem fg_XX7_grow_p91 {W : Nat → Nat → Prop} {h0 : Hp} (rec : Int → Int → Int → Hp → OR) (hs_rec : ∀ (y0 y1 y2 : Int) (hh : Hp), Ag W h0 hh → Fr W h0 (rec y0 y1 y2 hh)) (l2 : Int) (l6 : Int) (l7 : Int) (s0 : Int) (hW : ∀ a i : Nat, ((61 ≤ a ∧ a ≤ 65) ∨ (a = 56 ∧ i = 8)) → W a i) (h : Hp) (ag_h : Ag W h0 h) : Fr W h0 (XX7_grow_p91 rec l2 l6 l7 s0 h) := by
  unfold XX7_grow_p91
  refine Fr_ite ?_ ?_
  · refine Fr_inb ?_
    refine Fr_wr ag_h (hW _ _ (Or.inl (by omega))) (fun h10 ag_h10 => ?_)
    refine Fr_inb ?_
    refine Fr_wr ag_h10 (hW _ _ (Or.inl (by omega))) (fun h11 ag_h11 => ?_)
    refine Fr_inb ?_
    refine Fr_wr ag_h11 (hW _ _ (Or.inl (by omega))) (fun h12 ag_h12 => ?_)
    refine Fr_inb ?_
    refine Fr_wr ag_h12 (hW _ _ (Or.inl (by omega))) (fun h13 ag_h13 => ?_)
    refine Fr_inb ?_
    refine Fr_wr ag_h13 (hW _ _ (Or.inl (by omega))) (fun h14 ag_h14 => ?_)
    refine Fr_chk ?_
    refine Fr_wr ag_h14 (hW _ _ (Or.inr (by omega))) (fun h15 ag_h15 => ?_)
    refine Fr_chk ?_
    exact Fr_some ag_h15
  · exact Fr_some ag_h
theorem fg_XX7_grow_r {W : Nat → Nat → Prop} {h0 : Hp} (rec : Int → Int → Int → Hp → OR) (hs_rec : ∀ (y0 y1 y2 : Int) (hh : Hp), Ag W h0 hh → Fr W h0 (rec y0 y1 y2 hh)) (x0 : Int) (x1 : Int) (x2 : Int) (hW : ∀ a i : Nat, ((61 ≤ a ∧ a ≤ 65) ∨ (a = 56 ∧ i = 8)) → W a i) (h : Hp) (ag_h : Ag W h0 h) : Fr W h0 (XX7_grow_r rec x0 x1 x2 h) := by
  unfold XX7_grow_r
  refine Fr_cal (fg_XX2_leafOf _ _ (fun a i hh => hh.elim) _ ag_h) (fun r1 h2 ag_h2 => ?_)
  refine Fr_ite ?_ ?_
  · refine Fr_cal (fg_XX2_split _ _ (fun a i hh => hh.elim) _ ag_h2) (fun r3 h4 ag_h4 => ?_)
    refine Fr_ite ?_ ?_
    · exact Fr_some ag_h4
    · refine Fr_ite ?_ ?_
      · refine Fr_nm (fun v5 => ?_)
        refine Fr_chk ?_
        refine Fr_cal (hs_rec _ _ _ _ ag_h4) (fun r6 h7 ag_h7 => ?_)
        refine Fr_ite ?_ ?_
        · exact fg_XX7_grow_p91 _ hs_rec _ _ _ _ (fun a i hh => hW a i ((fun q => q.elim (fun q => Or.inl (by omega)) (fun q => Or.inr (by omega))) hh)) _ ag_h7
        · refine Fr_chk ?_
          refine Fr_cal (hs_rec _ _ _ _ ag_h7) (fun r8 h9 ag_h9 => ?_)
          exact fg_XX7_grow_p91 _ hs_rec _ _ _ _ (fun a i hh => hW a i ((fun q => q.elim (fun q => Or.inl (by omega)) (fun q => Or.inr (by omega))) hh)) _ ag_h9
      · exact Fr_some ag_h4
  · exact Fr_some ag_h2
theorem fg_XX7_grow {W : Nat → Nat → Prop} {h0 : Hp} (hW : ∀ a i : Nat, ((61 ≤ a ∧ a ≤ 65) ∨ (a = 56 ∧ i = 8)) → W a i) (n : Nat) : ∀ (x0 x1 x2 : Int) (h : Hp) (ag_h : Ag W h0 h), Fr W h0 (XX7_grow n x0 x1 x2 h) := by
  induction n with
  | zero => intro x0 x1 x2 h _ r h1 e; exact absurd e (by simp [XX7_grow])
  | succ n ih => intro x0 x1 x2 h ag_h; exact fg_XX7_grow_r (XX7_grow n) ih x0 x1 x2 hW h ag_h
theorem fr_XX7_grow {n : Nat} {x0 : Int} {x1 : Int} {x2 : Int} {h : Hp} {r : Int} {h1 : Hp} (e : XX7_grow n x0 x1 x2 h = some (r, h1)) (a i : Nat) (hn : ¬ ((61 ≤ a ∧ a ≤ 65) ∨ (a = 56 ∧ i = 8))) : h1 a i = h a i := fg_XX7_grow (W := fun a i => (61 ≤ a ∧ a ≤ 65) ∨ (a = 56 ∧ i = 8)) (fun _ _ hh => hh) n x0 x1 x2 h (fun _ _ _ => rfl) r h1 e a i hn
theorem fg_XX7_keep_b67 {W : Nat → Nat → Prop} {h0 : Hp} (self67 : Int → Hp → OR) (hs_self67 : ∀ (y0 : Int) (hh : Hp), Ag W h0 hh → Fr W h0 (self67 y0 hh)) (l2 : Int) (hW : ∀ a i : Nat, ((59 ≤ a ∧ a ≤ 65) ∨ (a = 56 ∧ i = 8)) → W a i) (h : Hp) (ag_h : Ag W h0 h) : Fr W h0 (XX7_keep_b67 self67 l2 h) := by
  unfold XX7_keep_b67
  refine Fr_ite ?_ ?_
  · exact Fr_some ag_h
  · refine Fr_inb ?_
    refine Fr_inb ?_
    refine Fr_wr ag_h (hW _ _ (Or.inl (by omega))) (fun h8 ag_h8 => ?_)
    refine Fr_inb ?_
    refine Fr_cal (fg_XX7_grow (fun a i hh => hW a i ((fun q => q.elim (fun q => Or.inl (by omega)) (fun q => Or.inr (by omega))) hh)) _ _ _ _ _ ag_h8) (fun r9 h10 ag_h10 => ?_)
    refine Fr_inb ?_
    refine Fr_wr ag_h10 (hW _ _ (Or.inl (by omega))) (fun h11 ag_h11 => ?_)
    refine Fr_chk ?_
    exact hs_self67 _ _ ag_h11
theorem fg_XX7_keep_L67 {W : Nat → Nat → Prop} {h0 : Hp} (l2 : Int) (hW : ∀ a i : Nat, ((59 ≤ a ∧ a ≤ 65) ∨ (a = 56 ∧ i = 8)) → W a i) (h : Hp) (ag_h : Ag W h0 h) : Fr W h0 (XX7_keep_L67 l2 h) := by
  unfold XX7_keep_L67
  exact Fr_lup1 (fun self hs z0 hh ag => fg_XX7_keep_b67 self hs z0 hW hh ag) FU _ _ ag_h
theorem fg_XX7_keep {W : Nat → Nat → Prop} {h0 : Hp} (hW : ∀ a i : Nat, ((57 ≤ a ∧ a ≤ 65) ∨ (a = 56 ∧ 0 ≤ i ∧ i ≤ 1) ∨ (a = 56 ∧ i = 3) ∨ (a = 56 ∧ i = 5) ∨ (a = 56 ∧ i = 8)) → W a i) (h : Hp) (ag_h : Ag W h0 h) : Fr W h0 (XX7_keep  h) := by
  unfold XX7_keep
  refine Fr_zb ?_
  refine Fr_wr ag_h (hW _ _ (Or.inr (Or.inl (by omega)))) (fun h1 ag_h1 => ?_)
  refine Fr_zb ?_
  refine Fr_wr ag_h1 (hW _ _ (Or.inr (Or.inl (by omega)))) (fun h2 ag_h2 => ?_)
  refine Fr_wr ag_h2 (hW _ _ (Or.inr (Or.inr (Or.inl (by omega))))) (fun h3 ag_h3 => ?_)
  refine Fr_wr ag_h3 (hW _ _ (Or.inr (Or.inr (Or.inr (Or.inl (by omega)))))) (fun h4 ag_h4 => ?_)
  refine Fr_acp ?_
  refine Fr_cpy ag_h4 (fun q => hW _ _ (Or.inl (by omega))) (fun h5 ag_h5 => ?_)
  refine Fr_acp ?_
  refine Fr_cpy ag_h5 (fun q => hW _ _ (Or.inl (by omega))) (fun h6 ag_h6 => ?_)
  refine Fr_wr ag_h6 (hW _ _ (Or.inr (Or.inr (Or.inr (Or.inr (by omega)))))) (fun h7 ag_h7 => ?_)
  exact fg_XX7_keep_L67 _ (fun a i hh => hW a i ((fun q => q.elim (fun q => Or.inl (by omega)) (fun q => Or.inr (Or.inr (Or.inr (Or.inr (by omega)))))) hh)) _ ag_h7
theorem fr_XX7_keep {h : Hp} {r : Int} {h1 : Hp} (e : XX7_keep  h = some (r, h1)) (a i : Nat) (hn : ¬ ((57 ≤ a ∧ a ≤ 65) ∨ (a = 56 ∧ 0 ≤ i ∧ i ≤ 1) ∨ (a = 56 ∧ i = 3) ∨ (a = 56 ∧ i = 5) ∨ (a = 56 ∧ i = 8))) : h1 a i = h a i := fg_XX7_keep (W := fun a i => (57 ≤ a ∧ a ≤ 65) ∨ (a = 56 ∧ 0 ≤ i ∧ i ≤ 1) ∨ (a = 56 ∧ i = 3) ∨ (a = 56 ∧ i = 5) ∨ (a = 56 ∧ i = 8))  (fun _ _ hh => hh) h (fun _ _ _ => rfl) r h1 e a i hn
theorem fg_XX7_gatesToAdd_p42 {W : Nat → Nat → Prop} {h0 : Hp} (self7 : Int → Int → Hp → OR) (hs_self7 : ∀ (y0 y1 : Int) (hh : Hp), Ag W h0 hh → Fr W h0 (self7 y0 y1 hh)) (l1 : Int) (l2 : Int) (hW : ∀ a i : Nat, (False) → W a i) (h : Hp) (ag_h : Ag W h0 h) : Fr W h0 (XX7_gatesToAdd_p42 self7 l1 l2 h) := by
  unfold XX7_gatesToAdd_p42
  refine Fr_chk ?_
  exact hs_self7 _ _ _ ag_h
theorem fg_XX7_gatesToAdd_p39 {W : Nat → Nat → Prop} {h0 : Hp} (self7 : Int → Int → Hp → OR) (hs_self7 : ∀ (y0 y1 : Int) (hh : Hp), Ag W h0 hh → Fr W h0 (self7 y0 y1 hh)) (l1 : Int) (l2 : Int) (hW : ∀ a i : Nat, (False) → W a i) (h : Hp) (ag_h : Ag W h0 h) : Fr W h0 (XX7_gatesToAdd_p39 self7 l1 l2 h) := by
  unfold XX7_gatesToAdd_p39
  refine Fr_chk ?_
  exact fg_XX7_gatesToAdd_p42 _ hs_self7 _ _ (fun a i hh => hh.elim) _ ag_h
theorem fg_XX7_gatesToAdd_b7 {W : Nat → Nat → Prop} {h0 : Hp} (self7 : Int → Int → Hp → OR) (hs_self7 : ∀ (y0 y1 : Int) (hh : Hp), Ag W h0 hh → Fr W h0 (self7 y0 y1 hh)) (l1 : Int) (l2 : Int) (hW : ∀ a i : Nat, (False) → W a i) (h : Hp) (ag_h : Ag W h0 h) : Fr W h0 (XX7_gatesToAdd_b7 self7 l1 l2 h) := by
  unfold XX7_gatesToAdd_b7
  refine Fr_ite ?_ ?_
  · exact Fr_some ag_h
  · refine Fr_inb ?_
    refine Fr_ite ?_ ?_
    · exact fg_XX7_gatesToAdd_p39 _ hs_self7 _ _ (fun a i hh => hh.elim) _ ag_h
    · refine Fr_inb ?_
      refine Fr_ite ?_ ?_
      · exact fg_XX7_gatesToAdd_p39 _ hs_self7 _ _ (fun a i hh => hh.elim) _ ag_h
      · exact fg_XX7_gatesToAdd_p42 _ hs_self7 _ _ (fun a i hh => hh.elim) _ ag_h
theorem fg_XX7_gatesToAdd_L7 {W : Nat → Nat → Prop} {h0 : Hp} (l1 : Int) (l2 : Int) (hW : ∀ a i : Nat, (False) → W a i) (h : Hp) (ag_h : Ag W h0 h) : Fr W h0 (XX7_gatesToAdd_L7 l1 l2 h) := by
  unfold XX7_gatesToAdd_L7
  exact Fr_lup2 (fun self hs z0 z1 hh ag => fg_XX7_gatesToAdd_b7 self hs z0 z1 hW hh ag) FU _ _ _ ag_h
theorem fg_XX7_gatesToAdd {W : Nat → Nat → Prop} {h0 : Hp} (hW : ∀ a i : Nat, (False) → W a i) (h : Hp) (ag_h : Ag W h0 h) : Fr W h0 (XX7_gatesToAdd  h) := by
  unfold XX7_gatesToAdd
  refine Fr_nm (fun v1 => ?_)
  exact fg_XX7_gatesToAdd_L7 _ _ (fun a i hh => hh.elim) _ ag_h
theorem fr_XX7_gatesToAdd {h : Hp} {r : Int} {h1 : Hp} (e : XX7_gatesToAdd  h = some (r, h1)) (a i : Nat) (hn : ¬ (False)) : h1 a i = h a i := fg_XX7_gatesToAdd (W := fun a i => False)  (fun _ _ hh => hh) h (fun _ _ _ => rfl) r h1 e a i hn
theorem fe_XX7_gatesToAdd {h : Hp} {r : Int} {h1 : Hp} (e : XX7_gatesToAdd  h = some (r, h1)) : h1 = h := funext (fun a => funext (fun i => fr_XX7_gatesToAdd e a i (fun hh => hh)))
theorem fg_XX9_use {W : Nat → Nat → Prop} {h0 : Hp} (x0 : Int) (hW : ∀ a i : Nat, ((a = 67 ∧ i = 1)) → W a i) (h : Hp) (ag_h : Ag W h0 h) : Fr W h0 (XX9_use x0 h) := by
  unfold XX9_use
  refine Fr_ite ?_ ?_
  · exact Fr_some ag_h
  · refine Fr_ite ?_ ?_
    · refine Fr_wr ag_h (hW _ _ (by omega)) (fun h1 ag_h1 => ?_)
      refine Fr_inb ?_
      exact Fr_some ag_h1
    · exact Fr_some ag_h
theorem fr_XX9_use {x0 : Int} {h : Hp} {r : Int} {h1 : Hp} (e : XX9_use x0 h = some (r, h1)) (a i : Nat) (hn : ¬ ((a = 67 ∧ i = 1))) : h1 a i = h a i := fg_XX9_use (W := fun a i => (a = 67 ∧ i = 1)) x0 (fun _ _ hh => hh) h (fun _ _ _ => rfl) r h1 e a i hn
theorem fg_XX7_wireOf_p19 {W : Nat → Nat → Prop} {h0 : Hp} (l1 : Int) (hW : ∀ a i : Nat, (False) → W a i) (h : Hp) (ag_h : Ag W h0 h) : Fr W h0 (XX7_wireOf_p19 l1 h) := by
  unfold XX7_wireOf_p19
  refine Fr_ite ?_ ?_
  · exact Fr_some ag_h
  · refine Fr_chk ?_
    refine Fr_ite ?_ ?_
    · exact Fr_some ag_h
    · refine Fr_chk ?_
      refine Fr_inb ?_
      exact Fr_some ag_h
theorem fg_XX7_wireOf {W : Nat → Nat → Prop} {h0 : Hp} (x0 : Int) (hW : ∀ a i : Nat, (False) → W a i) (h : Hp) (ag_h : Ag W h0 h) : Fr W h0 (XX7_wireOf x0 h) := by
  unfold XX7_wireOf
  refine Fr_ite ?_ ?_
  · exact fg_XX7_wireOf_p19 _ (fun a i hh => hh.elim) _ ag_h
  · refine Fr_ite ?_ ?_
    · exact fg_XX7_wireOf_p19 _ (fun a i hh => hh.elim) _ ag_h
    · refine Fr_inb ?_
      exact Fr_some ag_h
theorem fr_XX7_wireOf {x0 : Int} {h : Hp} {r : Int} {h1 : Hp} (e : XX7_wireOf x0 h = some (r, h1)) (a i : Nat) (hn : ¬ (False)) : h1 a i = h a i := fg_XX7_wireOf (W := fun a i => False) x0 (fun _ _ hh => hh) h (fun _ _ _ => rfl) r h1 e a i hn
theorem fe_XX7_wireOf {x0 : Int} {h : Hp} {r : Int} {h1 : Hp} (e : XX7_wireOf x0 h = some (r, h1)) : h1 = h := funext (fun a => funext (fun i => fr_XX7_wireOf e a i (fun hh => hh)))
theorem fg_XX7_addTree_p57 {W : Nat → Nat → Prop} {h0 : Hp} (b0 : Nat) (l4 : Int) (s1 : Int) (hW : ∀ a i : Nat, ((a = b0 ∧ i = 3) ∨ a = b0 + 1 ∨ a = b0 + 2 ∨ a = b0 + 4) → W a i) (h : Hp) (ag_h : Ag W h0 h) : Fr W h0 (XX7_addTree_p57 b0 l4 s1 h) := by
  unfold XX7_addTree_p57
  refine Fr_cal (fg_XX8_addGate _ _ _ _ _ _ (fun a i hh => hW a i ((fun q => q.elim (fun q => Or.inl (by omega)) (fun q => q.elim (fun q => Or.inr (Or.inl (by omega))) (fun q => q.elim (fun q => Or.inr (Or.inr (Or.inl (by omega)))) (fun q => Or.inr (Or.inr (Or.inr (by omega))))))) hh)) _ ag_h) (fun r2 h3 ag_h3 => ?_)
  exact Fr_some ag_h3
theorem fg_XX7_addTree_p37 {W : Nat → Nat → Prop} {h0 : Hp} (a2 : Nat) (l1 : Int) (l4 : Int) (hW : ∀ a i : Nat, ((a = a2 ∧ i = 3) ∨ a = a2 + 1 ∨ a = a2 + 2 ∨ a = a2 + 4) → W a i) (h : Hp) (ag_h : Ag W h0 h) : Fr W h0 (XX7_addTree_p37 a2 l1 l4 h) := by
  unfold XX7_addTree_p37
  refine Fr_inb ?_
  refine Fr_ite ?_ ?_
  · exact fg_XX7_addTree_p57 _ _ _ (fun a i hh => hW a i ((fun q => q.elim (fun q => Or.inl (by omega)) (fun q => q.elim (fun q => Or.inr (Or.inl (by omega))) (fun q => q.elim (fun q => Or.inr (Or.inr (Or.inl (by omega)))) (fun q => Or.inr (Or.inr (Or.inr (by omega))))))) hh)) _ ag_h
  · exact fg_XX7_addTree_p57 _ _ _ (fun a i hh => hW a i ((fun q => q.elim (fun q => Or.inl (by omega)) (fun q => q.elim (fun q => Or.inr (Or.inl (by omega))) (fun q => q.elim (fun q => Or.inr (Or.inr (Or.inl (by omega)))) (fun q => Or.inr (Or.inr (Or.inr (by omega))))))) hh)) _ ag_h
theorem fg_XX7_addTree_p157 {W : Nat → Nat → Prop} {h0 : Hp} (a2 : Nat) (self69 : Int → Int → Int → Hp → OR) (hs_self69 : ∀ (y0 y1 y2 : Int) (hh : Hp), Ag W h0 hh → Fr W h0 (self69 y0 y1 y2 hh)) (l1 : Int) (l4 : Int) (l5 : Int) (hW : ∀ a i : Nat, (False) → W a i) (h : Hp) (ag_h : Ag W h0 h) : Fr W h0 (XX7_addTree_p157 a2 self69 l1 l4 l5 h) := by
  unfold XX7_addTree_p157
  refine Fr_chk ?_
  exact hs_self69 _ _ _ _ ag_h
theorem fg_XX7_addTree_p112 {W : Nat → Nat → Prop} {h0 : Hp} (a2 : Nat) (self69 : Int → Int → Int → Hp → OR) (hs_self69 : ∀ (y0 y1 y2 : Int) (hh : Hp), Ag W h0 hh → Fr W h0 (self69 y0 y1 y2 hh)) (l1 : Int) (l4 : Int) (l5 : Int) (s0 : Int) (hW : ∀ a i : Nat, (a = 66 ∨ (a = a2 ∧ i = 3) ∨ a = a2 + 1 ∨ a = a2 + 2 ∨ a = a2 + 4) → W a i) (h : Hp) (ag_h : Ag W h0 h) : Fr W h0 (XX7_addTree_p112 a2 self69 l1 l4 l5 s0 h) := by
  unfold XX7_addTree_p112
  refine Fr_inb ?_
  refine Fr_inb ?_
  refine Fr_cal (fg_XX7_wireOf _ (fun a i hh => hh.elim) _ ag_h) (fun r6 h7 ag_h7 => ?_)
  refine Fr_inb ?_
  refine Fr_cal (fg_XX7_wireOf _ (fun a i hh => hh.elim) _ ag_h7) (fun r8 h9 ag_h9 => ?_)
  refine Fr_cal (fg_XX8_addGate _ _ _ _ _ _ (fun a i hh => hW a i ((fun q => q.elim (fun q => Or.inr (Or.inl (by omega))) (fun q => q.elim (fun q => Or.inr (Or.inr (Or.inl (by omega)))) (fun q => q.elim (fun q => Or.inr (Or.inr (Or.inr (Or.inl (by omega))))) (fun q => Or.inr (Or.inr (Or.inr (Or.inr (by omega)))))))) hh)) _ ag_h9) (fun r10 h11 ag_h11 => ?_)
  refine Fr_inb ?_
  refine Fr_wr ag_h11 (hW _ _ (Or.inl (by omega))) (fun h12 ag_h12 => ?_)
  exact fg_XX7_addTree_p157 _ _ hs_self69 _ _ _ (fun a i hh => hh.elim) _ ag_h12
theorem fg_XX7_addTree_b69 {W : Nat → Nat → Prop} {h0 : Hp} (a2 : Nat) (self69 : Int → Int → Int → Hp → OR) (hs_self69 : ∀ (y0 y1 y2 : Int) (hh : Hp), Ag W h0 hh → Fr W h0 (self69 y0 y1 y2 hh)) (l1 : Int) (l4 : Int) (l5 : Int) (hW : ∀ a i : Nat, (a = 66 ∨ (a = 67 ∧ i = 1) ∨ (a = a2 ∧ i = 3) ∨ a = a2 + 1 ∨ a = a2 + 2 ∨ a = a2 + 4) → W a i) (h : Hp) (ag_h : Ag W h0 h) : Fr W h0 (XX7_addTree_b69 a2 self69 l1 l4 l5 h) := by
  unfold XX7_addTree_b69
  refine Fr_ite ?_ ?_
  · refine Fr_inb ?_
    refine Fr_cal (fg_XX7_wireOf _ (fun a i hh => hh.elim) _ ag_h) (fun r4 h5 ag_h5 => ?_)
    exact Fr_some ag_h5
  · refine Fr_inb ?_
    refine Fr_ite ?_ ?_
    · refine Fr_ite ?_ ?_
      · exact fg_XX7_addTree_p112 _ _ hs_self69 _ _ _ _ (fun a i hh => hW a i ((fun q => q.elim (fun q => Or.inl (by omega)) (fun q => q.elim (fun q => Or.inr (Or.inr (Or.inl (by omega)))) (fun q => q.elim (fun q => Or.inr (Or.inr (Or.inr (Or.inl (by omega))))) (fun q => q.elim (fun q => Or.inr (Or.inr (Or.inr (Or.inr (Or.inl (by omega)))))) (fun q => Or.inr (Or.inr (Or.inr (Or.inr (Or.inr (by omega)))))))))) hh)) _ ag_h
      · refine Fr_inb ?_
        refine Fr_cal (fg_XX9_use _ (fun a i hh => hW a i (Or.inr (Or.inl (by omega)))) _ ag_h) (fun r13 h14 ag_h14 => ?_)
        exact fg_XX7_addTree_p112 _ _ hs_self69 _ _ _ _ (fun a i hh => hW a i ((fun q => q.elim (fun q => Or.inl (by omega)) (fun q => q.elim (fun q => Or.inr (Or.inr (Or.inl (by omega)))) (fun q => q.elim (fun q => Or.inr (Or.inr (Or.inr (Or.inl (by omega))))) (fun q => q.elim (fun q => Or.inr (Or.inr (Or.inr (Or.inr (Or.inl (by omega)))))) (fun q => Or.inr (Or.inr (Or.inr (Or.inr (Or.inr (by omega)))))))))) hh)) _ ag_h14
    · exact fg_XX7_addTree_p157 _ _ hs_self69 _ _ _ (fun a i hh => hh.elim) _ ag_h
theorem fg_XX7_addTree_L69 {W : Nat → Nat → Prop} {h0 : Hp} (a2 : Nat) (l1 : Int) (l4 : Int) (l5 : Int) (hW : ∀ a i : Nat, (a = 66 ∨ (a = 67 ∧ i = 1) ∨ (a = a2 ∧ i = 3) ∨ a = a2 + 1 ∨ a = a2 + 2 ∨ a = a2 + 4) → W a i) (h : Hp) (ag_h : Ag W h0 h) : Fr W h0 (XX7_addTree_L69 a2 l1 l4 l5 h) := by
  unfold XX7_addTree_L69
  exact Fr_lup3 (fun self hs z0 z1 z2 hh ag => fg_XX7_addTree_b69 a2 self hs z0 z1 z2 hW hh ag) FU _ _ _ _ ag_h
theorem fg_XX7_addTree {W : Nat → Nat → Prop} {h0 : Hp} (x0 : Int) (x1 : Nat) (hW : ∀ a i : Nat, (a = 66 ∨ (a = 67 ∧ i = 1) ∨ (a = x1 ∧ i = 3) ∨ a = x1 + 1 ∨ a = x1 + 2 ∨ a = x1 + 4) → W a i) (h : Hp) (ag_h : Ag W h0 h) : Fr W h0 (XX7_addTree x0 x1 h) := by
  unfold XX7_addTree
  refine Fr_inb ?_
  refine Fr_inb ?_
  refine Fr_nm (fun v1 => ?_)
  refine Fr_inb ?_
  refine Fr_ite ?_ ?_
  · exact fg_XX7_addTree_p37 _ _ _ (fun a i hh => hW a i ((fun q => q.elim (fun q => Or.inr (Or.inr (Or.inl (by omega)))) (fun q => q.elim (fun q => Or.inr (Or.inr (Or.inr (Or.inl (by omega))))) (fun q => q.elim (fun q => Or.inr (Or.inr (Or.inr (Or.inr (Or.inl (by omega)))))) (fun q => Or.inr (Or.inr (Or.inr (Or.inr (Or.inr (by omega))))))))) hh)) _ ag_h
  · refine Fr_inb ?_
    refine Fr_ite ?_ ?_
    · exact fg_XX7_addTree_p37 _ _ _ (fun a i hh => hW a i ((fun q => q.elim (fun q => Or.inr (Or.inr (Or.inl (by omega)))) (fun q => q.elim (fun q => Or.inr (Or.inr (Or.inr (Or.inl (by omega))))) (fun q => q.elim (fun q => Or.inr (Or.inr (Or.inr (Or.inr (Or.inl (by omega)))))) (fun q => Or.inr (Or.inr (Or.inr (Or.inr (Or.inr (by omega))))))))) hh)) _ ag_h
    · exact fg_XX7_addTree_L69 _ _ _ _ (fun a i hh => hW a i ((fun q => q.elim (fun q => Or.inl (by omega)) (fun q => q.elim (fun q => Or.inr (Or.inl (by omega))) (fun q => q.elim (fun q => Or.inr (Or.inr (Or.inl (by omega)))) (fun q => q.elim (fun q => Or.inr (Or.inr (Or.inr (Or.inl (by omega))))) (fun q => q.elim (fun q => Or.inr (Or.inr (Or.inr (Or.inr (Or.inl (by omega)))))) (fun q => Or.inr (Or.inr (Or.inr (Or.inr (Or.inr (by omega))))))))))) hh)) _ ag_h
theorem fr_XX7_addTree {x0 : Int} {x1 : Nat} {h : Hp} {r : Int} {h1 : Hp} (e : XX7_addTree x0 x1 h = some (r, h1)) (a i : Nat) (hn : ¬ (a = 66 ∨ (a = 67 ∧ i = 1) ∨ (a = x1 ∧ i = 3) ∨ a = x1 + 1 ∨ a = x1 + 2 ∨ a = x1 + 4)) : h1 a i = h a i := fg_XX7_addTree (W := fun a i => a = 66 ∨ (a = 67 ∧ i = 1) ∨ (a = x1 ∧ i = 3) ∨ a = x1 + 1 ∨ a = x1 + 2 ∨ a = x1 + 4) x0 x1 (fun _ _ hh => hh) h (fun _ _ _ => rfl) r h1 e a i hn
theorem fg_XX9_start {W : Nat → Nat → Prop} {h0 : Hp} (hW : ∀ a i : Nat, ((a = 67 ∧ 0 ≤ i ∧ i ≤ 1)) → W a i) (h : Hp) (ag_h : Ag W h0 h) : Fr W h0 (XX9_start  h) := by
  unfold XX9_start
  refine Fr_wr ag_h (hW _ _ (by omega)) (fun h1 ag_h1 => ?_)
  refine Fr_wr ag_h1 (hW _ _ (by omega)) (fun h2 ag_h2 => ?_)
  exact Fr_some ag_h2
theorem fr_XX9_start {h : Hp} {r : Int} {h1 : Hp} (e : XX9_start  h = some (r, h1)) (a i : Nat) (hn : ¬ ((a = 67 ∧ 0 ≤ i ∧ i ≤ 1))) : h1 a i = h a i := fg_XX9_start (W := fun a i => (a = 67 ∧ 0 ≤ i ∧ i ≤ 1))  (fun _ _ hh => hh) h (fun _ _ _ => rfl) r h1 e a i hn
theorem fg_XX9_addSpare {W : Nat → Nat → Prop} {h0 : Hp} (x0 : Int) (x1 : Int) (hW : ∀ a i : Nat, ((68 ≤ a ∧ a ≤ 69) ∨ (a = 67 ∧ i = 0)) → W a i) (h : Hp) (ag_h : Ag W h0 h) : Fr W h0 (XX9_addSpare x0 x1 h) := by
  unfold XX9_addSpare
  refine Fr_inb ?_
  refine Fr_wr ag_h (hW _ _ (Or.inl (by omega))) (fun h1 ag_h1 => ?_)
  refine Fr_inb ?_
  refine Fr_wr ag_h1 (hW _ _ (Or.inl (by omega))) (fun h2 ag_h2 => ?_)
  refine Fr_chk ?_
  refine Fr_wr ag_h2 (hW _ _ (Or.inr (by omega))) (fun h3 ag_h3 => ?_)
  refine Fr_chk ?_
  exact Fr_some ag_h3
theorem fr_XX9_addSpare {x0 : Int} {x1 : Int} {h : Hp} {r : Int} {h1 : Hp} (e : XX9_addSpare x0 x1 h = some (r, h1)) (a i : Nat) (hn : ¬ ((68 ≤ a ∧ a ≤ 69) ∨ (a = 67 ∧ i = 0))) : h1 a i = h a i := fg_XX9_addSpare (W := fun a i => (68 ≤ a ∧ a ≤ 69) ∨ (a = 67 ∧ i = 0)) x0 x1 (fun _ _ hh => hh) h (fun _ _ _ => rfl) r h1 e a i hn
theorem fg_XX9_distance {W : Nat → Nat → Prop} {h0 : Hp} (x0 : Int) (x1 : Int) (hW : ∀ a i : Nat, (False) → W a i) (h : Hp) (ag_h : Ag W h0 h) : Fr W h0 (XX9_distance x0 x1 h) := by
  unfold XX9_distance
  refine Fr_chk ?_
  refine Fr_chk ?_
  refine Fr_chk ?_
  refine Fr_chk ?_
  refine Fr_chk ?_
  refine Fr_chk ?_
  refine Fr_chk ?_
  refine Fr_chk ?_
  refine Fr_chk ?_
  exact Fr_some ag_h
theorem fr_XX9_distance {x0 : Int} {x1 : Int} {h : Hp} {r : Int} {h1 : Hp} (e : XX9_distance x0 x1 h = some (r, h1)) (a i : Nat) (hn : ¬ (False)) : h1 a i = h a i := fg_XX9_distance (W := fun a i => False) x0 x1 (fun _ _ hh => hh) h (fun _ _ _ => rfl) r h1 e a i hn
theorem fe_XX9_distance {x0 : Int} {x1 : Int} {h : Hp} {r : Int} {h1 : Hp} (e : XX9_distance x0 x1 h = some (r, h1)) : h1 = h := funext (fun a => funext (fun i => fr_XX9_distance e a i (fun hh => hh)))
theorem fg_XX9_leafLength {W : Nat → Nat → Prop} {h0 : Hp} (x1 : Int) (x2 : Int) (x3 : Nat) (hW : ∀ a i : Nat, (False) → W a i) (h : Hp) (ag_h : Ag W h0 h) : Fr W h0 (XX9_leafLength x1 x2 x3 h) := by
  unfold XX9_leafLength
  refine Fr_ite ?_ ?_
  · exact Fr_some ag_h
  · refine Fr_chk ?_
    refine Fr_ite ?_ ?_
    · refine Fr_chk ?_
      refine Fr_inb ?_
      refine Fr_inb ?_
      refine Fr_cal (fg_XX9_distance _ _ (fun a i hh => hh.elim) _ ag_h) (fun r1 h2 ag_h2 => ?_)
      exact Fr_some ag_h2
    · exact Fr_some ag_h
theorem fr_XX9_leafLength {x1 : Int} {x2 : Int} {x3 : Nat} {h : Hp} {r : Int} {h1 : Hp} (e : XX9_leafLength x1 x2 x3 h = some (r, h1)) (a i : Nat) (hn : ¬ (False)) : h1 a i = h a i := fg_XX9_leafLength (W := fun a i => False) x1 x2 x3 (fun _ _ hh => hh) h (fun _ _ _ => rfl) r h1 e a i hn
theorem fe_XX9_leafLength {x1 : Int} {x2 : Int} {x3 : Nat} {h : Hp} {r : Int} {h1 : Hp} (e : XX9_leafLength x1 x2 x3 h = some (r, h1)) : h1 = h := funext (fun a => funext (fun i => fr_XX9_leafLength e a i (fun hh => hh)))
theorem fg_XX9_lengthOf {W : Nat → Nat → Prop} {h0 : Hp} (x1 : Int) (x2 : Int) (x3 : Nat) (hW : ∀ a i : Nat, (False) → W a i) (h : Hp) (ag_h : Ag W h0 h) : Fr W h0 (XX9_lengthOf x1 x2 x3 h) := by
  unfold XX9_lengthOf
  refine Fr_inb ?_
  refine Fr_inb ?_
  refine Fr_inb ?_
  refine Fr_cal (fg_XX9_distance _ _ (fun a i hh => hh.elim) _ ag_h) (fun r1 h2 ag_h2 => ?_)
  refine Fr_inb ?_
  refine Fr_cal (fg_XX9_leafLength _ _ _ (fun a i hh => hh.elim) _ ag_h2) (fun r3 h4 ag_h4 => ?_)
  refine Fr_chk ?_
  refine Fr_inb ?_
  refine Fr_cal (fg_XX9_leafLength _ _ _ (fun a i hh => hh.elim) _ ag_h4) (fun r5 h6 ag_h6 => ?_)
  refine Fr_chk ?_
  exact Fr_some ag_h6
theorem fr_XX9_lengthOf {x1 : Int} {x2 : Int} {x3 : Nat} {h : Hp} {r : Int} {h1 : Hp} (e : XX9_lengthOf x1 x2 x3 h = some (r, h1)) (a i : Nat) (hn : ¬ (False)) : h1 a i = h a i := fg_XX9_lengthOf (W := fun a i => False) x1 x2 x3 (fun _ _ hh => hh) h (fun _ _ _ => rfl) r h1 e a i hn
theorem fe_XX9_lengthOf {x1 : Int} {x2 : Int} {x3 : Nat} {h : Hp} {r : Int} {h1 : Hp} (e : XX9_lengthOf x1 x2 x3 h = some (r, h1)) : h1 = h := funext (fun a => funext (fun i => fr_XX9_lengthOf e a i (fun hh => hh)))
theorem fg_XX9_measure_p91 {W : Nat → Nat → Prop} {h0 : Hp} (a2 : Nat) (self2 : Int → Hp → OR) (hs_self2 : ∀ (y0 : Int) (hh : Hp), Ag W h0 hh → Fr W h0 (self2 y0 hh)) (self13 : Int → Int → Hp → OR) (hs_self13 : ∀ (y0 y1 : Int) (hh : Hp), Ag W h0 hh → Fr W h0 (self13 y0 y1 hh)) (l3 : Int) (l4 : Int) (s1 : Int) (s2 : Int) (hW : ∀ a i : Nat, (a = 70) → W a i) (h : Hp) (ag_h : Ag W h0 h) : Fr W h0 (XX9_measure_p91 a2 self2 self13 l3 l4 s1 s2 h) := by
  unfold XX9_measure_p91
  refine Fr_inb ?_
  refine Fr_wr ag_h (hW _ _ (by omega)) (fun h1 ag_h1 => ?_)
  refine Fr_chk ?_
  exact hs_self13 _ _ _ ag_h1
theorem fg_XX9_measure_p55 {W : Nat → Nat → Prop} {h0 : Hp} (a2 : Nat) (self2 : Int → Hp → OR) (hs_self2 : ∀ (y0 : Int) (hh : Hp), Ag W h0 hh → Fr W h0 (self2 y0 hh)) (self13 : Int → Int → Hp → OR) (hs_self13 : ∀ (y0 y1 : Int) (hh : Hp), Ag W h0 hh → Fr W h0 (self13 y0 y1 hh)) (l3 : Int) (l4 : Int) (s0 : Int) (hW : ∀ a i : Nat, (a = 70) → W a i) (h : Hp) (ag_h : Ag W h0 h) : Fr W h0 (XX9_measure_p55 a2 self2 self13 l3 l4 s0 h) := by
  unfold XX9_measure_p55
  refine Fr_chk ?_
  refine Fr_chk ?_
  refine Fr_ite ?_ ?_
  · exact fg_XX9_measure_p91 _ _ hs_self2 _ hs_self13 _ _ _ _ (fun a i hh => hW a i (by omega)) _ ag_h
  · refine Fr_inb ?_
    refine Fr_cal (fg_XX9_lengthOf _ _ _ (fun a i hh => hh.elim) _ ag_h) (fun r2 h3 ag_h3 => ?_)
    exact fg_XX9_measure_p91 _ _ hs_self2 _ hs_self13 _ _ _ _ (fun a i hh => hW a i (by omega)) _ ag_h3
theorem fg_XX9_measure_p54 {W : Nat → Nat → Prop} {h0 : Hp} (a2 : Nat) (self2 : Int → Hp → OR) (hs_self2 : ∀ (y0 : Int) (hh : Hp), Ag W h0 hh → Fr W h0 (self2 y0 hh)) (self13 : Int → Int → Hp → OR) (hs_self13 : ∀ (y0 y1 : Int) (hh : Hp), Ag W h0 hh → Fr W h0 (self13 y0 y1 hh)) (l3 : Int) (l4 : Int) (hW : ∀ a i : Nat, (a = 70) → W a i) (h : Hp) (ag_h : Ag W h0 h) : Fr W h0 (XX9_measure_p54 a2 self2 self13 l3 l4 h) := by
  unfold XX9_measure_p54
  exact fg_XX9_measure_p55 _ _ hs_self2 _ hs_self13 _ _ _ (fun a i hh => hW a i (by omega)) _ ag_h
theorem fg_XX9_measure_b13 {W : Nat → Nat → Prop} {h0 : Hp} (a2 : Nat) (self2 : Int → Hp → OR) (hs_self2 : ∀ (y0 : Int) (hh : Hp), Ag W h0 hh → Fr W h0 (self2 y0 hh)) (self13 : Int → Int → Hp → OR) (hs_self13 : ∀ (y0 y1 : Int) (hh : Hp), Ag W h0 hh → Fr W h0 (self13 y0 y1 hh)) (l3 : Int) (l4 : Int) (hW : ∀ a i : Nat, (a = 70) → W a i) (h : Hp) (ag_h : Ag W h0 h) : Fr W h0 (XX9_measure_b13 a2 self2 self13 l3 l4 h) := by
  unfold XX9_measure_b13
  refine Fr_ite ?_ ?_
  · refine Fr_chk ?_
    exact hs_self2 _ _ ag_h
  · refine Fr_inb ?_
    refine Fr_inb ?_
    refine Fr_ite ?_ ?_
    · refine Fr_ite ?_ ?_
      · exact fg_XX9_measure_p55 _ _ hs_self2 _ hs_self13 _ _ _ (fun a i hh => hW a i (by omega)) _ ag_h
      · exact fg_XX9_measure_p54 _ _ hs_self2 _ hs_self13 _ _ (fun a i hh => hW a i (by omega)) _ ag_h
    · exact fg_XX9_measure_p54 _ _ hs_self2 _ hs_self13 _ _ (fun a i hh => hW a i (by omega)) _ ag_h
theorem fg_XX9_measure_L13 {W : Nat → Nat → Prop} {h0 : Hp} (a2 : Nat) (self2 : Int → Hp → OR) (hs_self2 : ∀ (y0 : Int) (hh : Hp), Ag W h0 hh → Fr W h0 (self2 y0 hh)) (l3 : Int) (l4 : Int) (hW : ∀ a i : Nat, (a = 70) → W a i) (h : Hp) (ag_h : Ag W h0 h) : Fr W h0 (XX9_measure_L13 a2 self2 l3 l4 h) := by
  unfold XX9_measure_L13
  exact Fr_lup2 (fun self hs z0 z1 hh ag => fg_XX9_measure_b13 a2 self2 hs_self2 self hs z0 z1 hW hh ag) FU _ _ _ ag_h
theorem fg_XX9_measure_b2 {W : Nat → Nat → Prop} {h0 : Hp} (a2 : Nat) (self2 : Int → Hp → OR) (hs_self2 : ∀ (y0 : Int) (hh : Hp), Ag W h0 hh → Fr W h0 (self2 y0 hh)) (l3 : Int) (hW : ∀ a i : Nat, (a = 70) → W a i) (h : Hp) (ag_h : Ag W h0 h) : Fr W h0 (XX9_measure_b2 a2 self2 l3 h) := by
  unfold XX9_measure_b2
  refine Fr_ite ?_ ?_
  · exact Fr_some ag_h
  · exact fg_XX9_measure_L13 _ _ hs_self2 _ _ (fun a i hh => hW a i (by omega)) _ ag_h
theorem fg_XX9_measure_L2 {W : Nat → Nat → Prop} {h0 : Hp} (a2 : Nat) (l3 : Int) (hW : ∀ a i : Nat, (a = 70) → W a i) (h : Hp) (ag_h : Ag W h0 h) : Fr W h0 (XX9_measure_L2 a2 l3 h) := by
  unfold XX9_measure_L2
  exact Fr_lup1 (fun self hs z0 hh ag => fg_XX9_measure_b2 a2 self hs z0 hW hh ag) FU _ _ ag_h
theorem fg_XX9_measure {W : Nat → Nat → Prop} {h0 : Hp} (x1 : Nat) (hW : ∀ a i : Nat, (a = 70) → W a i) (h : Hp) (ag_h : Ag W h0 h) : Fr W h0 (XX9_measure x1 h) := by
  unfold XX9_measure
  exact fg_XX9_measure_L2 _ _ (fun a i hh => hW a i (by omega)) _ ag_h
theorem fr_XX9_measure {x1 : Nat} {h : Hp} {r : Int} {h1 : Hp} (e : XX9_measure x1 h = some (r, h1)) (a i : Nat) (hn : ¬ (a = 70)) : h1 a i = h a i := fg_XX9_measure (W := fun a i => a = 70) x1 (fun _ _ hh => hh) h (fun _ _ _ => rfl) r h1 e a i hn
theorem fg_XX9_leastRest_p68 {W : Nat → Nat → Prop} {h0 : Hp} (self19 : Int → Int → Int → Int → Hp → OR) (hs_self19 : ∀ (y0 y1 y2 y3 : Int) (hh : Hp), Ag W h0 hh → Fr W h0 (self19 y0 y1 y2 y3 hh)) (l1 : Int) (l3 : Int) (l4 : Int) (l5 : Int) (hW : ∀ a i : Nat, (False) → W a i) (h : Hp) (ag_h : Ag W h0 h) : Fr W h0 (XX9_leastRest_p68 self19 l1 l3 l4 l5 h) := by
  unfold XX9_leastRest_p68
  refine Fr_chk ?_
  exact hs_self19 _ _ _ _ _ ag_h
theorem fg_XX9_leastRest_b19 {W : Nat → Nat → Prop} {h0 : Hp} (self19 : Int → Int → Int → Int → Hp → OR) (hs_self19 : ∀ (y0 y1 y2 y3 : Int) (hh : Hp), Ag W h0 hh → Fr W h0 (self19 y0 y1 y2 y3 hh)) (l1 : Int) (l3 : Int) (l4 : Int) (l5 : Int) (hW : ∀ a i : Nat, (False) → W a i) (h : Hp) (ag_h : Ag W h0 h) : Fr W h0 (XX9_leastRest_b19 self19 l1 l3 l4 l5 h) := by
  unfold XX9_leastRest_b19
  refine Fr_ite ?_ ?_
  · exact Fr_some ag_h
  · refine Fr_ite ?_ ?_
    · refine Fr_chk ?_
      refine Fr_chk ?_
      refine Fr_inb ?_
      refine Fr_inb ?_
      refine Fr_chk ?_
      refine Fr_nm (fun v3 => ?_)
      exact fg_XX9_leastRest_p68 _ hs_self19 _ _ _ _ (fun a i hh => hh.elim) _ ag_h
    · exact fg_XX9_leastRest_p68 _ hs_self19 _ _ _ _ (fun a i hh => hh.elim) _ ag_h
theorem fg_XX9_leastRest_L19 {W : Nat → Nat → Prop} {h0 : Hp} (l1 : Int) (l3 : Int) (l4 : Int) (l5 : Int) (hW : ∀ a i : Nat, (False) → W a i) (h : Hp) (ag_h : Ag W h0 h) : Fr W h0 (XX9_leastRest_L19 l1 l3 l4 l5 h) := by
  unfold XX9_leastRest_L19
  exact Fr_lup4 (fun self hs z0 z1 z2 z3 hh ag => fg_XX9_leastRest_b19 self hs z0 z1 z2 z3 hW hh ag) FU _ _ _ _ _ ag_h
theorem fg_XX9_leastRest {W : Nat → Nat → Prop} {h0 : Hp} (x0 : Int) (x1 : Int) (hW : ∀ a i : Nat, (False) → W a i) (h : Hp) (ag_h : Ag W h0 h) : Fr W h0 (XX9_leastRest x0 x1 h) := by
  unfold XX9_leastRest
  refine Fr_cal (fg_XJ6_bitCount_0f7a4 _ (fun a i hh => hh.elim) _ ag_h) (fun r1 h2 ag_h2 => ?_)
  refine Fr_ite ?_ ?_
  · exact fg_XX9_leastRest_L19 _ _ _ _ (fun a i hh => hh.elim) _ ag_h2
  · exact Fr_some ag_h2
theorem fr_XX9_leastRest {x0 : Int} {x1 : Int} {h : Hp} {r : Int} {h1 : Hp} (e : XX9_leastRest x0 x1 h = some (r, h1)) (a i : Nat) (hn : ¬ (False)) : h1 a i = h a i := fg_XX9_leastRest (W := fun a i => False) x0 x1 (fun _ _ hh => hh) h (fun _ _ _ => rfl) r h1 e a i hn
theorem fe_XX9_leastRest {x0 : Int} {x1 : Int} {h : Hp} {r : Int} {h1 : Hp} (e : XX9_leastRest x0 x1 h = some (r, h1)) : h1 = h := funext (fun a => funext (fun i => fr_XX9_leastRest e a i (fun hh => hh)))
theorem fg_XX9_choose_p90 {W : Nat → Nat → Prop} {h0 : Hp} (self4 : Int → Int → Hp → OR) (hs_self4 : ∀ (y0 y1 : Int) (hh : Hp), Ag W h0 hh → Fr W h0 (self4 y0 y1 hh)) (l2 : Int) (l3 : Int) (hW : ∀ a i : Nat, (False) → W a i) (h : Hp) (ag_h : Ag W h0 h) : Fr W h0 (XX9_choose_p90 self4 l2 l3 h) := by
  unfold XX9_choose_p90
  refine Fr_chk ?_
  exact hs_self4 _ _ _ ag_h
theorem fg_XX9_choose_p84 {W : Nat → Nat → Prop} {h0 : Hp} (self4 : Int → Int → Hp → OR) (hs_self4 : ∀ (y0 y1 : Int) (hh : Hp), Ag W h0 hh → Fr W h0 (self4 y0 y1 hh)) (self15 : Int → Int → Int → Hp → OR) (hs_self15 : ∀ (y0 y1 y2 : Int) (hh : Hp), Ag W h0 hh → Fr W h0 (self15 y0 y1 y2 hh)) (l2 : Int) (l3 : Int) (l4 : Int) (hW : ∀ a i : Nat, (False) → W a i) (h : Hp) (ag_h : Ag W h0 h) : Fr W h0 (XX9_choose_p84 self4 self15 l2 l3 l4 h) := by
  unfold XX9_choose_p84
  refine Fr_chk ?_
  exact hs_self15 _ _ _ _ ag_h
theorem fg_XX9_choose_b15 {W : Nat → Nat → Prop} {h0 : Hp} (self4 : Int → Int → Hp → OR) (hs_self4 : ∀ (y0 y1 : Int) (hh : Hp), Ag W h0 hh → Fr W h0 (self4 y0 y1 hh)) (self15 : Int → Int → Int → Hp → OR) (hs_self15 : ∀ (y0 y1 y2 : Int) (hh : Hp), Ag W h0 hh → Fr W h0 (self15 y0 y1 y2 hh)) (l2 : Int) (l3 : Int) (l4 : Int) (hW : ∀ a i : Nat, (a = 65) → W a i) (h : Hp) (ag_h : Ag W h0 h) : Fr W h0 (XX9_choose_b15 self4 self15 l2 l3 l4 h) := by
  unfold XX9_choose_b15
  refine Fr_ite ?_ ?_
  · exact fg_XX9_choose_p90 _ hs_self4 _ _ (fun a i hh => hh.elim) _ ag_h
  · refine Fr_ite ?_ ?_
    · refine Fr_chk ?_
      refine Fr_chk ?_
      refine Fr_inb ?_
      refine Fr_inb ?_
      refine Fr_chk ?_
      refine Fr_inb ?_
      refine Fr_ite ?_ ?_
      · refine Fr_inb ?_
        refine Fr_wr ag_h (hW _ _ (by omega)) (fun h2 ag_h2 => ?_)
        refine Fr_nm (fun v3 => ?_)
        exact fg_XX9_choose_p90 _ hs_self4 _ _ (fun a i hh => hh.elim) _ ag_h2
      · exact fg_XX9_choose_p84 _ hs_self4 _ hs_self15 _ _ _ (fun a i hh => hh.elim) _ ag_h
    · exact fg_XX9_choose_p84 _ hs_self4 _ hs_self15 _ _ _ (fun a i hh => hh.elim) _ ag_h
theorem fg_XX9_choose_L15 {W : Nat → Nat → Prop} {h0 : Hp} (self4 : Int → Int → Hp → OR) (hs_self4 : ∀ (y0 y1 : Int) (hh : Hp), Ag W h0 hh → Fr W h0 (self4 y0 y1 hh)) (l2 : Int) (l3 : Int) (l4 : Int) (hW : ∀ a i : Nat, (a = 65) → W a i) (h : Hp) (ag_h : Ag W h0 h) : Fr W h0 (XX9_choose_L15 self4 l2 l3 l4 h) := by
  unfold XX9_choose_L15
  exact Fr_lup3 (fun self hs z0 z1 z2 hh ag => fg_XX9_choose_b15 self4 hs_self4 self hs z0 z1 z2 hW hh ag) FU _ _ _ _ ag_h
theorem fg_XX9_choose_b4 {W : Nat → Nat → Prop} {h0 : Hp} (self4 : Int → Int → Hp → OR) (hs_self4 : ∀ (y0 y1 : Int) (hh : Hp), Ag W h0 hh → Fr W h0 (self4 y0 y1 hh)) (l2 : Int) (l3 : Int) (hW : ∀ a i : Nat, (a = 65 ∨ (a = 56 ∧ i = 1)) → W a i) (h : Hp) (ag_h : Ag W h0 h) : Fr W h0 (XX9_choose_b4 self4 l2 l3 h) := by
  unfold XX9_choose_b4
  refine Fr_ite ?_ ?_
  · refine Fr_zb ?_
    refine Fr_wr ag_h (hW _ _ (Or.inr (by omega))) (fun h1 ag_h1 => ?_)
    exact Fr_some ag_h1
  · exact fg_XX9_choose_L15 _ hs_self4 _ _ _ (fun a i hh => hW a i (Or.inl (by omega))) _ ag_h
theorem fg_XX9_choose_L4 {W : Nat → Nat → Prop} {h0 : Hp} (l2 : Int) (l3 : Int) (hW : ∀ a i : Nat, (a = 65 ∨ (a = 56 ∧ i = 1)) → W a i) (h : Hp) (ag_h : Ag W h0 h) : Fr W h0 (XX9_choose_L4 l2 l3 h) := by
  unfold XX9_choose_L4
  exact Fr_lup2 (fun self hs z0 z1 hh ag => fg_XX9_choose_b4 self hs z0 z1 hW hh ag) FU _ _ _ ag_h
theorem fg_XX9_choose {W : Nat → Nat → Prop} {h0 : Hp} (hW : ∀ a i : Nat, (a = 65 ∨ (a = 56 ∧ i = 1)) → W a i) (h : Hp) (ag_h : Ag W h0 h) : Fr W h0 (XX9_choose  h) := by
  unfold XX9_choose
  exact fg_XX9_choose_L4 _ _ (fun a i hh => hW a i ((fun q => q.elim (fun q => Or.inl (by omega)) (fun q => Or.inr (by omega))) hh)) _ ag_h
theorem fr_XX9_choose {h : Hp} {r : Int} {h1 : Hp} (e : XX9_choose  h = some (r, h1)) (a i : Nat) (hn : ¬ (a = 65 ∨ (a = 56 ∧ i = 1))) : h1 a i = h a i := fg_XX9_choose (W := fun a i => a = 65 ∨ (a = 56 ∧ i = 1))  (fun _ _ hh => hh) h (fun _ _ _ => rfl) r h1 e a i hn
theorem fg_XX9_settle_b29 {W : Nat → Nat → Prop} {h0 : Hp} (self29 : Int → Hp → OR) (hs_self29 : ∀ (y0 : Int) (hh : Hp), Ag W h0 hh → Fr W h0 (self29 y0 hh)) (l3 : Int) (hW : ∀ a i : Nat, (a = 65 ∨ a = 71 ∨ (a = 56 ∧ i = 1)) → W a i) (h : Hp) (ag_h : Ag W h0 h) : Fr W h0 (XX9_settle_b29 self29 l3 h) := by
  unfold XX9_settle_b29
  refine Fr_ite ?_ ?_
  · refine Fr_inb ?_
    refine Fr_ite ?_ ?_
    · refine Fr_cal (fg_XX9_choose (fun a i hh => hW a i ((fun q => q.elim (fun q => Or.inl (by omega)) (fun q => Or.inr (Or.inr (by omega)))) hh)) _ ag_h) (fun r4 h5 ag_h5 => ?_)
      refine Fr_inb ?_
      exact Fr_some ag_h5
    · exact Fr_some ag_h
  · refine Fr_cal (fg_XX9_leastRest _ _ (fun a i hh => hh.elim) _ ag_h) (fun r6 h7 ag_h7 => ?_)
    refine Fr_inb ?_
    refine Fr_wr ag_h7 (hW _ _ (Or.inr (Or.inl (by omega)))) (fun h8 ag_h8 => ?_)
    refine Fr_chk ?_
    exact hs_self29 _ _ ag_h8
theorem fg_XX9_settle_L29 {W : Nat → Nat → Prop} {h0 : Hp} (l3 : Int) (hW : ∀ a i : Nat, (a = 65 ∨ a = 71 ∨ (a = 56 ∧ i = 1)) → W a i) (h : Hp) (ag_h : Ag W h0 h) : Fr W h0 (XX9_settle_L29 l3 h) := by
  unfold XX9_settle_L29
  exact Fr_lup1 (fun self hs z0 hh ag => fg_XX9_settle_b29 self hs z0 hW hh ag) FU _ _ ag_h
theorem fg_XX9_settle {W : Nat → Nat → Prop} {h0 : Hp} (x1 : Nat) (hW : ∀ a i : Nat, (a = 65 ∨ (70 ≤ a ∧ a ≤ 71) ∨ (a = 56 ∧ i = 1)) → W a i) (h : Hp) (ag_h : Ag W h0 h) : Fr W h0 (XX9_settle x1 h) := by
  unfold XX9_settle
  refine Fr_ite ?_ ?_
  · refine Fr_cal (fg_XX9_measure _ (fun a i hh => hW a i (Or.inr (Or.inl (by omega)))) _ ag_h) (fun r1 h2 ag_h2 => ?_)
    refine Fr_chk ?_
    refine Fr_nm (fun v3 => ?_)
    exact fg_XX9_settle_L29 _ (fun a i hh => hW a i ((fun q => q.elim (fun q => Or.inl (by omega)) (fun q => q.elim (fun q => Or.inr (Or.inl (by omega))) (fun q => Or.inr (Or.inr (by omega))))) hh)) _ ag_h2
  · exact Fr_some ag_h
theorem fr_XX9_settle {x1 : Nat} {h : Hp} {r : Int} {h1 : Hp} (e : XX9_settle x1 h = some (r, h1)) (a i : Nat) (hn : ¬ (a = 65 ∨ (70 ≤ a ∧ a ≤ 71) ∨ (a = 56 ∧ i = 1))) : h1 a i = h a i := fg_XX9_settle (W := fun a i => a = 65 ∨ (70 ≤ a ∧ a ≤ 71) ∨ (a = 56 ∧ i = 1)) x1 (fun _ _ hh => hh) h (fun _ _ _ => rfl) r h1 e a i hn
theorem fg_XX11_startAll {W : Nat → Nat → Prop} {h0 : Hp} (x0 : Int) (x1 : Int) (x2 : Int) (hW : ∀ a i : Nat, ((21 ≤ a ∧ a ≤ 22) ∨ (31 ≤ a ∧ a ≤ 32) ∨ (38 ≤ a ∧ a ≤ 39) ∨ a = 54 ∨ a = 99 ∨ (a = 16 ∧ 12 ≤ i ∧ i ≤ 15) ∨ (a = 17 ∧ i = 6) ∨ (a = 18 ∧ 0 ≤ i ∧ i ≤ 3) ∨ (a = 27 ∧ i = 6) ∨ (a = 28 ∧ 0 ≤ i ∧ i ≤ 3) ∨ (a = 37 ∧ 0 ≤ i ∧ i ≤ 1) ∨ (a = 53 ∧ i = 1) ∨ (a = 56 ∧ i = 0) ∨ (a = 67 ∧ 0 ≤ i ∧ i ≤ 1) ∨ (a = 72 ∧ i = 2) ∨ (a = 72 ∧ i = 4) ∨ (a = 72 ∧ i = 6)) → W a i) (h : Hp) (ag_h : Ag W h0 h) : Fr W h0 (XX11_startAll x0 x1 x2 h) := by
  unfold XX11_startAll
  refine Fr_cal (fg_XX6_start _ _ _ _ (fun a i hh => hW a i ((fun q => q.elim (fun q => Or.inr (Or.inr (Or.inr (Or.inr (Or.inr (Or.inr (Or.inl (by omega)))))))) (fun q => q.elim (fun q => Or.inr (Or.inr (Or.inr (Or.inr (Or.inr (Or.inr (Or.inr (Or.inl (by omega))))))))) (fun q => q.elim (fun q => Or.inl (by omega)) (fun q => Or.inl (by omega))))) hh)) _ ag_h) (fun r1 h2 ag_h2 => ?_)
  refine Fr_cal (fg_XX6_start _ _ _ _ (fun a i hh => hW a i ((fun q => q.elim (fun q => Or.inr (Or.inr (Or.inr (Or.inr (Or.inr (Or.inr (Or.inr (Or.inr (Or.inl (by omega)))))))))) (fun q => q.elim (fun q => Or.inr (Or.inr (Or.inr (Or.inr (Or.inr (Or.inr (Or.inr (Or.inr (Or.inr (Or.inl (by omega))))))))))) (fun q => q.elim (fun q => Or.inr (Or.inl (by omega))) (fun q => Or.inr (Or.inl (by omega)))))) hh)) _ ag_h2) (fun r3 h4 ag_h4 => ?_)
  refine Fr_chk ?_
  refine Fr_cal (fg_XX0_start _ (fun a i hh => hW a i ((fun q => q.elim (fun q => Or.inr (Or.inr (Or.inl (by omega)))) (fun q => Or.inr (Or.inr (Or.inr (Or.inr (Or.inr (Or.inr (Or.inr (Or.inr (Or.inr (Or.inr (Or.inl (by omega))))))))))))) hh)) _ ag_h4) (fun r5 h6 ag_h6 => ?_)
  refine Fr_cal (fg_XX4_start (fun a i hh => hW a i ((fun q => q.elim (fun q => Or.inr (Or.inr (Or.inr (Or.inl (by omega))))) (fun q => Or.inr (Or.inr (Or.inr (Or.inr (Or.inr (Or.inr (Or.inr (Or.inr (Or.inr (Or.inr (Or.inr (Or.inl (by omega)))))))))))))) hh)) _ ag_h6) (fun r7 h8 ag_h8 => ?_)
  refine Fr_cal (fg_XX7_drop (fun a i hh => hW a i (Or.inr (Or.inr (Or.inr (Or.inr (Or.inr (Or.inr (Or.inr (Or.inr (Or.inr (Or.inr (Or.inr (Or.inr (Or.inl (by omega))))))))))))))) _ ag_h8) (fun r9 h10 ag_h10 => ?_)
  refine Fr_cal (fg_XX9_start (fun a i hh => hW a i (Or.inr (Or.inr (Or.inr (Or.inr (Or.inr (Or.inr (Or.inr (Or.inr (Or.inr (Or.inr (Or.inr (Or.inr (Or.inr (Or.inl (by omega)))))))))))))))) _ ag_h10) (fun r11 h12 ag_h12 => ?_)
  refine Fr_cal (fg_XX3_start (fun a i hh => hW a i ((fun q => q.elim (fun q => Or.inr (Or.inr (Or.inr (Or.inr (Or.inr (Or.inr (Or.inr (Or.inr (Or.inr (Or.inr (Or.inr (Or.inr (Or.inr (Or.inr (Or.inl (by omega)))))))))))))))) (fun q => q.elim (fun q => Or.inr (Or.inr (Or.inr (Or.inr (Or.inr (Or.inr (Or.inr (Or.inr (Or.inr (Or.inr (Or.inr (Or.inr (Or.inr (Or.inr (Or.inr (Or.inl (by omega))))))))))))))))) (fun q => Or.inr (Or.inr (Or.inr (Or.inr (Or.inr (Or.inr (Or.inr (Or.inr (Or.inr (Or.inr (Or.inr (Or.inr (Or.inr (Or.inr (Or.inr (Or.inr (by omega))))))))))))))))))) hh)) _ ag_h12) (fun r13 h14 ag_h14 => ?_)
  refine Fr_cal (fg_XJ7_fill_53178 _ _ _ (fun a i hh => hW a i (Or.inr (Or.inr (Or.inr (Or.inr (Or.inl (by omega))))))) _ ag_h14) (fun r15 h16 ag_h16 => ?_)
  refine Fr_wr ag_h16 (hW _ _ (Or.inr (Or.inr (Or.inr (Or.inr (Or.inr (Or.inl (by omega)))))))) (fun h17 ag_h17 => ?_)
  refine Fr_wr ag_h17 (hW _ _ (Or.inr (Or.inr (Or.inr (Or.inr (Or.inr (Or.inl (by omega)))))))) (fun h18 ag_h18 => ?_)
  refine Fr_wr ag_h18 (hW _ _ (Or.inr (Or.inr (Or.inr (Or.inr (Or.inr (Or.inl (by omega)))))))) (fun h19 ag_h19 => ?_)
  refine Fr_wr ag_h19 (hW _ _ (Or.inr (Or.inr (Or.inr (Or.inr (Or.inr (Or.inl (by omega)))))))) (fun h20 ag_h20 => ?_)
  exact Fr_some ag_h20
theorem fr_XX11_startAll {x0 : Int} {x1 : Int} {x2 : Int} {h : Hp} {r : Int} {h1 : Hp} (e : XX11_startAll x0 x1 x2 h = some (r, h1)) (a i : Nat) (hn : ¬ ((21 ≤ a ∧ a ≤ 22) ∨ (31 ≤ a ∧ a ≤ 32) ∨ (38 ≤ a ∧ a ≤ 39) ∨ a = 54 ∨ a = 99 ∨ (a = 16 ∧ 12 ≤ i ∧ i ≤ 15) ∨ (a = 17 ∧ i = 6) ∨ (a = 18 ∧ 0 ≤ i ∧ i ≤ 3) ∨ (a = 27 ∧ i = 6) ∨ (a = 28 ∧ 0 ≤ i ∧ i ≤ 3) ∨ (a = 37 ∧ 0 ≤ i ∧ i ≤ 1) ∨ (a = 53 ∧ i = 1) ∨ (a = 56 ∧ i = 0) ∨ (a = 67 ∧ 0 ≤ i ∧ i ≤ 1) ∨ (a = 72 ∧ i = 2) ∨ (a = 72 ∧ i = 4) ∨ (a = 72 ∧ i = 6))) : h1 a i = h a i := fg_XX11_startAll (W := fun a i => (21 ≤ a ∧ a ≤ 22) ∨ (31 ≤ a ∧ a ≤ 32) ∨ (38 ≤ a ∧ a ≤ 39) ∨ a = 54 ∨ a = 99 ∨ (a = 16 ∧ 12 ≤ i ∧ i ≤ 15) ∨ (a = 17 ∧ i = 6) ∨ (a = 18 ∧ 0 ≤ i ∧ i ≤ 3) ∨ (a = 27 ∧ i = 6) ∨ (a = 28 ∧ 0 ≤ i ∧ i ≤ 3) ∨ (a = 37 ∧ 0 ≤ i ∧ i ≤ 1) ∨ (a = 53 ∧ i = 1) ∨ (a = 56 ∧ i = 0) ∨ (a = 67 ∧ 0 ≤ i ∧ i ≤ 1) ∨ (a = 72 ∧ i = 2) ∨ (a = 72 ∧ i = 4) ∨ (a = 72 ∧ i = 6)) x0 x1 x2 (fun _ _ hh => hh) h (fun _ _ _ => rfl) r h1 e a i hn
theorem fg_XX11_begin {W : Nat → Nat → Prop} {h0 : Hp} (x0 : Int) (x1 : Int) (x2 : Int) (hW : ∀ a i : Nat, ((21 ≤ a ∧ a ≤ 22) ∨ (31 ≤ a ∧ a ≤ 32) ∨ (38 ≤ a ∧ a ≤ 39) ∨ a = 54 ∨ a = 99 ∨ (a = 16 ∧ 12 ≤ i ∧ i ≤ 15) ∨ (a = 17 ∧ i = 6) ∨ (a = 18 ∧ 0 ≤ i ∧ i ≤ 3) ∨ (a = 27 ∧ i = 6) ∨ (a = 28 ∧ 0 ≤ i ∧ i ≤ 3) ∨ (a = 37 ∧ 0 ≤ i ∧ i ≤ 1) ∨ (a = 53 ∧ i = 1) ∨ (a = 56 ∧ i = 0) ∨ (a = 67 ∧ 0 ≤ i ∧ i ≤ 1) ∨ (a = 72 ∧ i = 2) ∨ (a = 72 ∧ i = 4) ∨ (a = 72 ∧ i = 6)) → W a i) (h : Hp) (ag_h : Ag W h0 h) : Fr W h0 (XX11_begin x0 x1 x2 h) := by
  unfold XX11_begin
  refine Fr_ite ?_ ?_
  · exact Fr_some ag_h
  · refine Fr_ite ?_ ?_
    · exact Fr_some ag_h
    · refine Fr_ite ?_ ?_
      · exact Fr_some ag_h
      · refine Fr_ite ?_ ?_
        · refine Fr_chk ?_
          refine Fr_nm (fun v1 => ?_)
          refine Fr_ite ?_ ?_
          · exact Fr_some ag_h
          · refine Fr_ite ?_ ?_
            · exact Fr_some ag_h
            · refine Fr_ite ?_ ?_
              · exact Fr_some ag_h
              · refine Fr_ite ?_ ?_
                · refine Fr_cal (fg_XX11_startAll _ _ _ (fun a i hh => hW a i ((fun q => q.elim (fun q => Or.inl (by omega)) (fun q => q.elim (fun q => Or.inr (Or.inl (by omega))) (fun q => q.elim (fun q => Or.inr (Or.inr (Or.inl (by omega)))) (fun q => q.elim (fun q => Or.inr (Or.inr (Or.inr (Or.inl (by omega))))) (fun q => q.elim (fun q => Or.inr (Or.inr (Or.inr (Or.inr (Or.inl (by omega)))))) (fun q => q.elim (fun q => Or.inr (Or.inr (Or.inr (Or.inr (Or.inr (Or.inl (by omega))))))) (fun q => q.elim (fun q => Or.inr (Or.inr (Or.inr (Or.inr (Or.inr (Or.inr (Or.inl (by omega)))))))) (fun q => q.elim (fun q => Or.inr (Or.inr (Or.inr (Or.inr (Or.inr (Or.inr (Or.inr (Or.inl (by omega))))))))) (fun q => q.elim (fun q => Or.inr (Or.inr (Or.inr (Or.inr (Or.inr (Or.inr (Or.inr (Or.inr (Or.inl (by omega)))))))))) (fun q => q.elim (fun q => Or.inr (Or.inr (Or.inr (Or.inr (Or.inr (Or.inr (Or.inr (Or.inr (Or.inr (Or.inl (by omega))))))))))) (fun q => q.elim (fun q => Or.inr (Or.inr (Or.inr (Or.inr (Or.inr (Or.inr (Or.inr (Or.inr (Or.inr (Or.inr (Or.inl (by omega)))))))))))) (fun q => q.elim (fun q => Or.inr (Or.inr (Or.inr (Or.inr (Or.inr (Or.inr (Or.inr (Or.inr (Or.inr (Or.inr (Or.inr (Or.inl (by omega))))))))))))) (fun q => q.elim (fun q => Or.inr (Or.inr (Or.inr (Or.inr (Or.inr (Or.inr (Or.inr (Or.inr (Or.inr (Or.inr (Or.inr (Or.inr (Or.inl (by omega)))))))))))))) (fun q => q.elim (fun q => Or.inr (Or.inr (Or.inr (Or.inr (Or.inr (Or.inr (Or.inr (Or.inr (Or.inr (Or.inr (Or.inr (Or.inr (Or.inr (Or.inl (by omega))))))))))))))) (fun q => q.elim (fun q => Or.inr (Or.inr (Or.inr (Or.inr (Or.inr (Or.inr (Or.inr (Or.inr (Or.inr (Or.inr (Or.inr (Or.inr (Or.inr (Or.inr (Or.inl (by omega)))))))))))))))) (fun q => q.elim (fun q => Or.inr (Or.inr (Or.inr (Or.inr (Or.inr (Or.inr (Or.inr (Or.inr (Or.inr (Or.inr (Or.inr (Or.inr (Or.inr (Or.inr (Or.inr (Or.inl (by omega))))))))))))))))) (fun q => Or.inr (Or.inr (Or.inr (Or.inr (Or.inr (Or.inr (Or.inr (Or.inr (Or.inr (Or.inr (Or.inr (Or.inr (Or.inr (Or.inr (Or.inr (Or.inr (by omega))))))))))))))))))))))))))))))))) hh)) _ ag_h) (fun r2 h3 ag_h3 => ?_)
                  exact Fr_some ag_h3
                · exact Fr_some ag_h
        · exact Fr_some ag_h
theorem fr_XX11_begin {x0 : Int} {x1 : Int} {x2 : Int} {h : Hp} {r : Int} {h1 : Hp} (e : XX11_begin x0 x1 x2 h = some (r, h1)) (a i : Nat) (hn : ¬ ((21 ≤ a ∧ a ≤ 22) ∨ (31 ≤ a ∧ a ≤ 32) ∨ (38 ≤ a ∧ a ≤ 39) ∨ a = 54 ∨ a = 99 ∨ (a = 16 ∧ 12 ≤ i ∧ i ≤ 15) ∨ (a = 17 ∧ i = 6) ∨ (a = 18 ∧ 0 ≤ i ∧ i ≤ 3) ∨ (a = 27 ∧ i = 6) ∨ (a = 28 ∧ 0 ≤ i ∧ i ≤ 3) ∨ (a = 37 ∧ 0 ≤ i ∧ i ≤ 1) ∨ (a = 53 ∧ i = 1) ∨ (a = 56 ∧ i = 0) ∨ (a = 67 ∧ 0 ≤ i ∧ i ≤ 1) ∨ (a = 72 ∧ i = 2) ∨ (a = 72 ∧ i = 4) ∨ (a = 72 ∧ i = 6))) : h1 a i = h a i := fg_XX11_begin (W := fun a i => (21 ≤ a ∧ a ≤ 22) ∨ (31 ≤ a ∧ a ≤ 32) ∨ (38 ≤ a ∧ a ≤ 39) ∨ a = 54 ∨ a = 99 ∨ (a = 16 ∧ 12 ≤ i ∧ i ≤ 15) ∨ (a = 17 ∧ i = 6) ∨ (a = 18 ∧ 0 ≤ i ∧ i ≤ 3) ∨ (a = 27 ∧ i = 6) ∨ (a = 28 ∧ 0 ≤ i ∧ i ≤ 3) ∨ (a = 37 ∧ 0 ≤ i ∧ i ≤ 1) ∨ (a = 53 ∧ i = 1) ∨ (a = 56 ∧ i = 0) ∨ (a = 67 ∧ 0 ≤ i ∧ i ≤ 1) ∨ (a = 72 ∧ i = 2) ∨ (a = 72 ∧ i = 4) ∨ (a = 72 ∧ i = 6)) x0 x1 x2 (fun _ _ hh => hh) h (fun _ _ _ => rfl) r h1 e a i hn
theorem fg_XX11_netOf {W : Nat → Nat → Prop} {h0 : Hp} (x0 : Int) (hW : ∀ a i : Nat, (False) → W a i) (h : Hp) (ag_h : Ag W h0 h) : Fr W h0 (XX11_netOf x0 h) := by
  unfold XX11_netOf
  refine Fr_ite ?_ ?_
  · exact Fr_some ag_h
  · refine Fr_ite ?_ ?_
    · exact Fr_some ag_h
    · exact Fr_some ag_h
theorem fr_XX11_netOf {x0 : Int} {h : Hp} {r : Int} {h1 : Hp} (e : XX11_netOf x0 h = some (r, h1)) (a i : Nat) (hn : ¬ (False)) : h1 a i = h a i := fg_XX11_netOf (W := fun a i => False) x0 (fun _ _ hh => hh) h (fun _ _ _ => rfl) r h1 e a i hn
theorem fe_XX11_netOf {x0 : Int} {h : Hp} {r : Int} {h1 : Hp} (e : XX11_netOf x0 h = some (r, h1)) : h1 = h := funext (fun a => funext (fun i => fr_XX11_netOf e a i (fun hh => hh)))
theorem fg_XX11_pinsFit_p74 {W : Nat → Nat → Prop} {h0 : Hp} (hW : ∀ a i : Nat, (False) → W a i) (h : Hp) (ag_h : Ag W h0 h) : Fr W h0 (XX11_pinsFit_p74  h) := by
  unfold XX11_pinsFit_p74
  refine Fr_zb ?_
  exact Fr_some ag_h
theorem fg_XX11_pinsFit_p50 {W : Nat → Nat → Prop} {h0 : Hp} (a0 : Nat) (l4 : Int) (l5 : Int) (hW : ∀ a i : Nat, (False) → W a i) (h : Hp) (ag_h : Ag W h0 h) : Fr W h0 (XX11_pinsFit_p50 a0 l4 l5 h) := by
  unfold XX11_pinsFit_p50
  refine Fr_ite ?_ ?_
  · refine Fr_ite ?_ ?_
    · exact fg_XX11_pinsFit_p74 (fun a i hh => hh.elim) _ ag_h
    · refine Fr_zb ?_
      exact Fr_some ag_h
  · refine Fr_cal (fg_XX8_isWire _ _ (fun a i hh => hh.elim) _ ag_h) (fun r2 h3 ag_h3 => ?_)
    refine Fr_ite ?_ ?_
    · refine Fr_zb ?_
      exact Fr_some ag_h3
    · exact fg_XX11_pinsFit_p74 (fun a i hh => hh.elim) _ ag_h3
theorem fg_XX11_pinsFit_p28 {W : Nat → Nat → Prop} {h0 : Hp} (a0 : Nat) (l3 : Int) (l4 : Int) (l5 : Int) (hW : ∀ a i : Nat, (False) → W a i) (h : Hp) (ag_h : Ag W h0 h) : Fr W h0 (XX11_pinsFit_p28 a0 l3 l4 l5 h) := by
  unfold XX11_pinsFit_p28
  refine Fr_ite ?_ ?_
  · refine Fr_ite ?_ ?_
    · exact fg_XX11_pinsFit_p50 _ _ _ (fun a i hh => hh.elim) _ ag_h
    · refine Fr_zb ?_
      exact Fr_some ag_h
  · refine Fr_cal (fg_XX8_isWire _ _ (fun a i hh => hh.elim) _ ag_h) (fun r4 h5 ag_h5 => ?_)
    refine Fr_ite ?_ ?_
    · refine Fr_zb ?_
      exact Fr_some ag_h5
    · exact fg_XX11_pinsFit_p50 _ _ _ (fun a i hh => hh.elim) _ ag_h5
theorem fg_XX11_pinsFit {W : Nat → Nat → Prop} {h0 : Hp} (x0 : Nat) (x1 : Int) (x2 : Int) (x3 : Int) (x4 : Int) (hW : ∀ a i : Nat, (False) → W a i) (h : Hp) (ag_h : Ag W h0 h) : Fr W h0 (XX11_pinsFit x0 x1 x2 x3 x4 h) := by
  unfold XX11_pinsFit
  refine Fr_inb ?_
  refine Fr_nm (fun v1 => ?_)
  refine Fr_ite ?_ ?_
  · refine Fr_ite ?_ ?_
    · exact fg_XX11_pinsFit_p28 _ _ _ _ (fun a i hh => hh.elim) _ ag_h
    · refine Fr_zb ?_
      exact Fr_some ag_h
  · refine Fr_cal (fg_XX8_isWire _ _ (fun a i hh => hh.elim) _ ag_h) (fun r6 h7 ag_h7 => ?_)
    refine Fr_ite ?_ ?_
    · refine Fr_zb ?_
      exact Fr_some ag_h7
    · exact fg_XX11_pinsFit_p28 _ _ _ _ (fun a i hh => hh.elim) _ ag_h7
theorem fr_XX11_pinsFit {x0 : Nat} {x1 : Int} {x2 : Int} {x3 : Int} {x4 : Int} {h : Hp} {r : Int} {h1 : Hp} (e : XX11_pinsFit x0 x1 x2 x3 x4 h = some (r, h1)) (a i : Nat) (hn : ¬ (False)) : h1 a i = h a i := fg_XX11_pinsFit (W := fun a i => False) x0 x1 x2 x3 x4 (fun _ _ hh => hh) h (fun _ _ _ => rfl) r h1 e a i hn
theorem fe_XX11_pinsFit {x0 : Nat} {x1 : Int} {x2 : Int} {x3 : Int} {x4 : Int} {h : Hp} {r : Int} {h1 : Hp} (e : XX11_pinsFit x0 x1 x2 x3 x4 h = some (r, h1)) : h1 = h := funext (fun a => funext (fun i => fr_XX11_pinsFit e a i (fun hh => hh)))
theorem fg_XX11_changed {W : Nat → Nat → Prop} {h0 : Hp} (x0 : Nat) (hW : ∀ a i : Nat, ((a = 56 ∧ i = 0) ∨ (a = 72 ∧ i = 2) ∨ (a = x0 ∧ i = 6)) → W a i) (h : Hp) (ag_h : Ag W h0 h) : Fr W h0 (XX11_changed x0 h) := by
  unfold XX11_changed
  refine Fr_cal (fg_XX6_stale _ (fun a i hh => hW a i (Or.inr (Or.inr (by omega)))) _ ag_h) (fun r1 h2 ag_h2 => ?_)
  refine Fr_cal (fg_XX7_drop (fun a i hh => hW a i (Or.inl (by omega))) _ ag_h2) (fun r3 h4 ag_h4 => ?_)
  refine Fr_ite ?_ ?_
  · refine Fr_wr ag_h4 (hW _ _ (Or.inr (Or.inl (by omega)))) (fun h5 ag_h5 => ?_)
    exact Fr_some ag_h5
  · exact Fr_some ag_h4
theorem fr_XX11_changed {x0 : Nat} {h : Hp} {r : Int} {h1 : Hp} (e : XX11_changed x0 h = some (r, h1)) (a i : Nat) (hn : ¬ ((a = 56 ∧ i = 0) ∨ (a = 72 ∧ i = 2) ∨ (a = x0 ∧ i = 6))) : h1 a i = h a i := fg_XX11_changed (W := fun a i => (a = 56 ∧ i = 0) ∨ (a = 72 ∧ i = 2) ∨ (a = x0 ∧ i = 6)) x0 (fun _ _ hh => hh) h (fun _ _ _ => rfl) r h1 e a i hn
theorem fg_XX11_gate {W : Nat → Nat → Prop} {h0 : Hp} (x0 : Int) (x1 : Int) (x2 : Int) (x3 : Int) (x4 : Int) (hW : ∀ a i : Nat, ((17 ≤ a ∧ a ≤ 36) ∨ (a = 56 ∧ i = 0) ∨ (a = 72 ∧ i = 2)) → W a i) (h : Hp) (ag_h : Ag W h0 h) : Fr W h0 (XX11_gate x0 x1 x2 x3 x4 h) := by
  unfold XX11_gate
  refine Fr_cal (fg_XX11_netOf _ (fun a i hh => hh.elim) _ ag_h) (fun r1 h2 ag_h2 => ?_)
  refine Fr_ite ?_ ?_
  · exact Fr_some ag_h2
  · refine Fr_asr (fun ha1 => ?_)
    refine Fr_ite ?_ ?_
    · exact Fr_some ag_h2
    · refine Fr_ite ?_ ?_
      · exact Fr_some ag_h2
      · refine Fr_cal (fg_XX11_pinsFit _ _ _ _ _ (fun a i hh => hh.elim) _ ag_h2) (fun r4 h5 ag_h5 => ?_)
        refine Fr_ite ?_ ?_
        · exact Fr_some ag_h5
        · refine Fr_ite ?_ ?_
          · refine Fr_cal (fg_XX8_addGate _ _ _ _ _ _ (fun a i hh => hW a i ((fun q => q.elim (fun q => Or.inl (by omega)) (fun q => q.elim (fun q => Or.inl (by omega)) (fun q => q.elim (fun q => Or.inl (by omega)) (fun q => Or.inl (by omega))))) hh)) _ ag_h5) (fun r6 h7 ag_h7 => ?_)
            refine Fr_cal (fg_XX11_changed _ (fun a i hh => hW a i ((fun q => q.elim (fun q => Or.inr (Or.inl (by omega))) (fun q => q.elim (fun q => Or.inr (Or.inr (by omega))) (fun q => Or.inl (by omega)))) hh)) _ ag_h7) (fun r8 h9 ag_h9 => ?_)
            exact Fr_some ag_h9
          · exact Fr_some ag_h5
theorem fr_XX11_gate {x0 : Int} {x1 : Int} {x2 : Int} {x3 : Int} {x4 : Int} {h : Hp} {r : Int} {h1 : Hp} (e : XX11_gate x0 x1 x2 x3 x4 h = some (r, h1)) (a i : Nat) (hn : ¬ ((17 ≤ a ∧ a ≤ 36) ∨ (a = 56 ∧ i = 0) ∨ (a = 72 ∧ i = 2))) : h1 a i = h a i := fg_XX11_gate (W := fun a i => (17 ≤ a ∧ a ≤ 36) ∨ (a = 56 ∧ i = 0) ∨ (a = 72 ∧ i = 2)) x0 x1 x2 x3 x4 (fun _ _ hh => hh) h (fun _ _ _ => rfl) r h1 e a i hn
theorem fg_XX11_rewire {W : Nat → Nat → Prop} {h0 : Hp} (x0 : Int) (x1 : Int) (x2 : Int) (x3 : Int) (hW : ∀ a i : Nat, ((17 ≤ a ∧ a ≤ 36) ∨ (a = 56 ∧ i = 0) ∨ (a = 72 ∧ i = 2)) → W a i) (h : Hp) (ag_h : Ag W h0 h) : Fr W h0 (XX11_rewire x0 x1 x2 x3 h) := by
  unfold XX11_rewire
  refine Fr_cal (fg_XX11_netOf _ (fun a i hh => hh.elim) _ ag_h) (fun r1 h2 ag_h2 => ?_)
  refine Fr_ite ?_ ?_
  · exact Fr_some ag_h2
  · refine Fr_asr (fun ha1 => ?_)
    refine Fr_cal (fg_XX8_isGate _ _ (fun a i hh => hh.elim) _ ag_h2) (fun r4 h5 ag_h5 => ?_)
    refine Fr_ite ?_ ?_
    · exact Fr_some ag_h5
    · refine Fr_cal (fg_XX8_hasPin _ _ _ (fun a i hh => hh.elim) _ ag_h5) (fun r6 h7 ag_h7 => ?_)
      refine Fr_ite ?_ ?_
      · exact Fr_some ag_h7
      · refine Fr_cal (fg_XX8_isWire _ _ (fun a i hh => hh.elim) _ ag_h7) (fun r8 h9 ag_h9 => ?_)
        refine Fr_ite ?_ ?_
        · exact Fr_some ag_h9
        · refine Fr_cal (fg_XX6_refresh _ (fun a i hh => hW a i ((fun q => q.elim (fun q => Or.inl (by omega)) (fun q => q.elim (fun q => Or.inl (by omega)) (fun q => q.elim (fun q => Or.inl (by omega)) (fun q => Or.inl (by omega))))) hh)) _ ag_h9) (fun r10 h11 ag_h11 => ?_)
          refine Fr_cal (fg_XX6_hangsOn _ _ _ (fun a i hh => hh.elim) _ ag_h11) (fun r12 h13 ag_h13 => ?_)
          refine Fr_ite ?_ ?_
          · refine Fr_chk ?_
            refine Fr_chk ?_
            refine Fr_nm (fun v14 => ?_)
            refine Fr_inb ?_
            refine Fr_nm (fun v15 => ?_)
            refine Fr_inb ?_
            refine Fr_wr ag_h13 (hW _ _ (Or.inl (by omega))) (fun h16 ag_h16 => ?_)
            refine Fr_cal (fg_XX11_changed _ (fun a i hh => hW a i ((fun q => q.elim (fun q => Or.inr (Or.inl (by omega))) (fun q => q.elim (fun q => Or.inr (Or.inr (by omega))) (fun q => Or.inl (by omega)))) hh)) _ ag_h16) (fun r17 h18 ag_h18 => ?_)
            exact Fr_some ag_h18
          · exact Fr_some ag_h13
theorem fr_XX11_rewire {x0 : Int} {x1 : Int} {x2 : Int} {x3 : Int} {h : Hp} {r : Int} {h1 : Hp} (e : XX11_rewire x0 x1 x2 x3 h = some (r, h1)) (a i : Nat) (hn : ¬ ((17 ≤ a ∧ a ≤ 36) ∨ (a = 56 ∧ i = 0) ∨ (a = 72 ∧ i = 2))) : h1 a i = h a i := fg_XX11_rewire (W := fun a i => (17 ≤ a ∧ a ≤ 36) ∨ (a = 56 ∧ i = 0) ∨ (a = 72 ∧ i = 2)) x0 x1 x2 x3 (fun _ _ hh => hh) h (fun _ _ _ => rfl) r h1 e a i hn
theorem fg_XX11_see {W : Nat → Nat → Prop} {h0 : Hp} (x0 : Nat) (x1 : Int) (x2 : Int) (hW : ∀ a i : Nat, ((a = 56 ∧ i = 0) ∨ (a = 72 ∧ i = 2) ∨ (a = x0 ∧ i = 6) ∨ a = x0 + 4) → W a i) (h : Hp) (ag_h : Ag W h0 h) : Fr W h0 (XX11_see x0 x1 x2 h) := by
  unfold XX11_see
  refine Fr_inb ?_
  refine Fr_nm (fun v1 => ?_)
  refine Fr_inb ?_
  refine Fr_wr ag_h (hW _ _ (Or.inr (Or.inr (Or.inr (by omega))))) (fun h2 ag_h2 => ?_)
  refine Fr_cal (fg_XX11_changed _ (fun a i hh => hW a i ((fun q => q.elim (fun q => Or.inl (by omega)) (fun q => q.elim (fun q => Or.inr (Or.inl (by omega))) (fun q => Or.inr (Or.inr (Or.inl (by omega)))))) hh)) _ ag_h2) (fun r3 h4 ag_h4 => ?_)
  exact Fr_some ag_h4
theorem fr_XX11_see {x0 : Nat} {x1 : Int} {x2 : Int} {h : Hp} {r : Int} {h1 : Hp} (e : XX11_see x0 x1 x2 h = some (r, h1)) (a i : Nat) (hn : ¬ ((a = 56 ∧ i = 0) ∨ (a = 72 ∧ i = 2) ∨ (a = x0 ∧ i = 6) ∨ a = x0 + 4)) : h1 a i = h a i := fg_XX11_see (W := fun a i => (a = 56 ∧ i = 0) ∨ (a = 72 ∧ i = 2) ∨ (a = x0 ∧ i = 6) ∨ a = x0 + 4) x0 x1 x2 (fun _ _ hh => hh) h (fun _ _ _ => rfl) r h1 e a i hn
theorem fg_XX11_out {W : Nat → Nat → Prop} {h0 : Hp} (x0 : Int) (x1 : Int) (x2 : Int) (hW : ∀ a i : Nat, ((17 ≤ a ∧ a ≤ 36) ∨ (a = 56 ∧ i = 0) ∨ (a = 72 ∧ i = 2)) → W a i) (h : Hp) (ag_h : Ag W h0 h) : Fr W h0 (XX11_out x0 x1 x2 h) := by
  unfold XX11_out
  refine Fr_cal (fg_XX11_netOf _ (fun a i hh => hh.elim) _ ag_h) (fun r1 h2 ag_h2 => ?_)
  refine Fr_ite ?_ ?_
  · exact Fr_some ag_h2
  · refine Fr_asr (fun ha1 => ?_)
    refine Fr_ite ?_ ?_
    · exact Fr_some ag_h2
    · refine Fr_ite ?_ ?_
      · exact Fr_some ag_h2
      · refine Fr_cal (fg_XX8_isWire _ _ (fun a i hh => hh.elim) _ ag_h2) (fun r4 h5 ag_h5 => ?_)
        refine Fr_ite ?_ ?_
        · exact Fr_some ag_h5
        · refine Fr_cal (fg_XX11_see _ _ _ (fun a i hh => hW a i ((fun q => q.elim (fun q => Or.inr (Or.inl (by omega))) (fun q => q.elim (fun q => Or.inr (Or.inr (by omega))) (fun q => q.elim (fun q => Or.inl (by omega)) (fun q => Or.inl (by omega))))) hh)) _ ag_h5) (fun r6 h7 ag_h7 => ?_)
          exact Fr_some ag_h7
theorem fr_XX11_out {x0 : Int} {x1 : Int} {x2 : Int} {h : Hp} {r : Int} {h1 : Hp} (e : XX11_out x0 x1 x2 h = some (r, h1)) (a i : Nat) (hn : ¬ ((17 ≤ a ∧ a ≤ 36) ∨ (a = 56 ∧ i = 0) ∨ (a = 72 ∧ i = 2))) : h1 a i = h a i := fg_XX11_out (W := fun a i => (17 ≤ a ∧ a ≤ 36) ∨ (a = 56 ∧ i = 0) ∨ (a = 72 ∧ i = 2)) x0 x1 x2 (fun _ _ hh => hh) h (fun _ _ _ => rfl) r h1 e a i hn
theorem fg_XX11_next {W : Nat → Nat → Prop} {h0 : Hp} (x0 : Int) (x1 : Int) (x2 : Int) (hW : ∀ a i : Nat, ((17 ≤ a ∧ a ≤ 36) ∨ (a = 56 ∧ i = 0) ∨ (a = 72 ∧ i = 2)) → W a i) (h : Hp) (ag_h : Ag W h0 h) : Fr W h0 (XX11_next x0 x1 x2 h) := by
  unfold XX11_next
  refine Fr_cal (fg_XX11_netOf _ (fun a i hh => hh.elim) _ ag_h) (fun r1 h2 ag_h2 => ?_)
  refine Fr_ite ?_ ?_
  · exact Fr_some ag_h2
  · refine Fr_asr (fun ha1 => ?_)
    refine Fr_ite ?_ ?_
    · exact Fr_some ag_h2
    · refine Fr_ite ?_ ?_
      · exact Fr_some ag_h2
      · refine Fr_cal (fg_XX8_isWire _ _ (fun a i hh => hh.elim) _ ag_h2) (fun r4 h5 ag_h5 => ?_)
        refine Fr_ite ?_ ?_
        · exact Fr_some ag_h5
        · refine Fr_chk ?_
          refine Fr_cal (fg_XX11_see _ _ _ (fun a i hh => hW a i ((fun q => q.elim (fun q => Or.inr (Or.inl (by omega))) (fun q => q.elim (fun q => Or.inr (Or.inr (by omega))) (fun q => q.elim (fun q => Or.inl (by omega)) (fun q => Or.inl (by omega))))) hh)) _ ag_h5) (fun r6 h7 ag_h7 => ?_)
          exact Fr_some ag_h7
theorem fr_XX11_next {x0 : Int} {x1 : Int} {x2 : Int} {h : Hp} {r : Int} {h1 : Hp} (e : XX11_next x0 x1 x2 h = some (r, h1)) (a i : Nat) (hn : ¬ ((17 ≤ a ∧ a ≤ 36) ∨ (a = 56 ∧ i = 0) ∨ (a = 72 ∧ i = 2))) : h1 a i = h a i := fg_XX11_next (W := fun a i => (17 ≤ a ∧ a ≤ 36) ∨ (a = 56 ∧ i = 0) ∨ (a = 72 ∧ i = 2)) x0 x1 x2 (fun _ _ hh => hh) h (fun _ _ _ => rfl) r h1 e a i hn
theorem fg_XX11_free {W : Nat → Nat → Prop} {h0 : Hp} (x0 : Int) (hW : ∀ a i : Nat, (a = 39 ∨ (a = 56 ∧ i = 0)) → W a i) (h : Hp) (ag_h : Ag W h0 h) : Fr W h0 (XX11_free x0 h) := by
  unfold XX11_free
  refine Fr_cal (fg_XX0_has _ (fun a i hh => hh.elim) _ ag_h) (fun r1 h2 ag_h2 => ?_)
  refine Fr_ite ?_ ?_
  · exact Fr_some ag_h2
  · refine Fr_cal (fg_XX7_drop (fun a i hh => hW a i (Or.inr (by omega))) _ ag_h2) (fun r3 h4 ag_h4 => ?_)
    refine Fr_cal (fg_XX0_flip _ (fun a i hh => hW a i (Or.inl (by omega))) _ ag_h4) (fun r5 h6 ag_h6 => ?_)
    exact Fr_some ag_h6
theorem fr_XX11_free {x0 : Int} {h : Hp} {r : Int} {h1 : Hp} (e : XX11_free x0 h = some (r, h1)) (a i : Nat) (hn : ¬ (a = 39 ∨ (a = 56 ∧ i = 0))) : h1 a i = h a i := fg_XX11_free (W := fun a i => a = 39 ∨ (a = 56 ∧ i = 0)) x0 (fun _ _ hh => hh) h (fun _ _ _ => rfl) r h1 e a i hn
theorem fg_XX11_value {W : Nat → Nat → Prop} {h0 : Hp} (x0 : Int) (x1 : Int) (x2 : Int) (hW : ∀ a i : Nat, ((17 ≤ a ∧ a ≤ 36)) → W a i) (h : Hp) (ag_h : Ag W h0 h) : Fr W h0 (XX11_value x0 x1 x2 h) := by
  unfold XX11_value
  refine Fr_cal (fg_XX11_netOf _ (fun a i hh => hh.elim) _ ag_h) (fun r1 h2 ag_h2 => ?_)
  refine Fr_ite ?_ ?_
  · exact Fr_some ag_h2
  · refine Fr_asr (fun ha1 => ?_)
    refine Fr_cal (fg_XX8_isWire _ _ (fun a i hh => hh.elim) _ ag_h2) (fun r4 h5 ag_h5 => ?_)
    refine Fr_ite ?_ ?_
    · exact Fr_some ag_h5
    · refine Fr_cal (fg_XX0_has _ (fun a i hh => hh.elim) _ ag_h5) (fun r6 h7 ag_h7 => ?_)
      refine Fr_ite ?_ ?_
      · exact Fr_some ag_h7
      · refine Fr_cal (fg_XX6_refresh _ (fun a i hh => hW a i ((fun q => q.elim (fun q => by omega) (fun q => q.elim (fun q => by omega) (fun q => q.elim (fun q => by omega) (fun q => by omega)))) hh)) _ ag_h7) (fun r8 h9 ag_h9 => ?_)
        refine Fr_chk ?_
        refine Fr_chk ?_
        refine Fr_chk ?_
        refine Fr_inb ?_
        refine Fr_chk ?_
        exact Fr_some ag_h9
theorem fr_XX11_value {x0 : Int} {x1 : Int} {x2 : Int} {h : Hp} {r : Int} {h1 : Hp} (e : XX11_value x0 x1 x2 h = some (r, h1)) (a i : Nat) (hn : ¬ ((17 ≤ a ∧ a ≤ 36))) : h1 a i = h a i := fg_XX11_value (W := fun a i => (17 ≤ a ∧ a ≤ 36)) x0 x1 x2 (fun _ _ hh => hh) h (fun _ _ _ => rfl) r h1 e a i hn
theorem fg_XX11_hangs {W : Nat → Nat → Prop} {h0 : Hp} (x0 : Int) (x1 : Int) (x2 : Int) (hW : ∀ a i : Nat, ((17 ≤ a ∧ a ≤ 36)) → W a i) (h : Hp) (ag_h : Ag W h0 h) : Fr W h0 (XX11_hangs x0 x1 x2 h) := by
  unfold XX11_hangs
  refine Fr_cal (fg_XX11_netOf _ (fun a i hh => hh.elim) _ ag_h) (fun r1 h2 ag_h2 => ?_)
  refine Fr_ite ?_ ?_
  · exact Fr_some ag_h2
  · refine Fr_asr (fun ha1 => ?_)
    refine Fr_cal (fg_XX8_isWire _ _ (fun a i hh => hh.elim) _ ag_h2) (fun r4 h5 ag_h5 => ?_)
    refine Fr_ite ?_ ?_
    · exact Fr_some ag_h5
    · refine Fr_cal (fg_XX8_isWire _ _ (fun a i hh => hh.elim) _ ag_h5) (fun r6 h7 ag_h7 => ?_)
      refine Fr_ite ?_ ?_
      · exact Fr_some ag_h7
      · refine Fr_cal (fg_XX6_refresh _ (fun a i hh => hW a i ((fun q => q.elim (fun q => by omega) (fun q => q.elim (fun q => by omega) (fun q => q.elim (fun q => by omega) (fun q => by omega)))) hh)) _ ag_h7) (fun r8 h9 ag_h9 => ?_)
        refine Fr_cal (fg_XX6_hangsOn _ _ _ (fun a i hh => hh.elim) _ ag_h9) (fun r10 h11 ag_h11 => ?_)
        refine Fr_ite ?_ ?_
        · exact Fr_some ag_h11
        · exact Fr_some ag_h11
theorem fr_XX11_hangs {x0 : Int} {x1 : Int} {x2 : Int} {h : Hp} {r : Int} {h1 : Hp} (e : XX11_hangs x0 x1 x2 h = some (r, h1)) (a i : Nat) (hn : ¬ ((17 ≤ a ∧ a ≤ 36))) : h1 a i = h a i := fg_XX11_hangs (W := fun a i => (17 ≤ a ∧ a ≤ 36)) x0 x1 x2 (fun _ _ hh => hh) h (fun _ _ _ => rfl) r h1 e a i hn
theorem fg_XX11_refreshBoth {W : Nat → Nat → Prop} {h0 : Hp} (hW : ∀ a i : Nat, ((23 ≤ a ∧ a ≤ 25) ∨ (33 ≤ a ∧ a ≤ 35) ∨ (a = 17 ∧ i = 6) ∨ (a = 27 ∧ i = 6)) → W a i) (h : Hp) (ag_h : Ag W h0 h) : Fr W h0 (XX11_refreshBoth  h) := by
  unfold XX11_refreshBoth
  refine Fr_cal (fg_XX6_refresh _ (fun a i hh => hW a i ((fun q => q.elim (fun q => Or.inr (Or.inr (Or.inl (by omega)))) (fun q => q.elim (fun q => Or.inl (by omega)) (fun q => q.elim (fun q => Or.inl (by omega)) (fun q => Or.inl (by omega))))) hh)) _ ag_h) (fun r1 h2 ag_h2 => ?_)
  refine Fr_cal (fg_XX6_refresh _ (fun a i hh => hW a i ((fun q => q.elim (fun q => Or.inr (Or.inr (Or.inr (by omega)))) (fun q => q.elim (fun q => Or.inr (Or.inl (by omega))) (fun q => q.elim (fun q => Or.inr (Or.inl (by omega))) (fun q => Or.inr (Or.inl (by omega)))))) hh)) _ ag_h2) (fun r3 h4 ag_h4 => ?_)
  exact Fr_some ag_h4
theorem fr_XX11_refreshBoth {h : Hp} {r : Int} {h1 : Hp} (e : XX11_refreshBoth  h = some (r, h1)) (a i : Nat) (hn : ¬ ((23 ≤ a ∧ a ≤ 25) ∨ (33 ≤ a ∧ a ≤ 35) ∨ (a = 17 ∧ i = 6) ∨ (a = 27 ∧ i = 6))) : h1 a i = h a i := fg_XX11_refreshBoth (W := fun a i => (23 ≤ a ∧ a ≤ 25) ∨ (33 ≤ a ∧ a ≤ 35) ∨ (a = 17 ∧ i = 6) ∨ (a = 27 ∧ i = 6))  (fun _ _ hh => hh) h (fun _ _ _ => rfl) r h1 e a i hn
theorem fg_XX11_differ {W : Nat → Nat → Prop} {h0 : Hp} (hW : ∀ a i : Nat, ((23 ≤ a ∧ a ≤ 25) ∨ (33 ≤ a ∧ a ≤ 35) ∨ (a = 17 ∧ i = 6) ∨ (a = 27 ∧ i = 6)) → W a i) (h : Hp) (ag_h : Ag W h0 h) : Fr W h0 (XX11_differ  h) := by
  unfold XX11_differ
  refine Fr_cal (fg_XX11_refreshBoth (fun a i hh => hW a i ((fun q => q.elim (fun q => Or.inl (by omega)) (fun q => q.elim (fun q => Or.inr (Or.inl (by omega))) (fun q => q.elim (fun q => Or.inr (Or.inr (Or.inl (by omega)))) (fun q => Or.inr (Or.inr (Or.inr (by omega))))))) hh)) _ ag_h) (fun r1 h2 ag_h2 => ?_)
  refine Fr_cal (fg_XX5_firstDifference (fun a i hh => hh.elim) _ ag_h2) (fun r3 h4 ag_h4 => ?_)
  exact Fr_some ag_h4
theorem fr_XX11_differ {h : Hp} {r : Int} {h1 : Hp} (e : XX11_differ  h = some (r, h1)) (a i : Nat) (hn : ¬ ((23 ≤ a ∧ a ≤ 25) ∨ (33 ≤ a ∧ a ≤ 35) ∨ (a = 17 ∧ i = 6) ∨ (a = 27 ∧ i = 6))) : h1 a i = h a i := fg_XX11_differ (W := fun a i => (23 ≤ a ∧ a ≤ 25) ∨ (33 ≤ a ∧ a ≤ 35) ∨ (a = 17 ∧ i = 6) ∨ (a = 27 ∧ i = 6))  (fun _ _ hh => hh) h (fun _ _ _ => rfl) r h1 e a i hn
theorem fg_XX11_enough {W : Nat → Nat → Prop} {h0 : Hp} (x0 : Int) (x1 : Int) (x2 : Int) (hW : ∀ a i : Nat, ((23 ≤ a ∧ a ≤ 25) ∨ (33 ≤ a ∧ a ≤ 35) ∨ (41 ≤ a ∧ a ≤ 43) ∨ a = 203 ∨ (a = 17 ∧ i = 6) ∨ (a = 27 ∧ i = 6) ∨ (a = 40 ∧ 4 ≤ i ∧ i ≤ 5) ∨ (a = 40 ∧ i = 8)) → W a i) (h : Hp) (ag_h : Ag W h0 h) : Fr W h0 (XX11_enough x0 x1 x2 h) := by
  unfold XX11_enough
  refine Fr_cal (fg_XX5_aim _ _ _ (fun a i hh => hW a i ((fun q => q.elim (fun q => Or.inr (Or.inr (Or.inl (by omega)))) (fun q => Or.inr (Or.inr (Or.inr (Or.inr (Or.inr (Or.inr (Or.inl (by omega))))))))) hh)) _ ag_h) (fun r1 h2 ag_h2 => ?_)
  refine Fr_ite ?_ ?_
  · exact Fr_some ag_h2
  · refine Fr_cal (fg_XX11_refreshBoth (fun a i hh => hW a i ((fun q => q.elim (fun q => Or.inl (by omega)) (fun q => q.elim (fun q => Or.inr (Or.inl (by omega))) (fun q => q.elim (fun q => Or.inr (Or.inr (Or.inr (Or.inr (Or.inl (by omega)))))) (fun q => Or.inr (Or.inr (Or.inr (Or.inr (Or.inr (Or.inl (by omega)))))))))) hh)) _ ag_h2) (fun r3 h4 ag_h4 => ?_)
    refine Fr_cal (fg_XX5_firstUnmended (fun a i hh => hW a i ((fun q => q.elim (fun q => Or.inr (Or.inr (Or.inl (by omega)))) (fun q => q.elim (fun q => Or.inr (Or.inr (Or.inr (Or.inl (by omega))))) (fun q => Or.inr (Or.inr (Or.inr (Or.inr (Or.inr (Or.inr (Or.inr (by omega)))))))))) hh)) _ ag_h4) (fun r5 h6 ag_h6 => ?_)
    exact Fr_some ag_h6
theorem fr_XX11_enough {x0 : Int} {x1 : Int} {x2 : Int} {h : Hp} {r : Int} {h1 : Hp} (e : XX11_enough x0 x1 x2 h = some (r, h1)) (a i : Nat) (hn : ¬ ((23 ≤ a ∧ a ≤ 25) ∨ (33 ≤ a ∧ a ≤ 35) ∨ (41 ≤ a ∧ a ≤ 43) ∨ a = 203 ∨ (a = 17 ∧ i = 6) ∨ (a = 27 ∧ i = 6) ∨ (a = 40 ∧ 4 ≤ i ∧ i ≤ 5) ∨ (a = 40 ∧ i = 8))) : h1 a i = h a i := fg_XX11_enough (W := fun a i => (23 ≤ a ∧ a ≤ 25) ∨ (33 ≤ a ∧ a ≤ 35) ∨ (41 ≤ a ∧ a ≤ 43) ∨ a = 203 ∨ (a = 17 ∧ i = 6) ∨ (a = 27 ∧ i = 6) ∨ (a = 40 ∧ 4 ≤ i ∧ i ≤ 5) ∨ (a = 40 ∧ i = 8)) x0 x1 x2 (fun _ _ hh => hh) h (fun _ _ _ => rfl) r h1 e a i hn
theorem fg_XX11_points_b43 {W : Nat → Nat → Prop} {h0 : Hp} (self43 : Int → Int → Hp → OR) (hs_self43 : ∀ (y0 y1 : Int) (hh : Hp), Ag W h0 hh → Fr W h0 (self43 y0 y1 hh)) (l1 : Int) (l3 : Int) (hW : ∀ a i : Nat, ((41 ≤ a ∧ a ≤ 43) ∨ a = 100 ∨ (203 ≤ a ∧ a ≤ 205) ∨ (a = 16 ∧ i = 12) ∨ (a = 40 ∧ 4 ≤ i ∧ i ≤ 5) ∨ (a = 40 ∧ i = 8) ∨ (a = 40 ∧ i = 12)) → W a i) (h : Hp) (ag_h : Ag W h0 h) : Fr W h0 (XX11_points_b43 self43 l1 l3 h) := by
  unfold XX11_points_b43
  refine Fr_ite ?_ ?_
  · exact Fr_some ag_h
  · refine Fr_cal (fg_XX5_search _ (fun a i hh => hW a i ((fun q => q.elim (fun q => Or.inl (by omega)) (fun q => q.elim (fun q => Or.inr (Or.inr (Or.inl (by omega)))) (fun q => q.elim (fun q => Or.inr (Or.inr (Or.inr (Or.inr (Or.inl (by omega)))))) (fun q => q.elim (fun q => Or.inr (Or.inr (Or.inr (Or.inr (Or.inr (Or.inl (by omega))))))) (fun q => Or.inr (Or.inr (Or.inr (Or.inr (Or.inr (Or.inr (by omega))))))))))) hh)) _ ag_h) (fun r7 h8 ag_h8 => ?_)
    refine Fr_ite ?_ ?_
    · refine Fr_chk ?_
      exact hs_self43 _ _ _ ag_h8
    · refine Fr_acp ?_
      refine Fr_cpy ag_h8 (fun q => hW _ _ (Or.inr (Or.inl (by omega)))) (fun h9 ag_h9 => ?_)
      refine Fr_wr ag_h9 (hW _ _ (Or.inr (Or.inr (Or.inr (Or.inl (by omega)))))) (fun h10 ag_h10 => ?_)
      exact Fr_some ag_h10
theorem fg_XX11_points_L43 {W : Nat → Nat → Prop} {h0 : Hp} (l1 : Int) (l3 : Int) (hW : ∀ a i : Nat, ((41 ≤ a ∧ a ≤ 43) ∨ a = 100 ∨ (203 ≤ a ∧ a ≤ 205) ∨ (a = 16 ∧ i = 12) ∨ (a = 40 ∧ 4 ≤ i ∧ i ≤ 5) ∨ (a = 40 ∧ i = 8) ∨ (a = 40 ∧ i = 12)) → W a i) (h : Hp) (ag_h : Ag W h0 h) : Fr W h0 (XX11_points_L43 l1 l3 h) := by
  unfold XX11_points_L43
  exact Fr_lup2 (fun self hs z0 z1 hh ag => fg_XX11_points_b43 self hs z0 z1 hW hh ag) FU _ _ _ ag_h
theorem fg_XX11_points {W : Nat → Nat → Prop} {h0 : Hp} (x0 : Int) (hW : ∀ a i : Nat, ((23 ≤ a ∧ a ≤ 25) ∨ (33 ≤ a ∧ a ≤ 35) ∨ (41 ≤ a ∧ a ≤ 44) ∨ a = 100 ∨ (203 ≤ a ∧ a ≤ 205) ∨ (a = 16 ∧ i = 12) ∨ (a = 17 ∧ i = 6) ∨ (a = 27 ∧ i = 6) ∨ (a = 40 ∧ 4 ≤ i ∧ i ≤ 5) ∨ (a = 40 ∧ i = 8) ∨ (a = 40 ∧ 11 ≤ i ∧ i ≤ 12)) → W a i) (h : Hp) (ag_h : Ag W h0 h) : Fr W h0 (XX11_points x0 h) := by
  unfold XX11_points
  refine Fr_ite ?_ ?_
  · exact Fr_some ag_h
  · refine Fr_ite ?_ ?_
    · refine Fr_cal (fg_XX11_refreshBoth (fun a i hh => hW a i ((fun q => q.elim (fun q => Or.inl (by omega)) (fun q => q.elim (fun q => Or.inr (Or.inl (by omega))) (fun q => q.elim (fun q => Or.inr (Or.inr (Or.inr (Or.inr (Or.inr (Or.inr (Or.inl (by omega)))))))) (fun q => Or.inr (Or.inr (Or.inr (Or.inr (Or.inr (Or.inr (Or.inr (Or.inl (by omega)))))))))))) hh)) _ ag_h) (fun r1 h2 ag_h2 => ?_)
      refine Fr_cal (fg_XX5_firstDifference (fun a i hh => hh.elim) _ ag_h2) (fun r3 h4 ag_h4 => ?_)
      refine Fr_ite ?_ ?_
      · exact Fr_some ag_h4
      · refine Fr_cal (fg_XX5_startSearch _ (fun a i hh => hW a i ((fun q => q.elim (fun q => Or.inr (Or.inr (Or.inl (by omega)))) (fun q => q.elim (fun q => Or.inr (Or.inr (Or.inr (Or.inr (Or.inl (by omega)))))) (fun q => Or.inr (Or.inr (Or.inr (Or.inr (Or.inr (Or.inr (Or.inr (Or.inr (Or.inr (Or.inr (by omega))))))))))))) hh)) _ ag_h4) (fun r5 h6 ag_h6 => ?_)
        exact fg_XX11_points_L43 _ _ (fun a i hh => hW a i ((fun q => q.elim (fun q => Or.inr (Or.inr (Or.inl (by omega)))) (fun q => q.elim (fun q => Or.inr (Or.inr (Or.inr (Or.inl (by omega))))) (fun q => q.elim (fun q => Or.inr (Or.inr (Or.inr (Or.inr (Or.inl (by omega)))))) (fun q => q.elim (fun q => Or.inr (Or.inr (Or.inr (Or.inr (Or.inr (Or.inl (by omega))))))) (fun q => q.elim (fun q => Or.inr (Or.inr (Or.inr (Or.inr (Or.inr (Or.inr (Or.inr (Or.inr (Or.inl (by omega)))))))))) (fun q => q.elim (fun q => Or.inr (Or.inr (Or.inr (Or.inr (Or.inr (Or.inr (Or.inr (Or.inr (Or.inr (Or.inl (by omega))))))))))) (fun q => Or.inr (Or.inr (Or.inr (Or.inr (Or.inr (Or.inr (Or.inr (Or.inr (Or.inr (Or.inr (by omega))))))))))))))))) hh)) _ ag_h6
    · exact Fr_some ag_h
theorem fr_XX11_points {x0 : Int} {h : Hp} {r : Int} {h1 : Hp} (e : XX11_points x0 h = some (r, h1)) (a i : Nat) (hn : ¬ ((23 ≤ a ∧ a ≤ 25) ∨ (33 ≤ a ∧ a ≤ 35) ∨ (41 ≤ a ∧ a ≤ 44) ∨ a = 100 ∨ (203 ≤ a ∧ a ≤ 205) ∨ (a = 16 ∧ i = 12) ∨ (a = 17 ∧ i = 6) ∨ (a = 27 ∧ i = 6) ∨ (a = 40 ∧ 4 ≤ i ∧ i ≤ 5) ∨ (a = 40 ∧ i = 8) ∨ (a = 40 ∧ 11 ≤ i ∧ i ≤ 12))) : h1 a i = h a i := fg_XX11_points (W := fun a i => (23 ≤ a ∧ a ≤ 25) ∨ (33 ≤ a ∧ a ≤ 35) ∨ (41 ≤ a ∧ a ≤ 44) ∨ a = 100 ∨ (203 ≤ a ∧ a ≤ 205) ∨ (a = 16 ∧ i = 12) ∨ (a = 17 ∧ i = 6) ∨ (a = 27 ∧ i = 6) ∨ (a = 40 ∧ 4 ≤ i ∧ i ≤ 5) ∨ (a = 40 ∧ i = 8) ∨ (a = 40 ∧ 11 ≤ i ∧ i ≤ 12)) x0 (fun _ _ hh => hh) h (fun _ _ _ => rfl) r h1 e a i hn
theorem fg_XX11_point_p12 {W : Nat → Nat → Prop} {h0 : Hp} (hW : ∀ a i : Nat, (False) → W a i) (h : Hp) (ag_h : Ag W h0 h) : Fr W h0 (XX11_point_p12  h) := by
  unfold XX11_point_p12
  exact Fr_some ag_h
theorem fg_XX11_point {W : Nat → Nat → Prop} {h0 : Hp} (x0 : Int) (hW : ∀ a i : Nat, (False) → W a i) (h : Hp) (ag_h : Ag W h0 h) : Fr W h0 (XX11_point x0 h) := by
  unfold XX11_point
  refine Fr_ite ?_ ?_
  · exact fg_XX11_point_p12 (fun a i hh => hh.elim) _ ag_h
  · refine Fr_ite ?_ ?_
    · refine Fr_inb ?_
      exact Fr_some ag_h
    · exact fg_XX11_point_p12 (fun a i hh => hh.elim) _ ag_h
theorem fr_XX11_point {x0 : Int} {h : Hp} {r : Int} {h1 : Hp} (e : XX11_point x0 h = some (r, h1)) (a i : Nat) (hn : ¬ (False)) : h1 a i = h a i := fg_XX11_point (W := fun a i => False) x0 (fun _ _ hh => hh) h (fun _ _ _ => rfl) r h1 e a i hn
theorem fe_XX11_point {x0 : Int} {h : Hp} {r : Int} {h1 : Hp} (e : XX11_point x0 h = some (r, h1)) : h1 = h := funext (fun a => funext (fun i => fr_XX11_point e a i (fun hh => hh)))
theorem fg_XX11_mend {W : Nat → Nat → Prop} {h0 : Hp} (x0 : Int) (x1 : Int) (x2 : Int) (x3 : Int) (hW : ∀ a i : Nat, ((23 ≤ a ∧ a ≤ 25) ∨ (33 ≤ a ∧ a ≤ 35) ∨ (41 ≤ a ∧ a ≤ 43) ∨ a = 203 ∨ (a = 17 ∧ i = 6) ∨ (a = 27 ∧ i = 6) ∨ (a = 40 ∧ 4 ≤ i ∧ i ≤ 5) ∨ (a = 40 ∧ i = 8)) → W a i) (h : Hp) (ag_h : Ag W h0 h) : Fr W h0 (XX11_mend x0 x1 x2 x3 h) := by
  unfold XX11_mend
  refine Fr_cal (fg_XX5_aim _ _ _ (fun a i hh => hW a i ((fun q => q.elim (fun q => Or.inr (Or.inr (Or.inl (by omega)))) (fun q => Or.inr (Or.inr (Or.inr (Or.inr (Or.inr (Or.inr (Or.inl (by omega))))))))) hh)) _ ag_h) (fun r1 h2 ag_h2 => ?_)
  refine Fr_ite ?_ ?_
  · exact Fr_some ag_h2
  · refine Fr_cal (fg_XX0_has _ (fun a i hh => hh.elim) _ ag_h2) (fun r3 h4 ag_h4 => ?_)
    refine Fr_ite ?_ ?_
    · exact Fr_some ag_h4
    · refine Fr_cal (fg_XX11_refreshBoth (fun a i hh => hW a i ((fun q => q.elim (fun q => Or.inl (by omega)) (fun q => q.elim (fun q => Or.inr (Or.inl (by omega))) (fun q => q.elim (fun q => Or.inr (Or.inr (Or.inr (Or.inr (Or.inl (by omega)))))) (fun q => Or.inr (Or.inr (Or.inr (Or.inr (Or.inr (Or.inl (by omega)))))))))) hh)) _ ag_h4) (fun r5 h6 ag_h6 => ?_)
      refine Fr_cal (fg_XX5_leastMending _ (fun a i hh => hW a i ((fun q => q.elim (fun q => Or.inr (Or.inr (Or.inl (by omega)))) (fun q => q.elim (fun q => Or.inr (Or.inr (Or.inr (Or.inl (by omega))))) (fun q => Or.inr (Or.inr (Or.inr (Or.inr (Or.inr (Or.inr (Or.inr (by omega)))))))))) hh)) _ ag_h6) (fun r7 h8 ag_h8 => ?_)
      exact Fr_some ag_h8
theorem fr_XX11_mend {x0 : Int} {x1 : Int} {x2 : Int} {x3 : Int} {h : Hp} {r : Int} {h1 : Hp} (e : XX11_mend x0 x1 x2 x3 h = some (r, h1)) (a i : Nat) (hn : ¬ ((23 ≤ a ∧ a ≤ 25) ∨ (33 ≤ a ∧ a ≤ 35) ∨ (41 ≤ a ∧ a ≤ 43) ∨ a = 203 ∨ (a = 17 ∧ i = 6) ∨ (a = 27 ∧ i = 6) ∨ (a = 40 ∧ 4 ≤ i ∧ i ≤ 5) ∨ (a = 40 ∧ i = 8))) : h1 a i = h a i := fg_XX11_mend (W := fun a i => (23 ≤ a ∧ a ≤ 25) ∨ (33 ≤ a ∧ a ≤ 35) ∨ (41 ≤ a ∧ a ≤ 43) ∨ a = 203 ∨ (a = 17 ∧ i = 6) ∨ (a = 27 ∧ i = 6) ∨ (a = 40 ∧ 4 ≤ i ∧ i ≤ 5) ∨ (a = 40 ∧ i = 8)) x0 x1 x2 x3 (fun _ _ hh => hh) h (fun _ _ _ => rfl) r h1 e a i hn
theorem fg_XX11_isTape {W : Nat → Nat → Prop} {h0 : Hp} (x0 : Int) (hW : ∀ a i : Nat, (False) → W a i) (h : Hp) (ag_h : Ag W h0 h) : Fr W h0 (XX11_isTape x0 h) := by
  unfold XX11_isTape
  refine Fr_ite ?_ ?_
  · refine Fr_zb ?_
    exact Fr_some ag_h
  · refine Fr_ite ?_ ?_
    · refine Fr_zb ?_
      exact Fr_some ag_h
    · refine Fr_zb ?_
      exact Fr_some ag_h
theorem fr_XX11_isTape {x0 : Int} {h : Hp} {r : Int} {h1 : Hp} (e : XX11_isTape x0 h = some (r, h1)) (a i : Nat) (hn : ¬ (False)) : h1 a i = h a i := fg_XX11_isTape (W := fun a i => False) x0 (fun _ _ hh => hh) h (fun _ _ _ => rfl) r h1 e a i hn
theorem fe_XX11_isTape {x0 : Int} {h : Hp} {r : Int} {h1 : Hp} (e : XX11_isTape x0 h = some (r, h1)) : h1 = h := funext (fun a => funext (fun i => fr_XX11_isTape e a i (fun hh => hh)))
theorem fg_XX11_witness {W : Nat → Nat → Prop} {h0 : Hp} (x0 : Int) (x1 : Int) (x2 : Int) (x3 : Int) (hW : ∀ a i : Nat, ((101 ≤ a ∧ a ≤ 142) ∨ (23 ≤ a ∧ a ≤ 25) ∨ (33 ≤ a ∧ a ≤ 35) ∨ (41 ≤ a ∧ a ≤ 43) ∨ a = 203 ∨ (a = 17 ∧ i = 6) ∨ (a = 27 ∧ i = 6) ∨ (a = 40 ∧ 4 ≤ i ∧ i ≤ 5) ∨ (a = 40 ∧ i = 8)) → W a i) (h : Hp) (ag_h : Ag W h0 h) : Fr W h0 (XX11_witness x0 x1 x2 x3 h) := by
  unfold XX11_witness
  refine Fr_cal (fg_XX11_isTape _ (fun a i hh => hh.elim) _ ag_h) (fun r1 h2 ag_h2 => ?_)
  refine Fr_ite ?_ ?_
  · exact Fr_some ag_h2
  · refine Fr_cal (fg_XX5_aim _ _ _ (fun a i hh => hW a i ((fun q => q.elim (fun q => Or.inr (Or.inr (Or.inr (Or.inl (by omega))))) (fun q => Or.inr (Or.inr (Or.inr (Or.inr (Or.inr (Or.inr (Or.inr (Or.inl (by omega)))))))))) hh)) _ ag_h2) (fun r3 h4 ag_h4 => ?_)
    refine Fr_ite ?_ ?_
    · exact Fr_some ag_h4
    · refine Fr_cal (fg_XX11_refreshBoth (fun a i hh => hW a i ((fun q => q.elim (fun q => Or.inr (Or.inl (by omega))) (fun q => q.elim (fun q => Or.inr (Or.inr (Or.inl (by omega)))) (fun q => q.elim (fun q => Or.inr (Or.inr (Or.inr (Or.inr (Or.inr (Or.inl (by omega))))))) (fun q => Or.inr (Or.inr (Or.inr (Or.inr (Or.inr (Or.inr (Or.inl (by omega))))))))))) hh)) _ ag_h4) (fun r5 h6 ag_h6 => ?_)
      refine Fr_cal (fg_XX5_firstUnmended (fun a i hh => hW a i ((fun q => q.elim (fun q => Or.inr (Or.inr (Or.inr (Or.inl (by omega))))) (fun q => q.elim (fun q => Or.inr (Or.inr (Or.inr (Or.inr (Or.inl (by omega)))))) (fun q => Or.inr (Or.inr (Or.inr (Or.inr (Or.inr (Or.inr (Or.inr (Or.inr (by omega))))))))))) hh)) _ ag_h6) (fun r7 h8 ag_h8 => ?_)
      refine Fr_ite ?_ ?_
      · refine Fr_inb ?_
        refine Fr_nmP (fun u9 => ?_)
        refine Fr_asr (fun ha1 => ?_)
        refine Fr_cal (fg_XX10_hold _ _ _ (fun a i hh => hW a i ((fun q => q.elim (fun q => Or.inl (by omega)) (fun q => Or.inl (by omega))) hh)) _ ag_h8) (fun r11 h12 ag_h12 => ?_)
        refine Fr_inb ?_
        refine Fr_nmP (fun u13 => ?_)
        refine Fr_asr (fun ha2 => ?_)
        refine Fr_cal (fg_XX5_writeLeast _ (fun a i hh => hW a i ((fun q => q.elim (fun q => Or.inr (Or.inr (Or.inr (Or.inl (by omega))))) (fun q => q.elim (fun q => Or.inr (Or.inr (Or.inr (Or.inr (Or.inl (by omega)))))) (fun q => q.elim (fun q => Or.inr (Or.inr (Or.inr (Or.inr (Or.inr (Or.inr (Or.inr (Or.inr (by omega))))))))) (fun q => Or.inl (by omega))))) hh)) _ ag_h12) (fun r15 h16 ag_h16 => ?_)
        exact Fr_some ag_h16
      · exact Fr_some ag_h8
theorem fr_XX11_witness {x0 : Int} {x1 : Int} {x2 : Int} {x3 : Int} {h : Hp} {r : Int} {h1 : Hp} (e : XX11_witness x0 x1 x2 x3 h = some (r, h1)) (a i : Nat) (hn : ¬ ((101 ≤ a ∧ a ≤ 142) ∨ (23 ≤ a ∧ a ≤ 25) ∨ (33 ≤ a ∧ a ≤ 35) ∨ (41 ≤ a ∧ a ≤ 43) ∨ a = 203 ∨ (a = 17 ∧ i = 6) ∨ (a = 27 ∧ i = 6) ∨ (a = 40 ∧ 4 ≤ i ∧ i ≤ 5) ∨ (a = 40 ∧ i = 8))) : h1 a i = h a i := fg_XX11_witness (W := fun a i => (101 ≤ a ∧ a ≤ 142) ∨ (23 ≤ a ∧ a ≤ 25) ∨ (33 ≤ a ∧ a ≤ 35) ∨ (41 ≤ a ∧ a ≤ 43) ∨ a = 203 ∨ (a = 17 ∧ i = 6) ∨ (a = 27 ∧ i = 6) ∨ (a = 40 ∧ 4 ≤ i ∧ i ≤ 5) ∨ (a = 40 ∧ i = 8)) x0 x1 x2 x3 (fun _ _ hh => hh) h (fun _ _ _ => rfl) r h1 e a i hn
theorem fg_XX11_refused {W : Nat → Nat → Prop} {h0 : Hp} (x0 : Int) (hW : ∀ a i : Nat, ((a = 16 ∧ i = 15)) → W a i) (h : Hp) (ag_h : Ag W h0 h) : Fr W h0 (XX11_refused x0 h) := by
  unfold XX11_refused
  refine Fr_chk ?_
  refine Fr_wr ag_h (hW _ _ (by omega)) (fun h1 ag_h1 => ?_)
  exact Fr_some ag_h1
theorem fr_XX11_refused {x0 : Int} {h : Hp} {r : Int} {h1 : Hp} (e : XX11_refused x0 h = some (r, h1)) (a i : Nat) (hn : ¬ ((a = 16 ∧ i = 15))) : h1 a i = h a i := fg_XX11_refused (W := fun a i => (a = 16 ∧ i = 15)) x0 (fun _ _ hh => hh) h (fun _ _ _ => rfl) r h1 e a i hn
theorem fg_XX11_judge {W : Nat → Nat → Prop} {h0 : Hp} (x0 : Int) (x1 : Int) (x2 : Int) (x3 : Int) (hW : ∀ a i : Nat, ((23 ≤ a ∧ a ≤ 25) ∨ (33 ≤ a ∧ a ≤ 35) ∨ (41 ≤ a ∧ a ≤ 43) ∨ a = 203 ∨ (a = 16 ∧ i = 15) ∨ (a = 17 ∧ i = 6) ∨ (a = 27 ∧ i = 6) ∨ (a = 40 ∧ 4 ≤ i ∧ i ≤ 5) ∨ (a = 40 ∧ i = 8)) → W a i) (h : Hp) (ag_h : Ag W h0 h) : Fr W h0 (XX11_judge x0 x1 x2 x3 h) := by
  unfold XX11_judge
  refine Fr_cal (fg_XX11_isTape _ (fun a i hh => hh.elim) _ ag_h) (fun r1 h2 ag_h2 => ?_)
  refine Fr_ite ?_ ?_
  · exact Fr_some ag_h2
  · refine Fr_cal (fg_XX5_aim _ _ _ (fun a i hh => hW a i ((fun q => q.elim (fun q => Or.inr (Or.inr (Or.inl (by omega)))) (fun q => Or.inr (Or.inr (Or.inr (Or.inr (Or.inr (Or.inr (Or.inr (Or.inl (by omega)))))))))) hh)) _ ag_h2) (fun r3 h4 ag_h4 => ?_)
    refine Fr_ite ?_ ?_
    · exact Fr_some ag_h4
    · refine Fr_inb ?_
      refine Fr_nmP (fun u5 => ?_)
      refine Fr_asr (fun ha1 => ?_)
      refine Fr_ite ?_ ?_
      · refine Fr_cal (fg_XX11_refused _ (fun a i hh => hW a i (Or.inr (Or.inr (Or.inr (Or.inr (Or.inl (by omega))))))) _ ag_h4) (fun r21 h22 ag_h22 => ?_)
        exact Fr_some ag_h22
      · refine Fr_inb ?_
        refine Fr_nmP (fun u7 => ?_)
        refine Fr_asr (fun ha2 => ?_)
        refine Fr_ite ?_ ?_
        · refine Fr_cal (fg_XX11_refreshBoth (fun a i hh => hW a i ((fun q => q.elim (fun q => Or.inl (by omega)) (fun q => q.elim (fun q => Or.inr (Or.inl (by omega))) (fun q => q.elim (fun q => Or.inr (Or.inr (Or.inr (Or.inr (Or.inr (Or.inl (by omega))))))) (fun q => Or.inr (Or.inr (Or.inr (Or.inr (Or.inr (Or.inr (Or.inl (by omega))))))))))) hh)) _ ag_h4) (fun r9 h10 ag_h10 => ?_)
          refine Fr_inb ?_
          refine Fr_nmP (fun u11 => ?_)
          refine Fr_asr (fun ha3 => ?_)
          refine Fr_inb ?_
          refine Fr_nmP (fun u13 => ?_)
          refine Fr_asr (fun ha4 => ?_)
          refine Fr_cal (fg_XX5_firstMisjudged _ _ (fun a i hh => hW a i ((fun q => q.elim (fun q => Or.inr (Or.inr (Or.inl (by omega)))) (fun q => q.elim (fun q => Or.inr (Or.inr (Or.inr (Or.inl (by omega))))) (fun q => Or.inr (Or.inr (Or.inr (Or.inr (Or.inr (Or.inr (Or.inr (Or.inr (by omega))))))))))) hh)) _ ag_h10) (fun r15 h16 ag_h16 => ?_)
          refine Fr_ite ?_ ?_
          · refine Fr_cal (fg_XX11_refused _ (fun a i hh => hW a i (Or.inr (Or.inr (Or.inr (Or.inr (Or.inl (by omega))))))) _ ag_h16) (fun r17 h18 ag_h18 => ?_)
            exact Fr_some ag_h18
          · exact Fr_some ag_h16
        · refine Fr_cal (fg_XX11_refused _ (fun a i hh => hW a i (Or.inr (Or.inr (Or.inr (Or.inr (Or.inl (by omega))))))) _ ag_h4) (fun r19 h20 ag_h20 => ?_)
          exact Fr_some ag_h20
theorem fr_XX11_judge {x0 : Int} {x1 : Int} {x2 : Int} {x3 : Int} {h : Hp} {r : Int} {h1 : Hp} (e : XX11_judge x0 x1 x2 x3 h = some (r, h1)) (a i : Nat) (hn : ¬ ((23 ≤ a ∧ a ≤ 25) ∨ (33 ≤ a ∧ a ≤ 35) ∨ (41 ≤ a ∧ a ≤ 43) ∨ a = 203 ∨ (a = 16 ∧ i = 15) ∨ (a = 17 ∧ i = 6) ∨ (a = 27 ∧ i = 6) ∨ (a = 40 ∧ 4 ≤ i ∧ i ≤ 5) ∨ (a = 40 ∧ i = 8))) : h1 a i = h a i := fg_XX11_judge (W := fun a i => (23 ≤ a ∧ a ≤ 25) ∨ (33 ≤ a ∧ a ≤ 35) ∨ (41 ≤ a ∧ a ≤ 43) ∨ a = 203 ∨ (a = 16 ∧ i = 15) ∨ (a = 17 ∧ i = 6) ∨ (a = 27 ∧ i = 6) ∨ (a = 40 ∧ 4 ≤ i ∧ i ≤ 5) ∨ (a = 40 ∧ i = 8)) x0 x1 x2 x3 (fun _ _ hh => hh) h (fun _ _ _ => rfl) r h1 e a i hn
theorem fg_XX11_patch {W : Nat → Nat → Prop} {h0 : Hp} (x0 : Int) (x1 : Int) (x2 : Int) (x3 : Int) (x4 : Int) (hW : ∀ a i : Nat, ((23 ≤ a ∧ a ≤ 25) ∨ (33 ≤ a ∧ a ≤ 35) ∨ (41 ≤ a ∧ a ≤ 43) ∨ (46 ≤ a ∧ a ≤ 52) ∨ (57 ≤ a ∧ a ≤ 65) ∨ a = 203 ∨ (a = 16 ∧ 13 ≤ i ∧ i ≤ 14) ∨ (a = 17 ∧ i = 6) ∨ (a = 27 ∧ i = 6) ∨ (a = 40 ∧ 4 ≤ i ∧ i ≤ 5) ∨ (a = 40 ∧ i = 8) ∨ (a = 45 ∧ i = 3) ∨ (a = 45 ∧ i = 5) ∨ (a = 45 ∧ 11 ≤ i ∧ i ≤ 13) ∨ (a = 56 ∧ 0 ≤ i ∧ i ≤ 1) ∨ (a = 56 ∧ i = 3) ∨ (a = 56 ∧ i = 5) ∨ (a = 56 ∧ i = 8)) → W a i) (h : Hp) (ag_h : Ag W h0 h) : Fr W h0 (XX11_patch x0 x1 x2 x3 x4 h) := by
  unfold XX11_patch
  refine Fr_cal (fg_XX5_aim _ _ _ (fun a i hh => hW a i ((fun q => q.elim (fun q => Or.inr (Or.inr (Or.inl (by omega)))) (fun q => Or.inr (Or.inr (Or.inr (Or.inr (Or.inr (Or.inr (Or.inr (Or.inr (Or.inr (Or.inl (by omega)))))))))))) hh)) _ ag_h) (fun r1 h2 ag_h2 => ?_)
  refine Fr_ite ?_ ?_
  · exact Fr_some ag_h2
  · refine Fr_cal (fg_XX1_tell _ _ _ (fun a i hh => hW a i ((fun q => q.elim (fun q => Or.inr (Or.inr (Or.inr (Or.inl (by omega))))) (fun q => Or.inr (Or.inr (Or.inr (Or.inr (Or.inr (Or.inr (Or.inr (Or.inr (Or.inr (Or.inr (Or.inr (Or.inr (Or.inl (by omega))))))))))))))) hh)) _ ag_h2) (fun r3 h4 ag_h4 => ?_)
    refine Fr_ite ?_ ?_
    · exact Fr_some ag_h4
    · refine Fr_cal (fg_XX11_refreshBoth (fun a i hh => hW a i ((fun q => q.elim (fun q => Or.inl (by omega)) (fun q => q.elim (fun q => Or.inr (Or.inl (by omega))) (fun q => q.elim (fun q => Or.inr (Or.inr (Or.inr (Or.inr (Or.inr (Or.inr (Or.inr (Or.inl (by omega))))))))) (fun q => Or.inr (Or.inr (Or.inr (Or.inr (Or.inr (Or.inr (Or.inr (Or.inr (Or.inl (by omega))))))))))))) hh)) _ ag_h4) (fun r5 h6 ag_h6 => ?_)
      refine Fr_cal (fg_XX1_toldHangOn _ (fun a i hh => hh.elim) _ ag_h6) (fun r7 h8 ag_h8 => ?_)
      refine Fr_ite ?_ ?_
      · refine Fr_cal (fg_XX1_learn (fun a i hh => hW a i ((fun q => q.elim (fun q => Or.inr (Or.inr (Or.inl (by omega)))) (fun q => q.elim (fun q => Or.inr (Or.inr (Or.inr (Or.inl (by omega))))) (fun q => q.elim (fun q => Or.inr (Or.inr (Or.inr (Or.inl (by omega))))) (fun q => q.elim (fun q => Or.inr (Or.inr (Or.inr (Or.inr (Or.inr (Or.inl (by omega))))))) (fun q => q.elim (fun q => Or.inr (Or.inr (Or.inr (Or.inr (Or.inr (Or.inr (Or.inr (Or.inr (Or.inr (Or.inr (Or.inl (by omega)))))))))))) (fun q => Or.inr (Or.inr (Or.inr (Or.inr (Or.inr (Or.inr (Or.inr (Or.inr (Or.inr (Or.inr (Or.inr (Or.inl (by omega)))))))))))))))))) hh)) _ ag_h8) (fun r9 h10 ag_h10 => ?_)
        refine Fr_cal (fg_XX1_allow (fun a i hh => hW a i (Or.inr (Or.inr (Or.inr (Or.inl (by omega)))))) _ ag_h10) (fun r11 h12 ag_h12 => ?_)
        refine Fr_ite ?_ ?_
        · refine Fr_cal (fg_XX1_findClash (fun a i hh => hW a i ((fun q => q.elim (fun q => Or.inr (Or.inr (Or.inr (Or.inl (by omega))))) (fun q => Or.inr (Or.inr (Or.inr (Or.inr (Or.inr (Or.inr (Or.inr (Or.inr (Or.inr (Or.inr (Or.inr (Or.inr (Or.inr (Or.inl (by omega)))))))))))))))) hh)) _ ag_h12) (fun r17 h18 ag_h18 => ?_)
          refine Fr_wr ag_h18 (hW _ _ (Or.inr (Or.inr (Or.inr (Or.inr (Or.inr (Or.inr (Or.inl (by omega))))))))) (fun h19 ag_h19 => ?_)
          refine Fr_wr ag_h19 (hW _ _ (Or.inr (Or.inr (Or.inr (Or.inr (Or.inr (Or.inr (Or.inl (by omega))))))))) (fun h20 ag_h20 => ?_)
          refine Fr_cal (fg_XX7_drop (fun a i hh => hW a i (Or.inr (Or.inr (Or.inr (Or.inr (Or.inr (Or.inr (Or.inr (Or.inr (Or.inr (Or.inr (Or.inr (Or.inr (Or.inr (Or.inr (Or.inl (by omega))))))))))))))))) _ ag_h20) (fun r21 h22 ag_h22 => ?_)
          exact Fr_some ag_h22
        · refine Fr_cal (fg_XX1_choose (fun a i hh => hW a i ((fun q => q.elim (fun q => Or.inr (Or.inr (Or.inr (Or.inl (by omega))))) (fun q => Or.inr (Or.inr (Or.inr (Or.inr (Or.inr (Or.inr (Or.inr (Or.inr (Or.inr (Or.inr (Or.inr (Or.inr (Or.inr (Or.inl (by omega)))))))))))))))) hh)) _ ag_h12) (fun r13 h14 ag_h14 => ?_)
          refine Fr_cal (fg_XX7_keep (fun a i hh => hW a i ((fun q => q.elim (fun q => Or.inr (Or.inr (Or.inr (Or.inr (Or.inl (by omega)))))) (fun q => q.elim (fun q => Or.inr (Or.inr (Or.inr (Or.inr (Or.inr (Or.inr (Or.inr (Or.inr (Or.inr (Or.inr (Or.inr (Or.inr (Or.inr (Or.inr (Or.inl (by omega)))))))))))))))) (fun q => q.elim (fun q => Or.inr (Or.inr (Or.inr (Or.inr (Or.inr (Or.inr (Or.inr (Or.inr (Or.inr (Or.inr (Or.inr (Or.inr (Or.inr (Or.inr (Or.inr (Or.inl (by omega))))))))))))))))) (fun q => q.elim (fun q => Or.inr (Or.inr (Or.inr (Or.inr (Or.inr (Or.inr (Or.inr (Or.inr (Or.inr (Or.inr (Or.inr (Or.inr (Or.inr (Or.inr (Or.inr (Or.inr (Or.inl (by omega)))))))))))))))))) (fun q => Or.inr (Or.inr (Or.inr (Or.inr (Or.inr (Or.inr (Or.inr (Or.inr (Or.inr (Or.inr (Or.inr (Or.inr (Or.inr (Or.inr (Or.inr (Or.inr (Or.inr (by omega)))))))))))))))))))))) hh)) _ ag_h14) (fun r15 h16 ag_h16 => ?_)
          exact Fr_some ag_h16
      · exact Fr_some ag_h8
theorem fr_XX11_patch {x0 : Int} {x1 : Int} {x2 : Int} {x3 : Int} {x4 : Int} {h : Hp} {r : Int} {h1 : Hp} (e : XX11_patch x0 x1 x2 x3 x4 h = some (r, h1)) (a i : Nat) (hn : ¬ ((23 ≤ a ∧ a ≤ 25) ∨ (33 ≤ a ∧ a ≤ 35) ∨ (41 ≤ a ∧ a ≤ 43) ∨ (46 ≤ a ∧ a ≤ 52) ∨ (57 ≤ a ∧ a ≤ 65) ∨ a = 203 ∨ (a = 16 ∧ 13 ≤ i ∧ i ≤ 14) ∨ (a = 17 ∧ i = 6) ∨ (a = 27 ∧ i = 6) ∨ (a = 40 ∧ 4 ≤ i ∧ i ≤ 5) ∨ (a = 40 ∧ i = 8) ∨ (a = 45 ∧ i = 3) ∨ (a = 45 ∧ i = 5) ∨ (a = 45 ∧ 11 ≤ i ∧ i ≤ 13) ∨ (a = 56 ∧ 0 ≤ i ∧ i ≤ 1) ∨ (a = 56 ∧ i = 3) ∨ (a = 56 ∧ i = 5) ∨ (a = 56 ∧ i = 8))) : h1 a i = h a i := fg_XX11_patch (W := fun a i => (23 ≤ a ∧ a ≤ 25) ∨ (33 ≤ a ∧ a ≤ 35) ∨ (41 ≤ a ∧ a ≤ 43) ∨ (46 ≤ a ∧ a ≤ 52) ∨ (57 ≤ a ∧ a ≤ 65) ∨ a = 203 ∨ (a = 16 ∧ 13 ≤ i ∧ i ≤ 14) ∨ (a = 17 ∧ i = 6) ∨ (a = 27 ∧ i = 6) ∨ (a = 40 ∧ 4 ≤ i ∧ i ≤ 5) ∨ (a = 40 ∧ i = 8) ∨ (a = 45 ∧ i = 3) ∨ (a = 45 ∧ i = 5) ∨ (a = 45 ∧ 11 ≤ i ∧ i ≤ 13) ∨ (a = 56 ∧ 0 ≤ i ∧ i ≤ 1) ∨ (a = 56 ∧ i = 3) ∨ (a = 56 ∧ i = 5) ∨ (a = 56 ∧ i = 8)) x0 x1 x2 x3 x4 (fun _ _ hh => hh) h (fun _ _ _ => rfl) r h1 e a i hn
theorem fg_XX11_clash {W : Nat → Nat → Prop} {h0 : Hp} (x0 : Int) (hW : ∀ a i : Nat, (False) → W a i) (h : Hp) (ag_h : Ag W h0 h) : Fr W h0 (XX11_clash x0 h) := by
  unfold XX11_clash
  refine Fr_ite ?_ ?_
  · exact Fr_some ag_h
  · refine Fr_ite ?_ ?_
    · exact Fr_some ag_h
    · exact Fr_some ag_h
theorem fr_XX11_clash {x0 : Int} {h : Hp} {r : Int} {h1 : Hp} (e : XX11_clash x0 h = some (r, h1)) (a i : Nat) (hn : ¬ (False)) : h1 a i = h a i := fg_XX11_clash (W := fun a i => False) x0 (fun _ _ hh => hh) h (fun _ _ _ => rfl) r h1 e a i hn
theorem fe_XX11_clash {x0 : Int} {h : Hp} {r : Int} {h1 : Hp} (e : XX11_clash x0 h = some (r, h1)) : h1 = h := funext (fun a => funext (fun i => fr_XX11_clash e a i (fun hh => hh)))
theorem fg_XX11_mark_p58 {W : Nat → Nat → Prop} {h0 : Hp} (l1 : Int) (l2 : Int) (hW : ∀ a i : Nat, (a = 54 ∨ (a = 53 ∧ i = 1)) → W a i) (h : Hp) (ag_h : Ag W h0 h) : Fr W h0 (XX11_mark_p58 l1 l2 h) := by
  unfold XX11_mark_p58
  refine Fr_cal (fg_XX4_give _ _ (fun a i hh => hW a i ((fun q => q.elim (fun q => Or.inl (by omega)) (fun q => Or.inr (by omega))) hh)) _ ag_h) (fun r3 h4 ag_h4 => ?_)
  exact Fr_some ag_h4
theorem fg_XX11_mark {W : Nat → Nat → Prop} {h0 : Hp} (x0 : Int) (x1 : Int) (hW : ∀ a i : Nat, (a = 54 ∨ (a = 53 ∧ i = 1)) → W a i) (h : Hp) (ag_h : Ag W h0 h) : Fr W h0 (XX11_mark x0 x1 h) := by
  unfold XX11_mark
  refine Fr_cal (fg_XX8_isWire _ _ (fun a i hh => hh.elim) _ ag_h) (fun r1 h2 ag_h2 => ?_)
  refine Fr_ite ?_ ?_
  · exact Fr_some ag_h2
  · refine Fr_ite ?_ ?_
    · exact Fr_some ag_h2
    · refine Fr_ite ?_ ?_
      · refine Fr_ite ?_ ?_
        · exact fg_XX11_mark_p58 _ _ (fun a i hh => hW a i ((fun q => q.elim (fun q => Or.inl (by omega)) (fun q => Or.inr (by omega))) hh)) _ ag_h2
        · refine Fr_ite ?_ ?_
          · exact fg_XX11_mark_p58 _ _ (fun a i hh => hW a i ((fun q => q.elim (fun q => Or.inl (by omega)) (fun q => Or.inr (by omega))) hh)) _ ag_h2
          · refine Fr_inb ?_
            refine Fr_ite ?_ ?_
            · exact fg_XX11_mark_p58 _ _ (fun a i hh => hW a i ((fun q => q.elim (fun q => Or.inl (by omega)) (fun q => Or.inr (by omega))) hh)) _ ag_h2
            · exact Fr_some ag_h2
      · exact Fr_some ag_h2
theorem fr_XX11_mark {x0 : Int} {x1 : Int} {h : Hp} {r : Int} {h1 : Hp} (e : XX11_mark x0 x1 h = some (r, h1)) (a i : Nat) (hn : ¬ (a = 54 ∨ (a = 53 ∧ i = 1))) : h1 a i = h a i := fg_XX11_mark (W := fun a i => a = 54 ∨ (a = 53 ∧ i = 1)) x0 x1 (fun _ _ hh => hh) h (fun _ _ _ => rfl) r h1 e a i hn
theorem fg_XX11_best {W : Nat → Nat → Prop} {h0 : Hp} (x0 : Int) (hW : ∀ a i : Nat, ((23 ≤ a ∧ a ≤ 25) ∨ (33 ≤ a ∧ a ≤ 35) ∨ (41 ≤ a ∧ a ≤ 43) ∨ (46 ≤ a ∧ a ≤ 49) ∨ a = 52 ∨ a = 55 ∨ (57 ≤ a ∧ a ≤ 65) ∨ a = 203 ∨ (a = 17 ∧ i = 6) ∨ (a = 27 ∧ i = 6) ∨ (a = 40 ∧ 4 ≤ i ∧ i ≤ 5) ∨ (a = 40 ∧ i = 8) ∨ (a = 45 ∧ i = 3) ∨ (a = 45 ∧ i = 5) ∨ (a = 45 ∧ i = 11) ∨ (a = 53 ∧ 3 ≤ i ∧ i ≤ 8) ∨ (a = 56 ∧ 0 ≤ i ∧ i ≤ 1) ∨ (a = 56 ∧ i = 3) ∨ (a = 56 ∧ i = 5) ∨ (a = 56 ∧ i = 8)) → W a i) (h : Hp) (ag_h : Ag W h0 h) : Fr W h0 (XX11_best x0 h) := by
  unfold XX11_best
  refine Fr_cal (fg_XX5_aim _ _ _ (fun a i hh => hW a i ((fun q => q.elim (fun q => Or.inr (Or.inr (Or.inl (by omega)))) (fun q => Or.inr (Or.inr (Or.inr (Or.inr (Or.inr (Or.inr (Or.inr (Or.inr (Or.inr (Or.inr (Or.inl (by omega))))))))))))) hh)) _ ag_h) (fun r1 h2 ag_h2 => ?_)
  refine Fr_ite ?_ ?_
  · exact Fr_some ag_h2
  · refine Fr_cal (fg_XX11_refreshBoth (fun a i hh => hW a i ((fun q => q.elim (fun q => Or.inl (by omega)) (fun q => q.elim (fun q => Or.inr (Or.inl (by omega))) (fun q => q.elim (fun q => Or.inr (Or.inr (Or.inr (Or.inr (Or.inr (Or.inr (Or.inr (Or.inr (Or.inl (by omega)))))))))) (fun q => Or.inr (Or.inr (Or.inr (Or.inr (Or.inr (Or.inr (Or.inr (Or.inr (Or.inr (Or.inl (by omega)))))))))))))) hh)) _ ag_h2) (fun r3 h4 ag_h4 => ?_)
    refine Fr_cal (fg_XX1_learn (fun a i hh => hW a i ((fun q => q.elim (fun q => Or.inr (Or.inr (Or.inl (by omega)))) (fun q => q.elim (fun q => Or.inr (Or.inr (Or.inr (Or.inl (by omega))))) (fun q => q.elim (fun q => Or.inr (Or.inr (Or.inr (Or.inl (by omega))))) (fun q => q.elim (fun q => Or.inr (Or.inr (Or.inr (Or.inr (Or.inr (Or.inr (Or.inr (Or.inl (by omega))))))))) (fun q => q.elim (fun q => Or.inr (Or.inr (Or.inr (Or.inr (Or.inr (Or.inr (Or.inr (Or.inr (Or.inr (Or.inr (Or.inr (Or.inl (by omega))))))))))))) (fun q => Or.inr (Or.inr (Or.inr (Or.inr (Or.inr (Or.inr (Or.inr (Or.inr (Or.inr (Or.inr (Or.inr (Or.inr (Or.inl (by omega))))))))))))))))))) hh)) _ ag_h4) (fun r5 h6 ag_h6 => ?_)
    refine Fr_cal (fg_XX4_search _ _ (fun a i hh => hW a i ((fun q => q.elim (fun q => Or.inr (Or.inr (Or.inr (Or.inl (by omega))))) (fun q => q.elim (fun q => Or.inr (Or.inr (Or.inr (Or.inl (by omega))))) (fun q => q.elim (fun q => Or.inr (Or.inr (Or.inr (Or.inr (Or.inl (by omega)))))) (fun q => q.elim (fun q => Or.inr (Or.inr (Or.inr (Or.inr (Or.inr (Or.inl (by omega))))))) (fun q => q.elim (fun q => Or.inr (Or.inr (Or.inr (Or.inr (Or.inr (Or.inr (Or.inr (Or.inr (Or.inr (Or.inr (Or.inr (Or.inr (Or.inr (Or.inl (by omega))))))))))))))) (fun q => q.elim (fun q => Or.inr (Or.inr (Or.inr (Or.inr (Or.inr (Or.inr (Or.inr (Or.inr (Or.inr (Or.inr (Or.inr (Or.inr (Or.inr (Or.inr (Or.inl (by omega)))))))))))))))) (fun q => Or.inr (Or.inr (Or.inr (Or.inr (Or.inr (Or.inr (Or.inr (Or.inr (Or.inr (Or.inr (Or.inr (Or.inr (Or.inr (Or.inr (Or.inr (Or.inl (by omega))))))))))))))))))))))) hh)) _ ag_h6) (fun r7 h8 ag_h8 => ?_)
    refine Fr_ite ?_ ?_
    · refine Fr_cal (fg_XX7_drop (fun a i hh => hW a i (Or.inr (Or.inr (Or.inr (Or.inr (Or.inr (Or.inr (Or.inr (Or.inr (Or.inr (Or.inr (Or.inr (Or.inr (Or.inr (Or.inr (Or.inr (Or.inr (Or.inl (by omega))))))))))))))))))) _ ag_h8) (fun r11 h12 ag_h12 => ?_)
      exact Fr_some ag_h12
    · refine Fr_cal (fg_XX7_keep (fun a i hh => hW a i ((fun q => q.elim (fun q => Or.inr (Or.inr (Or.inr (Or.inr (Or.inr (Or.inr (Or.inl (by omega)))))))) (fun q => q.elim (fun q => Or.inr (Or.inr (Or.inr (Or.inr (Or.inr (Or.inr (Or.inr (Or.inr (Or.inr (Or.inr (Or.inr (Or.inr (Or.inr (Or.inr (Or.inr (Or.inr (Or.inl (by omega)))))))))))))))))) (fun q => q.elim (fun q => Or.inr (Or.inr (Or.inr (Or.inr (Or.inr (Or.inr (Or.inr (Or.inr (Or.inr (Or.inr (Or.inr (Or.inr (Or.inr (Or.inr (Or.inr (Or.inr (Or.inr (Or.inl (by omega))))))))))))))))))) (fun q => q.elim (fun q => Or.inr (Or.inr (Or.inr (Or.inr (Or.inr (Or.inr (Or.inr (Or.inr (Or.inr (Or.inr (Or.inr (Or.inr (Or.inr (Or.inr (Or.inr (Or.inr (Or.inr (Or.inr (Or.inl (by omega)))))))))))))))))))) (fun q => Or.inr (Or.inr (Or.inr (Or.inr (Or.inr (Or.inr (Or.inr (Or.inr (Or.inr (Or.inr (Or.inr (Or.inr (Or.inr (Or.inr (Or.inr (Or.inr (Or.inr (Or.inr (Or.inr (by omega)))))))))))))))))))))))) hh)) _ ag_h8) (fun r9 h10 ag_h10 => ?_)
      exact Fr_some ag_h10
theorem fr_XX11_best {x0 : Int} {h : Hp} {r : Int} {h1 : Hp} (e : XX11_best x0 h = some (r, h1)) (a i : Nat) (hn : ¬ ((23 ≤ a ∧ a ≤ 25) ∨ (33 ≤ a ∧ a ≤ 35) ∨ (41 ≤ a ∧ a ≤ 43) ∨ (46 ≤ a ∧ a ≤ 49) ∨ a = 52 ∨ a = 55 ∨ (57 ≤ a ∧ a ≤ 65) ∨ a = 203 ∨ (a = 17 ∧ i = 6) ∨ (a = 27 ∧ i = 6) ∨ (a = 40 ∧ 4 ≤ i ∧ i ≤ 5) ∨ (a = 40 ∧ i = 8) ∨ (a = 45 ∧ i = 3) ∨ (a = 45 ∧ i = 5) ∨ (a = 45 ∧ i = 11) ∨ (a = 53 ∧ 3 ≤ i ∧ i ≤ 8) ∨ (a = 56 ∧ 0 ≤ i ∧ i ≤ 1) ∨ (a = 56 ∧ i = 3) ∨ (a = 56 ∧ i = 5) ∨ (a = 56 ∧ i = 8))) : h1 a i = h a i := fg_XX11_best (W := fun a i => (23 ≤ a ∧ a ≤ 25) ∨ (33 ≤ a ∧ a ≤ 35) ∨ (41 ≤ a ∧ a ≤ 43) ∨ (46 ≤ a ∧ a ≤ 49) ∨ a = 52 ∨ a = 55 ∨ (57 ≤ a ∧ a ≤ 65) ∨ a = 203 ∨ (a = 17 ∧ i = 6) ∨ (a = 27 ∧ i = 6) ∨ (a = 40 ∧ 4 ≤ i ∧ i ≤ 5) ∨ (a = 40 ∧ i = 8) ∨ (a = 45 ∧ i = 3) ∨ (a = 45 ∧ i = 5) ∨ (a = 45 ∧ i = 11) ∨ (a = 53 ∧ 3 ≤ i ∧ i ≤ 8) ∨ (a = 56 ∧ 0 ≤ i ∧ i ≤ 1) ∨ (a = 56 ∧ i = 3) ∨ (a = 56 ∧ i = 5) ∨ (a = 56 ∧ i = 8)) x0 (fun _ _ hh => hh) h (fun _ _ _ => rfl) r h1 e a i hn
theorem fg_XX11_patched {W : Nat → Nat → Prop} {h0 : Hp} (x0 : Int) (hW : ∀ a i : Nat, (False) → W a i) (h : Hp) (ag_h : Ag W h0 h) : Fr W h0 (XX11_patched x0 h) := by
  unfold XX11_patched
  refine Fr_ite ?_ ?_
  · exact Fr_some ag_h
  · refine Fr_ite ?_ ?_
    · exact Fr_some ag_h
    · refine Fr_ite ?_ ?_
      · exact Fr_some ag_h
      · refine Fr_ite ?_ ?_
        · exact Fr_some ag_h
        · refine Fr_ite ?_ ?_
          · refine Fr_ite ?_ ?_
            · exact Fr_some ag_h
            · exact Fr_some ag_h
          · exact Fr_some ag_h
theorem fr_XX11_patched {x0 : Int} {h : Hp} {r : Int} {h1 : Hp} (e : XX11_patched x0 h = some (r, h1)) (a i : Nat) (hn : ¬ (False)) : h1 a i = h a i := fg_XX11_patched (W := fun a i => False) x0 (fun _ _ hh => hh) h (fun _ _ _ => rfl) r h1 e a i hn
theorem fe_XX11_patched {x0 : Int} {h : Hp} {r : Int} {h1 : Hp} (e : XX11_patched x0 h = some (r, h1)) : h1 = h := funext (fun a => funext (fun i => fr_XX11_patched e a i (fun hh => hh)))
theorem fg_XX11_function_p25 {W : Nat → Nat → Prop} {h0 : Hp} (hW : ∀ a i : Nat, (False) → W a i) (h : Hp) (ag_h : Ag W h0 h) : Fr W h0 (XX11_function_p25  h) := by
  unfold XX11_function_p25
  exact Fr_some ag_h
theorem fg_XX11_function {W : Nat → Nat → Prop} {h0 : Hp} (x0 : Int) (hW : ∀ a i : Nat, (False) → W a i) (h : Hp) (ag_h : Ag W h0 h) : Fr W h0 (XX11_function x0 h) := by
  unfold XX11_function
  refine Fr_ite ?_ ?_
  · exact fg_XX11_function_p25 (fun a i hh => hh.elim) _ ag_h
  · refine Fr_ite ?_ ?_
    · exact fg_XX11_function_p25 (fun a i hh => hh.elim) _ ag_h
    · refine Fr_ite ?_ ?_
      · refine Fr_inb ?_
        exact Fr_some ag_h
      · exact fg_XX11_function_p25 (fun a i hh => hh.elim) _ ag_h
theorem fr_XX11_function {x0 : Int} {h : Hp} {r : Int} {h1 : Hp} (e : XX11_function x0 h = some (r, h1)) (a i : Nat) (hn : ¬ (False)) : h1 a i = h a i := fg_XX11_function (W := fun a i => False) x0 (fun _ _ hh => hh) h (fun _ _ _ => rfl) r h1 e a i hn
theorem fe_XX11_function {x0 : Int} {h : Hp} {r : Int} {h1 : Hp} (e : XX11_function x0 h = some (r, h1)) : h1 = h := funext (fun a => funext (fun i => fr_XX11_function e a i (fun hh => hh)))
theorem fg_XX11_told_p25 {W : Nat → Nat → Prop} {h0 : Hp} (hW : ∀ a i : Nat, (False) → W a i) (h : Hp) (ag_h : Ag W h0 h) : Fr W h0 (XX11_told_p25  h) := by
  unfold XX11_told_p25
  exact Fr_some ag_h
theorem fg_XX11_told {W : Nat → Nat → Prop} {h0 : Hp} (x0 : Int) (hW : ∀ a i : Nat, (False) → W a i) (h : Hp) (ag_h : Ag W h0 h) : Fr W h0 (XX11_told x0 h) := by
  unfold XX11_told
  refine Fr_ite ?_ ?_
  · exact fg_XX11_told_p25 (fun a i hh => hh.elim) _ ag_h
  · refine Fr_ite ?_ ?_
    · exact fg_XX11_told_p25 (fun a i hh => hh.elim) _ ag_h
    · refine Fr_ite ?_ ?_
      · refine Fr_inb ?_
        exact Fr_some ag_h
      · exact fg_XX11_told_p25 (fun a i hh => hh.elim) _ ag_h
theorem fr_XX11_told {x0 : Int} {h : Hp} {r : Int} {h1 : Hp} (e : XX11_told x0 h = some (r, h1)) (a i : Nat) (hn : ¬ (False)) : h1 a i = h a i := fg_XX11_told (W := fun a i => False) x0 (fun _ _ hh => hh) h (fun _ _ _ => rfl) r h1 e a i hn
theorem fe_XX11_told {x0 : Int} {h : Hp} {r : Int} {h1 : Hp} (e : XX11_told x0 h = some (r, h1)) : h1 = h := funext (fun a => funext (fun i => fr_XX11_told e a i (fun hh => hh)))
theorem fg_XX11_node {W : Nat → Nat → Prop} {h0 : Hp} (x0 : Int) (x1 : Int) (hW : ∀ a i : Nat, (False) → W a i) (h : Hp) (ag_h : Ag W h0 h) : Fr W h0 (XX11_node x0 x1 h) := by
  unfold XX11_node
  refine Fr_ite ?_ ?_
  · exact Fr_some ag_h
  · refine Fr_ite ?_ ?_
    · exact Fr_some ag_h
    · refine Fr_ite ?_ ?_
      · refine Fr_ite ?_ ?_
        · refine Fr_inb ?_
          exact Fr_some ag_h
        · refine Fr_ite ?_ ?_
          · refine Fr_inb ?_
            exact Fr_some ag_h
          · refine Fr_ite ?_ ?_
            · refine Fr_inb ?_
              exact Fr_some ag_h
            · refine Fr_ite ?_ ?_
              · refine Fr_inb ?_
                exact Fr_some ag_h
              · refine Fr_ite ?_ ?_
                · refine Fr_ite ?_ ?_
                  · exact Fr_some ag_h
                  · refine Fr_inb ?_
                    exact Fr_some ag_h
                · exact Fr_some ag_h
      · exact Fr_some ag_h
theorem fr_XX11_node {x0 : Int} {x1 : Int} {h : Hp} {r : Int} {h1 : Hp} (e : XX11_node x0 x1 h = some (r, h1)) (a i : Nat) (hn : ¬ (False)) : h1 a i = h a i := fg_XX11_node (W := fun a i => False) x0 x1 (fun _ _ hh => hh) h (fun _ _ _ => rfl) r h1 e a i hn
theorem fe_XX11_node {x0 : Int} {x1 : Int} {h : Hp} {r : Int} {h1 : Hp} (e : XX11_node x0 x1 h = some (r, h1)) : h1 = h := funext (fun a => funext (fun i => fr_XX11_node e a i (fun hh => hh)))
theorem fg_XX11_cost {W : Nat → Nat → Prop} {h0 : Hp} (x0 : Int) (x1 : Int) (hW : ∀ a i : Nat, (False) → W a i) (h : Hp) (ag_h : Ag W h0 h) : Fr W h0 (XX11_cost x0 x1 h) := by
  unfold XX11_cost
  refine Fr_ite ?_ ?_
  · exact Fr_some ag_h
  · refine Fr_ite ?_ ?_
    · exact Fr_some ag_h
    · refine Fr_ite ?_ ?_
      · exact Fr_some ag_h
      · refine Fr_cal (fg_XX2_ones _ (fun a i hh => hh.elim) _ ag_h) (fun r1 h2 ag_h2 => ?_)
        refine Fr_ite ?_ ?_
        · refine Fr_cal (fg_XX2_price _ _ (fun a i hh => hh.elim) _ ag_h2) (fun r3 h4 ag_h4 => ?_)
          exact Fr_some ag_h4
        · exact Fr_some ag_h2
theorem fr_XX11_cost {x0 : Int} {x1 : Int} {h : Hp} {r : Int} {h1 : Hp} (e : XX11_cost x0 x1 h = some (r, h1)) (a i : Nat) (hn : ¬ (False)) : h1 a i = h a i := fg_XX11_cost (W := fun a i => False) x0 x1 (fun _ _ hh => hh) h (fun _ _ _ => rfl) r h1 e a i hn
theorem fe_XX11_cost {x0 : Int} {x1 : Int} {h : Hp} {r : Int} {h1 : Hp} (e : XX11_cost x0 x1 h = some (r, h1)) : h1 = h := funext (fun a => funext (fun i => fr_XX11_cost e a i (fun hh => hh)))
theorem fg_XX11_isPlace {W : Nat → Nat → Prop} {h0 : Hp} (x0 : Int) (x1 : Int) (hW : ∀ a i : Nat, (False) → W a i) (h : Hp) (ag_h : Ag W h0 h) : Fr W h0 (XX11_isPlace x0 x1 h) := by
  unfold XX11_isPlace
  refine Fr_ite ?_ ?_
  · refine Fr_zb ?_
    exact Fr_some ag_h
  · refine Fr_ite ?_ ?_
    · refine Fr_zb ?_
      exact Fr_some ag_h
    · refine Fr_ite ?_ ?_
      · refine Fr_zb ?_
        exact Fr_some ag_h
      · refine Fr_ite ?_ ?_
        · refine Fr_zb ?_
          exact Fr_some ag_h
        · refine Fr_zb ?_
          exact Fr_some ag_h
theorem fr_XX11_isPlace {x0 : Int} {x1 : Int} {h : Hp} {r : Int} {h1 : Hp} (e : XX11_isPlace x0 x1 h = some (r, h1)) (a i : Nat) (hn : ¬ (False)) : h1 a i = h a i := fg_XX11_isPlace (W := fun a i => False) x0 x1 (fun _ _ hh => hh) h (fun _ _ _ => rfl) r h1 e a i hn
theorem fe_XX11_isPlace {x0 : Int} {x1 : Int} {h : Hp} {r : Int} {h1 : Hp} (e : XX11_isPlace x0 x1 h = some (r, h1)) : h1 = h := funext (fun a => funext (fun i => fr_XX11_isPlace e a i (fun hh => hh)))
theorem fg_XX11_site {W : Nat → Nat → Prop} {h0 : Hp} (x0 : Int) (x1 : Int) (x2 : Int) (hW : ∀ a i : Nat, (a = 22 ∨ (a = 17 ∧ i = 6) ∨ (a = 56 ∧ i = 0) ∨ (a = 72 ∧ i = 2)) → W a i) (h : Hp) (ag_h : Ag W h0 h) : Fr W h0 (XX11_site x0 x1 x2 h) := by
  unfold XX11_site
  refine Fr_cal (fg_XX8_isWire _ _ (fun a i hh => hh.elim) _ ag_h) (fun r1 h2 ag_h2 => ?_)
  refine Fr_ite ?_ ?_
  · exact Fr_some ag_h2
  · refine Fr_cal (fg_XX11_isPlace _ _ (fun a i hh => hh.elim) _ ag_h2) (fun r3 h4 ag_h4 => ?_)
    refine Fr_ite ?_ ?_
    · exact Fr_some ag_h4
    · refine Fr_inb ?_
      refine Fr_nm (fun v5 => ?_)
      refine Fr_chk ?_
      refine Fr_chk ?_
      refine Fr_inb ?_
      refine Fr_wr ag_h4 (hW _ _ (Or.inl (by omega))) (fun h6 ag_h6 => ?_)
      refine Fr_cal (fg_XX11_changed _ (fun a i hh => hW a i ((fun q => q.elim (fun q => Or.inr (Or.inr (Or.inl (by omega)))) (fun q => q.elim (fun q => Or.inr (Or.inr (Or.inr (by omega)))) (fun q => Or.inr (Or.inl (by omega))))) hh)) _ ag_h6) (fun r7 h8 ag_h8 => ?_)
      exact Fr_some ag_h8
theorem fr_XX11_site {x0 : Int} {x1 : Int} {x2 : Int} {h : Hp} {r : Int} {h1 : Hp} (e : XX11_site x0 x1 x2 h = some (r, h1)) (a i : Nat) (hn : ¬ (a = 22 ∨ (a = 17 ∧ i = 6) ∨ (a = 56 ∧ i = 0) ∨ (a = 72 ∧ i = 2))) : h1 a i = h a i := fg_XX11_site (W := fun a i => a = 22 ∨ (a = 17 ∧ i = 6) ∨ (a = 56 ∧ i = 0) ∨ (a = 72 ∧ i = 2)) x0 x1 x2 (fun _ _ hh => hh) h (fun _ _ _ => rfl) r h1 e a i hn
theorem fg_XX11_spare {W : Nat → Nat → Prop} {h0 : Hp} (x0 : Int) (x1 : Int) (x2 : Int) (hW : ∀ a i : Nat, ((68 ≤ a ∧ a ≤ 69) ∨ (a = 56 ∧ i = 0) ∨ (a = 67 ∧ i = 0) ∨ (a = 72 ∧ i = 2)) → W a i) (h : Hp) (ag_h : Ag W h0 h) : Fr W h0 (XX11_spare x0 x1 x2 h) := by
  unfold XX11_spare
  refine Fr_ite ?_ ?_
  · exact Fr_some ag_h
  · refine Fr_ite ?_ ?_
    · exact Fr_some ag_h
    · refine Fr_cal (fg_XX11_isPlace _ _ (fun a i hh => hh.elim) _ ag_h) (fun r1 h2 ag_h2 => ?_)
      refine Fr_ite ?_ ?_
      · exact Fr_some ag_h2
      · refine Fr_ite ?_ ?_
        · refine Fr_chk ?_
          refine Fr_chk ?_
          refine Fr_cal (fg_XX9_addSpare _ _ (fun a i hh => hW a i ((fun q => q.elim (fun q => Or.inl (by omega)) (fun q => Or.inr (Or.inr (Or.inl (by omega))))) hh)) _ ag_h2) (fun r3 h4 ag_h4 => ?_)
          refine Fr_cal (fg_XX7_drop (fun a i hh => hW a i (Or.inr (Or.inl (by omega)))) _ ag_h4) (fun r5 h6 ag_h6 => ?_)
          refine Fr_wr ag_h6 (hW _ _ (Or.inr (Or.inr (Or.inr (by omega))))) (fun h7 ag_h7 => ?_)
          exact Fr_some ag_h7
        · exact Fr_some ag_h2
theorem fr_XX11_spare {x0 : Int} {x1 : Int} {x2 : Int} {h : Hp} {r : Int} {h1 : Hp} (e : XX11_spare x0 x1 x2 h = some (r, h1)) (a i : Nat) (hn : ¬ ((68 ≤ a ∧ a ≤ 69) ∨ (a = 56 ∧ i = 0) ∨ (a = 67 ∧ i = 0) ∨ (a = 72 ∧ i = 2))) : h1 a i = h a i := fg_XX11_spare (W := fun a i => (68 ≤ a ∧ a ≤ 69) ∨ (a = 56 ∧ i = 0) ∨ (a = 67 ∧ i = 0) ∨ (a = 72 ∧ i = 2)) x0 x1 x2 (fun _ _ hh => hh) h (fun _ _ _ => rfl) r h1 e a i hn
theorem fg_XX11_place {W : Nat → Nat → Prop} {h0 : Hp} (hW : ∀ a i : Nat, (a = 65 ∨ (70 ≤ a ∧ a ≤ 71) ∨ (a = 56 ∧ i = 1)) → W a i) (h : Hp) (ag_h : Ag W h0 h) : Fr W h0 (XX11_place  h) := by
  unfold XX11_place
  refine Fr_ite ?_ ?_
  · exact Fr_some ag_h
  · refine Fr_cal (fg_XX9_settle _ (fun a i hh => hW a i ((fun q => q.elim (fun q => Or.inl (by omega)) (fun q => q.elim (fun q => Or.inr (Or.inl (by omega))) (fun q => Or.inr (Or.inr (by omega))))) hh)) _ ag_h) (fun r1 h2 ag_h2 => ?_)
    exact Fr_some ag_h2
theorem fr_XX11_place {h : Hp} {r : Int} {h1 : Hp} (e : XX11_place  h = some (r, h1)) (a i : Nat) (hn : ¬ (a = 65 ∨ (70 ≤ a ∧ a ≤ 71) ∨ (a = 56 ∧ i = 1))) : h1 a i = h a i := fg_XX11_place (W := fun a i => a = 65 ∨ (70 ≤ a ∧ a ≤ 71) ∨ (a = 56 ∧ i = 1))  (fun _ _ hh => hh) h (fun _ _ _ => rfl) r h1 e a i hn
theorem fg_XX11_used_p15 {W : Nat → Nat → Prop} {h0 : Hp} (hW : ∀ a i : Nat, (False) → W a i) (h : Hp) (ag_h : Ag W h0 h) : Fr W h0 (XX11_used_p15  h) := by
  unfold XX11_used_p15
  exact Fr_some ag_h
theorem fg_XX11_used {W : Nat → Nat → Prop} {h0 : Hp} (x0 : Int) (hW : ∀ a i : Nat, (False) → W a i) (h : Hp) (ag_h : Ag W h0 h) : Fr W h0 (XX11_used x0 h) := by
  unfold XX11_used
  refine Fr_ite ?_ ?_
  · exact fg_XX11_used_p15 (fun a i hh => hh.elim) _ ag_h
  · refine Fr_ite ?_ ?_
    · exact Fr_some ag_h
    · exact fg_XX11_used_p15 (fun a i hh => hh.elim) _ ag_h
theorem fr_XX11_used {x0 : Int} {h : Hp} {r : Int} {h1 : Hp} (e : XX11_used x0 h = some (r, h1)) (a i : Nat) (hn : ¬ (False)) : h1 a i = h a i := fg_XX11_used (W := fun a i => False) x0 (fun _ _ hh => hh) h (fun _ _ _ => rfl) r h1 e a i hn
theorem fe_XX11_used {x0 : Int} {h : Hp} {r : Int} {h1 : Hp} (e : XX11_used x0 h = some (r, h1)) : h1 = h := funext (fun a => funext (fun i => fr_XX11_used e a i (fun hh => hh)))
theorem fg_XX11_delay {W : Nat → Nat → Prop} {h0 : Hp} (x0 : Int) (x1 : Int) (hW : ∀ a i : Nat, (a = 99) → W a i) (h : Hp) (ag_h : Ag W h0 h) : Fr W h0 (XX11_delay x0 x1 h) := by
  unfold XX11_delay
  refine Fr_ite ?_ ?_
  · exact Fr_some ag_h
  · refine Fr_ite ?_ ?_
    · exact Fr_some ag_h
    · refine Fr_ite ?_ ?_
      · exact Fr_some ag_h
      · refine Fr_ite ?_ ?_
        · refine Fr_inb ?_
          refine Fr_nm (fun v1 => ?_)
          refine Fr_inb ?_
          refine Fr_wr ag_h (hW _ _ (by omega)) (fun h2 ag_h2 => ?_)
          exact Fr_some ag_h2
        · exact Fr_some ag_h
theorem fr_XX11_delay {x0 : Int} {x1 : Int} {h : Hp} {r : Int} {h1 : Hp} (e : XX11_delay x0 x1 h = some (r, h1)) (a i : Nat) (hn : ¬ (a = 99)) : h1 a i = h a i := fg_XX11_delay (W := fun a i => a = 99) x0 x1 (fun _ _ hh => hh) h (fun _ _ _ => rfl) r h1 e a i hn
theorem fg_XX11_arrive {W : Nat → Nat → Prop} {h0 : Hp} (x0 : Int) (x1 : Int) (hW : ∀ a i : Nat, ((17 ≤ a ∧ a ≤ 36)) → W a i) (h : Hp) (ag_h : Ag W h0 h) : Fr W h0 (XX11_arrive x0 x1 h) := by
  unfold XX11_arrive
  refine Fr_cal (fg_XX11_netOf _ (fun a i hh => hh.elim) _ ag_h) (fun r1 h2 ag_h2 => ?_)
  refine Fr_ite ?_ ?_
  · exact Fr_some ag_h2
  · refine Fr_asr (fun ha1 => ?_)
    refine Fr_cal (fg_XX8_isWire _ _ (fun a i hh => hh.elim) _ ag_h2) (fun r4 h5 ag_h5 => ?_)
    refine Fr_ite ?_ ?_
    · exact Fr_some ag_h5
    · refine Fr_cal (fg_XX6_refresh _ (fun a i hh => hW a i ((fun q => q.elim (fun q => by omega) (fun q => q.elim (fun q => by omega) (fun q => q.elim (fun q => by omega) (fun q => by omega)))) hh)) _ ag_h5) (fun r6 h7 ag_h7 => ?_)
      refine Fr_cal (fg_XX6_timeAll _ _ (fun a i hh => hW a i (by omega)) _ ag_h7) (fun r8 h9 ag_h9 => ?_)
      refine Fr_inb ?_
      exact Fr_some ag_h9
theorem fr_XX11_arrive {x0 : Int} {x1 : Int} {h : Hp} {r : Int} {h1 : Hp} (e : XX11_arrive x0 x1 h = some (r, h1)) (a i : Nat) (hn : ¬ ((17 ≤ a ∧ a ≤ 36))) : h1 a i = h a i := fg_XX11_arrive (W := fun a i => (17 ≤ a ∧ a ≤ 36)) x0 x1 (fun _ _ hh => hh) h (fun _ _ _ => rfl) r h1 e a i hn
theorem fg_XX11_late_p69 {W : Nat → Nat → Prop} {h0 : Hp} (self28 : Int → Int → Int → Hp → OR) (hs_self28 : ∀ (y0 y1 y2 : Int) (hh : Hp), Ag W h0 hh → Fr W h0 (self28 y0 y1 y2 hh)) (l1 : Int) (l2 : Int) (l3 : Int) (hW : ∀ a i : Nat, (False) → W a i) (h : Hp) (ag_h : Ag W h0 h) : Fr W h0 (XX11_late_p69 self28 l1 l2 l3 h) := by
  unfold XX11_late_p69
  refine Fr_chk ?_
  exact hs_self28 _ _ _ _ ag_h
theorem fg_XX11_late_b28 {W : Nat → Nat → Prop} {h0 : Hp} (self28 : Int → Int → Int → Hp → OR) (hs_self28 : ∀ (y0 y1 y2 : Int) (hh : Hp), Ag W h0 hh → Fr W h0 (self28 y0 y1 y2 hh)) (l1 : Int) (l2 : Int) (l3 : Int) (hW : ∀ a i : Nat, (False) → W a i) (h : Hp) (ag_h : Ag W h0 h) : Fr W h0 (XX11_late_b28 self28 l1 l2 l3 h) := by
  unfold XX11_late_b28
  refine Fr_cal (fg_XX8_seenCount _ (fun a i hh => hh.elim) _ ag_h) (fun r5 h6 ag_h6 => ?_)
  refine Fr_ite ?_ ?_
  · exact Fr_some ag_h6
  · refine Fr_inb ?_
    refine Fr_inb ?_
    refine Fr_ite ?_ ?_
    · exact fg_XX11_late_p69 _ hs_self28 _ _ _ (fun a i hh => hh.elim) _ ag_h6
    · refine Fr_chk ?_
      exact fg_XX11_late_p69 _ hs_self28 _ _ _ (fun a i hh => hh.elim) _ ag_h6
theorem fg_XX11_late_L28 {W : Nat → Nat → Prop} {h0 : Hp} (l1 : Int) (l2 : Int) (l3 : Int) (hW : ∀ a i : Nat, (False) → W a i) (h : Hp) (ag_h : Ag W h0 h) : Fr W h0 (XX11_late_L28 l1 l2 l3 h) := by
  unfold XX11_late_L28
  exact Fr_lup3 (fun self hs z0 z1 z2 hh ag => fg_XX11_late_b28 self hs z0 z1 z2 hW hh ag) FU _ _ _ _ ag_h
theorem fg_XX11_late {W : Nat → Nat → Prop} {h0 : Hp} (x0 : Int) (hW : ∀ a i : Nat, ((23 ≤ a ∧ a ≤ 26) ∨ (a = 17 ∧ i = 6)) → W a i) (h : Hp) (ag_h : Ag W h0 h) : Fr W h0 (XX11_late x0 h) := by
  unfold XX11_late
  refine Fr_ite ?_ ?_
  · refine Fr_cal (fg_XX6_refresh _ (fun a i hh => hW a i ((fun q => q.elim (fun q => Or.inr (by omega)) (fun q => q.elim (fun q => Or.inl (by omega)) (fun q => q.elim (fun q => Or.inl (by omega)) (fun q => Or.inl (by omega))))) hh)) _ ag_h) (fun r1 h2 ag_h2 => ?_)
    refine Fr_cal (fg_XX6_timeAll _ _ (fun a i hh => hW a i (Or.inl (by omega))) _ ag_h2) (fun r3 h4 ag_h4 => ?_)
    exact fg_XX11_late_L28 _ _ _ (fun a i hh => hh.elim) _ ag_h4
  · exact Fr_some ag_h
theorem fr_XX11_late {x0 : Int} {h : Hp} {r : Int} {h1 : Hp} (e : XX11_late x0 h = some (r, h1)) (a i : Nat) (hn : ¬ ((23 ≤ a ∧ a ≤ 26) ∨ (a = 17 ∧ i = 6))) : h1 a i = h a i := fg_XX11_late (W := fun a i => (23 ≤ a ∧ a ≤ 26) ∨ (a = 17 ∧ i = 6)) x0 (fun _ _ hh => hh) h (fun _ _ _ => rfl) r h1 e a i hn
theorem fg_XX11_apply_b67 {W : Nat → Nat → Prop} {h0 : Hp} (self67 : Int → Int → Hp → OR) (hs_self67 : ∀ (y0 y1 : Int) (hh : Hp), Ag W h0 hh → Fr W h0 (self67 y0 y1 hh)) (l1 : Int) (l2 : Int) (hW : ∀ a i : Nat, ((19 ≤ a ∧ a ≤ 25) ∨ a = 66 ∨ (75 ≤ a ∧ a ≤ 76) ∨ (a = 17 ∧ i = 6) ∨ (a = 18 ∧ i = 3) ∨ (a = 56 ∧ i = 0) ∨ (a = 67 ∧ i = 1) ∨ (a = 72 ∧ i = 4) ∨ (a = 72 ∧ i = 6)) → W a i) (h : Hp) (ag_h : Ag W h0 h) : Fr W h0 (XX11_apply_b67 self67 l1 l2 h) := by
  unfold XX11_apply_b67
  refine Fr_ite ?_ ?_
  · refine Fr_cal (fg_XX6_stale _ (fun a i hh => hW a i (Or.inr (Or.inr (Or.inr (Or.inl (by omega)))))) _ ag_h) (fun r7 h8 ag_h8 => ?_)
    refine Fr_cal (fg_XX6_refresh _ (fun a i hh => hW a i ((fun q => q.elim (fun q => Or.inr (Or.inr (Or.inr (Or.inl (by omega))))) (fun q => q.elim (fun q => Or.inl (by omega)) (fun q => q.elim (fun q => Or.inl (by omega)) (fun q => Or.inl (by omega))))) hh)) _ ag_h8) (fun r9 h10 ag_h10 => ?_)
    refine Fr_cal (fg_XX3_findTests _ (fun a i hh => hW a i ((fun q => q.elim (fun q => Or.inr (Or.inr (Or.inl (by omega)))) (fun q => Or.inr (Or.inr (Or.inr (Or.inr (Or.inr (Or.inr (Or.inr (Or.inr (by omega)))))))))) hh)) _ ag_h10) (fun r11 h12 ag_h12 => ?_)
    refine Fr_cal (fg_XX7_drop (fun a i hh => hW a i (Or.inr (Or.inr (Or.inr (Or.inr (Or.inr (Or.inl (by omega)))))))) _ ag_h12) (fun r13 h14 ag_h14 => ?_)
    exact Fr_some ag_h14
  · refine Fr_cal (fg_XX7_addTree _ _ (fun a i hh => hW a i ((fun q => q.elim (fun q => Or.inr (Or.inl (by omega))) (fun q => q.elim (fun q => Or.inr (Or.inr (Or.inr (Or.inr (Or.inr (Or.inr (Or.inl (by omega)))))))) (fun q => q.elim (fun q => Or.inr (Or.inr (Or.inr (Or.inr (Or.inl (by omega)))))) (fun q => q.elim (fun q => Or.inl (by omega)) (fun q => q.elim (fun q => Or.inl (by omega)) (fun q => Or.inl (by omega))))))) hh)) _ ag_h) (fun r15 h16 ag_h16 => ?_)
    refine Fr_inb ?_
    refine Fr_cal (fg_XX3_replace _ _ _ (fun a i hh => hW a i ((fun q => q.elim (fun q => Or.inr (Or.inr (Or.inl (by omega)))) (fun q => q.elim (fun q => Or.inr (Or.inr (Or.inr (Or.inr (Or.inr (Or.inr (Or.inr (Or.inl (by omega))))))))) (fun q => q.elim (fun q => Or.inl (by omega)) (fun q => Or.inl (by omega))))) hh)) _ ag_h16) (fun r17 h18 ag_h18 => ?_)
    refine Fr_chk ?_
    exact hs_self67 _ _ _ ag_h18
theorem fg_XX11_apply_L67 {W : Nat → Nat → Prop} {h0 : Hp} (l1 : Int) (l2 : Int) (hW : ∀ a i : Nat, ((19 ≤ a ∧ a ≤ 25) ∨ a = 66 ∨ (75 ≤ a ∧ a ≤ 76) ∨ (a = 17 ∧ i = 6) ∨ (a = 18 ∧ i = 3) ∨ (a = 56 ∧ i = 0) ∨ (a = 67 ∧ i = 1) ∨ (a = 72 ∧ i = 4) ∨ (a = 72 ∧ i = 6)) → W a i) (h : Hp) (ag_h : Ag W h0 h) : Fr W h0 (XX11_apply_L67 l1 l2 h) := by
  unfold XX11_apply_L67
  exact Fr_lup2 (fun self hs z0 z1 hh ag => fg_XX11_apply_b67 self hs z0 z1 hW hh ag) FU _ _ _ ag_h
theorem fg_XX11_apply {W : Nat → Nat → Prop} {h0 : Hp} (hW : ∀ a i : Nat, ((78 ≤ a ∧ a ≤ 97) ∨ (19 ≤ a ∧ a ≤ 25) ∨ a = 66 ∨ (73 ≤ a ∧ a ≤ 77) ∨ (a = 17 ∧ i = 6) ∨ (a = 18 ∧ i = 3) ∨ (a = 56 ∧ i = 0) ∨ (a = 67 ∧ i = 1) ∨ (a = 72 ∧ i = 2) ∨ (a = 72 ∧ i = 4) ∨ (a = 72 ∧ i = 6)) → W a i) (h : Hp) (ag_h : Ag W h0 h) : Fr W h0 (XX11_apply  h) := by
  unfold XX11_apply
  refine Fr_ite ?_ ?_
  · exact Fr_some ag_h
  · refine Fr_cal (fg_XX7_gatesToAdd (fun a i hh => hh.elim) _ ag_h) (fun r1 h2 ag_h2 => ?_)
    refine Fr_chk ?_
    refine Fr_ite ?_ ?_
    · refine Fr_cal (fg_XX6_refresh _ (fun a i hh => hW a i ((fun q => q.elim (fun q => Or.inr (Or.inr (Or.inr (Or.inr (Or.inl (by omega)))))) (fun q => q.elim (fun q => Or.inr (Or.inl (by omega))) (fun q => q.elim (fun q => Or.inr (Or.inl (by omega))) (fun q => Or.inr (Or.inl (by omega)))))) hh)) _ ag_h2) (fun r3 h4 ag_h4 => ?_)
      refine Fr_cal (fg_XX3_open _ _ (fun a i hh => hW a i ((fun q => q.elim (fun q => Or.inl (by omega)) (fun q => q.elim (fun q => Or.inr (Or.inr (Or.inr (Or.inl (by omega))))) (fun q => q.elim (fun q => Or.inr (Or.inr (Or.inr (Or.inl (by omega))))) (fun q => q.elim (fun q => Or.inr (Or.inr (Or.inr (Or.inr (Or.inr (Or.inr (Or.inr (Or.inr (Or.inl (by omega)))))))))) (fun q => Or.inr (Or.inr (Or.inr (Or.inr (Or.inr (Or.inr (Or.inr (Or.inr (Or.inr (Or.inl (by omega))))))))))))))) hh)) _ ag_h4) (fun r5 h6 ag_h6 => ?_)
      exact fg_XX11_apply_L67 _ _ (fun a i hh => hW a i ((fun q => q.elim (fun q => Or.inr (Or.inl (by omega))) (fun q => q.elim (fun q => Or.inr (Or.inr (Or.inl (by omega)))) (fun q => q.elim (fun q => Or.inr (Or.inr (Or.inr (Or.inl (by omega))))) (fun q => q.elim (fun q => Or.inr (Or.inr (Or.inr (Or.inr (Or.inl (by omega)))))) (fun q => q.elim (fun q => Or.inr (Or.inr (Or.inr (Or.inr (Or.inr (Or.inl (by omega))))))) (fun q => q.elim (fun q => Or.inr (Or.inr (Or.inr (Or.inr (Or.inr (Or.inr (Or.inl (by omega)))))))) (fun q => q.elim (fun q => Or.inr (Or.inr (Or.inr (Or.inr (Or.inr (Or.inr (Or.inr (Or.inl (by omega))))))))) (fun q => q.elim (fun q => Or.inr (Or.inr (Or.inr (Or.inr (Or.inr (Or.inr (Or.inr (Or.inr (Or.inr (Or.inl (by omega))))))))))) (fun q => Or.inr (Or.inr (Or.inr (Or.inr (Or.inr (Or.inr (Or.inr (Or.inr (Or.inr (Or.inr (by omega))))))))))))))))))) hh)) _ ag_h6
    · exact Fr_some ag_h2
theorem fr_XX11_apply {h : Hp} {r : Int} {h1 : Hp} (e : XX11_apply  h = some (r, h1)) (a i : Nat) (hn : ¬ ((78 ≤ a ∧ a ≤ 97) ∨ (19 ≤ a ∧ a ≤ 25) ∨ a = 66 ∨ (73 ≤ a ∧ a ≤ 77) ∨ (a = 17 ∧ i = 6) ∨ (a = 18 ∧ i = 3) ∨ (a = 56 ∧ i = 0) ∨ (a = 67 ∧ i = 1) ∨ (a = 72 ∧ i = 2) ∨ (a = 72 ∧ i = 4) ∨ (a = 72 ∧ i = 6))) : h1 a i = h a i := fg_XX11_apply (W := fun a i => (78 ≤ a ∧ a ≤ 97) ∨ (19 ≤ a ∧ a ≤ 25) ∨ a = 66 ∨ (73 ≤ a ∧ a ≤ 77) ∨ (a = 17 ∧ i = 6) ∨ (a = 18 ∧ i = 3) ∨ (a = 56 ∧ i = 0) ∨ (a = 67 ∧ i = 1) ∨ (a = 72 ∧ i = 2) ∨ (a = 72 ∧ i = 4) ∨ (a = 72 ∧ i = 6))  (fun _ _ hh => hh) h (fun _ _ _ => rfl) r h1 e a i hn
theorem fg_XX11_oldIsReplaced {W : Nat → Nat → Prop} {h0 : Hp} (hW : ∀ a i : Nat, (a = 54 ∨ (a = 17 ∧ i = 6) ∨ (a = 53 ∧ i = 1) ∨ (a = 56 ∧ i = 0)) → W a i) (h : Hp) (ag_h : Ag W h0 h) : Fr W h0 (XX11_oldIsReplaced  h) := by
  unfold XX11_oldIsReplaced
  refine Fr_cal (fg_XX6_stale _ (fun a i hh => hW a i (Or.inr (Or.inl (by omega)))) _ ag_h) (fun r1 h2 ag_h2 => ?_)
  refine Fr_cal (fg_XX8_wires _ (fun a i hh => hh.elim) _ ag_h2) (fun r3 h4 ag_h4 => ?_)
  refine Fr_cal (fg_XX4_forgetFrom _ (fun a i hh => hW a i ((fun q => q.elim (fun q => Or.inl (by omega)) (fun q => Or.inr (Or.inr (Or.inl (by omega))))) hh)) _ ag_h4) (fun r5 h6 ag_h6 => ?_)
  refine Fr_cal (fg_XX7_drop (fun a i hh => hW a i (Or.inr (Or.inr (Or.inr (by omega))))) _ ag_h6) (fun r7 h8 ag_h8 => ?_)
  exact Fr_some ag_h8
theorem fr_XX11_oldIsReplaced {h : Hp} {r : Int} {h1 : Hp} (e : XX11_oldIsReplaced  h = some (r, h1)) (a i : Nat) (hn : ¬ (a = 54 ∨ (a = 17 ∧ i = 6) ∨ (a = 53 ∧ i = 1) ∨ (a = 56 ∧ i = 0))) : h1 a i = h a i := fg_XX11_oldIsReplaced (W := fun a i => a = 54 ∨ (a = 17 ∧ i = 6) ∨ (a = 53 ∧ i = 1) ∨ (a = 56 ∧ i = 0))  (fun _ _ hh => hh) h (fun _ _ _ => rfl) r h1 e a i hn
theorem fg_XX11_undo {W : Nat → Nat → Prop} {h0 : Hp} (hW : ∀ a i : Nat, ((19 ≤ a ∧ a ≤ 22) ∨ a = 54 ∨ (a = 17 ∧ i = 6) ∨ (a = 18 ∧ 0 ≤ i ∧ i ≤ 3) ∨ (a = 53 ∧ i = 1) ∨ (a = 56 ∧ i = 0) ∨ (a = 67 ∧ i = 1) ∨ (a = 72 ∧ i = 2)) → W a i) (h : Hp) (ag_h : Ag W h0 h) : Fr W h0 (XX11_undo  h) := by
  unfold XX11_undo
  refine Fr_ite ?_ ?_
  · refine Fr_cal (fg_XX3_takeBack _ (fun a i hh => hW a i ((fun q => q.elim (fun q => Or.inr (Or.inr (Or.inr (Or.inr (Or.inr (Or.inr (Or.inr (by omega)))))))) (fun q => q.elim (fun q => Or.inr (Or.inr (Or.inr (Or.inl (by omega))))) (fun q => q.elim (fun q => Or.inl (by omega)) (fun q => q.elim (fun q => Or.inl (by omega)) (fun q => q.elim (fun q => Or.inl (by omega)) (fun q => Or.inl (by omega))))))) hh)) _ ag_h) (fun r1 h2 ag_h2 => ?_)
    refine Fr_wr ag_h2 (hW _ _ (Or.inr (Or.inr (Or.inr (Or.inr (Or.inr (Or.inr (Or.inl (by omega))))))))) (fun h3 ag_h3 => ?_)
    refine Fr_cal (fg_XX11_oldIsReplaced (fun a i hh => hW a i ((fun q => q.elim (fun q => Or.inr (Or.inl (by omega))) (fun q => q.elim (fun q => Or.inr (Or.inr (Or.inl (by omega)))) (fun q => q.elim (fun q => Or.inr (Or.inr (Or.inr (Or.inr (Or.inl (by omega)))))) (fun q => Or.inr (Or.inr (Or.inr (Or.inr (Or.inr (Or.inl (by omega)))))))))) hh)) _ ag_h3) (fun r4 h5 ag_h5 => ?_)
    exact Fr_some ag_h5
  · exact Fr_some ag_h
theorem fr_XX11_undo {h : Hp} {r : Int} {h1 : Hp} (e : XX11_undo  h = some (r, h1)) (a i : Nat) (hn : ¬ ((19 ≤ a ∧ a ≤ 22) ∨ a = 54 ∨ (a = 17 ∧ i = 6) ∨ (a = 18 ∧ 0 ≤ i ∧ i ≤ 3) ∨ (a = 53 ∧ i = 1) ∨ (a = 56 ∧ i = 0) ∨ (a = 67 ∧ i = 1) ∨ (a = 72 ∧ i = 2))) : h1 a i = h a i := fg_XX11_undo (W := fun a i => (19 ≤ a ∧ a ≤ 22) ∨ a = 54 ∨ (a = 17 ∧ i = 6) ∨ (a = 18 ∧ 0 ≤ i ∧ i ≤ 3) ∨ (a = 53 ∧ i = 1) ∨ (a = 56 ∧ i = 0) ∨ (a = 67 ∧ i = 1) ∨ (a = 72 ∧ i = 2))  (fun _ _ hh => hh) h (fun _ _ _ => rfl) r h1 e a i hn
theorem fg_XX11_change {W : Nat → Nat → Prop} {h0 : Hp} (x0 : Int) (x1 : Int) (hW : ∀ a i : Nat, (False) → W a i) (h : Hp) (ag_h : Ag W h0 h) : Fr W h0 (XX11_change x0 x1 h) := by
  unfold XX11_change
  refine Fr_ite ?_ ?_
  · exact Fr_some ag_h
  · refine Fr_ite ?_ ?_
    · exact Fr_some ag_h
    · refine Fr_ite ?_ ?_
      · exact Fr_some ag_h
      · refine Fr_ite ?_ ?_
        · refine Fr_chk ?_
          refine Fr_chk ?_
          refine Fr_inb ?_
          exact Fr_some ag_h
        · exact Fr_some ag_h
theorem fr_XX11_change {x0 : Int} {x1 : Int} {h : Hp} {r : Int} {h1 : Hp} (e : XX11_change x0 x1 h = some (r, h1)) (a i : Nat) (hn : ¬ (False)) : h1 a i = h a i := fg_XX11_change (W := fun a i => False) x0 x1 (fun _ _ hh => hh) h (fun _ _ _ => rfl) r h1 e a i hn
theorem fe_XX11_change {x0 : Int} {x1 : Int} {h : Hp} {r : Int} {h1 : Hp} (e : XX11_change x0 x1 h = some (r, h1)) : h1 = h := funext (fun a => funext (fun i => fr_XX11_change e a i (fun hh => hh)))
theorem fg_XX11_test_p15 {W : Nat → Nat → Prop} {h0 : Hp} (hW : ∀ a i : Nat, (False) → W a i) (h : Hp) (ag_h : Ag W h0 h) : Fr W h0 (XX11_test_p15  h) := by
  unfold XX11_test_p15
  exact Fr_some ag_h
theorem fg_XX11_test {W : Nat → Nat → Prop} {h0 : Hp} (x0 : Int) (hW : ∀ a i : Nat, (False) → W a i) (h : Hp) (ag_h : Ag W h0 h) : Fr W h0 (XX11_test x0 h) := by
  unfold XX11_test
  refine Fr_ite ?_ ?_
  · exact fg_XX11_test_p15 (fun a i hh => hh.elim) _ ag_h
  · refine Fr_ite ?_ ?_
    · refine Fr_inb ?_
      exact Fr_some ag_h
    · exact fg_XX11_test_p15 (fun a i hh => hh.elim) _ ag_h
theorem fr_XX11_test {x0 : Int} {h : Hp} {r : Int} {h1 : Hp} (e : XX11_test x0 h = some (r, h1)) (a i : Nat) (hn : ¬ (False)) : h1 a i = h a i := fg_XX11_test (W := fun a i => False) x0 (fun _ _ hh => hh) h (fun _ _ _ => rfl) r h1 e a i hn
theorem fe_XX11_test {x0 : Int} {h : Hp} {r : Int} {h1 : Hp} (e : XX11_test x0 h = some (r, h1)) : h1 = h := funext (fun a => funext (fun i => fr_XX11_test e a i (fun hh => hh)))
theorem fg_XX11_idle_b21 {W : Nat → Nat → Prop} {h0 : Hp} (a2 : Nat) (self21 : Int → Int → Hp → OR) (hs_self21 : ∀ (y0 y1 : Int) (hh : Hp), Ag W h0 hh → Fr W h0 (self21 y0 y1 hh)) (l3 : Int) (l5 : Int) (hW : ∀ a i : Nat, (False) → W a i) (h : Hp) (ag_h : Ag W h0 h) : Fr W h0 (XX11_idle_b21 a2 self21 l3 l5 h) := by
  unfold XX11_idle_b21
  refine Fr_cal (fg_XX8_seenCount _ (fun a i hh => hh.elim) _ ag_h) (fun r6 h7 ag_h7 => ?_)
  refine Fr_ite ?_ ?_
  · refine Fr_cal (fg_XX8_sources _ (fun a i hh => hh.elim) _ ag_h7) (fun r8 h9 ag_h9 => ?_)
    refine Fr_cal (fg_XJ13_bitCount_95d88 _ (fun a i hh => hh.elim) _ ag_h9) (fun r10 h11 ag_h11 => ?_)
    refine Fr_chk ?_
    exact Fr_some ag_h11
  · refine Fr_inb ?_
    refine Fr_inb ?_
    refine Fr_nm (fun v12 => ?_)
    refine Fr_chk ?_
    exact hs_self21 _ _ _ ag_h7
theorem fg_XX11_idle_L21 {W : Nat → Nat → Prop} {h0 : Hp} (a2 : Nat) (l3 : Int) (l5 : Int) (hW : ∀ a i : Nat, (False) → W a i) (h : Hp) (ag_h : Ag W h0 h) : Fr W h0 (XX11_idle_L21 a2 l3 l5 h) := by
  unfold XX11_idle_L21
  exact Fr_lup2 (fun self hs z0 z1 hh ag => fg_XX11_idle_b21 a2 self hs z0 z1 hW hh ag) FU _ _ _ ag_h
theorem fg_XX11_idle {W : Nat → Nat → Prop} {h0 : Hp} (x0 : Int) (hW : ∀ a i : Nat, ((17 ≤ a ∧ a ≤ 36)) → W a i) (h : Hp) (ag_h : Ag W h0 h) : Fr W h0 (XX11_idle x0 h) := by
  unfold XX11_idle
  refine Fr_cal (fg_XX11_netOf _ (fun a i hh => hh.elim) _ ag_h) (fun r1 h2 ag_h2 => ?_)
  refine Fr_ite ?_ ?_
  · exact Fr_some ag_h2
  · refine Fr_asr (fun ha1 => ?_)
    refine Fr_cal (fg_XX6_refresh _ (fun a i hh => hW a i ((fun q => q.elim (fun q => by omega) (fun q => q.elim (fun q => by omega) (fun q => q.elim (fun q => by omega) (fun q => by omega)))) hh)) _ ag_h2) (fun r4 h5 ag_h5 => ?_)
    exact fg_XX11_idle_L21 _ _ _ (fun a i hh => hh.elim) _ ag_h5
theorem fr_XX11_idle {x0 : Int} {h : Hp} {r : Int} {h1 : Hp} (e : XX11_idle x0 h = some (r, h1)) (a i : Nat) (hn : ¬ ((17 ≤ a ∧ a ≤ 36))) : h1 a i = h a i := fg_XX11_idle (W := fun a i => (17 ≤ a ∧ a ≤ 36)) x0 (fun _ _ hh => hh) h (fun _ _ _ => rfl) r h1 e a i hn
theorem fg_XX11_tape {W : Nat → Nat → Prop} {h0 : Hp} (x0 : Int) (x1 : Int) (x2 : Int) (hW : ∀ a i : Nat, ((101 ≤ a ∧ a ≤ 142) ∨ (a = 16 ∧ i = 15)) → W a i) (h : Hp) (ag_h : Ag W h0 h) : Fr W h0 (XX11_tape x0 x1 x2 h) := by
  unfold XX11_tape
  refine Fr_cal (fg_XX11_isTape _ (fun a i hh => hh.elim) _ ag_h) (fun r1 h2 ag_h2 => ?_)
  refine Fr_ite ?_ ?_
  · exact Fr_some ag_h2
  · refine Fr_ite ?_ ?_
    · exact Fr_some ag_h2
    · refine Fr_ite ?_ ?_
      · exact Fr_some ag_h2
      · refine Fr_ite ?_ ?_
        · refine Fr_ite ?_ ?_
          · refine Fr_inb ?_
            refine Fr_nmP (fun u3 => ?_)
            refine Fr_asr (fun ha1 => ?_)
            refine Fr_cal (fg_XX10_hold _ _ _ (fun a i hh => hW a i ((fun q => q.elim (fun q => Or.inl (by omega)) (fun q => Or.inl (by omega))) hh)) _ ag_h2) (fun r5 h6 ag_h6 => ?_)
            exact Fr_some ag_h6
          · refine Fr_cal (fg_XX11_refused _ (fun a i hh => hW a i (Or.inr (by omega))) _ ag_h2) (fun r7 h8 ag_h8 => ?_)
            exact Fr_some ag_h8
        · exact Fr_some ag_h2
theorem fr_XX11_tape {x0 : Int} {x1 : Int} {x2 : Int} {h : Hp} {r : Int} {h1 : Hp} (e : XX11_tape x0 x1 x2 h = some (r, h1)) (a i : Nat) (hn : ¬ ((101 ≤ a ∧ a ≤ 142) ∨ (a = 16 ∧ i = 15))) : h1 a i = h a i := fg_XX11_tape (W := fun a i => (101 ≤ a ∧ a ≤ 142) ∨ (a = 16 ∧ i = 15)) x0 x1 x2 (fun _ _ hh => hh) h (fun _ _ _ => rfl) r h1 e a i hn
theorem fg_XX11_image {W : Nat → Nat → Prop} {h0 : Hp} (x0 : Int) (hW : ∀ a i : Nat, ((101 ≤ a ∧ a ≤ 142)) → W a i) (h : Hp) (ag_h : Ag W h0 h) : Fr W h0 (XX11_image x0 h) := by
  unfold XX11_image
  refine Fr_cal (fg_XX11_isTape _ (fun a i hh => hh.elim) _ ag_h) (fun r1 h2 ag_h2 => ?_)
  refine Fr_ite ?_ ?_
  · exact Fr_some ag_h2
  · refine Fr_inb ?_
    refine Fr_nmP (fun u3 => ?_)
    refine Fr_asr (fun ha1 => ?_)
    refine Fr_cal (fg_XX10_hold _ _ _ (fun a i hh => hW a i ((fun q => q.elim (fun q => by omega) (fun q => by omega)) hh)) _ ag_h2) (fun r5 h6 ag_h6 => ?_)
    refine Fr_inb ?_
    refine Fr_nmP (fun u7 => ?_)
    refine Fr_asr (fun ha2 => ?_)
    refine Fr_cal (fg_XX8_take _ _ (fun a i hh => hW a i ((fun q => q.elim (fun q => by omega) (fun q => q.elim (fun q => by omega) (fun q => q.elim (fun q => by omega) (fun q => q.elim (fun q => by omega) (fun q => by omega))))) hh)) _ ag_h6) (fun r9 h10 ag_h10 => ?_)
    exact Fr_some ag_h10
theorem fr_XX11_image {x0 : Int} {h : Hp} {r : Int} {h1 : Hp} (e : XX11_image x0 h = some (r, h1)) (a i : Nat) (hn : ¬ ((101 ≤ a ∧ a ≤ 142))) : h1 a i = h a i := fg_XX11_image (W := fun a i => (101 ≤ a ∧ a ≤ 142)) x0 (fun _ _ hh => hh) h (fun _ _ _ => rfl) r h1 e a i hn
theorem fg_XX11_imageFault {W : Nat → Nat → Prop} {h0 : Hp} (x0 : Nat) (hW : ∀ a i : Nat, (False) → W a i) (h : Hp) (ag_h : Ag W h0 h) : Fr W h0 (XX11_imageFault x0 h) := by
  unfold XX11_imageFault
  refine Fr_ite ?_ ?_
  · exact Fr_some ag_h
  · refine Fr_ite ?_ ?_
    · exact Fr_some ag_h
    · exact Fr_some ag_h
theorem fr_XX11_imageFault {x0 : Nat} {h : Hp} {r : Int} {h1 : Hp} (e : XX11_imageFault x0 h = some (r, h1)) (a i : Nat) (hn : ¬ (False)) : h1 a i = h a i := fg_XX11_imageFault (W := fun a i => False) x0 (fun _ _ hh => hh) h (fun _ _ _ => rfl) r h1 e a i hn
theorem fe_XX11_imageFault {x0 : Nat} {h : Hp} {r : Int} {h1 : Hp} (e : XX11_imageFault x0 h = some (r, h1)) : h1 = h := funext (fun a => funext (fun i => fr_XX11_imageFault e a i (fun hh => hh)))
theorem fg_XX11_back {W : Nat → Nat → Prop} {h0 : Hp} (x0 : Int) (hW : ∀ a i : Nat, ((19 ≤ a ∧ a ≤ 22) ∨ a = 54 ∨ (a = 16 ∧ i = 15) ∨ (a = 17 ∧ i = 6) ∨ (a = 18 ∧ 0 ≤ i ∧ i ≤ 3) ∨ (a = 53 ∧ i = 1) ∨ (a = 56 ∧ i = 0) ∨ (a = 72 ∧ i = 2)) → W a i) (h : Hp) (ag_h : Ag W h0 h) : Fr W h0 (XX11_back x0 h) := by
  unfold XX11_back
  refine Fr_cal (fg_XX11_isTape _ (fun a i hh => hh.elim) _ ag_h) (fun r1 h2 ag_h2 => ?_)
  refine Fr_ite ?_ ?_
  · exact Fr_some ag_h2
  · refine Fr_inb ?_
    refine Fr_nmP (fun u3 => ?_)
    refine Fr_asr (fun ha1 => ?_)
    refine Fr_cal (fg_XX11_imageFault _ (fun a i hh => hh.elim) _ ag_h2) (fun r5 h6 ag_h6 => ?_)
    refine Fr_ite ?_ ?_
    · refine Fr_inb ?_
      refine Fr_nmP (fun u7 => ?_)
      refine Fr_asr (fun ha2 => ?_)
      refine Fr_cal (fg_XX8_sameShape _ _ (fun a i hh => hh.elim) _ ag_h6) (fun r9 h10 ag_h10 => ?_)
      refine Fr_ite ?_ ?_
      · exact Fr_some ag_h10
      · refine Fr_inb ?_
        refine Fr_nmP (fun u11 => ?_)
        refine Fr_asr (fun ha3 => ?_)
        refine Fr_cal (fg_XX8_take _ _ (fun a i hh => hW a i ((fun q => q.elim (fun q => Or.inr (Or.inr (Or.inr (Or.inr (Or.inl (by omega)))))) (fun q => q.elim (fun q => Or.inl (by omega)) (fun q => q.elim (fun q => Or.inl (by omega)) (fun q => q.elim (fun q => Or.inl (by omega)) (fun q => Or.inl (by omega)))))) hh)) _ ag_h10) (fun r13 h14 ag_h14 => ?_)
        refine Fr_cal (fg_XX11_oldIsReplaced (fun a i hh => hW a i ((fun q => q.elim (fun q => Or.inr (Or.inl (by omega))) (fun q => q.elim (fun q => Or.inr (Or.inr (Or.inr (Or.inl (by omega))))) (fun q => q.elim (fun q => Or.inr (Or.inr (Or.inr (Or.inr (Or.inr (Or.inl (by omega))))))) (fun q => Or.inr (Or.inr (Or.inr (Or.inr (Or.inr (Or.inr (Or.inl (by omega))))))))))) hh)) _ ag_h14) (fun r15 h16 ag_h16 => ?_)
        refine Fr_wr ag_h16 (hW _ _ (Or.inr (Or.inr (Or.inr (Or.inr (Or.inr (Or.inr (Or.inr (by omega))))))))) (fun h17 ag_h17 => ?_)
        exact Fr_some ag_h17
    · refine Fr_cal (fg_XX11_refused _ (fun a i hh => hW a i (Or.inr (Or.inr (Or.inl (by omega))))) _ ag_h6) (fun r18 h19 ag_h19 => ?_)
      exact Fr_some ag_h19
theorem fr_XX11_back {x0 : Int} {h : Hp} {r : Int} {h1 : Hp} (e : XX11_back x0 h = some (r, h1)) (a i : Nat) (hn : ¬ ((19 ≤ a ∧ a ≤ 22) ∨ a = 54 ∨ (a = 16 ∧ i = 15) ∨ (a = 17 ∧ i = 6) ∨ (a = 18 ∧ 0 ≤ i ∧ i ≤ 3) ∨ (a = 53 ∧ i = 1) ∨ (a = 56 ∧ i = 0) ∨ (a = 72 ∧ i = 2))) : h1 a i = h a i := fg_XX11_back (W := fun a i => (19 ≤ a ∧ a ≤ 22) ∨ a = 54 ∨ (a = 16 ∧ i = 15) ∨ (a = 17 ∧ i = 6) ∨ (a = 18 ∧ 0 ≤ i ∧ i ≤ 3) ∨ (a = 53 ∧ i = 1) ∨ (a = 56 ∧ i = 0) ∨ (a = 72 ∧ i = 2)) x0 (fun _ _ hh => hh) h (fun _ _ _ => rfl) r h1 e a i hn
theorem fg_XX11_toss {W : Nat → Nat → Prop} {h0 : Hp} (x0 : Int) (hW : ∀ a i : Nat, ((a = 16 ∧ i = 15)) → W a i) (h : Hp) (ag_h : Ag W h0 h) : Fr W h0 (XX11_toss x0 h) := by
  unfold XX11_toss
  refine Fr_cal (fg_XX11_isTape _ (fun a i hh => hh.elim) _ ag_h) (fun r1 h2 ag_h2 => ?_)
  refine Fr_ite ?_ ?_
  · exact Fr_some ag_h2
  · refine Fr_inb ?_
    refine Fr_nmP (fun u3 => ?_)
    refine Fr_asr (fun ha1 => ?_)
    refine Fr_cal (fg_XX11_imageFault _ (fun a i hh => hh.elim) _ ag_h2) (fun r5 h6 ag_h6 => ?_)
    refine Fr_ite ?_ ?_
    · refine Fr_inb ?_
      refine Fr_nmP (fun u7 => ?_)
      refine Fr_asr (fun ha2 => ?_)
      refine Fr_ite ?_ ?_
      · refine Fr_cal (fg_XX11_refused _ (fun a i hh => hW a i (by omega)) _ ag_h6) (fun r11 h12 ag_h12 => ?_)
        exact Fr_some ag_h12
      · refine Fr_inb ?_
        refine Fr_nmP (fun u9 => ?_)
        refine Fr_asr (fun ha3 => ?_)
        exact Fr_some ag_h6
    · refine Fr_cal (fg_XX11_refused _ (fun a i hh => hW a i (by omega)) _ ag_h6) (fun r13 h14 ag_h14 => ?_)
      exact Fr_some ag_h14
theorem fr_XX11_toss {x0 : Int} {h : Hp} {r : Int} {h1 : Hp} (e : XX11_toss x0 h = some (r, h1)) (a i : Nat) (hn : ¬ ((a = 16 ∧ i = 15))) : h1 a i = h a i := fg_XX11_toss (W := fun a i => (a = 16 ∧ i = 15)) x0 (fun _ _ hh => hh) h (fun _ _ _ => rfl) r h1 e a i hn
theorem fg_XX11_clear {W : Nat → Nat → Prop} {h0 : Hp} (x0 : Int) (hW : ∀ a i : Nat, ((101 ≤ a ∧ a ≤ 142)) → W a i) (h : Hp) (ag_h : Ag W h0 h) : Fr W h0 (XX11_clear x0 h) := by
  unfold XX11_clear
  refine Fr_cal (fg_XX11_isTape _ (fun a i hh => hh.elim) _ ag_h) (fun r1 h2 ag_h2 => ?_)
  refine Fr_ite ?_ ?_
  · exact Fr_some ag_h2
  · refine Fr_inb ?_
    refine Fr_nmP (fun u3 => ?_)
    refine Fr_asr (fun ha1 => ?_)
    refine Fr_nm (fun v5 => ?_)
    refine Fr_inb ?_
    refine Fr_nmP (fun u6 => ?_)
    refine Fr_asr (fun ha2 => ?_)
    refine Fr_cal (fg_XX10_hold _ _ _ (fun a i hh => hW a i ((fun q => q.elim (fun q => by omega) (fun q => by omega)) hh)) _ ag_h2) (fun r8 h9 ag_h9 => ?_)
    exact Fr_some ag_h9
theorem fr_XX11_clear {x0 : Int} {h : Hp} {r : Int} {h1 : Hp} (e : XX11_clear x0 h = some (r, h1)) (a i : Nat) (hn : ¬ ((101 ≤ a ∧ a ≤ 142))) : h1 a i = h a i := fg_XX11_clear (W := fun a i => (101 ≤ a ∧ a ≤ 142)) x0 (fun _ _ hh => hh) h (fun _ _ _ => rfl) r h1 e a i hn
theorem fg_XX11_put {W : Nat → Nat → Prop} {h0 : Hp} (x0 : Int) (x1 : Int) (x2 : Int) (hW : ∀ a i : Nat, ((101 ≤ a ∧ a ≤ 142) ∨ (a = 16 ∧ i = 15)) → W a i) (h : Hp) (ag_h : Ag W h0 h) : Fr W h0 (XX11_put x0 x1 x2 h) := by
  unfold XX11_put
  refine Fr_cal (fg_XX11_isTape _ (fun a i hh => hh.elim) _ ag_h) (fun r1 h2 ag_h2 => ?_)
  refine Fr_ite ?_ ?_
  · exact Fr_some ag_h2
  · refine Fr_inb ?_
    refine Fr_nmP (fun u3 => ?_)
    refine Fr_asr (fun ha1 => ?_)
    refine Fr_ite ?_ ?_
    · refine Fr_cal (fg_XX11_refused _ (fun a i hh => hW a i (Or.inr (by omega))) _ ag_h2) (fun r24 h25 ag_h25 => ?_)
      exact Fr_some ag_h25
    · refine Fr_inb ?_
      refine Fr_nmP (fun u5 => ?_)
      refine Fr_asr (fun ha2 => ?_)
      refine Fr_cal (fg_XX10_isRow _ (fun a i hh => hh.elim) _ ag_h2) (fun r7 h8 ag_h8 => ?_)
      refine Fr_ite ?_ ?_
      · refine Fr_cal (fg_XX11_refused _ (fun a i hh => hW a i (Or.inr (by omega))) _ ag_h8) (fun r22 h23 ag_h23 => ?_)
        exact Fr_some ag_h23
      · refine Fr_inb ?_
        refine Fr_nmP (fun u9 => ?_)
        refine Fr_asr (fun ha3 => ?_)
        refine Fr_cal (fg_XX10_hasElement _ _ (fun a i hh => hh.elim) _ ag_h8) (fun r11 h12 ag_h12 => ?_)
        refine Fr_ite ?_ ?_
        · refine Fr_cal (fg_XX11_refused _ (fun a i hh => hW a i (Or.inr (by omega))) _ ag_h12) (fun r20 h21 ag_h21 => ?_)
          exact Fr_some ag_h21
        · refine Fr_inb ?_
          refine Fr_nmP (fun u13 => ?_)
          refine Fr_asr (fun ha4 => ?_)
          refine Fr_inb ?_
          refine Fr_nmP (fun u15 => ?_)
          refine Fr_asr (fun ha5 => ?_)
          refine Fr_cal (fg_XX10_narrowed _ _ (fun a i hh => hh.elim) _ ag_h12) (fun r17 h18 ag_h18 => ?_)
          refine Fr_inb ?_
          refine Fr_wr ag_h18 (hW _ _ (Or.inl (by omega))) (fun h19 ag_h19 => ?_)
          exact Fr_some ag_h19
theorem fr_XX11_put {x0 : Int} {x1 : Int} {x2 : Int} {h : Hp} {r : Int} {h1 : Hp} (e : XX11_put x0 x1 x2 h = some (r, h1)) (a i : Nat) (hn : ¬ ((101 ≤ a ∧ a ≤ 142) ∨ (a = 16 ∧ i = 15))) : h1 a i = h a i := fg_XX11_put (W := fun a i => (101 ≤ a ∧ a ≤ 142) ∨ (a = 16 ∧ i = 15)) x0 x1 x2 (fun _ _ hh => hh) h (fun _ _ _ => rfl) r h1 e a i hn
theorem fg_XX11_copy_p48 {W : Nat → Nat → Prop} {h0 : Hp} (hW : ∀ a i : Nat, ((a = 16 ∧ i = 15)) → W a i) (h : Hp) (ag_h : Ag W h0 h) : Fr W h0 (XX11_copy_p48  h) := by
  unfold XX11_copy_p48
  refine Fr_cal (fg_XX11_refused _ (fun a i hh => hW a i (by omega)) _ ag_h) (fun r9 h10 ag_h10 => ?_)
  exact Fr_some ag_h10
theorem fg_XX11_copy_p76 {W : Nat → Nat → Prop} {h0 : Hp} (hW : ∀ a i : Nat, ((a = 16 ∧ i = 15)) → W a i) (h : Hp) (ag_h : Ag W h0 h) : Fr W h0 (XX11_copy_p76  h) := by
  unfold XX11_copy_p76
  refine Fr_cal (fg_XX11_refused _ (fun a i hh => hW a i (by omega)) _ ag_h) (fun r13 h14 ag_h14 => ?_)
  exact Fr_some ag_h14
theorem fg_XX11_copy_p106 {W : Nat → Nat → Prop} {h0 : Hp} (hW : ∀ a i : Nat, ((a = 16 ∧ i = 15)) → W a i) (h : Hp) (ag_h : Ag W h0 h) : Fr W h0 (XX11_copy_p106  h) := by
  unfold XX11_copy_p106
  refine Fr_cal (fg_XX11_refused _ (fun a i hh => hW a i (by omega)) _ ag_h) (fun r17 h18 ag_h18 => ?_)
  exact Fr_some ag_h18
theorem fg_XX11_copy {W : Nat → Nat → Prop} {h0 : Hp} (x0 : Int) (x1 : Int) (x2 : Int) (x3 : Int) (x4 : Int) (hW : ∀ a i : Nat, ((101 ≤ a ∧ a ≤ 142) ∨ (a = 16 ∧ i = 15)) → W a i) (h : Hp) (ag_h : Ag W h0 h) : Fr W h0 (XX11_copy x0 x1 x2 x3 x4 h) := by
  unfold XX11_copy
  refine Fr_cal (fg_XX11_isTape _ (fun a i hh => hh.elim) _ ag_h) (fun r1 h2 ag_h2 => ?_)
  refine Fr_ite ?_ ?_
  · exact Fr_some ag_h2
  · refine Fr_cal (fg_XX11_isTape _ (fun a i hh => hh.elim) _ ag_h2) (fun r3 h4 ag_h4 => ?_)
    refine Fr_ite ?_ ?_
    · exact Fr_some ag_h4
    · refine Fr_inb ?_
      refine Fr_nmP (fun u5 => ?_)
      refine Fr_asr (fun ha1 => ?_)
      refine Fr_inb ?_
      refine Fr_nmP (fun u7 => ?_)
      refine Fr_asr (fun ha2 => ?_)
      refine Fr_ite ?_ ?_
      · exact fg_XX11_copy_p48 (fun a i hh => hW a i (Or.inr (by omega))) _ ag_h4
      · refine Fr_ite ?_ ?_
        · exact fg_XX11_copy_p48 (fun a i hh => hW a i (Or.inr (by omega))) _ ag_h4
        · refine Fr_cal (fg_XX10_isRow _ (fun a i hh => hh.elim) _ ag_h4) (fun r11 h12 ag_h12 => ?_)
          refine Fr_ite ?_ ?_
          · exact fg_XX11_copy_p76 (fun a i hh => hW a i (Or.inr (by omega))) _ ag_h12
          · refine Fr_ite ?_ ?_
            · refine Fr_cal (fg_XX10_hasElements _ _ _ (fun a i hh => hh.elim) _ ag_h12) (fun r15 h16 ag_h16 => ?_)
              refine Fr_ite ?_ ?_
              · exact fg_XX11_copy_p106 (fun a i hh => hW a i (Or.inr (by omega))) _ ag_h16
              · refine Fr_cal (fg_XX10_hasElements _ _ _ (fun a i hh => hh.elim) _ ag_h16) (fun r19 h20 ag_h20 => ?_)
                refine Fr_ite ?_ ?_
                · exact fg_XX11_copy_p106 (fun a i hh => hW a i (Or.inr (by omega))) _ ag_h20
                · refine Fr_acp ?_
                  refine Fr_cpy ag_h20 (fun q => hW _ _ (Or.inl (by omega))) (fun h21 ag_h21 => ?_)
                  exact Fr_some ag_h21
            · exact fg_XX11_copy_p76 (fun a i hh => hW a i (Or.inr (by omega))) _ ag_h12
theorem fr_XX11_copy {x0 : Int} {x1 : Int} {x2 : Int} {x3 : Int} {x4 : Int} {h : Hp} {r : Int} {h1 : Hp} (e : XX11_copy x0 x1 x2 x3 x4 h = some (r, h1)) (a i : Nat) (hn : ¬ ((101 ≤ a ∧ a ≤ 142) ∨ (a = 16 ∧ i = 15))) : h1 a i = h a i := fg_XX11_copy (W := fun a i => (101 ≤ a ∧ a ≤ 142) ∨ (a = 16 ∧ i = 15)) x0 x1 x2 x3 x4 (fun _ _ hh => hh) h (fun _ _ _ => rfl) r h1 e a i hn
theorem fg_XX11_count {W : Nat → Nat → Prop} {h0 : Hp} (x0 : Int) (hW : ∀ a i : Nat, (False) → W a i) (h : Hp) (ag_h : Ag W h0 h) : Fr W h0 (XX11_count x0 h) := by
  unfold XX11_count
  refine Fr_ite ?_ ?_
  · exact Fr_some ag_h
  · refine Fr_ite ?_ ?_
    · exact Fr_some ag_h
    · refine Fr_ite ?_ ?_
      · exact Fr_some ag_h
      · refine Fr_ite ?_ ?_
        · exact Fr_some ag_h
        · refine Fr_ite ?_ ?_
          · exact Fr_some ag_h
          · refine Fr_ite ?_ ?_
            · refine Fr_cal (fg_XX0_freeCount (fun a i hh => hh.elim) _ ag_h) (fun r6 h7 ag_h7 => ?_)
              exact Fr_some ag_h7
            · refine Fr_ite ?_ ?_
              · exact Fr_some ag_h
              · refine Fr_ite ?_ ?_
                · exact Fr_some ag_h
                · refine Fr_ite ?_ ?_
                  · exact Fr_some ag_h
                  · refine Fr_ite ?_ ?_
                    · exact Fr_some ag_h
                    · refine Fr_ite ?_ ?_
                      · exact Fr_some ag_h
                      · exact Fr_some ag_h
theorem fr_XX11_count {x0 : Int} {h : Hp} {r : Int} {h1 : Hp} (e : XX11_count x0 h = some (r, h1)) (a i : Nat) (hn : ¬ (False)) : h1 a i = h a i := fg_XX11_count (W := fun a i => False) x0 (fun _ _ hh => hh) h (fun _ _ _ => rfl) r h1 e a i hn
theorem fe_XX11_count {x0 : Int} {h : Hp} {r : Int} {h1 : Hp} (e : XX11_count x0 h = some (r, h1)) : h1 = h := funext (fun a => funext (fun i => fr_XX11_count e a i (fun hh => hh)))
