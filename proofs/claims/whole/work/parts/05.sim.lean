theorem Co_copyi {Γ : Cx} {cc : ByteArray} {nL : Nat} {own : String} {ret : Option FieldType} {rr : Room} (g : Gd Γ cc nL own ret rr) {w : Wd} {h : Hp} {kc ks : Nat} {Q : State → Prop} {pc : Nat} {ls : List (Nat × AV)} {st : List AV} {a0 n0 a1 n1 idx : Nat} {sp dp n : Int} (hd : decode cc pc = .ok (.invokestatic idx, 3)) (hl : Cond.methodLink own idx arraycopyName ∈ tblG) (hnat : Cond.native arraycopyName ∈ tblG) (hsta : Cond.static arraycopyName ∈ tblG) (hini : Cond.initialized "java/lang/System" ∈ tblG) (hs0 : At w a0 (2, 0, n0)) (hs1 : At w a1 (2, 0, n1)) (q1 : 0 ≤ sp) (q2 : 0 ≤ dp) (q3 : 0 ≤ n) (q4 : sp + n ≤ n0) (q5 : dp + n ≤ n1) (hfr : 1 ≤ rr.frames) (hlo : aw st + (nativeFrameWords "java/lang/System" "arraycopy" 5 + 11) ≤ rr.locals)
    (kk : Core Γ w (cpy h a0 sp.toNat a1 dp.toNat n.toNat) kc ks Q (pc + 3) ls st) : Core Γ w h kc ks Q pc ls (vI n :: vI dp :: vP a1 :: vI sp :: vP a0 :: st) := by
  obtain ⟨⟨l, b0, D, dA⟩, ⟨p, e, R, s, m, args, below, meth, c⟩, adE, NE⟩ := Γ
  obtain ⟨hx, hb, hml, hown, hts, hKU, hret, hlk, hNE, hRR⟩ := g
  intro o1 o2 o3 ad H locs la e1 e2 e3 e4 e5
  have in_n : inI n := okD o3
  have in_d : inI dp := okD (okT o3)
  have in_s : inI sp := okD (okT (okT (okT o3)))
  subst hRR
  have ho : okH w (cpy h a0 sp.toNat a1 dp.toNat n.toNat) := by
    intro b hb1 hb2 j
    unfold cpy
    by_cases q : b = a1 ∧ dp.toNat ≤ j ∧ j < dp.toNat + n.toNat
    · rw [if_pos q]
      obtain ⟨rfl, -, -⟩ := q
      have z := o1 a0 hs0.1 hs0.2.1 (sp.toNat + (j - dp.toNat))
      rw [hs0.2.2] at z; rw [hs1.2.2]; exact z
    · rw [if_neg q]; exact o1 b hb1 hb2 j
  have k2 := fun H locs e2 e3 e4 => kk ho o2 (okT (okT (okT (okT (okT o3))))) ad H locs la e1 e2 e3 e4 e5
  have he0 : (wsO dA ad w h)[a0 - 16]? = some (ad a0, .inl (dA 0, n0, .inl (fun j => Int32.ofInt (h a0 j)))) := by
    rw [wsO_get hs0.1 hs0.2.1, cE_a hs0.2.2]; rfl
  have he1 : (wsO dA ad w h)[a1 - 16]? = some (ad a1, .inl (dA 0, n1, .inl (fun j => Int32.ofInt (h a1 j)))) := by
    rw [wsO_get hs1.1 hs1.2.1, cE_a hs1.2.2]; rfl
  simp only [List.map_cons, toV, rf_ne ad (at_ne0 hs0), rf_ne ad (at_ne0 hs1)]
  refine va_copyi hx hb e5.1.symm hown (hts _ hl) (hts _ hnat) (hts _ hsta) (hts _ hini) hKU.1 e2 e3 e4 (a0 - 16) (a1 - 16) 0 0 he0 he1 rfl rfl rfl (fun z => absurd ((ltI in_s inI_0).mp z) (by omega)) (fun z => absurd ((ltI in_d inI_0).mp z) (by omega)) (fun z => absurd ((ltI in_n inI_0).mp z) (by omega)) (by rw [clampI in_s, clampI in_n]; omega) (by rw [clampI in_d, clampI in_n]; omega) (fun _ _ => rfl) hfr (by rw [aw_cat]; exact hlo) hd (fun H1 locs1 p1 p2 p3 => ?_)
  have hE := wsO_set (dA := dA) (ad := ad) (w := w) (h := h) (h' := cpy h a0 sp.toNat a1 dp.toNat n.toNat) hs1.1 (fun b hb' => by funext j; unfold cpy; rw [if_neg (fun q => hb' q.1)])
  have hu : va_cpy (fun j => Int32.ofInt (h a0 j)) (fun j => Int32.ofInt (h a1 j)) sp.toNat dp.toNat n.toNat = fun j => Int32.ofInt (cpy h a0 sp.toNat a1 dp.toNat n.toNat a1 j) := by
    funext j
    unfold va_cpy cpy
    by_cases q : dp.toNat ≤ j ∧ j < dp.toNat + n.toNat
    · rw [if_pos q, if_pos ⟨rfl, q⟩]
    · rw [if_neg q, if_neg (fun z => q z.2)]
  rw [cE_a hs1.2.2] at hE
  rw [clampI in_s, clampI in_d, clampI in_n, hu] at p1 p2
  exact k2 H1 locs1 (by rw [← hE]; exact p1) (by rw [← hE]; exact p2) p3
theorem Co_copyl {Γ : Cx} {cc : ByteArray} {nL : Nat} {own : String} {ret : Option FieldType} {rr : Room} (g : Gd Γ cc nL own ret rr) {w : Wd} {h : Hp} {kc ks : Nat} {Q : State → Prop} {pc : Nat} {ls : List (Nat × AV)} {st : List AV} {a0 n0 a1 n1 idx : Nat} {sp dp n : Int} (hd : decode cc pc = .ok (.invokestatic idx, 3)) (hl : Cond.methodLink own idx arraycopyName ∈ tblG) (hnat : Cond.native arraycopyName ∈ tblG) (hsta : Cond.static arraycopyName ∈ tblG) (hini : Cond.initialized "java/lang/System" ∈ tblG) (hs0 : At w a0 (2, 1, n0)) (hs1 : At w a1 (2, 1, n1)) (q1 : 0 ≤ sp) (q2 : 0 ≤ dp) (q3 : 0 ≤ n) (q4 : sp + n ≤ n0) (q5 : dp + n ≤ n1) (hfr : 1 ≤ rr.frames) (hlo : aw st + (nativeFrameWords "java/lang/System" "arraycopy" 5 + 11) ≤ rr.locals)
    (kk : Core Γ w (cpy h a0 sp.toNat a1 dp.toNat n.toNat) kc ks Q (pc + 3) ls st) : Core Γ w h kc ks Q pc ls (vI n :: vI dp :: vP a1 :: vI sp :: vP a0 :: st) := by
  obtain ⟨⟨l, b0, D, dA⟩, ⟨p, e, R, s, m, args, below, meth, c⟩, adE, NE⟩ := Γ
  obtain ⟨hx, hb, hml, hown, hts, hKU, hret, hlk, hNE, hRR⟩ := g
  intro o1 o2 o3 ad H locs la e1 e2 e3 e4 e5
  have in_n : inI n := okD o3
  have in_d : inI dp := okD (okT o3)
  have in_s : inI sp := okD (okT (okT (okT o3)))
  subst hRR
  have ho : okH w (cpy h a0 sp.toNat a1 dp.toNat n.toNat) := by
    intro b hb1 hb2 j
    unfold cpy
    by_cases q : b = a1 ∧ dp.toNat ≤ j ∧ j < dp.toNat + n.toNat
    · rw [if_pos q]
      obtain ⟨rfl, -, -⟩ := q
      have z := o1 a0 hs0.1 hs0.2.1 (sp.toNat + (j - dp.toNat))
      rw [hs0.2.2] at z; rw [hs1.2.2]; exact z
    · rw [if_neg q]; exact o1 b hb1 hb2 j
  have k2 := fun H locs e2 e3 e4 => kk ho o2 (okT (okT (okT (okT (okT o3))))) ad H locs la e1 e2 e3 e4 e5
  have he0 : (wsO dA ad w h)[a0 - 16]? = some (ad a0, .inl (dA 1, n0, .inr (.inl (fun j => Int64.ofInt (h a0 j))))) := by
    rw [wsO_get hs0.1 hs0.2.1, cE_a hs0.2.2]; rfl
  have he1 : (wsO dA ad w h)[a1 - 16]? = some (ad a1, .inl (dA 1, n1, .inr (.inl (fun j => Int64.ofInt (h a1 j))))) := by
    rw [wsO_get hs1.1 hs1.2.1, cE_a hs1.2.2]; rfl
  simp only [List.map_cons, toV, rf_ne ad (at_ne0 hs0), rf_ne ad (at_ne0 hs1)]
  refine va_copyl hx hb e5.1.symm hown (hts _ hl) (hts _ hnat) (hts _ hsta) (hts _ hini) hKU.1 e2 e3 e4 (a0 - 16) (a1 - 16) 1 1 he0 he1 rfl rfl rfl (fun z => absurd ((ltI in_s inI_0).mp z) (by omega)) (fun z => absurd ((ltI in_d inI_0).mp z) (by omega)) (fun z => absurd ((ltI in_n inI_0).mp z) (by omega)) (by rw [clampI in_s, clampI in_n]; omega) (by rw [clampI in_d, clampI in_n]; omega) (fun _ _ => rfl) hfr (by rw [aw_cat]; exact hlo) hd (fun H1 locs1 p1 p2 p3 => ?_)
  have hE := wsO_set (dA := dA) (ad := ad) (w := w) (h := h) (h' := cpy h a0 sp.toNat a1 dp.toNat n.toNat) hs1.1 (fun b hb' => by funext j; unfold cpy; rw [if_neg (fun q => hb' q.1)])
  have hu : va_cpy (fun j => Int64.ofInt (h a0 j)) (fun j => Int64.ofInt (h a1 j)) sp.toNat dp.toNat n.toNat = fun j => Int64.ofInt (cpy h a0 sp.toNat a1 dp.toNat n.toNat a1 j) := by
    funext j
    unfold va_cpy cpy
    by_cases q : dp.toNat ≤ j ∧ j < dp.toNat + n.toNat
    · rw [if_pos q, if_pos ⟨rfl, q⟩]
    · rw [if_neg q, if_neg (fun z => q z.2)]
  rw [cE_a hs1.2.2] at hE
  rw [clampI in_s, clampI in_d, clampI in_n, hu] at p1 p2
  exact k2 H1 locs1 (by rw [← hE]; exact p1) (by rw [← hE]; exact p2) p3
/-! SIMULATION: the method as a function; each row reads the function and the machine side by side -/
abbrev OR : Type := Option (Int × Hp)
def chk (x : Int) (X : OR) : OR := if -2147483648 ≤ x ∧ x < 2147483648 then X else none
def inb (i : Int) (n : Nat) (X : OR) : OR := if 0 ≤ i ∧ i < n then X else none
def zb (x : Int) (X : OR) : OR := if x = 0 ∨ x = 1 then X else none
def asr (p : Prop) [Decidable p] (X : OR) : OR := if p then X else none
def acp (sp dp n : Int) (n0 n1 : Nat) (X : OR) : OR := if 0 ≤ sp ∧ 0 ≤ dp ∧ 0 ≤ n ∧ sp + n ≤ n0 ∧ dp + n ≤ n1 then X else none
def nm (x : Int) (f : Int → OR) : OR := f x
def hm (h : Hp) (f : Hp → OR) : OR := f h
def cal (Y : OR) (f : Int → Hp → OR) : OR := match Y with
  | none => none
  | some q => f q.1 q.2
def rtV (rt : Nat) (r : Int) : Option AV := match rt with
  | 0 => some (vI r)
  | 1 => some (vJ r)
  | 2 => some (vP r.toNat)
  | _ => none
def Sim (Γ : Cx) (w : Wd) (rt : Nat) (X : OR) (h : Hp) (pc : Nat) (ls : List (Nat × AV)) (st : List AV) : Prop := ∀ r h', X = some (r, h') → Core Γ w h 0 0 (QM Γ 0 0 w h' (rtV rt r)) pc ls st
def EA : Nat → Prop := fun _ => True
def rmd (d : Nat) : Room := { frames := d, cells := 0, slots := 0, locals := 100 * d }
def SC (G : GG) (w : Wd) (y : MethodName) (cw : Cond) (d rt : Nat) (av : List AV) (Y : OR) (h : Hp) : Prop := ∀ r h', Y = some (r, h') → Ct G EA y cw (rmd d) av w h w h' (rtV rt r)
theorem chk_e {x : Int} {X : OR} {q : Int × Hp} (e : chk x X = some q) : inI x ∧ X = some q := by
  unfold chk at e
  by_cases c : -2147483648 ≤ x ∧ x < 2147483648
  · rw [if_pos c] at e; exact ⟨c, e⟩
  · rw [if_neg c] at e; cases e
theorem inb_e {i : Int} {n : Nat} {X : OR} {q : Int × Hp} (e : inb i n X = some q) : 0 ≤ i ∧ i < n ∧ X = some q := by
  unfold inb at e
  by_cases c : 0 ≤ i ∧ i < n
  · rw [if_pos c] at e; exact ⟨c.1, c.2, e⟩
  · rw [if_neg c] at e; cases e
theorem zb_e {x : Int} {X : OR} {q : Int × Hp} (e : zb x X = some q) : isZ x ∧ X = some q := by
  unfold zb at e
  by_cases c : x = 0 ∨ x = 1
  · rw [if_pos c] at e; exact ⟨c, e⟩
  · rw [if_neg c] at e; cases e
theorem cal_e {Y : OR} {f : Int → Hp → OR} {q : Int × Hp} (e : cal Y f = some q) : ∃ r h, Y = some (r, h) ∧ f r h = some q := by
  unfold cal at e
  match Y, e with
  | some (r, h), e => exact ⟨r, h, rfl, e⟩
theorem if_t {c : Prop} [Decidable c] {X Y Z : OR} (e : (if c then X else Y) = Z) (hc : c) : X = Z := by rw [if_pos hc] at e; exact e
theorem if_f {c : Prop} [Decidable c] {X Y Z : OR} (e : (if c then X else Y) = Z) (hc : ¬ c) : Y = Z := by rw [if_neg hc] at e; exact e
theorem S_bipush {Γ : Cx} {cc : ByteArray} {nL : Nat} {own : String} {ret : Option FieldType} {rr : Room} (g : Gd Γ cc nL own ret rr) {w : Wd} {rt : Nat} {h : Hp} {pc : Nat} {ls : List (Nat × AV)} {st : List AV} {X : OR} {n : Int} (hd : decode cc pc = .ok (.bipush n, 2)) (hr : inI n) (hv : (Int8.ofInt n).toInt32 = Int32.ofInt n) (kq : Sim Γ w rt X h (pc + 2) ls (vI n :: st)) : Sim Γ w rt (X) h pc ls (st) := by
  intro r h9 e
  exact Co_bipush g hd hr hv (kq r h9 e)
theorem S_sipush {Γ : Cx} {cc : ByteArray} {nL : Nat} {own : String} {ret : Option FieldType} {rr : Room} (g : Gd Γ cc nL own ret rr) {w : Wd} {rt : Nat} {h : Hp} {pc : Nat} {ls : List (Nat × AV)} {st : List AV} {X : OR} {n : Int} (hd : decode cc pc = .ok (.sipush n, 3)) (hr : inI n) (hv : (Int16.ofInt n).toInt32 = Int32.ofInt n) (kq : Sim Γ w rt X h (pc + 3) ls (vI n :: st)) : Sim Γ w rt (X) h pc ls (st) := by
  intro r h9 e
  exact Co_sipush g hd hr hv (kq r h9 e)
theorem S_lconst {Γ : Cx} {cc : ByteArray} {nL : Nat} {own : String} {ret : Option FieldType} {rr : Room} (g : Gd Γ cc nL own ret rr) {w : Wd} {rt : Nat} {h : Hp} {pc : Nat} {ls : List (Nat × AV)} {st : List AV} {X : OR} {n : Fin 2} {x : Int} (hd : decode cc pc = .ok (.lconst n, 1)) (hr : inJ x) (hv : Int64.ofNat (n : Nat) = Int64.ofInt x) (kq : Sim Γ w rt X h (pc + 1) ls (vJ x :: st)) : Sim Γ w rt (X) h pc ls (st) := by
  intro r h9 e
  exact Co_lconst g hd hr hv (kq r h9 e)
theorem S_iconst {Γ : Cx} {cc : ByteArray} {nL : Nat} {own : String} {ret : Option FieldType} {rr : Room} (g : Gd Γ cc nL own ret rr) {w : Wd} {rt : Nat} {h : Hp} {pc : Nat} {ls : List (Nat × AV)} {st : List AV} {X : OR} {n : Int} (hd : decode cc pc = .ok (.iconst n, 1)) (hr : inI n) (kq : Sim Γ w rt X h (pc + 1) ls (vI n :: st)) : Sim Γ w rt (X) h pc ls (st) := by
  intro r h9 e
  exact Co_iconst g hd hr (kq r h9 e)
theorem S_ldc {Γ : Cx} {cc : ByteArray} {nL : Nat} {own : String} {ret : Option FieldType} {rr : Room} (g : Gd Γ cc nL own ret rr) {w : Wd} {rt : Nat} {h : Hp} {pc : Nat} {ls : List (Nat × AV)} {st : List AV} {X : OR} {idx : Nat} {x : Int} (hd : decode cc pc = .ok (.ldc idx, 2)) (hr : inI x) (hw : Cond.constant own idx (Int32.ofInt x) ∈ tblG) (kq : Sim Γ w rt X h (pc + 2) ls (vI x :: st)) : Sim Γ w rt (X) h pc ls (st) := by
  intro r h9 e
  exact Co_ldc g hd hr hw (kq r h9 e)
theorem S_ldcw {Γ : Cx} {cc : ByteArray} {nL : Nat} {own : String} {ret : Option FieldType} {rr : Room} (g : Gd Γ cc nL own ret rr) {w : Wd} {rt : Nat} {h : Hp} {pc : Nat} {ls : List (Nat × AV)} {st : List AV} {X : OR} {idx : Nat} {x : Int} (hd : decode cc pc = .ok (.ldc_w idx, 3)) (hr : inI x) (hw : Cond.constant own idx (Int32.ofInt x) ∈ tblG) (kq : Sim Γ w rt X h (pc + 3) ls (vI x :: st)) : Sim Γ w rt (X) h pc ls (st) := by
  intro r h9 e
  exact Co_ldcw g hd hr hw (kq r h9 e)
theorem S_ldc2 {Γ : Cx} {cc : ByteArray} {nL : Nat} {own : String} {ret : Option FieldType} {rr : Room} (g : Gd Γ cc nL own ret rr) {w : Wd} {rt : Nat} {h : Hp} {pc : Nat} {ls : List (Nat × AV)} {st : List AV} {X : OR} {idx : Nat} {x : Int} (hd : decode cc pc = .ok (.ldc2_w idx, 3)) (hr : inJ x) (hw : Cond.constantLong own idx (Int64.ofInt x) ∈ tblG) (kq : Sim Γ w rt X h (pc + 3) ls (vJ x :: st)) : Sim Γ w rt (X) h pc ls (st) := by
  intro r h9 e
  exact Co_ldc2 g hd hr hw (kq r h9 e)
theorem S_null {Γ : Cx} {cc : ByteArray} {nL : Nat} {own : String} {ret : Option FieldType} {rr : Room} (g : Gd Γ cc nL own ret rr) {w : Wd} {rt : Nat} {h : Hp} {pc : Nat} {ls : List (Nat × AV)} {st : List AV} {X : OR}  (hd : decode cc pc = .ok (.aconst_null, 1)) (kq : Sim Γ w rt X h (pc + 1) ls (vP 0 :: st)) : Sim Γ w rt (X) h pc ls (st) := by
  intro r h9 e
  exact Co_null g hd (kq r h9 e)
theorem S_iload_n {Γ : Cx} {cc : ByteArray} {nL : Nat} {own : String} {ret : Option FieldType} {rr : Room} (g : Gd Γ cc nL own ret rr) {w : Wd} {rt : Nat} {h : Hp} {pc : Nat} {ls : List (Nat × AV)} {st : List AV} {X : OR} {kk i : Nat} {j : Fin 4} {x : Int} (hd : decode cc pc = .ok (.iload_n j, 1)) (hi : (j : Nat) = i) (hl : ls[kk]? = some (i, vI x)) (kq : Sim Γ w rt X h (pc + 1) ls (vI x :: st)) : Sim Γ w rt (X) h pc ls (st) := by
  intro r h9 e
  exact Co_iload_n g hd hi hl (kq r h9 e)
theorem S_iload {Γ : Cx} {cc : ByteArray} {nL : Nat} {own : String} {ret : Option FieldType} {rr : Room} (g : Gd Γ cc nL own ret rr) {w : Wd} {rt : Nat} {h : Hp} {pc : Nat} {ls : List (Nat × AV)} {st : List AV} {X : OR} {kk i : Nat} {x : Int} (hd : decode cc pc = .ok (.iload i, 2)) (hl : ls[kk]? = some (i, vI x)) (kq : Sim Γ w rt X h (pc + 2) ls (vI x :: st)) : Sim Γ w rt (X) h pc ls (st) := by
  intro r h9 e
  exact Co_iload g hd hl (kq r h9 e)
theorem S_lload_n {Γ : Cx} {cc : ByteArray} {nL : Nat} {own : String} {ret : Option FieldType} {rr : Room} (g : Gd Γ cc nL own ret rr) {w : Wd} {rt : Nat} {h : Hp} {pc : Nat} {ls : List (Nat × AV)} {st : List AV} {X : OR} {kk i : Nat} {j : Fin 4} {x : Int} (hd : decode cc pc = .ok (.lload_n j, 1)) (hi : (j : Nat) = i) (hl : ls[kk]? = some (i, vJ x)) (kq : Sim Γ w rt X h (pc + 1) ls (vJ x :: st)) : Sim Γ w rt (X) h pc ls (st) := by
  intro r h9 e
  exact Co_lload_n g hd hi hl (kq r h9 e)
theorem S_lload {Γ : Cx} {cc : ByteArray} {nL : Nat} {own : String} {ret : Option FieldType} {rr : Room} (g : Gd Γ cc nL own ret rr) {w : Wd} {rt : Nat} {h : Hp} {pc : Nat} {ls : List (Nat × AV)} {st : List AV} {X : OR} {kk i : Nat} {x : Int} (hd : decode cc pc = .ok (.lload i, 2)) (hl : ls[kk]? = some (i, vJ x)) (kq : Sim Γ w rt X h (pc + 2) ls (vJ x :: st)) : Sim Γ w rt (X) h pc ls (st) := by
  intro r h9 e
  exact Co_lload g hd hl (kq r h9 e)
theorem S_aload_n {Γ : Cx} {cc : ByteArray} {nL : Nat} {own : String} {ret : Option FieldType} {rr : Room} (g : Gd Γ cc nL own ret rr) {w : Wd} {rt : Nat} {h : Hp} {pc : Nat} {ls : List (Nat × AV)} {st : List AV} {X : OR} {kk i : Nat} {j : Fin 4} {a : Nat} (hd : decode cc pc = .ok (.aload_n j, 1)) (hi : (j : Nat) = i) (hl : ls[kk]? = some (i, vP a)) (kq : Sim Γ w rt X h (pc + 1) ls (vP a :: st)) : Sim Γ w rt (X) h pc ls (st) := by
  intro r h9 e
  exact Co_aload_n g hd hi hl (kq r h9 e)
theorem S_aload {Γ : Cx} {cc : ByteArray} {nL : Nat} {own : String} {ret : Option FieldType} {rr : Room} (g : Gd Γ cc nL own ret rr) {w : Wd} {rt : Nat} {h : Hp} {pc : Nat} {ls : List (Nat × AV)} {st : List AV} {X : OR} {kk i : Nat} {a : Nat} (hd : decode cc pc = .ok (.aload i, 2)) (hl : ls[kk]? = some (i, vP a)) (kq : Sim Γ w rt X h (pc + 2) ls (vP a :: st)) : Sim Γ w rt (X) h pc ls (st) := by
  intro r h9 e
  exact Co_aload g hd hl (kq r h9 e)
theorem S_istore_n {Γ : Cx} {cc : ByteArray} {nL : Nat} {own : String} {ret : Option FieldType} {rr : Room} (g : Gd Γ cc nL own ret rr) {w : Wd} {rt : Nat} {h : Hp} {pc : Nat} {ls : List (Nat × AV)} {st : List AV} {X : OR} {i : Nat} {j : Fin 4} {x : Int} {ls' : List (Nat × AV)} (hd : decode cc pc = .ok (.istore_n j, 1)) (hi : (j : Nat) = i) (hn : i < nL) (hl : stL i (vI x) ls = ls') (kq : Sim Γ w rt X h (pc + 1) ls' st) : Sim Γ w rt (X) h pc ls (vI x :: st) := by
  intro r h9 e
  exact Co_istore_n g hd hi hn hl (kq r h9 e)
theorem S_istore {Γ : Cx} {cc : ByteArray} {nL : Nat} {own : String} {ret : Option FieldType} {rr : Room} (g : Gd Γ cc nL own ret rr) {w : Wd} {rt : Nat} {h : Hp} {pc : Nat} {ls : List (Nat × AV)} {st : List AV} {X : OR} {i : Nat} {x : Int} {ls' : List (Nat × AV)} (hd : decode cc pc = .ok (.istore i, 2)) (hn : i < nL) (hl : stL i (vI x) ls = ls') (kq : Sim Γ w rt X h (pc + 2) ls' st) : Sim Γ w rt (X) h pc ls (vI x :: st) := by
  intro r h9 e
  exact Co_istore g hd hn hl (kq r h9 e)
theorem S_lstore_n {Γ : Cx} {cc : ByteArray} {nL : Nat} {own : String} {ret : Option FieldType} {rr : Room} (g : Gd Γ cc nL own ret rr) {w : Wd} {rt : Nat} {h : Hp} {pc : Nat} {ls : List (Nat × AV)} {st : List AV} {X : OR} {i : Nat} {j : Fin 4} {x : Int} {ls' : List (Nat × AV)} (hd : decode cc pc = .ok (.lstore_n j, 1)) (hi : (j : Nat) = i) (hn : i + 1 < nL) (hl : stJ i (vJ x) ls = ls') (kq : Sim Γ w rt X h (pc + 1) ls' st) : Sim Γ w rt (X) h pc ls (vJ x :: st) := by
  intro r h9 e
  exact Co_lstore_n g hd hi hn hl (kq r h9 e)
theorem S_lstore {Γ : Cx} {cc : ByteArray} {nL : Nat} {own : String} {ret : Option FieldType} {rr : Room} (g : Gd Γ cc nL own ret rr) {w : Wd} {rt : Nat} {h : Hp} {pc : Nat} {ls : List (Nat × AV)} {st : List AV} {X : OR} {i : Nat} {x : Int} {ls' : List (Nat × AV)} (hd : decode cc pc = .ok (.lstore i, 2)) (hn : i + 1 < nL) (hl : stJ i (vJ x) ls = ls') (kq : Sim Γ w rt X h (pc + 2) ls' st) : Sim Γ w rt (X) h pc ls (vJ x :: st) := by
  intro r h9 e
  exact Co_lstore g hd hn hl (kq r h9 e)
theorem S_astore_n {Γ : Cx} {cc : ByteArray} {nL : Nat} {own : String} {ret : Option FieldType} {rr : Room} (g : Gd Γ cc nL own ret rr) {w : Wd} {rt : Nat} {h : Hp} {pc : Nat} {ls : List (Nat × AV)} {st : List AV} {X : OR} {i a : Nat} {j : Fin 4} {ls' : List (Nat × AV)} (hd : decode cc pc = .ok (.astore_n j, 1)) (hi : (j : Nat) = i) (hn : i < nL) (hl : stL i (vP a) ls = ls') (kq : Sim Γ w rt X h (pc + 1) ls' st) : Sim Γ w rt (X) h pc ls (vP a :: st) := by
  intro r h9 e
  exact Co_astore_n g hd hi hn hl (kq r h9 e)
theorem S_astore {Γ : Cx} {cc : ByteArray} {nL : Nat} {own : String} {ret : Option FieldType} {rr : Room} (g : Gd Γ cc nL own ret rr) {w : Wd} {rt : Nat} {h : Hp} {pc : Nat} {ls : List (Nat × AV)} {st : List AV} {X : OR} {i a : Nat} {ls' : List (Nat × AV)} (hd : decode cc pc = .ok (.astore i, 2)) (hn : i < nL) (hl : stL i (vP a) ls = ls') (kq : Sim Γ w rt X h (pc + 2) ls' st) : Sim Γ w rt (X) h pc ls (vP a :: st) := by
  intro r h9 e
  exact Co_astore g hd hn hl (kq r h9 e)
theorem S_iand {Γ : Cx} {cc : ByteArray} {nL : Nat} {own : String} {ret : Option FieldType} {rr : Room} (g : Gd Γ cc nL own ret rr) {w : Wd} {rt : Nat} {h : Hp} {pc : Nat} {ls : List (Nat × AV)} {st : List AV} {X : OR} {a b : Int} (hd : decode cc pc = .ok (.iand, 1)) (kq : Sim Γ w rt X h (pc + 1) ls (vI (aand a b) :: st)) : Sim Γ w rt (X) h pc ls (vI b :: vI a :: st) := by
  intro r h9 e
  exact Co_iand g hd (kq r h9 e)
theorem S_ior {Γ : Cx} {cc : ByteArray} {nL : Nat} {own : String} {ret : Option FieldType} {rr : Room} (g : Gd Γ cc nL own ret rr) {w : Wd} {rt : Nat} {h : Hp} {pc : Nat} {ls : List (Nat × AV)} {st : List AV} {X : OR} {a b : Int} (hd : decode cc pc = .ok (.ior, 1)) (kq : Sim Γ w rt X h (pc + 1) ls (vI (aor a b) :: st)) : Sim Γ w rt (X) h pc ls (vI b :: vI a :: st) := by
  intro r h9 e
  exact Co_ior g hd (kq r h9 e)
theorem S_ixor {Γ : Cx} {cc : ByteArray} {nL : Nat} {own : String} {ret : Option FieldType} {rr : Room} (g : Gd Γ cc nL own ret rr) {w : Wd} {rt : Nat} {h : Hp} {pc : Nat} {ls : List (Nat × AV)} {st : List AV} {X : OR} {a b : Int} (hd : decode cc pc = .ok (.ixor, 1)) (kq : Sim Γ w rt X h (pc + 1) ls (vI (axor a b) :: st)) : Sim Γ w rt (X) h pc ls (vI b :: vI a :: st) := by
  intro r h9 e
  exact Co_ixor g hd (kq r h9 e)
theorem S_ishl {Γ : Cx} {cc : ByteArray} {nL : Nat} {own : String} {ret : Option FieldType} {rr : Room} (g : Gd Γ cc nL own ret rr) {w : Wd} {rt : Nat} {h : Hp} {pc : Nat} {ls : List (Nat × AV)} {st : List AV} {X : OR} {a b : Int} (hd : decode cc pc = .ok (.ishl, 1)) (kq : Sim Γ w rt X h (pc + 1) ls (vI (ashl a b) :: st)) : Sim Γ w rt (X) h pc ls (vI b :: vI a :: st) := by
  intro r h9 e
  exact Co_ishl g hd (kq r h9 e)
theorem S_ishr {Γ : Cx} {cc : ByteArray} {nL : Nat} {own : String} {ret : Option FieldType} {rr : Room} (g : Gd Γ cc nL own ret rr) {w : Wd} {rt : Nat} {h : Hp} {pc : Nat} {ls : List (Nat × AV)} {st : List AV} {X : OR} {a b : Int} (hd : decode cc pc = .ok (.ishr, 1)) (kq : Sim Γ w rt X h (pc + 1) ls (vI (ashr a b) :: st)) : Sim Γ w rt (X) h pc ls (vI b :: vI a :: st) := by
  intro r h9 e
  exact Co_ishr g hd (kq r h9 e)
theorem S_iushr {Γ : Cx} {cc : ByteArray} {nL : Nat} {own : String} {ret : Option FieldType} {rr : Room} (g : Gd Γ cc nL own ret rr) {w : Wd} {rt : Nat} {h : Hp} {pc : Nat} {ls : List (Nat × AV)} {st : List AV} {X : OR} {a b : Int} (hd : decode cc pc = .ok (.iushr, 1)) (kq : Sim Γ w rt X h (pc + 1) ls (vI (aushr a b) :: st)) : Sim Γ w rt (X) h pc ls (vI b :: vI a :: st) := by
  intro r h9 e
  exact Co_iushr g hd (kq r h9 e)
theorem S_land {Γ : Cx} {cc : ByteArray} {nL : Nat} {own : String} {ret : Option FieldType} {rr : Room} (g : Gd Γ cc nL own ret rr) {w : Wd} {rt : Nat} {h : Hp} {pc : Nat} {ls : List (Nat × AV)} {st : List AV} {X : OR} {a b : Int} (hd : decode cc pc = .ok (.land, 1)) (kq : Sim Γ w rt X h (pc + 1) ls (vJ (jand a b) :: st)) : Sim Γ w rt (X) h pc ls (vJ b :: vJ a :: st) := by
  intro r h9 e
  exact Co_land g hd (kq r h9 e)
theorem S_lor {Γ : Cx} {cc : ByteArray} {nL : Nat} {own : String} {ret : Option FieldType} {rr : Room} (g : Gd Γ cc nL own ret rr) {w : Wd} {rt : Nat} {h : Hp} {pc : Nat} {ls : List (Nat × AV)} {st : List AV} {X : OR} {a b : Int} (hd : decode cc pc = .ok (.lor, 1)) (kq : Sim Γ w rt X h (pc + 1) ls (vJ (jor a b) :: st)) : Sim Γ w rt (X) h pc ls (vJ b :: vJ a :: st) := by
  intro r h9 e
  exact Co_lor g hd (kq r h9 e)
theorem S_lxor {Γ : Cx} {cc : ByteArray} {nL : Nat} {own : String} {ret : Option FieldType} {rr : Room} (g : Gd Γ cc nL own ret rr) {w : Wd} {rt : Nat} {h : Hp} {pc : Nat} {ls : List (Nat × AV)} {st : List AV} {X : OR} {a b : Int} (hd : decode cc pc = .ok (.lxor, 1)) (kq : Sim Γ w rt X h (pc + 1) ls (vJ (jxor a b) :: st)) : Sim Γ w rt (X) h pc ls (vJ b :: vJ a :: st) := by
  intro r h9 e
  exact Co_lxor g hd (kq r h9 e)
theorem S_lsub {Γ : Cx} {cc : ByteArray} {nL : Nat} {own : String} {ret : Option FieldType} {rr : Room} (g : Gd Γ cc nL own ret rr) {w : Wd} {rt : Nat} {h : Hp} {pc : Nat} {ls : List (Nat × AV)} {st : List AV} {X : OR} {a b : Int} (hd : decode cc pc = .ok (.lsub, 1)) (kq : Sim Γ w rt X h (pc + 1) ls (vJ (jsub a b) :: st)) : Sim Γ w rt (X) h pc ls (vJ b :: vJ a :: st) := by
  intro r h9 e
  exact Co_lsub g hd (kq r h9 e)
theorem S_ladd {Γ : Cx} {cc : ByteArray} {nL : Nat} {own : String} {ret : Option FieldType} {rr : Room} (g : Gd Γ cc nL own ret rr) {w : Wd} {rt : Nat} {h : Hp} {pc : Nat} {ls : List (Nat × AV)} {st : List AV} {X : OR} {a b : Int} (hd : decode cc pc = .ok (.ladd, 1)) (kq : Sim Γ w rt X h (pc + 1) ls (vJ (jadd a b) :: st)) : Sim Γ w rt (X) h pc ls (vJ b :: vJ a :: st) := by
  intro r h9 e
  exact Co_ladd g hd (kq r h9 e)
theorem S_lshl {Γ : Cx} {cc : ByteArray} {nL : Nat} {own : String} {ret : Option FieldType} {rr : Room} (g : Gd Γ cc nL own ret rr) {w : Wd} {rt : Nat} {h : Hp} {pc : Nat} {ls : List (Nat × AV)} {st : List AV} {X : OR} {a b : Int} (hd : decode cc pc = .ok (.lshl, 1)) (kq : Sim Γ w rt X h (pc + 1) ls (vJ (jshl a b) :: st)) : Sim Γ w rt (X) h pc ls (vI b :: vJ a :: st) := by
  intro r h9 e
  exact Co_lshl g hd (kq r h9 e)
theorem S_lshr {Γ : Cx} {cc : ByteArray} {nL : Nat} {own : String} {ret : Option FieldType} {rr : Room} (g : Gd Γ cc nL own ret rr) {w : Wd} {rt : Nat} {h : Hp} {pc : Nat} {ls : List (Nat × AV)} {st : List AV} {X : OR} {a b : Int} (hd : decode cc pc = .ok (.lshr, 1)) (kq : Sim Γ w rt X h (pc + 1) ls (vJ (jshr a b) :: st)) : Sim Γ w rt (X) h pc ls (vI b :: vJ a :: st) := by
  intro r h9 e
  exact Co_lshr g hd (kq r h9 e)
theorem S_lushr {Γ : Cx} {cc : ByteArray} {nL : Nat} {own : String} {ret : Option FieldType} {rr : Room} (g : Gd Γ cc nL own ret rr) {w : Wd} {rt : Nat} {h : Hp} {pc : Nat} {ls : List (Nat × AV)} {st : List AV} {X : OR} {a b : Int} (hd : decode cc pc = .ok (.lushr, 1)) (kq : Sim Γ w rt X h (pc + 1) ls (vJ (jushr a b) :: st)) : Sim Γ w rt (X) h pc ls (vI b :: vJ a :: st) := by
  intro r h9 e
  exact Co_lushr g hd (kq r h9 e)
theorem S_lneg {Γ : Cx} {cc : ByteArray} {nL : Nat} {own : String} {ret : Option FieldType} {rr : Room} (g : Gd Γ cc nL own ret rr) {w : Wd} {rt : Nat} {h : Hp} {pc : Nat} {ls : List (Nat × AV)} {st : List AV} {X : OR} {a : Int} (hd : decode cc pc = .ok (.lneg, 1)) (kq : Sim Γ w rt X h (pc + 1) ls (vJ (jneg a) :: st)) : Sim Γ w rt (X) h pc ls (vJ a :: st) := by
  intro r h9 e
  exact Co_lneg g hd (kq r h9 e)
theorem S_i2l {Γ : Cx} {cc : ByteArray} {nL : Nat} {own : String} {ret : Option FieldType} {rr : Room} (g : Gd Γ cc nL own ret rr) {w : Wd} {rt : Nat} {h : Hp} {pc : Nat} {ls : List (Nat × AV)} {st : List AV} {X : OR} {a : Int} (hd : decode cc pc = .ok (.i2l, 1)) (kq : Sim Γ w rt X h (pc + 1) ls (vJ a :: st)) : Sim Γ w rt (X) h pc ls (vI a :: st) := by
  intro r h9 e
  exact Co_i2l g hd (kq r h9 e)
theorem S_l2i {Γ : Cx} {cc : ByteArray} {nL : Nat} {own : String} {ret : Option FieldType} {rr : Room} (g : Gd Γ cc nL own ret rr) {w : Wd} {rt : Nat} {h : Hp} {pc : Nat} {ls : List (Nat × AV)} {st : List AV} {X : OR} {a : Int} (hd : decode cc pc = .ok (.l2i, 1)) (kq : Sim Γ w rt X h (pc + 1) ls (vI (al2i a) :: st)) : Sim Γ w rt (X) h pc ls (vJ a :: st) := by
  intro r h9 e
  exact Co_l2i g hd (kq r h9 e)
theorem S_i2b {Γ : Cx} {cc : ByteArray} {nL : Nat} {own : String} {ret : Option FieldType} {rr : Room} (g : Gd Γ cc nL own ret rr) {w : Wd} {rt : Nat} {h : Hp} {pc : Nat} {ls : List (Nat × AV)} {st : List AV} {X : OR} {a : Int} (hd : decode cc pc = .ok (.i2b, 1)) (kq : Sim Γ w rt X h (pc + 1) ls (vI (ai2b a) :: st)) : Sim Γ w rt (X) h pc ls (vI a :: st) := by
  intro r h9 e
  exact Co_i2b g hd (kq r h9 e)
theorem S_i2s {Γ : Cx} {cc : ByteArray} {nL : Nat} {own : String} {ret : Option FieldType} {rr : Room} (g : Gd Γ cc nL own ret rr) {w : Wd} {rt : Nat} {h : Hp} {pc : Nat} {ls : List (Nat × AV)} {st : List AV} {X : OR} {a : Int} (hd : decode cc pc = .ok (.i2s, 1)) (kq : Sim Γ w rt X h (pc + 1) ls (vI (ai2s a) :: st)) : Sim Γ w rt (X) h pc ls (vI a :: st) := by
  intro r h9 e
  exact Co_i2s g hd (kq r h9 e)
theorem S_lcmp {Γ : Cx} {cc : ByteArray} {nL : Nat} {own : String} {ret : Option FieldType} {rr : Room} (g : Gd Γ cc nL own ret rr) {w : Wd} {rt : Nat} {h : Hp} {pc : Nat} {ls : List (Nat × AV)} {st : List AV} {X : OR} {a b : Int} (hd : decode cc pc = .ok (.lcmp, 1)) (kq : Sim Γ w rt X h (pc + 1) ls (vI (jcmp a b) :: st)) : Sim Γ w rt (X) h pc ls (vJ b :: vJ a :: st) := by
  intro r h9 e
  exact Co_lcmp g hd (kq r h9 e)
theorem S_dup {Γ : Cx} {cc : ByteArray} {nL : Nat} {own : String} {ret : Option FieldType} {rr : Room} (g : Gd Γ cc nL own ret rr) {w : Wd} {rt : Nat} {h : Hp} {pc : Nat} {ls : List (Nat × AV)} {st : List AV} {X : OR} {v : AV} (hd : decode cc pc = .ok (.dup, 1)) (hv : isJ v = false) (kq : Sim Γ w rt X h (pc + 1) ls (v :: v :: st)) : Sim Γ w rt (X) h pc ls (v :: st) := by
  intro r h9 e
  exact Co_dup g hd hv (kq r h9 e)
theorem S_pop {Γ : Cx} {cc : ByteArray} {nL : Nat} {own : String} {ret : Option FieldType} {rr : Room} (g : Gd Γ cc nL own ret rr) {w : Wd} {rt : Nat} {h : Hp} {pc : Nat} {ls : List (Nat × AV)} {st : List AV} {X : OR} {v : AV} (hd : decode cc pc = .ok (.pop, 1)) (hv : isJ v = false) (kq : Sim Γ w rt X h (pc + 1) ls (st)) : Sim Γ w rt (X) h pc ls (v :: st) := by
  intro r h9 e
  exact Co_pop g hd hv (kq r h9 e)
theorem S_dup2 {Γ : Cx} {cc : ByteArray} {nL : Nat} {own : String} {ret : Option FieldType} {rr : Room} (g : Gd Γ cc nL own ret rr) {w : Wd} {rt : Nat} {h : Hp} {pc : Nat} {ls : List (Nat × AV)} {st : List AV} {X : OR} {v u : AV} (hd : decode cc pc = .ok (.dup2, 1)) (hv : isJ v = false) (hu : isJ u = false) (kq : Sim Γ w rt X h (pc + 1) ls (v :: u :: v :: u :: st)) : Sim Γ w rt (X) h pc ls (v :: u :: st) := by
  intro r h9 e
  exact Co_dup2 g hd hv hu (kq r h9 e)
theorem S_dup_x1 {Γ : Cx} {cc : ByteArray} {nL : Nat} {own : String} {ret : Option FieldType} {rr : Room} (g : Gd Γ cc nL own ret rr) {w : Wd} {rt : Nat} {h : Hp} {pc : Nat} {ls : List (Nat × AV)} {st : List AV} {X : OR} {v u : AV} (hd : decode cc pc = .ok (.dup_x1, 1)) (hv : isJ v = false) (hu : isJ u = false) (kq : Sim Γ w rt X h (pc + 1) ls (v :: u :: v :: st)) : Sim Γ w rt (X) h pc ls (v :: u :: st) := by
  intro r h9 e
  exact Co_dup_x1 g hd hv hu (kq r h9 e)
theorem S_goto {Γ : Cx} {cc : ByteArray} {nL : Nat} {own : String} {ret : Option FieldType} {rr : Room} (g : Gd Γ cc nL own ret rr) {w : Wd} {rt : Nat} {h : Hp} {pc : Nat} {ls : List (Nat × AV)} {st : List AV} {X : OR} {off : Int} {tgt : Nat} (hd : decode cc pc = .ok (.goto off, 3)) (ht : (pc : Int) + off = (tgt : Int)) (kq : Sim Γ w rt X h tgt ls st) : Sim Γ w rt (X) h pc ls st := by
  intro r h9 e
  exact Co_goto g hd ht (kq r h9 e)
theorem S_sub {Γ : Cx} {cc : ByteArray} {nL : Nat} {own : String} {ret : Option FieldType} {rr : Room} (g : Gd Γ cc nL own ret rr) {w : Wd} {rt : Nat} {h : Hp} {pc : Nat} {ls : List (Nat × AV)} {st : List AV} {X : OR} {ls' : List (Nat × AV)} (is : List Nat) (hs : is.filterMap (fun i => ls[i]?) = ls') (kq : Sim Γ w rt X h pc ls' st) : Sim Γ w rt (X) h pc ls st := by
  intro r h9 e
  exact Co_sub g is hs (kq r h9 e)
theorem S_geti {Γ : Cx} {cc : ByteArray} {nL : Nat} {own : String} {ret : Option FieldType} {rr : Room} (g : Gd Γ cc nL own ret rr) {w : Wd} {rt : Nat} {h : Hp} {pc : Nat} {ls : List (Nat × AV)} {st : List AV} {X : OR} {a idx ci k n : Nat} (hd : decode cc pc = .ok (.getfield idx, 3)) (hf : FL own idx ci k) (hs : At w a (1, ci, n)) (ht : ft ci k = 0 ∨ ft ci k = 3) (kq : Sim Γ w rt X h (pc + 3) ls (vI (h a k) :: st)) : Sim Γ w rt (X) h pc ls (vP a :: st) := by
  intro r h9 e
  exact Co_geti g hd hf hs ht (kq r h9 e)
theorem S_getj {Γ : Cx} {cc : ByteArray} {nL : Nat} {own : String} {ret : Option FieldType} {rr : Room} (g : Gd Γ cc nL own ret rr) {w : Wd} {rt : Nat} {h : Hp} {pc : Nat} {ls : List (Nat × AV)} {st : List AV} {X : OR} {a idx ci k n : Nat} (hd : decode cc pc = .ok (.getfield idx, 3)) (hf : FL own idx ci k) (hs : At w a (1, ci, n)) (ht : ft ci k = 1) (kq : Sim Γ w rt X h (pc + 3) ls (vJ (h a k) :: st)) : Sim Γ w rt (X) h pc ls (vP a :: st) := by
  intro r h9 e
  exact Co_getj g hd hf hs ht (kq r h9 e)
theorem S_getr {Γ : Cx} {cc : ByteArray} {nL : Nat} {own : String} {ret : Option FieldType} {rr : Room} (g : Gd Γ cc nL own ret rr) {w : Wd} {rt : Nat} {h : Hp} {pc : Nat} {ls : List (Nat × AV)} {st : List AV} {X : OR} {a idx ci k n b : Nat} (hd : decode cc pc = .ok (.getfield idx, 3)) (hf : FL own idx ci k) (hs : At w a (1, ci, n)) (ht : ft ci k = 2) (hr : w.2.2 a k = b) (kq : Sim Γ w rt X h (pc + 3) ls (vP b :: st)) : Sim Γ w rt (X) h pc ls (vP a :: st) := by
  intro r h9 e
  exact Co_getr g hd hf hs ht hr (kq r h9 e)
theorem S_puti {Γ : Cx} {cc : ByteArray} {nL : Nat} {own : String} {ret : Option FieldType} {rr : Room} (g : Gd Γ cc nL own ret rr) {w : Wd} {rt : Nat} {h : Hp} {pc : Nat} {ls : List (Nat × AV)} {st : List AV} {f : Hp → OR} {a idx ci k n : Nat} {x : Int} (hd : decode cc pc = .ok (.putfield idx, 3)) (hf : FP own idx ci k .int) (hs : At w a (1, ci, n)) (ht : ft ci k = 0) (kq : ∀ h2 : Hp, Sim Γ w rt (f h2) h2 (pc + 3) ls st) : Sim Γ w rt (hm (wr h a k x) f) h pc ls (vI x :: vP a :: st) := by
  intro r h9 e
  exact Co_puti g hd hf hs ht (kq _ r h9 e)
theorem S_putj {Γ : Cx} {cc : ByteArray} {nL : Nat} {own : String} {ret : Option FieldType} {rr : Room} (g : Gd Γ cc nL own ret rr) {w : Wd} {rt : Nat} {h : Hp} {pc : Nat} {ls : List (Nat × AV)} {st : List AV} {f : Hp → OR} {a idx ci k n : Nat} {x : Int} (hd : decode cc pc = .ok (.putfield idx, 3)) (hf : FP own idx ci k .long) (hs : At w a (1, ci, n)) (ht : ft ci k = 1) (kq : ∀ h2 : Hp, Sim Γ w rt (f h2) h2 (pc + 3) ls st) : Sim Γ w rt (hm (wr h a k x) f) h pc ls (vJ x :: vP a :: st) := by
  intro r h9 e
  exact Co_putj g hd hf hs ht (kq _ r h9 e)
theorem S_alen {Γ : Cx} {cc : ByteArray} {nL : Nat} {own : String} {ret : Option FieldType} {rr : Room} (g : Gd Γ cc nL own ret rr) {w : Wd} {rt : Nat} {h : Hp} {pc : Nat} {ls : List (Nat × AV)} {st : List AV} {X : OR} {a n t : Nat} (hd : decode cc pc = .ok (.arraylength, 1)) (hs : At w a (2, t, n)) (ht : t < 6) (hn : inI n) (kq : Sim Γ w rt X h (pc + 1) ls (vI n :: st)) : Sim Γ w rt (X) h pc ls (vP a :: st) := by
  intro r h9 e
  exact Co_alen g hd hs ht hn (kq r h9 e)
theorem S_gets1 {Γ : Cx} {cc : ByteArray} {nL : Nat} {own : String} {ret : Option FieldType} {rr : Room} (g : Gd Γ cc nL own ret rr) {w : Wd} {rt : Nat} {h : Hp} {pc : Nat} {ls : List (Nat × AV)} {st : List AV} {X : OR} {idx : Nat} (hd : decode cc pc = .ok (.getstatic idx, 3)) (hl : Cond.fieldLink own idx "GatePatch" "PIN_COUNT" "[B" ∈ tblG) (kq : Sim Γ w rt X h (pc + 3) ls (vP 1 :: st)) : Sim Γ w rt (X) h pc ls st := by
  intro r h9 e
  exact Co_gets1 g hd hl (kq r h9 e)
theorem S_gets2 {Γ : Cx} {cc : ByteArray} {nL : Nat} {own : String} {ret : Option FieldType} {rr : Room} (g : Gd Γ cc nL own ret rr) {w : Wd} {rt : Nat} {h : Hp} {pc : Nat} {ls : List (Nat × AV)} {st : List AV} {X : OR} {idx : Nat} (hd : decode cc pc = .ok (.getstatic idx, 3)) (hl : Cond.fieldLink own idx "GatePatch" "COUNTING" "[J" ∈ tblG) (kq : Sim Γ w rt X h (pc + 3) ls (vP 2 :: st)) : Sim Γ w rt (X) h pc ls st := by
  intro r h9 e
  exact Co_gets2 g hd hl (kq r h9 e)
theorem S_gets1N {Γ : Cx} {cc : ByteArray} {nL : Nat} {own : String} {ret : Option FieldType} {rr : Room} (g : Gd Γ cc nL own ret rr) {w : Wd} {rt : Nat} {h : Hp} {pc : Nat} {ls : List (Nat × AV)} {st : List AV} {X : OR} {idx : Nat} (hd : decode cc pc = .ok (.getstatic idx, 3)) (hl : Cond.fieldLinkNest own idx "GatePatch" "PIN_COUNT" "[B" "GatePatch" ∈ NW) (kq : Sim Γ w rt X h (pc + 3) ls (vP 1 :: st)) : Sim Γ w rt (X) h pc ls st := by
  intro r h9 e
  exact Co_gets1N g hd hl (kq r h9 e)
theorem S_gets2N {Γ : Cx} {cc : ByteArray} {nL : Nat} {own : String} {ret : Option FieldType} {rr : Room} (g : Gd Γ cc nL own ret rr) {w : Wd} {rt : Nat} {h : Hp} {pc : Nat} {ls : List (Nat × AV)} {st : List AV} {X : OR} {idx : Nat} (hd : decode cc pc = .ok (.getstatic idx, 3)) (hl : Cond.fieldLinkNest own idx "GatePatch" "COUNTING" "[J" "GatePatch" ∈ NW) (kq : Sim Γ w rt X h (pc + 3) ls (vP 2 :: st)) : Sim Γ w rt (X) h pc ls st := by
  intro r h9 e
  exact Co_gets2N g hd hl (kq r h9 e)
theorem S_gets3 {Γ : Cx} {cc : ByteArray} {nL : Nat} {own : String} {ret : Option FieldType} {rr : Room} (g : Gd Γ cc nL own ret rr) {w : Wd} {rt : Nat} {h : Hp} {pc : Nat} {ls : List (Nat × AV)} {st : List AV} {X : OR} {idx : Nat} (hd : decode cc pc = .ok (.getstatic idx, 3)) (hl : Cond.fieldLink own idx "GatePatch$Functions" "PRICES" "[B" ∈ tblG) (kq : Sim Γ w rt X h (pc + 3) ls (vP 3 :: st)) : Sim Γ w rt (X) h pc ls st := by
  intro r h9 e
  exact Co_gets3 g hd hl (kq r h9 e)
theorem S_alenS1 {Γ : Cx} {cc : ByteArray} {nL : Nat} {own : String} {ret : Option FieldType} {rr : Room} (g : Gd Γ cc nL own ret rr) {w : Wd} {rt : Nat} {h : Hp} {pc : Nat} {ls : List (Nat × AV)} {st : List AV} {X : OR}  (hd : decode cc pc = .ok (.arraylength, 1)) (kq : Sim Γ w rt X h (pc + 1) ls (vI 9 :: st)) : Sim Γ w rt (X) h pc ls (vP 1 :: st) := by
  intro r h9 e
  exact Co_alenS1 g hd (kq r h9 e)
theorem S_alenS2 {Γ : Cx} {cc : ByteArray} {nL : Nat} {own : String} {ret : Option FieldType} {rr : Room} (g : Gd Γ cc nL own ret rr) {w : Wd} {rt : Nat} {h : Hp} {pc : Nat} {ls : List (Nat × AV)} {st : List AV} {X : OR}  (hd : decode cc pc = .ok (.arraylength, 1)) (kq : Sim Γ w rt X h (pc + 1) ls (vI 6 :: st)) : Sim Γ w rt (X) h pc ls (vP 2 :: st) := by
  intro r h9 e
  exact Co_alenS2 g hd (kq r h9 e)
theorem S_alenS3 {Γ : Cx} {cc : ByteArray} {nL : Nat} {own : String} {ret : Option FieldType} {rr : Room} (g : Gd Γ cc nL own ret rr) {w : Wd} {rt : Nat} {h : Hp} {pc : Nat} {ls : List (Nat × AV)} {st : List AV} {X : OR}  (hd : decode cc pc = .ok (.arraylength, 1)) (kq : Sim Γ w rt X h (pc + 1) ls (vI 256 :: st)) : Sim Γ w rt (X) h pc ls (vP 3 :: st) := by
  intro r h9 e
  exact Co_alenS3 g hd (kq r h9 e)
theorem S_iadd {Γ : Cx} {cc : ByteArray} {nL : Nat} {own : String} {ret : Option FieldType} {rr : Room} (g : Gd Γ cc nL own ret rr) {w : Wd} {rt : Nat} {h : Hp} {pc : Nat} {ls : List (Nat × AV)} {st : List AV} {X : OR} {a b : Int} (hd : decode cc pc = .ok (.iadd, 1)) (kq : Sim Γ w rt X h (pc + 1) ls (vI (a + b) :: st)) : Sim Γ w rt (chk (a + b) (X)) h pc ls (vI b :: vI a :: st) := by
  intro r h9 e
  obtain ⟨c1, e⟩ := chk_e e
  exact Co_iadd g hd c1 (kq r h9 e)
theorem S_isub {Γ : Cx} {cc : ByteArray} {nL : Nat} {own : String} {ret : Option FieldType} {rr : Room} (g : Gd Γ cc nL own ret rr) {w : Wd} {rt : Nat} {h : Hp} {pc : Nat} {ls : List (Nat × AV)} {st : List AV} {X : OR} {a b : Int} (hd : decode cc pc = .ok (.isub, 1)) (kq : Sim Γ w rt X h (pc + 1) ls (vI (a - b) :: st)) : Sim Γ w rt (chk (a - b) (X)) h pc ls (vI b :: vI a :: st) := by
  intro r h9 e
  obtain ⟨c1, e⟩ := chk_e e
  exact Co_isub g hd c1 (kq r h9 e)
theorem S_imul {Γ : Cx} {cc : ByteArray} {nL : Nat} {own : String} {ret : Option FieldType} {rr : Room} (g : Gd Γ cc nL own ret rr) {w : Wd} {rt : Nat} {h : Hp} {pc : Nat} {ls : List (Nat × AV)} {st : List AV} {X : OR} {a b : Int} (hd : decode cc pc = .ok (.imul, 1)) (kq : Sim Γ w rt X h (pc + 1) ls (vI (a * b) :: st)) : Sim Γ w rt (chk (a * b) (X)) h pc ls (vI b :: vI a :: st) := by
  intro r h9 e
  obtain ⟨c1, e⟩ := chk_e e
  exact Co_imul g hd c1 (kq r h9 e)
theorem S_iinc {Γ : Cx} {cc : ByteArray} {nL : Nat} {own : String} {ret : Option FieldType} {rr : Room} (g : Gd Γ cc nL own ret rr) {w : Wd} {rt : Nat} {h : Hp} {pc : Nat} {ls : List (Nat × AV)} {st : List AV} {X : OR} {i kk : Nat} {n x : Int} {ls' : List (Nat × AV)} (hd : decode cc pc = .ok (.iinc i n, 3)) (hl0 : ls[kk]? = some (i, vI x)) (hn : i < nL) (hl : stL i (vI (x + n)) ls = ls') (kq : Sim Γ w rt X h (pc + 3) ls' st) : Sim Γ w rt (chk (x + n) (X)) h pc ls st := by
  intro r h9 e
  obtain ⟨c1, e⟩ := chk_e e
  exact Co_iinc g hd hl0 hn c1 hl (kq r h9 e)
theorem S_idiv {Γ : Cx} {cc : ByteArray} {nL : Nat} {own : String} {ret : Option FieldType} {rr : Room} (g : Gd Γ cc nL own ret rr) {w : Wd} {rt : Nat} {h : Hp} {pc : Nat} {ls : List (Nat × AV)} {st : List AV} {X : OR} {a b : Int} (hd : decode cc pc = .ok (.idiv, 1)) (hb0 : b ≠ 0) (kq : Sim Γ w rt X h (pc + 1) ls (vI (a.tdiv b) :: st)) : Sim Γ w rt (chk (a.tdiv b) (X)) h pc ls (vI b :: vI a :: st) := by
  intro r h9 e
  obtain ⟨c1, e⟩ := chk_e e
  exact Co_idiv g hd hb0 c1 (kq r h9 e)
theorem S_irem {Γ : Cx} {cc : ByteArray} {nL : Nat} {own : String} {ret : Option FieldType} {rr : Room} (g : Gd Γ cc nL own ret rr) {w : Wd} {rt : Nat} {h : Hp} {pc : Nat} {ls : List (Nat × AV)} {st : List AV} {X : OR} {a b : Int} (hd : decode cc pc = .ok (.irem, 1)) (hb0 : b ≠ 0) (kq : Sim Γ w rt X h (pc + 1) ls (vI (a - a.tdiv b * b) :: st)) : Sim Γ w rt (chk (a - a.tdiv b * b) (X)) h pc ls (vI b :: vI a :: st) := by
  intro r h9 e
  obtain ⟨c1, e⟩ := chk_e e
  exact Co_irem g hd hb0 c1 (kq r h9 e)
theorem S_iaload {Γ : Cx} {cc : ByteArray} {nL : Nat} {own : String} {ret : Option FieldType} {rr : Room} (g : Gd Γ cc nL own ret rr) {w : Wd} {rt : Nat} {h : Hp} {pc : Nat} {ls : List (Nat × AV)} {st : List AV} {X : OR} {a n : Nat} {i : Int} (hd : decode cc pc = .ok (.iaload, 1)) (hs : At w a (2, 0, n)) (kq : Sim Γ w rt X h (pc + 1) ls (vI (h a i.toNat) :: st)) : Sim Γ w rt (inb i n (X)) h pc ls (vI i :: vP a :: st) := by
  intro r h9 e
  obtain ⟨c1, c2, e⟩ := inb_e e
  exact Co_iaload g hd hs c1 c2 (kq r h9 e)
theorem S_laload {Γ : Cx} {cc : ByteArray} {nL : Nat} {own : String} {ret : Option FieldType} {rr : Room} (g : Gd Γ cc nL own ret rr) {w : Wd} {rt : Nat} {h : Hp} {pc : Nat} {ls : List (Nat × AV)} {st : List AV} {X : OR} {a n : Nat} {i : Int} (hd : decode cc pc = .ok (.laload, 1)) (hs : At w a (2, 1, n)) (kq : Sim Γ w rt X h (pc + 1) ls (vJ (h a i.toNat) :: st)) : Sim Γ w rt (inb i n (X)) h pc ls (vI i :: vP a :: st) := by
  intro r h9 e
  obtain ⟨c1, c2, e⟩ := inb_e e
  exact Co_laload g hd hs c1 c2 (kq r h9 e)
theorem S_zaload {Γ : Cx} {cc : ByteArray} {nL : Nat} {own : String} {ret : Option FieldType} {rr : Room} (g : Gd Γ cc nL own ret rr) {w : Wd} {rt : Nat} {h : Hp} {pc : Nat} {ls : List (Nat × AV)} {st : List AV} {X : OR} {a n : Nat} {i : Int} (hd : decode cc pc = .ok (.baload, 1)) (hs : At w a (2, 3, n)) (kq : Sim Γ w rt X h (pc + 1) ls (vI (h a i.toNat) :: st)) : Sim Γ w rt (inb i n (X)) h pc ls (vI i :: vP a :: st) := by
  intro r h9 e
  obtain ⟨c1, c2, e⟩ := inb_e e
  exact Co_zaload g hd hs c1 c2 (kq r h9 e)
theorem S_aaload {Γ : Cx} {cc : ByteArray} {nL : Nat} {own : String} {ret : Option FieldType} {rr : Room} (g : Gd Γ cc nL own ret rr) {w : Wd} {rt : Nat} {h : Hp} {pc : Nat} {ls : List (Nat × AV)} {st : List AV} {X : OR} {a n t : Nat} {i : Int} (hd : decode cc pc = .ok (.aaload, 1)) (hs : At w a (2, t, n)) (ht : t = 4 ∨ t = 5) (kq : Sim Γ w rt X h (pc + 1) ls (vP (h a i.toNat).toNat :: st)) : Sim Γ w rt (inb i n (X)) h pc ls (vI i :: vP a :: st) := by
  intro r h9 e
  obtain ⟨c1, c2, e⟩ := inb_e e
  exact Co_aaload g hd hs ht c1 c2 (kq r h9 e)
theorem S_aastore {Γ : Cx} {cc : ByteArray} {nL : Nat} {own : String} {ret : Option FieldType} {rr : Room} (g : Gd Γ cc nL own ret rr) {w : Wd} {rt : Nat} {h : Hp} {pc : Nat} {ls : List (Nat × AV)} {st : List AV} {f : Hp → OR} {a n t ci b nb : Nat} {i : Int} {C : String} {T : u_T} {N : Nat} (hd : decode cc pc = .ok (.aastore, 1)) (hs : At w a (2, t, n)) (ht : (tysO (fun j => j))[t]? = some (t, .object C)) (ht4 : 4 ≤ t) (hb1 : At w b (1, ci, nb)) (hc : clT[ci]? = some (C, T, N)) (kq : ∀ h2 : Hp, Sim Γ w rt (f h2) h2 (pc + 1) ls st) : Sim Γ w rt (inb i n ((hm (wr h a i.toNat b) f))) h pc ls (vP b :: vI i :: vP a :: st) := by
  intro r h9 e
  obtain ⟨c1, c2, e⟩ := inb_e e
  exact Co_aastore g hd hs ht ht4 hb1 hc c1 c2 (kq _ r h9 e)
theorem S_iastore {Γ : Cx} {cc : ByteArray} {nL : Nat} {own : String} {ret : Option FieldType} {rr : Room} (g : Gd Γ cc nL own ret rr) {w : Wd} {rt : Nat} {h : Hp} {pc : Nat} {ls : List (Nat × AV)} {st : List AV} {f : Hp → OR} {a n : Nat} {i x : Int} (hd : decode cc pc = .ok (.iastore, 1)) (hs : At w a (2, 0, n)) (kq : ∀ h2 : Hp, Sim Γ w rt (f h2) h2 (pc + 1) ls st) : Sim Γ w rt (inb i n ((hm (wr h a i.toNat x) f))) h pc ls (vI x :: vI i :: vP a :: st) := by
  intro r h9 e
  obtain ⟨c1, c2, e⟩ := inb_e e
  exact Co_iastore g hd hs c1 c2 (kq _ r h9 e)
theorem S_lastore {Γ : Cx} {cc : ByteArray} {nL : Nat} {own : String} {ret : Option FieldType} {rr : Room} (g : Gd Γ cc nL own ret rr) {w : Wd} {rt : Nat} {h : Hp} {pc : Nat} {ls : List (Nat × AV)} {st : List AV} {f : Hp → OR} {a n : Nat} {i x : Int} (hd : decode cc pc = .ok (.lastore, 1)) (hs : At w a (2, 1, n)) (kq : ∀ h2 : Hp, Sim Γ w rt (f h2) h2 (pc + 1) ls st) : Sim Γ w rt (inb i n ((hm (wr h a i.toNat x) f))) h pc ls (vJ x :: vI i :: vP a :: st) := by
  intro r h9 e
  obtain ⟨c1, c2, e⟩ := inb_e e
  exact Co_lastore g hd hs c1 c2 (kq _ r h9 e)
theorem S_zastore {Γ : Cx} {cc : ByteArray} {nL : Nat} {own : String} {ret : Option FieldType} {rr : Room} (g : Gd Γ cc nL own ret rr) {w : Wd} {rt : Nat} {h : Hp} {pc : Nat} {ls : List (Nat × AV)} {st : List AV} {f : Hp → OR} {a n : Nat} {i x : Int} (hd : decode cc pc = .ok (.bastore, 1)) (hs : At w a (2, 3, n)) (kq : ∀ h2 : Hp, Sim Γ w rt (f h2) h2 (pc + 1) ls st) : Sim Γ w rt (inb i n (zb x ((hm (wr h a i.toNat x) f)))) h pc ls (vI x :: vI i :: vP a :: st) := by
  intro r h9 e
  obtain ⟨c1, c2, e⟩ := inb_e e
  obtain ⟨c3, e⟩ := zb_e e
  exact Co_zastore g hd hs c1 c2 c3 (kq _ r h9 e)
theorem S_putz {Γ : Cx} {cc : ByteArray} {nL : Nat} {own : String} {ret : Option FieldType} {rr : Room} (g : Gd Γ cc nL own ret rr) {w : Wd} {rt : Nat} {h : Hp} {pc : Nat} {ls : List (Nat × AV)} {st : List AV} {f : Hp → OR} {a idx ci k n : Nat} {x : Int} (hd : decode cc pc = .ok (.putfield idx, 3)) (hf : FP own idx ci k .boolean) (hs : At w a (1, ci, n)) (ht : ft ci k = 3) (kq : ∀ h2 : Hp, Sim Γ w rt (f h2) h2 (pc + 3) ls st) : Sim Γ w rt (zb x ((hm (wr h a k x) f))) h pc ls (vI x :: vP a :: st) := by
  intro r h9 e
  obtain ⟨c3, e⟩ := zb_e e
  exact Co_putz g hd hf hs ht c3 (kq _ r h9 e)
theorem S_baloadS1 {Γ : Cx} {cc : ByteArray} {nL : Nat} {own : String} {ret : Option FieldType} {rr : Room} (g : Gd Γ cc nL own ret rr) {w : Wd} {rt : Nat} {h : Hp} {pc : Nat} {ls : List (Nat × AV)} {st : List AV} {X : OR} {i : Int} (hd : decode cc pc = .ok (.baload, 1)) (kq : Sim Γ w rt X h (pc + 1) ls (vI (pinC i.toNat) :: st)) : Sim Γ w rt (inb i 9 (X)) h pc ls (vI i :: vP 1 :: st) := by
  intro r h9 e
  obtain ⟨c1, c2, e⟩ := inb_e e
  exact Co_baloadS1 g hd c1 c2 (kq r h9 e)
theorem S_laloadS2 {Γ : Cx} {cc : ByteArray} {nL : Nat} {own : String} {ret : Option FieldType} {rr : Room} (g : Gd Γ cc nL own ret rr) {w : Wd} {rt : Nat} {h : Hp} {pc : Nat} {ls : List (Nat × AV)} {st : List AV} {X : OR} {i : Int} (hd : decode cc pc = .ok (.laload, 1)) (kq : Sim Γ w rt X h (pc + 1) ls (vJ (cntC i.toNat) :: st)) : Sim Γ w rt (inb i 6 (X)) h pc ls (vI i :: vP 2 :: st) := by
  intro r h9 e
  obtain ⟨c1, c2, e⟩ := inb_e e
  exact Co_laloadS2 g hd c1 c2 (kq r h9 e)
theorem S_baloadS3 {Γ : Cx} {cc : ByteArray} {nL : Nat} {own : String} {ret : Option FieldType} {rr : Room} (g : Gd Γ cc nL own ret rr) {w : Wd} {rt : Nat} {h : Hp} {pc : Nat} {ls : List (Nat × AV)} {st : List AV} {X : OR} {i : Int} (hd : decode cc pc = .ok (.baload, 1)) (kq : Sim Γ w rt X h (pc + 1) ls (vI (prcC i.toNat) :: st)) : Sim Γ w rt (inb i 256 (X)) h pc ls (vI i :: vP 3 :: st) := by
  intro r h9 e
  obtain ⟨c1, c2, e⟩ := inb_e e
  exact Co_baloadS3 g hd c1 c2 (kq r h9 e)
theorem S_icmp_lt {Γ : Cx} {cc : ByteArray} {nL : Nat} {own : String} {ret : Option FieldType} {rr : Room} (g : Gd Γ cc nL own ret rr) {w : Wd} {rt : Nat} {h : Hp} {pc : Nat} {ls : List (Nat × AV)} {st : List AV} {X Y : OR} {a b : Int} {off : Int} {tgt : Nat} (hd : decode cc pc = .ok (.if_icmp .lt off, 3)) (ht : (pc : Int) + off = (tgt : Int)) (kt : Sim Γ w rt X h tgt ls st) (kf : Sim Γ w rt Y h (pc + 3) ls st) : Sim Γ w rt (if a < b then X else Y) h pc ls (vI b :: vI a :: st) := fun r h9 e => Co_icmp_lt g hd ht (fun c => kt r h9 (if_t e c)) (fun c => kf r h9 (if_f e c))
theorem S_icmp_ge {Γ : Cx} {cc : ByteArray} {nL : Nat} {own : String} {ret : Option FieldType} {rr : Room} (g : Gd Γ cc nL own ret rr) {w : Wd} {rt : Nat} {h : Hp} {pc : Nat} {ls : List (Nat × AV)} {st : List AV} {X Y : OR} {a b : Int} {off : Int} {tgt : Nat} (hd : decode cc pc = .ok (.if_icmp .ge off, 3)) (ht : (pc : Int) + off = (tgt : Int)) (kt : Sim Γ w rt X h tgt ls st) (kf : Sim Γ w rt Y h (pc + 3) ls st) : Sim Γ w rt (if b ≤ a then X else Y) h pc ls (vI b :: vI a :: st) := fun r h9 e => Co_icmp_ge g hd ht (fun c => kt r h9 (if_t e c)) (fun c => kf r h9 (if_f e c))
theorem S_icmp_gt {Γ : Cx} {cc : ByteArray} {nL : Nat} {own : String} {ret : Option FieldType} {rr : Room} (g : Gd Γ cc nL own ret rr) {w : Wd} {rt : Nat} {h : Hp} {pc : Nat} {ls : List (Nat × AV)} {st : List AV} {X Y : OR} {a b : Int} {off : Int} {tgt : Nat} (hd : decode cc pc = .ok (.if_icmp .gt off, 3)) (ht : (pc : Int) + off = (tgt : Int)) (kt : Sim Γ w rt X h tgt ls st) (kf : Sim Γ w rt Y h (pc + 3) ls st) : Sim Γ w rt (if b < a then X else Y) h pc ls (vI b :: vI a :: st) := fun r h9 e => Co_icmp_gt g hd ht (fun c => kt r h9 (if_t e c)) (fun c => kf r h9 (if_f e c))
theorem S_icmp_le {Γ : Cx} {cc : ByteArray} {nL : Nat} {own : String} {ret : Option FieldType} {rr : Room} (g : Gd Γ cc nL own ret rr) {w : Wd} {rt : Nat} {h : Hp} {pc : Nat} {ls : List (Nat × AV)} {st : List AV} {X Y : OR} {a b : Int} {off : Int} {tgt : Nat} (hd : decode cc pc = .ok (.if_icmp .le off, 3)) (ht : (pc : Int) + off = (tgt : Int)) (kt : Sim Γ w rt X h tgt ls st) (kf : Sim Γ w rt Y h (pc + 3) ls st) : Sim Γ w rt (if a ≤ b then X else Y) h pc ls (vI b :: vI a :: st) := fun r h9 e => Co_icmp_le g hd ht (fun c => kt r h9 (if_t e c)) (fun c => kf r h9 (if_f e c))
theorem S_icmp_eq {Γ : Cx} {cc : ByteArray} {nL : Nat} {own : String} {ret : Option FieldType} {rr : Room} (g : Gd Γ cc nL own ret rr) {w : Wd} {rt : Nat} {h : Hp} {pc : Nat} {ls : List (Nat × AV)} {st : List AV} {X Y : OR} {a b : Int} {off : Int} {tgt : Nat} (hd : decode cc pc = .ok (.if_icmp .eq off, 3)) (ht : (pc : Int) + off = (tgt : Int)) (kt : Sim Γ w rt X h tgt ls st) (kf : Sim Γ w rt Y h (pc + 3) ls st) : Sim Γ w rt (if a = b then X else Y) h pc ls (vI b :: vI a :: st) := fun r h9 e => Co_icmp_eq g hd ht (fun c => kt r h9 (if_t e c)) (fun c => kf r h9 (if_f e c))
theorem S_if_lt {Γ : Cx} {cc : ByteArray} {nL : Nat} {own : String} {ret : Option FieldType} {rr : Room} (g : Gd Γ cc nL own ret rr) {w : Wd} {rt : Nat} {h : Hp} {pc : Nat} {ls : List (Nat × AV)} {st : List AV} {X Y : OR} {a : Int} {off : Int} {tgt : Nat} (hd : decode cc pc = .ok (.ifCond .lt off, 3)) (ht : (pc : Int) + off = (tgt : Int)) (kt : Sim Γ w rt X h tgt ls st) (kf : Sim Γ w rt Y h (pc + 3) ls st) : Sim Γ w rt (if a < 0 then X else Y) h pc ls (vI a :: st) := fun r h9 e => Co_if_lt g hd ht (fun c => kt r h9 (if_t e c)) (fun c => kf r h9 (if_f e c))
theorem S_if_ge {Γ : Cx} {cc : ByteArray} {nL : Nat} {own : String} {ret : Option FieldType} {rr : Room} (g : Gd Γ cc nL own ret rr) {w : Wd} {rt : Nat} {h : Hp} {pc : Nat} {ls : List (Nat × AV)} {st : List AV} {X Y : OR} {a : Int} {off : Int} {tgt : Nat} (hd : decode cc pc = .ok (.ifCond .ge off, 3)) (ht : (pc : Int) + off = (tgt : Int)) (kt : Sim Γ w rt X h tgt ls st) (kf : Sim Γ w rt Y h (pc + 3) ls st) : Sim Γ w rt (if 0 ≤ a then X else Y) h pc ls (vI a :: st) := fun r h9 e => Co_if_ge g hd ht (fun c => kt r h9 (if_t e c)) (fun c => kf r h9 (if_f e c))
theorem S_if_gt {Γ : Cx} {cc : ByteArray} {nL : Nat} {own : String} {ret : Option FieldType} {rr : Room} (g : Gd Γ cc nL own ret rr) {w : Wd} {rt : Nat} {h : Hp} {pc : Nat} {ls : List (Nat × AV)} {st : List AV} {X Y : OR} {a : Int} {off : Int} {tgt : Nat} (hd : decode cc pc = .ok (.ifCond .gt off, 3)) (ht : (pc : Int) + off = (tgt : Int)) (kt : Sim Γ w rt X h tgt ls st) (kf : Sim Γ w rt Y h (pc + 3) ls st) : Sim Γ w rt (if 0 < a then X else Y) h pc ls (vI a :: st) := fun r h9 e => Co_if_gt g hd ht (fun c => kt r h9 (if_t e c)) (fun c => kf r h9 (if_f e c))
theorem S_if_le {Γ : Cx} {cc : ByteArray} {nL : Nat} {own : String} {ret : Option FieldType} {rr : Room} (g : Gd Γ cc nL own ret rr) {w : Wd} {rt : Nat} {h : Hp} {pc : Nat} {ls : List (Nat × AV)} {st : List AV} {X Y : OR} {a : Int} {off : Int} {tgt : Nat} (hd : decode cc pc = .ok (.ifCond .le off, 3)) (ht : (pc : Int) + off = (tgt : Int)) (kt : Sim Γ w rt X h tgt ls st) (kf : Sim Γ w rt Y h (pc + 3) ls st) : Sim Γ w rt (if a ≤ 0 then X else Y) h pc ls (vI a :: st) := fun r h9 e => Co_if_le g hd ht (fun c => kt r h9 (if_t e c)) (fun c => kf r h9 (if_f e c))
theorem S_if_eq {Γ : Cx} {cc : ByteArray} {nL : Nat} {own : String} {ret : Option FieldType} {rr : Room} (g : Gd Γ cc nL own ret rr) {w : Wd} {rt : Nat} {h : Hp} {pc : Nat} {ls : List (Nat × AV)} {st : List AV} {X Y : OR} {a : Int} {off : Int} {tgt : Nat} (hd : decode cc pc = .ok (.ifCond .eq off, 3)) (ht : (pc : Int) + off = (tgt : Int)) (kt : Sim Γ w rt X h tgt ls st) (kf : Sim Γ w rt Y h (pc + 3) ls st) : Sim Γ w rt (if a = 0 then X else Y) h pc ls (vI a :: st) := fun r h9 e => Co_if_eq g hd ht (fun c => kt r h9 (if_t e c)) (fun c => kf r h9 (if_f e c))
theorem S_icmp_ne {Γ : Cx} {cc : ByteArray} {nL : Nat} {own : String} {ret : Option FieldType} {rr : Room} (g : Gd Γ cc nL own ret rr) {w : Wd} {rt : Nat} {h : Hp} {pc : Nat} {ls : List (Nat × AV)} {st : List AV} {X Y : OR} {a b : Int} {off : Int} {tgt : Nat} (hd : decode cc pc = .ok (.if_icmp .ne off, 3)) (ht : (pc : Int) + off = (tgt : Int)) (kt : Sim Γ w rt X h tgt ls st) (kf : Sim Γ w rt Y h (pc + 3) ls st) : Sim Γ w rt (if a = b then Y else X) h pc ls (vI b :: vI a :: st) := fun r h9 e => Co_icmp_ne g hd ht (fun c => kt r h9 (if_f e c)) (fun c => kf r h9 (if_t e c))
theorem S_if_ne {Γ : Cx} {cc : ByteArray} {nL : Nat} {own : String} {ret : Option FieldType} {rr : Room} (g : Gd Γ cc nL own ret rr) {w : Wd} {rt : Nat} {h : Hp} {pc : Nat} {ls : List (Nat × AV)} {st : List AV} {X Y : OR} {a : Int} {off : Int} {tgt : Nat} (hd : decode cc pc = .ok (.ifCond .ne off, 3)) (ht : (pc : Int) + off = (tgt : Int)) (kt : Sim Γ w rt X h tgt ls st) (kf : Sim Γ w rt Y h (pc + 3) ls st) : Sim Γ w rt (if a = 0 then Y else X) h pc ls (vI a :: st) := fun r h9 e => Co_if_ne g hd ht (fun c => kt r h9 (if_f e c)) (fun c => kf r h9 (if_t e c))
theorem S_ifnull {Γ : Cx} {cc : ByteArray} {nL : Nat} {own : String} {ret : Option FieldType} {rr : Room} (g : Gd Γ cc nL own ret rr) {w : Wd} {rt : Nat} {h : Hp} {pc : Nat} {ls : List (Nat × AV)} {st : List AV} {X Y : OR} {a : Nat} {off : Int} {tgt : Nat} (hd : decode cc pc = .ok (.ifnull off, 3)) (ht : (pc : Int) + off = (tgt : Int)) (kt : Sim Γ w rt X h tgt ls st) (kf : Sim Γ w rt Y h (pc + 3) ls st) : Sim Γ w rt (if a = 0 then X else Y) h pc ls (vP a :: st) := fun r h9 e => Co_ifnull g hd ht (fun c => kt r h9 (if_t e c)) (fun c => kf r h9 (if_f e c))
theorem S_ifnonnull {Γ : Cx} {cc : ByteArray} {nL : Nat} {own : String} {ret : Option FieldType} {rr : Room} (g : Gd Γ cc nL own ret rr) {w : Wd} {rt : Nat} {h : Hp} {pc : Nat} {ls : List (Nat × AV)} {st : List AV} {X Y : OR} {a : Nat} {off : Int} {tgt : Nat} (hd : decode cc pc = .ok (.ifnonnull off, 3)) (ht : (pc : Int) + off = (tgt : Int)) (kt : Sim Γ w rt X h tgt ls st) (kf : Sim Γ w rt Y h (pc + 3) ls st) : Sim Γ w rt (if a = 0 then Y else X) h pc ls (vP a :: st) := fun r h9 e => Co_ifnonnull g hd ht (fun c => kt r h9 (if_f e c)) (fun c => kf r h9 (if_t e c))
theorem S_asr {Γ : Cx} {w : Wd} {rt : Nat} {h : Hp} {pc : Nat} {ls : List (Nat × AV)} {st : List AV} {p : Prop} [Decidable p] {X : OR} (k : p → Sim Γ w rt X h pc ls st) : Sim Γ w rt (asr p X) h pc ls st := by
  intro r h9 e
  unfold asr at e
  by_cases c : p
  · exact k c r h9 (if_t e c)
  · rw [if_neg c] at e; cases e
theorem S_nmI {Γ : Cx} {w : Wd} {rt : Nat} {h : Hp} {pc : Nat} {ls : List (Nat × AV)} {st : List AV} {x : Int} {f : Int → OR} (k : ∀ y, Sim Γ w rt (f y) h pc ls (vI y :: st)) : Sim Γ w rt (nm x f) h pc ls (vI x :: st) := k x
theorem S_nmJ {Γ : Cx} {w : Wd} {rt : Nat} {h : Hp} {pc : Nat} {ls : List (Nat × AV)} {st : List AV} {x : Int} {f : Int → OR} (k : ∀ y, Sim Γ w rt (f y) h pc ls (vJ y :: st)) : Sim Γ w rt (nm x f) h pc ls (vJ x :: st) := k x
theorem S_none {Γ : Cx} {w : Wd} {rt : Nat} {h : Hp} {pc : Nat} {ls : List (Nat × AV)} {st : List AV} : Sim Γ w rt none h pc ls st := fun _ _ e => by cases e
theorem S_ireturn {Γ : Cx} {cc : ByteArray} {nL : Nat} {own : String} {ret : Option FieldType} {rr : Room} (g : Gd Γ cc nL own ret rr) {w : Wd} {h : Hp} {pc : Nat} {ls : List (Nat × AV)} {x : Int} (hd : decode cc pc = .ok (.ireturn, 1)) (hrt : ret = some .int) : Sim Γ w 0 (some (x, h)) h pc ls [vI x] := fun r h9 e => by cases e; exact Co_ireturn g hd hrt
theorem S_zreturn {Γ : Cx} {cc : ByteArray} {nL : Nat} {own : String} {ret : Option FieldType} {rr : Room} (g : Gd Γ cc nL own ret rr) {w : Wd} {h : Hp} {pc : Nat} {ls : List (Nat × AV)} {x : Int} (hd : decode cc pc = .ok (.ireturn, 1)) (hrt : ret = some .boolean) : Sim Γ w 0 (zb x (some (x, h))) h pc ls [vI x] := fun r h9 e => by obtain ⟨c, e⟩ := zb_e e; cases e; exact Co_zreturn g hd hrt c
theorem S_lreturn {Γ : Cx} {cc : ByteArray} {nL : Nat} {own : String} {ret : Option FieldType} {rr : Room} (g : Gd Γ cc nL own ret rr) {w : Wd} {h : Hp} {pc : Nat} {ls : List (Nat × AV)} {x : Int} (hd : decode cc pc = .ok (.lreturn, 1)) (hrt : ret = some .long) : Sim Γ w 1 (some (x, h)) h pc ls [vJ x] := fun r h9 e => by cases e; exact Co_lreturn g hd hrt
theorem S_areturn {Γ : Cx} {cc : ByteArray} {nL : Nat} {own : String} {ret : Option FieldType} {rr : Room} (g : Gd Γ cc nL own ret rr) {w : Wd} {h : Hp} {pc : Nat} {ls : List (Nat × AV)} {a : Nat} {C : String} (hd : decode cc pc = .ok (.areturn, 1)) (hrt : ret = some (.object C)) : Sim Γ w 2 (some ((a : Int), h)) h pc ls [vP a] := fun r h9 e => by cases e; exact Co_areturn g hd hrt
theorem S_return {Γ : Cx} {cc : ByteArray} {nL : Nat} {own : String} {ret : Option FieldType} {rr : Room} (g : Gd Γ cc nL own ret rr) {w : Wd} {h : Hp} {pc : Nat} {ls : List (Nat × AV)} (hd : decode cc pc = .ok (.return_, 1)) (hrt : ret = none) : Sim Γ w 3 (some (0, h)) h pc ls [] := fun r h9 e => by cases e; exact Co_return g hd hrt
theorem S_tab {Γ : Cx} {cc : ByteArray} {nL : Nat} {own : String} {ret : Option FieldType} {rr : Room} (g : Gd Γ cc nL own ret rr) {w : Wd} {rt : Nat} {h : Hp} {pc : Nat} {ls : List (Nat × AV)} {st : List AV} {dflt lo hi x : Int} {offs : Array Int} {len : Nat} {X : OR} (hd : decode cc pc = .ok (.tableswitch dflt lo hi offs, len)) (ko : x < lo ∨ hi < x → ∃ tgt : Nat, (pc : Int) + dflt = (tgt : Int) ∧ Sim Γ w rt X h tgt ls st) (ki : ¬ x < lo → ¬ hi < x → ∃ (off : Int) (tgt : Nat), offs[(x - lo).toNat]? = some off ∧ (pc : Int) + off = (tgt : Int) ∧ Sim Γ w rt X h tgt ls st) : Sim Γ w rt X h pc ls (vI x :: st) := by
  intro r h9 e
  by_cases c : x < lo ∨ hi < x
  · obtain ⟨tgt, ht, k⟩ := ko c
    exact Co_tabOut g hd c ht (k r h9 e)
  · obtain ⟨off, tgt, ho, ht, k⟩ := ki (fun z => c (Or.inl z)) (fun z => c (Or.inr z))
    exact Co_tabIn g hd (fun z => c (Or.inl z)) (fun z => c (Or.inr z)) ho ht (k r h9 e)
theorem S_copyi {Γ : Cx} {cc : ByteArray} {nL : Nat} {own : String} {ret : Option FieldType} {rr : Room} (g : Gd Γ cc nL own ret rr) {w : Wd} {rt : Nat} {h : Hp} {pc : Nat} {ls : List (Nat × AV)} {st : List AV} {a0 n0 a1 n1 idx : Nat} {sp dp n : Int} {f : Hp → OR} (hd : decode cc pc = .ok (.invokestatic idx, 3)) (hl : Cond.methodLink own idx arraycopyName ∈ tblG) (hnat : Cond.native arraycopyName ∈ tblG) (hsta : Cond.static arraycopyName ∈ tblG) (hini : Cond.initialized "java/lang/System" ∈ tblG) (hs0 : At w a0 (2, 0, n0)) (hs1 : At w a1 (2, 0, n1)) (hfr : 1 ≤ rr.frames) (hlo : aw st + (nativeFrameWords "java/lang/System" "arraycopy" 5 + 11) ≤ rr.locals)
    (k : ∀ h2 : Hp, Sim Γ w rt (f h2) h2 (pc + 3) ls st) : Sim Γ w rt (acp sp dp n n0 n1 (hm (cpy h a0 sp.toNat a1 dp.toNat n.toNat) f)) h pc ls (vI n :: vI dp :: vP a1 :: vI sp :: vP a0 :: st) := by
  intro r h9 e
  unfold acp at e
  by_cases c : 0 ≤ sp ∧ 0 ≤ dp ∧ 0 ≤ n ∧ sp + n ≤ n0 ∧ dp + n ≤ n1
  · exact Co_copyi g hd hl hnat hsta hini hs0 hs1 c.1 c.2.1 c.2.2.1 c.2.2.2.1 c.2.2.2.2 hfr hlo (k _ r h9 (if_t e c))
  · rw [if_neg c] at e; cases e
theorem S_copyl {Γ : Cx} {cc : ByteArray} {nL : Nat} {own : String} {ret : Option FieldType} {rr : Room} (g : Gd Γ cc nL own ret rr) {w : Wd} {rt : Nat} {h : Hp} {pc : Nat} {ls : List (Nat × AV)} {st : List AV} {a0 n0 a1 n1 idx : Nat} {sp dp n : Int} {f : Hp → OR} (hd : decode cc pc = .ok (.invokestatic idx, 3)) (hl : Cond.methodLink own idx arraycopyName ∈ tblG) (hnat : Cond.native arraycopyName ∈ tblG) (hsta : Cond.static arraycopyName ∈ tblG) (hini : Cond.initialized "java/lang/System" ∈ tblG) (hs0 : At w a0 (2, 1, n0)) (hs1 : At w a1 (2, 1, n1)) (hfr : 1 ≤ rr.frames) (hlo : aw st + (nativeFrameWords "java/lang/System" "arraycopy" 5 + 11) ≤ rr.locals)
    (k : ∀ h2 : Hp, Sim Γ w rt (f h2) h2 (pc + 3) ls st) : Sim Γ w rt (acp sp dp n n0 n1 (hm (cpy h a0 sp.toNat a1 dp.toNat n.toNat) f)) h pc ls (vI n :: vI dp :: vP a1 :: vI sp :: vP a0 :: st) := by
  intro r h9 e
  unfold acp at e
  by_cases c : 0 ≤ sp ∧ 0 ≤ dp ∧ 0 ≤ n ∧ sp + n ≤ n0 ∧ dp + n ≤ n1
  · exact Co_copyl g hd hl hnat hsta hini hs0 hs1 c.1 c.2.1 c.2.2.1 c.2.2.2.1 c.2.2.2.2 hfr hlo (k _ r h9 (if_t e c))
  · rw [if_neg c] at e; cases e
theorem S_callSi {Γ : Cx} {cc : ByteArray} {nL : Nat} {own : String} {ret : Option FieldType} {dr : Nat} (g : Gd Γ cc nL own ret (rmd dr)) {w : Wd} {rt : Nat} {h : Hp} {pc : Nat} {ls : List (Nat × AV)} {st : List AV} {y : MethodName} {bytes : ByteArray} {maxL d idx : Nat} {ret' : Option FieldType} {As S : List AV} {Y : OR} {f : Int → Hp → OR} (hd : decode cc pc = .ok (.invokestatic idx, 3)) (hC : SC Γ.1 w y (Cond.code y bytes maxL ret') d 0 As Y h) (hst : S = As.reverse ++ st) (hsta : Cond.static y ∈ tblG) (hcw : Cond.code y bytes maxL ret' ∈ tblG) (hml1 : Cond.methodLink own idx y ∈ tblG) (hini : Cond.initialized y.cls ∈ tblG) (hd3 : y.cls ≠ "java/lang/invoke/MethodHandle" ∧ y.cls ≠ "java/lang/invoke/VarHandle" ∧ (parseMethodDescriptor y.desc).map (fun d => d.parameters.length) = some As.length) (hR : d < dr ∧ maxL ≤ 81) (hroom : aw st ≤ 8) (k : ∀ r h2, Sim Γ w rt (f r h2) h2 (pc + 3) ls (vI r :: st)) : Sim Γ w rt (cal Y f) h pc ls S := by
  intro r h9 e
  obtain ⟨r1, h1, e1, e2⟩ := cal_e e
  exact Co_callS g hd (hC r1 h1 e1) hst hsta hcw hml1 hini hd3 ⟨hR.1, by show 8 + (maxL + 11) + 100 * d ≤ 100 * dr; have := hR.1; have := hR.2; omega⟩ ⟨Nat.le_refl _, Nat.le_refl _⟩ hroom (fun _ _ => trivial) (fun q _ => by unfold refOk; split <;> trivial) (fun q _ => by unfold refOk; split <;> trivial) (k r1 h1 r h9 e2)
theorem S_callVi {Γ : Cx} {cc : ByteArray} {nL : Nat} {own : String} {ret : Option FieldType} {dr : Nat} (g : Gd Γ cc nL own ret (rmd dr)) {w : Wd} {rt : Nat} {h : Hp} {pc : Nat} {ls : List (Nat × AV)} {st : List AV} {y : MethodName} {bytes : ByteArray} {maxL d idx b ci n N : Nat} {T : u_T} {ret' : Option FieldType} {As S : List AV} {Y : OR} {f : Int → Hp → OR} (hd : decode cc pc = .ok (.invokevirtual idx, 3)) (hC : SC Γ.1 w y (Cond.code y bytes maxL ret') d 0 (vP b :: As) Y h) (hst : S = As.reverse ++ vP b :: st) (hs : At w b (1, ci, n)) (hc : clT[ci]? = some (y.cls, T, N)) (him : Cond.instanceMethod y ∈ tblG) (hse : Cond.selects y.cls y y ∈ tblG) (hcw : Cond.code y bytes maxL ret' ∈ tblG) (hml1 : Cond.methodLink own idx y ∈ tblG) (hini : Cond.initialized y.cls ∈ tblG) (hd3 : y.cls ≠ "java/lang/invoke/MethodHandle" ∧ y.cls ≠ "java/lang/invoke/VarHandle" ∧ (parseMethodDescriptor y.desc).map (fun d => d.parameters.length) = some As.length) (hR : d < dr ∧ maxL ≤ 81) (hroom : aw st ≤ 8) (k : ∀ r h2, Sim Γ w rt (f r h2) h2 (pc + 3) ls (vI r :: st)) : Sim Γ w rt (cal Y f) h pc ls S := by
  intro r h9 e
  obtain ⟨r1, h1, e1, e2⟩ := cal_e e
  exact Co_callV g hd (hC r1 h1 e1) hst hs hc him hse hcw hml1 hini hd3 ⟨hR.1, by show 8 + (maxL + 11) + 100 * d ≤ 100 * dr; have := hR.1; have := hR.2; omega⟩ ⟨Nat.le_refl _, Nat.le_refl _⟩ hroom (fun _ _ => trivial) (fun q _ => by unfold refOk; split <;> trivial) (fun q _ => by unfold refOk; split <;> trivial) (k r1 h1 r h9 e2)
theorem S_callSj {Γ : Cx} {cc : ByteArray} {nL : Nat} {own : String} {ret : Option FieldType} {dr : Nat} (g : Gd Γ cc nL own ret (rmd dr)) {w : Wd} {rt : Nat} {h : Hp} {pc : Nat} {ls : List (Nat × AV)} {st : List AV} {y : MethodName} {bytes : ByteArray} {maxL d idx : Nat} {ret' : Option FieldType} {As S : List AV} {Y : OR} {f : Int → Hp → OR} (hd : decode cc pc = .ok (.invokestatic idx, 3)) (hC : SC Γ.1 w y (Cond.code y bytes maxL ret') d 1 As Y h) (hst : S = As.reverse ++ st) (hsta : Cond.static y ∈ tblG) (hcw : Cond.code y bytes maxL ret' ∈ tblG) (hml1 : Cond.methodLink own idx y ∈ tblG) (hini : Cond.initialized y.cls ∈ tblG) (hd3 : y.cls ≠ "java/lang/invoke/MethodHandle" ∧ y.cls ≠ "java/lang/invoke/VarHandle" ∧ (parseMethodDescriptor y.desc).map (fun d => d.parameters.length) = some As.length) (hR : d < dr ∧ maxL ≤ 81) (hroom : aw st ≤ 8) (k : ∀ r h2, Sim Γ w rt (f r h2) h2 (pc + 3) ls (vJ r :: st)) : Sim Γ w rt (cal Y f) h pc ls S := by
  intro r h9 e
  obtain ⟨r1, h1, e1, e2⟩ := cal_e e
  exact Co_callS g hd (hC r1 h1 e1) hst hsta hcw hml1 hini hd3 ⟨hR.1, by show 8 + (maxL + 11) + 100 * d ≤ 100 * dr; have := hR.1; have := hR.2; omega⟩ ⟨Nat.le_refl _, Nat.le_refl _⟩ hroom (fun _ _ => trivial) (fun q _ => by unfold refOk; split <;> trivial) (fun q _ => by unfold refOk; split <;> trivial) (k r1 h1 r h9 e2)
theorem S_callVj {Γ : Cx} {cc : ByteArray} {nL : Nat} {own : String} {ret : Option FieldType} {dr : Nat} (g : Gd Γ cc nL own ret (rmd dr)) {w : Wd} {rt : Nat} {h : Hp} {pc : Nat} {ls : List (Nat × AV)} {st : List AV} {y : MethodName} {bytes : ByteArray} {maxL d idx b ci n N : Nat} {T : u_T} {ret' : Option FieldType} {As S : List AV} {Y : OR} {f : Int → Hp → OR} (hd : decode cc pc = .ok (.invokevirtual idx, 3)) (hC : SC Γ.1 w y (Cond.code y bytes maxL ret') d 1 (vP b :: As) Y h) (hst : S = As.reverse ++ vP b :: st) (hs : At w b (1, ci, n)) (hc : clT[ci]? = some (y.cls, T, N)) (him : Cond.instanceMethod y ∈ tblG) (hse : Cond.selects y.cls y y ∈ tblG) (hcw : Cond.code y bytes maxL ret' ∈ tblG) (hml1 : Cond.methodLink own idx y ∈ tblG) (hini : Cond.initialized y.cls ∈ tblG) (hd3 : y.cls ≠ "java/lang/invoke/MethodHandle" ∧ y.cls ≠ "java/lang/invoke/VarHandle" ∧ (parseMethodDescriptor y.desc).map (fun d => d.parameters.length) = some As.length) (hR : d < dr ∧ maxL ≤ 81) (hroom : aw st ≤ 8) (k : ∀ r h2, Sim Γ w rt (f r h2) h2 (pc + 3) ls (vJ r :: st)) : Sim Γ w rt (cal Y f) h pc ls S := by
  intro r h9 e
  obtain ⟨r1, h1, e1, e2⟩ := cal_e e
  exact Co_callV g hd (hC r1 h1 e1) hst hs hc him hse hcw hml1 hini hd3 ⟨hR.1, by show 8 + (maxL + 11) + 100 * d ≤ 100 * dr; have := hR.1; have := hR.2; omega⟩ ⟨Nat.le_refl _, Nat.le_refl _⟩ hroom (fun _ _ => trivial) (fun q _ => by unfold refOk; split <;> trivial) (fun q _ => by unfold refOk; split <;> trivial) (k r1 h1 r h9 e2)
theorem S_callSp {Γ : Cx} {cc : ByteArray} {nL : Nat} {own : String} {ret : Option FieldType} {dr : Nat} (g : Gd Γ cc nL own ret (rmd dr)) {w : Wd} {rt : Nat} {h : Hp} {pc : Nat} {ls : List (Nat × AV)} {st : List AV} {y : MethodName} {bytes : ByteArray} {maxL d idx : Nat} {ret' : Option FieldType} {As S : List AV} {Y : OR} {f : Int → Hp → OR} (hd : decode cc pc = .ok (.invokestatic idx, 3)) (hC : SC Γ.1 w y (Cond.code y bytes maxL ret') d 2 As Y h) (hst : S = As.reverse ++ st) (hsta : Cond.static y ∈ tblG) (hcw : Cond.code y bytes maxL ret' ∈ tblG) (hml1 : Cond.methodLink own idx y ∈ tblG) (hini : Cond.initialized y.cls ∈ tblG) (hd3 : y.cls ≠ "java/lang/invoke/MethodHandle" ∧ y.cls ≠ "java/lang/invoke/VarHandle" ∧ (parseMethodDescriptor y.desc).map (fun d => d.parameters.length) = some As.length) (hR : d < dr ∧ maxL ≤ 81) (hroom : aw st ≤ 8) (k : ∀ r h2, Sim Γ w rt (f r h2) h2 (pc + 3) ls (vP r.toNat :: st)) : Sim Γ w rt (cal Y f) h pc ls S := by
  intro r h9 e
  obtain ⟨r1, h1, e1, e2⟩ := cal_e e
  exact Co_callS g hd (hC r1 h1 e1) hst hsta hcw hml1 hini hd3 ⟨hR.1, by show 8 + (maxL + 11) + 100 * d ≤ 100 * dr; have := hR.1; have := hR.2; omega⟩ ⟨Nat.le_refl _, Nat.le_refl _⟩ hroom (fun _ _ => trivial) (fun q _ => by unfold refOk; split <;> trivial) (fun q _ => by unfold refOk; split <;> trivial) (k r1 h1 r h9 e2)
theorem S_callVp {Γ : Cx} {cc : ByteArray} {nL : Nat} {own : String} {ret : Option FieldType} {dr : Nat} (g : Gd Γ cc nL own ret (rmd dr)) {w : Wd} {rt : Nat} {h : Hp} {pc : Nat} {ls : List (Nat × AV)} {st : List AV} {y : MethodName} {bytes : ByteArray} {maxL d idx b ci n N : Nat} {T : u_T} {ret' : Option FieldType} {As S : List AV} {Y : OR} {f : Int → Hp → OR} (hd : decode cc pc = .ok (.invokevirtual idx, 3)) (hC : SC Γ.1 w y (Cond.code y bytes maxL ret') d 2 (vP b :: As) Y h) (hst : S = As.reverse ++ vP b :: st) (hs : At w b (1, ci, n)) (hc : clT[ci]? = some (y.cls, T, N)) (him : Cond.instanceMethod y ∈ tblG) (hse : Cond.selects y.cls y y ∈ tblG) (hcw : Cond.code y bytes maxL ret' ∈ tblG) (hml1 : Cond.methodLink own idx y ∈ tblG) (hini : Cond.initialized y.cls ∈ tblG) (hd3 : y.cls ≠ "java/lang/invoke/MethodHandle" ∧ y.cls ≠ "java/lang/invoke/VarHandle" ∧ (parseMethodDescriptor y.desc).map (fun d => d.parameters.length) = some As.length) (hR : d < dr ∧ maxL ≤ 81) (hroom : aw st ≤ 8) (k : ∀ r h2, Sim Γ w rt (f r h2) h2 (pc + 3) ls (vP r.toNat :: st)) : Sim Γ w rt (cal Y f) h pc ls S := by
  intro r h9 e
  obtain ⟨r1, h1, e1, e2⟩ := cal_e e
  exact Co_callV g hd (hC r1 h1 e1) hst hs hc him hse hcw hml1 hini hd3 ⟨hR.1, by show 8 + (maxL + 11) + 100 * d ≤ 100 * dr; have := hR.1; have := hR.2; omega⟩ ⟨Nat.le_refl _, Nat.le_refl _⟩ hroom (fun _ _ => trivial) (fun q _ => by unfold refOk; split <;> trivial) (fun q _ => by unfold refOk; split <;> trivial) (k r1 h1 r h9 e2)
theorem S_callSv {Γ : Cx} {cc : ByteArray} {nL : Nat} {own : String} {ret : Option FieldType} {dr : Nat} (g : Gd Γ cc nL own ret (rmd dr)) {w : Wd} {rt : Nat} {h : Hp} {pc : Nat} {ls : List (Nat × AV)} {st : List AV} {y : MethodName} {bytes : ByteArray} {maxL d idx : Nat} {ret' : Option FieldType} {As S : List AV} {Y : OR} {f : Int → Hp → OR} (hd : decode cc pc = .ok (.invokestatic idx, 3)) (hC : SC Γ.1 w y (Cond.code y bytes maxL ret') d 3 As Y h) (hst : S = As.reverse ++ st) (hsta : Cond.static y ∈ tblG) (hcw : Cond.code y bytes maxL ret' ∈ tblG) (hml1 : Cond.methodLink own idx y ∈ tblG) (hini : Cond.initialized y.cls ∈ tblG) (hd3 : y.cls ≠ "java/lang/invoke/MethodHandle" ∧ y.cls ≠ "java/lang/invoke/VarHandle" ∧ (parseMethodDescriptor y.desc).map (fun d => d.parameters.length) = some As.length) (hR : d < dr ∧ maxL ≤ 81) (hroom : aw st ≤ 8) (k : ∀ r h2, Sim Γ w rt (f r h2) h2 (pc + 3) ls st) : Sim Γ w rt (cal Y f) h pc ls S := by
  intro r h9 e
  obtain ⟨r1, h1, e1, e2⟩ := cal_e e
  exact Co_callS g hd (hC r1 h1 e1) hst hsta hcw hml1 hini hd3 ⟨hR.1, by show 8 + (maxL + 11) + 100 * d ≤ 100 * dr; have := hR.1; have := hR.2; omega⟩ ⟨Nat.le_refl _, Nat.le_refl _⟩ hroom (fun _ _ => trivial) (fun q _ => by unfold refOk; split <;> trivial) (fun q _ => by unfold refOk; split <;> trivial) (k r1 h1 r h9 e2)
theorem S_callVv {Γ : Cx} {cc : ByteArray} {nL : Nat} {own : String} {ret : Option FieldType} {dr : Nat} (g : Gd Γ cc nL own ret (rmd dr)) {w : Wd} {rt : Nat} {h : Hp} {pc : Nat} {ls : List (Nat × AV)} {st : List AV} {y : MethodName} {bytes : ByteArray} {maxL d idx b ci n N : Nat} {T : u_T} {ret' : Option FieldType} {As S : List AV} {Y : OR} {f : Int → Hp → OR} (hd : decode cc pc = .ok (.invokevirtual idx, 3)) (hC : SC Γ.1 w y (Cond.code y bytes maxL ret') d 3 (vP b :: As) Y h) (hst : S = As.reverse ++ vP b :: st) (hs : At w b (1, ci, n)) (hc : clT[ci]? = some (y.cls, T, N)) (him : Cond.instanceMethod y ∈ tblG) (hse : Cond.selects y.cls y y ∈ tblG) (hcw : Cond.code y bytes maxL ret' ∈ tblG) (hml1 : Cond.methodLink own idx y ∈ tblG) (hini : Cond.initialized y.cls ∈ tblG) (hd3 : y.cls ≠ "java/lang/invoke/MethodHandle" ∧ y.cls ≠ "java/lang/invoke/VarHandle" ∧ (parseMethodDescriptor y.desc).map (fun d => d.parameters.length) = some As.length) (hR : d < dr ∧ maxL ≤ 81) (hroom : aw st ≤ 8) (k : ∀ r h2, Sim Γ w rt (f r h2) h2 (pc + 3) ls st) : Sim Γ w rt (cal Y f) h pc ls S := by
  intro r h9 e
  obtain ⟨r1, h1, e1, e2⟩ := cal_e e
  exact Co_callV g hd (hC r1 h1 e1) hst hs hc him hse hcw hml1 hini hd3 ⟨hR.1, by show 8 + (maxL + 11) + 100 * d ≤ 100 * dr; have := hR.1; have := hR.2; omega⟩ ⟨Nat.le_refl _, Nat.le_refl _⟩ hroom (fun _ _ => trivial) (fun q _ => by unfold refOk; split <;> trivial) (fun q _ => by unfold refOk; split <;> trivial) (k r1 h1 r h9 e2)
/-- a method's contract out of its simulation from the entry -/
theorem SC_of {G : GG} {w : Wd} {y : MethodName} {own : String} {cc : ByteArray} {maxL d rt : Nat} {ret : Option FieldType} {av : List AV} {Y : OR} {h : Hp} (hy : plainName y.cls = true) (ho : y.cls = own) (hw : aw av ≤ maxL)
    (body : ∀ Γ : Cx, Γ.1 = G → Gd Γ cc maxL own ret (rmd d) → Sim Γ w rt Y h 0 (avL 0 av) []) : SC G w y (Cond.code y cc maxL ret) d rt av Y h :=
  fun r h' e => Ct_of hy ho (fun _ _ => trivial) hw (fun Γ e1 _ g => body Γ e1 g r h' e)
def lup0 (F : (Hp → OR) → Hp → OR) : Nat → Hp → OR
  | 0 => fun _ => none
  | n + 1 => F (lup0 F n)
theorem S_lup0 {Γ : Cx} {w : Wd} {rt pc : Nat} {F : (Hp → OR) → Hp → OR} (L : List (Nat × AV)) (k : ∀ self : Hp → OR, (∀ (h : Hp), Sim Γ w rt (self  h) h pc (L ) []) → ∀ (h : Hp), Sim Γ w rt (F self  h) h pc (L ) []) (n : Nat) : ∀ (h : Hp), Sim Γ w rt (lup0 F n  h) h pc (L ) [] := by
  induction n with
  | zero => intro  h; exact S_none
  | succ n ih => exact k (lup0 F n) ih
def lup1 (F : (Int → Hp → OR) → Int → Hp → OR) : Nat → Int → Hp → OR
  | 0 => fun _ _ => none
  | n + 1 => F (lup1 F n)
theorem S_lup1 {Γ : Cx} {w : Wd} {rt pc : Nat} {F : (Int → Hp → OR) → Int → Hp → OR} (L : Int → List (Nat × AV)) (k : ∀ self : Int → Hp → OR, (∀ (x0 : Int) (h : Hp), Sim Γ w rt (self x0 h) h pc (L x0) []) → ∀ (x0 : Int) (h : Hp), Sim Γ w rt (F self x0 h) h pc (L x0) []) (n : Nat) : ∀ (x0 : Int) (h : Hp), Sim Γ w rt (lup1 F n x0 h) h pc (L x0) [] := by
  induction n with
  | zero => intro x0 h; exact S_none
  | succ n ih => exact k (lup1 F n) ih
def lup2 (F : (Int → Int → Hp → OR) → Int → Int → Hp → OR) : Nat → Int → Int → Hp → OR
  | 0 => fun _ _ _ => none
  | n + 1 => F (lup2 F n)
theorem S_lup2 {Γ : Cx} {w : Wd} {rt pc : Nat} {F : (Int → Int → Hp → OR) → Int → Int → Hp → OR} (L : Int → Int → List (Nat × AV)) (k : ∀ self : Int → Int → Hp → OR, (∀ (x0 x1 : Int) (h : Hp), Sim Γ w rt (self x0 x1 h) h pc (L x0 x1) []) → ∀ (x0 x1 : Int) (h : Hp), Sim Γ w rt (F self x0 x1 h) h pc (L x0 x1) []) (n : Nat) : ∀ (x0 x1 : Int) (h : Hp), Sim Γ w rt (lup2 F n x0 x1 h) h pc (L x0 x1) [] := by
  induction n with
  | zero => intro x0 x1 h; exact S_none
  | succ n ih => exact k (lup2 F n) ih
def lup3 (F : (Int → Int → Int → Hp → OR) → Int → Int → Int → Hp → OR) : Nat → Int → Int → Int → Hp → OR
  | 0 => fun _ _ _ _ => none
  | n + 1 => F (lup3 F n)
theorem S_lup3 {Γ : Cx} {w : Wd} {rt pc : Nat} {F : (Int → Int → Int → Hp → OR) → Int → Int → Int → Hp → OR} (L : Int → Int → Int → List (Nat × AV)) (k : ∀ self : Int → Int → Int → Hp → OR, (∀ (x0 x1 x2 : Int) (h : Hp), Sim Γ w rt (self x0 x1 x2 h) h pc (L x0 x1 x2) []) → ∀ (x0 x1 x2 : Int) (h : Hp), Sim Γ w rt (F self x0 x1 x2 h) h pc (L x0 x1 x2) []) (n : Nat) : ∀ (x0 x1 x2 : Int) (h : Hp), Sim Γ w rt (lup3 F n x0 x1 x2 h) h pc (L x0 x1 x2) [] := by
  induction n with
  | zero => intro x0 x1 x2 h; exact S_none
  | succ n ih => exact k (lup3 F n) ih
def lup4 (F : (Int → Int → Int → Int → Hp → OR) → Int → Int → Int → Int → Hp → OR) : Nat → Int → Int → Int → Int → Hp → OR
  | 0 => fun _ _ _ _ _ => none
  | n + 1 => F (lup4 F n)
theorem S_lup4 {Γ : Cx} {w : Wd} {rt pc : Nat} {F : (Int → Int → Int → Int → Hp → OR) → Int → Int → Int → Int → Hp → OR} (L : Int → Int → Int → Int → List (Nat × AV)) (k : ∀ self : Int → Int → Int → Int → Hp → OR, (∀ (x0 x1 x2 x3 : Int) (h : Hp), Sim Γ w rt (self x0 x1 x2 x3 h) h pc (L x0 x1 x2 x3) []) → ∀ (x0 x1 x2 x3 : Int) (h : Hp), Sim Γ w rt (F self x0 x1 x2 x3 h) h pc (L x0 x1 x2 x3) []) (n : Nat) : ∀ (x0 x1 x2 x3 : Int) (h : Hp), Sim Γ w rt (lup4 F n x0 x1 x2 x3 h) h pc (L x0 x1 x2 x3) [] := by
  induction n with
  | zero => intro x0 x1 x2 x3 h; exact S_none
  | succ n ih => exact k (lup4 F n) ih
def lup5 (F : (Int → Int → Int → Int → Int → Hp → OR) → Int → Int → Int → Int → Int → Hp → OR) : Nat → Int → Int → Int → Int → Int → Hp → OR
  | 0 => fun _ _ _ _ _ _ => none
  | n + 1 => F (lup5 F n)
theorem S_lup5 {Γ : Cx} {w : Wd} {rt pc : Nat} {F : (Int → Int → Int → Int → Int → Hp → OR) → Int → Int → Int → Int → Int → Hp → OR} (L : Int → Int → Int → Int → Int → List (Nat × AV)) (k : ∀ self : Int → Int → Int → Int → Int → Hp → OR, (∀ (x0 x1 x2 x3 x4 : Int) (h : Hp), Sim Γ w rt (self x0 x1 x2 x3 x4 h) h pc (L x0 x1 x2 x3 x4) []) → ∀ (x0 x1 x2 x3 x4 : Int) (h : Hp), Sim Γ w rt (F self x0 x1 x2 x3 x4 h) h pc (L x0 x1 x2 x3 x4) []) (n : Nat) : ∀ (x0 x1 x2 x3 x4 : Int) (h : Hp), Sim Γ w rt (lup5 F n x0 x1 x2 x3 x4 h) h pc (L x0 x1 x2 x3 x4) [] := by
  induction n with
  | zero => intro x0 x1 x2 x3 x4 h; exact S_none
  | succ n ih => exact k (lup5 F n) ih
def lup6 (F : (Int → Int → Int → Int → Int → Int → Hp → OR) → Int → Int → Int → Int → Int → Int → Hp → OR) : Nat → Int → Int → Int → Int → Int → Int → Hp → OR
  | 0 => fun _ _ _ _ _ _ _ => none
  | n + 1 => F (lup6 F n)
theorem S_lup6 {Γ : Cx} {w : Wd} {rt pc : Nat} {F : (Int → Int → Int → Int → Int → Int → Hp → OR) → Int → Int → Int → Int → Int → Int → Hp → OR} (L : Int → Int → Int → Int → Int → Int → List (Nat × AV)) (k : ∀ self : Int → Int → Int → Int → Int → Int → Hp → OR, (∀ (x0 x1 x2 x3 x4 x5 : Int) (h : Hp), Sim Γ w rt (self x0 x1 x2 x3 x4 x5 h) h pc (L x0 x1 x2 x3 x4 x5) []) → ∀ (x0 x1 x2 x3 x4 x5 : Int) (h : Hp), Sim Γ w rt (F self x0 x1 x2 x3 x4 x5 h) h pc (L x0 x1 x2 x3 x4 x5) []) (n : Nat) : ∀ (x0 x1 x2 x3 x4 x5 : Int) (h : Hp), Sim Γ w rt (lup6 F n x0 x1 x2 x3 x4 x5 h) h pc (L x0 x1 x2 x3 x4 x5) [] := by
  induction n with
  | zero => intro x0 x1 x2 x3 x4 x5 h; exact S_none
  | succ n ih => exact k (lup6 F n) ih
def lup7 (F : (Int → Int → Int → Int → Int → Int → Int → Hp → OR) → Int → Int → Int → Int → Int → Int → Int → Hp → OR) : Nat → Int → Int → Int → Int → Int → Int → Int → Hp → OR
  | 0 => fun _ _ _ _ _ _ _ _ => none
  | n + 1 => F (lup7 F n)
theorem S_lup7 {Γ : Cx} {w : Wd} {rt pc : Nat} {F : (Int → Int → Int → Int → Int → Int → Int → Hp → OR) → Int → Int → Int → Int → Int → Int → Int → Hp → OR} (L : Int → Int → Int → Int → Int → Int → Int → List (Nat × AV)) (k : ∀ self : Int → Int → Int → Int → Int → Int → Int → Hp → OR, (∀ (x0 x1 x2 x3 x4 x5 x6 : Int) (h : Hp), Sim Γ w rt (self x0 x1 x2 x3 x4 x5 x6 h) h pc (L x0 x1 x2 x3 x4 x5 x6) []) → ∀ (x0 x1 x2 x3 x4 x5 x6 : Int) (h : Hp), Sim Γ w rt (F self x0 x1 x2 x3 x4 x5 x6 h) h pc (L x0 x1 x2 x3 x4 x5 x6) []) (n : Nat) : ∀ (x0 x1 x2 x3 x4 x5 x6 : Int) (h : Hp), Sim Γ w rt (lup7 F n x0 x1 x2 x3 x4 x5 x6 h) h pc (L x0 x1 x2 x3 x4 x5 x6) [] := by
  induction n with
  | zero => intro x0 x1 x2 x3 x4 x5 x6 h; exact S_none
  | succ n ih => exact k (lup7 F n) ih
def lup8 (F : (Int → Int → Int → Int → Int → Int → Int → Int → Hp → OR) → Int → Int → Int → Int → Int → Int → Int → Int → Hp → OR) : Nat → Int → Int → Int → Int → Int → Int → Int → Int → Hp → OR
  | 0 => fun _ _ _ _ _ _ _ _ _ => none
  | n + 1 => F (lup8 F n)
theorem S_lup8 {Γ : Cx} {w : Wd} {rt pc : Nat} {F : (Int → Int → Int → Int → Int → Int → Int → Int → Hp → OR) → Int → Int → Int → Int → Int → Int → Int → Int → Hp → OR} (L : Int → Int → Int → Int → Int → Int → Int → Int → List (Nat × AV)) (k : ∀ self : Int → Int → Int → Int → Int → Int → Int → Int → Hp → OR, (∀ (x0 x1 x2 x3 x4 x5 x6 x7 : Int) (h : Hp), Sim Γ w rt (self x0 x1 x2 x3 x4 x5 x6 x7 h) h pc (L x0 x1 x2 x3 x4 x5 x6 x7) []) → ∀ (x0 x1 x2 x3 x4 x5 x6 x7 : Int) (h : Hp), Sim Γ w rt (F self x0 x1 x2 x3 x4 x5 x6 x7 h) h pc (L x0 x1 x2 x3 x4 x5 x6 x7) []) (n : Nat) : ∀ (x0 x1 x2 x3 x4 x5 x6 x7 : Int) (h : Hp), Sim Γ w rt (lup8 F n x0 x1 x2 x3 x4 x5 x6 x7 h) h pc (L x0 x1 x2 x3 x4 x5 x6 x7) [] := by
  induction n with
  | zero => intro x0 x1 x2 x3 x4 x5 x6 x7 h; exact S_none
  | succ n ih => exact k (lup8 F n) ih
def lup9 (F : (Int → Int → Int → Int → Int → Int → Int → Int → Int → Hp → OR) → Int → Int → Int → Int → Int → Int → Int → Int → Int → Hp → OR) : Nat → Int → Int → Int → Int → Int → Int → Int → Int → Int → Hp → OR
  | 0 => fun _ _ _ _ _ _ _ _ _ _ => none
  | n + 1 => F (lup9 F n)
theorem S_lup9 {Γ : Cx} {w : Wd} {rt pc : Nat} {F : (Int → Int → Int → Int → Int → Int → Int → Int → Int → Hp → OR) → Int → Int → Int → Int → Int → Int → Int → Int → Int → Hp → OR} (L : Int → Int → Int → Int → Int → Int → Int → Int → Int → List (Nat × AV)) (k : ∀ self : Int → Int → Int → Int → Int → Int → Int → Int → Int → Hp → OR, (∀ (x0 x1 x2 x3 x4 x5 x6 x7 x8 : Int) (h : Hp), Sim Γ w rt (self x0 x1 x2 x3 x4 x5 x6 x7 x8 h) h pc (L x0 x1 x2 x3 x4 x5 x6 x7 x8) []) → ∀ (x0 x1 x2 x3 x4 x5 x6 x7 x8 : Int) (h : Hp), Sim Γ w rt (F self x0 x1 x2 x3 x4 x5 x6 x7 x8 h) h pc (L x0 x1 x2 x3 x4 x5 x6 x7 x8) []) (n : Nat) : ∀ (x0 x1 x2 x3 x4 x5 x6 x7 x8 : Int) (h : Hp), Sim Γ w rt (lup9 F n x0 x1 x2 x3 x4 x5 x6 x7 x8 h) h pc (L x0 x1 x2 x3 x4 x5 x6 x7 x8) [] := by
  induction n with
  | zero => intro x0 x1 x2 x3 x4 x5 x6 x7 x8 h; exact S_none
  | succ n ih => exact k (lup9 F n) ih
def lup10 (F : (Int → Int → Int → Int → Int → Int → Int → Int → Int → Int → Hp → OR) → Int → Int → Int → Int → Int → Int → Int → Int → Int → Int → Hp → OR) : Nat → Int → Int → Int → Int → Int → Int → Int → Int → Int → Int → Hp → OR
  | 0 => fun _ _ _ _ _ _ _ _ _ _ _ => none
  | n + 1 => F (lup10 F n)
theorem S_lup10 {Γ : Cx} {w : Wd} {rt pc : Nat} {F : (Int → Int → Int → Int → Int → Int → Int → Int → Int → Int → Hp → OR) → Int → Int → Int → Int → Int → Int → Int → Int → Int → Int → Hp → OR} (L : Int → Int → Int → Int → Int → Int → Int → Int → Int → Int → List (Nat × AV)) (k : ∀ self : Int → Int → Int → Int → Int → Int → Int → Int → Int → Int → Hp → OR, (∀ (x0 x1 x2 x3 x4 x5 x6 x7 x8 x9 : Int) (h : Hp), Sim Γ w rt (self x0 x1 x2 x3 x4 x5 x6 x7 x8 x9 h) h pc (L x0 x1 x2 x3 x4 x5 x6 x7 x8 x9) []) → ∀ (x0 x1 x2 x3 x4 x5 x6 x7 x8 x9 : Int) (h : Hp), Sim Γ w rt (F self x0 x1 x2 x3 x4 x5 x6 x7 x8 x9 h) h pc (L x0 x1 x2 x3 x4 x5 x6 x7 x8 x9) []) (n : Nat) : ∀ (x0 x1 x2 x3 x4 x5 x6 x7 x8 x9 : Int) (h : Hp), Sim Γ w rt (lup10 F n x0 x1 x2 x3 x4 x5 x6 x7 x8 x9 h) h pc (L x0 x1 x2 x3 x4 x5 x6 x7 x8 x9) [] := by
  induction n with
  | zero => intro x0 x1 x2 x3 x4 x5 x6 x7 x8 x9 h; exact S_none
  | succ n ih => exact k (lup10 F n) ih
def lup11 (F : (Int → Int → Int → Int → Int → Int → Int → Int → Int → Int → Int → Hp → OR) → Int → Int → Int → Int → Int → Int → Int → Int → Int → Int → Int → Hp → OR) : Nat → Int → Int → Int → Int → Int → Int → Int → Int → Int → Int → Int → Hp → OR
  | 0 => fun _ _ _ _ _ _ _ _ _ _ _ _ => none
  | n + 1 => F (lup11 F n)
theorem S_lup11 {Γ : Cx} {w : Wd} {rt pc : Nat} {F : (Int → Int → Int → Int → Int → Int → Int → Int → Int → Int → Int → Hp → OR) → Int → Int → Int → Int → Int → Int → Int → Int → Int → Int → Int → Hp → OR} (L : Int → Int → Int → Int → Int → Int → Int → Int → Int → Int → Int → List (Nat × AV)) (k : ∀ self : Int → Int → Int → Int → Int → Int → Int → Int → Int → Int → Int → Hp → OR, (∀ (x0 x1 x2 x3 x4 x5 x6 x7 x8 x9 x10 : Int) (h : Hp), Sim Γ w rt (self x0 x1 x2 x3 x4 x5 x6 x7 x8 x9 x10 h) h pc (L x0 x1 x2 x3 x4 x5 x6 x7 x8 x9 x10) []) → ∀ (x0 x1 x2 x3 x4 x5 x6 x7 x8 x9 x10 : Int) (h : Hp), Sim Γ w rt (F self x0 x1 x2 x3 x4 x5 x6 x7 x8 x9 x10 h) h pc (L x0 x1 x2 x3 x4 x5 x6 x7 x8 x9 x10) []) (n : Nat) : ∀ (x0 x1 x2 x3 x4 x5 x6 x7 x8 x9 x10 : Int) (h : Hp), Sim Γ w rt (lup11 F n x0 x1 x2 x3 x4 x5 x6 x7 x8 x9 x10 h) h pc (L x0 x1 x2 x3 x4 x5 x6 x7 x8 x9 x10) [] := by
  induction n with
  | zero => intro x0 x1 x2 x3 x4 x5 x6 x7 x8 x9 x10 h; exact S_none
  | succ n ih => exact k (lup11 F n) ih
def lup12 (F : (Int → Int → Int → Int → Int → Int → Int → Int → Int → Int → Int → Int → Hp → OR) → Int → Int → Int → Int → Int → Int → Int → Int → Int → Int → Int → Int → Hp → OR) : Nat → Int → Int → Int → Int → Int → Int → Int → Int → Int → Int → Int → Int → Hp → OR
  | 0 => fun _ _ _ _ _ _ _ _ _ _ _ _ _ => none
  | n + 1 => F (lup12 F n)
theorem S_lup12 {Γ : Cx} {w : Wd} {rt pc : Nat} {F : (Int → Int → Int → Int → Int → Int → Int → Int → Int → Int → Int → Int → Hp → OR) → Int → Int → Int → Int → Int → Int → Int → Int → Int → Int → Int → Int → Hp → OR} (L : Int → Int → Int → Int → Int → Int → Int → Int → Int → Int → Int → Int → List (Nat × AV)) (k : ∀ self : Int → Int → Int → Int → Int → Int → Int → Int → Int → Int → Int → Int → Hp → OR, (∀ (x0 x1 x2 x3 x4 x5 x6 x7 x8 x9 x10 x11 : Int) (h : Hp), Sim Γ w rt (self x0 x1 x2 x3 x4 x5 x6 x7 x8 x9 x10 x11 h) h pc (L x0 x1 x2 x3 x4 x5 x6 x7 x8 x9 x10 x11) []) → ∀ (x0 x1 x2 x3 x4 x5 x6 x7 x8 x9 x10 x11 : Int) (h : Hp), Sim Γ w rt (F self x0 x1 x2 x3 x4 x5 x6 x7 x8 x9 x10 x11 h) h pc (L x0 x1 x2 x3 x4 x5 x6 x7 x8 x9 x10 x11) []) (n : Nat) : ∀ (x0 x1 x2 x3 x4 x5 x6 x7 x8 x9 x10 x11 : Int) (h : Hp), Sim Γ w rt (lup12 F n x0 x1 x2 x3 x4 x5 x6 x7 x8 x9 x10 x11 h) h pc (L x0 x1 x2 x3 x4 x5 x6 x7 x8 x9 x10 x11) [] := by
  induction n with
  | zero => intro x0 x1 x2 x3 x4 x5 x6 x7 x8 x9 x10 x11 h; exact S_none
  | succ n ih => exact k (lup12 F n) ih
def lup13 (F : (Int → Int → Int → Int → Int → Int → Int → Int → Int → Int → Int → Int → Int → Hp → OR) → Int → Int → Int → Int → Int → Int → Int → Int → Int → Int → Int → Int → Int → Hp → OR) : Nat → Int → Int → Int → Int → Int → Int → Int → Int → Int → Int → Int → Int → Int → Hp → OR
  | 0 => fun _ _ _ _ _ _ _ _ _ _ _ _ _ _ => none
  | n + 1 => F (lup13 F n)
theorem S_lup13 {Γ : Cx} {w : Wd} {rt pc : Nat} {F : (Int → Int → Int → Int → Int → Int → Int → Int → Int → Int → Int → Int → Int → Hp → OR) → Int → Int → Int → Int → Int → Int → Int → Int → Int → Int → Int → Int → Int → Hp → OR} (L : Int → Int → Int → Int → Int → Int → Int → Int → Int → Int → Int → Int → Int → List (Nat × AV)) (k : ∀ self : Int → Int → Int → Int → Int → Int → Int → Int → Int → Int → Int → Int → Int → Hp → OR, (∀ (x0 x1 x2 x3 x4 x5 x6 x7 x8 x9 x10 x11 x12 : Int) (h : Hp), Sim Γ w rt (self x0 x1 x2 x3 x4 x5 x6 x7 x8 x9 x10 x11 x12 h) h pc (L x0 x1 x2 x3 x4 x5 x6 x7 x8 x9 x10 x11 x12) []) → ∀ (x0 x1 x2 x3 x4 x5 x6 x7 x8 x9 x10 x11 x12 : Int) (h : Hp), Sim Γ w rt (F self x0 x1 x2 x3 x4 x5 x6 x7 x8 x9 x10 x11 x12 h) h pc (L x0 x1 x2 x3 x4 x5 x6 x7 x8 x9 x10 x11 x12) []) (n : Nat) : ∀ (x0 x1 x2 x3 x4 x5 x6 x7 x8 x9 x10 x11 x12 : Int) (h : Hp), Sim Γ w rt (lup13 F n x0 x1 x2 x3 x4 x5 x6 x7 x8 x9 x10 x11 x12 h) h pc (L x0 x1 x2 x3 x4 x5 x6 x7 x8 x9 x10 x11 x12) [] := by
  induction n with
  | zero => intro x0 x1 x2 x3 x4 x5 x6 x7 x8 x9 x10 x11 x12 h; exact S_none
  | succ n ih => exact k (lup13 F n) ih
def lup14 (F : (Int → Int → Int → Int → Int → Int → Int → Int → Int → Int → Int → Int → Int → Int → Hp → OR) → Int → Int → Int → Int → Int → Int → Int → Int → Int → Int → Int → Int → Int → Int → Hp → OR) : Nat → Int → Int → Int → Int → Int → Int → Int → Int → Int → Int → Int → Int → Int → Int → Hp → OR
  | 0 => fun _ _ _ _ _ _ _ _ _ _ _ _ _ _ _ => none
  | n + 1 => F (lup14 F n)
theorem S_lup14 {Γ : Cx} {w : Wd} {rt pc : Nat} {F : (Int → Int → Int → Int → Int → Int → Int → Int → Int → Int → Int → Int → Int → Int → Hp → OR) → Int → Int → Int → Int → Int → Int → Int → Int → Int → Int → Int → Int → Int → Int → Hp → OR} (L : Int → Int → Int → Int → Int → Int → Int → Int → Int → Int → Int → Int → Int → Int → List (Nat × AV)) (k : ∀ self : Int → Int → Int → Int → Int → Int → Int → Int → Int → Int → Int → Int → Int → Int → Hp → OR, (∀ (x0 x1 x2 x3 x4 x5 x6 x7 x8 x9 x10 x11 x12 x13 : Int) (h : Hp), Sim Γ w rt (self x0 x1 x2 x3 x4 x5 x6 x7 x8 x9 x10 x11 x12 x13 h) h pc (L x0 x1 x2 x3 x4 x5 x6 x7 x8 x9 x10 x11 x12 x13) []) → ∀ (x0 x1 x2 x3 x4 x5 x6 x7 x8 x9 x10 x11 x12 x13 : Int) (h : Hp), Sim Γ w rt (F self x0 x1 x2 x3 x4 x5 x6 x7 x8 x9 x10 x11 x12 x13 h) h pc (L x0 x1 x2 x3 x4 x5 x6 x7 x8 x9 x10 x11 x12 x13) []) (n : Nat) : ∀ (x0 x1 x2 x3 x4 x5 x6 x7 x8 x9 x10 x11 x12 x13 : Int) (h : Hp), Sim Γ w rt (lup14 F n x0 x1 x2 x3 x4 x5 x6 x7 x8 x9 x10 x11 x12 x13 h) h pc (L x0 x1 x2 x3 x4 x5 x6 x7 x8 x9 x10 x11 x12 x13) [] := by
  induction n with
  | zero => intro x0 x1 x2 x3 x4 x5 x6 x7 x8 x9 x10 x11 x12 x13 h; exact S_none
  | succ n ih => exact k (lup14 F n) ih
def FU : Nat := 1000000
