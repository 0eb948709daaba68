theorem Co_ineg {Γ : Cx} {cc : ByteArray} {nL : Nat} {own : String} {ret : Option FieldType} {rr : Room} (g : Gd Γ cc nL own ret rr) {w : Wd} {h : Hp} {kc ks : Nat} {Q : State → Prop} {pc : Nat} {ls : List (Nat × AV)} {st : List AV} {a : Int} (hd : decode cc pc = .ok (.ineg, 1)) (hr : inI (-a)) (k : Core Γ w h kc ks Q (pc + 1) ls (vI (-a) :: st)) : Core Γ w h kc ks Q pc ls (vI a :: st) := by
  obtain ⟨⟨l, b0, D, dA⟩, ⟨p, e, R, s, m, args, below, meth, c⟩, adE, NE⟩ := Γ
  obtain ⟨hx, hb, hml, hown, hts, hKU, hret, hlk, hNE, hRR⟩ := g
  intro o1 o2 o3 ad H locs la e1 e2 e3 e4 e5
  have k2 := k o1 o2 (okC hr (okT o3)) ad H locs la e1 e2 e3 e4 e5
  simp only [List.map_cons, toV, Int32.ofInt_neg] at k2 ⊢
  exact lv_ineg hx hb hd k2
theorem S_ineg {Γ : Cx} {cc : ByteArray} {nL : Nat} {own : String} {ret : Option FieldType} {rr : Room} (g : Gd Γ cc nL own ret rr) {w : Wd} {rt : Nat} {h : Hp} {pc : Nat} {ls : List (Nat × AV)} {st : List AV} {a : Int} {X : OR} (hd : decode cc pc = .ok (.ineg, 1)) (k : Sim Γ w rt X h (pc + 1) ls (vI (-a) :: st)) : Sim Γ w rt (chk (-a) X) h pc ls (vI a :: st) := by
  intro r h9 e
  obtain ⟨c1, e⟩ := chk_e e
  exact Co_ineg g hd c1 (k r h9 e)
theorem Co_acmp_ne {Γ : Cx} {cc : ByteArray} {nL : Nat} {own : String} {ret : Option FieldType} {rr : Room} (g : Gd Γ cc nL own ret rr) {w : Wd} {h : Hp} {kc ks : Nat} {Q : State → Prop} {pc : Nat} {ls : List (Nat × AV)} {st : List AV} {a b : Nat} {Sa Sb : ShT} {off : Int} {tgt : Nat} (hd : decode cc pc = .ok (.if_acmp .ne off, 3)) (ht : (pc : Int) + off = (tgt : Int)) (ha : At w a Sa) (hb0 : At w b Sb) (kt : ¬ (a = b) → Core Γ w h kc ks Q tgt ls st) (kf : a = b → Core Γ w h kc ks Q (pc + 3) ls st) : Core Γ w h kc ks Q pc ls (vP b :: vP a :: st) := by
  obtain ⟨⟨l, b0, D, dA⟩, ⟨p, e, R, s, m, args, below, meth, c⟩, adE, NE⟩ := Γ
  obtain ⟨hx, hb, hml, hown, hts, hKU, hret, hlk, hNE, hRR⟩ := g
  intro o1 o2 o3 ad H locs la e1 e2 e3 e4 e5
  have hc : rfN ad a = rfN ad b ↔ a = b := by
    constructor
    · intro q
      unfold rfN at q
      rw [if_neg (at_ne0 ha), if_neg (at_ne0 hb0)] at q
      have q := Option.some.inj q
      have := e3.1 (a - 16) (b - 16) _ _ (wsO_get (dA := dA) (ad := ad) (h := h) ha.1 ha.2.1) (wsO_get (dA := dA) (ad := ad) (h := h) hb0.1 hb0.2.1) q
      have := ha.1; have := hb0.1; omega
    · intro q; rw [q]
  exact lv_acmp_ne hx hb hd ht (fun q => kt (fun z => q (hc.mpr z)) o1 o2 (okT (okT o3)) ad H locs la e1 e2 e3 e4 e5) (fun q => kf (hc.mp q) o1 o2 (okT (okT o3)) ad H locs la e1 e2 e3 e4 e5)
theorem S_acmp_ne {Γ : Cx} {cc : ByteArray} {nL : Nat} {own : String} {ret : Option FieldType} {rr : Room} (g : Gd Γ cc nL own ret rr) {w : Wd} {rt : Nat} {h : Hp} {pc : Nat} {ls : List (Nat × AV)} {st : List AV} {a b : Nat} {Sa Sb : ShT} {off : Int} {tgt : Nat} {X Y : OR} (hd : decode cc pc = .ok (.if_acmp .ne off, 3)) (ht : (pc : Int) + off = (tgt : Int)) (ha : At w a Sa) (hb0 : At w b Sb) (kt : Sim Γ w rt X h tgt ls st) (kf : Sim Γ w rt Y h (pc + 3) ls st) : Sim Γ w rt (if a = b then Y else X) h pc ls (vP b :: vP a :: st) := fun r h9 e => Co_acmp_ne g hd ht ha hb0 (fun c => kt r h9 (if_f e c)) (fun c => kf r h9 (if_t e c))
def nmP (x : Nat) (f : Nat → OR) : OR := f x
theorem S_nmP {Γ : Cx} {w : Wd} {rt : Nat} {h : Hp} {pc : Nat} {ls : List (Nat × AV)} {st : List AV} {x : Nat} {f : Nat → OR} (k : ∀ y, Sim Γ w rt (f y) h pc ls (vP y :: st)) : Sim Γ w rt (nmP x f) h pc ls (vP x :: st) := k x
theorem S_ite {Γ : Cx} {w : Wd} {rt : Nat} {h : Hp} {pc : Nat} {ls : List (Nat × AV)} {st : List AV} {p : Prop} [Decidable p] {X Y : OR} (kt : p → Sim Γ w rt X h pc ls st) (kf : ¬ p → Sim Γ w rt Y h pc ls st) : Sim Γ w rt (if p then X else Y) h pc ls st := fun r h9 e => by
  by_cases c : p
  · exact kt c r h9 (if_t e c)
  · exact kf c r h9 (if_f e c)
theorem S_tabIn {Γ : Cx} {cc : ByteArray} {nL : Nat} {own : String} {ret : Option FieldType} {rr : Room} (g : Gd Γ cc nL own ret rr) {w : Wd} {rt : Nat} {h : Hp} {pc : Nat} {ls : List (Nat × AV)} {st : List AV} {dflt lo hi x off : Int} {offs : Array Int} {len tgt : Nat} {X : OR} (hd : decode cc pc = .ok (.tableswitch dflt lo hi offs, len)) (v : Int) (hv : x = v) (hx1 : ¬ v < lo) (hx2 : ¬ hi < v) (ho : offs[(v - lo).toNat]? = some off) (ht : (pc : Int) + off = (tgt : Int)) (k : Sim Γ w rt X h tgt ls st) : Sim Γ w rt X h pc ls (vI x :: st) := fun r h9 e => by subst hv; exact Co_tabIn g hd hx1 hx2 ho ht (k r h9 e)
theorem S_tabOut {Γ : Cx} {cc : ByteArray} {nL : Nat} {own : String} {ret : Option FieldType} {rr : Room} (g : Gd Γ cc nL own ret rr) {w : Wd} {rt : Nat} {h : Hp} {pc : Nat} {ls : List (Nat × AV)} {st : List AV} {dflt lo hi x : Int} {offs : Array Int} {len tgt : Nat} {X : OR} (hd : decode cc pc = .ok (.tableswitch dflt lo hi offs, len)) (hx1 : x < lo ∨ hi < x) (ht : (pc : Int) + dflt = (tgt : Int)) (k : Sim Γ w rt X h tgt ls st) : Sim Γ w rt X h pc ls (vI x :: st) := fun r h9 e => Co_tabOut g hd hx1 ht (k r h9 e)
def imax (a b : Int) : Int := if a < b then b else a
def imin (a b : Int) : Int := if b < a then b else a
def iabs (a : Int) : Int := if 0 ≤ a then a else 0 - a
theorem Co_mmax {Γ : Cx} {cc : ByteArray} {nL : Nat} {own : String} {ret : Option FieldType} {rr : Room} (g : Gd Γ cc nL own ret rr) {w : Wd} {h : Hp} {kc ks : Nat} {Q : State → Prop} {pc : Nat} {ls : List (Nat × AV)} {st : List AV} {a b : Int} {idx : Nat} (hd : decode cc pc = .ok (.invokestatic idx, 3)) (hl : Cond.methodLink own idx Lib.Math.max.name ∈ tblG) (hsta : Cond.static Lib.Math.max.name ∈ tblG) (hini : Cond.initialized "java/lang/Math" ∈ tblG) (hcw : Cond.code Lib.Math.max.name Lib.Math.max.code 2 (some .int) ∈ tblG) (hR : 1 ≤ rr.frames ∧ aw st + 13 ≤ rr.locals ∧ kc ≤ rr.cells ∧ ks ≤ rr.slots) (k : Core Γ w h kc ks Q (pc + 3) ls (vI (imax a b) :: st)) : Core Γ w h kc ks Q pc ls (vI b :: vI a :: st) := by
  obtain ⟨⟨l, b0, D, dA⟩, ⟨p, e, R, s, m, args, below, meth, c⟩, adE, NE⟩ := Γ
  obtain ⟨hx, hb, hml, hown, hts, hKU, hret, hlk, hNE, hRR⟩ := g
  intro o1 o2 o3 ad H locs la e1 e2 e3 e4 e5
  have h2 : inI b := okD o3
  have h1 : inI a := okD (okT o3)
  have k2 := k o1 o2 (okC (by unfold imax; show inI _; split; exact h2; exact h1) (okT (okT o3))) ad H locs la e1 e2 e3 e4 e5
  subst hRR
  have hv : Int32.ofInt (imax a b) = if Int32.ofInt a < Int32.ofInt b then Int32.ofInt b else Int32.ofInt a := by
    unfold imax
    by_cases q : a < b
    · rw [if_pos q, if_pos ((ltI h1 h2).mpr q)]
    · rw [if_neg q, if_neg (fun z => q ((ltI h1 h2).mp z))]
  simp only [List.map_cons, toV, hv] at k2 ⊢
  exact va_mmax hx hb e5.1.symm hown (hts _ hl) (hts _ hsta) (hts _ hini) (hts _ hcw) hR.1 (by rw [aw_cat]; exact hR.2.1) hR.2.2.1 hR.2.2.2 hd k2
theorem Co_mmin {Γ : Cx} {cc : ByteArray} {nL : Nat} {own : String} {ret : Option FieldType} {rr : Room} (g : Gd Γ cc nL own ret rr) {w : Wd} {h : Hp} {kc ks : Nat} {Q : State → Prop} {pc : Nat} {ls : List (Nat × AV)} {st : List AV} {a b : Int} {idx : Nat} (hd : decode cc pc = .ok (.invokestatic idx, 3)) (hl : Cond.methodLink own idx Lib.Math.min.name ∈ tblG) (hsta : Cond.static Lib.Math.min.name ∈ tblG) (hini : Cond.initialized "java/lang/Math" ∈ tblG) (hcw : Cond.code Lib.Math.min.name Lib.Math.min.code 2 (some .int) ∈ tblG) (hR : 1 ≤ rr.frames ∧ aw st + 13 ≤ rr.locals ∧ kc ≤ rr.cells ∧ ks ≤ rr.slots) (k : Core Γ w h kc ks Q (pc + 3) ls (vI (imin a b) :: st)) : Core Γ w h kc ks Q pc ls (vI b :: vI a :: st) := by
  obtain ⟨⟨l, b0, D, dA⟩, ⟨p, e, R, s, m, args, below, meth, c⟩, adE, NE⟩ := Γ
  obtain ⟨hx, hb, hml, hown, hts, hKU, hret, hlk, hNE, hRR⟩ := g
  intro o1 o2 o3 ad H locs la e1 e2 e3 e4 e5
  have h2 : inI b := okD o3
  have h1 : inI a := okD (okT o3)
  have k2 := k o1 o2 (okC (by unfold imin; show inI _; split; exact h2; exact h1) (okT (okT o3))) ad H locs la e1 e2 e3 e4 e5
  subst hRR
  have hv : Int32.ofInt (imin a b) = if Int32.ofInt b < Int32.ofInt a then Int32.ofInt b else Int32.ofInt a := by
    unfold imin
    by_cases q : b < a
    · rw [if_pos q, if_pos ((ltI h2 h1).mpr q)]
    · rw [if_neg q, if_neg (fun z => q ((ltI h2 h1).mp z))]
  simp only [List.map_cons, toV, hv] at k2 ⊢
  exact va_mmin hx hb e5.1.symm hown (hts _ hl) (hts _ hsta) (hts _ hini) (hts _ hcw) hR.1 (by rw [aw_cat]; exact hR.2.1) hR.2.2.1 hR.2.2.2 hd k2
theorem Co_mabs {Γ : Cx} {cc : ByteArray} {nL : Nat} {own : String} {ret : Option FieldType} {rr : Room} (g : Gd Γ cc nL own ret rr) {w : Wd} {h : Hp} {kc ks : Nat} {Q : State → Prop} {pc : Nat} {ls : List (Nat × AV)} {st : List AV} {a : Int} {idx : Nat} (hd : decode cc pc = .ok (.invokestatic idx, 3)) (hl : Cond.methodLink own idx Lib.Math.abs.name ∈ tblG) (hsta : Cond.static Lib.Math.abs.name ∈ tblG) (hini : Cond.initialized "java/lang/Math" ∈ tblG) (hcw : Cond.code Lib.Math.abs.name Lib.Math.abs.code 1 (some .int) ∈ tblG) (hR : 1 ≤ rr.frames ∧ aw st + 13 ≤ rr.locals ∧ kc ≤ rr.cells ∧ ks ≤ rr.slots) (hr : inI (iabs a)) (k : Core Γ w h kc ks Q (pc + 3) ls (vI (iabs a) :: st)) : Core Γ w h kc ks Q pc ls (vI a :: st) := by
  obtain ⟨⟨l, b0, D, dA⟩, ⟨p, e, R, s, m, args, below, meth, c⟩, adE, NE⟩ := Γ
  obtain ⟨hx, hb, hml, hown, hts, hKU, hret, hlk, hNE, hRR⟩ := g
  intro o1 o2 o3 ad H locs la e1 e2 e3 e4 e5
  have h1 : inI a := okD o3
  have k2 := k o1 o2 (okC hr (okT o3)) ad H locs la e1 e2 e3 e4 e5
  subst hRR
  have hv : Int32.ofInt (iabs a) = if 0 ≤ Int32.ofInt a then Int32.ofInt a else 0 - Int32.ofInt a := by
    have hz : (0 : Int32) ≤ Int32.ofInt a ↔ 0 ≤ a := leI inI_0 h1
    unfold iabs
    by_cases q : 0 ≤ a
    · rw [if_pos q, if_pos (hz.mpr q)]
    · rw [if_neg q, if_neg (fun z => q (hz.mp z)), Int32.ofInt_sub]; rfl
  simp only [List.map_cons, toV, hv] at k2 ⊢
  exact va_mabs hx hb e5.1.symm hown (hts _ hl) (hts _ hsta) (hts _ hini) (hts _ hcw) hR.1 (by rw [aw_cat]; exact hR.2.1) hR.2.2.1 hR.2.2.2 hd k2
theorem S_mmax {Γ : Cx} {cc : ByteArray} {nL : Nat} {own : String} {ret : Option FieldType} {dr : Nat} (g : Gd Γ cc nL own ret (rmd dr)) {w : Wd} {rt : Nat} {h : Hp} {pc : Nat} {ls : List (Nat × AV)} {st : List AV} {a b : Int} {idx : Nat} {X : OR} (hd : decode cc pc = .ok (.invokestatic idx, 3)) (hl : Cond.methodLink own idx Lib.Math.max.name ∈ tblG) (hsta : Cond.static Lib.Math.max.name ∈ tblG) (hini : Cond.initialized "java/lang/Math" ∈ tblG) (hcw : Cond.code Lib.Math.max.name Lib.Math.max.code 2 (some .int) ∈ tblG) (hR : 1 ≤ dr) (hroom : aw st ≤ 8) (k : Sim Γ w rt X h (pc + 3) ls (vI (imax a b) :: st)) : Sim Γ w rt X h pc ls (vI b :: vI a :: st) := fun r h9 e => Co_mmax g hd hl hsta hini hcw ⟨hR, by show aw st + 13 ≤ 100 * dr; omega, Nat.le_refl _, Nat.le_refl _⟩ (k r h9 e)
theorem S_mmin {Γ : Cx} {cc : ByteArray} {nL : Nat} {own : String} {ret : Option FieldType} {dr : Nat} (g : Gd Γ cc nL own ret (rmd dr)) {w : Wd} {rt : Nat} {h : Hp} {pc : Nat} {ls : List (Nat × AV)} {st : List AV} {a b : Int} {idx : Nat} {X : OR} (hd : decode cc pc = .ok (.invokestatic idx, 3)) (hl : Cond.methodLink own idx Lib.Math.min.name ∈ tblG) (hsta : Cond.static Lib.Math.min.name ∈ tblG) (hini : Cond.initialized "java/lang/Math" ∈ tblG) (hcw : Cond.code Lib.Math.min.name Lib.Math.min.code 2 (some .int) ∈ tblG) (hR : 1 ≤ dr) (hroom : aw st ≤ 8) (k : Sim Γ w rt X h (pc + 3) ls (vI (imin a b) :: st)) : Sim Γ w rt X h pc ls (vI b :: vI a :: st) := fun r h9 e => Co_mmin g hd hl hsta hini hcw ⟨hR, by show aw st + 13 ≤ 100 * dr; omega, Nat.le_refl _, Nat.le_refl _⟩ (k r h9 e)
theorem S_mabs {Γ : Cx} {cc : ByteArray} {nL : Nat} {own : String} {ret : Option FieldType} {dr : Nat} (g : Gd Γ cc nL own ret (rmd dr)) {w : Wd} {rt : Nat} {h : Hp} {pc : Nat} {ls : List (Nat × AV)} {st : List AV} {a : Int} {idx : Nat} {X : OR} (hd : decode cc pc = .ok (.invokestatic idx, 3)) (hl : Cond.methodLink own idx Lib.Math.abs.name ∈ tblG) (hsta : Cond.static Lib.Math.abs.name ∈ tblG) (hini : Cond.initialized "java/lang/Math" ∈ tblG) (hcw : Cond.code Lib.Math.abs.name Lib.Math.abs.code 1 (some .int) ∈ tblG) (hR : 1 ≤ dr) (hroom : aw st ≤ 8) (k : Sim Γ w rt X h (pc + 3) ls (vI (iabs a) :: st)) : Sim Γ w rt (chk (iabs a) X) h pc ls (vI a :: st) := fun r h9 e => by
  obtain ⟨c1, e⟩ := chk_e e
  exact Co_mabs g hd hl hsta hini hcw ⟨hR, by show aw st + 13 ≤ 100 * dr; omega, Nat.le_refl _, Nat.le_refl _⟩ c1 (k r h9 e)
/-! kinds of objects of which there are several -/
def isPl (w : Wd) (p : Nat) : Prop := At w p (1, 7, 0) ∧ w.2.2 p 4 = p + 1 ∧ w.2.2 p 5 = p + 2 ∧ w.2.2 p 6 = p + 3 ∧ w.2.2 p 7 = p + 4 ∧ At w (p + 1) (2, 0, 48) ∧ At w (p + 2) (2, 0, 144) ∧ At w (p + 3) (2, 0, 6) ∧ At w (p + 4) (2, 0, 48)
def isNt (w : Wd) (n : Nat) : Prop := At w n (1, 5, 0) ∧ w.2.2 n 0 = n + 1 ∧ w.2.2 n 2 = n + 6 ∧ w.2.2 n 3 = n + 7 ∧ w.2.2 n 4 = n + 8 ∧ w.2.2 n 5 = n + 9 ∧ isPl w (n + 1) ∧ At w (n + 6) (2, 0, 40) ∧ At w (n + 7) (2, 1, 48) ∧ At w (n + 8) (2, 1, 192) ∧ At w (n + 9) (2, 0, 48)
def isTp (w : Wd) (t : Nat) : Prop := At w t (1, 9, 0) ∧ w.2.2 t 2 = t + 1 ∧ w.2.2 t 3 = t + 2 ∧ At w (t + 1) (2, 1, 256) ∧ isPl w (t + 2)
theorem ci_Cases : CI 0 R_Cases T_Cases 4 ty_Cases := ⟨rfl, rfl, in_Cases, tyk_Cases, nm_Cases⟩
theorem ci_Finder : CI 1 R_Finder T_Finder 14 ty_Finder := ⟨rfl, rfl, in_Finder, tyk_Finder, nm_Finder⟩
theorem ci_Journal : CI 2 R_Journal T_Journal 8 ty_Journal := ⟨rfl, rfl, in_Journal, tyk_Journal, nm_Journal⟩
theorem ci_Marks : CI 3 R_Marks T_Marks 9 ty_Marks := ⟨rfl, rfl, in_Marks, tyk_Marks, nm_Marks⟩
theorem ci_Mender : CI 4 R_Mender T_Mender 15 ty_Mender := ⟨rfl, rfl, in_Mender, tyk_Mender, nm_Mender⟩
theorem ci_Net : CI 5 R_Net T_Net 7 ty_Net := ⟨rfl, rfl, in_Net, tyk_Net, nm_Net⟩
theorem ci_Patch : CI 6 R_Patch T_Patch 15 ty_Patch := ⟨rfl, rfl, in_Patch, tyk_Patch, nm_Patch⟩
theorem ci_Plan : CI 7 R_Plan T_Plan 8 ty_Plan := ⟨rfl, rfl, in_Plan, tyk_Plan, nm_Plan⟩
theorem ci_Spares : CI 8 R_Spares T_Spares 6 ty_Spares := ⟨rfl, rfl, in_Spares, tyk_Spares, nm_Spares⟩
theorem ci_Tape : CI 9 R_Tape T_Tape 4 ty_Tape := ⟨rfl, rfl, in_Tape, tyk_Tape, nm_Tape⟩
theorem ci_GP : CI 10 R_GP T_GP 16 ty_GP := ⟨rfl, rfl, in_GP, tyk_GP, nm_GP⟩
theorem ci_Mod : CI 11 R_Mod T_Mod 82 ty_Mod := ⟨rfl, rfl, in_Mod, tyk_Mod, nm_Mod⟩
