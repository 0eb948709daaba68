/-- the law's own script -/
def LX (Γ : Cx) (L : Nat) (xs : Nat → Int32) : Prop := match Γ with
  | ((_, b0, _, _), (_, _, _, s, _, _, _, _, _), adE, _) => va_X (adE 4) L xs s s.heap ∧ adE 4 < s.heap.size ∧ adE 4 < b0
theorem Co_sld {Γ : Cx} {cc : ByteArray} {nL : Nat} {own : String} {ret : Option FieldType} {rr : Room} (g : Gd Γ cc nL own ret rr) {L : Nat} {xs : Nat → Int32} (gl : LX Γ L xs) {w : Wd} {h : Hp} {kc ks : Nat} {Q : State → Prop} {pc : Nat} {ls : List (Nat × AV)} {st : List AV} {i : Int} (hd : decode cc pc = .ok (.iaload, 1)) (h0 : 0 ≤ i) (h1 : i < L) (kk : Core Γ w h kc ks Q (pc + 1) ls (vI (xs i.toNat).toInt :: st)) : Core Γ w h kc ks Q pc ls (vI i :: vP 4 :: st) := by
  obtain ⟨⟨l, b0, D, dA⟩, ⟨p, e, R, s, m, args, below, meth, c⟩, adE, NE⟩ := Γ
  obtain ⟨hx, hb, hml, hown, hts, hKU, hret, hlk, hNE, hRR⟩ := g
  obtain ⟨hX, hbl, hb0⟩ := gl
  intro o1 o2 o3 ad H locs la e1 e2 e3 e4 e5
  have hi : inI i := okD o3
  have k2 := kk o1 o2 (okC (inI_t _) (okT (okT o3))) ad H locs la e1 e2 e3 e4 e5
  rw [← e1 4 (hNE _ (by omega))] at hX hbl hb0
  have hv : toV ad (vI (xs i.toNat).toInt) = .int (xs (Int32.ofInt i).toNatClampNeg) := by
    rw [clampI hi]
    show Value.int (Int32.ofInt (xs i.toNat).toInt) = _
    rw [Int32.ofInt_toInt]
  rw [List.map_cons, hv] at k2
  have hr : toV ad (vP 4) = .ref (ad 4) := rf_ne (a := 4) ad (by decide)
  rw [List.map_cons, List.map_cons, hr]
  exact va_sld hx hb hX hbl (fun z => absurd z (by show ¬ b0 ≤ ad 4; omega)) e4 (i := Int32.ofInt i) (vpI hi h0 h1) hd k2
theorem Co_slen {Γ : Cx} {cc : ByteArray} {nL : Nat} {own : String} {ret : Option FieldType} {rr : Room} (g : Gd Γ cc nL own ret rr) {L : Nat} {xs : Nat → Int32} (gl : LX Γ L xs) (hL : L ≤ 3072) {w : Wd} {h : Hp} {kc ks : Nat} {Q : State → Prop} {pc : Nat} {ls : List (Nat × AV)} {st : List AV} (hd : decode cc pc = .ok (.arraylength, 1)) (kk : Core Γ w h kc ks Q (pc + 1) ls (vI (L : Int) :: st)) : Core Γ w h kc ks Q pc ls (vP 4 :: st) := by
  obtain ⟨⟨l, b0, D, dA⟩, ⟨p, e, R, s, m, args, below, meth, c⟩, adE, NE⟩ := Γ
  obtain ⟨hx, hb, hml, hown, hts, hKU, hret, hlk, hNE, hRR⟩ := g
  obtain ⟨hX, hbl, hb0⟩ := gl
  intro o1 o2 o3 ad H locs la e1 e2 e3 e4 e5
  have k2 := kk o1 o2 (okC ⟨by show -2147483648 ≤ (L : Int); omega, by show (L : Int) < 2147483648; omega⟩ (okT o3)) ad H locs la e1 e2 e3 e4 e5
  rw [← e1 4 (hNE _ (by omega))] at hX hbl hb0
  have hv : toV ad (vI (L : Int)) = .int (Int32.ofNat L) := by
    show Value.int (Int32.ofInt (L : Int)) = _
    rw [Int32.ofInt_eq_ofNat]
  rw [List.map_cons, hv] at k2
  have hr : toV ad (vP 4) = .ref (ad 4) := rf_ne (a := 4) ad (by decide)
  rw [List.map_cons, hr]
  exact va_slen hx hb hX hbl (fun z => absurd z (by show ¬ b0 ≤ ad 4; omega)) e4 hd k2
/-- one element of the script is loaded: aload_0, iload 4, (a number, iadd), iaload -/
abbrev LSt (i : Int) : List (Nat × AV) := [(4, vI i), (3, vP 206), (2, vP 143), (1, vP 16), (0, vP 4)]
/-- the script's ints, as the law reads them -/
abbrev xi (xs : Nat → Int32) (j : Nat) : Int := (xs j).toInt
theorem GX_l {Γ : Cx} {sa : Nat → Nat} (gx : GX Γ sa) : Γ.1.1.stackTraces = false := by
  obtain ⟨⟨l, b0, D, dA⟩, ⟨p, e, R, s, m, args, below, meth, c⟩, adE, NE⟩ := Γ
  exact gx.1
theorem Core_ok {Γ : Cx} {w : Wd} {h : Hp} {kc ks : Nat} {Q : State → Prop} {pc : Nat} {ls : List (Nat × AV)} {st : List AV} (k : okH w h → Core Γ w h kc ks Q pc ls st) : Core Γ w h kc ks Q pc ls st := by
  obtain ⟨⟨l, b0, D, dA⟩, ⟨p, e, R, s, m, args, below, meth, c⟩, adE, NE⟩ := Γ
  intro o1
  exact k o1 o1
theorem Co_widen {Γ : Cx} {w : Wd} {h : Hp} {kc ks kc2 ks2 : Nat} {Q : State → Prop} {pc : Nat} {ls : List (Nat × AV)} {st : List AV} (h1 : kc ≤ kc2) (h2 : ks ≤ ks2) (k : Core Γ w h kc2 ks2 Q pc ls st) : Core Γ w h kc ks Q pc ls st := by
  obtain ⟨⟨l, b0, D, dA⟩, ⟨p, e, R, s, m, args, below, meth, c⟩, adE, NE⟩ := Γ
  intro o1 o2 o3 ad H locs la e1 e2 e3 e4 e5
  exact W.widen h1 h2 (k o1 o2 o3 ad H locs la e1 e2 e3 e4 e5)
theorem tape_in {w : Wd} (hw : okX w) {h : Hp} (o : okH w h) : ∀ d, d < 6 → ∀ i, i < 256 → inJ (h (101 + 7 * d + 1) i) := by
  intro d hd i _
  have hlt : 101 + 7 * d + 1 < w.1 := Nat.lt_of_lt_of_le (by omega) hw.1.1
  have ho := o (101 + 7 * d + 1) (by omega) hlt i
  rw [(hw.1.2 (101 + 7 * d + 1) (by omega) (by omega)).1] at ho
  rcases (by omega : d = 0 ∨ d = 1 ∨ d = 2 ∨ d = 3 ∨ d = 4 ∨ d = 5) with rfl | rfl | rfl | rfl | rfl | rfl <;> exact ho
/-- a call of the class or of the model, in the law's frame -/
theorem Lw_callV {Γ : Cx} {cc : ByteArray} {nL : Nat} {own : String} {ret : Option FieldType} (g : Gd Γ cc nL own ret room_1) {w : Wd} {h : Hp} {kc ks : Nat} {Q : State → Prop} {pc : Nat} {ls : List (Nat × AV)} {st : List AV} {y : MethodName} {bytes : ByteArray} {maxL d rt idx b ci n N : Nat} {T : u_T} {ret' : Option FieldType} {As S : List AV} {Y : OR} {r : Int} {h' : Hp} (hd : decode cc pc = .ok (.invokevirtual idx, 3)) (hC : SC Γ.1 w y (Cond.code y bytes maxL ret') d rt (vP b :: As) Y h) (e : Y = some (r, h')) (hst : S = As.reverse ++ vP b :: st) (hs : At w b (1, ci, n)) (hc : clT[ci]? = some (y.cls, T, N)) (him : Cond.instanceMethod y ∈ tblG) (hse : Cond.selects y.cls y y ∈ tblG) (hcw : Cond.code y bytes maxL ret' ∈ tblG) (hml1 : Cond.methodLink own idx y ∈ tblG) (hini : Cond.initialized y.cls ∈ tblG) (hd3 : y.cls ≠ "java/lang/invoke/MethodHandle" ∧ y.cls ≠ "java/lang/invoke/VarHandle" ∧ (parseMethodDescriptor y.desc).map (fun d => d.parameters.length) = some As.length) (hR : d < 100 ∧ maxL ≤ 81) (hk : kc ≤ room_1.cells ∧ ks ≤ room_1.slots) (hroom : aw st ≤ 8) (k : Core Γ w h' kc ks Q (pc + 3) ls ((rtV rt r).toList ++ st)) : Core Γ w h kc ks Q pc ls S := by
  exact Co_callV g hd (hC r h' e) hst hs hc him hse hcw hml1 hini hd3 ⟨by show d + 1 ≤ 2048; omega, by show 8 + (maxL + 11) + 100 * d ≤ 84000; omega⟩ hk hroom (fun _ _ => trivial) (fun q _ => by unfold refOk; split <;> trivial) (fun q _ => by unfold refOk; split <;> trivial) k
