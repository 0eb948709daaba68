/-! THE ABSTRACT MACHINE: contents are whole numbers, addresses are codes (0 null, 1..15 statics, from 16 on the made cells) -/
abbrev Hp : Type := Nat → Nat → Int
abbrev AV : Type := Int ⊕ Int ⊕ Nat
abbrev vI (x : Int) : AV := Sum.inl x
abbrev vJ (x : Int) : AV := Sum.inr (Sum.inl x)
abbrev vP (a : Nat) : AV := Sum.inr (Sum.inr a)
abbrev ShT : Type := Nat × Nat × Nat
abbrev Wd : Type := Nat × (Nat → ShT) × (Nat → Nat → Nat)
def inI (x : Int) : Prop := -2147483648 ≤ x ∧ x < 2147483648
def inJ (x : Int) : Prop := -9223372036854775808 ≤ x ∧ x < 9223372036854775808
def isZ (x : Int) : Prop := x = 0 ∨ x = 1
def okV : AV → Prop
  | .inl x => inI x
  | .inr (.inl x) => inJ x
  | .inr (.inr _) => True
def isJ : AV → Bool
  | .inr (.inl _) => true
  | _ => false
def rfN (ad : Nat → Nat) (a : Nat) : Option Nat := if a = 0 then none else some (ad a)
def toV (ad : Nat → Nat) : AV → Value
  | .inl x => .int (Int32.ofInt x)
  | .inr (.inl x) => .long (Int64.ofInt x)
  | .inr (.inr a) => va_rf (rfN ad a)
def ft (ci i : Nat) : Nat := (ftL.getD ci []).getD i 9
def nF (ci : Nat) : Nat := (ftL.getD ci []).length
def fV (ad : Nat → Nat) (t : Nat) (x : Int) (r : Nat) : Value := if t = 2 then va_rf (rfN ad r) else if t = 1 then .long (Int64.ofInt x) else .int (Int32.ofInt x)
def cnt (ad : Nat → Nat) (t : Nat) (f : Nat → Int) : (Nat → Int32) ⊕ (Nat → Int64) ⊕ (Nat → UInt32) ⊕ (Nat → UInt64) ⊕ (Nat → Option Nat) :=
  if t = 1 then .inr (.inl (fun j => Int64.ofInt (f j))) else if 4 ≤ t then .inr (.inr (.inr (.inr (fun j => rfN ad (f j).toNat)))) else .inl (fun j => Int32.ofInt (f j))
def cE (dA : Nat → ClassId) (ad : Nat → Nat) (w : Wd) (h : Hp) (a : Nat) : va_E :=
  if (w.2.1 a).1 = 1 then .inr ((w.2.1 a).2.1, (List.range (nF (w.2.1 a).2.1)).map (fun i => fV ad (ft (w.2.1 a).2.1 i) (h a i) (w.2.2 a i)))
  else .inl (dA (w.2.1 a).2.1, (w.2.1 a).2.2, cnt ad (w.2.1 a).2.1 (h a))
def wsO (dA : Nat → ClassId) (ad : Nat → Nat) (w : Wd) (h : Hp) : va_W := (List.range (w.1 - 16)).map (fun j => (ad (j + 16), cE dA ad w h (j + 16)))
def tysO (dA : Nat → ClassId) : List (ClassId × FieldType) := [(dA 0, .int), (dA 1, .long), (dA 2, .byte), (dA 3, .boolean), (dA 4, .object "GatePatch$Plan"), (dA 5, .object "GatePatch$Tape")]
def okS (S : ShT) (i : Nat) (v : Int) : Prop :=
  if S.1 = 1 then (if ft S.2.1 i = 1 then inJ v else if ft S.2.1 i = 2 then True else if ft S.2.1 i = 3 then isZ v else inI v)
  else (if S.2.1 = 1 then inJ v else if S.2.1 = 3 then isZ v else if 4 ≤ S.2.1 then True else inI v)
def okH (w : Wd) (h : Hp) : Prop := ∀ a, 16 ≤ a → a < w.1 → ∀ i, okS (w.2.1 a) i (h a i)
def At (w : Wd) (a : Nat) (S : ShT) : Prop := 16 ≤ a ∧ a < w.1 ∧ w.2.1 a = S
def wr (h : Hp) (a i : Nat) (v : Int) : Hp := fun b j => if b = a ∧ j = i then v else h b j
def cpy (h : Hp) (a i b j n : Nat) : Hp := fun x y => if x = b ∧ j ≤ y ∧ y < j + n then h a (i + (y - j)) else h x y
def pinC (j : Nat) : Int := ([1, 2, 2, 2, 2, 2, 3, 0, 0] : List Int).getD j 0
def cntC (j : Nat) : Int := ([-6148914691236517206, -3689348814741910324, -1085102592571150096, -71777214294589696, -281470681808896, -4294967296] : List Int).getD j 0
def prcC (j : Nat) : Int := ([0, 2, 2, 1, 2, 1, 3, 2, 2, 2, 2, 3, 2, 3, 2, 1, 2, 1, 3, 2, 3, 2, 4, 4, 3, 3, 3, 3, 3, 3, 2, 2, 2, 2, 2, 3, 3, 3, 3, 3, 2, 4, 2, 4, 3, 3, 3, 3, 2, 3, 2, 1, 3, 3, 2, 2, 3, 3, 3, 3, 1, 3, 4, 1, 2, 2, 3, 3, 2, 3, 3, 3, 2, 4, 3, 3, 2, 4, 3, 3, 2, 3, 3, 3, 2, 1, 2, 2, 3, 3, 1, 3, 3, 3, 4, 1, 2, 4, 3, 3, 3, 3, 1, 3, 4, 3, 2, 4, 2, 4, 4, 3, 2, 4, 3, 3, 3, 3, 4, 1, 2, 4, 4, 3, 4, 3, 3, 2, 2, 3, 3, 4, 3, 4, 4, 2, 1, 4, 3, 3, 3, 3, 4, 2, 3, 4, 4, 2, 4, 2, 2, 4, 3, 2, 3, 3, 3, 3, 4, 2, 1, 4, 3, 3, 3, 2, 3, 3, 2, 2, 0, 2, 3, 3, 3, 2, 3, 3, 4, 2, 3, 3, 4, 2, 3, 3, 3, 2, 3, 3, 2, 2, 1, 4, 3, 2, 3, 3, 3, 3, 2, 2, 3, 3, 0, 2, 3, 2, 3, 3, 3, 3, 4, 2, 4, 2, 3, 3, 3, 3, 3, 2, 2, 2, 2, 2, 3, 3, 3, 3, 3, 3, 4, 4, 2, 3, 2, 3, 1, 2, 0, 2, 3, 2, 3, 2, 2, 2, 2, 3, 1, 2, 1, 2, 2, 0] : List Int).getD j 0
abbrev GG : Type := Launch × Nat × va_G × (Nat → ClassId)
abbrev FF : Type := Program × Env × Room × State × MethodId × Array Value × List Frame × Method × Code
abbrev Cx : Type := GG × FF × (Nat → Nat) × (Nat → Prop)
def fA (b0 : Nat) : Nat → Prop := fun q => b0 ≤ q
def KS (b0 : Nat) (ad : Nat → Nat) (U : State) (H : Heap) : Prop :=
  va_Z "GatePatch" "PIN_COUNT" "[B" (.ref (ad 1)) (fA b0) U H ∧ va_T .byte (ad 1) 9 (fun j => .int (Int32.ofInt (pinC j))) (fA b0) U H ∧
  va_Z "GatePatch" "COUNTING" "[J" (.ref (ad 2)) (fA b0) U H ∧ va_T .long (ad 2) 6 (fun j => .long (Int64.ofInt (cntC j))) (fA b0) U H ∧
  va_Z "GatePatch$Functions" "PRICES" "[B" (.ref (ad 3)) (fA b0) U H ∧ va_T .byte (ad 3) 256 (fun j => .int (Int32.ofInt (prcC j))) (fA b0) U H
def NW : List Cond := [.methodLinkNest "GatePatch$Net" 11 ⟨"GatePatch$Plan", "<init>", "()V"⟩ "GatePatch", .methodLinkNest "GatePatch" 23 ⟨"GatePatch$Cases", "<init>", "()V"⟩ "GatePatch", .methodLinkNest "GatePatch" 48 ⟨"GatePatch$Marks", "<init>", "()V"⟩ "GatePatch", .methodLinkNest "GatePatch" 55 ⟨"GatePatch$Patch", "<init>", "()V"⟩ "GatePatch", .methodLinkNest "GatePatch" 62 ⟨"GatePatch$Spares", "<init>", "()V"⟩ "GatePatch", .methodLinkNest "GatePatch$Journal" 31 ⟨"GatePatch$Plan", "<init>", "()V"⟩ "GatePatch", .methodLinkNest "GatePatch" 87 ⟨"GatePatch$Tape", "<init>", "()V"⟩ "GatePatch", .methodLinkNest "GatePatch$Tape" 17 ⟨"GatePatch$Plan", "<init>", "()V"⟩ "GatePatch", .fieldLinkNest "GatePatch$Plan" 50 "GatePatch" "PIN_COUNT" "[B" "GatePatch", .fieldLinkNest "GatePatch$Net" 67 "GatePatch" "PIN_COUNT" "[B" "GatePatch", .fieldLinkNest "GatePatch$Net" 89 "GatePatch" "COUNTING" "[J" "GatePatch", .fieldLinkNest "GatePatch$Mender" 186 "GatePatch" "COUNTING" "[J" "GatePatch", .fieldLinkNest "GatePatch$Functions" 19 "GatePatch" "COUNTING" "[J" "GatePatch", .fieldLinkNest "GatePatch$Journal" 77 "GatePatch" "PIN_COUNT" "[B" "GatePatch"]
def KN (U : State) : Prop := ∀ c ∈ NW, va_Nw c U
theorem NW_on : ∀ c ∈ NW, c.onTables = true := List.all_eq_true.mp (by decide +kernel)
theorem KN.warm {s U : State} (hW : s.WarmedH U.vm) (k : KN s) : KN U := by
  intro c hc
  have h := k c hc
  simp only [NW, List.mem_cons, List.not_mem_nil, or_false] at hc
  rcases hc with rfl | rfl | rfl | rfl | rfl | rfl | rfl | rfl | rfl | rfl | rfl | rfl | rfl | rfl <;> first | exact va_Nw.warmF hW h | exact va_Nw.warmM hW h
theorem KN.same {u U : State} (h : u.vm = U.vm) (k : KN u) : KN U := fun c hc => va_Nw.same (NW_on c hc) h (k c hc)
theorem KN.use {A : Array Value} {U : State} {c : Cond} (k : KN U) (hc : c ∈ NW) : c.before A U = true := va_Nw.use (NW_on c hc) (k c hc)
def KU (G : GG) (ad : Nat → Nat) (U : State) : Prop := va_K G.2.2.1 clT (tysO G.2.2.2) U ∧ KS G.2.1 ad U U.heap ∧ G.2.1 ≤ U.heap.size ∧ KN U ∧ va_AO "GatePatch$Plan" U ∧ va_AO "GatePatch$Tape" U
def Gd (Γ : Cx) (cc : ByteArray) (nL : Nat) (own : String) (ret : Option FieldType) (rr : Room) : Prop := match Γ with
  | ((l, b0, D, dA), (p, e, R, s, m, args, below, meth, c), adE, NE) =>
    p.tables.exec = Jvm.exec ∧ c.code = cc ∧ c.maxLocals = nL ∧ s.vm.findClass own = some m.cls ∧ (∀ w ∈ tblG, w.before args s = true) ∧ KU (l, b0, D, dA) adE s ∧ meth.sig.returnType = ret ∧ meth.locks = false ∧ (∀ a, a < 16 → NE a) ∧ R = rr
def Core (Γ : Cx) (w : Wd) (h : Hp) (kc ks : Nat) (Q : State → Prop) (pc : Nat) (ls : List (Nat × AV)) (st : List AV) : Prop := match Γ with
  | ((l, b0, D, dA), (p, e, R, s, m, args, below, meth, c), adE, NE) =>
    okH w h → (∀ q ∈ ls, okV q.2) → (∀ v ∈ st, okV v) → ∀ (ad : Nat → Nat) (H : Heap) (locs : List Loc) (la : Array Slot), (∀ a, NE a → ad a = adE a) → va_P D clT (wsO dA ad w h) H → va_D (fA b0) (wsO dA ad w h) → va_S (fA b0) s.heap H locs → lv_has la c.maxLocals (ls.map fun q => (q.1, toV ad q.2)) →
      W p l e R s m args below meth c H locs kc ks Q (F0 m pc la (st.map (toV ad)))
theorem okC {v : AV} {st : List AV} (h1 : okV v) (h2 : ∀ x ∈ st, okV x) : ∀ x ∈ v :: st, okV x := fun x hx => by
  rcases List.mem_cons.mp hx with rfl | h
  · exact h1
  · exact h2 x h
theorem okT {v : AV} {st : List AV} (h : ∀ x ∈ v :: st, okV x) : ∀ x ∈ st, okV x := fun x hx => h x (List.mem_cons_of_mem _ hx)
theorem okD {v : AV} {st : List AV} (h : ∀ x ∈ v :: st, okV x) : okV v := h v List.mem_cons_self
theorem toI {x : Int} (h : inI x) : (Int32.ofInt x).toInt = x := Int32.toInt_ofInt_of_le h.1 h.2
theorem toJ {x : Int} (h : inJ x) : (Int64.ofInt x).toInt = x := Int64.toInt_ofInt_of_le h.1 h.2
theorem inI_t (x : Int32) : inI x.toInt := ⟨Int32.le_toInt x, Int32.toInt_lt x⟩
theorem inJ_t (x : Int64) : inJ x.toInt := ⟨Int64.le_toInt x, Int64.toInt_lt x⟩
theorem ltI {a b : Int} (ha : inI a) (hb : inI b) : Int32.ofInt a < Int32.ofInt b ↔ a < b := by rw [Int32.lt_iff_toInt_lt, toI ha, toI hb]
theorem leI {a b : Int} (ha : inI a) (hb : inI b) : Int32.ofInt a ≤ Int32.ofInt b ↔ a ≤ b := by rw [Int32.le_iff_toInt_le, toI ha, toI hb]
theorem eqI {a b : Int} (ha : inI a) (hb : inI b) : Int32.ofInt a = Int32.ofInt b ↔ a = b := by rw [← Int32.toInt_inj, toI ha, toI hb]
theorem ltJ {a b : Int} (ha : inJ a) (hb : inJ b) : Int64.ofInt a < Int64.ofInt b ↔ a < b := by rw [Int64.lt_iff_toInt_lt, toJ ha, toJ hb]
theorem eqJ {a b : Int} (ha : inJ a) (hb : inJ b) : Int64.ofInt a = Int64.ofInt b ↔ a = b := by rw [← Int64.toInt_inj, toJ ha, toJ hb]
theorem inI_0 : inI 0 := ⟨by decide, by decide⟩
theorem z0 : (0 : Int32) = Int32.ofInt 0 := rfl
-- the operations that are bitwise
def aand (a b : Int) : Int := (Int32.ofInt a &&& Int32.ofInt b).toInt
def aor (a b : Int) : Int := (Int32.ofInt a ||| Int32.ofInt b).toInt
def axor (a b : Int) : Int := (Int32.ofInt a ^^^ Int32.ofInt b).toInt
def ashl (a b : Int) : Int := (Int32.ofInt a <<< (Int32.ofInt b &&& 31)).toInt
def ashr (a b : Int) : Int := (Int32.ofInt a >>> (Int32.ofInt b &&& 31)).toInt
def aushr (a b : Int) : Int := ((Int32.ofInt a).toUInt32 >>> ((Int32.ofInt b).toUInt32 &&& Int32.toUInt32 31)).toInt32.toInt
def jand (a b : Int) : Int := (Int64.ofInt a &&& Int64.ofInt b).toInt
def jor (a b : Int) : Int := (Int64.ofInt a ||| Int64.ofInt b).toInt
def jxor (a b : Int) : Int := (Int64.ofInt a ^^^ Int64.ofInt b).toInt
def jshl (a b : Int) : Int := (Int64.ofInt a <<< ((Int32.ofInt b).toInt64 &&& 63)).toInt
def jshr (a b : Int) : Int := (Int64.ofInt a >>> ((Int32.ofInt b).toInt64 &&& 63)).toInt
def jushr (a b : Int) : Int := ((Int64.ofInt a).toUInt64 >>> ((Int32.ofInt b).toInt64.toUInt64 &&& Int64.toUInt64 63)).toInt64.toInt
def jsub (a b : Int) : Int := (Int64.ofInt a - Int64.ofInt b).toInt
def jadd (a b : Int) : Int := (Int64.ofInt a + Int64.ofInt b).toInt
def jneg (a : Int) : Int := (-Int64.ofInt a).toInt
def jcmp (a b : Int) : Int := if b < a then 1 else if a = b then 0 else -1
theorem jcmp_in (a b : Int) : inI (jcmp a b) := by
  unfold jcmp inI
  by_cases q : b < a
  · rw [if_pos q]; decide
  · rw [if_neg q]
    by_cases q2 : a = b
    · rw [if_pos q2]; decide
    · rw [if_neg q2]; decide
def al2i (a : Int) : Int := (Int64.ofInt a).toInt32.toInt
def ai2b (a : Int) : Int := (Int32.ofInt a).toInt8.toInt32.toInt
def ai2s (a : Int) : Int := (Int32.ofInt a).toInt16.toInt32.toInt
theorem cat1 (ad : Nat → Nat) {v : AV} (h : isJ v = false) : (toV ad v).category = 1 := by
  match v, h with
  | .inl _, _ => rfl
  | .inr (.inr a), _ =>
    show (va_rf (rfN ad a)).category = 1
    cases rfN ad a <;> rfl
theorem cat2 (ad : Nat → Nat) {v : AV} (h : isJ v = true) : (toV ad v).category = 2 := by
  match v, h with
  | .inr (.inl _), _ => rfl
theorem catB (ad : Nat → Nat) (v : AV) : ((toV ad v).category == 2) = isJ v := by
  cases h : isJ v
  · rw [cat1 ad h]; rfl
  · rw [cat2 ad h]; rfl
theorem rf_ne (ad : Nat → Nat) {a : Nat} (h : a ≠ 0) : va_rf (rfN ad a) = .ref (ad a) := by unfold rfN; rw [if_neg h]; rfl
theorem rf_0 (ad : Nat → Nat) : va_rf (rfN ad 0) = .null := rfl
def stL (i : Nat) (v : AV) (ls : List (Nat × AV)) : List (Nat × AV) := (i, v) :: ls.filter (fun q => !(q.1 == i) && !(q.1 + 1 == i && isJ q.2))
def stJ (i : Nat) (v : AV) (ls : List (Nat × AV)) : List (Nat × AV) := (i, v) :: ls.filter (fun q => !(q.1 == i) && (!(q.1 == i + 1) && !(q.1 + 1 == i && isJ q.2)))
theorem stL_map (ad : Nat → Nat) (i : Nat) (v : AV) (ls : List (Nat × AV)) : (i, toV ad v) :: (ls.map fun q => (q.1, toV ad q.2)).filter (fun q => !(q.1 == i) && !(q.1 + 1 == i && q.2.category == 2)) = (stL i v ls).map fun q => (q.1, toV ad q.2) := by
  unfold stL
  rw [List.map_cons, List.filter_map]
  congr 2
  apply List.filter_congr
  intro q _
  simp only [Function.comp, catB]
theorem stJ_map (ad : Nat → Nat) (i : Nat) (v : AV) (ls : List (Nat × AV)) : (i, toV ad v) :: (ls.map fun q => (q.1, toV ad q.2)).filter (fun q => !(q.1 == i) && (!(q.1 == i + 1) && !(q.1 + 1 == i && q.2.category == 2))) = (stJ i v ls).map fun q => (q.1, toV ad q.2) := by
  unfold stJ
  rw [List.map_cons, List.filter_map]
  congr 2
  apply List.filter_congr
  intro q _
  simp only [Function.comp, catB]
theorem stL_ok {i : Nat} {v : AV} {ls : List (Nat × AV)} (hv : okV v) (h : ∀ q ∈ ls, okV q.2) : ∀ q ∈ stL i v ls, okV q.2 := by
  intro q hq
  rcases List.mem_cons.mp hq with rfl | hq
  · exact hv
  · exact h q (List.mem_filter.mp hq).1
theorem stJ_ok {i : Nat} {v : AV} {ls : List (Nat × AV)} (hv : okV v) (h : ∀ q ∈ ls, okV q.2) : ∀ q ∈ stJ i v ls, okV q.2 := by
  intro q hq
  rcases List.mem_cons.mp hq with rfl | hq
  · exact hv
  · exact h q (List.mem_filter.mp hq).1
theorem lvm {ad : Nat → Nat} {ls : List (Nat × AV)} {k i : Nat} {v : AV} (h : ls[k]? = some (i, v)) : (ls.map fun q => (q.1, toV ad q.2))[k]? = some (i, toV ad v) := by rw [List.getElem?_map, h]; rfl
theorem lvo {ls : List (Nat × AV)} {k i : Nat} {v : AV} (o : ∀ q ∈ ls, okV q.2) (h : ls[k]? = some (i, v)) : okV v := o (i, v) (List.mem_of_getElem? h)
theorem Co_iconst {Γ : Cx} {cc : ByteArray} {nL : Nat} {own : String} {ret : Option FieldType} {rr : Room} (g : Gd Γ cc nL own ret rr) {w : Wd} {h : Hp} {kc ks : Nat} {Q : State → Prop} {pc : Nat} {ls : List (Nat × AV)} {st : List AV} {n : Int} (hd : decode cc pc = .ok (.iconst n, 1)) (hr : inI n) (k : Core Γ w h kc ks Q (pc + 1) ls (vI n :: st)) : Core Γ w h kc ks Q pc ls (st) := by
  obtain ⟨⟨l, b0, D, dA⟩, ⟨p, e, R, s, m, args, below, meth, c⟩, adE, NE⟩ := Γ
  obtain ⟨hx, hb, hml, hown, hts, hKU, hret, hlk, hNE, hRR⟩ := g
  intro o1 o2 o3 ad H locs la e1 e2 e3 e4 e5
  have k2 := k o1 o2 (okC hr o3) ad H locs la e1 e2 e3 e4 e5
  exact lv_iconst hx hb hd rfl k2
theorem Co_bipush {Γ : Cx} {cc : ByteArray} {nL : Nat} {own : String} {ret : Option FieldType} {rr : Room} (g : Gd Γ cc nL own ret rr) {w : Wd} {h : Hp} {kc ks : Nat} {Q : State → Prop} {pc : Nat} {ls : List (Nat × AV)} {st : List AV} {n : Int} (hd : decode cc pc = .ok (.bipush n, 2)) (hr : inI n) (hv : (Int8.ofInt n).toInt32 = Int32.ofInt n) (k : Core Γ w h kc ks Q (pc + 2) ls (vI n :: st)) : Core Γ w h kc ks Q pc ls (st) := by
  obtain ⟨⟨l, b0, D, dA⟩, ⟨p, e, R, s, m, args, below, meth, c⟩, adE, NE⟩ := Γ
  obtain ⟨hx, hb, hml, hown, hts, hKU, hret, hlk, hNE, hRR⟩ := g
  intro o1 o2 o3 ad H locs la e1 e2 e3 e4 e5
  have k2 := k o1 o2 (okC hr o3) ad H locs la e1 e2 e3 e4 e5
  exact lv_bipush hx hb hd hv k2
theorem Co_sipush {Γ : Cx} {cc : ByteArray} {nL : Nat} {own : String} {ret : Option FieldType} {rr : Room} (g : Gd Γ cc nL own ret rr) {w : Wd} {h : Hp} {kc ks : Nat} {Q : State → Prop} {pc : Nat} {ls : List (Nat × AV)} {st : List AV} {n : Int} (hd : decode cc pc = .ok (.sipush n, 3)) (hr : inI n) (hv : (Int16.ofInt n).toInt32 = Int32.ofInt n) (k : Core Γ w h kc ks Q (pc + 3) ls (vI n :: st)) : Core Γ w h kc ks Q pc ls (st) := by
  obtain ⟨⟨l, b0, D, dA⟩, ⟨p, e, R, s, m, args, below, meth, c⟩, adE, NE⟩ := Γ
  obtain ⟨hx, hb, hml, hown, hts, hKU, hret, hlk, hNE, hRR⟩ := g
  intro o1 o2 o3 ad H locs la e1 e2 e3 e4 e5
  have k2 := k o1 o2 (okC hr o3) ad H locs la e1 e2 e3 e4 e5
  exact lv_sipush hx hb hd hv k2
theorem Co_lconst {Γ : Cx} {cc : ByteArray} {nL : Nat} {own : String} {ret : Option FieldType} {rr : Room} (g : Gd Γ cc nL own ret rr) {w : Wd} {h : Hp} {kc ks : Nat} {Q : State → Prop} {pc : Nat} {ls : List (Nat × AV)} {st : List AV} {n : Fin 2} {x : Int} (hd : decode cc pc = .ok (.lconst n, 1)) (hr : inJ x) (hv : Int64.ofNat (n : Nat) = Int64.ofInt x) (k : Core Γ w h kc ks Q (pc + 1) ls (vJ x :: st)) : Core Γ w h kc ks Q pc ls (st) := by
  obtain ⟨⟨l, b0, D, dA⟩, ⟨p, e, R, s, m, args, below, meth, c⟩, adE, NE⟩ := Γ
  obtain ⟨hx, hb, hml, hown, hts, hKU, hret, hlk, hNE, hRR⟩ := g
  intro o1 o2 o3 ad H locs la e1 e2 e3 e4 e5
  have k2 := k o1 o2 (okC hr o3) ad H locs la e1 e2 e3 e4 e5
  exact lv_lconst hx hb hd hv k2
theorem Co_ldc {Γ : Cx} {cc : ByteArray} {nL : Nat} {own : String} {ret : Option FieldType} {rr : Room} (g : Gd Γ cc nL own ret rr) {w : Wd} {h : Hp} {kc ks : Nat} {Q : State → Prop} {pc : Nat} {ls : List (Nat × AV)} {st : List AV} {idx : Nat} {x : Int} (hd : decode cc pc = .ok (.ldc idx, 2)) (hr : inI x) (hw : Cond.constant own idx (Int32.ofInt x) ∈ tblG) (k : Core Γ w h kc ks Q (pc + 2) ls (vI x :: st)) : Core Γ w h kc ks Q pc ls (st) := by
  obtain ⟨⟨l, b0, D, dA⟩, ⟨p, e, R, s, m, args, below, meth, c⟩, adE, NE⟩ := Γ
  obtain ⟨hx, hb, hml, hown, hts, hKU, hret, hlk, hNE, hRR⟩ := g
  intro o1 o2 o3 ad H locs la e1 e2 e3 e4 e5
  have k2 := k o1 o2 (okC hr o3) ad H locs la e1 e2 e3 e4 e5
  exact lv_ldc hx hb hown (hts _ hw) hd k2
theorem Co_ldcw {Γ : Cx} {cc : ByteArray} {nL : Nat} {own : String} {ret : Option FieldType} {rr : Room} (g : Gd Γ cc nL own ret rr) {w : Wd} {h : Hp} {kc ks : Nat} {Q : State → Prop} {pc : Nat} {ls : List (Nat × AV)} {st : List AV} {idx : Nat} {x : Int} (hd : decode cc pc = .ok (.ldc_w idx, 3)) (hr : inI x) (hw : Cond.constant own idx (Int32.ofInt x) ∈ tblG) (k : Core Γ w h kc ks Q (pc + 3) ls (vI x :: st)) : Core Γ w h kc ks Q pc ls (st) := by
  obtain ⟨⟨l, b0, D, dA⟩, ⟨p, e, R, s, m, args, below, meth, c⟩, adE, NE⟩ := Γ
  obtain ⟨hx, hb, hml, hown, hts, hKU, hret, hlk, hNE, hRR⟩ := g
  intro o1 o2 o3 ad H locs la e1 e2 e3 e4 e5
  have k2 := k o1 o2 (okC hr o3) ad H locs la e1 e2 e3 e4 e5
  exact lv_ldcw hx hb hown (hts _ hw) hd k2
theorem Co_ldc2 {Γ : Cx} {cc : ByteArray} {nL : Nat} {own : String} {ret : Option FieldType} {rr : Room} (g : Gd Γ cc nL own ret rr) {w : Wd} {h : Hp} {kc ks : Nat} {Q : State → Prop} {pc : Nat} {ls : List (Nat × AV)} {st : List AV} {idx : Nat} {x : Int} (hd : decode cc pc = .ok (.ldc2_w idx, 3)) (hr : inJ x) (hw : Cond.constantLong own idx (Int64.ofInt x) ∈ tblG) (k : Core Γ w h kc ks Q (pc + 3) ls (vJ x :: st)) : Core Γ w h kc ks Q pc ls (st) := by
  obtain ⟨⟨l, b0, D, dA⟩, ⟨p, e, R, s, m, args, below, meth, c⟩, adE, NE⟩ := Γ
  obtain ⟨hx, hb, hml, hown, hts, hKU, hret, hlk, hNE, hRR⟩ := g
  intro o1 o2 o3 ad H locs la e1 e2 e3 e4 e5
  have k2 := k o1 o2 (okC hr o3) ad H locs la e1 e2 e3 e4 e5
  exact lv_ldc2 hx hb hown (hts _ hw) hd k2
theorem Co_null {Γ : Cx} {cc : ByteArray} {nL : Nat} {own : String} {ret : Option FieldType} {rr : Room} (g : Gd Γ cc nL own ret rr) {w : Wd} {h : Hp} {kc ks : Nat} {Q : State → Prop} {pc : Nat} {ls : List (Nat × AV)} {st : List AV}  (hd : decode cc pc = .ok (.aconst_null, 1))  (k : Core Γ w h kc ks Q (pc + 1) ls (vP 0 :: st)) : Core Γ w h kc ks Q pc ls (st) := by
  obtain ⟨⟨l, b0, D, dA⟩, ⟨p, e, R, s, m, args, below, meth, c⟩, adE, NE⟩ := Γ
  obtain ⟨hx, hb, hml, hown, hts, hKU, hret, hlk, hNE, hRR⟩ := g
  intro o1 o2 o3 ad H locs la e1 e2 e3 e4 e5
  have k2 := k o1 o2 (okC trivial o3) ad H locs la e1 e2 e3 e4 e5
  exact lv_null hx hb hd k2
theorem Co_iload_n {Γ : Cx} {cc : ByteArray} {nL : Nat} {own : String} {ret : Option FieldType} {rr : Room} (g : Gd Γ cc nL own ret rr) {w : Wd} {h : Hp} {kc ks : Nat} {Q : State → Prop} {pc : Nat} {ls : List (Nat × AV)} {st : List AV} {kk i : Nat} {j : Fin 4} {x : Int} (hd : decode cc pc = .ok (.iload_n j, 1)) (hi : (j : Nat) = i) (hl : ls[kk]? = some (i, vI x)) (k : Core Γ w h kc ks Q (pc + 1) ls (vI x :: st)) : Core Γ w h kc ks Q pc ls (st) := by
  obtain ⟨⟨l, b0, D, dA⟩, ⟨p, e, R, s, m, args, below, meth, c⟩, adE, NE⟩ := Γ
  obtain ⟨hx, hb, hml, hown, hts, hKU, hret, hlk, hNE, hRR⟩ := g
  intro o1 o2 o3 ad H locs la e1 e2 e3 e4 e5
  have k2 := k o1 o2 (okC (lvo o2 hl) o3) ad H locs la e1 e2 e3 e4 e5
  exact lv_iload_n hx hb hd hi (lv_at e5 kk (lvm hl)) k2
theorem Co_iload {Γ : Cx} {cc : ByteArray} {nL : Nat} {own : String} {ret : Option FieldType} {rr : Room} (g : Gd Γ cc nL own ret rr) {w : Wd} {h : Hp} {kc ks : Nat} {Q : State → Prop} {pc : Nat} {ls : List (Nat × AV)} {st : List AV} {kk i : Nat} {x : Int} (hd : decode cc pc = .ok (.iload i, 2)) (hl : ls[kk]? = some (i, vI x)) (k : Core Γ w h kc ks Q (pc + 2) ls (vI x :: st)) : Core Γ w h kc ks Q pc ls (st) := by
  obtain ⟨⟨l, b0, D, dA⟩, ⟨p, e, R, s, m, args, below, meth, c⟩, adE, NE⟩ := Γ
  obtain ⟨hx, hb, hml, hown, hts, hKU, hret, hlk, hNE, hRR⟩ := g
  intro o1 o2 o3 ad H locs la e1 e2 e3 e4 e5
  have k2 := k o1 o2 (okC (lvo o2 hl) o3) ad H locs la e1 e2 e3 e4 e5
  exact lv_iload hx hb hd (lv_at e5 kk (lvm hl)) k2
theorem Co_lload_n {Γ : Cx} {cc : ByteArray} {nL : Nat} {own : String} {ret : Option FieldType} {rr : Room} (g : Gd Γ cc nL own ret rr) {w : Wd} {h : Hp} {kc ks : Nat} {Q : State → Prop} {pc : Nat} {ls : List (Nat × AV)} {st : List AV} {kk i : Nat} {j : Fin 4} {x : Int} (hd : decode cc pc = .ok (.lload_n j, 1)) (hi : (j : Nat) = i) (hl : ls[kk]? = some (i, vJ x)) (k : Core Γ w h kc ks Q (pc + 1) ls (vJ x :: st)) : Core Γ w h kc ks Q pc ls (st) := by
  obtain ⟨⟨l, b0, D, dA⟩, ⟨p, e, R, s, m, args, below, meth, c⟩, adE, NE⟩ := Γ
  obtain ⟨hx, hb, hml, hown, hts, hKU, hret, hlk, hNE, hRR⟩ := g
  intro o1 o2 o3 ad H locs la e1 e2 e3 e4 e5
  have k2 := k o1 o2 (okC (lvo o2 hl) o3) ad H locs la e1 e2 e3 e4 e5
  exact lv_lload_n hx hb hd hi (lv_at e5 kk (lvm hl)) k2
theorem Co_lload {Γ : Cx} {cc : ByteArray} {nL : Nat} {own : String} {ret : Option FieldType} {rr : Room} (g : Gd Γ cc nL own ret rr) {w : Wd} {h : Hp} {kc ks : Nat} {Q : State → Prop} {pc : Nat} {ls : List (Nat × AV)} {st : List AV} {kk i : Nat} {x : Int} (hd : decode cc pc = .ok (.lload i, 2)) (hl : ls[kk]? = some (i, vJ x)) (k : Core Γ w h kc ks Q (pc + 2) ls (vJ x :: st)) : Core Γ w h kc ks Q pc ls (st) := by
  obtain ⟨⟨l, b0, D, dA⟩, ⟨p, e, R, s, m, args, below, meth, c⟩, adE, NE⟩ := Γ
  obtain ⟨hx, hb, hml, hown, hts, hKU, hret, hlk, hNE, hRR⟩ := g
  intro o1 o2 o3 ad H locs la e1 e2 e3 e4 e5
  have k2 := k o1 o2 (okC (lvo o2 hl) o3) ad H locs la e1 e2 e3 e4 e5
  exact lv_lload hx hb hd (lv_at e5 kk (lvm hl)) k2
theorem Co_aload_n {Γ : Cx} {cc : ByteArray} {nL : Nat} {own : String} {ret : Option FieldType} {rr : Room} (g : Gd Γ cc nL own ret rr) {w : Wd} {h : Hp} {kc ks : Nat} {Q : State → Prop} {pc : Nat} {ls : List (Nat × AV)} {st : List AV} {kk i : Nat} {j : Fin 4} {a : Nat} (hd : decode cc pc = .ok (.aload_n j, 1)) (hi : (j : Nat) = i) (hl : ls[kk]? = some (i, vP a)) (k : Core Γ w h kc ks Q (pc + 1) ls (vP a :: st)) : Core Γ w h kc ks Q pc ls (st) := by
  obtain ⟨⟨l, b0, D, dA⟩, ⟨p, e, R, s, m, args, below, meth, c⟩, adE, NE⟩ := Γ
  obtain ⟨hx, hb, hml, hown, hts, hKU, hret, hlk, hNE, hRR⟩ := g
  intro o1 o2 o3 ad H locs la e1 e2 e3 e4 e5
  have k2 := k o1 o2 (okC trivial o3) ad H locs la e1 e2 e3 e4 e5
  have h1 := lv_at e5 kk (lvm (ad := ad) hl)
  by_cases ha : a = 0
  · subst ha; exact lv_aload_nN hx hb hd hi h1 k2
  · simp only [List.map_cons, toV, rf_ne ad ha] at h1 k2
    exact lv_aload_n hx hb hd hi h1 k2
theorem Co_aload {Γ : Cx} {cc : ByteArray} {nL : Nat} {own : String} {ret : Option FieldType} {rr : Room} (g : Gd Γ cc nL own ret rr) {w : Wd} {h : Hp} {kc ks : Nat} {Q : State → Prop} {pc : Nat} {ls : List (Nat × AV)} {st : List AV} {kk i : Nat} {a : Nat} (hd : decode cc pc = .ok (.aload i, 2)) (hl : ls[kk]? = some (i, vP a)) (k : Core Γ w h kc ks Q (pc + 2) ls (vP a :: st)) : Core Γ w h kc ks Q pc ls (st) := by
  obtain ⟨⟨l, b0, D, dA⟩, ⟨p, e, R, s, m, args, below, meth, c⟩, adE, NE⟩ := Γ
  obtain ⟨hx, hb, hml, hown, hts, hKU, hret, hlk, hNE, hRR⟩ := g
  intro o1 o2 o3 ad H locs la e1 e2 e3 e4 e5
  have k2 := k o1 o2 (okC trivial o3) ad H locs la e1 e2 e3 e4 e5
  have h1 := lv_at e5 kk (lvm (ad := ad) hl)
  by_cases ha : a = 0
  · subst ha; exact lv_aloadN hx hb hd h1 k2
  · simp only [List.map_cons, toV, rf_ne ad ha] at h1 k2
    exact lv_aload hx hb hd h1 k2
theorem Co_istore_n {Γ : Cx} {cc : ByteArray} {nL : Nat} {own : String} {ret : Option FieldType} {rr : Room} (g : Gd Γ cc nL own ret rr) {w : Wd} {h : Hp} {kc ks : Nat} {Q : State → Prop} {pc : Nat} {ls : List (Nat × AV)} {st : List AV} {i : Nat} {j : Fin 4} {x : Int} {ls' : List (Nat × AV)} (hd : decode cc pc = .ok (.istore_n j, 1)) (hi : (j : Nat) = i) (hn : i < nL) (hl : stL i (vI x) ls = ls') (k : Core Γ w h kc ks Q (pc + 1) ls' st) : Core Γ w h kc ks Q pc ls (vI x :: st) := by
  obtain ⟨⟨l, b0, D, dA⟩, ⟨p, e, R, s, m, args, below, meth, c⟩, adE, NE⟩ := Γ
  obtain ⟨hx, hb, hml, hown, hts, hKU, hret, hlk, hNE, hRR⟩ := g
  intro o1 o2 o3 ad H locs la e1 e2 e3 e4 e5
  have k2 := fun la' e5' => k o1 (hl ▸ stL_ok (okD o3) o2) (okT o3) ad H locs la' e1 e2 e3 e4 e5'
  exact lv_istore_n hx hb hd hi e5 (by rw [hml]; exact hn) (stL_map ad i (vI x) ls) (fun la' e5' => k2 la' (hl ▸ e5'))
theorem Co_istore {Γ : Cx} {cc : ByteArray} {nL : Nat} {own : String} {ret : Option FieldType} {rr : Room} (g : Gd Γ cc nL own ret rr) {w : Wd} {h : Hp} {kc ks : Nat} {Q : State → Prop} {pc : Nat} {ls : List (Nat × AV)} {st : List AV} {i : Nat} {x : Int} {ls' : List (Nat × AV)} (hd : decode cc pc = .ok (.istore i, 2)) (hn : i < nL) (hl : stL i (vI x) ls = ls') (k : Core Γ w h kc ks Q (pc + 2) ls' st) : Core Γ w h kc ks Q pc ls (vI x :: st) := by
  obtain ⟨⟨l, b0, D, dA⟩, ⟨p, e, R, s, m, args, below, meth, c⟩, adE, NE⟩ := Γ
  obtain ⟨hx, hb, hml, hown, hts, hKU, hret, hlk, hNE, hRR⟩ := g
  intro o1 o2 o3 ad H locs la e1 e2 e3 e4 e5
  have k2 := fun la' e5' => k o1 (hl ▸ stL_ok (okD o3) o2) (okT o3) ad H locs la' e1 e2 e3 e4 e5'
  exact lv_istore hx hb hd e5 (by rw [hml]; exact hn) (stL_map ad i (vI x) ls) (fun la' e5' => k2 la' (hl ▸ e5'))
theorem Co_lstore_n {Γ : Cx} {cc : ByteArray} {nL : Nat} {own : String} {ret : Option FieldType} {rr : Room} (g : Gd Γ cc nL own ret rr) {w : Wd} {h : Hp} {kc ks : Nat} {Q : State → Prop} {pc : Nat} {ls : List (Nat × AV)} {st : List AV} {i : Nat} {j : Fin 4} {x : Int} {ls' : List (Nat × AV)} (hd : decode cc pc = .ok (.lstore_n j, 1)) (hi : (j : Nat) = i) (hn : i + 1 < nL) (hl : stJ i (vJ x) ls = ls') (k : Core Γ w h kc ks Q (pc + 1) ls' st) : Core Γ w h kc ks Q pc ls (vJ x :: st) := by
  obtain ⟨⟨l, b0, D, dA⟩, ⟨p, e, R, s, m, args, below, meth, c⟩, adE, NE⟩ := Γ
  obtain ⟨hx, hb, hml, hown, hts, hKU, hret, hlk, hNE, hRR⟩ := g
  intro o1 o2 o3 ad H locs la e1 e2 e3 e4 e5
  have k2 := fun la' e5' => k o1 (hl ▸ stJ_ok (okD o3) o2) (okT o3) ad H locs la' e1 e2 e3 e4 e5'
  exact lv_lstore_n hx hb hd hi e5 (by rw [hml]; exact hn) (stJ_map ad i (vJ x) ls) (fun la' e5' => k2 la' (hl ▸ e5'))
theorem Co_lstore {Γ : Cx} {cc : ByteArray} {nL : Nat} {own : String} {ret : Option FieldType} {rr : Room} (g : Gd Γ cc nL own ret rr) {w : Wd} {h : Hp} {kc ks : Nat} {Q : State → Prop} {pc : Nat} {ls : List (Nat × AV)} {st : List AV} {i : Nat} {x : Int} {ls' : List (Nat × AV)} (hd : decode cc pc = .ok (.lstore i, 2)) (hn : i + 1 < nL) (hl : stJ i (vJ x) ls = ls') (k : Core Γ w h kc ks Q (pc + 2) ls' st) : Core Γ w h kc ks Q pc ls (vJ x :: st) := by
  obtain ⟨⟨l, b0, D, dA⟩, ⟨p, e, R, s, m, args, below, meth, c⟩, adE, NE⟩ := Γ
  obtain ⟨hx, hb, hml, hown, hts, hKU, hret, hlk, hNE, hRR⟩ := g
  intro o1 o2 o3 ad H locs la e1 e2 e3 e4 e5
  have k2 := fun la' e5' => k o1 (hl ▸ stJ_ok (okD o3) o2) (okT o3) ad H locs la' e1 e2 e3 e4 e5'
  exact lv_lstore hx hb hd e5 (by rw [hml]; exact hn) (stJ_map ad i (vJ x) ls) (fun la' e5' => k2 la' (hl ▸ e5'))
theorem Co_astore_n {Γ : Cx} {cc : ByteArray} {nL : Nat} {own : String} {ret : Option FieldType} {rr : Room} (g : Gd Γ cc nL own ret rr) {w : Wd} {h : Hp} {kc ks : Nat} {Q : State → Prop} {pc : Nat} {ls : List (Nat × AV)} {st : List AV} {i a : Nat} {j : Fin 4} {ls' : List (Nat × AV)} (hd : decode cc pc = .ok (.astore_n j, 1)) (hi : (j : Nat) = i) (hn : i < nL) (hl : stL i (vP a) ls = ls') (k : Core Γ w h kc ks Q (pc + 1) ls' st) : Core Γ w h kc ks Q pc ls (vP a :: st) := by
  obtain ⟨⟨l, b0, D, dA⟩, ⟨p, e, R, s, m, args, below, meth, c⟩, adE, NE⟩ := Γ
  obtain ⟨hx, hb, hml, hown, hts, hKU, hret, hlk, hNE, hRR⟩ := g
  intro o1 o2 o3 ad H locs la e1 e2 e3 e4 e5
  have k2 := fun la' e5' => k o1 (hl ▸ stL_ok (okD o3) o2) (okT o3) ad H locs la' e1 e2 e3 e4 e5'
  have hmm := stL_map ad i (vP a) ls
  by_cases ha : a = 0
  · subst ha
    exact lv_astore_nN hx hb hd hi e5 (by rw [hml]; exact hn) hmm (fun la' e5' => k2 la' (hl ▸ e5'))
  · simp only [List.map_cons, toV, rf_ne ad ha] at hmm ⊢
    exact lv_astore_n hx hb hd hi e5 (by rw [hml]; exact hn) hmm (fun la' e5' => k2 la' (by rw [← hl]; simpa only [List.map_cons, toV, rf_ne ad ha, stL] using e5'))
theorem Co_astore {Γ : Cx} {cc : ByteArray} {nL : Nat} {own : String} {ret : Option FieldType} {rr : Room} (g : Gd Γ cc nL own ret rr) {w : Wd} {h : Hp} {kc ks : Nat} {Q : State → Prop} {pc : Nat} {ls : List (Nat × AV)} {st : List AV} {i a : Nat} {ls' : List (Nat × AV)} (hd : decode cc pc = .ok (.astore i, 2)) (hn : i < nL) (hl : stL i (vP a) ls = ls') (k : Core Γ w h kc ks Q (pc + 2) ls' st) : Core Γ w h kc ks Q pc ls (vP a :: st) := by
  obtain ⟨⟨l, b0, D, dA⟩, ⟨p, e, R, s, m, args, below, meth, c⟩, adE, NE⟩ := Γ
  obtain ⟨hx, hb, hml, hown, hts, hKU, hret, hlk, hNE, hRR⟩ := g
  intro o1 o2 o3 ad H locs la e1 e2 e3 e4 e5
  have k2 := fun la' e5' => k o1 (hl ▸ stL_ok (okD o3) o2) (okT o3) ad H locs la' e1 e2 e3 e4 e5'
  have hmm := stL_map ad i (vP a) ls
  by_cases ha : a = 0
  · subst ha
    exact lv_astoreN hx hb hd e5 (by rw [hml]; exact hn) hmm (fun la' e5' => k2 la' (hl ▸ e5'))
  · simp only [List.map_cons, toV, rf_ne ad ha] at hmm ⊢
    exact lv_astore hx hb hd e5 (by rw [hml]; exact hn) hmm (fun la' e5' => k2 la' (by rw [← hl]; simpa only [List.map_cons, toV, rf_ne ad ha, stL] using e5'))
theorem Co_iinc {Γ : Cx} {cc : ByteArray} {nL : Nat} {own : String} {ret : Option FieldType} {rr : Room} (g : Gd Γ cc nL own ret rr) {w : Wd} {h : Hp} {kc ks : Nat} {Q : State → Prop} {pc : Nat} {ls : List (Nat × AV)} {st : List AV} {i kk : Nat} {n x : Int} {ls' : List (Nat × AV)} (hd : decode cc pc = .ok (.iinc i n, 3)) (hl0 : ls[kk]? = some (i, vI x)) (hn : i < nL) (hr : inI (x + n)) (hl : stL i (vI (x + n)) ls = ls') (k : Core Γ w h kc ks Q (pc + 3) ls' st) : Core Γ w h kc ks Q pc ls st := by
  obtain ⟨⟨l, b0, D, dA⟩, ⟨p, e, R, s, m, args, below, meth, c⟩, adE, NE⟩ := Γ
  obtain ⟨hx, hb, hml, hown, hts, hKU, hret, hlk, hNE, hRR⟩ := g
  intro o1 o2 o3 ad H locs la e1 e2 e3 e4 e5
  have k2 := fun la' e5' => k o1 (hl ▸ stL_ok hr o2) o3 ad H locs la' e1 e2 e3 e4 e5'
  exact lv_iinc hx hb hd e5 (lvm hl0) (Int32.ofInt_add x n).symm (by rw [hml]; exact hn) (stL_map ad i (vI (x + n)) ls) (fun la' e5' => k2 la' (hl ▸ e5'))
theorem Co_iadd {Γ : Cx} {cc : ByteArray} {nL : Nat} {own : String} {ret : Option FieldType} {rr : Room} (g : Gd Γ cc nL own ret rr) {w : Wd} {h : Hp} {kc ks : Nat} {Q : State → Prop} {pc : Nat} {ls : List (Nat × AV)} {st : List AV} {a b : Int} (hd : decode cc pc = .ok (.iadd, 1)) (hr : inI (a + b)) (k : Core Γ w h kc ks Q (pc + 1) ls (vI (a + b) :: st)) : Core Γ w h kc ks Q pc ls (vI b :: vI a :: st) := by
  obtain ⟨⟨l, b0, D, dA⟩, ⟨p, e, R, s, m, args, below, meth, c⟩, adE, NE⟩ := Γ
  obtain ⟨hx, hb, hml, hown, hts, hKU, hret, hlk, hNE, hRR⟩ := g
  intro o1 o2 o3 ad H locs la e1 e2 e3 e4 e5
  have k2 := k o1 o2 (okC hr (okT (okT o3))) ad H locs la e1 e2 e3 e4 e5
  simp only [List.map_cons, toV, Int32.ofInt_add] at k2 ⊢
  exact lv_iadd hx hb hd k2
theorem Co_isub {Γ : Cx} {cc : ByteArray} {nL : Nat} {own : String} {ret : Option FieldType} {rr : Room} (g : Gd Γ cc nL own ret rr) {w : Wd} {h : Hp} {kc ks : Nat} {Q : State → Prop} {pc : Nat} {ls : List (Nat × AV)} {st : List AV} {a b : Int} (hd : decode cc pc = .ok (.isub, 1)) (hr : inI (a - b)) (k : Core Γ w h kc ks Q (pc + 1) ls (vI (a - b) :: st)) : Core Γ w h kc ks Q pc ls (vI b :: vI a :: st) := by
  obtain ⟨⟨l, b0, D, dA⟩, ⟨p, e, R, s, m, args, below, meth, c⟩, adE, NE⟩ := Γ
  obtain ⟨hx, hb, hml, hown, hts, hKU, hret, hlk, hNE, hRR⟩ := g
  intro o1 o2 o3 ad H locs la e1 e2 e3 e4 e5
  have k2 := k o1 o2 (okC hr (okT (okT o3))) ad H locs la e1 e2 e3 e4 e5
  simp only [List.map_cons, toV, Int32.ofInt_sub] at k2 ⊢
  exact lv_isub hx hb hd k2
theorem Co_imul {Γ : Cx} {cc : ByteArray} {nL : Nat} {own : String} {ret : Option FieldType} {rr : Room} (g : Gd Γ cc nL own ret rr) {w : Wd} {h : Hp} {kc ks : Nat} {Q : State → Prop} {pc : Nat} {ls : List (Nat × AV)} {st : List AV} {a b : Int} (hd : decode cc pc = .ok (.imul, 1)) (hr : inI (a * b)) (k : Core Γ w h kc ks Q (pc + 1) ls (vI (a * b) :: st)) : Core Γ w h kc ks Q pc ls (vI b :: vI a :: st) := by
  obtain ⟨⟨l, b0, D, dA⟩, ⟨p, e, R, s, m, args, below, meth, c⟩, adE, NE⟩ := Γ
  obtain ⟨hx, hb, hml, hown, hts, hKU, hret, hlk, hNE, hRR⟩ := g
  intro o1 o2 o3 ad H locs la e1 e2 e3 e4 e5
  have k2 := k o1 o2 (okC hr (okT (okT o3))) ad H locs la e1 e2 e3 e4 e5
  simp only [List.map_cons, toV, Int32.ofInt_mul] at k2 ⊢
  exact lv_imul hx hb hd k2
theorem Co_iand {Γ : Cx} {cc : ByteArray} {nL : Nat} {own : String} {ret : Option FieldType} {rr : Room} (g : Gd Γ cc nL own ret rr) {w : Wd} {h : Hp} {kc ks : Nat} {Q : State → Prop} {pc : Nat} {ls : List (Nat × AV)} {st : List AV} {a b : Int} (hd : decode cc pc = .ok (.iand, 1))  (k : Core Γ w h kc ks Q (pc + 1) ls (vI (aand a b) :: st)) : Core Γ w h kc ks Q pc ls (vI b :: vI a :: st) := by
  obtain ⟨⟨l, b0, D, dA⟩, ⟨p, e, R, s, m, args, below, meth, c⟩, adE, NE⟩ := Γ
  obtain ⟨hx, hb, hml, hown, hts, hKU, hret, hlk, hNE, hRR⟩ := g
  intro o1 o2 o3 ad H locs la e1 e2 e3 e4 e5
  have k2 := k o1 o2 (okC (inI_t _) (okT (okT o3))) ad H locs la e1 e2 e3 e4 e5
  simp only [List.map_cons, toV, aand, Int32.ofInt_toInt] at k2 ⊢
  exact lv_iand hx hb hd k2
theorem Co_ior {Γ : Cx} {cc : ByteArray} {nL : Nat} {own : String} {ret : Option FieldType} {rr : Room} (g : Gd Γ cc nL own ret rr) {w : Wd} {h : Hp} {kc ks : Nat} {Q : State → Prop} {pc : Nat} {ls : List (Nat × AV)} {st : List AV} {a b : Int} (hd : decode cc pc = .ok (.ior, 1))  (k : Core Γ w h kc ks Q (pc + 1) ls (vI (aor a b) :: st)) : Core Γ w h kc ks Q pc ls (vI b :: vI a :: st) := by
  obtain ⟨⟨l, b0, D, dA⟩, ⟨p, e, R, s, m, args, below, meth, c⟩, adE, NE⟩ := Γ
  obtain ⟨hx, hb, hml, hown, hts, hKU, hret, hlk, hNE, hRR⟩ := g
  intro o1 o2 o3 ad H locs la e1 e2 e3 e4 e5
  have k2 := k o1 o2 (okC (inI_t _) (okT (okT o3))) ad H locs la e1 e2 e3 e4 e5
  simp only [List.map_cons, toV, aor, Int32.ofInt_toInt] at k2 ⊢
  exact lv_ior hx hb hd k2
theorem Co_ixor {Γ : Cx} {cc : ByteArray} {nL : Nat} {own : String} {ret : Option FieldType} {rr : Room} (g : Gd Γ cc nL own ret rr) {w : Wd} {h : Hp} {kc ks : Nat} {Q : State → Prop} {pc : Nat} {ls : List (Nat × AV)} {st : List AV} {a b : Int} (hd : decode cc pc = .ok (.ixor, 1))  (k : Core Γ w h kc ks Q (pc + 1) ls (vI (axor a b) :: st)) : Core Γ w h kc ks Q pc ls (vI b :: vI a :: st) := by
  obtain ⟨⟨l, b0, D, dA⟩, ⟨p, e, R, s, m, args, below, meth, c⟩, adE, NE⟩ := Γ
  obtain ⟨hx, hb, hml, hown, hts, hKU, hret, hlk, hNE, hRR⟩ := g
  intro o1 o2 o3 ad H locs la e1 e2 e3 e4 e5
  have k2 := k o1 o2 (okC (inI_t _) (okT (okT o3))) ad H locs la e1 e2 e3 e4 e5
  simp only [List.map_cons, toV, axor, Int32.ofInt_toInt] at k2 ⊢
  exact lv_ixor hx hb hd k2
theorem Co_ishl {Γ : Cx} {cc : ByteArray} {nL : Nat} {own : String} {ret : Option FieldType} {rr : Room} (g : Gd Γ cc nL own ret rr) {w : Wd} {h : Hp} {kc ks : Nat} {Q : State → Prop} {pc : Nat} {ls : List (Nat × AV)} {st : List AV} {a b : Int} (hd : decode cc pc = .ok (.ishl, 1))  (k : Core Γ w h kc ks Q (pc + 1) ls (vI (ashl a b) :: st)) : Core Γ w h kc ks Q pc ls (vI b :: vI a :: st) := by
  obtain ⟨⟨l, b0, D, dA⟩, ⟨p, e, R, s, m, args, below, meth, c⟩, adE, NE⟩ := Γ
  obtain ⟨hx, hb, hml, hown, hts, hKU, hret, hlk, hNE, hRR⟩ := g
  intro o1 o2 o3 ad H locs la e1 e2 e3 e4 e5
  have k2 := k o1 o2 (okC (inI_t _) (okT (okT o3))) ad H locs la e1 e2 e3 e4 e5
  simp only [List.map_cons, toV, ashl, Int32.ofInt_toInt] at k2 ⊢
  exact lv_ishl hx hb hd k2
theorem Co_ishr {Γ : Cx} {cc : ByteArray} {nL : Nat} {own : String} {ret : Option FieldType} {rr : Room} (g : Gd Γ cc nL own ret rr) {w : Wd} {h : Hp} {kc ks : Nat} {Q : State → Prop} {pc : Nat} {ls : List (Nat × AV)} {st : List AV} {a b : Int} (hd : decode cc pc = .ok (.ishr, 1))  (k : Core Γ w h kc ks Q (pc + 1) ls (vI (ashr a b) :: st)) : Core Γ w h kc ks Q pc ls (vI b :: vI a :: st) := by
  obtain ⟨⟨l, b0, D, dA⟩, ⟨p, e, R, s, m, args, below, meth, c⟩, adE, NE⟩ := Γ
  obtain ⟨hx, hb, hml, hown, hts, hKU, hret, hlk, hNE, hRR⟩ := g
  intro o1 o2 o3 ad H locs la e1 e2 e3 e4 e5
  have k2 := k o1 o2 (okC (inI_t _) (okT (okT o3))) ad H locs la e1 e2 e3 e4 e5
  simp only [List.map_cons, toV, ashr, Int32.ofInt_toInt] at k2 ⊢
  exact lv_ishr hx hb hd k2
theorem Co_iushr {Γ : Cx} {cc : ByteArray} {nL : Nat} {own : String} {ret : Option FieldType} {rr : Room} (g : Gd Γ cc nL own ret rr) {w : Wd} {h : Hp} {kc ks : Nat} {Q : State → Prop} {pc : Nat} {ls : List (Nat × AV)} {st : List AV} {a b : Int} (hd : decode cc pc = .ok (.iushr, 1))  (k : Core Γ w h kc ks Q (pc + 1) ls (vI (aushr a b) :: st)) : Core Γ w h kc ks Q pc ls (vI b :: vI a :: st) := by
  obtain ⟨⟨l, b0, D, dA⟩, ⟨p, e, R, s, m, args, below, meth, c⟩, adE, NE⟩ := Γ
  obtain ⟨hx, hb, hml, hown, hts, hKU, hret, hlk, hNE, hRR⟩ := g
  intro o1 o2 o3 ad H locs la e1 e2 e3 e4 e5
  have k2 := k o1 o2 (okC (inI_t _) (okT (okT o3))) ad H locs la e1 e2 e3 e4 e5
  simp only [List.map_cons, toV, aushr, Int32.ofInt_toInt] at k2 ⊢
  exact lv_iushr hx hb hd rfl k2
theorem Co_land {Γ : Cx} {cc : ByteArray} {nL : Nat} {own : String} {ret : Option FieldType} {rr : Room} (g : Gd Γ cc nL own ret rr) {w : Wd} {h : Hp} {kc ks : Nat} {Q : State → Prop} {pc : Nat} {ls : List (Nat × AV)} {st : List AV} {a b : Int} (hd : decode cc pc = .ok (.land, 1))  (k : Core Γ w h kc ks Q (pc + 1) ls (vJ (jand a b) :: st)) : Core Γ w h kc ks Q pc ls (vJ b :: vJ a :: st) := by
  obtain ⟨⟨l, b0, D, dA⟩, ⟨p, e, R, s, m, args, below, meth, c⟩, adE, NE⟩ := Γ
  obtain ⟨hx, hb, hml, hown, hts, hKU, hret, hlk, hNE, hRR⟩ := g
  intro o1 o2 o3 ad H locs la e1 e2 e3 e4 e5
  have k2 := k o1 o2 (okC (inJ_t _) (okT (okT o3))) ad H locs la e1 e2 e3 e4 e5
  simp only [List.map_cons, toV, jand, Int64.ofInt_toInt] at k2 ⊢
  exact lv_land hx hb hd k2
theorem Co_lor {Γ : Cx} {cc : ByteArray} {nL : Nat} {own : String} {ret : Option FieldType} {rr : Room} (g : Gd Γ cc nL own ret rr) {w : Wd} {h : Hp} {kc ks : Nat} {Q : State → Prop} {pc : Nat} {ls : List (Nat × AV)} {st : List AV} {a b : Int} (hd : decode cc pc = .ok (.lor, 1))  (k : Core Γ w h kc ks Q (pc + 1) ls (vJ (jor a b) :: st)) : Core Γ w h kc ks Q pc ls (vJ b :: vJ a :: st) := by
  obtain ⟨⟨l, b0, D, dA⟩, ⟨p, e, R, s, m, args, below, meth, c⟩, adE, NE⟩ := Γ
  obtain ⟨hx, hb, hml, hown, hts, hKU, hret, hlk, hNE, hRR⟩ := g
  intro o1 o2 o3 ad H locs la e1 e2 e3 e4 e5
  have k2 := k o1 o2 (okC (inJ_t _) (okT (okT o3))) ad H locs la e1 e2 e3 e4 e5
  simp only [List.map_cons, toV, jor, Int64.ofInt_toInt] at k2 ⊢
  exact lv_lor hx hb hd k2
theorem Co_lxor {Γ : Cx} {cc : ByteArray} {nL : Nat} {own : String} {ret : Option FieldType} {rr : Room} (g : Gd Γ cc nL own ret rr) {w : Wd} {h : Hp} {kc ks : Nat} {Q : State → Prop} {pc : Nat} {ls : List (Nat × AV)} {st : List AV} {a b : Int} (hd : decode cc pc = .ok (.lxor, 1))  (k : Core Γ w h kc ks Q (pc + 1) ls (vJ (jxor a b) :: st)) : Core Γ w h kc ks Q pc ls (vJ b :: vJ a :: st) := by
  obtain ⟨⟨l, b0, D, dA⟩, ⟨p, e, R, s, m, args, below, meth, c⟩, adE, NE⟩ := Γ
  obtain ⟨hx, hb, hml, hown, hts, hKU, hret, hlk, hNE, hRR⟩ := g
  intro o1 o2 o3 ad H locs la e1 e2 e3 e4 e5
  have k2 := k o1 o2 (okC (inJ_t _) (okT (okT o3))) ad H locs la e1 e2 e3 e4 e5
  simp only [List.map_cons, toV, jxor, Int64.ofInt_toInt] at k2 ⊢
  exact lv_lxor hx hb hd k2
theorem Co_lsub {Γ : Cx} {cc : ByteArray} {nL : Nat} {own : String} {ret : Option FieldType} {rr : Room} (g : Gd Γ cc nL own ret rr) {w : Wd} {h : Hp} {kc ks : Nat} {Q : State → Prop} {pc : Nat} {ls : List (Nat × AV)} {st : List AV} {a b : Int} (hd : decode cc pc = .ok (.lsub, 1))  (k : Core Γ w h kc ks Q (pc + 1) ls (vJ (jsub a b) :: st)) : Core Γ w h kc ks Q pc ls (vJ b :: vJ a :: st) := by
  obtain ⟨⟨l, b0, D, dA⟩, ⟨p, e, R, s, m, args, below, meth, c⟩, adE, NE⟩ := Γ
  obtain ⟨hx, hb, hml, hown, hts, hKU, hret, hlk, hNE, hRR⟩ := g
  intro o1 o2 o3 ad H locs la e1 e2 e3 e4 e5
  have k2 := k o1 o2 (okC (inJ_t _) (okT (okT o3))) ad H locs la e1 e2 e3 e4 e5
  simp only [List.map_cons, toV, jsub, Int64.ofInt_toInt] at k2 ⊢
  exact lv_lsub hx hb hd k2
theorem Co_ladd {Γ : Cx} {cc : ByteArray} {nL : Nat} {own : String} {ret : Option FieldType} {rr : Room} (g : Gd Γ cc nL own ret rr) {w : Wd} {h : Hp} {kc ks : Nat} {Q : State → Prop} {pc : Nat} {ls : List (Nat × AV)} {st : List AV} {a b : Int} (hd : decode cc pc = .ok (.ladd, 1))  (k : Core Γ w h kc ks Q (pc + 1) ls (vJ (jadd a b) :: st)) : Core Γ w h kc ks Q pc ls (vJ b :: vJ a :: st) := by
  obtain ⟨⟨l, b0, D, dA⟩, ⟨p, e, R, s, m, args, below, meth, c⟩, adE, NE⟩ := Γ
  obtain ⟨hx, hb, hml, hown, hts, hKU, hret, hlk, hNE, hRR⟩ := g
  intro o1 o2 o3 ad H locs la e1 e2 e3 e4 e5
  have k2 := k o1 o2 (okC (inJ_t _) (okT (okT o3))) ad H locs la e1 e2 e3 e4 e5
  simp only [List.map_cons, toV, jadd, Int64.ofInt_toInt] at k2 ⊢
  exact lv_ladd hx hb hd k2
theorem Co_lshl {Γ : Cx} {cc : ByteArray} {nL : Nat} {own : String} {ret : Option FieldType} {rr : Room} (g : Gd Γ cc nL own ret rr) {w : Wd} {h : Hp} {kc ks : Nat} {Q : State → Prop} {pc : Nat} {ls : List (Nat × AV)} {st : List AV} {a b : Int} (hd : decode cc pc = .ok (.lshl, 1))  (k : Core Γ w h kc ks Q (pc + 1) ls (vJ (jshl a b) :: st)) : Core Γ w h kc ks Q pc ls (vI b :: vJ a :: st) := by
  obtain ⟨⟨l, b0, D, dA⟩, ⟨p, e, R, s, m, args, below, meth, c⟩, adE, NE⟩ := Γ
  obtain ⟨hx, hb, hml, hown, hts, hKU, hret, hlk, hNE, hRR⟩ := g
  intro o1 o2 o3 ad H locs la e1 e2 e3 e4 e5
  have k2 := k o1 o2 (okC (inJ_t _) (okT (okT o3))) ad H locs la e1 e2 e3 e4 e5
  simp only [List.map_cons, toV, jshl, Int64.ofInt_toInt] at k2 ⊢
  exact lv_lshl hx hb hd rfl k2
theorem Co_lshr {Γ : Cx} {cc : ByteArray} {nL : Nat} {own : String} {ret : Option FieldType} {rr : Room} (g : Gd Γ cc nL own ret rr) {w : Wd} {h : Hp} {kc ks : Nat} {Q : State → Prop} {pc : Nat} {ls : List (Nat × AV)} {st : List AV} {a b : Int} (hd : decode cc pc = .ok (.lshr, 1))  (k : Core Γ w h kc ks Q (pc + 1) ls (vJ (jshr a b) :: st)) : Core Γ w h kc ks Q pc ls (vI b :: vJ a :: st) := by
  obtain ⟨⟨l, b0, D, dA⟩, ⟨p, e, R, s, m, args, below, meth, c⟩, adE, NE⟩ := Γ
  obtain ⟨hx, hb, hml, hown, hts, hKU, hret, hlk, hNE, hRR⟩ := g
  intro o1 o2 o3 ad H locs la e1 e2 e3 e4 e5
  have k2 := k o1 o2 (okC (inJ_t _) (okT (okT o3))) ad H locs la e1 e2 e3 e4 e5
  simp only [List.map_cons, toV, jshr, Int64.ofInt_toInt] at k2 ⊢
  exact lv_lshr hx hb hd rfl k2
theorem Co_lushr {Γ : Cx} {cc : ByteArray} {nL : Nat} {own : String} {ret : Option FieldType} {rr : Room} (g : Gd Γ cc nL own ret rr) {w : Wd} {h : Hp} {kc ks : Nat} {Q : State → Prop} {pc : Nat} {ls : List (Nat × AV)} {st : List AV} {a b : Int} (hd : decode cc pc = .ok (.lushr, 1))  (k : Core Γ w h kc ks Q (pc + 1) ls (vJ (jushr a b) :: st)) : Core Γ w h kc ks Q pc ls (vI b :: vJ a :: st) := by
  obtain ⟨⟨l, b0, D, dA⟩, ⟨p, e, R, s, m, args, below, meth, c⟩, adE, NE⟩ := Γ
  obtain ⟨hx, hb, hml, hown, hts, hKU, hret, hlk, hNE, hRR⟩ := g
  intro o1 o2 o3 ad H locs la e1 e2 e3 e4 e5
  have k2 := k o1 o2 (okC (inJ_t _) (okT (okT o3))) ad H locs la e1 e2 e3 e4 e5
  simp only [List.map_cons, toV, jushr, Int64.ofInt_toInt] at k2 ⊢
  exact lv_lushr hx hb hd rfl k2
theorem Co_lneg {Γ : Cx} {cc : ByteArray} {nL : Nat} {own : String} {ret : Option FieldType} {rr : Room} (g : Gd Γ cc nL own ret rr) {w : Wd} {h : Hp} {kc ks : Nat} {Q : State → Prop} {pc : Nat} {ls : List (Nat × AV)} {st : List AV} {a : Int} (hd : decode cc pc = .ok (.lneg, 1))  (k : Core Γ w h kc ks Q (pc + 1) ls (vJ (jneg a) :: st)) : Core Γ w h kc ks Q pc ls (vJ a :: st) := by
  obtain ⟨⟨l, b0, D, dA⟩, ⟨p, e, R, s, m, args, below, meth, c⟩, adE, NE⟩ := Γ
  obtain ⟨hx, hb, hml, hown, hts, hKU, hret, hlk, hNE, hRR⟩ := g
  intro o1 o2 o3 ad H locs la e1 e2 e3 e4 e5
  have k2 := k o1 o2 (okC (inJ_t _) (okT o3)) ad H locs la e1 e2 e3 e4 e5
  simp only [List.map_cons, toV, jneg, Int64.ofInt_toInt] at k2 ⊢
  exact lv_lneg hx hb hd k2
theorem Co_i2l {Γ : Cx} {cc : ByteArray} {nL : Nat} {own : String} {ret : Option FieldType} {rr : Room} (g : Gd Γ cc nL own ret rr) {w : Wd} {h : Hp} {kc ks : Nat} {Q : State → Prop} {pc : Nat} {ls : List (Nat × AV)} {st : List AV} {a : Int} (hd : decode cc pc = .ok (.i2l, 1))  (k : Core Γ w h kc ks Q (pc + 1) ls (vJ a :: st)) : Core Γ w h kc ks Q pc ls (vI a :: st) := by
  obtain ⟨⟨l, b0, D, dA⟩, ⟨p, e, R, s, m, args, below, meth, c⟩, adE, NE⟩ := Γ
  obtain ⟨hx, hb, hml, hown, hts, hKU, hret, hlk, hNE, hRR⟩ := g
  intro o1 o2 o3 ad H locs la e1 e2 e3 e4 e5
  have k2 := k o1 o2 (okC (by have h1 : inI a := okD o3; exact ⟨by have := h1.1; omega, by have := h1.2; omega⟩) (okT o3)) ad H locs la e1 e2 e3 e4 e5
  have h1 : inI a := okD o3
  have h2 : (Int32.ofInt a).toInt64 = Int64.ofInt a := by
    apply Int64.toInt_inj.mp
    rw [Int32.toInt_toInt64, toI h1, toJ ⟨by have := h1.1; omega, by have := h1.2; omega⟩]
  exact lv_i2l hx hb hd h2 k2
theorem Co_l2i {Γ : Cx} {cc : ByteArray} {nL : Nat} {own : String} {ret : Option FieldType} {rr : Room} (g : Gd Γ cc nL own ret rr) {w : Wd} {h : Hp} {kc ks : Nat} {Q : State → Prop} {pc : Nat} {ls : List (Nat × AV)} {st : List AV} {a : Int} (hd : decode cc pc = .ok (.l2i, 1))  (k : Core Γ w h kc ks Q (pc + 1) ls (vI (al2i a) :: st)) : Core Γ w h kc ks Q pc ls (vJ a :: st) := by
  obtain ⟨⟨l, b0, D, dA⟩, ⟨p, e, R, s, m, args, below, meth, c⟩, adE, NE⟩ := Γ
  obtain ⟨hx, hb, hml, hown, hts, hKU, hret, hlk, hNE, hRR⟩ := g
  intro o1 o2 o3 ad H locs la e1 e2 e3 e4 e5
  have k2 := k o1 o2 (okC (inI_t _) (okT o3)) ad H locs la e1 e2 e3 e4 e5
  simp only [List.map_cons, toV, al2i, Int32.ofInt_toInt] at k2 ⊢
  exact lv_l2i hx hb hd rfl k2
theorem Co_i2b {Γ : Cx} {cc : ByteArray} {nL : Nat} {own : String} {ret : Option FieldType} {rr : Room} (g : Gd Γ cc nL own ret rr) {w : Wd} {h : Hp} {kc ks : Nat} {Q : State → Prop} {pc : Nat} {ls : List (Nat × AV)} {st : List AV} {a : Int} (hd : decode cc pc = .ok (.i2b, 1))  (k : Core Γ w h kc ks Q (pc + 1) ls (vI (ai2b a) :: st)) : Core Γ w h kc ks Q pc ls (vI a :: st) := by
  obtain ⟨⟨l, b0, D, dA⟩, ⟨p, e, R, s, m, args, below, meth, c⟩, adE, NE⟩ := Γ
  obtain ⟨hx, hb, hml, hown, hts, hKU, hret, hlk, hNE, hRR⟩ := g
  intro o1 o2 o3 ad H locs la e1 e2 e3 e4 e5
  have k2 := k o1 o2 (okC (inI_t _) (okT o3)) ad H locs la e1 e2 e3 e4 e5
  simp only [List.map_cons, toV, ai2b, Int32.ofInt_toInt] at k2 ⊢
  exact lv_i2b hx hb hd rfl k2
theorem Co_i2s {Γ : Cx} {cc : ByteArray} {nL : Nat} {own : String} {ret : Option FieldType} {rr : Room} (g : Gd Γ cc nL own ret rr) {w : Wd} {h : Hp} {kc ks : Nat} {Q : State → Prop} {pc : Nat} {ls : List (Nat × AV)} {st : List AV} {a : Int} (hd : decode cc pc = .ok (.i2s, 1))  (k : Core Γ w h kc ks Q (pc + 1) ls (vI (ai2s a) :: st)) : Core Γ w h kc ks Q pc ls (vI a :: st) := by
  obtain ⟨⟨l, b0, D, dA⟩, ⟨p, e, R, s, m, args, below, meth, c⟩, adE, NE⟩ := Γ
  obtain ⟨hx, hb, hml, hown, hts, hKU, hret, hlk, hNE, hRR⟩ := g
  intro o1 o2 o3 ad H locs la e1 e2 e3 e4 e5
  have k2 := k o1 o2 (okC (inI_t _) (okT o3)) ad H locs la e1 e2 e3 e4 e5
  simp only [List.map_cons, toV, ai2s, Int32.ofInt_toInt] at k2 ⊢
  exact lv_i2s hx hb hd rfl k2
theorem Co_idiv {Γ : Cx} {cc : ByteArray} {nL : Nat} {own : String} {ret : Option FieldType} {rr : Room} (g : Gd Γ cc nL own ret rr) {w : Wd} {h : Hp} {kc ks : Nat} {Q : State → Prop} {pc : Nat} {ls : List (Nat × AV)} {st : List AV} {a b : Int} (hd : decode cc pc = .ok (.idiv, 1)) (hb0 : b ≠ 0) (hr : inI (a.tdiv b)) (k : Core Γ w h kc ks Q (pc + 1) ls (vI (a.tdiv b) :: st)) : Core Γ w h kc ks Q pc ls (vI b :: vI a :: st) := by
  obtain ⟨⟨l, b0, D, dA⟩, ⟨p, e, R, s, m, args, below, meth, c⟩, adE, NE⟩ := Γ
  obtain ⟨hx, hb, hml, hown, hts, hKU, hret, hlk, hNE, hRR⟩ := g
  intro o1 o2 o3 ad H locs la e1 e2 e3 e4 e5
  have k2 := k o1 o2 (okC hr (okT (okT o3))) ad H locs la e1 e2 e3 e4 e5
  have h2 : inI b := okD o3
  have h1 : inI a := okD (okT o3)
  have hq : Int32.ofInt (a.tdiv b) = Int32.ofInt a / Int32.ofInt b := by
    apply Int32.toInt_inj.mp
    rw [Int32.toInt_div, toI h1, toI h2, Int32.toInt_ofInt]
  simp only [List.map_cons, toV, hq] at k2 ⊢
  exact lv_idiv hx hb hd (fun q => hb0 ((eqI h2 inI_0).mp q)) k2
theorem Co_irem {Γ : Cx} {cc : ByteArray} {nL : Nat} {own : String} {ret : Option FieldType} {rr : Room} (g : Gd Γ cc nL own ret rr) {w : Wd} {h : Hp} {kc ks : Nat} {Q : State → Prop} {pc : Nat} {ls : List (Nat × AV)} {st : List AV} {a b : Int} (hd : decode cc pc = .ok (.irem, 1)) (hb0 : b ≠ 0) (hr : inI (a - a.tdiv b * b)) (k : Core Γ w h kc ks Q (pc + 1) ls (vI (a - a.tdiv b * b) :: st)) : Core Γ w h kc ks Q pc ls (vI b :: vI a :: st) := by
  obtain ⟨⟨l, b0, D, dA⟩, ⟨p, e, R, s, m, args, below, meth, c⟩, adE, NE⟩ := Γ
  obtain ⟨hx, hb, hml, hown, hts, hKU, hret, hlk, hNE, hRR⟩ := g
  intro o1 o2 o3 ad H locs la e1 e2 e3 e4 e5
  have k2 := k o1 o2 (okC hr (okT (okT o3))) ad H locs la e1 e2 e3 e4 e5
  have h2 : inI b := okD o3
  have h1 : inI a := okD (okT o3)
  have hq : Int32.ofInt (a.tdiv b) = Int32.ofInt a / Int32.ofInt b := by
    apply Int32.toInt_inj.mp
    rw [Int32.toInt_div, toI h1, toI h2, Int32.toInt_ofInt]
  simp only [List.map_cons, toV, Int32.ofInt_sub, Int32.ofInt_mul, hq] at k2 ⊢
  exact lv_irem hx hb hd (fun q => hb0 ((eqI h2 inI_0).mp q)) k2
theorem Co_lcmp {Γ : Cx} {cc : ByteArray} {nL : Nat} {own : String} {ret : Option FieldType} {rr : Room} (g : Gd Γ cc nL own ret rr) {w : Wd} {h : Hp} {kc ks : Nat} {Q : State → Prop} {pc : Nat} {ls : List (Nat × AV)} {st : List AV} {a b : Int} (hd : decode cc pc = .ok (.lcmp, 1))  (k : Core Γ w h kc ks Q (pc + 1) ls (vI (jcmp a b) :: st)) : Core Γ w h kc ks Q pc ls (vJ b :: vJ a :: st) := by
  obtain ⟨⟨l, b0, D, dA⟩, ⟨p, e, R, s, m, args, below, meth, c⟩, adE, NE⟩ := Γ
  obtain ⟨hx, hb, hml, hown, hts, hKU, hret, hlk, hNE, hRR⟩ := g
  intro o1 o2 o3 ad H locs la e1 e2 e3 e4 e5
  have k2 := k o1 o2 (okC (jcmp_in a b) (okT (okT o3))) ad H locs la e1 e2 e3 e4 e5
  have h2 : inJ b := okD o3
  have h1 : inJ a := okD (okT o3)
  have hq : lg_cmp (Int64.ofInt a) (Int64.ofInt b) = Int32.ofInt (jcmp a b) := by
    unfold lg_cmp jcmp
    by_cases q : b < a
    · rw [if_pos q, if_pos ((ltJ h2 h1).mpr q)]; rfl
    · rw [if_neg q, if_neg (fun z => q ((ltJ h2 h1).mp z))]
      by_cases q2 : a = b
      · rw [if_pos q2, if_pos ((eqJ h1 h2).mpr q2)]; rfl
      · rw [if_neg q2, if_neg (fun z => q2 ((eqJ h1 h2).mp z))]; rfl
  simp only [List.map_cons, toV, ← hq] at k2 ⊢
  exact W.lcmp hx hb hd k2
theorem Co_dup {Γ : Cx} {cc : ByteArray} {nL : Nat} {own : String} {ret : Option FieldType} {rr : Room} (g : Gd Γ cc nL own ret rr) {w : Wd} {h : Hp} {kc ks : Nat} {Q : State → Prop} {pc : Nat} {ls : List (Nat × AV)} {st : List AV} {v : AV} (hd : decode cc pc = .ok (.dup, 1)) (hv : isJ v = false) (k : Core Γ w h kc ks Q (pc + 1) ls (v :: v :: st)) : Core Γ w h kc ks Q pc ls (v :: st) := by
  obtain ⟨⟨l, b0, D, dA⟩, ⟨p, e, R, s, m, args, below, meth, c⟩, adE, NE⟩ := Γ
  obtain ⟨hx, hb, hml, hown, hts, hKU, hret, hlk, hNE, hRR⟩ := g
  intro o1 o2 o3 ad H locs la e1 e2 e3 e4 e5
  have k2 := k o1 o2 (okC (okD o3) o3) ad H locs la e1 e2 e3 e4 e5
  exact lv_dup hx hb hd (cat1 ad hv) k2
theorem Co_pop {Γ : Cx} {cc : ByteArray} {nL : Nat} {own : String} {ret : Option FieldType} {rr : Room} (g : Gd Γ cc nL own ret rr) {w : Wd} {h : Hp} {kc ks : Nat} {Q : State → Prop} {pc : Nat} {ls : List (Nat × AV)} {st : List AV} {v : AV} (hd : decode cc pc = .ok (.pop, 1)) (hv : isJ v = false) (k : Core Γ w h kc ks Q (pc + 1) ls (st)) : Core Γ w h kc ks Q pc ls (v :: st) := by
  obtain ⟨⟨l, b0, D, dA⟩, ⟨p, e, R, s, m, args, below, meth, c⟩, adE, NE⟩ := Γ
  obtain ⟨hx, hb, hml, hown, hts, hKU, hret, hlk, hNE, hRR⟩ := g
  intro o1 o2 o3 ad H locs la e1 e2 e3 e4 e5
  have k2 := k o1 o2 (okT o3) ad H locs la e1 e2 e3 e4 e5
  exact lv_pop hx hb hd (cat1 ad hv) k2
theorem Co_dup2 {Γ : Cx} {cc : ByteArray} {nL : Nat} {own : String} {ret : Option FieldType} {rr : Room} (g : Gd Γ cc nL own ret rr) {w : Wd} {h : Hp} {kc ks : Nat} {Q : State → Prop} {pc : Nat} {ls : List (Nat × AV)} {st : List AV} {v u : AV} (hd : decode cc pc = .ok (.dup2, 1)) (hv : isJ v = false) (hu : isJ u = false) (k : Core Γ w h kc ks Q (pc + 1) ls (v :: u :: v :: u :: st)) : Core Γ w h kc ks Q pc ls (v :: u :: st) := by
  obtain ⟨⟨l, b0, D, dA⟩, ⟨p, e, R, s, m, args, below, meth, c⟩, adE, NE⟩ := Γ
  obtain ⟨hx, hb, hml, hown, hts, hKU, hret, hlk, hNE, hRR⟩ := g
  intro o1 o2 o3 ad H locs la e1 e2 e3 e4 e5
  have k2 := k o1 o2 (okC (okD o3) (okC (okD (okT o3)) o3)) ad H locs la e1 e2 e3 e4 e5
  exact lv_dup2_11 hx hb hd (cat1 ad hv) (cat1 ad hu) k2
theorem Co_dup_x1 {Γ : Cx} {cc : ByteArray} {nL : Nat} {own : String} {ret : Option FieldType} {rr : Room} (g : Gd Γ cc nL own ret rr) {w : Wd} {h : Hp} {kc ks : Nat} {Q : State → Prop} {pc : Nat} {ls : List (Nat × AV)} {st : List AV} {v u : AV} (hd : decode cc pc = .ok (.dup_x1, 1)) (hv : isJ v = false) (hu : isJ u = false) (k : Core Γ w h kc ks Q (pc + 1) ls (v :: u :: v :: st)) : Core Γ w h kc ks Q pc ls (v :: u :: st) := by
  obtain ⟨⟨l, b0, D, dA⟩, ⟨p, e, R, s, m, args, below, meth, c⟩, adE, NE⟩ := Γ
  obtain ⟨hx, hb, hml, hown, hts, hKU, hret, hlk, hNE, hRR⟩ := g
  intro o1 o2 o3 ad H locs la e1 e2 e3 e4 e5
  have k2 := k o1 o2 (okC (okD o3) (okC (okD (okT o3)) (okC (okD o3) (okT (okT o3))))) ad H locs la e1 e2 e3 e4 e5
  exact lv_dup_x1 hx hb hd (cat1 ad hv) (cat1 ad hu) k2
theorem Co_icmp_lt {Γ : Cx} {cc : ByteArray} {nL : Nat} {own : String} {ret : Option FieldType} {rr : Room} (g : Gd Γ cc nL own ret rr) {w : Wd} {h : Hp} {kc ks : Nat} {Q : State → Prop} {pc : Nat} {ls : List (Nat × AV)} {st : List AV} {a b : Int} {off : Int} {tgt : Nat} (hd : decode cc pc = .ok (.if_icmp .lt off, 3)) (ht : (pc : Int) + off = (tgt : Int)) (kt : a < b → Core Γ w h kc ks Q tgt ls st) (kf : ¬ (a < b) → Core Γ w h kc ks Q (pc + 3) ls st) : Core Γ w h kc ks Q pc ls (vI b :: vI a :: st) := by
  obtain ⟨⟨l, b0, D, dA⟩, ⟨p, e, R, s, m, args, below, meth, c⟩, adE, NE⟩ := Γ
  obtain ⟨hx, hb, hml, hown, hts, hKU, hret, hlk, hNE, hRR⟩ := g
  intro o1 o2 o3 ad H locs la e1 e2 e3 e4 e5
  have h2 : inI b := okD o3
  have h1 : inI a := okD (okT o3)
  have hc := ltI h1 h2
  exact lv_icmp_lt hx hb hd ht (fun q => kt (hc.mp q) o1 o2 (okT (okT o3)) ad H locs la e1 e2 e3 e4 e5) (fun q => kf (fun z => q (hc.mpr z)) o1 o2 (okT (okT o3)) ad H locs la e1 e2 e3 e4 e5)
theorem Co_if_lt {Γ : Cx} {cc : ByteArray} {nL : Nat} {own : String} {ret : Option FieldType} {rr : Room} (g : Gd Γ cc nL own ret rr) {w : Wd} {h : Hp} {kc ks : Nat} {Q : State → Prop} {pc : Nat} {ls : List (Nat × AV)} {st : List AV} {a : Int} {off : Int} {tgt : Nat} (hd : decode cc pc = .ok (.ifCond .lt off, 3)) (ht : (pc : Int) + off = (tgt : Int)) (kt : a < 0 → Core Γ w h kc ks Q tgt ls st) (kf : ¬ (a < 0) → Core Γ w h kc ks Q (pc + 3) ls st) : Core Γ w h kc ks Q pc ls (vI a :: st) := by
  obtain ⟨⟨l, b0, D, dA⟩, ⟨p, e, R, s, m, args, below, meth, c⟩, adE, NE⟩ := Γ
  obtain ⟨hx, hb, hml, hown, hts, hKU, hret, hlk, hNE, hRR⟩ := g
  intro o1 o2 o3 ad H locs la e1 e2 e3 e4 e5
  have h1 : inI a := okD o3
  have hc := ltI h1 inI_0
  exact lv_if_lt hx hb hd ht (fun q => kt (hc.mp q) o1 o2 (okT o3) ad H locs la e1 e2 e3 e4 e5) (fun q => kf (fun z => q (hc.mpr z)) o1 o2 (okT o3) ad H locs la e1 e2 e3 e4 e5)
theorem Co_icmp_ge {Γ : Cx} {cc : ByteArray} {nL : Nat} {own : String} {ret : Option FieldType} {rr : Room} (g : Gd Γ cc nL own ret rr) {w : Wd} {h : Hp} {kc ks : Nat} {Q : State → Prop} {pc : Nat} {ls : List (Nat × AV)} {st : List AV} {a b : Int} {off : Int} {tgt : Nat} (hd : decode cc pc = .ok (.if_icmp .ge off, 3)) (ht : (pc : Int) + off = (tgt : Int)) (kt : b ≤ a → Core Γ w h kc ks Q tgt ls st) (kf : ¬ (b ≤ a) → Core Γ w h kc ks Q (pc + 3) ls st) : Core Γ w h kc ks Q pc ls (vI b :: vI a :: st) := by
  obtain ⟨⟨l, b0, D, dA⟩, ⟨p, e, R, s, m, args, below, meth, c⟩, adE, NE⟩ := Γ
  obtain ⟨hx, hb, hml, hown, hts, hKU, hret, hlk, hNE, hRR⟩ := g
  intro o1 o2 o3 ad H locs la e1 e2 e3 e4 e5
  have h2 : inI b := okD o3
  have h1 : inI a := okD (okT o3)
  have hc := leI h2 h1
  exact lv_icmp_ge hx hb hd ht (fun q => kt (hc.mp q) o1 o2 (okT (okT o3)) ad H locs la e1 e2 e3 e4 e5) (fun q => kf (fun z => q (hc.mpr z)) o1 o2 (okT (okT o3)) ad H locs la e1 e2 e3 e4 e5)
theorem Co_if_ge {Γ : Cx} {cc : ByteArray} {nL : Nat} {own : String} {ret : Option FieldType} {rr : Room} (g : Gd Γ cc nL own ret rr) {w : Wd} {h : Hp} {kc ks : Nat} {Q : State → Prop} {pc : Nat} {ls : List (Nat × AV)} {st : List AV} {a : Int} {off : Int} {tgt : Nat} (hd : decode cc pc = .ok (.ifCond .ge off, 3)) (ht : (pc : Int) + off = (tgt : Int)) (kt : 0 ≤ a → Core Γ w h kc ks Q tgt ls st) (kf : ¬ (0 ≤ a) → Core Γ w h kc ks Q (pc + 3) ls st) : Core Γ w h kc ks Q pc ls (vI a :: st) := by
  obtain ⟨⟨l, b0, D, dA⟩, ⟨p, e, R, s, m, args, below, meth, c⟩, adE, NE⟩ := Γ
  obtain ⟨hx, hb, hml, hown, hts, hKU, hret, hlk, hNE, hRR⟩ := g
  intro o1 o2 o3 ad H locs la e1 e2 e3 e4 e5
  have h1 : inI a := okD o3
  have hc := leI inI_0 h1
  exact lv_if_ge hx hb hd ht (fun q => kt (hc.mp q) o1 o2 (okT o3) ad H locs la e1 e2 e3 e4 e5) (fun q => kf (fun z => q (hc.mpr z)) o1 o2 (okT o3) ad H locs la e1 e2 e3 e4 e5)
theorem Co_icmp_gt {Γ : Cx} {cc : ByteArray} {nL : Nat} {own : String} {ret : Option FieldType} {rr : Room} (g : Gd Γ cc nL own ret rr) {w : Wd} {h : Hp} {kc ks : Nat} {Q : State → Prop} {pc : Nat} {ls : List (Nat × AV)} {st : List AV} {a b : Int} {off : Int} {tgt : Nat} (hd : decode cc pc = .ok (.if_icmp .gt off, 3)) (ht : (pc : Int) + off = (tgt : Int)) (kt : b < a → Core Γ w h kc ks Q tgt ls st) (kf : ¬ (b < a) → Core Γ w h kc ks Q (pc + 3) ls st) : Core Γ w h kc ks Q pc ls (vI b :: vI a :: st) := by
  obtain ⟨⟨l, b0, D, dA⟩, ⟨p, e, R, s, m, args, below, meth, c⟩, adE, NE⟩ := Γ
  obtain ⟨hx, hb, hml, hown, hts, hKU, hret, hlk, hNE, hRR⟩ := g
  intro o1 o2 o3 ad H locs la e1 e2 e3 e4 e5
  have h2 : inI b := okD o3
  have h1 : inI a := okD (okT o3)
  have hc := ltI h2 h1
  exact lv_icmp_gt hx hb hd ht (fun q => kt (hc.mp q) o1 o2 (okT (okT o3)) ad H locs la e1 e2 e3 e4 e5) (fun q => kf (fun z => q (hc.mpr z)) o1 o2 (okT (okT o3)) ad H locs la e1 e2 e3 e4 e5)
theorem Co_if_gt {Γ : Cx} {cc : ByteArray} {nL : Nat} {own : String} {ret : Option FieldType} {rr : Room} (g : Gd Γ cc nL own ret rr) {w : Wd} {h : Hp} {kc ks : Nat} {Q : State → Prop} {pc : Nat} {ls : List (Nat × AV)} {st : List AV} {a : Int} {off : Int} {tgt : Nat} (hd : decode cc pc = .ok (.ifCond .gt off, 3)) (ht : (pc : Int) + off = (tgt : Int)) (kt : 0 < a → Core Γ w h kc ks Q tgt ls st) (kf : ¬ (0 < a) → Core Γ w h kc ks Q (pc + 3) ls st) : Core Γ w h kc ks Q pc ls (vI a :: st) := by
  obtain ⟨⟨l, b0, D, dA⟩, ⟨p, e, R, s, m, args, below, meth, c⟩, adE, NE⟩ := Γ
  obtain ⟨hx, hb, hml, hown, hts, hKU, hret, hlk, hNE, hRR⟩ := g
  intro o1 o2 o3 ad H locs la e1 e2 e3 e4 e5
  have h1 : inI a := okD o3
  have hc := ltI inI_0 h1
  exact lv_if_gt hx hb hd ht (fun q => kt (hc.mp q) o1 o2 (okT o3) ad H locs la e1 e2 e3 e4 e5) (fun q => kf (fun z => q (hc.mpr z)) o1 o2 (okT o3) ad H locs la e1 e2 e3 e4 e5)
theorem Co_icmp_le {Γ : Cx} {cc : ByteArray} {nL : Nat} {own : String} {ret : Option FieldType} {rr : Room} (g : Gd Γ cc nL own ret rr) {w : Wd} {h : Hp} {kc ks : Nat} {Q : State → Prop} {pc : Nat} {ls : List (Nat × AV)} {st : List AV} {a b : Int} {off : Int} {tgt : Nat} (hd : decode cc pc = .ok (.if_icmp .le off, 3)) (ht : (pc : Int) + off = (tgt : Int)) (kt : a ≤ b → Core Γ w h kc ks Q tgt ls st) (kf : ¬ (a ≤ b) → Core Γ w h kc ks Q (pc + 3) ls st) : Core Γ w h kc ks Q pc ls (vI b :: vI a :: st) := by
  obtain ⟨⟨l, b0, D, dA⟩, ⟨p, e, R, s, m, args, below, meth, c⟩, adE, NE⟩ := Γ
  obtain ⟨hx, hb, hml, hown, hts, hKU, hret, hlk, hNE, hRR⟩ := g
  intro o1 o2 o3 ad H locs la e1 e2 e3 e4 e5
  have h2 : inI b := okD o3
  have h1 : inI a := okD (okT o3)
  have hc := leI h1 h2
  exact lv_icmp_le hx hb hd ht (fun q => kt (hc.mp q) o1 o2 (okT (okT o3)) ad H locs la e1 e2 e3 e4 e5) (fun q => kf (fun z => q (hc.mpr z)) o1 o2 (okT (okT o3)) ad H locs la e1 e2 e3 e4 e5)
theorem Co_if_le {Γ : Cx} {cc : ByteArray} {nL : Nat} {own : String} {ret : Option FieldType} {rr : Room} (g : Gd Γ cc nL own ret rr) {w : Wd} {h : Hp} {kc ks : Nat} {Q : State → Prop} {pc : Nat} {ls : List (Nat × AV)} {st : List AV} {a : Int} {off : Int} {tgt : Nat} (hd : decode cc pc = .ok (.ifCond .le off, 3)) (ht : (pc : Int) + off = (tgt : Int)) (kt : a ≤ 0 → Core Γ w h kc ks Q tgt ls st) (kf : ¬ (a ≤ 0) → Core Γ w h kc ks Q (pc + 3) ls st) : Core Γ w h kc ks Q pc ls (vI a :: st) := by
  obtain ⟨⟨l, b0, D, dA⟩, ⟨p, e, R, s, m, args, below, meth, c⟩, adE, NE⟩ := Γ
  obtain ⟨hx, hb, hml, hown, hts, hKU, hret, hlk, hNE, hRR⟩ := g
  intro o1 o2 o3 ad H locs la e1 e2 e3 e4 e5
  have h1 : inI a := okD o3
  have hc := leI h1 inI_0
  exact lv_if_le hx hb hd ht (fun q => kt (hc.mp q) o1 o2 (okT o3) ad H locs la e1 e2 e3 e4 e5) (fun q => kf (fun z => q (hc.mpr z)) o1 o2 (okT o3) ad H locs la e1 e2 e3 e4 e5)
theorem Co_icmp_eq {Γ : Cx} {cc : ByteArray} {nL : Nat} {own : String} {ret : Option FieldType} {rr : Room} (g : Gd Γ cc nL own ret rr) {w : Wd} {h : Hp} {kc ks : Nat} {Q : State → Prop} {pc : Nat} {ls : List (Nat × AV)} {st : List AV} {a b : Int} {off : Int} {tgt : Nat} (hd : decode cc pc = .ok (.if_icmp .eq off, 3)) (ht : (pc : Int) + off = (tgt : Int)) (kt : a = b → Core Γ w h kc ks Q tgt ls st) (kf : ¬ (a = b) → Core Γ w h kc ks Q (pc + 3) ls st) : Core Γ w h kc ks Q pc ls (vI b :: vI a :: st) := by
  obtain ⟨⟨l, b0, D, dA⟩, ⟨p, e, R, s, m, args, below, meth, c⟩, adE, NE⟩ := Γ
  obtain ⟨hx, hb, hml, hown, hts, hKU, hret, hlk, hNE, hRR⟩ := g
  intro o1 o2 o3 ad H locs la e1 e2 e3 e4 e5
  have h2 : inI b := okD o3
  have h1 : inI a := okD (okT o3)
  have hc := eqI h1 h2
  exact lv_icmp_eq hx hb hd ht (fun q => kt (hc.mp q) o1 o2 (okT (okT o3)) ad H locs la e1 e2 e3 e4 e5) (fun q => kf (fun z => q (hc.mpr z)) o1 o2 (okT (okT o3)) ad H locs la e1 e2 e3 e4 e5)
theorem Co_if_eq {Γ : Cx} {cc : ByteArray} {nL : Nat} {own : String} {ret : Option FieldType} {rr : Room} (g : Gd Γ cc nL own ret rr) {w : Wd} {h : Hp} {kc ks : Nat} {Q : State → Prop} {pc : Nat} {ls : List (Nat × AV)} {st : List AV} {a : Int} {off : Int} {tgt : Nat} (hd : decode cc pc = .ok (.ifCond .eq off, 3)) (ht : (pc : Int) + off = (tgt : Int)) (kt : a = 0 → Core Γ w h kc ks Q tgt ls st) (kf : ¬ (a = 0) → Core Γ w h kc ks Q (pc + 3) ls st) : Core Γ w h kc ks Q pc ls (vI a :: st) := by
  obtain ⟨⟨l, b0, D, dA⟩, ⟨p, e, R, s, m, args, below, meth, c⟩, adE, NE⟩ := Γ
  obtain ⟨hx, hb, hml, hown, hts, hKU, hret, hlk, hNE, hRR⟩ := g
  intro o1 o2 o3 ad H locs la e1 e2 e3 e4 e5
  have h1 : inI a := okD o3
  have hc := eqI h1 inI_0
  exact lv_if_eq hx hb hd ht (fun q => kt (hc.mp q) o1 o2 (okT o3) ad H locs la e1 e2 e3 e4 e5) (fun q => kf (fun z => q (hc.mpr z)) o1 o2 (okT o3) ad H locs la e1 e2 e3 e4 e5)
theorem Co_icmp_ne {Γ : Cx} {cc : ByteArray} {nL : Nat} {own : String} {ret : Option FieldType} {rr : Room} (g : Gd Γ cc nL own ret rr) {w : Wd} {h : Hp} {kc ks : Nat} {Q : State → Prop} {pc : Nat} {ls : List (Nat × AV)} {st : List AV} {a b : Int} {off : Int} {tgt : Nat} (hd : decode cc pc = .ok (.if_icmp .ne off, 3)) (ht : (pc : Int) + off = (tgt : Int)) (kt : ¬ (a = b) → Core Γ w h kc ks Q tgt ls st) (kf : a = b → Core Γ w h kc ks Q (pc + 3) ls st) : Core Γ w h kc ks Q pc ls (vI b :: vI a :: st) := by
  obtain ⟨⟨l, b0, D, dA⟩, ⟨p, e, R, s, m, args, below, meth, c⟩, adE, NE⟩ := Γ
  obtain ⟨hx, hb, hml, hown, hts, hKU, hret, hlk, hNE, hRR⟩ := g
  intro o1 o2 o3 ad H locs la e1 e2 e3 e4 e5
  have h2 : inI b := okD o3
  have h1 : inI a := okD (okT o3)
  have hc := eqI h1 h2
  exact lv_icmp_ne hx hb hd ht (fun q => kt (fun z => q (hc.mpr z)) o1 o2 (okT (okT o3)) ad H locs la e1 e2 e3 e4 e5) (fun q => kf (hc.mp q) o1 o2 (okT (okT o3)) ad H locs la e1 e2 e3 e4 e5)
theorem Co_if_ne {Γ : Cx} {cc : ByteArray} {nL : Nat} {own : String} {ret : Option FieldType} {rr : Room} (g : Gd Γ cc nL own ret rr) {w : Wd} {h : Hp} {kc ks : Nat} {Q : State → Prop} {pc : Nat} {ls : List (Nat × AV)} {st : List AV} {a : Int} {off : Int} {tgt : Nat} (hd : decode cc pc = .ok (.ifCond .ne off, 3)) (ht : (pc : Int) + off = (tgt : Int)) (kt : ¬ (a = 0) → Core Γ w h kc ks Q tgt ls st) (kf : a = 0 → Core Γ w h kc ks Q (pc + 3) ls st) : Core Γ w h kc ks Q pc ls (vI a :: st) := by
  obtain ⟨⟨l, b0, D, dA⟩, ⟨p, e, R, s, m, args, below, meth, c⟩, adE, NE⟩ := Γ
  obtain ⟨hx, hb, hml, hown, hts, hKU, hret, hlk, hNE, hRR⟩ := g
  intro o1 o2 o3 ad H locs la e1 e2 e3 e4 e5
  have h1 : inI a := okD o3
  have hc := eqI h1 inI_0
  exact lv_if_ne hx hb hd ht (fun q => kt (fun z => q (hc.mpr z)) o1 o2 (okT o3) ad H locs la e1 e2 e3 e4 e5) (fun q => kf (hc.mp q) o1 o2 (okT o3) ad H locs la e1 e2 e3 e4 e5)
theorem Co_goto {Γ : Cx} {cc : ByteArray} {nL : Nat} {own : String} {ret : Option FieldType} {rr : Room} (g : Gd Γ cc nL own ret rr) {w : Wd} {h : Hp} {kc ks : Nat} {Q : State → Prop} {pc : Nat} {ls : List (Nat × AV)} {st : List AV} {off : Int} {tgt : Nat} (hd : decode cc pc = .ok (.goto off, 3)) (ht : (pc : Int) + off = (tgt : Int)) (k : Core Γ w h kc ks Q tgt ls st) : Core Γ w h kc ks Q pc ls st := by
  obtain ⟨⟨l, b0, D, dA⟩, ⟨p, e, R, s, m, args, below, meth, c⟩, adE, NE⟩ := Γ
  obtain ⟨hx, hb, hml, hown, hts, hKU, hret, hlk, hNE, hRR⟩ := g
  intro o1 o2 o3 ad H locs la e1 e2 e3 e4 e5
  exact lv_goto hx hb hd ht (k o1 o2 o3 ad H locs la e1 e2 e3 e4 e5)
theorem Co_ifnull {Γ : Cx} {cc : ByteArray} {nL : Nat} {own : String} {ret : Option FieldType} {rr : Room} (g : Gd Γ cc nL own ret rr) {w : Wd} {h : Hp} {kc ks : Nat} {Q : State → Prop} {pc : Nat} {ls : List (Nat × AV)} {st : List AV} {a : Nat} {off : Int} {tgt : Nat} (hd : decode cc pc = .ok (.ifnull off, 3)) (ht : (pc : Int) + off = (tgt : Int)) (kt : a = 0 → Core Γ w h kc ks Q tgt ls st) (kf : ¬ (a = 0) → Core Γ w h kc ks Q (pc + 3) ls st) : Core Γ w h kc ks Q pc ls (vP a :: st) := by
  obtain ⟨⟨l, b0, D, dA⟩, ⟨p, e, R, s, m, args, below, meth, c⟩, adE, NE⟩ := Γ
  obtain ⟨hx, hb, hml, hown, hts, hKU, hret, hlk, hNE, hRR⟩ := g
  intro o1 o2 o3 ad H locs la e1 e2 e3 e4 e5
  by_cases ha : a = 0
  · subst ha
    exact lv_ifnullN hx hb hd ht (kt rfl o1 o2 (okT o3) ad H locs la e1 e2 e3 e4 e5)
  · simp only [List.map_cons, toV, rf_ne ad ha]
    exact lv_ifnull hx hb hd (kf ha o1 o2 (okT o3) ad H locs la e1 e2 e3 e4 e5)
theorem Co_ifnonnull {Γ : Cx} {cc : ByteArray} {nL : Nat} {own : String} {ret : Option FieldType} {rr : Room} (g : Gd Γ cc nL own ret rr) {w : Wd} {h : Hp} {kc ks : Nat} {Q : State → Prop} {pc : Nat} {ls : List (Nat × AV)} {st : List AV} {a : Nat} {off : Int} {tgt : Nat} (hd : decode cc pc = .ok (.ifnonnull off, 3)) (ht : (pc : Int) + off = (tgt : Int)) (kt : ¬ (a = 0) → Core Γ w h kc ks Q tgt ls st) (kf : a = 0 → Core Γ w h kc ks Q (pc + 3) ls st) : Core Γ w h kc ks Q pc ls (vP a :: st) := by
  obtain ⟨⟨l, b0, D, dA⟩, ⟨p, e, R, s, m, args, below, meth, c⟩, adE, NE⟩ := Γ
  obtain ⟨hx, hb, hml, hown, hts, hKU, hret, hlk, hNE, hRR⟩ := g
  intro o1 o2 o3 ad H locs la e1 e2 e3 e4 e5
  by_cases ha : a = 0
  · subst ha
    exact lv_ifnonnullN hx hb hd (kf rfl o1 o2 (okT o3) ad H locs la e1 e2 e3 e4 e5)
  · simp only [List.map_cons, toV, rf_ne ad ha]
    exact lv_ifnonnull hx hb hd ht (kt ha o1 o2 (okT o3) ad H locs la e1 e2 e3 e4 e5)
theorem Co_sub {Γ : Cx} {cc : ByteArray} {nL : Nat} {own : String} {ret : Option FieldType} {rr : Room} (g : Gd Γ cc nL own ret rr) {w : Wd} {h : Hp} {kc ks : Nat} {Q : State → Prop} {pc : Nat} {ls : List (Nat × AV)} {st : List AV} {ls' : List (Nat × AV)} (is : List Nat) (hs : is.filterMap (fun i => ls[i]?) = ls') (k : Core Γ w h kc ks Q pc ls' st) : Core Γ w h kc ks Q pc ls st := by
  obtain ⟨⟨l, b0, D, dA⟩, ⟨p, e, R, s, m, args, below, meth, c⟩, adE, NE⟩ := Γ
  obtain ⟨hx, hb, hml, hown, hts, hKU, hret, hlk, hNE, hRR⟩ := g
  intro o1 o2 o3 ad H locs la e1 e2 e3 e4 e5
  have hm : ∀ q ∈ ls', q ∈ ls := fun q hq => by
    rw [← hs] at hq
    obtain ⟨i, -, hi⟩ := List.mem_filterMap.mp hq
    exact List.mem_of_getElem? hi
  refine k o1 (fun q hq => o2 q (hm q hq)) o3 ad H locs la e1 e2 e3 e4 ⟨e5.1, e5.2.1, fun q hq => ?_⟩
  obtain ⟨q0, h0, rfl⟩ := List.mem_map.mp hq
  exact e5.2.2 _ (List.mem_map.mpr ⟨q0, hm q0 h0, rfl⟩)
theorem Co_tabOut {Γ : Cx} {cc : ByteArray} {nL : Nat} {own : String} {ret : Option FieldType} {rr : Room} (g : Gd Γ cc nL own ret rr) {w : Wd} {h : Hp} {kc ks : Nat} {Q : State → Prop} {pc : Nat} {ls : List (Nat × AV)} {st : List AV} {dflt lo hi x : Int} {offs : Array Int} {len tgt : Nat} (hd : decode cc pc = .ok (.tableswitch dflt lo hi offs, len)) (hx1 : x < lo ∨ hi < x) (ht : (pc : Int) + dflt = (tgt : Int)) (k : Core Γ w h kc ks Q tgt ls st) : Core Γ w h kc ks Q pc ls (vI x :: st) := by
  obtain ⟨⟨l, b0, D, dA⟩, ⟨p, e, R, s, m, args, below, meth, c⟩, adE, NE⟩ := Γ
  obtain ⟨hx, hb, hml, hown, hts, hKU, hret, hlk, hNE, hRR⟩ := g
  intro o1 o2 o3 ad H locs la e1 e2 e3 e4 e5
  have h1 : inI x := okD o3
  exact lv_tableOut hx hb hd (by rw [toI h1]; exact hx1) ht (k o1 o2 (okT o3) ad H locs la e1 e2 e3 e4 e5)
theorem Co_tabIn {Γ : Cx} {cc : ByteArray} {nL : Nat} {own : String} {ret : Option FieldType} {rr : Room} (g : Gd Γ cc nL own ret rr) {w : Wd} {h : Hp} {kc ks : Nat} {Q : State → Prop} {pc : Nat} {ls : List (Nat × AV)} {st : List AV} {dflt lo hi x off : Int} {offs : Array Int} {len tgt : Nat} (hd : decode cc pc = .ok (.tableswitch dflt lo hi offs, len)) (hx1 : ¬ x < lo) (hx2 : ¬ hi < x) (ho : offs[(x - lo).toNat]? = some off) (ht : (pc : Int) + off = (tgt : Int)) (k : Core Γ w h kc ks Q tgt ls st) : Core Γ w h kc ks Q pc ls (vI x :: st) := by
  obtain ⟨⟨l, b0, D, dA⟩, ⟨p, e, R, s, m, args, below, meth, c⟩, adE, NE⟩ := Γ
  obtain ⟨hx, hb, hml, hown, hts, hKU, hret, hlk, hNE, hRR⟩ := g
  intro o1 o2 o3 ad H locs la e1 e2 e3 e4 e5
  have h1 : inI x := okD o3
  exact lv_tableIn hx hb hd (by rw [toI h1]; exact hx1) (by rw [toI h1]; exact hx2) (by rw [toI h1]; exact ho) ht (k o1 o2 (okT o3) ad H locs la e1 e2 e3 e4 e5)
