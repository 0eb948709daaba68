/-! METHODS THAT THROW, in the abstract machine: row and at -/
def IAE : String := "java/lang/IllegalArgumentException"
def ISE : String := "java/lang/IllegalStateException"
def exN : List String := ["java/lang/RuntimeException", "java/lang/Exception"]
/-- words that no method's list holds: they ride in the world -/
def NX : List Cond := [.castable IAE IAE, .castable ISE ISE, .declares (Bundle.initS "java/lang/RuntimeException"), .declares (Bundle.initS "java/lang/Exception"), .declares (Bundle.initS Bundle.tN)]
theorem NX_on : ∀ c ∈ NX, c.onTables = true := List.all_eq_true.mp (by decide +kernel)
theorem NX_in : ∀ c ∈ NX, c ∈ lw_tbl := by
  have h : NX = ([1238, 1314, 1240, 1242, 1244] : List Nat).filterMap (fun i => tables_1[i]?) := by decide +kernel
  intro w hw; rw [h] at hw; obtain ⟨i, -, hi⟩ := List.mem_filterMap.mp hw; exact List.mem_append_right _ (List.mem_of_getElem? hi)
theorem at_IAE : ∀ w ∈ (vx_atS "GatePatch" 206 IAE exN).filter goodWord, w ∈ tblG := by
  have h : vx_atS "GatePatch" 206 IAE exN = ([15, 1258, 1267, 1270, 1273, 1275, 1259, 1260, 30, 31, 1261, 1266, 1271, 1291, 1248, 1292, 1250, 1293, 1252, 1262, 1264, 1254, 1287, 1288, 1290, 1254, 1278, 1279, 1280, 1281, 1240, 1281, 1282, 1283, 1284, 1242, 1284, 1285, 1286, 1287, 1244, 1277, 1237, 1238, 1245, 1246, 1247, 1249, 1251, 1253, 1257, 1256, 1255] : List Nat).filterMap (fun i => tables_1[i]?) := by decide +kernel
  intro w hw
  obtain ⟨h1, h2⟩ := List.mem_filter.mp hw
  rw [h] at h1; obtain ⟨i, -, hi⟩ := List.mem_filterMap.mp h1; exact mem_t i hi h2
theorem nx_IAE : ∀ w ∈ (vx_atS "GatePatch" 206 IAE exN).filter (fun w => !goodWord w), w ∈ NX := by decide +kernel
theorem ot_IAE : ∀ ik : Nat, (ik = 202 ∨ ik = 479) → ∀ w ∈ Cond.classLink "GatePatch" ik IAE :: Cond.initialized IAE :: vx_atS "GatePatch" 206 IAE exN, vx_ot w = true := by
  intro ik h; rcases h with rfl | rfl <;> exact List.all_eq_true.mp (by decide +kernel)
theorem at_ISE : ∀ w ∈ (vx_atS "GatePatch" 483 ISE exN).filter goodWord, w ∈ tblG := by
  have h : vx_atS "GatePatch" 483 ISE exN = ([15, 1258, 1267, 1270, 1273, 1275, 1259, 1260, 30, 31, 1261, 1266, 1271, 1291, 1248, 1292, 1250, 1293, 1252, 1262, 1264, 1254, 1287, 1288, 1290, 1254, 1323, 1324, 1325, 1281, 1240, 1281, 1282, 1283, 1284, 1242, 1284, 1285, 1286, 1287, 1244, 1322, 1313, 1314, 1315, 1269, 1316, 1317, 1318, 1319, 1257, 1256, 1320] : List Nat).filterMap (fun i => tables_1[i]?) := by decide +kernel
  intro w hw
  obtain ⟨h1, h2⟩ := List.mem_filter.mp hw
  rw [h] at h1; obtain ⟨i, -, hi⟩ := List.mem_filterMap.mp h1; exact mem_t i hi h2
theorem nx_ISE : ∀ w ∈ (vx_atS "GatePatch" 483 ISE exN).filter (fun w => !goodWord w), w ∈ NX := by decide +kernel
theorem ot_ISE : ∀ ik : Nat, (ik = 202 ∨ ik = 479) → ∀ w ∈ Cond.classLink "GatePatch" ik ISE :: Cond.initialized ISE :: vx_atS "GatePatch" 483 ISE exN, vx_ot w = true := by
  intro ik h; rcases h with rfl | rfl <;> exact List.all_eq_true.mp (by decide +kernel)
/-- what a throw needs of the world -/
def KX (b0 : Nat) (sa : Nat → Nat) (U : State) (H : Heap) : Prop :=
  (vx_Zq Bundle.tN "UNASSIGNED_STACK" Bundle.steD (fA b0) U H ∧ vx_Zq Bundle.tN "SUPPRESSED_SENTINEL" Bundle.listD (fA b0) U H) ∧ (vk_R "GatePatch" 204 "no such net, wire or part" (sa 0) U ∧ vk_R "GatePatch" 477 "no such tape" (sa 1) U ∧ vk_R "GatePatch" 481 "no row with such a place" (sa 2) U) ∧ (∀ c ∈ NX, va_Nw c U) ∧ va_Nc ISE IAE U
theorem KX.warm {b0 : Nat} {sa : Nat → Nat} {s U : State} {H : Heap} (hW : s.WarmedH U.vm) (k : KX b0 sa s s.heap) (hk : ∀ a : Nat, a < s.heap.size → ¬ fA b0 a → H[a]? = s.heap[a]?) : KX b0 sa U H := by
  obtain ⟨⟨k1, k2⟩, ⟨k3, k4, k5⟩, k6, k7⟩ := k
  refine ⟨⟨vx_Zq.moved hW.alike (k1.kept hk), vx_Zq.moved hW.alike (k2.kept hk)⟩, ⟨k3.warm hW, k4.warm hW, k5.warm hW⟩, fun c hc => ?_, k7.moved hW.alike⟩
  have h := k6 c hc
  simp only [NX, List.mem_cons, List.not_mem_nil, or_false] at hc
  rcases hc with rfl | rfl | rfl | rfl | rfl <;> first | exact va_Nw.warmC hW h | exact va_Nw.warmD hW h
theorem KX.call {b0 : Nat} {sa : Nat → Nat} {a : Array Value} {U : State} {g : JFrame} {mk : MethodId} (k : KX b0 sa U U.heap) : KX b0 sa (U.calling g mk a) (U.calling g mk a).heap := by
  obtain ⟨⟨k1, k2⟩, ⟨k3, k4, k5⟩, k6, k7⟩ := k
  exact ⟨⟨vx_Zq.moved (u := U) (U := U.calling g mk a) (Vm.Alike.refl U.vm) k1, vx_Zq.moved (u := U) (U := U.calling g mk a) (Vm.Alike.refl U.vm) k2⟩, ⟨vk_R.same (u := U) (U := U.calling g mk a) rfl k3, vk_R.same (u := U) (U := U.calling g mk a) rfl k4, vk_R.same (u := U) (U := U.calling g mk a) rfl k5⟩, fun c hc => va_Nw.same (u := U) (U := U.calling g mk a) (NX_on c hc) rfl (k6 c hc), va_Nc.moved (u := U) (U := U.calling g mk a) (Vm.Alike.refl U.vm) k7⟩
def PcX (G : GG) (sa : Nat → Nat) (adE : Nat → Nat) (w : Wd) (h : Hp) (av : List AV) : Array Value → State → Prop := va_Pc (av.map (toV adE)) (fun U => (KU G adE U ∧ KX G.2.1 sa U U.heap) ∧ va_P G.2.2.1 clT (wsO G.2.2.2 adE w h) U.heap ∧ va_D (fA G.2.1) (wsO G.2.2.2 adE w h))
theorem blindX {G : GG} {sa : Nat → Nat} {adE : Nat → Nat} {w : Wd} {h : Hp} {av : List AV} : FrameBlind (PcX G sa adE w h av) := by
  intro a U g mk q
  obtain ⟨q0, ⟨⟨k1, k2, k3, k4, k5, k6⟩, kx⟩, q1⟩ := q
  exact ⟨q0, ⟨⟨va_K.moved (u := U) (U := U.calling g mk a) (Vm.Alike.refl U.vm) k1, KS.moved (u := U) (U := U.calling g mk a) (Vm.Alike.refl U.vm) k2, k3, KN.same (u := U) (U := U.calling g mk a) rfl k4, k5.moved (u := U) (U := U.calling g mk a) (Vm.Alike.refl U.vm), k6.moved (u := U) (U := U.calling g mk a) (Vm.Alike.refl U.vm)⟩, kx.call⟩, q1⟩
def QxT (G : GG) (adE : Nat → Nat) (NE : Nat → Prop) (w : Wd) (h : Hp) (r : Int) : Array Value → State → Outcome → State → Prop := fun a st oc t => (r ≠ TH1 ∧ r ≠ TH2) ∧ QcT G adE NE w h (some (vJ r)) a st oc t
def XcT (G : GG) (adE : Nat → Nat) (NE : Nat → Prop) (w : Wd) (h : Hp) (r : Int) : String → State → State → Prop := fun E st t => ((r = TH1 ∧ E = IAE) ∨ (r = TH2 ∧ E = ISE)) ∧ (∃ ad : Nat → Nat, (∀ a, NE a → ad a = adE a) ∧ okH w h ∧ va_P G.2.2.1 clT (wsO G.2.2.2 ad w h) t.heap ∧ va_D (fA G.2.1) (wsO G.2.2.2 ad w h)) ∧ va_F (fA G.2.1) st t
/-- the contract of a method that throws -/
def CtX (G : GG) (E : Nat → Prop) (sa : Nat → Nat) (y : MethodName) (cw : Cond) (rm : Room) (av : List AV) (w : Wd) (h h' : Hp) (r : Int) : Prop :=
  okH w h → (∀ v ∈ av, okV v) → ∀ adE : Nat → Nat, vx_Met G.1 y (cw :: tblG) rm (PcX G sa adE w h av) (QxT G adE E w h' r) (XcT G adE E w h' r) rm.cells rm.slots (fA G.2.1)
def QX (Γ : Cx) (mc ms : Nat) (w : Wd) (h : Hp) (r : Int) : State → Prop := match Γ with
  | ((l, b0, D, dA), (_, _, _, s, _, args, below, _, _), adE, NE) => vx_MQ below (QxT (l, b0, D, dA) adE NE w h r) (XcT (l, b0, D, dA) adE NE w h r) args s mc ms (fA b0)
def GX (Γ : Cx) (sa : Nat → Nat) : Prop := match Γ with
  | ((l, b0, _, _), (_, _, _, s, _, _, _, _, _), _, _) => l.stackTraces = false ∧ KX b0 sa s s.heap
def NT (Γ : Cx) : Prop := match Γ with
  | (_, (_, _, _, _, _, _, _, _, c), _, _) => ∀ x ∈ c.exceptionTable.toList, False
theorem CtX_of {G : GG} {E : Nat → Prop} {sa : Nat → Nat} {y : MethodName} {own : String} {cc : ByteArray} {maxL : Nat} {ret : Option FieldType} {rm : Room} {av : List AV} {w : Wd} {h h' : Hp} {r : Int} (hy : plainName y.cls = true) (ho : y.cls = own) (hE : ∀ a, a < 16 → E a) (hw : aw av ≤ maxL) (hl : G.1.stackTraces = false)
    (body : ∀ Γ : Cx, Γ.1 = G → Γ.2.2.2 = E → Gd Γ cc maxL own ret rm → GX Γ sa → NT Γ → Core Γ w h 0 0 (QX Γ rm.cells rm.slots w h' r) 0 (avL 0 av) []) : CtX G E sa y (Cond.code y cc maxL ret) rm av w h h' r := by
  subst ho
  intro o1 o2 adE
  refine vx_ofW (cc := cc) (maxL := maxL) (ret := ret) hy rfl ?_
  intro p e s m args below meth c s₁ B hml hnt hv
  obtain ⟨rfl, ⟨hKU, hKX⟩, hP, hD⟩ := hv
  obtain ⟨l, b0, D, dA⟩ := G
  have hts := atoms_spec (ws := Cond.code y cc maxL ret :: tblG) B.pre
  have hown : s.vm.findClass y.cls = some m.cls := findClass_of_methodNamed B.named
  have hb := body ((l, b0, D, dA), (p, e, rm, s, m, (av.map (toV adE)).toArray, below, meth, c), adE, E) rfl rfl
    ⟨B.exec, B.bytes, hml, hown, fun x hx => hts x (List.mem_cons_of_mem _ hx), hKU, B.returns, B.notSynchronized, hE, rfl⟩ ⟨hl, hKX⟩ hnt
  rw [lg_entry_eq]
  have hl := lv_entry (av.map (toV adE)) (n := maxL) (by rw [aw_len]; exact hw)
  rw [avL_map] at hl
  refine hb o1 (avL_ok 0 av o2) (fun _ q => by cases q) adE s.heap [] _ (fun _ _ => rfl) hP hD va_S.rf ?_
  rw [hml]; exact hl
theorem TH_ne {x : Int} (h : inJ x) : x ≠ TH1 ∧ x ≠ TH2 := by
  unfold inJ at h
  constructor
  · intro e; rw [e] at h; exact absurd h.2 (by unfold TH1; decide)
  · intro e; rw [e] at h; exact absurd h.2 (by unfold TH2; decide)
/-- it answers -/
theorem Co_retX {Γ : Cx} {cc : ByteArray} {nL : Nat} {own : String} {ret : Option FieldType} {rr : Room} (g : Gd Γ cc nL own ret rr) {w : Wd} {h : Hp} {kc ks mc ms : Nat} {pc : Nat} {ls : List (Nat × AV)} {x : Int} (hd : decode cc pc = .ok (.lreturn, 1)) (hrt : ret = some .long) (hc : kc ≤ mc ∧ ks ≤ ms) : Core Γ w h kc ks (QX Γ mc ms w h x) pc ls [vJ x] := by
  obtain ⟨⟨l, b0, D, dA⟩, ⟨p, e, R, s, m, args, below, meth, c⟩, adE, NE⟩ := Γ
  obtain ⟨hx, hb, hml, hown, hts, hKU, hret, hlk, hNE, hRR⟩ := g
  intro o1 o2 o3 ad H locs la e1 e2 e3 e4 e5
  have hx9 : inJ x := okD o3
  have hq : ∀ t : State, t.heap = H → QxT (l, b0, D, dA) adE NE w h x args s (.returned ((some (vJ x)).map (toV ad))) t := fun t ht => ⟨TH_ne hx9, ⟨ad, e1, rfl, o1, fun v hv => o3 v (by simp at hv; simp [hv]), by rw [ht]; exact e2, e3⟩, e4.F ht⟩
  exact W.widen hc.1 hc.2 (vx_ret (W.lret hx hb (by rw [hret, hrt]) (fun t ht _ => hq t ht) e4.2.2 hd hlk))
theorem thr_end {G : GG} {adE ad : Nat → Nat} {NE : Nat → Prop} {w : Wd} {h : Hp} {r : Int} {cls : String} {s t : State} {H : Heap} {locs : List Jvm.Loc} (hr : (r = TH1 ∧ cls = IAE) ∨ (r = TH2 ∧ cls = ISE)) (o1 : okH w h) (e1 : ∀ a, NE a → ad a = adE a) (e2 : va_P G.2.2.1 clT (wsO G.2.2.2 ad w h) H) (e3 : va_D (fA G.2.1) (wsO G.2.2.2 ad w h)) (e4 : va_S (fA G.2.1) s.heap H locs) (hz : H.size ≤ t.heap.size) (hk : ∀ q : Nat, q < H.size → t.heap[q]? = H[q]?) : XcT G adE NE w h r cls s t :=
  ⟨hr, ⟨ad, e1, o1, e2.kept (fun j x hx => hk x.1 (e2 j x hx).lt), e3⟩, Nat.le_trans e4.1 hz, fun q h1 h2 => by rw [hk q (Nat.lt_of_lt_of_le h1 e4.1)]; exact e4.2.1 q h1 h2⟩
/-- it throws: new, dup, ldc, invokespecial, athrow -/
theorem Co_thr {Γ : Cx} {cc : ByteArray} {nL : Nat} {ret : Option FieldType} {rr : Room} (g : Gd Γ cc nL "GatePatch" ret rr) {sa : Nat → Nat} (gx : GX Γ sa) (nt : NT Γ) {w : Wd} {h : Hp} {kc ks mc ms : Nat} {pc : Nat} {ls : List (Nat × AV)} {st : List AV} {ik is ic k : Nat} {cls text : String} {r : Int} (hr : (r = TH1 ∧ cls = IAE) ∨ (r = TH2 ∧ cls = ISE)) (hfit : Bundle.fit cls = true) (hs0 : ∀ {U : State} {H : Heap}, KX Γ.1.2.1 sa U H → vk_R "GatePatch" is text (sa k) U) (hcl : Cond.classLink "GatePatch" ik cls ∈ tblG) (hini : Cond.initialized cls ∈ tblG) (ha : ∀ w ∈ (vx_atS "GatePatch" ic cls exN).filter goodWord, w ∈ tblG) (hn : ∀ w ∈ (vx_atS "GatePatch" ic cls exN).filter (fun w => !goodWord w), w ∈ NX) (hg : ∀ w ∈ Cond.classLink "GatePatch" ik cls :: Cond.initialized cls :: vx_atS "GatePatch" ic cls exN, vx_ot w = true)
    (d0 : decode cc pc = .ok (.new ik, 3)) (d3 : decode cc (pc + 3) = .ok (.dup, 1)) (d4 : decode cc (pc + 4) = .ok (.ldc is, 2)) (d6 : decode cc (pc + 6) = .ok (.invokespecial ic, 3)) (d9 : decode cc (pc + 9) = .ok (.athrow, 1)) (hR : 5 < rr.frames ∧ aw st + 82 ≤ rr.locals ∧ kc + 1 ≤ rr.cells ∧ ks + 6 ≤ rr.slots) (hc : kc + 1 ≤ mc ∧ ks + 6 ≤ ms) : Core Γ w h kc ks (QX Γ mc ms w h r) pc ls st := by
  obtain ⟨⟨l, b0, D, dA⟩, ⟨p, e, R, s, m, args, below, meth, c⟩, adE, NE⟩ := Γ
  obtain ⟨hx, hb, hml, hown, hts, hKU, hret, hlk, hNE, hRR⟩ := g
  obtain ⟨hst, kx⟩ := gx
  subst hRR
  intro o1 o2 o3 ad H locs la e1 e2 e3 e4 e5
  have hnames : ∀ n ∈ exN, Bundle.fit n = true := List.all_eq_true.mp (by decide +kernel)
  exact vx_throwS (names := exN) (A := fA b0) hx hb hst hown hfit hnames (hts _ hcl) (hts _ hini) (hs0 kx) (vx_hat (fun w hw => hts w (ha w hw)) hn (fun w hw => va_Nw.use (NX_on w hw) (kx.2.2.1 w hw))) hg kx.1.1 kx.1.2 e4 e5.1 d0 d3 d4 d6 d9 (fun x hx => (nt x hx).elim) hR.1 (by rw [aw_cat]; exact hR.2.1) hR.2.2.1 hR.2.2.2 hlk
    (fun t hA hz hk => thr_end (G := (l, b0, D, dA)) hr o1 e1 e2 e3 e4 hz hk) e4.2.2 hc.1 hc.2
theorem Co_thrW {Γ : Cx} {cc : ByteArray} {nL : Nat} {ret : Option FieldType} {rr : Room} (g : Gd Γ cc nL "GatePatch" ret rr) {sa : Nat → Nat} (gx : GX Γ sa) (nt : NT Γ) {w : Wd} {h : Hp} {kc ks mc ms : Nat} {pc : Nat} {ls : List (Nat × AV)} {st : List AV} {ik is ic k : Nat} {cls text : String} {r : Int} (hr : (r = TH1 ∧ cls = IAE) ∨ (r = TH2 ∧ cls = ISE)) (hfit : Bundle.fit cls = true) (hs0 : ∀ {U : State} {H : Heap}, KX Γ.1.2.1 sa U H → vk_R "GatePatch" is text (sa k) U) (hcl : Cond.classLink "GatePatch" ik cls ∈ tblG) (hini : Cond.initialized cls ∈ tblG) (ha : ∀ w ∈ (vx_atS "GatePatch" ic cls exN).filter goodWord, w ∈ tblG) (hn : ∀ w ∈ (vx_atS "GatePatch" ic cls exN).filter (fun w => !goodWord w), w ∈ NX) (hg : ∀ w ∈ Cond.classLink "GatePatch" ik cls :: Cond.initialized cls :: vx_atS "GatePatch" ic cls exN, vx_ot w = true)
    (d0 : decode cc pc = .ok (.new ik, 3)) (d3 : decode cc (pc + 3) = .ok (.dup, 1)) (d4 : decode cc (pc + 4) = .ok (.ldc_w is, 3)) (d7 : decode cc (pc + 7) = .ok (.invokespecial ic, 3)) (d10 : decode cc (pc + 10) = .ok (.athrow, 1)) (hR : 5 < rr.frames ∧ aw st + 82 ≤ rr.locals ∧ kc + 1 ≤ rr.cells ∧ ks + 6 ≤ rr.slots) (hc : kc + 1 ≤ mc ∧ ks + 6 ≤ ms) : Core Γ w h kc ks (QX Γ mc ms w h r) pc ls st := by
  obtain ⟨⟨l, b0, D, dA⟩, ⟨p, e, R, s, m, args, below, meth, c⟩, adE, NE⟩ := Γ
  obtain ⟨hx, hb, hml, hown, hts, hKU, hret, hlk, hNE, hRR⟩ := g
  obtain ⟨hst, kx⟩ := gx
  subst hRR
  intro o1 o2 o3 ad H locs la e1 e2 e3 e4 e5
  have hnames : ∀ n ∈ exN, Bundle.fit n = true := List.all_eq_true.mp (by decide +kernel)
  exact vx_throwSW (names := exN) (A := fA b0) hx hb hst hown hfit hnames (hts _ hcl) (hts _ hini) (hs0 kx) (vx_hat (fun w hw => hts w (ha w hw)) hn (fun w hw => va_Nw.use (NX_on w hw) (kx.2.2.1 w hw))) hg kx.1.1 kx.1.2 e4 e5.1 d0 d3 d4 d7 d10 (fun x hx => (nt x hx).elim) hR.1 (by rw [aw_cat]; exact hR.2.1) hR.2.2.1 hR.2.2.2 hlk
    (fun t hA hz hk => thr_end (G := (l, b0, D, dA)) hr o1 e1 e2 e3 e4 hz hk) e4.2.2 hc.1 hc.2
/-- where something has been thrown over the frame -/
def CoreX (Γ : Cx) (w : Wd) (h : Hp) (kc ks : Nat) (Q : State → Prop) (pc : Nat) (ls : List (Nat × AV)) (st : List AV) (E : String) : Prop := match Γ with
  | ((l, b0, D, dA), (p, e, R, s, m, args, below, meth, c), adE, NE) =>
    okH w h → (∀ q ∈ ls, okV q.2) → ∀ (ad : Nat → Nat) (H : Heap) (locs : List Jvm.Loc) (la : Array Slot), (∀ a, NE a → ad a = adE a) → va_P D clT (wsO dA ad w h) H → va_D (fA b0) (wsO dA ad w h) → va_S (fA b0) s.heap H locs → lv_has la c.maxLocals (ls.map fun q => (q.1, toV ad q.2)) →
      ∀ (q : Addr) (ce : Cell), H[q]? = some ce → ce.vm = .none → s.vm.findClass E = some ce.cls → vx_W p l e R s m args below meth c H locs kc ks Q (F0 m pc la (st.map (toV ad))) q
/-- caught: the handler puts it away -/
theorem Co_catch {Γ : Cx} {cc : ByteArray} {nL : Nat} {own : String} {ret : Option FieldType} {rr : Room} (g : Gd Γ cc nL own ret rr) {w : Wd} {h : Hp} {kc ks : Nat} {Q : State → Prop} {pc i : Nat} {ls : List (Nat × AV)} {st : List AV} {E : String} (pre : List ExceptionTableEntry) (x : ExceptionTableEntry) (suf : List ExceptionTableEntry) (hsplit : Γ.2.1.2.2.2.2.2.2.2.2.exceptionTable.toList = pre ++ x :: suf) (hpass : ∀ z ∈ pre, covers z pc = false ∨ (z.catchType ≠ 0 ∧ ∃ nm : String, Cond.classLink own z.catchType nm ∈ tblG ∧ va_Nc E nm Γ.2.1.2.2.2.1)) (hx0 : covers x pc = true) (h0 : x.catchType ≠ 0) (hlink : Cond.classLink own x.catchType E ∈ tblG) (hcast : (Cond.castable E E).before Γ.2.1.2.2.2.2.2.1 Γ.2.1.2.2.2.1 = true) (hd : decode cc x.handlerPc = .ok (.astore i, 2)) (hi : i < nL) (k : Core Γ w h kc ks Q (x.handlerPc + 2) [] []) : CoreX Γ w h kc ks Q pc ls st E := by
  obtain ⟨⟨l, b0, D, dA⟩, ⟨p, e, R, s, m, args, below, meth, c⟩, adE, NE⟩ := Γ
  obtain ⟨hx, hb, hml, hown, hts, hKU, hret, hlk, hNE, hRR⟩ := g
  intro o1 o2 ad H locs la e1 e2 e3 e4 e5 q ce hq hv hcl
  refine vx_catch hown pre x suf hsplit (fun z hz => (hpass z hz).elim Or.inl (fun y => Or.inr ⟨y.1, y.2.elim (fun nm u => ⟨nm, hts _ u.1, u.2⟩)⟩)) hx0 h0 (hts _ hlink) hcast hq hv hcl ?_
  have hl0 : lv_has la c.maxLocals ([] : List (Nat × Value)) := lv_sub e5 [] rfl
  refine lv_astore (lv' := [(i, .ref q)]) hx hb hd hl0 (by rw [hml]; exact hi) rfl (fun ls2 hl2 => ?_)
  exact k o1 (fun _ z => by cases z) (fun _ z => by cases z) ad H locs ls2 e1 e2 e3 e4 (lv_sub hl2 [] rfl)
