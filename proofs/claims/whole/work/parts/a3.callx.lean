section
variable {p : Program} {l : Launch} {e : Env} {R : Room} {s : State} {m : MethodId} {args : Array Value} {below : List Frame} {meth : Method} {c : Code} {H : Heap} {locs : List Jvm.Loc} {cells slots : Nat} {Q : State → Prop} {pc : Nat} {la : Array Slot} {rest st0 : List Value} {mc ms : Nat} {free : Addr → Prop}
theorem callx_any {Qa : State → Outcome → State → Prop} {XC : String → State → State → Prop} (hr : vx_Run p l e R s m args below meth c H locs cells slots mc ms (F0 m pc la st0) rest Qa XC free)
    (kx : ∀ (E : String) (ce : Cell) (q : Addr) (st₁ t : State) (H1 : Heap) (L : List Jvm.Loc), st₁.heap = H → t.heap = H1 → s.vm.Alike t.vm → XC E st₁ t → (∀ z ∈ L, free z.base) → H1[q]? = some ce → ce.vm = .none → s.vm.findClass E = some ce.cls → vx_W p l e R s m args below meth c H1 (locs ++ L) (cells + mc) (slots + ms) Q (F0 m pc la rest) q)
    (kk : ∀ (v : Option Value) (st₁ t : State) (H1 : Heap) (L : List Jvm.Loc), st₁.heap = H → t.heap = H1 → s.vm.Alike t.vm → Qa st₁ (.returned v) t → (∀ q ∈ L, free q.base) → W p l e R s m args below meth c H1 (locs ++ L) (cells + mc) (slots + ms) Q (F0 m (pc + 3) la (v.toList ++ rest))) : W p l e R s m args below meth c H locs cells slots Q (F0 m pc la st0) := by
  intro T hT X
  rcases hr T hT X with ⟨v, st₀, t, T', L, h0, X', hL, e1, e2, hq, st⟩ | ⟨q, st₀, t, T', L, E, ce, h0, X', hL, e1, e2, hq, hce, hcv, hcl, st⟩
  · obtain ⟨t2, a1, b1⟩ := kk v st₀ t T'.heap L h0 e1.symm (by rw [← e2]; exact X'.warmed.alike) hq hL T' rfl X'
    exact ⟨t2, st t2 a1, b1⟩
  · obtain ⟨t2, a1, b1⟩ := kx E ce q st₀ t T'.heap L h0 e1.symm (by rw [← e2]; exact X'.warmed.alike) hq hL (by rw [e1]; exact hce) hcv hcl T' rfl X'
    exact ⟨t2, st.trans a1, b1⟩
end
/-- behind a call: the frame's slots and what was written -/
theorem beh_S {b0 : Nat} {s st₁ t : State} {H H1 : Heap} {locs L : List Jvm.Loc} (e4 : va_S (fA b0) s.heap H locs) (h0 : st₁.heap = H) (ht : t.heap = H1) (a7 : va_F (fA b0) st₁ t) (hL : ∀ q ∈ L, fA b0 q.base) : va_S (fA b0) s.heap H1 (locs ++ L) := by
  unfold va_F at a7
  rw [h0, ht] at a7
  refine ⟨Nat.le_trans e4.1 a7.1, fun q h1 h2 => ?_, fun q hq => ?_⟩
  · rw [a7.2 q (Nat.lt_of_lt_of_le h1 e4.1) h2]; exact e4.2.1 q h1 h2
  · rcases List.mem_append.mp hq with z | z
    · exact e4.2.2 q z
    · exact hL q z
theorem good_cw {cw : Cond} (h : cw ∈ tblG) : GoodIn tblG (cw :: tblG) := by
  intro x hx
  rcases List.mem_cons.mp hx with rfl | hx
  · exact ⟨h, tbl_good _ h⟩
  · exact ⟨hx, tbl_good _ hx⟩
/-- a method that may throw is called -/
theorem Co_callVX {Γ : Cx} {cc : ByteArray} {nL : Nat} {own : String} {ret : Option FieldType} {rr : Room} (g : Gd Γ cc nL own ret rr) {sa : Nat → Nat} (gx : GX Γ sa) {w : Wd} {h : Hp} {kc ks : Nat} {Q : State → Prop} {pc : Nat} {ls : List (Nat × AV)} {st : List AV} {y : MethodName} {bytes : ByteArray} {maxL : Nat} {ret' : Option FieldType} {rm : Room} {As : List AV} {h' : Hp} {r : Int} {S : List AV} {idx : Nat} {b ci n N : Nat} {T : u_T} (hd : decode cc pc = .ok (.invokevirtual idx, 3)) (hC : CtX Γ.1 EA sa y (Cond.code y bytes maxL ret') rm (vP b :: As) w h h' r) (hst : S = As.reverse ++ vP b :: st) (hs : At w b (1, ci, n)) (hc : clT[ci]? = some (y.cls, T, N)) (him : Cond.instanceMethod y ∈ tblG) (hse : Cond.selects y.cls y y ∈ tblG) (hcw : Cond.code y bytes maxL ret' ∈ tblG) (hml1 : Cond.methodLink own idx y ∈ tblG) (hini : Cond.initialized y.cls ∈ tblG) (hd3 : y.cls ≠ "java/lang/invoke/MethodHandle" ∧ y.cls ≠ "java/lang/invoke/VarHandle" ∧ (parseMethodDescriptor y.desc).map (fun d => d.parameters.length) = some As.length) (hR : rm.frames + 1 ≤ rr.frames ∧ 8 + (maxL + 11) + rm.locals ≤ rr.locals) (hcs : kc + rm.cells ≤ rr.cells ∧ ks + rm.slots ≤ rr.slots) (hroom : aw st ≤ 8)
    (kx : ∀ E : String, ((r = TH1 ∧ E = IAE) ∨ (r = TH2 ∧ E = ISE)) → CoreX Γ w h' (kc + rm.cells) (ks + rm.slots) Q pc ls st E) (k : (r ≠ TH1 ∧ r ≠ TH2) → Core Γ w h' (kc + rm.cells) (ks + rm.slots) Q (pc + 3) ls (vJ r :: st)) : Core Γ w h kc ks Q pc ls S := by
  obtain ⟨⟨l, b0, D, dA⟩, ⟨p, e, R, s, m, args, below, meth, c⟩, adE, NE⟩ := Γ
  obtain ⟨hx, hb, hml, hown, hts, hKU, hret, hlk, hNE, hRR⟩ := g
  obtain ⟨hstk, hKX⟩ := gx
  intro o1 o2 o3 ad H locs la e1 e2 e3 e4 e5
  subst hRR
  subst hst
  have e1' : ∀ a, a < 16 → ad a = adE a := fun a ha => e1 a (hNE a ha)
  have hok : ∀ v ∈ (vP b :: As), okV v := okC trivial (fun v hv => o3 v (by simp [hv]))
  have hos : ∀ v ∈ st, okV v := fun v hv => o3 v (by simp [hv])
  have hM := hC o1 hok ad
  have hP : ∀ U : State, U.heap = H → s.WarmedH U.vm → PcX (l, b0, D, dA) sa ad w h ((vP b :: As)) (((vP b :: As)).map (toV ad)).toArray U := by
    intro U hU hW
    refine ⟨rfl, ⟨⟨va_K.moved hW.alike hKU.1, ?_, ?_, KN.warm hW hKU.2.2.2.1, hKU.2.2.2.2.1.moved hW.alike, hKU.2.2.2.2.2.moved hW.alike⟩, ?_⟩, by rw [hU]; exact e2, e3⟩
    · rw [hU]; exact KS.ad (KS.moved hW.alike (KS.kept hKU.2.1 (fun a h1 h2 => e4.2.1 a h1 h2))) e1'
    · rw [hU]; exact Nat.le_trans hKU.2.2.1 e4.1
    · rw [hU]; exact KX.warm hW hKX (fun a h1 h2 => e4.2.1 a h1 h2)
  rw [List.map_append, List.map_reverse, List.map_cons]
  have hbv : toV ad (vP b) = .ref (ad b) := rf_ne ad (at_ne0 hs)
  have he := wsO_get (dA := dA) (ad := ad) (h := h) hs.1 hs.2.1
  rw [cE_o hs.2.2] at he
  have hrecv := va_recv hKU.1 e2 hc he
  rw [List.map_cons, hbv] at hP
  rw [hbv]
  have hrun := vx_runV (Ts := tblG) (own := own) (C := y.cls) (cc := cc) (nL := c.maxLocals) (H := H) (locs := locs) (cells := kc) (slots := ks) (below := below) (e := e) (meth := meth) (b := ad b) (g := F0 m pc la ((As.map (toV ad)).reverse ++ .ref (ad b) :: st.map (toV ad))) (As := As.map (toV ad)) (rest := st.map (toV ad)) ⟨hx, hb, rfl, hown, hts⟩ hM ⟨callB_of As.length hts (good_cw hcw) rfl rfl rfl (hts _ hini) (hts _ hml1) hd3 hR, hts _ him, hts _ hse⟩ ⟨blindX, hrecv, hP⟩ rfl (by simp) e5.1 rfl (lv_room (by rw [aw_cat]; exact hroom)) hd hcs
  have hlv : ∀ ad2 : Nat → Nat, (∀ a, EA a → ad2 a = ad a) → lv_has la c.maxLocals (ls.map fun q => (q.1, toV ad2 q.2)) := fun ad2 a1 => by
    rw [show ad2 = ad from funext (fun a => a1 a trivial)]; exact e5
  refine callx_any hrun ?_ ?_
  · intro E ce q st₁ t H1 L h0 ht hvm hq hL hce hcv hcl
    obtain ⟨hE, ⟨ad2, a1, a3, a5, a6⟩, a7⟩ := hq
    have had : ad2 = ad := funext (fun a => a1 a trivial)
    subst had
    rw [ht] at a5
    exact kx E hE a3 o2 ad2 H1 (locs ++ L) la e1 a5 a6 (beh_S e4 h0 ht a7 hL) e5 q ce hce hcv hcl
  · intro v st₁ t H1 L h0 ht hvm hq hL
    obtain ⟨hne, ⟨ad2, a1, a2, a3, a4, a5, a6⟩, a7⟩ := hq
    have had : ad2 = ad := funext (fun a => a1 a trivial)
    subst had
    cases a2
    rw [ht] at a5
    exact k hne a3 o2 (okC (a4 _ rfl) hos) ad2 H1 (locs ++ L) la e1 a5 a6 (beh_S e4 h0 ht a7 hL) e5
/-- the contract of a method with a table of its own, that answers -/
def CtW (G : GG) (E : Nat → Prop) (sa : Nat → Nat) (y : MethodName) (cw : Cond) (rm : Room) (av : List AV) (w : Wd) (h h' : Hp) (r : Int) : Prop :=
  okH w h → (∀ v ∈ av, okV v) → ∀ adE : Nat → Nat, Met G.1 y (cw :: tblG) rm (PcX G sa adE w h av) (QcT G adE E w h' (some (vI r))) rm.cells rm.slots (fA G.2.1)
theorem mt_ofWH {l : Launch} {y : MethodName} {ws ws' : List Cond} {rm : Room} {Pc : Array Value → State → Prop} {Qc : Array Value → State → Outcome → State → Prop} {mc ms : Nat} {free : Addr → Prop} {cc : ByteArray} {maxL : Nat} {ret : Option FieldType} {hh : List (Nat × Nat × Nat × Nat)}
    (hy : plainName y.cls = true) (hw : ws = Cond.codeWith y cc maxL ret hh :: ws')
    (body : ∀ p e s m args below meth c s₁, BodyLoose p l y (headSpec ws rm) cc maxL ret e s m args below meth c s₁ → c.maxLocals = maxL → c.exceptionTable.toList = tableOf hh → Pc args s →
      W p l e (headSpec ws rm).room s m args below meth c s.heap [] 0 0 (MQ below Qc args s mc ms free) (entryFrame m args maxL)) : Met l y ws rm Pc Qc mc ms free := by
  refine MetFree.of_bodyS (code := cc) (maxLocals := maxL) (ret := ret) hy ?_ ?_
  · intro args s m h hn
    obtain ⟨m9, meth, c, hn9, h1, h2, h3, h4, -, h5, h6, -⟩ := Cond.codeWith_spec (atoms_spec (ws := ws) h _ (by rw [hw]; exact List.mem_cons_self))
    cases hn.symm.trans hn9
    exact ⟨meth, c, h1, h2, h3, h4, h5, h6⟩
  · intro p e s m args below meth c s₁ B hml hP _
    have hh0 : s₁.heap = s.heap := by rw [B.state]; rfl
    have ht := vx_table (x := y) B (atoms_spec (ws := ws) B.pre _ (by rw [hw]; exact List.mem_cons_self))
    obtain ⟨t, a1, o, b1, b2, b3⟩ := body p e s m args below meth c s₁ B hml ht hP s₁ hh0 (Stand.of_body B)
    exact ⟨t, o, a1, b1, b2, ⟨b3.1, b3.2⟩⟩
theorem CtW_of {G : GG} {E : Nat → Prop} {sa : Nat → Nat} {y : MethodName} {own : String} {cc : ByteArray} {maxL : Nat} {ret : Option FieldType} {hh : List (Nat × Nat × Nat × Nat)} {rm : Room} {av : List AV} {w : Wd} {h h' : Hp} {r : Int} (hy : plainName y.cls = true) (ho : y.cls = own) (hE : ∀ a, a < 16 → E a) (hw : aw av ≤ maxL) (hl : G.1.stackTraces = false)
    (body : ∀ Γ : Cx, Γ.1 = G → Γ.2.2.2 = E → Gd Γ cc maxL own ret rm → GX Γ sa → Γ.2.1.2.2.2.2.2.2.2.2.exceptionTable.toList = tableOf hh → Core Γ w h 0 0 (QM Γ rm.cells rm.slots w h' (some (vI r))) 0 (avL 0 av) []) : CtW G E sa y (Cond.codeWith y cc maxL ret hh) rm av w h h' r := by
  subst ho
  intro o1 o2 adE
  refine mt_ofWH (cc := cc) (maxL := maxL) (ret := ret) hy rfl ?_
  intro p e s m args below meth c s₁ B hml hnt hv
  obtain ⟨rfl, ⟨hKU, hKX⟩, hP, hD⟩ := hv
  obtain ⟨l, b0, D, dA⟩ := G
  have hts := atoms_spec (ws := Cond.codeWith y cc maxL ret hh :: tblG) B.pre
  have hown : s.vm.findClass y.cls = some m.cls := findClass_of_methodNamed B.named
  have hb := body ((l, b0, D, dA), (p, e, rm, s, m, (av.map (toV adE)).toArray, below, meth, c), adE, E) rfl rfl
    ⟨B.exec, B.bytes, hml, hown, fun x hx => hts x (List.mem_cons_of_mem _ hx), hKU, B.returns, B.notSynchronized, hE, rfl⟩ ⟨hl, hKX⟩ hnt
  rw [lg_entry_eq]
  have hl := lv_entry (av.map (toV adE)) (n := maxL) (by rw [aw_len]; exact hw)
  rw [avL_map] at hl
  refine hb o1 (avL_ok 0 av o2) (fun _ q => by cases q) adE s.heap [] _ (fun _ _ => rfl) hP hD va_S.rf ?_
  rw [hml]; exact hl
/-- .. and its call -/
theorem Co_callSW {Γ : Cx} {cc : ByteArray} {nL : Nat} {own : String} {ret : Option FieldType} {rr : Room} (g : Gd Γ cc nL own ret rr) {sa : Nat → Nat} (gx : GX Γ sa) {w : Wd} {h : Hp} {kc ks : Nat} {Q : State → Prop} {pc : Nat} {ls : List (Nat × AV)} {st : List AV} {y : MethodName} {bytes : ByteArray} {maxL : Nat} {ret' : Option FieldType} {hh : List (Nat × Nat × Nat × Nat)} {rm : Room} {As : List AV} {h' : Hp} {r : Int} {S : List AV} {idx : Nat} (hd : decode cc pc = .ok (.invokestatic idx, 3)) (hC : CtW Γ.1 EA sa y (Cond.codeWith y bytes maxL ret' hh) rm As w h h' r) (hst : S = As.reverse ++ st) (hsta : Cond.static y ∈ tblG) (hcw : Cond.codeWith y bytes maxL ret' hh ∈ tblG) (hml1 : Cond.methodLink own idx y ∈ tblG) (hini : Cond.initialized y.cls ∈ tblG) (hd3 : y.cls ≠ "java/lang/invoke/MethodHandle" ∧ y.cls ≠ "java/lang/invoke/VarHandle" ∧ (parseMethodDescriptor y.desc).map (fun d => d.parameters.length) = some As.length) (hR : rm.frames + 1 ≤ rr.frames ∧ 8 + (maxL + 11) + rm.locals ≤ rr.locals) (hcs : kc + rm.cells ≤ rr.cells ∧ ks + rm.slots ≤ rr.slots) (hroom : aw st ≤ 8) (k : Core Γ w h' (kc + rm.cells) (ks + rm.slots) Q (pc + 3) ls (vI r :: st)) : Core Γ w h kc ks Q pc ls S := by
  obtain ⟨⟨l, b0, D, dA⟩, ⟨p, e, R, s, m, args, below, meth, c⟩, adE, NE⟩ := Γ
  obtain ⟨hx, hb, hml, hown, hts, hKU, hret, hlk, hNE, hRR⟩ := g
  obtain ⟨hstk, hKX⟩ := gx
  intro o1 o2 o3 ad H locs la e1 e2 e3 e4 e5
  subst hRR
  subst hst
  have e1' : ∀ a, a < 16 → ad a = adE a := fun a ha => e1 a (hNE a ha)
  have hok : ∀ v ∈ As, okV v := fun v hv => o3 v (by simp [hv])
  have hos : ∀ v ∈ st, okV v := fun v hv => o3 v (by simp [hv])
  have hM := hC o1 hok ad
  have hP : ∀ U : State, U.heap = H → s.WarmedH U.vm → PcX (l, b0, D, dA) sa ad w h As (As.map (toV ad)).toArray U := by
    intro U hU hW
    refine ⟨rfl, ⟨⟨va_K.moved hW.alike hKU.1, ?_, ?_, KN.warm hW hKU.2.2.2.1, hKU.2.2.2.2.1.moved hW.alike, hKU.2.2.2.2.2.moved hW.alike⟩, ?_⟩, by rw [hU]; exact e2, e3⟩
    · rw [hU]; exact KS.ad (KS.moved hW.alike (KS.kept hKU.2.1 (fun a h1 h2 => e4.2.1 a h1 h2))) e1'
    · rw [hU]; exact Nat.le_trans hKU.2.2.1 e4.1
    · rw [hU]; exact KX.warm hW hKX (fun a h1 h2 => e4.2.1 a h1 h2)
  have hG : GoodIn tblG (va_wsS own idx y (Cond.codeWith y bytes maxL ret' hh :: tblG)) := by
    intro x hx
    rcases List.mem_append.mp hx with hx | hx
    · simp only [List.mem_cons, List.not_mem_nil, or_false] at hx
      rcases hx with rfl | rfl | rfl
      · exact ⟨hml1, tbl_good _ hml1⟩
      · exact ⟨hsta, tbl_good _ hsta⟩
      · exact ⟨hini, tbl_good _ hini⟩
    · exact good_cw hcw x hx
  rw [List.map_append, List.map_reverse]
  have hrun := vx_runSW (Ts := tblG) (own := own) (cc := cc) (nL := c.maxLocals) (H := H) (locs := locs) (cells := kc) (slots := ks) (below := below) (e := e) (meth := meth) (g := F0 m pc la ((As.map (toV ad)).reverse ++ st.map (toV ad))) (As := As.map (toV ad)) (rest := st.map (toV ad)) ⟨hx, hb, rfl, hown, hts⟩ hM (vx_cwSW As.length hts hG rfl rfl rfl hd3 hR) ⟨blindX, hP⟩ rfl (by simp) e5.1 rfl (lv_room (by rw [aw_cat]; exact hroom)) hd hcs
  refine call_any hrun ?_
  intro v st₁ t H1 L h0 ht hvm hq hL
  obtain ⟨⟨ad2, a1, a2, a3, a4, a5, a6⟩, a7⟩ := hq
  have had : ad2 = ad := funext (fun a => a1 a trivial)
  subst had
  cases a2
  rw [ht] at a5
  exact k a3 o2 (okC (a4 _ rfl) hos) ad2 H1 (locs ++ L) la e1 a5 a6 (beh_S e4 h0 ht a7 hL) e5
