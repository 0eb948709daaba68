/-! CONTRACTS, CALLS, RETURNS -/
def QcT (G : GG) (adE : Nat → Nat) (NE : Nat → Prop) (w : Wd) (h : Hp) (r : Option AV) : Array Value → State → Outcome → State → Prop := fun _ st oc t =>
  (∃ ad : Nat → Nat, (∀ a, NE a → ad a = adE a) ∧ oc = .returned (r.map (toV ad)) ∧ okH w h ∧ (∀ v, r = some v → okV v) ∧ va_P G.2.2.1 clT (wsO G.2.2.2 ad w h) t.heap ∧ va_D (fA G.2.1) (wsO G.2.2.2 ad w h)) ∧ va_F (fA G.2.1) st t
def PcT (G : GG) (adE : Nat → Nat) (w : Wd) (h : Hp) (av : List AV) : Array Value → State → Prop := va_Pc (av.map (toV adE)) (fun U => KU G adE U ∧ va_P G.2.2.1 clT (wsO G.2.2.2 adE w h) U.heap ∧ va_D (fA G.2.1) (wsO G.2.2.2 adE w h))
def Ct (G : GG) (E : Nat → Prop) (y : MethodName) (cw : Cond) (rm : Room) (av : List AV) (w : Wd) (h : Hp) (w' : Wd) (h' : Hp) (r : Option AV) : Prop :=
  okH w h → (∀ v ∈ av, okV v) → ∀ adE : Nat → Nat, Met G.1 y (cw :: tblG) rm (PcT G adE w h av) (QcT G adE E w' h' r) rm.cells rm.slots (fA G.2.1)
def QM (Γ : Cx) (kc ks : Nat) (w : Wd) (h : Hp) (r : Option AV) : State → Prop := match Γ with
  | ((l, b0, D, dA), (_, _, _, s, _, args, below, _, _), adE, NE) => MQ below (QcT (l, b0, D, dA) adE NE w h r) args s kc ks (fA b0)
theorem KS.moved {b0 : Nat} {ad : Nat → Nat} {u U : State} {H : Heap} (hvm : u.vm.Alike U.vm) (k : KS b0 ad u H) : KS b0 ad U H :=
  ⟨k.1.moved hvm, k.2.1.moved hvm, k.2.2.1.moved hvm, k.2.2.2.1.moved hvm, k.2.2.2.2.1.moved hvm, k.2.2.2.2.2.moved hvm⟩
theorem KS.kept {b0 : Nat} {ad : Nat → Nat} {U : State} {H H1 : Heap} (k : KS b0 ad U H) (hq : ∀ a : Nat, a < H.size → ¬ fA b0 a → H1[a]? = H[a]?) : KS b0 ad U H1 :=
  ⟨k.1.kept hq, k.2.1.kept hq, k.2.2.1.kept hq, k.2.2.2.1.kept hq, k.2.2.2.2.1.kept hq, k.2.2.2.2.2.kept hq⟩
theorem KS.ad {b0 : Nat} {ad ad' : Nat → Nat} {U : State} {H : Heap} (k : KS b0 ad U H) (e : ∀ a, a < 16 → ad' a = ad a) : KS b0 ad' U H := by
  unfold KS at k ⊢
  rw [e 1 (by omega), e 2 (by omega), e 3 (by omega)]; exact k
theorem blindP {G : GG} {adE : Nat → Nat} {w : Wd} {h : Hp} {av : List AV} : FrameBlind (PcT G adE w h av) := by
  intro a U g mk q
  obtain ⟨q0, ⟨k1, k2, k3, k4, k5, k6⟩, q1⟩ := q
  exact ⟨q0, ⟨va_K.moved (u := U) (U := U.calling g mk a) (Vm.Alike.refl U.vm) k1, KS.moved (u := U) (U := U.calling g mk a) (Vm.Alike.refl U.vm) k2, k3, KN.same (u := U) (U := U.calling g mk a) rfl k4, k5.moved (u := U) (U := U.calling g mk a) (Vm.Alike.refl U.vm), k6.moved (u := U) (U := U.calling g mk a) (Vm.Alike.refl U.vm)⟩, q1⟩
def avL : Nat → List AV → List (Nat × AV)
  | _, [] => []
  | i, v :: vs => (i, v) :: avL (if isJ v = true then i + 2 else i + 1) vs
theorem avL_map (ad : Nat → Nat) : ∀ (i : Nat) (av : List AV), lv_args i (av.map (toV ad)) = (avL i av).map (fun q => (q.1, toV ad q.2))
  | _, [] => rfl
  | i, v :: vs => by
    have h := catB ad v
    simp only [List.map_cons, lv_args, avL]
    cases hj : isJ v
    · rw [hj] at h
      have h1 : ¬ (toV ad v).category = 2 := by simpa using h
      rw [if_neg h1, if_neg (by simp), avL_map ad _ vs]
    · rw [hj] at h
      have h1 : (toV ad v).category = 2 := by simpa using h
      rw [if_pos h1, if_pos rfl, avL_map ad _ vs]
theorem avL_ok : ∀ (i : Nat) (av : List AV), (∀ v ∈ av, okV v) → ∀ q ∈ avL i av, okV q.2
  | _, [], _, q, hq => by cases hq
  | i, v :: vs, h, q, hq => by
    rcases List.mem_cons.mp hq with rfl | hq
    · exact h v List.mem_cons_self
    · exact avL_ok _ vs (fun x hx => h x (List.mem_cons_of_mem _ hx)) q hq
def aw (av : List AV) : Nat := match av with
  | [] => 0
  | v :: vs => (if isJ v = true then 2 else 1) + aw vs
theorem aw_len (ad : Nat → Nat) : ∀ av : List AV, (lg_sl (av.map (toV ad))).length = aw av
  | [] => rfl
  | v :: vs => by
    have h := catB ad v
    have ih := aw_len ad vs
    unfold lg_sl at ih ⊢
    simp only [List.map_cons, List.flatMap_cons, List.length_append, aw, ih]
    cases hj : isJ v
    · rw [hj] at h
      have h1 : ¬ (toV ad v).category = 2 := by simpa using h
      rw [if_neg h1, if_neg (by simp)]; rfl
    · rw [hj] at h
      have h1 : (toV ad v).category = 2 := by simpa using h
      rw [if_pos h1, if_pos rfl]; rfl
theorem aw_cat (ad : Nat → Nat) : ∀ av : List AV, ((av.map (toV ad)).map fun v => v.category).sum = aw av
  | [] => rfl
  | v :: vs => by
    have ih := aw_cat ad vs
    simp only [List.map_cons, List.sum_cons, aw, ih]
    cases hj : isJ v
    · rw [cat1 ad hj, if_neg (by simp)]
    · rw [cat2 ad hj, if_pos rfl]
/-- a contract out of the walk from the entry -/
theorem Ct_of {G : GG} {E : Nat → Prop} {y : MethodName} {own : String} {cc : ByteArray} {maxL : Nat} {ret : Option FieldType} {rm : Room} {av : List AV} {w : Wd} {h : Hp} {w' : Wd} {h' : Hp} {r : Option AV} (hy : plainName y.cls = true) (ho : y.cls = own) (hE : ∀ a, a < 16 → E a) (hw : aw av ≤ maxL)
    (body : ∀ Γ : Cx, Γ.1 = G → Γ.2.2.2 = E → Gd Γ cc maxL own ret rm → Core Γ w h 0 0 (QM Γ rm.cells rm.slots w' h' r) 0 (avL 0 av) []) : Ct G E y (Cond.code y cc maxL ret) rm av w h w' h' r := by
  subst ho
  intro o1 o2 adE
  refine Met.ofW (cc := cc) (maxL := maxL) (ret := ret) hy rfl ?_
  intro p e s m args below meth c s₁ B hml hv
  obtain ⟨rfl, hKU, hP, hD⟩ := hv
  obtain ⟨l, b0, D, dA⟩ := G
  have hts := atoms_spec (ws := Cond.code y cc maxL ret :: tblG) B.pre
  have hown : s.vm.findClass y.cls = some m.cls := findClass_of_methodNamed B.named
  have hb := body ((l, b0, D, dA), (p, e, rm, s, m, (av.map (toV adE)).toArray, below, meth, c), adE, E) rfl rfl
    ⟨B.exec, B.bytes, hml, hown, fun x hx => hts x (List.mem_cons_of_mem _ hx), hKU, B.returns, B.notSynchronized, hE, rfl⟩
  rw [lg_entry_eq]
  have hl := lv_entry (av.map (toV adE)) (n := maxL) (by rw [aw_len]; exact hw)
  rw [avL_map] at hl
  refine hb o1 (avL_ok 0 av o2) (fun _ q => by cases q) adE s.heap [] _ (fun _ _ => rfl) hP hD va_S.rf ?_
  rw [hml]; exact hl
theorem tbl_good : ∀ w ∈ tblG, (w.onTables && w.keeps) = true ∨ ∃ ty, w = .arrayClass ty := fun _ hw => good_of_word (List.mem_filter.mp hw).2
section
variable {p : Program} {l : Launch} {e : Env} {R : Room} {s : State} {m : MethodId} {args : Array Value} {below : List Frame} {meth : Method} {c : Code} {H : Heap} {locs : List Loc} {cells slots : Nat} {Q : State → Prop} {pc : Nat} {la : Array Slot} {rest st0 : List Value} {a : Array Value} {A0 A1 : Nat → Prop} {H0 : Heap} {mc ms : Nat} {free : Addr → Prop}
theorem call_any {Qa : State → Outcome → State → Prop} (hr : va_Run p l e R s m args below meth c H locs cells slots mc ms (F0 m pc la st0) rest Qa free)
    (kk : ∀ (v : Option Value) (st₁ t : State) (H1 : Heap) (L : List Loc), st₁.heap = H → t.heap = H1 → s.vm.Alike t.vm → Qa st₁ (.returned v) t → (∀ q ∈ L, free q.base) → W p l e R s m args below meth c H1 (locs ++ L) (cells + mc) (slots + ms) Q (F0 m (pc + 3) la (v.toList ++ rest))) : W p l e R s m args below meth c H locs cells slots Q (F0 m pc la st0) := by
  intro T hT X
  obtain ⟨v, st₀, t, T', L, h0, X', hL, e1, e2, hq, st⟩ := hr T hT X
  obtain ⟨t2, a1, b1⟩ := kk v st₀ t T'.heap L h0 e1.symm (by rw [← e2]; exact X'.warmed.alike) hq hL T' rfl X'
  exact ⟨t2, st t2 a1, b1⟩
end
def refOk (E : Nat → Prop) : AV → Prop
  | .inr (.inr a) => E a
  | _ => True
theorem toV_eq {ad ad' : Nat → Nat} {E : Nat → Prop} {v : AV} (e : ∀ a, E a → ad' a = ad a) (h : refOk E v) : toV ad' v = toV ad v := by
  match v, h with
  | .inl _, _ => rfl
  | .inr (.inl _), _ => rfl
  | .inr (.inr a), h =>
    show va_rf (rfN ad' a) = va_rf (rfN ad a)
    unfold rfN; rw [e a h]
theorem Co_callS {Γ : Cx} {cc : ByteArray} {nL : Nat} {own : String} {ret : Option FieldType} {rr : Room} (g : Gd Γ cc nL own ret rr) {w : Wd} {h : Hp} {kc ks : Nat} {Q : State → Prop} {pc : Nat} {ls : List (Nat × AV)} {st : List AV} {E : Nat → Prop} {y : MethodName} {bytes : ByteArray} {maxL : Nat} {ret' : Option FieldType} {rm : Room} {As : List AV} {w' : Wd} {h' : Hp} {r : Option AV} {S : List AV} {idx : Nat} (hd : decode cc pc = .ok (.invokestatic idx, 3)) (hC : Ct Γ.1 E y (Cond.code y bytes maxL ret') rm As w h w' h' r) (hst : S = As.reverse ++ st) (hsta : Cond.static y ∈ tblG) (hcw : Cond.code y bytes maxL ret' ∈ tblG) (hml1 : Cond.methodLink own idx y ∈ tblG) (hini : Cond.initialized y.cls ∈ tblG) (hd3 : y.cls ≠ "java/lang/invoke/MethodHandle" ∧ y.cls ≠ "java/lang/invoke/VarHandle" ∧ (parseMethodDescriptor y.desc).map (fun d => d.parameters.length) = some As.length) (hR : rm.frames + 1 ≤ rr.frames ∧ 8 + (maxL + 11) + rm.locals ≤ rr.locals) (hcs : kc + rm.cells ≤ rr.cells ∧ ks + rm.slots ≤ rr.slots) (hroom : aw st ≤ 8) (hNw : ∀ a, Γ.2.2.2 a → E a) (hlw : ∀ q ∈ ls, refOk E q.2) (hsw : ∀ v ∈ st, refOk E v) (k : Core Γ w' h' (kc + rm.cells) (ks + rm.slots) Q (pc + 3) ls (r.toList ++ st)) : Core Γ w h kc ks Q pc ls S := by
  obtain ⟨⟨l, b0, D, dA⟩, ⟨p, e, R, s, m, args, below, meth, c⟩, adE, NE⟩ := Γ
  obtain ⟨hx, hb, hml, hown, hts, hKU, hret, hlk, hNE, hRR⟩ := g
  intro o1 o2 o3 ad H locs la e1 e2 e3 e4 e5
  subst hRR
  subst hst
  have e1' : ∀ a, a < 16 → ad a = adE a := fun a ha => e1 a (hNE a ha)
  have hok : ∀ v ∈ As, okV v := fun v hv => o3 v (by simp [hv])
  have hos : ∀ v ∈ st, okV v := fun v hv => o3 v (by simp [hv])
  have hM := hC o1 hok ad
  have hP : ∀ U : State, U.heap = H → s.WarmedH U.vm → PcT (l, b0, D, dA) ad w h (As) ((As).map (toV ad)).toArray U := by
    intro U hU hW
    refine ⟨rfl, ⟨va_K.moved hW.alike hKU.1, ?_, ?_, KN.warm hW hKU.2.2.2.1, hKU.2.2.2.2.1.moved hW.alike, hKU.2.2.2.2.2.moved hW.alike⟩, by rw [hU]; exact e2, e3⟩
    · rw [hU]; exact KS.ad (KS.moved hW.alike (KS.kept hKU.2.1 (fun a h1 h2 => e4.2.1 a h1 h2))) e1'
    · rw [hU]; exact Nat.le_trans hKU.2.2.1 e4.1
  have hG : GoodIn tblG (Cond.code y bytes maxL ret' :: tblG) := by
    intro x hx
    rcases List.mem_cons.mp hx with rfl | hx
    · exact ⟨hcw, tbl_good _ hcw⟩
    · exact ⟨hx, tbl_good _ hx⟩
  rw [List.map_append, List.map_reverse]
  have hrun := va_runS (Ts := tblG) (own := own) (cc := cc) (nL := c.maxLocals) (H := H) (locs := locs) (cells := kc) (slots := ks) (below := below) (e := e) (meth := meth) (g := F0 m pc la ((As.map (toV ad)).reverse ++ st.map (toV ad))) (As := As.map (toV ad)) (rest := st.map (toV ad)) ⟨hx, hb, rfl, hown, hts⟩ hM ⟨callB_of As.length hts hG rfl rfl rfl (hts _ hini) (hts _ hml1) hd3 hR, hts _ hsta⟩ ⟨blindP, hP⟩ rfl (by simp) e5.1 rfl (lv_room (by rw [aw_cat]; exact hroom)) hd hcs
  refine call_any hrun ?_
  intro v st₁ t H1 L h0 ht hvm hq hL
  obtain ⟨⟨ad2, a1, a2, a3, a4, a5, a6⟩, a7⟩ := hq
  cases a2
  have hF : va_S (fA b0) s.heap H1 (locs ++ L) := by
    unfold va_F at a7
    rw [h0, ht] at a7
    refine ⟨Nat.le_trans e4.1 a7.1, fun q h1 h2 => ?_, fun q hq => ?_⟩
    · rw [a7.2 q (Nat.lt_of_lt_of_le h1 e4.1) h2]; exact e4.2.1 q h1 h2
    · rcases List.mem_append.mp hq with z | z
      · exact e4.2.2 q z
      · exact hL q z
  rw [ht] at a5
  have hlv : lv_has la c.maxLocals (ls.map fun q => (q.1, toV ad2 q.2)) := by
    have : (ls.map fun q => (q.1, toV ad2 q.2)) = (ls.map fun q => (q.1, toV ad q.2)) := by
      apply List.map_congr_left
      intro q hq
      have := toV_eq a1 (hlw q hq)
      rw [this]
    rw [this]; exact e5
  have hsv : st.map (toV ad2) = st.map (toV ad) := by
    apply List.map_congr_left
    intro q hq
    exact toV_eq a1 (hsw q hq)
  have k2 := k a3 o2 (fun v hv => (List.mem_append.mp hv).elim (fun z => a4 v (by cases r with | none => cases z | some r0 => simp at z; rw [z])) (fun z => hos v z)) ad2 H1 (locs ++ L) la (fun a ha => by rw [a1 a (hNw a ha)]; exact e1 a ha) a5 a6 hF hlv
  have hrr : (r.toList ++ st).map (toV ad2) = (r.map (toV ad2)).toList ++ st.map (toV ad) := by
    rw [List.map_append, hsv]; cases r <;> rfl
  rw [hrr] at k2
  exact k2
theorem Co_callV {Γ : Cx} {cc : ByteArray} {nL : Nat} {own : String} {ret : Option FieldType} {rr : Room} (g : Gd Γ cc nL own ret rr) {w : Wd} {h : Hp} {kc ks : Nat} {Q : State → Prop} {pc : Nat} {ls : List (Nat × AV)} {st : List AV} {E : Nat → Prop} {y : MethodName} {bytes : ByteArray} {maxL : Nat} {ret' : Option FieldType} {rm : Room} {As : List AV} {w' : Wd} {h' : Hp} {r : Option AV} {S : List AV} {idx : Nat} {b ci n N : Nat} {T : u_T} (hd : decode cc pc = .ok (.invokevirtual idx, 3)) (hC : Ct Γ.1 E y (Cond.code y bytes maxL ret') rm (vP b :: As) w h w' h' r) (hst : S = As.reverse ++ vP b :: st) (hs : At w b (1, ci, n)) (hc : clT[ci]? = some (y.cls, T, N)) (him : Cond.instanceMethod y ∈ tblG) (hse : Cond.selects y.cls y y ∈ tblG) (hcw : Cond.code y bytes maxL ret' ∈ tblG) (hml1 : Cond.methodLink own idx y ∈ tblG) (hini : Cond.initialized y.cls ∈ tblG) (hd3 : y.cls ≠ "java/lang/invoke/MethodHandle" ∧ y.cls ≠ "java/lang/invoke/VarHandle" ∧ (parseMethodDescriptor y.desc).map (fun d => d.parameters.length) = some As.length) (hR : rm.frames + 1 ≤ rr.frames ∧ 8 + (maxL + 11) + rm.locals ≤ rr.locals) (hcs : kc + rm.cells ≤ rr.cells ∧ ks + rm.slots ≤ rr.slots) (hroom : aw st ≤ 8) (hNw : ∀ a, Γ.2.2.2 a → E a) (hlw : ∀ q ∈ ls, refOk E q.2) (hsw : ∀ v ∈ st, refOk E v) (k : Core Γ w' h' (kc + rm.cells) (ks + rm.slots) Q (pc + 3) ls (r.toList ++ st)) : Core Γ w h kc ks Q pc ls S := by
  obtain ⟨⟨l, b0, D, dA⟩, ⟨p, e, R, s, m, args, below, meth, c⟩, adE, NE⟩ := Γ
  obtain ⟨hx, hb, hml, hown, hts, hKU, hret, hlk, hNE, hRR⟩ := g
  intro o1 o2 o3 ad H locs la e1 e2 e3 e4 e5
  subst hRR
  subst hst
  have e1' : ∀ a, a < 16 → ad a = adE a := fun a ha => e1 a (hNE a ha)
  have hok : ∀ v ∈ (vP b :: As), okV v := okC trivial (fun v hv => o3 v (by simp [hv]))
  have hos : ∀ v ∈ st, okV v := fun v hv => o3 v (by simp [hv])
  have hM := hC o1 hok ad
  have hP : ∀ U : State, U.heap = H → s.WarmedH U.vm → PcT (l, b0, D, dA) ad w h ((vP b :: As)) (((vP b :: As)).map (toV ad)).toArray U := by
    intro U hU hW
    refine ⟨rfl, ⟨va_K.moved hW.alike hKU.1, ?_, ?_, KN.warm hW hKU.2.2.2.1, hKU.2.2.2.2.1.moved hW.alike, hKU.2.2.2.2.2.moved hW.alike⟩, by rw [hU]; exact e2, e3⟩
    · rw [hU]; exact KS.ad (KS.moved hW.alike (KS.kept hKU.2.1 (fun a h1 h2 => e4.2.1 a h1 h2))) e1'
    · rw [hU]; exact Nat.le_trans hKU.2.2.1 e4.1
  have hG : GoodIn tblG (Cond.code y bytes maxL ret' :: tblG) := by
    intro x hx
    rcases List.mem_cons.mp hx with rfl | hx
    · exact ⟨hcw, tbl_good _ hcw⟩
    · exact ⟨hx, tbl_good _ hx⟩
  rw [List.map_append, List.map_reverse, List.map_cons]
  have hbv : toV ad (vP b) = .ref (ad b) := rf_ne ad (at_ne0 hs)
  have he := wsO_get (dA := dA) (ad := ad) (h := h) hs.1 hs.2.1
  rw [cE_o hs.2.2] at he
  have hrecv := va_recv hKU.1 e2 hc he
  rw [List.map_cons, hbv] at hP
  rw [hbv]
  have hrun := va_runV (Ts := tblG) (own := own) (C := y.cls) (cc := cc) (nL := c.maxLocals) (H := H) (locs := locs) (cells := kc) (slots := ks) (below := below) (e := e) (meth := meth) (b := ad b) (g := F0 m pc la ((As.map (toV ad)).reverse ++ .ref (ad b) :: st.map (toV ad))) (As := As.map (toV ad)) (rest := st.map (toV ad)) ⟨hx, hb, rfl, hown, hts⟩ hM ⟨callB_of As.length hts hG rfl rfl rfl (hts _ hini) (hts _ hml1) hd3 hR, hts _ him, hts _ hse⟩ ⟨blindP, hrecv, hP⟩ rfl (by simp) e5.1 rfl (lv_room (by rw [aw_cat]; exact hroom)) hd hcs
  refine call_any hrun ?_
  intro v st₁ t H1 L h0 ht hvm hq hL
  obtain ⟨⟨ad2, a1, a2, a3, a4, a5, a6⟩, a7⟩ := hq
  cases a2
  have hF : va_S (fA b0) s.heap H1 (locs ++ L) := by
    unfold va_F at a7
    rw [h0, ht] at a7
    refine ⟨Nat.le_trans e4.1 a7.1, fun q h1 h2 => ?_, fun q hq => ?_⟩
    · rw [a7.2 q (Nat.lt_of_lt_of_le h1 e4.1) h2]; exact e4.2.1 q h1 h2
    · rcases List.mem_append.mp hq with z | z
      · exact e4.2.2 q z
      · exact hL q z
  rw [ht] at a5
  have hlv : lv_has la c.maxLocals (ls.map fun q => (q.1, toV ad2 q.2)) := by
    have : (ls.map fun q => (q.1, toV ad2 q.2)) = (ls.map fun q => (q.1, toV ad q.2)) := by
      apply List.map_congr_left
      intro q hq
      have := toV_eq a1 (hlw q hq)
      rw [this]
    rw [this]; exact e5
  have hsv : st.map (toV ad2) = st.map (toV ad) := by
    apply List.map_congr_left
    intro q hq
    exact toV_eq a1 (hsw q hq)
  have k2 := k a3 o2 (fun v hv => (List.mem_append.mp hv).elim (fun z => a4 v (by cases r with | none => cases z | some r0 => simp at z; rw [z])) (fun z => hos v z)) ad2 H1 (locs ++ L) la (fun a ha => by rw [a1 a (hNw a ha)]; exact e1 a ha) a5 a6 hF hlv
  have hrr : (r.toList ++ st).map (toV ad2) = (r.map (toV ad2)).toList ++ st.map (toV ad) := by
    rw [List.map_append, hsv]; cases r <;> rfl
  rw [hrr] at k2
  exact k2
theorem Co_ireturn {Γ : Cx} {cc : ByteArray} {nL : Nat} {own : String} {ret : Option FieldType} {rr : Room} (g : Gd Γ cc nL own ret rr) {w : Wd} {h : Hp} {kc ks : Nat} {pc : Nat} {ls : List (Nat × AV)} {x : Int} (hd : decode cc pc = .ok (.ireturn, 1)) (hrt : ret = some .int)  : Core Γ w h kc ks (QM Γ kc ks w h (some (vI x))) pc ls [vI x] := by
  obtain ⟨⟨l, b0, D, dA⟩, ⟨p, e, R, s, m, args, below, meth, c⟩, adE, NE⟩ := Γ
  obtain ⟨hx, hb, hml, hown, hts, hKU, hret, hlk, hNE, hRR⟩ := g
  intro o1 o2 o3 ad H locs la e1 e2 e3 e4 e5
  have hq : ∀ t : State, t.heap = H → QcT (l, b0, D, dA) adE NE w h (some (vI x)) args s (.returned ((some (vI x)).map (toV ad))) t := fun t ht => ⟨⟨ad, e1, rfl, o1, fun v hv => o3 v (by simp at hv; simp [hv]), by rw [ht]; exact e2, e3⟩, e4.F ht⟩
  exact W.iret hx hb (by rw [hret, hrt]) (fun t ht _ => hq t ht) e4.2.2 hd hlk
theorem Co_zreturn {Γ : Cx} {cc : ByteArray} {nL : Nat} {own : String} {ret : Option FieldType} {rr : Room} (g : Gd Γ cc nL own ret rr) {w : Wd} {h : Hp} {kc ks : Nat} {pc : Nat} {ls : List (Nat × AV)} {x : Int} (hd : decode cc pc = .ok (.ireturn, 1)) (hrt : ret = some .boolean) (hz : isZ x) : Core Γ w h kc ks (QM Γ kc ks w h (some (vI x))) pc ls [vI x] := by
  obtain ⟨⟨l, b0, D, dA⟩, ⟨p, e, R, s, m, args, below, meth, c⟩, adE, NE⟩ := Γ
  obtain ⟨hx, hb, hml, hown, hts, hKU, hret, hlk, hNE, hRR⟩ := g
  intro o1 o2 o3 ad H locs la e1 e2 e3 e4 e5
  have hq : ∀ t : State, t.heap = H → QcT (l, b0, D, dA) adE NE w h (some (vI x)) args s (.returned ((some (vI x)).map (toV ad))) t := fun t ht => ⟨⟨ad, e1, rfl, o1, fun v hv => o3 v (by simp at hv; simp [hv]), by rw [ht]; exact e2, e3⟩, e4.F ht⟩
  exact W.zret hx hb (by rw [hret, hrt]) (by rcases hz with rfl | rfl <;> decide) (fun t ht _ => hq t ht) e4.2.2 hd hlk
theorem Co_lreturn {Γ : Cx} {cc : ByteArray} {nL : Nat} {own : String} {ret : Option FieldType} {rr : Room} (g : Gd Γ cc nL own ret rr) {w : Wd} {h : Hp} {kc ks : Nat} {pc : Nat} {ls : List (Nat × AV)} {x : Int} (hd : decode cc pc = .ok (.lreturn, 1)) (hrt : ret = some .long)  : Core Γ w h kc ks (QM Γ kc ks w h (some (vJ x))) pc ls [vJ x] := by
  obtain ⟨⟨l, b0, D, dA⟩, ⟨p, e, R, s, m, args, below, meth, c⟩, adE, NE⟩ := Γ
  obtain ⟨hx, hb, hml, hown, hts, hKU, hret, hlk, hNE, hRR⟩ := g
  intro o1 o2 o3 ad H locs la e1 e2 e3 e4 e5
  have hq : ∀ t : State, t.heap = H → QcT (l, b0, D, dA) adE NE w h (some (vJ x)) args s (.returned ((some (vJ x)).map (toV ad))) t := fun t ht => ⟨⟨ad, e1, rfl, o1, fun v hv => o3 v (by simp at hv; simp [hv]), by rw [ht]; exact e2, e3⟩, e4.F ht⟩
  exact W.lret hx hb (by rw [hret, hrt]) (fun t ht _ => hq t ht) e4.2.2 hd hlk
theorem Co_areturn {Γ : Cx} {cc : ByteArray} {nL : Nat} {own : String} {ret : Option FieldType} {rr : Room} (g : Gd Γ cc nL own ret rr) {w : Wd} {h : Hp} {kc ks : Nat} {pc : Nat} {ls : List (Nat × AV)} {a : Nat} {C : String} (hd : decode cc pc = .ok (.areturn, 1)) (hrt : ret = some (.object C))  : Core Γ w h kc ks (QM Γ kc ks w h (some (vP a))) pc ls [vP a] := by
  obtain ⟨⟨l, b0, D, dA⟩, ⟨p, e, R, s, m, args, below, meth, c⟩, adE, NE⟩ := Γ
  obtain ⟨hx, hb, hml, hown, hts, hKU, hret, hlk, hNE, hRR⟩ := g
  intro o1 o2 o3 ad H locs la e1 e2 e3 e4 e5
  have hq : ∀ t : State, t.heap = H → QcT (l, b0, D, dA) adE NE w h (some (vP a)) args s (.returned ((some (vP a)).map (toV ad))) t := fun t ht => ⟨⟨ad, e1, rfl, o1, fun v hv => o3 v (by simp at hv; simp [hv]), by rw [ht]; exact e2, e3⟩, e4.F ht⟩
  exact W.aret hx hb (by rw [hret, hrt]) (Or.inl ⟨C, rfl⟩) (by show va_rf (rfN ad a) = _ ∨ ∃ b, va_rf (rfN ad a) = _; cases rfN ad a with | none => exact Or.inl rfl | some b => exact Or.inr ⟨b, rfl⟩) (fun t ht _ => hq t ht) e4.2.2 hd hlk
theorem Co_return {Γ : Cx} {cc : ByteArray} {nL : Nat} {own : String} {ret : Option FieldType} {rr : Room} (g : Gd Γ cc nL own ret rr) {w : Wd} {h : Hp} {kc ks : Nat} {pc : Nat} {ls : List (Nat × AV)}  (hd : decode cc pc = .ok (.return_, 1)) (hrt : ret = none)  : Core Γ w h kc ks (QM Γ kc ks w h ((none : Option AV))) pc ls [] := by
  obtain ⟨⟨l, b0, D, dA⟩, ⟨p, e, R, s, m, args, below, meth, c⟩, adE, NE⟩ := Γ
  obtain ⟨hx, hb, hml, hown, hts, hKU, hret, hlk, hNE, hRR⟩ := g
  intro o1 o2 o3 ad H locs la e1 e2 e3 e4 e5
  have hq : ∀ t : State, t.heap = H → QcT (l, b0, D, dA) adE NE w h ((none : Option AV)) args s (.returned (((none : Option AV)).map (toV ad))) t := fun t ht => ⟨⟨ad, e1, rfl, o1, fun v hv => (by cases hv), by rw [ht]; exact e2, e3⟩, e4.F ht⟩
  exact W.vret hx hb (by rw [hret, hrt]) (fun t ht _ => hq t ht) e4.2.2 hd hlk
