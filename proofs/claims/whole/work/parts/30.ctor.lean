/-! MAKING CELLS: the constructors. The next cell's address is the heap's size; codes are given in the order of making. -/
def wnew (w : Wd) (S : ShT) : Wd := (w.1 + 1, fun a => if a = w.1 then S else w.2.1 a, fun a i => if a = w.1 then 0 else w.2.2 a i)
def wref (w : Wd) (a i b : Nat) : Wd := (w.1, w.2.1, fun x j => if x = a ∧ j = i then b else w.2.2 x j)
def hz (h : Hp) (a : Nat) : Hp := fun b j => if b = a then 0 else h b j
section
variable {p : Program} {l : Launch} {e : Env} {R : Room} {s : State} {m : MethodId} {args : Array Value} {below : List Frame} {meth : Method} {c : Code} {H : Heap} {locs : List Loc} {cells slots : Nat} {Q : State → Prop} {g : JFrame}
theorem W_sz (k : H.size ≤ s.heap.size + cells → W p l e R s m args below meth c H locs cells slots Q g) : W p l e R s m args below meth c H locs cells slots Q g := fun T hT X => k (by
  have := X.same.2.2.1
  rw [← hT]; exact this) T hT X
end
/-- a frame that makes cells: its first new code is N0, its address the heap's size at the start -/
def Mk (Γ : Cx) (N0 : Nat) : Prop := match Γ with
  | (_, (_, _, _, s, _, _, _, _, _), adE, NE) => (∀ a, NE a) ∧ s.heap.size = adE N0 ∧ (∀ j, adE (N0 + j) = adE N0 + j) ∧ 16 ≤ N0
theorem sz_eq {D : va_G} {dA : Nat → ClassId} {ad : Nat → Nat} {w : Wd} {h : Hp} {H H0 : Heap} {A : Nat → Prop} {locs : List Loc} {N0 kc : Nat} (e2 : va_P D clT (wsO dA ad w h) H) (e4 : va_S A H0 H locs) (hN : w.1 = N0 + kc) (h0 : H0.size = ad N0) (hj : ∀ j, ad (N0 + j) = ad N0 + j) (h16 : 16 ≤ N0) (hs : H.size ≤ H0.size + kc) : H.size = ad w.1 := by
  have lo : H0.size + kc ≤ H.size := by
    cases kc with
    | zero => exact e4.1
    | succ k =>
      have := (e2 (N0 + k - 16) _ (wsO_get (dA := dA) (ad := ad) (h := h) (a := N0 + k) (by omega) (by omega))).lt
      simp only [hj] at this
      omega
  rw [hN, hj]; omega
theorem wsO_new {dA : Nat → ClassId} {ad : Nat → Nat} {w : Wd} {h : Hp} {S : ShT} (h16 : 16 ≤ w.1) : wsO dA ad (wnew w S) (hz h w.1) = wsO dA ad w h ++ [(ad w.1, cE dA ad (wnew w S) (hz h w.1) w.1)] := by
  unfold wsO
  rw [show (wnew w S).1 - 16 = (w.1 - 16) + 1 by show w.1 + 1 - 16 = _; omega, List.range_succ, List.map_append]
  congr 1
  · apply List.map_congr_left
    intro j hj
    have hj := List.mem_range.mp hj
    have hne : j + 16 ≠ w.1 := by omega
    congr 1
    unfold cE wnew hz
    simp only [if_neg hne]
  · simp only [List.map_cons, List.map_nil]
    rw [show w.1 - 16 + 16 = w.1 by omega]
theorem okS_0 (S : ShT) (i : Nat) : okS S i 0 := by
  unfold okS isZ inI inJ
  split <;> (repeat' split) <;> first | trivial | exact Or.inl rfl | (constructor <;> decide)
theorem okH_new {w : Wd} {h : Hp} {S : ShT} (o : okH w h) : okH (wnew w S) (hz h w.1) := by
  intro a h1 h2 i
  unfold hz wnew
  by_cases q : a = w.1
  · simp only [if_pos q]; exact okS_0 _ _
  · simp only [if_neg q]; exact o a h1 (by have : a < w.1 + 1 := h2; omega) i
theorem okH_ref {w : Wd} {h : Hp} {a i b : Nat} (o : okH w h) : okH (wref w a i b) h := o
theorem Co_new {Γ : Cx} {cc : ByteArray} {nL : Nat} {own : String} {ret : Option FieldType} {rr : Room} (g : Gd Γ cc nL own ret rr) {w : Wd} {h : Hp} {kc ks : Nat} {Q : State → Prop} {pc : Nat} {ls : List (Nat × AV)} {st : List AV} {N0 idx ci N : Nat} {C : String} {T : u_T} {ty : Nat → FieldType} (hmk : Mk Γ N0) (hN : w.1 = N0 + kc) (hd : decode cc pc = .ok (.new idx, 3)) (hci : CI ci C T N ty) (hdf : ∀ j, j < N → defaultValue (ty j) = (if ft ci j = 2 then .null else if ft ci j = 1 then .long 0 else .int 0)) (hcl : Cond.classLink own idx C ∈ tblG) (hins : Cond.instantiable C N ∈ tblG) (hini : Cond.initialized C ∈ tblG) (hR : kc + 1 ≤ rr.cells ∧ ks + N ≤ rr.slots) (k : Core Γ (wnew w (1, ci, 0)) (hz h w.1) (kc + 1) (ks + N) Q (pc + 3) ls (vP w.1 :: st)) : Core Γ w h kc ks Q pc ls st := by
  obtain ⟨⟨l, b0, D, dA⟩, ⟨p, e, R, s, m, args, below, meth, c⟩, adE, NE⟩ := Γ
  obtain ⟨hx, hb, hml, hown, hts, hKU, hret, hlk, hNE, hRR⟩ := g
  obtain ⟨hall, hsz, hj, h16⟩ := hmk
  intro o1 o2 o3 ad H locs la e1 e2 e3 e4 e5
  have hade : ad = adE := funext fun a => e1 a (hall a)
  subst hade
  subst hRR
  refine W_sz (fun hs => ?_)
  have hq := sz_eq e2 e4 hN hsz hj h16 hs
  have hA : ∀ q, s.heap.size ≤ q → fA b0 q := fun q z => Nat.le_trans hKU.2.2.1 z
  obtain ⟨hc, hNf, hin, hty, hnm⟩ := hci
  have hKn := hKU.1.1 ci _ hc
  refine W.newcK hx hb hown (hts _ hcl) (hts _ hins) (hts _ hini) rfl hd hR.1 hR.2 hKn.2.1 hq fun H1 kC hkC f1 z1 g1 => ?_
  have hk : ∀ (j : Nat) (x : Nat × va_E), (wsO dA ad w h)[j]? = some x → H1[x.1]? = H[x.1]? := fun j x hx => g1 x.1 (by rw [← hq]; exact (e2 j x hx).lt)
  have hnew : cE dA ad (wnew w (1, ci, 0)) (hz h w.1) w.1 = .inr (ci, (List.range (nF ci)).map (fun i => fV ad (ft ci i) (hz h w.1 w.1 i) ((wnew w (1, ci, 0)).2.2 w.1 i))) := cE_o (ci := ci) (n := 0) (by simp [wnew])
  have hwne : w.1 ≠ 0 := by omega
  have k2 := k (okH_new o1) o2 (okC trivial o3) ad H1 locs la e1
  rw [wsO_new (by omega)] at k2
  have hv : (vP w.1 :: st).map (toV ad) = .ref (ad w.1) :: st.map (toV ad) := by simp only [List.map_cons, toV, rf_ne ad hwne]
  rw [hv] at k2
  refine k2 ((e2.kept hk).app (fun j x hx => ?_)) (e3.push e2 hq.symm (hA _ (by rw [← hq]; exact e4.1))) ⟨Nat.le_trans e4.1 (by omega), fun x h1 h2 => (g1 x (by have := e4.1; omega)).trans (e4.2.1 x h1 h2), e4.2.2⟩ e5
  have hz0 : j < 1 := (List.getElem?_eq_some_iff.mp hx).1
  rw [show j = 0 by omega] at hx
  cases hx
  rw [hnew]
  refine ⟨_, hc, (u_born ty hts hin hKn hkC f1 hty).to (fun j hj => ?_)⟩
  rw [hdf j hj]
  unfold vp_V
  rw [List.getD_eq_getElem?_getD, rg_map (by rw [hNf]; exact hj)]
  simp only [Option.getD_some, fV, hz, wnew, if_true, if_pos]
  rfl
theorem Co_newi {Γ : Cx} {cc : ByteArray} {nL : Nat} {own : String} {ret : Option FieldType} {rr : Room} (g : Gd Γ cc nL own ret rr) {w : Wd} {h : Hp} {kc ks : Nat} {Q : State → Prop} {pc : Nat} {ls : List (Nat × AV)} {st : List AV} {N0 n : Nat} (hmk : Mk Γ N0) (hN : w.1 = N0 + kc) (hd : decode cc pc = .ok (.newarray .int, 2)) (ha : Cond.arrayClass .int ∈ tblG) (hn : n < 100000) (hR : kc + 1 ≤ rr.cells ∧ ks + n ≤ rr.slots) (k : Core Γ (wnew w (2, 0, n)) (hz h w.1) (kc + 1) (ks + n) Q (pc + 2) ls (vP w.1 :: st)) : Core Γ w h kc ks Q pc ls (vI (n : Int) :: st) := by
  obtain ⟨⟨l, b0, D, dA⟩, ⟨p, e, R, s, m, args, below, meth, c⟩, adE, NE⟩ := Γ
  obtain ⟨hx, hb, hml, hown, hts, hKU, hret, hlk, hNE, hRR⟩ := g
  obtain ⟨hall, hsz, hj, h16⟩ := hmk
  intro o1 o2 o3 ad H locs la e1 e2 e3 e4 e5
  have hade : ad = adE := funext fun a => e1 a (hall a)
  subst hade
  subst hRR
  refine W_sz (fun hs => ?_)
  have hq := sz_eq e2 e4 hN hsz hj h16 hs
  have hA : ∀ q, s.heap.size ≤ q → fA b0 q := fun q z => Nat.le_trans hKU.2.2.1 z
  have in_n : inI (n : Int) := okD o3
  refine va_newaK (atype := .int) (N := n) hx hb (hts _ ha) rfl hd rfl (fun z => absurd ((ltI in_n inI_0).mp z) (by omega)) (by rw [clampI in_n]; simp) (by show n * 4 ≤ _; omega) hR.1 hR.2 hq fun H1 cA f1 z1 g1 hAr hNm => ?_
  have hcA : cA = dA 0 := Option.some.inj (hNm.symm.trans (hKU.1.2 0 (dA 0, .int) rfl).2)
  subst hcA
  have hk : ∀ (j : Nat) (x : Nat × va_E), (wsO dA ad w h)[j]? = some x → H1[x.1]? = H[x.1]? := fun j x hx => g1 x.1 (by rw [← hq]; exact (e2 j x hx).lt)
  have hnew : cE dA ad (wnew w (2, 0, n)) (hz h w.1) w.1 = .inl (dA 0, n, .inl (fun _ => 0)) := by
    rw [cE_a (t := 0) (n := n) (by simp [wnew])]
    simp only [cnt, hz, if_true]
    rfl
  have hwne : w.1 ≠ 0 := by omega
  have k2 := k (okH_new o1) o2 (okC trivial (okT o3)) ad H1 locs la e1
  rw [wsO_new (by omega), hnew] at k2
  have hv : (vP w.1 :: st).map (toV ad) = .ref (ad w.1) :: st.map (toV ad) := by simp only [List.map_cons, toV, rf_ne ad hwne]
  rw [hv] at k2
  refine k2 ((e2.kept hk).app (fun j x hx => ?_)) (e3.push e2 hq.symm (hA _ (by rw [← hq]; exact e4.1))) ⟨Nat.le_trans e4.1 (by omega), fun x h1 h2 => (g1 x (by have := e4.1; omega)).trans (e4.2.1 x h1 h2), e4.2.2⟩ e5
  have hz0 : j < 1 := (List.getElem?_eq_some_iff.mp hx).1
  rw [show j = 0 by omega] at hx
  cases hx
  show H1[ad w.1]? = some (vp_cell _ _)
  rw [f1]; rfl
theorem Co_newl {Γ : Cx} {cc : ByteArray} {nL : Nat} {own : String} {ret : Option FieldType} {rr : Room} (g : Gd Γ cc nL own ret rr) {w : Wd} {h : Hp} {kc ks : Nat} {Q : State → Prop} {pc : Nat} {ls : List (Nat × AV)} {st : List AV} {N0 n : Nat} (hmk : Mk Γ N0) (hN : w.1 = N0 + kc) (hd : decode cc pc = .ok (.newarray .long, 2)) (ha : Cond.arrayClass .long ∈ tblG) (hn : n < 100000) (hR : kc + 1 ≤ rr.cells ∧ ks + n ≤ rr.slots) (k : Core Γ (wnew w (2, 1, n)) (hz h w.1) (kc + 1) (ks + n) Q (pc + 2) ls (vP w.1 :: st)) : Core Γ w h kc ks Q pc ls (vI (n : Int) :: st) := by
  obtain ⟨⟨l, b0, D, dA⟩, ⟨p, e, R, s, m, args, below, meth, c⟩, adE, NE⟩ := Γ
  obtain ⟨hx, hb, hml, hown, hts, hKU, hret, hlk, hNE, hRR⟩ := g
  obtain ⟨hall, hsz, hj, h16⟩ := hmk
  intro o1 o2 o3 ad H locs la e1 e2 e3 e4 e5
  have hade : ad = adE := funext fun a => e1 a (hall a)
  subst hade
  subst hRR
  refine W_sz (fun hs => ?_)
  have hq := sz_eq e2 e4 hN hsz hj h16 hs
  have hA : ∀ q, s.heap.size ≤ q → fA b0 q := fun q z => Nat.le_trans hKU.2.2.1 z
  have in_n : inI (n : Int) := okD o3
  refine va_newaK (atype := .long) (N := n) hx hb (hts _ ha) rfl hd rfl (fun z => absurd ((ltI in_n inI_0).mp z) (by omega)) (by rw [clampI in_n]; simp) (by show n * 8 ≤ _; omega) hR.1 hR.2 hq fun H1 cA f1 z1 g1 hAr hNm => ?_
  have hcA : cA = dA 1 := Option.some.inj (hNm.symm.trans (hKU.1.2 1 (dA 1, .long) rfl).2)
  subst hcA
  have hk : ∀ (j : Nat) (x : Nat × va_E), (wsO dA ad w h)[j]? = some x → H1[x.1]? = H[x.1]? := fun j x hx => g1 x.1 (by rw [← hq]; exact (e2 j x hx).lt)
  have hnew : cE dA ad (wnew w (2, 1, n)) (hz h w.1) w.1 = .inl (dA 1, n, .inr (.inl (fun _ => 0))) := by
    rw [cE_a (t := 1) (n := n) (by simp [wnew])]
    simp only [cnt, hz, if_true]
    rfl
  have hwne : w.1 ≠ 0 := by omega
  have k2 := k (okH_new o1) o2 (okC trivial (okT o3)) ad H1 locs la e1
  rw [wsO_new (by omega), hnew] at k2
  have hv : (vP w.1 :: st).map (toV ad) = .ref (ad w.1) :: st.map (toV ad) := by simp only [List.map_cons, toV, rf_ne ad hwne]
  rw [hv] at k2
  refine k2 ((e2.kept hk).app (fun j x hx => ?_)) (e3.push e2 hq.symm (hA _ (by rw [← hq]; exact e4.1))) ⟨Nat.le_trans e4.1 (by omega), fun x h1 h2 => (g1 x (by have := e4.1; omega)).trans (e4.2.1 x h1 h2), e4.2.2⟩ e5
  have hz0 : j < 1 := (List.getElem?_eq_some_iff.mp hx).1
  rw [show j = 0 by omega] at hx
  cases hx
  show H1[ad w.1]? = some (vp_cell _ _)
  rw [f1]; rfl
theorem Co_newz {Γ : Cx} {cc : ByteArray} {nL : Nat} {own : String} {ret : Option FieldType} {rr : Room} (g : Gd Γ cc nL own ret rr) {w : Wd} {h : Hp} {kc ks : Nat} {Q : State → Prop} {pc : Nat} {ls : List (Nat × AV)} {st : List AV} {N0 n : Nat} (hmk : Mk Γ N0) (hN : w.1 = N0 + kc) (hd : decode cc pc = .ok (.newarray .boolean, 2)) (ha : Cond.arrayClass .boolean ∈ tblG) (hn : n < 100000) (hR : kc + 1 ≤ rr.cells ∧ ks + n ≤ rr.slots) (k : Core Γ (wnew w (2, 3, n)) (hz h w.1) (kc + 1) (ks + n) Q (pc + 2) ls (vP w.1 :: st)) : Core Γ w h kc ks Q pc ls (vI (n : Int) :: st) := by
  obtain ⟨⟨l, b0, D, dA⟩, ⟨p, e, R, s, m, args, below, meth, c⟩, adE, NE⟩ := Γ
  obtain ⟨hx, hb, hml, hown, hts, hKU, hret, hlk, hNE, hRR⟩ := g
  obtain ⟨hall, hsz, hj, h16⟩ := hmk
  intro o1 o2 o3 ad H locs la e1 e2 e3 e4 e5
  have hade : ad = adE := funext fun a => e1 a (hall a)
  subst hade
  subst hRR
  refine W_sz (fun hs => ?_)
  have hq := sz_eq e2 e4 hN hsz hj h16 hs
  have hA : ∀ q, s.heap.size ≤ q → fA b0 q := fun q z => Nat.le_trans hKU.2.2.1 z
  have in_n : inI (n : Int) := okD o3
  refine va_newaK (atype := .boolean) (N := n) hx hb (hts _ ha) rfl hd rfl (fun z => absurd ((ltI in_n inI_0).mp z) (by omega)) (by rw [clampI in_n]; simp) (by show n * 1 ≤ _; omega) hR.1 hR.2 hq fun H1 cA f1 z1 g1 hAr hNm => ?_
  have hcA : cA = dA 3 := Option.some.inj (hNm.symm.trans (hKU.1.2 3 (dA 3, .boolean) rfl).2)
  subst hcA
  have hk : ∀ (j : Nat) (x : Nat × va_E), (wsO dA ad w h)[j]? = some x → H1[x.1]? = H[x.1]? := fun j x hx => g1 x.1 (by rw [← hq]; exact (e2 j x hx).lt)
  have hnew : cE dA ad (wnew w (2, 3, n)) (hz h w.1) w.1 = .inl (dA 3, n, .inl (fun _ => 0)) := by
    rw [cE_a (t := 3) (n := n) (by simp [wnew])]
    simp only [cnt, hz, if_true]
    rfl
  have hwne : w.1 ≠ 0 := by omega
  have k2 := k (okH_new o1) o2 (okC trivial (okT o3)) ad H1 locs la e1
  rw [wsO_new (by omega), hnew] at k2
  have hv : (vP w.1 :: st).map (toV ad) = .ref (ad w.1) :: st.map (toV ad) := by simp only [List.map_cons, toV, rf_ne ad hwne]
  rw [hv] at k2
  refine k2 ((e2.kept hk).app (fun j x hx => ?_)) (e3.push e2 hq.symm (hA _ (by rw [← hq]; exact e4.1))) ⟨Nat.le_trans e4.1 (by omega), fun x h1 h2 => (g1 x (by have := e4.1; omega)).trans (e4.2.1 x h1 h2), e4.2.2⟩ e5
  have hz0 : j < 1 := (List.getElem?_eq_some_iff.mp hx).1
  rw [show j = 0 by omega] at hx
  cases hx
  show H1[ad w.1]? = some (vp_cell _ _)
  rw [f1]; rfl
theorem Co_newq4 {Γ : Cx} {cc : ByteArray} {nL : Nat} {own : String} {ret : Option FieldType} {rr : Room} (g : Gd Γ cc nL own ret rr) {w : Wd} {h : Hp} {kc ks : Nat} {Q : State → Prop} {pc : Nat} {ls : List (Nat × AV)} {st : List AV} {N0 n idx : Nat} (hmk : Mk Γ N0) (hN : w.1 = N0 + kc) (hd : decode cc pc = .ok (.anewarray idx, 3)) (hcl : Cond.classLink own idx "GatePatch$Plan" ∈ tblG) (hn : n < 100000) (hR : kc + 1 ≤ rr.cells ∧ ks + n ≤ rr.slots) (k : Core Γ (wnew w (2, 4, n)) (hz h w.1) (kc + 1) (ks + n) Q (pc + 3) ls (vP w.1 :: st)) : Core Γ w h kc ks Q pc ls (vI (n : Int) :: st) := by
  obtain ⟨⟨l, b0, D, dA⟩, ⟨p, e, R, s, m, args, below, meth, c⟩, adE, NE⟩ := Γ
  obtain ⟨hx, hb, hml, hown, hts, hKU, hret, hlk, hNE, hRR⟩ := g
  obtain ⟨hall, hsz, hj, h16⟩ := hmk
  intro o1 o2 o3 ad H locs la e1 e2 e3 e4 e5
  have hade : ad = adE := funext fun a => e1 a (hall a)
  subst hade
  subst hRR
  refine W_sz (fun hs => ?_)
  have hq := sz_eq e2 e4 hN hsz hj h16 hs
  have hA : ∀ q, s.heap.size ≤ q → fA b0 q := fun q z => Nat.le_trans hKU.2.2.1 z
  have in_n : inI (n : Int) := okD o3
  have hnn : (Int32.ofInt (n : Int)).toNatClampNeg = n := by rw [clampI in_n]; simp
  refine W.anew hx hb hown (hts _ hcl) (va_AO.use hKU.2.2.2.2.1) rfl hd rfl (fun z => absurd ((ltI in_n inI_0).mp z) (by omega)) (by rw [hnn]; omega) hR.1 (by rw [hnn]; exact hR.2) fun cA kA comp f1 f2 f3 f4 => ?_
  rw [hnn]
  obtain ⟨kA', comp', y1, y2, y3, y4⟩ := (hKU.1.2 4 (dA 4, .object "GatePatch$Plan") rfl).2
  have hcA : cA = dA 4 := Option.some.inj (f1.symm.trans y4)
  subst hcA
  generalize hH1 : H.push ({ cls := dA 4, slots := Array.replicate n .null, vm := .none } : Cell) = H1
  have z1 : H1.size = H.size + 1 := by rw [← hH1, Array.size_push]
  have e9 : H1[H.size]? = some (arrV (dA 4) n (fun _ => .null)) := by rw [← hH1, Array.getElem?_push_size, ← arrV_new]
  have g1 : ∀ q : Nat, q < H.size → H1[q]? = H[q]? := fun q hq => by rw [← hH1, Array.getElem?_push, if_neg (Nat.ne_of_lt hq)]
  have hk : ∀ (j : Nat) (x : Nat × va_E), (wsO dA ad w h)[j]? = some x → H1[x.1]? = H[x.1]? := fun j x hx => g1 x.1 ((e2 j x hx).lt)
  have hnew : cE dA ad (wnew w (2, 4, n)) (hz h w.1) w.1 = .inl (dA 4, n, .inr (.inr (.inr (.inr (fun _ => none))))) := by
    rw [cE_a (t := 4) (n := n) (by simp [wnew])]
    simp only [cnt, hz, if_true]
    rfl
  have hwne : w.1 ≠ 0 := by omega
  have k2 := k (okH_new o1) o2 (okC trivial (okT o3)) ad H1 locs la e1
  rw [wsO_new (by omega), hnew] at k2
  have hv : (vP w.1 :: st).map (toV ad) = .ref (ad w.1) :: st.map (toV ad) := by simp only [List.map_cons, toV, rf_ne ad hwne]
  rw [hv] at k2
  rw [hq]
  refine k2 ((e2.kept hk).app (fun j x hx => ?_)) (e3.push e2 hq.symm (hA _ (by rw [← hq]; exact e4.1))) ⟨Nat.le_trans e4.1 (by omega), fun x h1 h2 => (g1 x (by have := e4.1; omega)).trans (e4.2.1 x h1 h2), e4.2.2⟩ e5
  have hz0 : j < 1 := (List.getElem?_eq_some_iff.mp hx).1
  rw [show j = 0 by omega] at hx
  cases hx
  show H1[ad w.1]? = some (vp_cell _ _)
  rw [← hq, e9]; rfl
theorem Co_newq5 {Γ : Cx} {cc : ByteArray} {nL : Nat} {own : String} {ret : Option FieldType} {rr : Room} (g : Gd Γ cc nL own ret rr) {w : Wd} {h : Hp} {kc ks : Nat} {Q : State → Prop} {pc : Nat} {ls : List (Nat × AV)} {st : List AV} {N0 n idx : Nat} (hmk : Mk Γ N0) (hN : w.1 = N0 + kc) (hd : decode cc pc = .ok (.anewarray idx, 3)) (hcl : Cond.classLink own idx "GatePatch$Tape" ∈ tblG) (hn : n < 100000) (hR : kc + 1 ≤ rr.cells ∧ ks + n ≤ rr.slots) (k : Core Γ (wnew w (2, 5, n)) (hz h w.1) (kc + 1) (ks + n) Q (pc + 3) ls (vP w.1 :: st)) : Core Γ w h kc ks Q pc ls (vI (n : Int) :: st) := by
  obtain ⟨⟨l, b0, D, dA⟩, ⟨p, e, R, s, m, args, below, meth, c⟩, adE, NE⟩ := Γ
  obtain ⟨hx, hb, hml, hown, hts, hKU, hret, hlk, hNE, hRR⟩ := g
  obtain ⟨hall, hsz, hj, h16⟩ := hmk
  intro o1 o2 o3 ad H locs la e1 e2 e3 e4 e5
  have hade : ad = adE := funext fun a => e1 a (hall a)
  subst hade
  subst hRR
  refine W_sz (fun hs => ?_)
  have hq := sz_eq e2 e4 hN hsz hj h16 hs
  have hA : ∀ q, s.heap.size ≤ q → fA b0 q := fun q z => Nat.le_trans hKU.2.2.1 z
  have in_n : inI (n : Int) := okD o3
  have hnn : (Int32.ofInt (n : Int)).toNatClampNeg = n := by rw [clampI in_n]; simp
  refine W.anew hx hb hown (hts _ hcl) (va_AO.use hKU.2.2.2.2.2) rfl hd rfl (fun z => absurd ((ltI in_n inI_0).mp z) (by omega)) (by rw [hnn]; omega) hR.1 (by rw [hnn]; exact hR.2) fun cA kA comp f1 f2 f3 f4 => ?_
  rw [hnn]
  obtain ⟨kA', comp', y1, y2, y3, y4⟩ := (hKU.1.2 5 (dA 5, .object "GatePatch$Tape") rfl).2
  have hcA : cA = dA 5 := Option.some.inj (f1.symm.trans y4)
  subst hcA
  generalize hH1 : H.push ({ cls := dA 5, slots := Array.replicate n .null, vm := .none } : Cell) = H1
  have z1 : H1.size = H.size + 1 := by rw [← hH1, Array.size_push]
  have e9 : H1[H.size]? = some (arrV (dA 5) n (fun _ => .null)) := by rw [← hH1, Array.getElem?_push_size, ← arrV_new]
  have g1 : ∀ q : Nat, q < H.size → H1[q]? = H[q]? := fun q hq => by rw [← hH1, Array.getElem?_push, if_neg (Nat.ne_of_lt hq)]
  have hk : ∀ (j : Nat) (x : Nat × va_E), (wsO dA ad w h)[j]? = some x → H1[x.1]? = H[x.1]? := fun j x hx => g1 x.1 ((e2 j x hx).lt)
  have hnew : cE dA ad (wnew w (2, 5, n)) (hz h w.1) w.1 = .inl (dA 5, n, .inr (.inr (.inr (.inr (fun _ => none))))) := by
    rw [cE_a (t := 5) (n := n) (by simp [wnew])]
    simp only [cnt, hz, if_true]
    rfl
  have hwne : w.1 ≠ 0 := by omega
  have k2 := k (okH_new o1) o2 (okC trivial (okT o3)) ad H1 locs la e1
  rw [wsO_new (by omega), hnew] at k2
  have hv : (vP w.1 :: st).map (toV ad) = .ref (ad w.1) :: st.map (toV ad) := by simp only [List.map_cons, toV, rf_ne ad hwne]
  rw [hv] at k2
  rw [hq]
  refine k2 ((e2.kept hk).app (fun j x hx => ?_)) (e3.push e2 hq.symm (hA _ (by rw [← hq]; exact e4.1))) ⟨Nat.le_trans e4.1 (by omega), fun x h1 h2 => (g1 x (by have := e4.1; omega)).trans (e4.2.1 x h1 h2), e4.2.2⟩ e5
  have hz0 : j < 1 := (List.getElem?_eq_some_iff.mp hx).1
  rw [show j = 0 by omega] at hx
  cases hx
  show H1[ad w.1]? = some (vp_cell _ _)
  rw [← hq, e9]; rfl
def FF1 (own : String) (idx ci k : Nat) (tt : FieldType) : Prop := ∃ (C : String) (T : u_T) (N : Nat) (ty : Nat → FieldType), CI ci C T N ty ∧ k < N ∧ Cond.fieldLink own idx (T k).1 (T k).2.1 (T k).2.2.1 ∈ tblG ∧ ty k = tt ∧ (T k).2.2.2 = true ∧ (T k).1 = own
theorem rl_set {ad : Nat → Nat} {w : Wd} {h : Hp} {a ci k n b : Nat} (hk : k < n) (ht : ft ci k = 2) : ((List.range n).map (fun i => fV ad (ft ci i) (h a i) (w.2.2 a i))).set k (va_rf (rfN ad b)) = (List.range n).map (fun i => fV ad (ft ci i) (h a i) ((wref w a k b).2.2 a i)) := by
  apply List.ext_getElem?
  intro j
  rw [List.getElem?_set, List.length_map, List.length_range]
  by_cases hj : k = j
  · subst hj
    rw [if_pos rfl, if_pos hk, rg_map hk]
    simp [fV, ht, wref]
  · rw [if_neg hj, List.getElem?_map, List.getElem?_map]
    by_cases hl : j < n
    · rw [List.getElem?_range hl]
      have hne : ¬ j = k := fun q => hj q.symm
      simp [wref, hne]
    · rw [List.getElem?_eq_none (by simpa using Nat.le_of_not_lt hl)]; rfl
theorem wsO_ref {dA : Nat → ClassId} {ad : Nat → Nat} {w : Wd} {h : Hp} {a k b : Nat} (h1 : 16 ≤ a) : (wsO dA ad w h).set (a - 16) (ad a, cE dA ad (wref w a k b) h a) = wsO dA ad (wref w a k b) h := by
  apply List.ext_getElem?
  intro j
  unfold wsO
  rw [List.getElem?_set]
  have hw : (wref w a k b).1 = w.1 := rfl
  by_cases hj : a - 16 = j
  · subst hj
    by_cases hl : a - 16 < w.1 - 16
    · rw [if_pos rfl, if_pos (by simpa using hl), List.getElem?_map, hw, List.getElem?_range hl]
      simp only [Option.map_some]
      rw [show a - 16 + 16 = a by omega]
    · rw [if_pos rfl, if_neg (by simpa using hl), hw, List.getElem?_eq_none (by simpa using Nat.le_of_not_lt hl)]
  · rw [if_neg hj, List.getElem?_map, List.getElem?_map, hw]
    by_cases hl : j < w.1 - 16
    · rw [List.getElem?_range hl]
      simp only [Option.map_some]
      have hne : j + 16 ≠ a := by omega
      unfold cE wref
      simp only [hne, false_and, if_false]
    · rw [List.getElem?_eq_none (by simpa using Nat.le_of_not_lt hl)]; rfl
/-- a final field of a reference, in a constructor -/
theorem Co_putr {Γ : Cx} {cc : ByteArray} {nL : Nat} {own : String} {ret : Option FieldType} {rr : Room} (g : Gd Γ cc nL own ret rr) {w : Wd} {h : Hp} {kc ks : Nat} {Q : State → Prop} {pc : Nat} {ls : List (Nat × AV)} {st : List AV} {a idx ci k n b : Nat} {tt : FieldType} (hd : decode cc pc = .ok (.putfield idx, 3)) (hf : FF1 own idx ci k tt) (htt : (∃ C, tt = .object C) ∨ ∃ t, tt = .array t) (hin2 : Γ.2.1.2.2.2.2.2.2.2.1.name = "<init>") (hs : At w a (1, ci, n)) (ht : ft ci k = 2) (hb0 : b ≠ 0) (kk : Core Γ (wref w a k b) h kc ks Q (pc + 3) ls st) : Core Γ w h kc ks Q pc ls (vP b :: vP a :: st) := by
  obtain ⟨⟨l, b0, D, dA⟩, ⟨p, e, R, s, m, args, below, meth, c⟩, adE, NE⟩ := Γ
  obtain ⟨hx, hb, hml, hown, hts, hKU, hret, hlk, hNE, hRR⟩ := g
  intro o1 o2 o3 ad H locs la e1 e2 e3 e4 e5
  obtain ⟨C, T, N, ty, ⟨hc, hN, hin, hty, hnm⟩, hk, hl, htt2, hfin, hdecl⟩ := hf
  have k2 := fun H locs e2 e3 e4 => kk (okH_ref o1) o2 (okT (okT o3)) ad H locs la e1 e2 e3 e4 e5
  have he := wsO_get (dA := dA) (ad := ad) (h := h) hs.1 hs.2.1
  rw [cE_o hs.2.2] at he
  simp only [List.map_cons, toV, rf_ne ad (at_ne0 hs), rf_ne ad hb0]
  refine va_putF hx hb hts hin ty hty hnm hown hKU.1 e2 e3 e4 (a - 16) he hc k hk (hts _ hl) (fun _ z => z) hfin hin2 hdecl (hty k hk) (by rw [htt2]; rcases htt with ⟨C9, rfl⟩ | ⟨t9, rfl⟩ <;> rfl) (by rw [htt2]; rcases htt with ⟨C9, rfl⟩ | ⟨t9, rfl⟩ <;> rfl) (by simp only [List.length_map, List.length_range]; rw [hN]; exact hk) hd (fun H1 locs1 p1 p2 p3 => ?_)
  have hE := wsO_ref (dA := dA) (ad := ad) (w := w) (h := h) (k := k) (b := b) hs.1
  rw [cE_o (ci := ci) (n := n) (show (wref w a k b).2.1 a = (1, ci, n) from hs.2.2), ← rl_set (by rw [hN]; exact hk) ht, rf_ne ad hb0] at hE
  rw [hE] at p1 p2
  exact k2 H1 locs1 p1 p2 p3
theorem Co_putiF {Γ : Cx} {cc : ByteArray} {nL : Nat} {own : String} {ret : Option FieldType} {rr : Room} (g : Gd Γ cc nL own ret rr) {w : Wd} {h : Hp} {kc ks : Nat} {Q : State → Prop} {pc : Nat} {ls : List (Nat × AV)} {st : List AV} {a idx ci k n : Nat} {x : Int} (hd : decode cc pc = .ok (.putfield idx, 3)) (hf : FF1 own idx ci k .int) (hin2 : Γ.2.1.2.2.2.2.2.2.2.1.name = "<init>") (hs : At w a (1, ci, n)) (ht : ft ci k = 0) (kk : Core Γ w (wr h a k x) kc ks Q (pc + 3) ls st) : Core Γ w h kc ks Q pc ls (vI x :: vP a :: st) := by
  obtain ⟨⟨l, b0, D, dA⟩, ⟨p, e, R, s, m, args, below, meth, c⟩, adE, NE⟩ := Γ
  obtain ⟨hx, hb, hml, hown, hts, hKU, hret, hlk, hNE, hRR⟩ := g
  intro o1 o2 o3 ad H locs la e1 e2 e3 e4 e5
  obtain ⟨C, T, N, ty, ⟨hc, hN, hin, hty, hnm⟩, hk, hl, htt, hfin, hdecl⟩ := hf
  have ho : okH w (wr h a k x) := okH_wr o1 (by rw [hs.2.2]; simp [okS, ht]; exact okD o3)
  have k2 := fun H locs e2 e3 e4 => kk ho o2 (okT (okT o3)) ad H locs la e1 e2 e3 e4 e5
  have he := wsO_get (dA := dA) (ad := ad) (h := h) hs.1 hs.2.1
  rw [cE_o hs.2.2] at he
  simp only [List.map_cons, toV, rf_ne ad (at_ne0 hs)]
  refine va_putF hx hb hts hin ty hty hnm hown hKU.1 e2 e3 e4 (a - 16) he hc k hk (hts _ hl) (fun _ z => z) hfin hin2 hdecl (by rw [hty k hk, htt]) rfl rfl (by simp only [List.length_map, List.length_range]; rw [hN]; exact hk) hd (fun H1 locs1 p1 p2 p3 => ?_)
  have hv : Value.int (Int32.ofInt x) = fV ad (ft ci k) x (w.2.2 a k) := by simp [fV, ht]
  have hE := wsO_set (dA := dA) (ad := ad) (w := w) (h := h) (h' := wr h a k x) hs.1 (fun b hb' => wr_ne hb')
  rw [cE_o hs.2.2, ← fl_set (by rw [hN]; exact hk), ← hv] at hE
  rw [hE] at p1 p2
  exact k2 H1 locs1 p1 p2 p3
theorem Co_obj {Γ : Cx} {cc : ByteArray} {nL : Nat} {own : String} {ret : Option FieldType} {rr : Room} (g : Gd Γ cc nL own ret rr) {w : Wd} {h : Hp} {kc ks : Nat} {Q : State → Prop} {pc : Nat} {ls : List (Nat × AV)} {st : List AV} {a idx : Nat} (hd : decode cc pc = .ok (.invokespecial idx, 3)) (hl : Cond.methodLink own idx Lib.objectInit ∈ tblG) (him : Cond.instanceMethod Lib.objectInit ∈ tblG) (hcw : Cond.code Lib.objectInit ⟨#[0xb1]⟩ 1 none ∈ tblG) (ha : a ≠ 0) (hR : 1 ≤ rr.frames ∧ aw st + 12 ≤ rr.locals) (k : Core Γ w h kc ks Q (pc + 3) ls st) : Core Γ w h kc ks Q pc ls (vP a :: st) := by
  obtain ⟨⟨l, b0, D, dA⟩, ⟨p, e, R, s, m, args, below, meth, c⟩, adE, NE⟩ := Γ
  obtain ⟨hx, hb, hml, hown, hts, hKU, hret, hlk, hNE, hRR⟩ := g
  intro o1 o2 o3 ad H locs la e1 e2 e3 e4 e5
  have k2 := k o1 o2 (okT o3) ad H locs la e1 e2 e3 e4 e5
  subst hRR
  simp only [List.map_cons, toV, rf_ne ad ha]
  exact W.objInit hx hb hown (hts _ hl) (hts _ him) (hts _ hcw) rfl e5.1 rfl hd hR.1 (by show 2 * 0 + _ + 12 ≤ _; rw [aw_cat]; have := hR.2; omega) k2
/-- contracts of constructors -/
def PcA (G : GG) (adE : Nat → Nat) (w : Wd) (h : Hp) (av : List AV) : Array Value → State → Prop := fun a U => PcT G adE w h av a U ∧ U.heap.size = adE w.1
def QcA (G : GG) (adE : Nat → Nat) (w : Wd) (h : Hp) : Array Value → State → Outcome → State → Prop := fun a st o t => QcT G adE EA w h none a st o t ∧ t.heap.size = adE w.1
def CtA (G : GG) (y : MethodName) (cw : Cond) (rm : Room) (av : List AV) (w : Wd) (h : Hp) (w' : Wd) (h' : Hp) : Prop :=
  okH w h → (∀ v ∈ av, okV v) → 16 ≤ w.1 → ∀ adE : Nat → Nat, (∀ j, adE (w.1 + j) = adE w.1 + j) → Met G.1 y (cw :: tblG) rm (PcA G adE w h av) (QcA G adE w' h') rm.cells rm.slots (fA G.2.1)
def QA (Γ : Cx) (kc ks : Nat) (w : Wd) (h : Hp) : State → Prop := match Γ with
  | ((l, b0, D, dA), (_, _, _, s, _, args, below, _, _), adE, _) => MQ below (QcA (l, b0, D, dA) adE w h) args s kc ks (fA b0)
theorem blindA {G : GG} {adE : Nat → Nat} {w : Wd} {h : Hp} {av : List AV} : FrameBlind (PcA G adE w h av) := fun a U g mk q => ⟨blindP a U g mk q.1, q.2⟩
theorem CtA_of {G : GG} {y : MethodName} {own : String} {cc : ByteArray} {maxL : Nat} {rm : Room} {av : List AV} {w : Wd} {h : Hp} {w' : Wd} {h' : Hp} (hy : plainName y.cls = true) (ho : y.cls = own) (hyn : y.name = "<init>") (hw : aw av ≤ maxL)
    (body : ∀ Γ : Cx, Γ.1 = G → Mk Γ w.1 → Γ.2.1.2.2.2.2.2.2.2.1.name = "<init>" → Gd Γ cc maxL own none rm → Core Γ w h 0 0 (QA Γ rm.cells rm.slots w' h') 0 (avL 0 av) []) : CtA G y (Cond.code y cc maxL none) rm av w h w' h' := by
  subst ho
  intro o1 o2 h16 adE hj
  refine Met.ofW (cc := cc) (maxL := maxL) (ret := none) hy rfl ?_
  intro p e s m args below meth c s₁ B hml hv
  obtain ⟨⟨rfl, hKU, hP, hD⟩, hsz⟩ := hv
  obtain ⟨l, b0, D, dA⟩ := G
  have hts := atoms_spec (ws := Cond.code y cc maxL none :: tblG) B.pre
  have hown : s.vm.findClass y.cls = some m.cls := findClass_of_methodNamed B.named
  have hnm : meth.name = "<init>" := by rw [← hyn]; exact (name_of_methodNamed B.named B.method).1
  have hb := body ((l, b0, D, dA), (p, e, rm, s, m, (av.map (toV adE)).toArray, below, meth, c), adE, EA) rfl ⟨fun _ => trivial, hsz, hj, h16⟩ hnm
    ⟨B.exec, B.bytes, hml, hown, fun x hx => hts x (List.mem_cons_of_mem _ hx), hKU, B.returns, B.notSynchronized, fun _ _ => trivial, rfl⟩
  rw [lg_entry_eq]
  have hl := lv_entry (av.map (toV adE)) (n := maxL) (by rw [aw_len]; exact hw)
  rw [avL_map] at hl
  refine hb o1 (avL_ok 0 av o2) (fun _ q => by cases q) adE s.heap [] _ (fun _ _ => rfl) hP hD va_S.rf ?_
  rw [hml]; exact hl
theorem Co_returnA {Γ : Cx} {cc : ByteArray} {nL : Nat} {own : String} {ret : Option FieldType} {rr : Room} (g : Gd Γ cc nL own ret rr) {w : Wd} {h : Hp} {kc ks : Nat} {pc : Nat} {ls : List (Nat × AV)} {N0 : Nat} (hmk : Mk Γ N0) (hN : w.1 = N0 + kc) (hd : decode cc pc = .ok (.return_, 1)) (hrt : ret = none) : Core Γ w h kc ks (QA Γ kc ks w h) pc ls [] := by
  obtain ⟨⟨l, b0, D, dA⟩, ⟨p, e, R, s, m, args, below, meth, c⟩, adE, NE⟩ := Γ
  obtain ⟨hx, hb, hml, hown, hts, hKU, hret, hlk, hNE, hRR⟩ := g
  obtain ⟨hall, hsz, hj, h16⟩ := hmk
  intro o1 o2 o3 ad H locs la e1 e2 e3 e4 e5
  have hade : ad = adE := funext fun a => e1 a (hall a)
  subst hade
  subst hRR
  refine W_sz (fun hs => ?_)
  have hq := sz_eq e2 e4 hN hsz hj h16 hs
  have hA : ∀ q, s.heap.size ≤ q → fA b0 q := fun q z => Nat.le_trans hKU.2.2.1 z
  have hqq : ∀ t : State, t.heap = H → QcA (l, b0, D, dA) ad w h args s (.returned none) t := fun t ht => ⟨⟨⟨ad, fun _ _ => rfl, rfl, o1, fun v hv => (by cases hv), by rw [ht]; exact e2, e3⟩, e4.F ht⟩, by rw [ht]; exact hq⟩
  exact W.vret hx hb (by rw [hret, hrt]) (fun t ht _ => hqq t ht) e4.2.2 hd hlk
theorem Co_callI {Γ : Cx} {cc : ByteArray} {nL : Nat} {own : String} {ret : Option FieldType} {rr : Room} (g : Gd Γ cc nL own ret rr) {w : Wd} {h : Hp} {kc ks : Nat} {Q : State → Prop} {pc : Nat} {ls : List (Nat × AV)} {st : List AV} {N0 : Nat} {y : MethodName} {bytes : ByteArray} {maxL : Nat} {rm : Room} {As : List AV} {w' : Wd} {h' : Hp} {S : List AV} {idx b : Nat} (hmk : Mk Γ N0) (hN : w.1 = N0 + kc) (hd : decode cc pc = .ok (.invokespecial idx, 3)) (hC : CtA Γ.1 y (Cond.code y bytes maxL none) rm (vP b :: As) w h w' h') (hst : S = As.reverse ++ vP b :: st) (hyn : y.name = "<init>") (hb0 : b ≠ 0) (him : Cond.instanceMethod y ∈ tblG) (hcw : Cond.code y bytes maxL none ∈ tblG) (hml1 : Cond.methodLink own idx y ∈ tblG) (hini : Cond.initialized y.cls ∈ tblG) (hd3 : y.cls ≠ "java/lang/invoke/MethodHandle" ∧ y.cls ≠ "java/lang/invoke/VarHandle" ∧ (parseMethodDescriptor y.desc).map (fun d => d.parameters.length) = some As.length) (hR : rm.frames + 1 ≤ rr.frames ∧ 8 + (maxL + 11) + rm.locals ≤ rr.locals) (hcs : kc + rm.cells ≤ rr.cells ∧ ks + rm.slots ≤ rr.slots) (hroom : aw st ≤ 8) (k : Core Γ w' h' (kc + rm.cells) (ks + rm.slots) Q (pc + 3) ls st) : Core Γ w h kc ks Q pc ls S := by
  obtain ⟨⟨l, b0, D, dA⟩, ⟨p, e, R, s, m, args, below, meth, c⟩, adE, NE⟩ := Γ
  obtain ⟨hx, hb, hml, hown, hts, hKU, hret, hlk, hNE, hRR⟩ := g
  obtain ⟨hall, hsz, hj, h16⟩ := hmk
  intro o1 o2 o3 ad H locs la e1 e2 e3 e4 e5
  have hade : ad = adE := funext fun a => e1 a (hall a)
  subst hade
  subst hRR
  refine W_sz (fun hs => ?_)
  have hq := sz_eq e2 e4 hN hsz hj h16 hs
  have hA : ∀ q, s.heap.size ≤ q → fA b0 q := fun q z => Nat.le_trans hKU.2.2.1 z
  subst hst
  have hok : ∀ v ∈ (vP b :: As), okV v := okC trivial (fun v hv => o3 v (by simp [hv]))
  have hos : ∀ v ∈ st, okV v := fun v hv => o3 v (by simp [hv])
  have hM := hC o1 hok (by omega) ad (fun j => by rw [hN, Nat.add_assoc, hj, hj]; omega)
  have hbv : toV ad (vP b) = .ref (ad b) := rf_ne ad hb0
  have hP : ∀ U : State, U.heap = H → s.WarmedH U.vm → PcA (l, b0, D, dA) ad w h (vP b :: As) (Value.ref (ad b) :: As.map (toV ad)).toArray U := by
    intro U hU hW
    refine ⟨⟨by rw [List.map_cons, hbv], ⟨va_K.moved hW.alike hKU.1, ?_, ?_, KN.warm hW hKU.2.2.2.1, hKU.2.2.2.2.1.moved hW.alike, hKU.2.2.2.2.2.moved hW.alike⟩, by rw [hU]; exact e2, e3⟩, by rw [hU]; exact hq⟩
    · rw [hU]; exact KS.moved hW.alike (KS.kept hKU.2.1 (fun a h1 h2 => e4.2.1 a h1 h2))
    · rw [hU]; exact Nat.le_trans hKU.2.2.1 e4.1
  have hG : GoodIn tblG (Cond.code y bytes maxL none :: tblG) := by
    intro x hx
    rcases List.mem_cons.mp hx with rfl | hx
    · exact ⟨hcw, tbl_good _ hcw⟩
    · exact ⟨hx, tbl_good _ hx⟩
  rw [List.map_append, List.map_reverse, List.map_cons, hbv]
  have hrun := va_runI (Ts := tblG) (own := own) (cc := cc) (nL := c.maxLocals) (H := H) (locs := locs) (cells := kc) (slots := ks) (below := below) (e := e) (meth := meth) (b := ad b) (g := F0 m pc la ((As.map (toV ad)).reverse ++ .ref (ad b) :: st.map (toV ad))) (As := As.map (toV ad)) (rest := st.map (toV ad)) ⟨hx, hb, rfl, hown, hts⟩ hM ⟨callB_of As.length hts hG rfl rfl rfl (hts _ hini) (hts _ hml1) hd3 hR, hyn, hts _ him⟩ ⟨blindA, hP⟩ rfl (by simp) e5.1 rfl (lv_room (by rw [aw_cat]; exact hroom)) hd hcs
  refine call_any hrun ?_
  intro v st₁ t H1 L h0 ht hvm hqq hL
  obtain ⟨⟨⟨ad2, a1, a2, a3, a4, a5, a6⟩, a7⟩, a8⟩ := hqq
  have had : ad2 = ad := funext fun a => a1 a trivial
  subst had
  cases a2
  have hF : va_S (fA b0) s.heap H1 (locs ++ L) := by
    unfold va_F at a7
    rw [h0, ht] at a7
    refine ⟨Nat.le_trans e4.1 a7.1, fun q h1 h2 => ?_, fun q hq => ?_⟩
    · rw [a7.2 q (Nat.lt_of_lt_of_le h1 e4.1) h2]; exact e4.2.1 q h1 h2
    · rcases List.mem_append.mp hq with z | z
      · exact e4.2.2 q z
      · exact hL q z
  rw [ht] at a5
  exact k a3 o2 hos ad2 H1 (locs ++ L) la e1 a5 a6 hF e5
theorem Co_callIN {Γ : Cx} {cc : ByteArray} {nL : Nat} {own : String} {ret : Option FieldType} {rr : Room} (g : Gd Γ cc nL own ret rr) {w : Wd} {h : Hp} {kc ks : Nat} {Q : State → Prop} {pc : Nat} {ls : List (Nat × AV)} {st : List AV} {N0 : Nat} {y : MethodName} {bytes : ByteArray} {maxL : Nat} {rm : Room} {As : List AV} {w' : Wd} {h' : Hp} {S : List AV} {idx b : Nat} (hmk : Mk Γ N0) (hN : w.1 = N0 + kc) (hd : decode cc pc = .ok (.invokespecial idx, 3)) (hC : CtA Γ.1 y (Cond.code y bytes maxL none) rm (vP b :: As) w h w' h') (hst : S = As.reverse ++ vP b :: st) (hyn : y.name = "<init>") (hb0 : b ≠ 0) (him : Cond.instanceMethod y ∈ tblG) (hcw : Cond.code y bytes maxL none ∈ tblG) (hml1 : Cond.methodLinkNest own idx y "GatePatch" ∈ NW) (hini : Cond.initialized y.cls ∈ tblG) (hd3 : y.cls ≠ "java/lang/invoke/MethodHandle" ∧ y.cls ≠ "java/lang/invoke/VarHandle" ∧ (parseMethodDescriptor y.desc).map (fun d => d.parameters.length) = some As.length) (hR : rm.frames + 1 ≤ rr.frames ∧ 8 + (maxL + 11) + rm.locals ≤ rr.locals) (hcs : kc + rm.cells ≤ rr.cells ∧ ks + rm.slots ≤ rr.slots) (hroom : aw st ≤ 8) (k : Core Γ w' h' (kc + rm.cells) (ks + rm.slots) Q (pc + 3) ls st) : Core Γ w h kc ks Q pc ls S := by
  obtain ⟨⟨l, b0, D, dA⟩, ⟨p, e, R, s, m, args, below, meth, c⟩, adE, NE⟩ := Γ
  obtain ⟨hx, hb, hml, hown, hts, hKU, hret, hlk, hNE, hRR⟩ := g
  obtain ⟨hall, hsz, hj, h16⟩ := hmk
  intro o1 o2 o3 ad H locs la e1 e2 e3 e4 e5
  have hade : ad = adE := funext fun a => e1 a (hall a)
  subst hade
  subst hRR
  refine W_sz (fun hs => ?_)
  have hq := sz_eq e2 e4 hN hsz hj h16 hs
  have hA : ∀ q, s.heap.size ≤ q → fA b0 q := fun q z => Nat.le_trans hKU.2.2.1 z
  subst hst
  have hok : ∀ v ∈ (vP b :: As), okV v := okC trivial (fun v hv => o3 v (by simp [hv]))
  have hos : ∀ v ∈ st, okV v := fun v hv => o3 v (by simp [hv])
  have hM := hC o1 hok (by omega) ad (fun j => by rw [hN, Nat.add_assoc, hj, hj]; omega)
  have hbv : toV ad (vP b) = .ref (ad b) := rf_ne ad hb0
  have hP : ∀ U : State, U.heap = H → s.WarmedH U.vm → PcA (l, b0, D, dA) ad w h (vP b :: As) (Value.ref (ad b) :: As.map (toV ad)).toArray U := by
    intro U hU hW
    refine ⟨⟨by rw [List.map_cons, hbv], ⟨va_K.moved hW.alike hKU.1, ?_, ?_, KN.warm hW hKU.2.2.2.1, hKU.2.2.2.2.1.moved hW.alike, hKU.2.2.2.2.2.moved hW.alike⟩, by rw [hU]; exact e2, e3⟩, by rw [hU]; exact hq⟩
    · rw [hU]; exact KS.moved hW.alike (KS.kept hKU.2.1 (fun a h1 h2 => e4.2.1 a h1 h2))
    · rw [hU]; exact Nat.le_trans hKU.2.2.1 e4.1
  have hG : GoodIn tblG (Cond.code y bytes maxL none :: tblG) := by
    intro x hx
    rcases List.mem_cons.mp hx with rfl | hx
    · exact ⟨hcw, tbl_good _ hcw⟩
    · exact ⟨hx, tbl_good _ hx⟩
  rw [List.map_append, List.map_reverse, List.map_cons, hbv]
  have hrun := va_runIN (host := "GatePatch") (Ts := tblG) (own := own) (cc := cc) (nL := c.maxLocals) (H := H) (locs := locs) (cells := kc) (slots := ks) (below := below) (e := e) (meth := meth) (b := ad b) (g := F0 m pc la ((As.map (toV ad)).reverse ++ .ref (ad b) :: st.map (toV ad))) (As := As.map (toV ad)) (rest := st.map (toV ad)) ⟨hx, hb, rfl, hown, hts⟩ hM ⟨va_cnB As.length hts hG rfl rfl rfl (hKU.2.2.2.1 _ hml1) (hts _ hini) hd3 hR, hyn, hts _ him⟩ ⟨blindA, hP⟩ rfl (by simp) e5.1 rfl (lv_room (by rw [aw_cat]; exact hroom)) hd hcs
  refine call_any hrun ?_
  intro v st₁ t H1 L h0 ht hvm hqq hL
  obtain ⟨⟨⟨ad2, a1, a2, a3, a4, a5, a6⟩, a7⟩, a8⟩ := hqq
  have had : ad2 = ad := funext fun a => a1 a trivial
  subst had
  cases a2
  have hF : va_S (fA b0) s.heap H1 (locs ++ L) := by
    unfold va_F at a7
    rw [h0, ht] at a7
    refine ⟨Nat.le_trans e4.1 a7.1, fun q h1 h2 => ?_, fun q hq => ?_⟩
    · rw [a7.2 q (Nat.lt_of_lt_of_le h1 e4.1) h2]; exact e4.2.1 q h1 h2
    · rcases List.mem_append.mp hq with z | z
      · exact e4.2.2 q z
      · exact hL q z
  rw [ht] at a5
  exact k a3 o2 hos ad2 H1 (locs ++ L) la e1 a5 a6 hF e5
