/-! THE HEAP: reads, writes, statics, calls, returns -/
theorem wsO_get {dA : Nat → ClassId} {ad : Nat → Nat} {w : Wd} {h : Hp} {a : Nat} (h1 : 16 ≤ a) (h2 : a < w.1) : (wsO dA ad w h)[a - 16]? = some (ad a, cE dA ad w h a) := by
  unfold wsO
  rw [List.getElem?_map, List.getElem?_range (by omega)]
  simp only [Option.map_some]
  rw [show a - 16 + 16 = a by omega]
theorem wsO_set {dA : Nat → ClassId} {ad : Nat → Nat} {w : Wd} {h h' : Hp} {a : Nat} (h1 : 16 ≤ a) (hh : ∀ b, b ≠ a → h' b = h b) : (wsO dA ad w h).set (a - 16) (ad a, cE dA ad w h' a) = wsO dA ad w h' := by
  apply List.ext_getElem?
  intro j
  unfold wsO
  rw [List.getElem?_set]
  by_cases hj : a - 16 = j
  · subst hj
    by_cases hl : a - 16 < w.1 - 16
    · rw [if_pos rfl, if_pos (by simpa using hl), List.getElem?_map, List.getElem?_range hl]
      simp only [Option.map_some]
      rw [show a - 16 + 16 = a by omega]
    · rw [if_pos rfl, if_neg (by simpa using hl), List.getElem?_eq_none (by simpa using Nat.le_of_not_lt hl)]
  · rw [if_neg hj, List.getElem?_map, List.getElem?_map]
    by_cases hl : j < w.1 - 16
    · rw [List.getElem?_range hl]
      simp only [Option.map_some]
      have hne : j + 16 ≠ a := by omega
      unfold cE
      rw [hh _ hne]
    · rw [List.getElem?_eq_none (by simpa using Nat.le_of_not_lt hl)]; rfl
theorem cE_o {dA : Nat → ClassId} {ad : Nat → Nat} {w : Wd} {h : Hp} {a ci n : Nat} (hs : w.2.1 a = (1, ci, n)) : cE dA ad w h a = .inr (ci, (List.range (nF ci)).map (fun i => fV ad (ft ci i) (h a i) (w.2.2 a i))) := by
  unfold cE; rw [hs]; rfl
theorem cE_a {dA : Nat → ClassId} {ad : Nat → Nat} {w : Wd} {h : Hp} {a t n : Nat} (hs : w.2.1 a = (2, t, n)) : cE dA ad w h a = .inl (dA t, n, cnt ad t (h a)) := by
  unfold cE; rw [hs]; rfl
def CI (ci : Nat) (C : String) (T : u_T) (N : Nat) (ty : Nat → FieldType) : Prop := clT[ci]? = some (C, T, N) ∧ nF ci = N ∧ (∀ w ∈ u_ws C T N, w ∈ tblG) ∧ (∀ k, k < N → parseFieldDescriptor (T k).2.2.1 = some (ty k)) ∧ (∀ a, a < N → ∀ b, b < N → a ≠ b → (T a).2.1 ≠ (T b).2.1)
def FL (own : String) (idx ci k : Nat) : Prop := ∃ (C : String) (T : u_T) (N : Nat) (ty : Nat → FieldType), CI ci C T N ty ∧ k < N ∧ Cond.fieldLink own idx (T k).1 (T k).2.1 (T k).2.2.1 ∈ tblG
def FP (own : String) (idx ci k : Nat) (tt : FieldType) : Prop := ∃ (C : String) (T : u_T) (N : Nat) (ty : Nat → FieldType), CI ci C T N ty ∧ k < N ∧ Cond.fieldLink own idx (T k).1 (T k).2.1 (T k).2.2.1 ∈ tblG ∧ ty k = tt ∧ (T k).2.2.2 = false
theorem rg_map {α : Type} {n k : Nat} {f : Nat → α} (h : k < n) : ((List.range n).map f)[k]? = some (f k) := by rw [List.getElem?_map, List.getElem?_range h]; rfl
theorem wr_ne {h : Hp} {a i : Nat} {v : Int} {b : Nat} (hb : b ≠ a) : wr h a i v b = h b := by funext j; unfold wr; rw [if_neg (fun q => hb q.1)]
theorem wr_at {h : Hp} {a i : Nat} {v : Int} : wr h a i v a i = v := by unfold wr; rw [if_pos ⟨rfl, rfl⟩]
theorem wr_o {h : Hp} {a i j : Nat} {v : Int} (hj : j ≠ i) (b : Nat) : wr h a i v b j = h b j := by unfold wr; rw [if_neg (fun q => hj q.2)]
theorem fl_set {ad : Nat → Nat} {w : Wd} {h : Hp} {a ci k n : Nat} {x : Int} (hk : k < n) : ((List.range n).map (fun i => fV ad (ft ci i) (h a i) (w.2.2 a i))).set k (fV ad (ft ci k) x (w.2.2 a k)) = (List.range n).map (fun i => fV ad (ft ci i) (wr h a k x a i) (w.2.2 a i)) := by
  apply List.ext_getElem?
  intro j
  rw [List.getElem?_set, List.length_map, List.length_range]
  by_cases hj : k = j
  · subst hj
    rw [if_pos rfl, if_pos hk, rg_map hk, wr_at]
  · rw [if_neg hj, List.getElem?_map, List.getElem?_map]
    by_cases hl : j < n
    · rw [List.getElem?_range hl]
      simp only [Option.map_some]
      rw [wr_o (fun q => hj q.symm)]
    · rw [List.getElem?_eq_none (by simpa using Nat.le_of_not_lt hl)]; rfl
theorem okH_wr {w : Wd} {h : Hp} {a i : Nat} {v : Int} (o : okH w h) (hv : okS (w.2.1 a) i v) : okH w (wr h a i v) := by
  intro b hb1 hb2 j
  by_cases q : b = a ∧ j = i
  · obtain ⟨rfl, rfl⟩ := q
    rw [wr_at]; exact hv
  · unfold wr; rw [if_neg q]; exact o b hb1 hb2 j
theorem clampI {x : Int} (h : inI x) : (Int32.ofInt x).toNatClampNeg = x.toNat := Int32.toNatClampNeg_ofInt_of_le h.1 h.2
theorem vpI {x : Int} {n : Nat} (hx : inI x) (h0 : 0 ≤ x) (h1 : x < n) : vp_in (Int32.ofInt x) n := by
  unfold vp_in
  rw [clampI hx]
  intro q
  rcases q with q | q
  · exact absurd ((ltI hx inI_0).mp q) (by omega)
  · omega
theorem at_ne0 {w : Wd} {a : Nat} {S : ShT} (h : At w a S) : a ≠ 0 := by have := h.1; omega
theorem Co_geti {Γ : Cx} {cc : ByteArray} {nL : Nat} {own : String} {ret : Option FieldType} {rr : Room} (g : Gd Γ cc nL own ret rr) {w : Wd} {h : Hp} {kc ks : Nat} {Q : State → Prop} {pc : Nat} {ls : List (Nat × AV)} {st : List AV} {a idx ci k n : Nat} (hd : decode cc pc = .ok (.getfield idx, 3)) (hf : FL own idx ci k) (hs : At w a (1, ci, n)) (ht : ft ci k = 0 ∨ ft ci k = 3) (kk : Core Γ w h kc ks Q (pc + 3) ls (vI (h a k) :: st)) : Core Γ w h kc ks Q pc ls (vP a :: st) := by
  obtain ⟨⟨l, b0, D, dA⟩, ⟨p, e, R, s, m, args, below, meth, c⟩, adE, NE⟩ := Γ
  obtain ⟨hx, hb, hml, hown, hts, hKU, hret, hlk, hNE, hRR⟩ := g
  intro o1 o2 o3 ad H locs la e1 e2 e3 e4 e5
  obtain ⟨C, T, N, ty, ⟨hc, hN, hin, hty, hnm⟩, hk, hl⟩ := hf
  have hov : okV (vI (h a k)) := by
    have q := o1 a hs.1 hs.2.1 k
    rw [hs.2.2] at q
    rcases ht with ht | ht <;> simp [okS, ht] at q
    · exact q
    · rcases q with q | q <;> (show inI _; rw [q]; exact ⟨by decide, by decide⟩)
  have k2 := kk o1 o2 (okC hov (okT o3)) ad H locs la e1 e2 e3 e4 e5
  have he := wsO_get (dA := dA) (ad := ad) (h := h) hs.1 hs.2.1
  rw [cE_o hs.2.2] at he
  simp only [List.map_cons, toV, rf_ne ad (at_ne0 hs)]
  refine va_get hx hb hts hin hown hKU.1 e2 (a - 16) he hc k hk (hts _ hl) (fun _ z => z) (rg_map (by rw [hN]; exact hk)) hd ?_
  have hv : fV ad (ft ci k) (h a k) (w.2.2 a k) = .int (Int32.ofInt (h a k)) := by rcases ht with ht | ht <;> simp [fV, ht]
  rw [hv]
  exact k2
theorem Co_getj {Γ : Cx} {cc : ByteArray} {nL : Nat} {own : String} {ret : Option FieldType} {rr : Room} (g : Gd Γ cc nL own ret rr) {w : Wd} {h : Hp} {kc ks : Nat} {Q : State → Prop} {pc : Nat} {ls : List (Nat × AV)} {st : List AV} {a idx ci k n : Nat} (hd : decode cc pc = .ok (.getfield idx, 3)) (hf : FL own idx ci k) (hs : At w a (1, ci, n)) (ht : ft ci k = 1) (kk : Core Γ w h kc ks Q (pc + 3) ls (vJ (h a k) :: st)) : Core Γ w h kc ks Q pc ls (vP a :: st) := by
  obtain ⟨⟨l, b0, D, dA⟩, ⟨p, e, R, s, m, args, below, meth, c⟩, adE, NE⟩ := Γ
  obtain ⟨hx, hb, hml, hown, hts, hKU, hret, hlk, hNE, hRR⟩ := g
  intro o1 o2 o3 ad H locs la e1 e2 e3 e4 e5
  obtain ⟨C, T, N, ty, ⟨hc, hN, hin, hty, hnm⟩, hk, hl⟩ := hf
  have hov : okV (vJ (h a k)) := by
    have q := o1 a hs.1 hs.2.1 k
    rw [hs.2.2] at q
    simp [okS, ht] at q
    exact q
  have k2 := kk o1 o2 (okC hov (okT o3)) ad H locs la e1 e2 e3 e4 e5
  have he := wsO_get (dA := dA) (ad := ad) (h := h) hs.1 hs.2.1
  rw [cE_o hs.2.2] at he
  simp only [List.map_cons, toV, rf_ne ad (at_ne0 hs)]
  refine va_get hx hb hts hin hown hKU.1 e2 (a - 16) he hc k hk (hts _ hl) (fun _ z => z) (rg_map (by rw [hN]; exact hk)) hd ?_
  have hv : fV ad (ft ci k) (h a k) (w.2.2 a k) = .long (Int64.ofInt (h a k)) := by simp [fV, ht]
  rw [hv]
  exact k2
theorem Co_getr {Γ : Cx} {cc : ByteArray} {nL : Nat} {own : String} {ret : Option FieldType} {rr : Room} (g : Gd Γ cc nL own ret rr) {w : Wd} {h : Hp} {kc ks : Nat} {Q : State → Prop} {pc : Nat} {ls : List (Nat × AV)} {st : List AV} {a idx ci k n b : Nat} (hd : decode cc pc = .ok (.getfield idx, 3)) (hf : FL own idx ci k) (hs : At w a (1, ci, n)) (ht : ft ci k = 2) (hr : w.2.2 a k = b) (kk : Core Γ w h kc ks Q (pc + 3) ls (vP b :: st)) : Core Γ w h kc ks Q pc ls (vP a :: st) := by
  obtain ⟨⟨l, b0, D, dA⟩, ⟨p, e, R, s, m, args, below, meth, c⟩, adE, NE⟩ := Γ
  obtain ⟨hx, hb, hml, hown, hts, hKU, hret, hlk, hNE, hRR⟩ := g
  intro o1 o2 o3 ad H locs la e1 e2 e3 e4 e5
  obtain ⟨C, T, N, ty, ⟨hc, hN, hin, hty, hnm⟩, hk, hl⟩ := hf
  subst hr
  have k2 := kk o1 o2 (okC trivial (okT o3)) ad H locs la e1 e2 e3 e4 e5
  have he := wsO_get (dA := dA) (ad := ad) (h := h) hs.1 hs.2.1
  rw [cE_o hs.2.2] at he
  simp only [List.map_cons, toV, rf_ne ad (at_ne0 hs)]
  refine va_get hx hb hts hin hown hKU.1 e2 (a - 16) he hc k hk (hts _ hl) (fun _ z => z) (rg_map (by rw [hN]; exact hk)) hd ?_
  have hv : fV ad (ft ci k) (h a k) (w.2.2 a k) = va_rf (rfN ad (w.2.2 a k)) := by simp [fV, ht]
  rw [hv]
  exact k2
theorem Co_puti {Γ : Cx} {cc : ByteArray} {nL : Nat} {own : String} {ret : Option FieldType} {rr : Room} (g : Gd Γ cc nL own ret rr) {w : Wd} {h : Hp} {kc ks : Nat} {Q : State → Prop} {pc : Nat} {ls : List (Nat × AV)} {st : List AV} {a idx ci k n : Nat} {x : Int} (hd : decode cc pc = .ok (.putfield idx, 3)) (hf : FP own idx ci k .int) (hs : At w a (1, ci, n)) (ht : ft ci k = 0)  (kk : Core Γ w (wr h a k x) kc ks Q (pc + 3) ls st) : Core Γ w h kc ks Q pc ls (vI x :: vP a :: st) := by
  obtain ⟨⟨l, b0, D, dA⟩, ⟨p, e, R, s, m, args, below, meth, c⟩, adE, NE⟩ := Γ
  obtain ⟨hx, hb, hml, hown, hts, hKU, hret, hlk, hNE, hRR⟩ := g
  intro o1 o2 o3 ad H locs la e1 e2 e3 e4 e5
  obtain ⟨C, T, N, ty, ⟨hc, hN, hin, hty, hnm⟩, hk, hl, htt, hfin⟩ := hf
  have ho : okH w (wr h a k x) := okH_wr o1 (by rw [hs.2.2]; simp [okS, ht]; exact okD o3)
  have k2 := fun H locs e2 e3 e4 => kk ho o2 (okT (okT o3)) ad H locs la e1 e2 e3 e4 e5
  have he := wsO_get (dA := dA) (ad := ad) (h := h) hs.1 hs.2.1
  rw [cE_o hs.2.2] at he
  simp only [List.map_cons, toV, rf_ne ad (at_ne0 hs)]
  refine va_put hx hb hts hin ty hty hnm hown hKU.1 e2 e3 e4 (a - 16) he hc k hk (hts _ hl) (fun _ z => z) hfin (by rw [hty k hk, htt]) rfl rfl (by simp only [List.length_map, List.length_range]; rw [hN]; exact hk) hd (fun H1 locs1 p1 p2 p3 => ?_)
  have hv : Value.int (Int32.ofInt x) = fV ad (ft ci k) x (w.2.2 a k) := by simp [fV, ht]
  have hE := wsO_set (dA := dA) (ad := ad) (w := w) (h := h) (h' := wr h a k x) hs.1 (fun b hb' => wr_ne hb')
  rw [cE_o hs.2.2, ← fl_set (by rw [hN]; exact hk), ← hv] at hE
  rw [hE] at p1 p2
  exact k2 H1 locs1 p1 p2 p3
theorem Co_putz {Γ : Cx} {cc : ByteArray} {nL : Nat} {own : String} {ret : Option FieldType} {rr : Room} (g : Gd Γ cc nL own ret rr) {w : Wd} {h : Hp} {kc ks : Nat} {Q : State → Prop} {pc : Nat} {ls : List (Nat × AV)} {st : List AV} {a idx ci k n : Nat} {x : Int} (hd : decode cc pc = .ok (.putfield idx, 3)) (hf : FP own idx ci k .boolean) (hs : At w a (1, ci, n)) (ht : ft ci k = 3) (hz : isZ x) (kk : Core Γ w (wr h a k x) kc ks Q (pc + 3) ls st) : Core Γ w h kc ks Q pc ls (vI x :: vP a :: st) := by
  obtain ⟨⟨l, b0, D, dA⟩, ⟨p, e, R, s, m, args, below, meth, c⟩, adE, NE⟩ := Γ
  obtain ⟨hx, hb, hml, hown, hts, hKU, hret, hlk, hNE, hRR⟩ := g
  intro o1 o2 o3 ad H locs la e1 e2 e3 e4 e5
  obtain ⟨C, T, N, ty, ⟨hc, hN, hin, hty, hnm⟩, hk, hl, htt, hfin⟩ := hf
  have ho : okH w (wr h a k x) := okH_wr o1 (by rw [hs.2.2]; simp [okS, ht]; exact hz)
  have k2 := fun H locs e2 e3 e4 => kk ho o2 (okT (okT o3)) ad H locs la e1 e2 e3 e4 e5
  have he := wsO_get (dA := dA) (ad := ad) (h := h) hs.1 hs.2.1
  rw [cE_o hs.2.2] at he
  simp only [List.map_cons, toV, rf_ne ad (at_ne0 hs)]
  refine va_put hx hb hts hin ty hty hnm hown hKU.1 e2 e3 e4 (a - 16) he hc k hk (hts _ hl) (fun _ z => z) hfin (by rw [hty k hk, htt]) (by rcases hz with rfl | rfl <;> decide) (by rcases hz with rfl | rfl <;> decide) (by simp only [List.length_map, List.length_range]; rw [hN]; exact hk) hd (fun H1 locs1 p1 p2 p3 => ?_)
  have hv : Value.int (Int32.ofInt x) = fV ad (ft ci k) x (w.2.2 a k) := by simp [fV, ht]
  have hE := wsO_set (dA := dA) (ad := ad) (w := w) (h := h) (h' := wr h a k x) hs.1 (fun b hb' => wr_ne hb')
  rw [cE_o hs.2.2, ← fl_set (by rw [hN]; exact hk), ← hv] at hE
  rw [hE] at p1 p2
  exact k2 H1 locs1 p1 p2 p3
theorem Co_putj {Γ : Cx} {cc : ByteArray} {nL : Nat} {own : String} {ret : Option FieldType} {rr : Room} (g : Gd Γ cc nL own ret rr) {w : Wd} {h : Hp} {kc ks : Nat} {Q : State → Prop} {pc : Nat} {ls : List (Nat × AV)} {st : List AV} {a idx ci k n : Nat} {x : Int} (hd : decode cc pc = .ok (.putfield idx, 3)) (hf : FP own idx ci k .long) (hs : At w a (1, ci, n)) (ht : ft ci k = 1)  (kk : Core Γ w (wr h a k x) kc ks Q (pc + 3) ls st) : Core Γ w h kc ks Q pc ls (vJ x :: vP a :: st) := by
  obtain ⟨⟨l, b0, D, dA⟩, ⟨p, e, R, s, m, args, below, meth, c⟩, adE, NE⟩ := Γ
  obtain ⟨hx, hb, hml, hown, hts, hKU, hret, hlk, hNE, hRR⟩ := g
  intro o1 o2 o3 ad H locs la e1 e2 e3 e4 e5
  obtain ⟨C, T, N, ty, ⟨hc, hN, hin, hty, hnm⟩, hk, hl, htt, hfin⟩ := hf
  have ho : okH w (wr h a k x) := okH_wr o1 (by rw [hs.2.2]; simp [okS, ht]; exact okD o3)
  have k2 := fun H locs e2 e3 e4 => kk ho o2 (okT (okT o3)) ad H locs la e1 e2 e3 e4 e5
  have he := wsO_get (dA := dA) (ad := ad) (h := h) hs.1 hs.2.1
  rw [cE_o hs.2.2] at he
  simp only [List.map_cons, toV, rf_ne ad (at_ne0 hs)]
  refine va_put hx hb hts hin ty hty hnm hown hKU.1 e2 e3 e4 (a - 16) he hc k hk (hts _ hl) (fun _ z => z) hfin (by rw [hty k hk, htt]) rfl rfl (by simp only [List.length_map, List.length_range]; rw [hN]; exact hk) hd (fun H1 locs1 p1 p2 p3 => ?_)
  have hv : Value.long (Int64.ofInt x) = fV ad (ft ci k) x (w.2.2 a k) := by simp [fV, ht]
  have hE := wsO_set (dA := dA) (ad := ad) (w := w) (h := h) (h' := wr h a k x) hs.1 (fun b hb' => wr_ne hb')
  rw [cE_o hs.2.2, ← fl_set (by rw [hN]; exact hk), ← hv] at hE
  rw [hE] at p1 p2
  exact k2 H1 locs1 p1 p2 p3
theorem Co_iaload {Γ : Cx} {cc : ByteArray} {nL : Nat} {own : String} {ret : Option FieldType} {rr : Room} (g : Gd Γ cc nL own ret rr) {w : Wd} {h : Hp} {kc ks : Nat} {Q : State → Prop} {pc : Nat} {ls : List (Nat × AV)} {st : List AV} {a n : Nat} {i : Int} (hd : decode cc pc = .ok (.iaload, 1)) (hs : At w a (2, 0, n)) (h0 : 0 ≤ i) (h1 : i < n) (kk : Core Γ w h kc ks Q (pc + 1) ls (vI (h a i.toNat) :: st)) : Core Γ w h kc ks Q pc ls (vI i :: vP a :: st) := by
  obtain ⟨⟨l, b0, D, dA⟩, ⟨p, e, R, s, m, args, below, meth, c⟩, adE, NE⟩ := Γ
  obtain ⟨hx, hb, hml, hown, hts, hKU, hret, hlk, hNE, hRR⟩ := g
  intro o1 o2 o3 ad H locs la e1 e2 e3 e4 e5
  have hi : inI i := okD o3
  have hov : okV (vI (h a i.toNat)) := by
    have q := o1 a hs.1 hs.2.1 i.toNat
    rw [hs.2.2] at q
    simp [okS] at q
    exact q
  have k2 := kk o1 o2 (okC hov (okT (okT o3))) ad H locs la e1 e2 e3 e4 e5
  have he : (wsO dA ad w h)[a - 16]? = some (ad a, .inl (dA 0, n, .inl (fun j => Int32.ofInt (h a j)))) := by
    rw [wsO_get hs.1 hs.2.1, cE_a hs.2.2]; rfl
  simp only [List.map_cons, toV, rf_ne ad (at_ne0 hs)]
  refine va_iald hx hb hKU.1 e2 (a - 16) 0 he rfl (vpI hi h0 h1) hd ?_
  rw [clampI hi]
  exact k2
theorem Co_laload {Γ : Cx} {cc : ByteArray} {nL : Nat} {own : String} {ret : Option FieldType} {rr : Room} (g : Gd Γ cc nL own ret rr) {w : Wd} {h : Hp} {kc ks : Nat} {Q : State → Prop} {pc : Nat} {ls : List (Nat × AV)} {st : List AV} {a n : Nat} {i : Int} (hd : decode cc pc = .ok (.laload, 1)) (hs : At w a (2, 1, n)) (h0 : 0 ≤ i) (h1 : i < n) (kk : Core Γ w h kc ks Q (pc + 1) ls (vJ (h a i.toNat) :: st)) : Core Γ w h kc ks Q pc ls (vI i :: vP a :: st) := by
  obtain ⟨⟨l, b0, D, dA⟩, ⟨p, e, R, s, m, args, below, meth, c⟩, adE, NE⟩ := Γ
  obtain ⟨hx, hb, hml, hown, hts, hKU, hret, hlk, hNE, hRR⟩ := g
  intro o1 o2 o3 ad H locs la e1 e2 e3 e4 e5
  have hi : inI i := okD o3
  have hov : okV (vJ (h a i.toNat)) := by
    have q := o1 a hs.1 hs.2.1 i.toNat
    rw [hs.2.2] at q
    simp [okS] at q
    exact q
  have k2 := kk o1 o2 (okC hov (okT (okT o3))) ad H locs la e1 e2 e3 e4 e5
  have he : (wsO dA ad w h)[a - 16]? = some (ad a, .inl (dA 1, n, .inr (.inl (fun j => Int64.ofInt (h a j))))) := by
    rw [wsO_get hs.1 hs.2.1, cE_a hs.2.2]; rfl
  simp only [List.map_cons, toV, rf_ne ad (at_ne0 hs)]
  refine va_lald hx hb hKU.1 e2 (a - 16) 1 he rfl (vpI hi h0 h1) hd ?_
  rw [clampI hi]
  exact k2
theorem Co_zaload {Γ : Cx} {cc : ByteArray} {nL : Nat} {own : String} {ret : Option FieldType} {rr : Room} (g : Gd Γ cc nL own ret rr) {w : Wd} {h : Hp} {kc ks : Nat} {Q : State → Prop} {pc : Nat} {ls : List (Nat × AV)} {st : List AV} {a n : Nat} {i : Int} (hd : decode cc pc = .ok (.baload, 1)) (hs : At w a (2, 3, n)) (h0 : 0 ≤ i) (h1 : i < n) (kk : Core Γ w h kc ks Q (pc + 1) ls (vI (h a i.toNat) :: st)) : Core Γ w h kc ks Q pc ls (vI i :: vP a :: st) := by
  obtain ⟨⟨l, b0, D, dA⟩, ⟨p, e, R, s, m, args, below, meth, c⟩, adE, NE⟩ := Γ
  obtain ⟨hx, hb, hml, hown, hts, hKU, hret, hlk, hNE, hRR⟩ := g
  intro o1 o2 o3 ad H locs la e1 e2 e3 e4 e5
  have hi : inI i := okD o3
  have hov : okV (vI (h a i.toNat)) := by
    have q := o1 a hs.1 hs.2.1 i.toNat
    rw [hs.2.2] at q
    simp [okS] at q
    rcases q with q | q <;> (show inI _; rw [q]; exact ⟨by decide, by decide⟩)
  have k2 := kk o1 o2 (okC hov (okT (okT o3))) ad H locs la e1 e2 e3 e4 e5
  have he : (wsO dA ad w h)[a - 16]? = some (ad a, .inl (dA 3, n, .inl (fun j => Int32.ofInt (h a j)))) := by
    rw [wsO_get hs.1 hs.2.1, cE_a hs.2.2]; rfl
  simp only [List.map_cons, toV, rf_ne ad (at_ne0 hs)]
  refine va_zald hx hb hKU.1 e2 (a - 16) 3 he rfl (vpI hi h0 h1) hd ?_
  rw [clampI hi]
  exact k2
theorem Co_iastore {Γ : Cx} {cc : ByteArray} {nL : Nat} {own : String} {ret : Option FieldType} {rr : Room} (g : Gd Γ cc nL own ret rr) {w : Wd} {h : Hp} {kc ks : Nat} {Q : State → Prop} {pc : Nat} {ls : List (Nat × AV)} {st : List AV} {a n : Nat} {i x : Int} (hd : decode cc pc = .ok (.iastore, 1)) (hs : At w a (2, 0, n)) (h0 : 0 ≤ i) (h1 : i < n)  (kk : Core Γ w (wr h a i.toNat x) kc ks Q (pc + 1) ls st) : Core Γ w h kc ks Q pc ls (vI x :: vI i :: vP a :: st) := by
  obtain ⟨⟨l, b0, D, dA⟩, ⟨p, e, R, s, m, args, below, meth, c⟩, adE, NE⟩ := Γ
  obtain ⟨hx, hb, hml, hown, hts, hKU, hret, hlk, hNE, hRR⟩ := g
  intro o1 o2 o3 ad H locs la e1 e2 e3 e4 e5
  have hi : inI i := okD (okT o3)
  have ho : okH w (wr h a i.toNat x) := okH_wr o1 (by rw [hs.2.2]; simp [okS]; exact okD o3)
  have k2 := fun H locs e2 e3 e4 => kk ho o2 (okT (okT (okT o3))) ad H locs la e1 e2 e3 e4 e5
  have he : (wsO dA ad w h)[a - 16]? = some (ad a, .inl (dA 0, n, .inl (fun j => Int32.ofInt (h a j)))) := by
    rw [wsO_get hs.1 hs.2.1, cE_a hs.2.2]; rfl
  simp only [List.map_cons, toV, rf_ne ad (at_ne0 hs)]
  refine va_iast hx hb hKU.1 e2 e3 e4 (a - 16) 0 he rfl (vpI hi h0 h1) hd (fun H1 locs1 p1 p2 p3 => ?_)
  have hE := wsO_set (dA := dA) (ad := ad) (w := w) (h := h) (h' := wr h a i.toNat x) hs.1 (fun b hb' => wr_ne hb')
  have hu : upd (fun j => Int32.ofInt (h a j)) i.toNat (Int32.ofInt x) = fun j => Int32.ofInt (wr h a i.toNat x a j) := by
    funext j
    by_cases hj : j = i.toNat
    · subst hj; simp [upd, vp_updL, wr]
    · simp [upd, vp_updL, wr, hj]
  rw [cE_a hs.2.2] at hE
  simp only [cnt] at hE
  rw [clampI hi, hu] at p1 p2
  first
    | exact k2 H1 locs1 (hE ▸ p1) (hE ▸ p2) p3
    | exact k2 H1 locs1 (by rw [← hE]; exact p1) (by rw [← hE]; exact p2) p3
theorem Co_lastore {Γ : Cx} {cc : ByteArray} {nL : Nat} {own : String} {ret : Option FieldType} {rr : Room} (g : Gd Γ cc nL own ret rr) {w : Wd} {h : Hp} {kc ks : Nat} {Q : State → Prop} {pc : Nat} {ls : List (Nat × AV)} {st : List AV} {a n : Nat} {i x : Int} (hd : decode cc pc = .ok (.lastore, 1)) (hs : At w a (2, 1, n)) (h0 : 0 ≤ i) (h1 : i < n)  (kk : Core Γ w (wr h a i.toNat x) kc ks Q (pc + 1) ls st) : Core Γ w h kc ks Q pc ls (vJ x :: vI i :: vP a :: st) := by
  obtain ⟨⟨l, b0, D, dA⟩, ⟨p, e, R, s, m, args, below, meth, c⟩, adE, NE⟩ := Γ
  obtain ⟨hx, hb, hml, hown, hts, hKU, hret, hlk, hNE, hRR⟩ := g
  intro o1 o2 o3 ad H locs la e1 e2 e3 e4 e5
  have hi : inI i := okD (okT o3)
  have ho : okH w (wr h a i.toNat x) := okH_wr o1 (by rw [hs.2.2]; simp [okS]; exact okD o3)
  have k2 := fun H locs e2 e3 e4 => kk ho o2 (okT (okT (okT o3))) ad H locs la e1 e2 e3 e4 e5
  have he : (wsO dA ad w h)[a - 16]? = some (ad a, .inl (dA 1, n, .inr (.inl (fun j => Int64.ofInt (h a j))))) := by
    rw [wsO_get hs.1 hs.2.1, cE_a hs.2.2]; rfl
  simp only [List.map_cons, toV, rf_ne ad (at_ne0 hs)]
  refine va_last hx hb hKU.1 e2 e3 e4 (a - 16) 1 he rfl (vpI hi h0 h1) hd (fun H1 locs1 p1 p2 p3 => ?_)
  have hE := wsO_set (dA := dA) (ad := ad) (w := w) (h := h) (h' := wr h a i.toNat x) hs.1 (fun b hb' => wr_ne hb')
  have hu : vp_updL (fun j => Int64.ofInt (h a j)) i.toNat (Int64.ofInt x) = fun j => Int64.ofInt (wr h a i.toNat x a j) := by
    funext j
    by_cases hj : j = i.toNat
    · subst hj; simp [upd, vp_updL, wr]
    · simp [upd, vp_updL, wr, hj]
  rw [cE_a hs.2.2] at hE
  simp only [cnt] at hE
  rw [clampI hi, hu] at p1 p2
  first
    | exact k2 H1 locs1 (hE ▸ p1) (hE ▸ p2) p3
    | exact k2 H1 locs1 (by rw [← hE]; exact p1) (by rw [← hE]; exact p2) p3
theorem Co_zastore {Γ : Cx} {cc : ByteArray} {nL : Nat} {own : String} {ret : Option FieldType} {rr : Room} (g : Gd Γ cc nL own ret rr) {w : Wd} {h : Hp} {kc ks : Nat} {Q : State → Prop} {pc : Nat} {ls : List (Nat × AV)} {st : List AV} {a n : Nat} {i x : Int} (hd : decode cc pc = .ok (.bastore, 1)) (hs : At w a (2, 3, n)) (h0 : 0 ≤ i) (h1 : i < n) (hz : isZ x) (kk : Core Γ w (wr h a i.toNat x) kc ks Q (pc + 1) ls st) : Core Γ w h kc ks Q pc ls (vI x :: vI i :: vP a :: st) := by
  obtain ⟨⟨l, b0, D, dA⟩, ⟨p, e, R, s, m, args, below, meth, c⟩, adE, NE⟩ := Γ
  obtain ⟨hx, hb, hml, hown, hts, hKU, hret, hlk, hNE, hRR⟩ := g
  intro o1 o2 o3 ad H locs la e1 e2 e3 e4 e5
  have hi : inI i := okD (okT o3)
  have ho : okH w (wr h a i.toNat x) := okH_wr o1 (by rw [hs.2.2]; simp [okS]; exact hz)
  have k2 := fun H locs e2 e3 e4 => kk ho o2 (okT (okT (okT o3))) ad H locs la e1 e2 e3 e4 e5
  have he : (wsO dA ad w h)[a - 16]? = some (ad a, .inl (dA 3, n, .inl (fun j => Int32.ofInt (h a j)))) := by
    rw [wsO_get hs.1 hs.2.1, cE_a hs.2.2]; rfl
  have hnz : vp_nar .boolean (Int32.ofInt x) = Int32.ofInt x := by rcases hz with rfl | rfl <;> decide
  simp only [List.map_cons, toV, rf_ne ad (at_ne0 hs)]
  refine va_zast hx hb hKU.1 e2 e3 e4 (a - 16) 3 he rfl (vpI hi h0 h1) hd (fun H1 locs1 p1 p2 p3 => ?_)
  have hE := wsO_set (dA := dA) (ad := ad) (w := w) (h := h) (h' := wr h a i.toNat x) hs.1 (fun b hb' => wr_ne hb')
  have hu : upd (fun j => Int32.ofInt (h a j)) i.toNat (Int32.ofInt x) = fun j => Int32.ofInt (wr h a i.toNat x a j) := by
    funext j
    by_cases hj : j = i.toNat
    · subst hj; simp [upd, wr]
    · simp [upd, wr, hj]
  rw [cE_a hs.2.2] at hE
  rw [clampI hi, hnz, hu] at p1 p2
  exact k2 H1 locs1 (by rw [← hE]; exact p1) (by rw [← hE]; exact p2) p3
theorem Co_aaload {Γ : Cx} {cc : ByteArray} {nL : Nat} {own : String} {ret : Option FieldType} {rr : Room} (g : Gd Γ cc nL own ret rr) {w : Wd} {h : Hp} {kc ks : Nat} {Q : State → Prop} {pc : Nat} {ls : List (Nat × AV)} {st : List AV} {a n t : Nat} {i : Int} (hd : decode cc pc = .ok (.aaload, 1)) (hs : At w a (2, t, n)) (ht : t = 4 ∨ t = 5) (h0 : 0 ≤ i) (h1 : i < n) (kk : Core Γ w h kc ks Q (pc + 1) ls (vP (h a i.toNat).toNat :: st)) : Core Γ w h kc ks Q pc ls (vI i :: vP a :: st) := by
  obtain ⟨⟨l, b0, D, dA⟩, ⟨p, e, R, s, m, args, below, meth, c⟩, adE, NE⟩ := Γ
  obtain ⟨hx, hb, hml, hown, hts, hKU, hret, hlk, hNE, hRR⟩ := g
  intro o1 o2 o3 ad H locs la e1 e2 e3 e4 e5
  have hi : inI i := okD o3
  have k2 := kk o1 o2 (okC trivial (okT (okT o3))) ad H locs la e1 e2 e3 e4 e5
  have he : (wsO dA ad w h)[a - 16]? = some (ad a, .inl (dA t, n, .inr (.inr (.inr (.inr (fun j => rfN ad (h a j).toNat)))))) := by
    rw [wsO_get hs.1 hs.2.1, cE_a hs.2.2]
    rcases ht with rfl | rfl <;> rfl
  simp only [List.map_cons, toV, rf_ne ad (at_ne0 hs)]
  rcases ht with rfl | rfl
  · refine va_aldq hx hb hKU.1 e2 (a - 16) 4 he rfl (vpI hi h0 h1) hd ?_
    rw [clampI hi]
    exact k2
  · refine va_aldq hx hb hKU.1 e2 (a - 16) 5 he rfl (vpI hi h0 h1) hd ?_
    rw [clampI hi]
    exact k2
theorem Co_alen {Γ : Cx} {cc : ByteArray} {nL : Nat} {own : String} {ret : Option FieldType} {rr : Room} (g : Gd Γ cc nL own ret rr) {w : Wd} {h : Hp} {kc ks : Nat} {Q : State → Prop} {pc : Nat} {ls : List (Nat × AV)} {st : List AV} {a n t : Nat} (hd : decode cc pc = .ok (.arraylength, 1)) (hs : At w a (2, t, n)) (ht : t < 6) (hn : inI n) (kk : Core Γ w h kc ks Q (pc + 1) ls (vI n :: st)) : Core Γ w h kc ks Q pc ls (vP a :: st) := by
  obtain ⟨⟨l, b0, D, dA⟩, ⟨p, e, R, s, m, args, below, meth, c⟩, adE, NE⟩ := Γ
  obtain ⟨hx, hb, hml, hown, hts, hKU, hret, hlk, hNE, hRR⟩ := g
  intro o1 o2 o3 ad H locs la e1 e2 e3 e4 e5
  have k2 := kk o1 o2 (okC hn (okT o3)) ad H locs la e1 e2 e3 e4 e5
  have he : (wsO dA ad w h)[a - 16]? = some (ad a, .inl (dA t, n, cnt ad t (h a))) := by
    rw [wsO_get hs.1 hs.2.1, cE_a hs.2.2]
  have hty : ∃ ty, (tysO dA)[t]? = some (dA t, ty) := by
    match t, ht with
    | 0, _ => exact ⟨_, rfl⟩
    | 1, _ => exact ⟨_, rfl⟩
    | 2, _ => exact ⟨_, rfl⟩
    | 3, _ => exact ⟨_, rfl⟩
    | 4, _ => exact ⟨_, rfl⟩
    | 5, _ => exact ⟨_, rfl⟩
  obtain ⟨ty, hty⟩ := hty
  simp only [List.map_cons, toV, rf_ne ad (at_ne0 hs)]
  exact va_alen hx hb hKU.1 e2 (a - 16) t he hty rfl hd k2
theorem Co_aastore {Γ : Cx} {cc : ByteArray} {nL : Nat} {own : String} {ret : Option FieldType} {rr : Room} (g : Gd Γ cc nL own ret rr) {w : Wd} {h : Hp} {kc ks : Nat} {Q : State → Prop} {pc : Nat} {ls : List (Nat × AV)} {st : List AV} {a n t ci b nb : Nat} {i : Int} {C : String} {T : u_T} {N : Nat} (hd : decode cc pc = .ok (.aastore, 1)) (hs : At w a (2, t, n)) (ht : (tysO (fun j => j))[t]? = some (t, .object C)) (ht4 : 4 ≤ t) (hb1 : At w b (1, ci, nb)) (hc : clT[ci]? = some (C, T, N)) (h0 : 0 ≤ i) (h1 : i < n) (kk : Core Γ w (wr h a i.toNat b) kc ks Q (pc + 1) ls st) : Core Γ w h kc ks Q pc ls (vP b :: vI i :: vP a :: st) := by
  obtain ⟨⟨l, b0, D, dA⟩, ⟨p, e, R, s, m, args, below, meth, c⟩, adE, NE⟩ := Γ
  obtain ⟨hx, hb, hml, hown, hts, hKU, hret, hlk, hNE, hRR⟩ := g
  intro o1 o2 o3 ad H locs la e1 e2 e3 e4 e5
  have hi : inI i := okD (okT o3)
  have ho : okH w (wr h a i.toNat b) := okH_wr o1 (by rw [hs.2.2]; unfold okS; rw [if_neg (fun q => absurd q (by simp))]; simp only; rw [if_neg (by omega), if_neg (by omega), if_pos ht4]; trivial)
  have k2 := fun H locs e2 e3 e4 => kk ho o2 (okT (okT (okT o3))) ad H locs la e1 e2 e3 e4 e5
  have hcn : ∀ h : Hp, cnt ad t (h a) = .inr (.inr (.inr (.inr (fun j => rfN ad (h a j).toNat)))) := fun h => by unfold cnt; rw [if_neg (by omega), if_pos ht4]
  have he : (wsO dA ad w h)[a - 16]? = some (ad a, .inl (dA t, n, .inr (.inr (.inr (.inr (fun j => rfN ad (h a j).toNat)))))) := by
    rw [wsO_get hs.1 hs.2.1, cE_a hs.2.2, hcn]
  have heb := wsO_get (dA := dA) (ad := ad) (h := h) hb1.1 hb1.2.1
  rw [cE_o hb1.2.2] at heb
  have hty : (tysO dA)[t]? = some (dA t, .object C) := by
    match t, ht with
    | 4, q => cases q; rfl
    | 5, q => cases q; rfl
  simp only [List.map_cons, toV, rf_ne ad (at_ne0 hs), rf_ne ad (at_ne0 hb1)]
  refine va_astq hx hb hKU.1 e2 e3 e4 (a - 16) t (b - 16) ci he hty heb hc (vpI hi h0 h1) hd (fun H1 locs1 p1 p2 p3 => ?_)
  have hE := wsO_set (dA := dA) (ad := ad) (w := w) (h := h) (h' := wr h a i.toNat b) hs.1 (fun b hb' => wr_ne hb')
  have hu : va_up (fun j => rfN ad (h a j).toNat) i.toNat (some (ad b)) = fun j => rfN ad (wr h a i.toNat b a j).toNat := by
    funext j
    by_cases hj : j = i.toNat
    · subst hj; simp only [va_up, wr_at, if_true]; unfold rfN; rw [if_neg (by have := at_ne0 hb1; simpa using this)]; simp
    · simp [va_up, wr, hj]
  rw [cE_a hs.2.2, hcn] at hE
  first
    | (rw [clampI hi, hu] at p1 p2; exact k2 H1 locs1 (by rw [← hE]; exact p1) (by rw [← hE]; exact p2) p3)
    | (rw [clampI hi] at p1 p2; rw [← hu] at hE; exact k2 H1 locs1 (by rw [← hE]; exact p1) (by rw [← hE]; exact p2) p3)
theorem Co_gets1 {Γ : Cx} {cc : ByteArray} {nL : Nat} {own : String} {ret : Option FieldType} {rr : Room} (g : Gd Γ cc nL own ret rr) {w : Wd} {h : Hp} {kc ks : Nat} {Q : State → Prop} {pc : Nat} {ls : List (Nat × AV)} {st : List AV} {idx : Nat} (hd : decode cc pc = .ok (.getstatic idx, 3)) (hl : Cond.fieldLink own idx "GatePatch" "PIN_COUNT" "[B" ∈ tblG) (kk : Core Γ w h kc ks Q (pc + 3) ls (vP 1 :: st)) : Core Γ w h kc ks Q pc ls st := by
  obtain ⟨⟨l, b0, D, dA⟩, ⟨p, e, R, s, m, args, below, meth, c⟩, adE, NE⟩ := Γ
  obtain ⟨hx, hb, hml, hown, hts, hKU, hret, hlk, hNE, hRR⟩ := g
  intro o1 o2 o3 ad H locs la e1 e2 e3 e4 e5
  have k2 := kk o1 o2 (okC trivial o3) ad H locs la e1 e2 e3 e4 e5
  have hz := hKU.2.1.1
  rw [← e1 1 (hNE _ (by omega))] at hz
  exact va_gets hx hb hz e4 hown (hts _ hl) (fun _ z => z) hd k2
theorem Co_gets1N {Γ : Cx} {cc : ByteArray} {nL : Nat} {own : String} {ret : Option FieldType} {rr : Room} (g : Gd Γ cc nL own ret rr) {w : Wd} {h : Hp} {kc ks : Nat} {Q : State → Prop} {pc : Nat} {ls : List (Nat × AV)} {st : List AV} {idx : Nat} (hd : decode cc pc = .ok (.getstatic idx, 3)) (hl : Cond.fieldLinkNest own idx "GatePatch" "PIN_COUNT" "[B" "GatePatch" ∈ NW) (kk : Core Γ w h kc ks Q (pc + 3) ls (vP 1 :: st)) : Core Γ w h kc ks Q pc ls st := by
  obtain ⟨⟨l, b0, D, dA⟩, ⟨p, e, R, s, m, args, below, meth, c⟩, adE, NE⟩ := Γ
  obtain ⟨hx, hb, hml, hown, hts, hKU, hret, hlk, hNE, hRR⟩ := g
  intro o1 o2 o3 ad H locs la e1 e2 e3 e4 e5
  have k2 := kk o1 o2 (okC trivial o3) ad H locs la e1 e2 e3 e4 e5
  have hz := hKU.2.1.1
  rw [← e1 1 (hNE _ (by omega))] at hz
  exact va_getsN hx hb hz e4 hown (hKU.2.2.2.1.use hl) (fun _ z => z) hd k2
set_option maxRecDepth 100000 in
theorem pinC_in (j : Nat) : inI (pinC j) := by
  by_cases h : j < 9
  · have := (by decide +kernel : ∀ j, j < 9 → -2147483648 ≤ pinC j ∧ pinC j < 2147483648) j h
    exact this
  · have h2 : pinC j = 0 := by unfold pinC; rw [List.getD_eq_getElem?_getD, List.getElem?_eq_none (by simpa using h)]; rfl
    rw [h2]; exact ⟨by decide, by decide⟩
theorem Co_baloadS1 {Γ : Cx} {cc : ByteArray} {nL : Nat} {own : String} {ret : Option FieldType} {rr : Room} (g : Gd Γ cc nL own ret rr) {w : Wd} {h : Hp} {kc ks : Nat} {Q : State → Prop} {pc : Nat} {ls : List (Nat × AV)} {st : List AV} {i : Int} (hd : decode cc pc = .ok (.baload, 1)) (h0 : 0 ≤ i) (h1 : i < 9) (kk : Core Γ w h kc ks Q (pc + 1) ls (vI (pinC i.toNat) :: st)) : Core Γ w h kc ks Q pc ls (vI i :: vP 1 :: st) := by
  obtain ⟨⟨l, b0, D, dA⟩, ⟨p, e, R, s, m, args, below, meth, c⟩, adE, NE⟩ := Γ
  obtain ⟨hx, hb, hml, hown, hts, hKU, hret, hlk, hNE, hRR⟩ := g
  intro o1 o2 o3 ad H locs la e1 e2 e3 e4 e5
  have hi : inI i := okD o3
  have k2 := kk o1 o2 (okC (pinC_in _) (okT (okT o3))) ad H locs la e1 e2 e3 e4 e5
  have hz := hKU.2.1.2.1
  rw [← e1 1 (hNE _ (by omega))] at hz
  exact va_tb hx hb hz e4 (vpI hi h0 h1) (by rw [clampI hi]; rfl) hd k2
theorem Co_alenS1 {Γ : Cx} {cc : ByteArray} {nL : Nat} {own : String} {ret : Option FieldType} {rr : Room} (g : Gd Γ cc nL own ret rr) {w : Wd} {h : Hp} {kc ks : Nat} {Q : State → Prop} {pc : Nat} {ls : List (Nat × AV)} {st : List AV} (hd : decode cc pc = .ok (.arraylength, 1)) (kk : Core Γ w h kc ks Q (pc + 1) ls (vI 9 :: st)) : Core Γ w h kc ks Q pc ls (vP 1 :: st) := by
  obtain ⟨⟨l, b0, D, dA⟩, ⟨p, e, R, s, m, args, below, meth, c⟩, adE, NE⟩ := Γ
  obtain ⟨hx, hb, hml, hown, hts, hKU, hret, hlk, hNE, hRR⟩ := g
  intro o1 o2 o3 ad H locs la e1 e2 e3 e4 e5
  have k2 := kk o1 o2 (okC ⟨by decide, by decide⟩ (okT o3)) ad H locs la e1 e2 e3 e4 e5
  have hz := hKU.2.1.2.1
  rw [← e1 1 (hNE _ (by omega))] at hz
  exact va_tlen hx hb hz e4 rfl hd k2
theorem Co_gets2 {Γ : Cx} {cc : ByteArray} {nL : Nat} {own : String} {ret : Option FieldType} {rr : Room} (g : Gd Γ cc nL own ret rr) {w : Wd} {h : Hp} {kc ks : Nat} {Q : State → Prop} {pc : Nat} {ls : List (Nat × AV)} {st : List AV} {idx : Nat} (hd : decode cc pc = .ok (.getstatic idx, 3)) (hl : Cond.fieldLink own idx "GatePatch" "COUNTING" "[J" ∈ tblG) (kk : Core Γ w h kc ks Q (pc + 3) ls (vP 2 :: st)) : Core Γ w h kc ks Q pc ls st := by
  obtain ⟨⟨l, b0, D, dA⟩, ⟨p, e, R, s, m, args, below, meth, c⟩, adE, NE⟩ := Γ
  obtain ⟨hx, hb, hml, hown, hts, hKU, hret, hlk, hNE, hRR⟩ := g
  intro o1 o2 o3 ad H locs la e1 e2 e3 e4 e5
  have k2 := kk o1 o2 (okC trivial o3) ad H locs la e1 e2 e3 e4 e5
  have hz := hKU.2.1.2.2.1
  rw [← e1 2 (hNE _ (by omega))] at hz
  exact va_gets hx hb hz e4 hown (hts _ hl) (fun _ z => z) hd k2
theorem Co_gets2N {Γ : Cx} {cc : ByteArray} {nL : Nat} {own : String} {ret : Option FieldType} {rr : Room} (g : Gd Γ cc nL own ret rr) {w : Wd} {h : Hp} {kc ks : Nat} {Q : State → Prop} {pc : Nat} {ls : List (Nat × AV)} {st : List AV} {idx : Nat} (hd : decode cc pc = .ok (.getstatic idx, 3)) (hl : Cond.fieldLinkNest own idx "GatePatch" "COUNTING" "[J" "GatePatch" ∈ NW) (kk : Core Γ w h kc ks Q (pc + 3) ls (vP 2 :: st)) : Core Γ w h kc ks Q pc ls st := by
  obtain ⟨⟨l, b0, D, dA⟩, ⟨p, e, R, s, m, args, below, meth, c⟩, adE, NE⟩ := Γ
  obtain ⟨hx, hb, hml, hown, hts, hKU, hret, hlk, hNE, hRR⟩ := g
  intro o1 o2 o3 ad H locs la e1 e2 e3 e4 e5
  have k2 := kk o1 o2 (okC trivial o3) ad H locs la e1 e2 e3 e4 e5
  have hz := hKU.2.1.2.2.1
  rw [← e1 2 (hNE _ (by omega))] at hz
  exact va_getsN hx hb hz e4 hown (hKU.2.2.2.1.use hl) (fun _ z => z) hd k2
set_option maxRecDepth 100000 in
theorem cntC_in (j : Nat) : inJ (cntC j) := by
  by_cases h : j < 6
  · have := (by decide +kernel : ∀ j, j < 6 → -9223372036854775808 ≤ cntC j ∧ cntC j < 9223372036854775808) j h
    exact this
  · have h2 : cntC j = 0 := by unfold cntC; rw [List.getD_eq_getElem?_getD, List.getElem?_eq_none (by simpa using h)]; rfl
    rw [h2]; exact ⟨by decide, by decide⟩
theorem Co_laloadS2 {Γ : Cx} {cc : ByteArray} {nL : Nat} {own : String} {ret : Option FieldType} {rr : Room} (g : Gd Γ cc nL own ret rr) {w : Wd} {h : Hp} {kc ks : Nat} {Q : State → Prop} {pc : Nat} {ls : List (Nat × AV)} {st : List AV} {i : Int} (hd : decode cc pc = .ok (.laload, 1)) (h0 : 0 ≤ i) (h1 : i < 6) (kk : Core Γ w h kc ks Q (pc + 1) ls (vJ (cntC i.toNat) :: st)) : Core Γ w h kc ks Q pc ls (vI i :: vP 2 :: st) := by
  obtain ⟨⟨l, b0, D, dA⟩, ⟨p, e, R, s, m, args, below, meth, c⟩, adE, NE⟩ := Γ
  obtain ⟨hx, hb, hml, hown, hts, hKU, hret, hlk, hNE, hRR⟩ := g
  intro o1 o2 o3 ad H locs la e1 e2 e3 e4 e5
  have hi : inI i := okD o3
  have k2 := kk o1 o2 (okC (cntC_in _) (okT (okT o3))) ad H locs la e1 e2 e3 e4 e5
  have hz := hKU.2.1.2.2.2.1
  rw [← e1 2 (hNE _ (by omega))] at hz
  exact va_tl hx hb hz e4 (vpI hi h0 h1) (by rw [clampI hi]; rfl) hd k2
theorem Co_alenS2 {Γ : Cx} {cc : ByteArray} {nL : Nat} {own : String} {ret : Option FieldType} {rr : Room} (g : Gd Γ cc nL own ret rr) {w : Wd} {h : Hp} {kc ks : Nat} {Q : State → Prop} {pc : Nat} {ls : List (Nat × AV)} {st : List AV} (hd : decode cc pc = .ok (.arraylength, 1)) (kk : Core Γ w h kc ks Q (pc + 1) ls (vI 6 :: st)) : Core Γ w h kc ks Q pc ls (vP 2 :: st) := by
  obtain ⟨⟨l, b0, D, dA⟩, ⟨p, e, R, s, m, args, below, meth, c⟩, adE, NE⟩ := Γ
  obtain ⟨hx, hb, hml, hown, hts, hKU, hret, hlk, hNE, hRR⟩ := g
  intro o1 o2 o3 ad H locs la e1 e2 e3 e4 e5
  have k2 := kk o1 o2 (okC ⟨by decide, by decide⟩ (okT o3)) ad H locs la e1 e2 e3 e4 e5
  have hz := hKU.2.1.2.2.2.1
  rw [← e1 2 (hNE _ (by omega))] at hz
  exact va_tlen hx hb hz e4 rfl hd k2
theorem Co_gets3 {Γ : Cx} {cc : ByteArray} {nL : Nat} {own : String} {ret : Option FieldType} {rr : Room} (g : Gd Γ cc nL own ret rr) {w : Wd} {h : Hp} {kc ks : Nat} {Q : State → Prop} {pc : Nat} {ls : List (Nat × AV)} {st : List AV} {idx : Nat} (hd : decode cc pc = .ok (.getstatic idx, 3)) (hl : Cond.fieldLink own idx "GatePatch$Functions" "PRICES" "[B" ∈ tblG) (kk : Core Γ w h kc ks Q (pc + 3) ls (vP 3 :: st)) : Core Γ w h kc ks Q pc ls st := by
  obtain ⟨⟨l, b0, D, dA⟩, ⟨p, e, R, s, m, args, below, meth, c⟩, adE, NE⟩ := Γ
  obtain ⟨hx, hb, hml, hown, hts, hKU, hret, hlk, hNE, hRR⟩ := g
  intro o1 o2 o3 ad H locs la e1 e2 e3 e4 e5
  have k2 := kk o1 o2 (okC trivial o3) ad H locs la e1 e2 e3 e4 e5
  have hz := hKU.2.1.2.2.2.2.1
  rw [← e1 3 (hNE _ (by omega))] at hz
  exact va_gets hx hb hz e4 hown (hts _ hl) (fun _ z => z) hd k2
set_option maxRecDepth 100000 in
theorem prcC_in (j : Nat) : inI (prcC j) := by
  by_cases h : j < 256
  · have := (by decide +kernel : ∀ j, j < 256 → -2147483648 ≤ prcC j ∧ prcC j < 2147483648) j h
    exact this
  · have h2 : prcC j = 0 := by unfold prcC; rw [List.getD_eq_getElem?_getD, List.getElem?_eq_none (by simpa using h)]; rfl
    rw [h2]; exact ⟨by decide, by decide⟩
theorem Co_baloadS3 {Γ : Cx} {cc : ByteArray} {nL : Nat} {own : String} {ret : Option FieldType} {rr : Room} (g : Gd Γ cc nL own ret rr) {w : Wd} {h : Hp} {kc ks : Nat} {Q : State → Prop} {pc : Nat} {ls : List (Nat × AV)} {st : List AV} {i : Int} (hd : decode cc pc = .ok (.baload, 1)) (h0 : 0 ≤ i) (h1 : i < 256) (kk : Core Γ w h kc ks Q (pc + 1) ls (vI (prcC i.toNat) :: st)) : Core Γ w h kc ks Q pc ls (vI i :: vP 3 :: st) := by
  obtain ⟨⟨l, b0, D, dA⟩, ⟨p, e, R, s, m, args, below, meth, c⟩, adE, NE⟩ := Γ
  obtain ⟨hx, hb, hml, hown, hts, hKU, hret, hlk, hNE, hRR⟩ := g
  intro o1 o2 o3 ad H locs la e1 e2 e3 e4 e5
  have hi : inI i := okD o3
  have k2 := kk o1 o2 (okC (prcC_in _) (okT (okT o3))) ad H locs la e1 e2 e3 e4 e5
  have hz := hKU.2.1.2.2.2.2.2
  rw [← e1 3 (hNE _ (by omega))] at hz
  exact va_tb hx hb hz e4 (vpI hi h0 h1) (by rw [clampI hi]; rfl) hd k2
theorem Co_alenS3 {Γ : Cx} {cc : ByteArray} {nL : Nat} {own : String} {ret : Option FieldType} {rr : Room} (g : Gd Γ cc nL own ret rr) {w : Wd} {h : Hp} {kc ks : Nat} {Q : State → Prop} {pc : Nat} {ls : List (Nat × AV)} {st : List AV} (hd : decode cc pc = .ok (.arraylength, 1)) (kk : Core Γ w h kc ks Q (pc + 1) ls (vI 256 :: st)) : Core Γ w h kc ks Q pc ls (vP 3 :: st) := by
  obtain ⟨⟨l, b0, D, dA⟩, ⟨p, e, R, s, m, args, below, meth, c⟩, adE, NE⟩ := Γ
  obtain ⟨hx, hb, hml, hown, hts, hKU, hret, hlk, hNE, hRR⟩ := g
  intro o1 o2 o3 ad H locs la e1 e2 e3 e4 e5
  have k2 := kk o1 o2 (okC ⟨by decide, by decide⟩ (okT o3)) ad H locs la e1 e2 e3 e4 e5
  have hz := hKU.2.1.2.2.2.2.2
  rw [← e1 3 (hNE _ (by omega))] at hz
  exact va_tlen hx hb hz e4 rfl hd k2
