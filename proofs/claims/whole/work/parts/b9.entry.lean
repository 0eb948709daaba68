/-! THE LAW'S ENTRY: what the tables and the Statement give of the start -/
abbrev flX : List Cond := flatC (Jvm.Cond.and given_1 narrow_1)
theorem fl_pin : ∀ j, j < 9 → flX[7 + j]? = some (Cond.eq (.elem (.static "GatePatch" "PIN_COUNT" "[B") (.int (Int32.ofNat j))) (.int (Int32.ofInt (pinC j)))) := by decide +kernel
theorem fl_cnt : ∀ j, j < 6 → flX[19 + j]? = some (Cond.eq (.elem (.static "GatePatch" "COUNTING" "[J") (.int (Int32.ofNat j))) (.long (Int64.ofInt (cntC j)))) := by decide +kernel
theorem fl_prc : ∀ j, j < 256 → flX[28 + j]? = some (Cond.eq (.elem (.static "GatePatch$Functions" "PRICES" "[B") (.int (Int32.ofNat j))) (.int (Int32.ofInt (prcC j)))) := by decide +kernel
theorem ev_of {args : Array Value} {s : State} {a b : Term} {v : Value} (h : (Cond.eq a b).before args s = true) (hb : b.eval args s none [] s = some v) : a.eval args s none [] s = some v := by
  obtain ⟨y, h1, h2⟩ := Cond.eq_one h
  rw [h1, ← h2, hb]
theorem NW_in : ∀ c ∈ NW, c ∈ lw_tbl := by
  have h : NW = ([40, 129, 271, 308, 383, 416, 450, 455, 616, 631, 643, 798, 926, 1122] : List Nat).filterMap (fun i => tables_1[i]?) := by decide +kernel
  intro w hw; rw [h] at hw; obtain ⟨i, -, hi⟩ := List.mem_filterMap.mp hw; exact List.mem_append_right _ (List.mem_of_getElem? hi)
theorem in_tb {w : Cond} (i : Nat) (h : tables_1[i]? = some w) : w ∈ lw_tbl := List.mem_append_right _ (List.mem_of_getElem? h)
theorem kn_all {args : Array Value} {s : State} (hg : ∀ w ∈ tblG, w.before args s = true) : ∃ (dC : Nat → ClassId) (dI : Nat → Nat → Nat), ∀ (k : Nat) (q : vw_C), clT[k]? = some q → u_Kn s q.1 q.2.1 q.2.2 (dC k) (dI k) := by
  have h : ∀ k : Nat, ∃ z : ClassId × (Nat → Nat), ∀ q : vw_C, clT[k]? = some q → u_Kn s q.1 q.2.1 q.2.2 z.1 z.2 := by
    intro k
    match k with
    | 0 => obtain ⟨c, i, e⟩ := u_known hg in_Cases (hg _ is_Cases); exact ⟨(c, i), fun q hq => by cases hq; exact e⟩
    | 1 => obtain ⟨c, i, e⟩ := u_known hg in_Finder (hg _ is_Finder); exact ⟨(c, i), fun q hq => by cases hq; exact e⟩
    | 2 => obtain ⟨c, i, e⟩ := u_known hg in_Journal (hg _ is_Journal); exact ⟨(c, i), fun q hq => by cases hq; exact e⟩
    | 3 => obtain ⟨c, i, e⟩ := u_known hg in_Marks (hg _ is_Marks); exact ⟨(c, i), fun q hq => by cases hq; exact e⟩
    | 4 => obtain ⟨c, i, e⟩ := u_known hg in_Mender (hg _ is_Mender); exact ⟨(c, i), fun q hq => by cases hq; exact e⟩
    | 5 => obtain ⟨c, i, e⟩ := u_known hg in_Net (hg _ is_Net); exact ⟨(c, i), fun q hq => by cases hq; exact e⟩
    | 6 => obtain ⟨c, i, e⟩ := u_known hg in_Patch (hg _ is_Patch); exact ⟨(c, i), fun q hq => by cases hq; exact e⟩
    | 7 => obtain ⟨c, i, e⟩ := u_known hg in_Plan (hg _ is_Plan); exact ⟨(c, i), fun q hq => by cases hq; exact e⟩
    | 8 => obtain ⟨c, i, e⟩ := u_known hg in_Spares (hg _ is_Spares); exact ⟨(c, i), fun q hq => by cases hq; exact e⟩
    | 9 => obtain ⟨c, i, e⟩ := u_known hg in_Tape (hg _ is_Tape); exact ⟨(c, i), fun q hq => by cases hq; exact e⟩
    | 10 => obtain ⟨c, i, e⟩ := u_known hg in_GP (hg _ is_GP); exact ⟨(c, i), fun q hq => by cases hq; exact e⟩
    | 11 => obtain ⟨c, i, e⟩ := u_known hg in_Mod (hg _ is_Mod); exact ⟨(c, i), fun q hq => by cases hq; exact e⟩
    | k + 12 =>
      obtain ⟨c, i, -⟩ := u_known hg in_Cases (hg _ is_Cases)
      refine ⟨(c, i), fun q hq => ?_⟩
      have z : clT[k + 12]? = none := List.getElem?_eq_none (by show 12 ≤ k + 12; omega)
      rw [z] at hq; cases hq
  exact ⟨fun k => (Classical.choose (h k)).1, fun k => (Classical.choose (h k)).2, fun k => Classical.choose_spec (h k)⟩
def tyL : List FieldType := [.int, .long, .byte, .boolean, .object "GatePatch$Plan", .object "GatePatch$Tape"]
theorem ar_all {args : Array Value} {s : State} (hts : ∀ w ∈ lw_tbl, w.before args s = true) : ∃ dA : Nat → ClassId, ∀ (k : Nat) (q : ClassId × FieldType), (tysO dA)[k]? = some q → ArrOfT s q.1 q.2 ∧ va_RA s q.1 q.2 := by
  have hi := hts _ (in_tb (w := Cond.arrayClass .int) 88 (by decide +kernel))
  have hl := hts _ (in_tb (w := Cond.arrayClass .long) 126 (by decide +kernel))
  have hb := hts _ (in_tb (w := Cond.arrayClass .byte) 1302 (by decide +kernel))
  have hz := hts _ (in_tb (w := Cond.arrayClass .boolean) 1581 (by decide +kernel))
  have hp := hts _ (in_tb (w := Cond.arrayOver (.object "GatePatch$Plan")) 415 (by decide +kernel))
  have ht := hts _ (in_tb (w := Cond.arrayOver (.object "GatePatch$Tape")) 448 (by decide +kernel))
  have arr : ∀ {c : ClassId} {k : Class} {comp : ClassId} {ty : FieldType}, s.vm.classes[c]? = some k → k.kind = .array comp ty → ArrOfT s c ty := fun h1 h2 n z => ⟨fun _ h => (by cases h), _, h1, _, h2⟩
  have h : ∀ k : Nat, ∃ c : ClassId, ∀ t, tyL[k]? = some t → ArrOfT s c t ∧ va_RA s c t := by
    intro k
    match k with
    | 0 => obtain ⟨c, k, comp, h1, h2, h3⟩ := Cond.arrayClass_spec hi; exact ⟨c, fun t e => by cases e; exact ⟨arr h2 h3, h1⟩⟩
    | 1 => obtain ⟨c, k, comp, h1, h2, h3⟩ := Cond.arrayClass_spec hl; exact ⟨c, fun t e => by cases e; exact ⟨arr h2 h3, h1⟩⟩
    | 2 => obtain ⟨c, k, comp, h1, h2, h3⟩ := Cond.arrayClass_spec hb; exact ⟨c, fun t e => by cases e; exact ⟨arr h2 h3, h1⟩⟩
    | 3 => obtain ⟨c, k, comp, h1, h2, h3⟩ := Cond.arrayClass_spec hz; exact ⟨c, fun t e => by cases e; exact ⟨arr h2 h3, h1⟩⟩
    | 4 => obtain ⟨comp, c, k, h1, -, h2, h3, h4⟩ := Cond.arrayOver_spec hp; exact ⟨c, fun t e => by cases e; exact ⟨arr h2 h3, k, comp, h2, h3, h1, h4⟩⟩
    | 5 => obtain ⟨comp, c, k, h1, -, h2, h3, h4⟩ := Cond.arrayOver_spec ht; exact ⟨c, fun t e => by cases e; exact ⟨arr h2 h3, k, comp, h2, h3, h1, h4⟩⟩
    | k + 6 =>
      obtain ⟨c, -⟩ := Cond.arrayClass_spec hi
      refine ⟨c, fun q hq => ?_⟩
      have z : tyL[k + 6]? = none := List.getElem?_eq_none (by show 6 ≤ k + 6; omega)
      rw [z] at hq; cases hq
  refine ⟨fun k => Classical.choose (h k), fun k q hq => ?_⟩
  have e := fun k => Classical.choose_spec (h k)
  match k, hq with
  | 0, hq => cases hq; exact e 0 _ rfl
  | 1, hq => cases hq; exact e 1 _ rfl
  | 2, hq => cases hq; exact e 2 _ rfl
  | 3, hq => cases hq; exact e 3 _ rfl
  | 4, hq => cases hq; exact e 4 _ rfl
  | 5, hq => cases hq; exact e 5 _ rfl
  | k + 6, hq =>
    have z : (tysO (fun k => Classical.choose (h k)))[k + 6]? = none := List.getElem?_eq_none (by show 6 ≤ k + 6; omega)
    rw [z] at hq; cases hq
def adS (n t1 t2 t3 b : Nat) : Nat → Nat := fun a => if a = 1 then t1 else if a = 2 then t2 else if a = 3 then t3 else if a = 4 then b else n + (a - 16)
theorem adS_1 (n t1 t2 t3 b : Nat) : adS n t1 t2 t3 b 1 = t1 := rfl
theorem adS_2 (n t1 t2 t3 b : Nat) : adS n t1 t2 t3 b 2 = t2 := rfl
theorem adS_3 (n t1 t2 t3 b : Nat) : adS n t1 t2 t3 b 3 = t3 := rfl
theorem adS_4 (n t1 t2 t3 b : Nat) : adS n t1 t2 t3 b 4 = b := rfl
theorem adS_n (n t1 t2 t3 b j : Nat) : adS n t1 t2 t3 b (16 + j) = n + j := by
  unfold adS
  rw [if_neg (by omega), if_neg (by omega), if_neg (by omega), if_neg (by omega)]; omega
theorem ks_all {args : Array Value} {s : State} (hts : ∀ w ∈ lw_tbl, w.before args s = true) (hq : ∀ w ∈ flX, w.before args s = true) : ∃ t1 t2 t3 : Nat, ∀ b : Nat, KS s.heap.size (adS s.heap.size t1 t2 t3 b) s s.heap := by
  have hA : ∀ a : Nat, a < s.heap.size → ¬ fA s.heap.size a := fun a h z => absurd (Nat.lt_of_lt_of_le h z) (Nat.lt_irrefl _)
  obtain ⟨t1, v1, T1⟩ := va_Tof (tm := .static "GatePatch" "PIN_COUNT" "[B") (ty := .byte) (N := 9) (f := fun j => .int (Int32.ofInt (pinC j))) (A := fA s.heap.size) (by decide) (hq _ (List.mem_of_getElem? (i := 5) (by decide +kernel))) (ev_of (b := .int 9) (hq _ (List.mem_of_getElem? (i := 6) (by decide +kernel))) rfl) (fun j hj => ev_of (hq _ (List.mem_of_getElem? (fl_pin j hj))) rfl) hA
  obtain ⟨t2, v2, T2⟩ := va_Tof (tm := .static "GatePatch" "COUNTING" "[J") (ty := .long) (N := 6) (f := fun j => .long (Int64.ofInt (cntC j))) (A := fA s.heap.size) (by decide) (hq _ (List.mem_of_getElem? (i := 17) (by decide +kernel))) (ev_of (b := .int 6) (hq _ (List.mem_of_getElem? (i := 18) (by decide +kernel))) rfl) (fun j hj => ev_of (hq _ (List.mem_of_getElem? (fl_cnt j hj))) rfl) hA
  obtain ⟨t3, v3, T3⟩ := va_Tof (tm := .static "GatePatch$Functions" "PRICES" "[B") (ty := .byte) (N := 256) (f := fun j => .int (Int32.ofInt (prcC j))) (A := fA s.heap.size) (by decide) (hq _ (List.mem_of_getElem? (i := 26) (by decide +kernel))) (ev_of (b := .int 256) (hq _ (List.mem_of_getElem? (i := 27) (by decide +kernel))) rfl) (fun j hj => ev_of (hq _ (List.mem_of_getElem? (fl_prc j hj))) rfl) hA
  have z1 := va_Zof (hts _ (in_tb (w := Cond.laysStatic "GatePatch" "PIN_COUNT" "[B") 579 (by decide +kernel))) (hts _ (in_tb (w := Cond.initialized "GatePatch") 1 (by decide +kernel))) v1 hA
  have z2 := va_Zof (hts _ (in_tb (w := Cond.laysStatic "GatePatch" "COUNTING" "[J") 644 (by decide +kernel))) (hts _ (in_tb (w := Cond.initialized "GatePatch") 1 (by decide +kernel))) v2 hA
  have z3 := va_Zof (hts _ (in_tb (w := Cond.laysStatic "GatePatch$Functions" "PRICES" "[B") 912 (by decide +kernel))) (hts _ (in_tb (w := Cond.initialized "GatePatch$Functions") 21 (by decide +kernel))) v3 hA
  refine ⟨t1, t2, t3, fun b => ?_⟩
  unfold KS
  rw [adS_1, adS_2, adS_3]
  exact ⟨z1, T1, z2, T2, z3, T3⟩
theorem kx_all {args : Array Value} {s : State} (hts : ∀ w ∈ lw_tbl, w.before args s = true) (hq : ∀ w ∈ flX, w.before args s = true) : ∃ sa : Nat → Nat, KX s.heap.size sa s s.heap := by
  have hA : ∀ a : Nat, a < s.heap.size → ¬ fA s.heap.size a := fun a h z => absurd (Nat.lt_of_lt_of_le h z) (Nat.lt_irrefl _)
  have hT := hts _ (in_tb (w := Cond.initialized Bundle.tN) 15 (by decide +kernel))
  have q1 := vx_Zqof (A := fA s.heap.size) (hts _ (in_tb (w := Cond.laysStatic Bundle.tN "UNASSIGNED_STACK" Bundle.steD) 1263 (by decide +kernel))) hT (hq _ (List.mem_of_getElem? (i := 284) (by decide +kernel))) hA
  have q2 := vx_Zqof (A := fA s.heap.size) (hts _ (in_tb (w := Cond.laysStatic Bundle.tN "SUPPRESSED_SENTINEL" Bundle.listD) 1265 (by decide +kernel))) hT (hq _ (List.mem_of_getElem? (i := 285) (by decide +kernel))) hA
  obtain ⟨a1, -, -, -, e1, -⟩ := Cond.exactly_spec (t := .string "GatePatch" 204) (cls := "java/lang/String") (hq _ (List.mem_of_getElem? (i := 342) (by decide +kernel)))
  obtain ⟨a2, -, -, -, e2, -⟩ := Cond.exactly_spec (t := .string "GatePatch" 477) (cls := "java/lang/String") (hq _ (List.mem_of_getElem? (i := 371) (by decide +kernel)))
  obtain ⟨a3, -, -, -, e3, -⟩ := Cond.exactly_spec (t := .string "GatePatch" 481) (cls := "java/lang/String") (hq _ (List.mem_of_getElem? (i := 388) (by decide +kernel)))
  have r1 := vk_R.of (hts _ (in_tb (w := Cond.stringRef "GatePatch" 204 "no such net, wire or part") 1276 (by decide +kernel))) e1
  have r2 := vk_R.of (hts _ (in_tb (w := Cond.stringRef "GatePatch" 477 "no such tape") 1311 (by decide +kernel))) e2
  have r3 := vk_R.of (hts _ (in_tb (w := Cond.stringRef "GatePatch" 481 "no row with such a place") 1321 (by decide +kernel))) e3
  refine ⟨fun k => if k = 0 then a1 else if k = 1 then a2 else a3, ⟨q1, q2⟩, ⟨r1, r2, r3⟩, fun c hc => va_Nw.of (NX_on c hc) (hts _ (NX_in c hc)), va_Nc.of (hq _ (List.mem_of_getElem? (i := 298) (by decide +kernel)))⟩
