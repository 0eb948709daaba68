/-- one turn of the law's loop: the switch -/
theorem law_switch {Γ : Cx} {rt : Option FieldType} (g : Gd Γ code 8 "GatePatchLaw" rt room_1) {sa : Nat → Nat} (gx : GX Γ sa) {L : Nat} {xs : Nat → Int32} (gl : LX Γ L xs) (hL : L ≤ 3072) {w : Wd} (hw : okX w) (hm : okM w) (ho : At w 206 (2, 1, 1)) {n : Nat} {h : Hp} (hI : Inv n h) (hH : HN h) (hn : n ≤ 1000) {i : Int} (hi : 0 ≤ i ∧ i + 6 ≤ L) {kc ks : Nat} (hk : kc + 1 ≤ room_1.cells ∧ ks + 6 ≤ room_1.slots) {Q : State → Prop} (k : ∀ h2, Inv (n + 1) h2 → HN h2 → Core Γ w h2 (kc + 1) (ks + 6) Q 2070 (LSt i) []) (v : Int) : Core Γ w h kc ks Q 40 (LSt i) [vI v] := by
  have kd : Core Γ w h kc ks Q 2070 (LSt i) [] := Co_widen (Nat.le_succ _) (Nat.le_add_right _ _) (k h (Inv_up hI) hH)
  by_cases q : v < 0 ∨ 45 < v
  · exact Co_tabOut (tgt := 2070) g dL_law_40 q (by decide) kd
  · obtain ⟨j, rfl⟩ := Int.eq_ofNat_of_zero_le (show 0 ≤ v by omega)
    have hj : j < 46 := by omega
    clear q
    match j, hj with
    | 0, _ => exact Co_tabIn (tgt := 240) g dL_law_40 (by decide) (by decide) rfl (by decide) (law_c0 g gx gl hL hw hm ho hI hH hn hi hk k)
    | 1, _ => exact Co_tabIn (tgt := 289) g dL_law_40 (by decide) (by decide) rfl (by decide) (law_c1 g gx gl hL hw hm ho hI hH hn hi hk k)
    | 2, _ => exact Co_tabIn (tgt := 362) g dL_law_40 (by decide) (by decide) rfl (by decide) (law_c2 g gx gl hL hw hm ho hI hH hn hi hk k)
    | 3, _ => exact Co_tabIn (tgt := 423) g dL_law_40 (by decide) (by decide) rfl (by decide) (law_c3 g gx gl hL hw hm ho hI hH hn hi hk k)
    | 4, _ => exact Co_tabIn (tgt := 472) g dL_law_40 (by decide) (by decide) rfl (by decide) (law_c4 g gx gl hL hw hm ho hI hH hn hi hk k)
    | 5, _ => exact Co_tabIn (tgt := 521) g dL_law_40 (by decide) (by decide) rfl (by decide) (law_c5 g gx gl hL hw hm ho hI hH hn hi hk k)
    | 6, _ => exact Co_tabIn (tgt := 546) g dL_law_40 (by decide) (by decide) rfl (by decide) (law_c6 g gx gl hL hw hm ho hI hH hn hi hk k)
    | 7, _ => exact Co_tabIn (tgt := 595) g dL_law_40 (by decide) (by decide) rfl (by decide) (law_c7 g gx gl hL hw hm ho hI hH hn hi hk k)
    | 8, _ => exact Co_tabIn (tgt := 674) g dL_law_40 (by decide) (by decide) rfl (by decide) (law_c8 g gx gl hL hw hm ho hI hH hn hi hk k)
    | 9, _ => exact Co_tabIn (tgt := 723) g dL_law_40 (by decide) (by decide) rfl (by decide) (law_c9 g gx gl hL hw hm ho hI hH hn hi hk k)
    | 10, _ => exact Co_tabIn (tgt := 736) g dL_law_40 (by decide) (by decide) rfl (by decide) (law_c10 g gx gl hL hw hm ho hI hH hn hi hk k)
    | 11, _ => exact Co_tabIn (tgt := 785) g dL_law_40 (by decide) (by decide) rfl (by decide) (law_c11 g gx gl hL hw hm ho hI hH hn hi hk k)
    | 12, _ => exact Co_tabIn (tgt := 810) g dL_law_40 (by decide) (by decide) rfl (by decide) (law_c12 g gx gl hL hw hm ho hI hH hn hi hk k)
    | 13, _ => exact Co_tabIn (tgt := 835) g dL_law_40 (by decide) (by decide) rfl (by decide) (law_c13 g gx gl hL hw hm ho hI hH hn hi hk k)
    | 14, _ => exact Co_tabIn (tgt := 896) g dL_law_40 (by decide) (by decide) rfl (by decide) (law_c14 g gx gl hL hw hm ho hI hH hn hi hk k)
    | 15, _ => exact Co_tabIn (tgt := 957) g dL_law_40 (by decide) (by decide) rfl (by decide) (law_c15 g gx gl hL hw hm ho hI hH hn hi hk k)
    | 16, _ => exact Co_tabIn (tgt := 1018) g dL_law_40 (by decide) (by decide) rfl (by decide) (law_c16 g gx gl hL hw hm ho hI hH hn hi hk k)
    | 17, _ => exact Co_tabIn (tgt := 1091) g dL_law_40 (by decide) (by decide) rfl (by decide) (law_c17 g gx gl hL hw hm ho hI hH hn hi hk k)
    | 18, _ => exact Co_tabIn (tgt := 1116) g dL_law_40 (by decide) (by decide) rfl (by decide) (law_c18 g gx gl hL hw hm ho hI hH hn hi hk k)
    | 19, _ => exact Co_tabIn (tgt := 1153) g dL_law_40 (by decide) (by decide) rfl (by decide) (law_c19 g gx gl hL hw hm ho hI hH hn hi hk k)
    | 20, _ => exact Co_tabIn (tgt := 1178) g dL_law_40 (by decide) (by decide) rfl (by decide) (law_c20 g gx gl hL hw hm ho hI hH hn hi hk k)
    | 21, _ => exact Co_tabIn (tgt := 1203) g dL_law_40 (by decide) (by decide) rfl (by decide) (law_c21 g gx gl hL hw hm ho hI hH hn hi hk k)
    | 22, _ => exact Co_tabIn (tgt := 1228) g dL_law_40 (by decide) (by decide) rfl (by decide) (law_c22 g gx gl hL hw hm ho hI hH hn hi hk k)
    | 23, _ => exact Co_tabIn (tgt := 1253) g dL_law_40 (by decide) (by decide) rfl (by decide) (law_c23 g gx gl hL hw hm ho hI hH hn hi hk k)
    | 24, _ => exact Co_tabIn (tgt := 1290) g dL_law_40 (by decide) (by decide) rfl (by decide) (law_c24 g gx gl hL hw hm ho hI hH hn hi hk k)
    | 25, _ => exact Co_tabIn (tgt := 1327) g dL_law_40 (by decide) (by decide) rfl (by decide) (law_c25 g gx gl hL hw hm ho hI hH hn hi hk k)
    | 26, _ => exact Co_tabIn (tgt := 1376) g dL_law_40 (by decide) (by decide) rfl (by decide) (law_c26 g gx gl hL hw hm ho hI hH hn hi hk k)
    | 27, _ => exact Co_tabIn (tgt := 1425) g dL_law_40 (by decide) (by decide) rfl (by decide) (law_c27 g gx gl hL hw hm ho hI hH hn hi hk k)
    | 28, _ => exact Co_tabIn (tgt := 1438) g dL_law_40 (by decide) (by decide) rfl (by decide) (law_c28 g gx gl hL hw hm ho hI hH hn hi hk k)
    | 29, _ => exact Co_tabIn (tgt := 1463) g dL_law_40 (by decide) (by decide) rfl (by decide) (law_c29 g gx gl hL hw hm ho hI hH hn hi hk k)
    | 30, _ => exact Co_tabIn (tgt := 1500) g dL_law_40 (by decide) (by decide) rfl (by decide) (law_c30 g gx gl hL hw hm ho hI hH hn hi hk k)
    | 31, _ => exact Co_tabIn (tgt := 1537) g dL_law_40 (by decide) (by decide) rfl (by decide) (law_c31 g gx gl hL hw hm ho hI hH hn hi hk k)
    | 32, _ => exact Co_tabIn (tgt := 1562) g dL_law_40 (by decide) (by decide) rfl (by decide) (law_c32 g gx gl hL hw hm ho hI hH hn hi hk k)
    | 33, _ => exact Co_tabIn (tgt := 1575) g dL_law_40 (by decide) (by decide) rfl (by decide) (law_c33 g gx gl hL hw hm ho hI hH hn hi hk k)
    | 34, _ => exact Co_tabIn (tgt := 1588) g dL_law_40 (by decide) (by decide) rfl (by decide) (law_c34 g gx gl hL hw hm ho hI hH hn hi hk k)
    | 35, _ => exact Co_tabIn (tgt := 1625) g dL_law_40 (by decide) (by decide) rfl (by decide) (law_c35 g gx gl hL hw hm ho hI hH hn hi hk k)
    | 36, _ => exact Co_tabIn (tgt := 1650) g dL_law_40 (by decide) (by decide) rfl (by decide) (law_c36 g gx gl hL hw hm ho hI hH hn hi hk k)
    | 37, _ => exact Co_tabIn (tgt := 1675) g dL_law_40 (by decide) (by decide) rfl (by decide) (law_c37 g gx gl hL hw hm ho hI hH hn hi hk k)
    | 38, _ => exact Co_tabIn (tgt := 1724) g dL_law_40 (by decide) (by decide) rfl (by decide) (law_c38 g gx gl hL hw hm ho hI hH hn hi hk k)
    | 39, _ => exact Co_tabIn (tgt := 1749) g dL_law_40 (by decide) (by decide) rfl (by decide) (law_c39 g gx gl hL hw hm ho hI hH hn hi hk k)
    | 40, _ => exact Co_tabIn (tgt := 1774) g dL_law_40 (by decide) (by decide) rfl (by decide) (law_c40 g gx gl hL hw hm ho hI hH hn hi hk k)
    | 41, _ => exact Co_tabIn (tgt := 1799) g dL_law_40 (by decide) (by decide) rfl (by decide) (law_c41 g gx gl hL hw hm ho hI hH hn hi hk k)
    | 42, _ => exact Co_tabIn (tgt := 1824) g dL_law_40 (by decide) (by decide) rfl (by decide) (law_c42 g gx gl hL hw hm ho hI hH hn hi hk k)
    | 43, _ => exact Co_tabIn (tgt := 1905) g dL_law_40 (by decide) (by decide) rfl (by decide) (law_c43 g gx gl hL hw hm ho hI hH hn hi hk k)
    | 44, _ => exact Co_tabIn (tgt := 1972) g dL_law_40 (by decide) (by decide) rfl (by decide) (law_c44 g gx gl hL hw hm ho hI hH hn hi hk k)
    | 45, _ => exact Co_tabIn (tgt := 2045) g dL_law_40 (by decide) (by decide) rfl (by decide) (law_c45 g gx gl hL hw hm ho hI hH hn hi hk k)
    | j + 46, hj => exact absurd hj (by omega)
/-- the law's loop -/
theorem law_loop {Γ : Cx} {rt : Option FieldType} (g : Gd Γ code 8 "GatePatchLaw" rt room_1) {sa : Nat → Nat} (gx : GX Γ sa) {L : Nat} {xs : Nat → Int32} (gl : LX Γ L xs) (hL : L ≤ 3072) {w : Wd} (hw : okX w) (hm : okM w) (ho : At w 206 (2, 1, 1)) {c0 s0 : Nat} (hk : c0 + 600 ≤ room_1.cells ∧ s0 + 3600 ≤ room_1.slots) {Q : State → Prop} (kend : ∀ h kc ks i, kc ≤ c0 + 600 → ks ≤ s0 + 3600 → Core Γ w h kc ks Q 2076 (LSt i) []) : ∀ (f n : Nat) (h : Hp) (i : Int), i = 6 * (n : Int) → n ≤ 520 → L < 6 * n + f → Inv n h → HN h → Core Γ w h (c0 + n) (s0 + 6 * n) Q 23 (LSt i) [] := by
  intro f
  induction f with
  | zero =>
    intro n h i hi hn hf hI hH
    refine Co_iload (kk := 0) g dL_law_23 rfl ?_
    refine Co_aload_n (kk := 4) g dL_law_25 rfl rfl ?_
    refine Co_slen g gl hL dL_law_26 ?_
    refine Co_bipush g dL_law_27 ⟨by decide, by decide⟩ rfl ?_
    refine Co_isub g dL_law_29 ⟨by omega, by omega⟩ ?_
    exact Co_icmp_gt (tgt := 2076) g dL_law_30 (by decide) (fun _ => kend _ _ _ _ (by omega) (by omega)) (fun z => absurd (show (L : Int) - 6 < i by omega) z)
  | succ f ih =>
    intro n h i hi hn hf hI hH
    refine Co_iload (kk := 0) g dL_law_23 rfl ?_
    refine Co_aload_n (kk := 4) g dL_law_25 rfl rfl ?_
    refine Co_slen g gl hL dL_law_26 ?_
    refine Co_bipush g dL_law_27 ⟨by decide, by decide⟩ rfl ?_
    refine Co_isub g dL_law_29 ⟨by omega, by omega⟩ ?_
    refine Co_icmp_gt (tgt := 2076) g dL_law_30 (by decide) (fun _ => kend _ _ _ _ (by omega) (by omega)) (fun z => ?_)
    refine Co_aload_n (kk := 4) g dL_law_33 rfl rfl ?_
    refine Co_iload (kk := 0) g dL_law_34 rfl ?_
    refine Co_sld g gl dL_law_36 (by omega) (by omega) ?_
    refine Co_bipush g dL_law_37 ⟨by decide, by decide⟩ rfl ?_
    refine Co_iand g dL_law_39 ?_
    refine law_switch g gx gl hL hw hm ho hI hH (by omega) ⟨by omega, by omega⟩ ⟨by omega, by omega⟩ (fun h2 hI2 hH2 => ?_) _
    refine Co_iinc (kk := 0) g dL_law_2070 rfl (by decide) ⟨by omega, by omega⟩ rfl ?_
    refine Co_goto (tgt := 23) g dL_law_2073 (by decide) ?_
    have e := ih (n + 1) h2 (i + 6) (by omega) (by omega) (by omega) hI2 hH2
    rw [show c0 + (n + 1) = c0 + n + 1 by omega, show s0 + 6 * (n + 1) = s0 + 6 * n + 6 by omega] at e
    exact e
