/-- what a constructor leaves: its own cells, made new, the others as they were -/
def LocM (m : Nat) (F : Hp → Hp) : Prop := (∀ h a i, ¬ (146 ≤ a ∧ a < m) → F h a i = h a i) ∧ ∀ h g a i, (146 ≤ a ∧ a < m) → F h a i = F g a i
theorem loc_hz {m : Nat} {F : Hp → Hp} {k : Nat} (l : LocM m F) (hm : 146 ≤ m) (e : k = m) : LocM (m + 1) (fun h => hz (F h) k) := by
  subst e
  constructor
  · intro h a i ha
    show (if a = k then 0 else F h a i) = _
    rw [if_neg (by omega)]; exact l.1 h a i (by omega)
  · intro h g a i ha
    show (if a = k then 0 else F h a i) = (if a = k then 0 else F g a i)
    by_cases q : a = k
    · rw [if_pos q, if_pos q]
    · rw [if_neg q, if_neg q]; exact l.2 h g a i (by omega)
theorem loc_wr {m : Nat} {F : Hp → Hp} {b k : Nat} {v : Int} (l : LocM m F) (hb : 146 ≤ b ∧ b < m) : LocM m (fun h => wr (F h) b k v) := by
  constructor
  · intro h a i ha
    show wr (F h) b k v a i = h a i
    rw [wq_ne (fun z => by omega)]; exact l.1 h a i ha
  · intro h g a i ha
    show wr (F h) b k v a i = wr (F g) b k v a i
    by_cases q : a = b ∧ i = k
    · rw [wq_is q, wq_is q]
    · rw [wq_ne q, wq_ne q]; exact l.2 h g a i ha
theorem l_HM0 : LocM 147 HM0 := by
  constructor
  · intro h a i ha
    show (if a = 146 then 0 else h a i) = _
    rw [if_neg (by omega)]
  · intro h g a i ha
    show (if a = 146 then 0 else h a i) = (if a = 146 then 0 else g a i)
    rw [if_pos (by omega), if_pos (by omega)]
theorem l_HX12_init_1 : LocM 147 HX12_init_1 := loc_wr l_HM0 (by decide)
theorem l_HX12_init_2 : LocM 147 HX12_init_2 := loc_wr l_HX12_init_1 (by decide)
theorem l_HX12_init_3 : LocM 148 HX12_init_3 := loc_hz l_HX12_init_2 (by decide) (k := WM0.1) (by decide +kernel)
theorem l_HX12_init_6 : LocM 149 HX12_init_6 := loc_hz l_HX12_init_3 (by decide) (k := WX12_init_5.1) (by decide +kernel)
theorem l_HX12_init_9 : LocM 150 HX12_init_9 := loc_hz l_HX12_init_6 (by decide) (k := WX12_init_8.1) (by decide +kernel)
theorem l_HX12_init_12 : LocM 151 HX12_init_12 := loc_hz l_HX12_init_9 (by decide) (k := WX12_init_11.1) (by decide +kernel)
theorem l_HX12_init_15 : LocM 152 HX12_init_15 := loc_hz l_HX12_init_12 (by decide) (k := WX12_init_14.1) (by decide +kernel)
theorem l_HX12_init_18 : LocM 153 HX12_init_18 := loc_hz l_HX12_init_15 (by decide) (k := WX12_init_17.1) (by decide +kernel)
theorem l_HX12_init_21 : LocM 154 HX12_init_21 := loc_hz l_HX12_init_18 (by decide) (k := WX12_init_20.1) (by decide +kernel)
theorem l_HX12_init_24 : LocM 155 HX12_init_24 := loc_hz l_HX12_init_21 (by decide) (k := WX12_init_23.1) (by decide +kernel)
theorem l_HX12_init_27 : LocM 156 HX12_init_27 := loc_hz l_HX12_init_24 (by decide) (k := WX12_init_26.1) (by decide +kernel)
theorem l_HX12_init_30 : LocM 157 HX12_init_30 := loc_hz l_HX12_init_27 (by decide) (k := WX12_init_29.1) (by decide +kernel)
theorem l_HX12_init_33 : LocM 158 HX12_init_33 := loc_hz l_HX12_init_30 (by decide) (k := WX12_init_32.1) (by decide +kernel)
theorem l_HX12_init_36 : LocM 159 HX12_init_36 := loc_hz l_HX12_init_33 (by decide) (k := WX12_init_35.1) (by decide +kernel)
theorem l_HX12_init_39 : LocM 160 HX12_init_39 := loc_hz l_HX12_init_36 (by decide) (k := WX12_init_38.1) (by decide +kernel)
theorem l_HX12_init_41 : LocM 160 HX12_init_41 := loc_wr l_HX12_init_39 (by decide)
theorem l_HX12_init_42 : LocM 160 HX12_init_42 := loc_wr l_HX12_init_41 (by decide)
theorem l_HX12_init_43 : LocM 160 HX12_init_43 := loc_wr l_HX12_init_42 (by decide)
theorem l_HX12_init_44 : LocM 160 HX12_init_44 := loc_wr l_HX12_init_43 (by decide)
theorem l_HX12_init_45 : LocM 160 HX12_init_45 := loc_wr l_HX12_init_44 (by decide)
theorem l_HX12_init_46 : LocM 160 HX12_init_46 := loc_wr l_HX12_init_45 (by decide)
theorem l_HX12_init_47 : LocM 160 HX12_init_47 := loc_wr l_HX12_init_46 (by decide)
theorem l_HX12_init_48 : LocM 160 HX12_init_48 := loc_wr l_HX12_init_47 (by decide)
theorem l_HX12_init_49 : LocM 160 HX12_init_49 := loc_wr l_HX12_init_48 (by decide)
theorem l_HX12_init_51 : LocM 161 HX12_init_51 := loc_hz l_HX12_init_49 (by decide) (k := WX12_init_50.1) (by decide +kernel)
theorem l_HX12_init_54 : LocM 162 HX12_init_54 := loc_hz l_HX12_init_51 (by decide) (k := WX12_init_53.1) (by decide +kernel)
theorem l_HX12_init_57 : LocM 162 HX12_init_57 := loc_wr l_HX12_init_54 (by decide)
theorem l_HX12_init_58 : LocM 162 HX12_init_58 := loc_wr l_HX12_init_57 (by decide)
theorem l_HX12_init_59 : LocM 163 HX12_init_59 := loc_hz l_HX12_init_58 (by decide) (k := WX12_init_56.1) (by decide +kernel)
theorem l_HX12_init_62 : LocM 164 HX12_init_62 := loc_hz l_HX12_init_59 (by decide) (k := WX12_init_61.1) (by decide +kernel)
theorem l_HX12_init_65 : LocM 165 HX12_init_65 := loc_hz l_HX12_init_62 (by decide) (k := WX12_init_64.1) (by decide +kernel)
theorem l_HX12_init_68 : LocM 166 HX12_init_68 := loc_hz l_HX12_init_65 (by decide) (k := WX12_init_67.1) (by decide +kernel)
theorem l_HX12_init_71 : LocM 167 HX12_init_71 := loc_hz l_HX12_init_68 (by decide) (k := WX12_init_70.1) (by decide +kernel)
theorem l_HX12_init_74 : LocM 168 HX12_init_74 := loc_hz l_HX12_init_71 (by decide) (k := WX12_init_73.1) (by decide +kernel)
theorem l_HX12_init_77 : LocM 169 HX12_init_77 := loc_hz l_HX12_init_74 (by decide) (k := WX12_init_76.1) (by decide +kernel)
theorem l_HX12_init_80 : LocM 170 HX12_init_80 := loc_hz l_HX12_init_77 (by decide) (k := WX12_init_79.1) (by decide +kernel)
theorem l_HX12_init_83 : LocM 171 HX12_init_83 := loc_hz l_HX12_init_80 (by decide) (k := WX12_init_82.1) (by decide +kernel)
theorem l_HX12_init_86 : LocM 172 HX12_init_86 := loc_hz l_HX12_init_83 (by decide) (k := WX12_init_85.1) (by decide +kernel)
theorem l_HX12_init_89 : LocM 173 HX12_init_89 := loc_hz l_HX12_init_86 (by decide) (k := WX12_init_88.1) (by decide +kernel)
theorem l_HX12_init_92 : LocM 174 HX12_init_92 := loc_hz l_HX12_init_89 (by decide) (k := WX12_init_91.1) (by decide +kernel)
theorem l_HX12_init_95 : LocM 175 HX12_init_95 := loc_hz l_HX12_init_92 (by decide) (k := WX12_init_94.1) (by decide +kernel)
theorem l_HX12_init_98 : LocM 176 HX12_init_98 := loc_hz l_HX12_init_95 (by decide) (k := WX12_init_97.1) (by decide +kernel)
theorem l_HX12_init_101 : LocM 177 HX12_init_101 := loc_hz l_HX12_init_98 (by decide) (k := WX12_init_100.1) (by decide +kernel)
theorem l_HX12_init_104 : LocM 178 HX12_init_104 := loc_hz l_HX12_init_101 (by decide) (k := WX12_init_103.1) (by decide +kernel)
theorem l_HX12_init_107 : LocM 179 HX12_init_107 := loc_hz l_HX12_init_104 (by decide) (k := WX12_init_106.1) (by decide +kernel)
theorem l_HX12_init_110 : LocM 180 HX12_init_110 := loc_hz l_HX12_init_107 (by decide) (k := WX12_init_109.1) (by decide +kernel)
theorem l_HX12_init_113 : LocM 181 HX12_init_113 := loc_hz l_HX12_init_110 (by decide) (k := WX12_init_112.1) (by decide +kernel)
theorem l_HX12_init_116 : LocM 182 HX12_init_116 := loc_hz l_HX12_init_113 (by decide) (k := WX12_init_115.1) (by decide +kernel)
theorem l_HX12_init_119 : LocM 183 HX12_init_119 := loc_hz l_HX12_init_116 (by decide) (k := WX12_init_118.1) (by decide +kernel)
theorem l_HX12_init_122 : LocM 184 HX12_init_122 := loc_hz l_HX12_init_119 (by decide) (k := WX12_init_121.1) (by decide +kernel)
theorem l_HX12_init_125 : LocM 185 HX12_init_125 := loc_hz l_HX12_init_122 (by decide) (k := WX12_init_124.1) (by decide +kernel)
theorem l_HX12_init_128 : LocM 186 HX12_init_128 := loc_hz l_HX12_init_125 (by decide) (k := WX12_init_127.1) (by decide +kernel)
theorem l_HX12_init_131 : LocM 187 HX12_init_131 := loc_hz l_HX12_init_128 (by decide) (k := WX12_init_130.1) (by decide +kernel)
theorem l_HX12_init_134 : LocM 188 HX12_init_134 := loc_hz l_HX12_init_131 (by decide) (k := WX12_init_133.1) (by decide +kernel)
theorem l_HX12_init_137 : LocM 189 HX12_init_137 := loc_hz l_HX12_init_134 (by decide) (k := WX12_init_136.1) (by decide +kernel)
theorem l_HX12_init_140 : LocM 190 HX12_init_140 := loc_hz l_HX12_init_137 (by decide) (k := WX12_init_139.1) (by decide +kernel)
theorem l_HX12_init_143 : LocM 191 HX12_init_143 := loc_hz l_HX12_init_140 (by decide) (k := WX12_init_142.1) (by decide +kernel)
theorem l_HX12_init_146 : LocM 192 HX12_init_146 := loc_hz l_HX12_init_143 (by decide) (k := WX12_init_145.1) (by decide +kernel)
theorem l_HX12_init_149 : LocM 193 HX12_init_149 := loc_hz l_HX12_init_146 (by decide) (k := WX12_init_148.1) (by decide +kernel)
theorem l_HX12_init_152 : LocM 194 HX12_init_152 := loc_hz l_HX12_init_149 (by decide) (k := WX12_init_151.1) (by decide +kernel)
theorem l_HX12_init_155 : LocM 195 HX12_init_155 := loc_hz l_HX12_init_152 (by decide) (k := WX12_init_154.1) (by decide +kernel)
theorem l_HX12_init_158 : LocM 196 HX12_init_158 := loc_hz l_HX12_init_155 (by decide) (k := WX12_init_157.1) (by decide +kernel)
theorem l_HX12_init_161 : LocM 197 HX12_init_161 := loc_hz l_HX12_init_158 (by decide) (k := WX12_init_160.1) (by decide +kernel)
theorem l_HX12_init_164 : LocM 198 HX12_init_164 := loc_hz l_HX12_init_161 (by decide) (k := WX12_init_163.1) (by decide +kernel)
theorem l_HX12_init_167 : LocM 199 HX12_init_167 := loc_hz l_HX12_init_164 (by decide) (k := WX12_init_166.1) (by decide +kernel)
theorem l_HX12_init_170 : LocM 200 HX12_init_170 := loc_hz l_HX12_init_167 (by decide) (k := WX12_init_169.1) (by decide +kernel)
theorem l_HX12_init_173 : LocM 201 HX12_init_173 := loc_hz l_HX12_init_170 (by decide) (k := WX12_init_172.1) (by decide +kernel)
theorem l_HX12_init_176 : LocM 202 HX12_init_176 := loc_hz l_HX12_init_173 (by decide) (k := WX12_init_175.1) (by decide +kernel)
theorem l_HX12_init_179 : LocM 203 HX12_init_179 := loc_hz l_HX12_init_176 (by decide) (k := WX12_init_178.1) (by decide +kernel)
theorem l_HX12_init_182 : LocM 204 HX12_init_182 := loc_hz l_HX12_init_179 (by decide) (k := WX12_init_181.1) (by decide +kernel)
theorem l_HX12_init_185 : LocM 205 HX12_init_185 := loc_hz l_HX12_init_182 (by decide) (k := WX12_init_184.1) (by decide +kernel)
theorem l_HX12_init_188 : LocM 206 HX12_init_188 := loc_hz l_HX12_init_185 (by decide) (k := WX12_init_187.1) (by decide +kernel)
/-- what the constructors leave, in the order of making, the law's own row with it .. -/
def HFr (hh : Hp) : Hp := hz (fillP (HX12_init_188 (HXB hh)) 48) WX12_init_190.1
def W9r : Wd := wnew WX12_init_190 (2, 1, 1)
/-- .. and at its codes -/
def W9 : Wd := reW rho2 sig2 W9r
def HF (hh : Hp) : Hp := reH rho2 sig2 W9r (HFr hh)
theorem w190 : WX12_init_190.1 = 206 := by decide +kernel
theorem n_W9r : W9r.1 = 207 := by decide +kernel
theorem sh_lo0 : ∀ a, a < 143 → (a = 73 ∨ a = 98) ∨ ((W9r.2.1 (rho2 a)).1 = 1 ∨ (W9r.2.1 (rho2 a)).2.1 < 4) := by decide +kernel
theorem sh_lo (a : Nat) (h1 : a < 143) (h2 : a ≠ 73) (h3 : a ≠ 98) : (W9r.2.1 (rho2 a)).1 = 1 ∨ (W9r.2.1 (rho2 a)).2.1 < 4 := (sh_lo0 a h1).resolve_left (fun z => by omega)
theorem sh_hi0 : ∀ a, a < 203 → a < 143 ∨ ((W9r.2.1 (rho2 a)).1 = 1 ∨ (W9r.2.1 (rho2 a)).2.1 < 4) := by decide +kernel
theorem sh_hi (a : Nat) (h1 : a < 203) (h2 : 143 ≤ a) : (W9r.2.1 (rho2 a)).1 = 1 ∨ (W9r.2.1 (rho2 a)).2.1 < 4 := (sh_hi0 a h1).resolve_left (fun z => by omega)
theorem sh_x0 : ∀ a, a < 143 → (a = 73 ∨ a = 98) ∨ ((WXF.2.1 (sig1 (rho2 a))).1 = 1 ∨ (WXF.2.1 (sig1 (rho2 a))).2.1 < 4) := by decide +kernel
theorem sh_x (a : Nat) (h1 : a < 143) (h2 : a ≠ 73) (h3 : a ≠ 98) : (WXF.2.1 (sig1 (rho2 a))).1 = 1 ∨ (WXF.2.1 (sig1 (rho2 a))).2.1 < 4 := (sh_x0 a h1).resolve_left (fun z => by omega)
theorem lo_x : ∀ a, a < 143 → rho2 a < 146 ∧ sig1 (rho2 a) = a := by decide +kernel
theorem hi_x : ∀ a, a < 203 → 143 ≤ a → rho2 a = a + 3 := by decide +kernel
theorem sh_73 : (¬ (W9r.2.1 (rho2 73)).1 = 1 ∧ 4 ≤ (W9r.2.1 (rho2 73)).2.1) ∧ ¬ (W9r.2.1 (rho2 98)).1 = 1 ∧ 4 ≤ (W9r.2.1 (rho2 98)).2.1 := by decide +kernel
theorem sx_73 : (¬ (WXF.2.1 (sig1 (rho2 73))).1 = 1 ∧ 4 ≤ (WXF.2.1 (sig1 (rho2 73))).2.1) ∧ ¬ (WXF.2.1 (sig1 (rho2 98))).1 = 1 ∧ 4 ≤ (WXF.2.1 (sig1 (rho2 98))).2.1 := by decide +kernel
theorem HFr_lo (hh : Hp) (a i : Nat) (ha : a < 146) : HFr hh a i = HXB hh a i := by
  unfold HFr
  rw [w190]
  show (if a = 206 then 0 else fillP (HX12_init_188 (HXB hh)) 48 a i) = _
  rw [if_neg (by omega)]
  show (if a = 160 ∧ i < 48 then -1 else HX12_init_188 (HXB hh) a i) = _
  rw [if_neg (by omega)]
  exact l_HX12_init_188.1 (HXB hh) a i (by omega)
theorem HF_lo (hh : Hp) (a i : Nat) (ha : a < 143 ∧ a ≠ 73 ∧ a ≠ 98) : HF hh a i = hh a i := by
  have x := lo_x a ha.1
  unfold HF
  rw [reH_o (sh_lo a ha.1 ha.2.1 ha.2.2), HFr_lo hh _ i x.1]
  unfold HXB
  rw [reH_o (sh_x a ha.1 ha.2.1 ha.2.2), x.2]
theorem HF_q (hh : Hp) (a i : Nat) (ha : a = 73 ∨ a = 98) : HF hh a i = ((sig2 (rho1 (hh a i).toNat) : Nat) : Int) := by
  have x := lo_x a (by omega)
  unfold HF
  rcases ha with rfl | rfl
  · rw [reH_q sh_73.1.1 sh_73.1.2, HFr_lo hh _ i x.1]
    unfold HXB
    rw [reH_q sx_73.1.1 sx_73.1.2, x.2, Int.toNat_natCast]
  · rw [reH_q sh_73.2.1 sh_73.2.2, HFr_lo hh _ i x.1]
    unfold HXB
    rw [reH_q sx_73.2.1 sx_73.2.2, x.2, Int.toNat_natCast]
theorem HF_hi (hh : Hp) (a i : Nat) (ha : 143 ≤ a ∧ a < 203) (h7 : a ≠ 157) : HF hh a i = HX12_init_188 H00 (a + 3) i := by
  unfold HF
  rw [reH_o (sh_hi a ha.2 ha.1), hi_x a ha.2 ha.1]
  unfold HFr
  rw [w190]
  show (if a + 3 = 206 then 0 else fillP (HX12_init_188 (HXB hh)) 48 (a + 3) i) = _
  rw [if_neg (by omega)]
  show (if a + 3 = 160 ∧ i < 48 then -1 else HX12_init_188 (HXB hh) (a + 3) i) = _
  rw [if_neg (by omega)]
  exact l_HX12_init_188.2 (HXB hh) H00 (a + 3) i (by omega)
theorem HF_157 (hh : Hp) (i : Nat) (hi : i < 48) : HF hh 157 i = -1 := by
  unfold HF
  rw [reH_o (sh_hi 157 (by decide) (by decide)), hi_x 157 (by decide) (by decide)]
  unfold HFr
  rw [w190]
  show (if 157 + 3 = 206 then 0 else fillP (HX12_init_188 (HXB hh)) 48 (157 + 3) i) = _
  rw [if_neg (by omega)]
  show (if 157 + 3 = 160 ∧ i < 48 then -1 else HX12_init_188 (HXB hh) (157 + 3) i) = _
  rw [if_pos ⟨rfl, hi⟩]
theorem HF_hn (hh : Hp) (h1 : hh 40 12 = 0) : HN (HF hh) := by
  unfold HN
  rw [HF_lo hh 40 12 (by decide), h1]; decide
theorem k_143 : (HX12_init_188 H00 (143 + 3) 1 = 3 ∧ HX12_init_188 H00 (143 + 3) 2 = 0 ∧ HX12_init_188 H00 (143 + 3) 3 = 1 ∧ HX12_init_188 H00 (144 + 3) 0 = 0 ∧ HX12_init_188 H00 (144 + 3) 1 = 0) ∧ (HX12_init_188 H00 (143 + 3) 12 = 0 ∧ HX12_init_188 H00 (143 + 3) 19 = 0 ∧ HX12_init_188 H00 (143 + 3) 21 = -1 ∧ HX12_init_188 H00 (143 + 3) 22 = -1 ∧ HX12_init_188 H00 (143 + 3) 23 = 0 ∧ HX12_init_188 H00 (143 + 3) 36 = 0 ∧ HX12_init_188 H00 (143 + 3) 37 = 0 ∧ HX12_init_188 H00 (143 + 3) 38 = 0 ∧ HX12_init_188 H00 (143 + 3) 57 = 0) := by decide +kernel
theorem k_145 : ∀ w, w < 96 → HX12_init_188 H00 (145 + 3) w = 0 := by decide +kernel
theorem k_146 : ∀ j, j < 288 → HX12_init_188 H00 (146 + 3) j = 0 := by decide +kernel
theorem k_147 : (∀ k, k < 8 → HX12_init_188 H00 (147 + 3) k = 0) ∧ (∀ k, k < 4 → HX12_init_188 H00 (148 + 3) k = 0) := by decide +kernel
theorem k_149 : ∀ c, c < 256 → HX12_init_188 H00 (149 + 3) c = 0 := by decide +kernel
theorem k_150 : ∀ w, w < 48 → HX12_init_188 H00 (150 + 3) w = 0 ∧ HX12_init_188 H00 (151 + 3) w = 0 := by decide +kernel
theorem k_156 : ∀ k, k < 9 → HX12_init_188 H00 (156 + 3) k = 1 := by decide +kernel
theorem k_155 : (∀ k, k < 12 → HX12_init_188 H00 (155 + 3) k = 0) ∧ (∀ i, i < 120 → HX12_init_188 H00 (184 + 3) i = 0) ∧ (∀ m, m < 4 → HX12_init_188 H00 (192 + 3) m = 0) ∧ (∀ d, d < 6 → HX12_init_188 H00 (171 + 3) d = 0) := by decide +kernel
theorem k_19 : ∀ w, w < 48 → HXF 19 w = 0 ∧ HXF 29 w = 0 := by decide +kernel
theorem k_20 : ∀ j, j < 144 → HXF 20 j = 0 ∧ HXF 30 j = 0 := by decide +kernel
theorem k_17 : HXF 17 1 = 40 ∧ HXF 27 1 = 24 := by decide +kernel
theorem k_73 : ∀ u, u < 4 → ((sig2 (rho1 (HXF 73 u).toNat) : Nat) : Int) = 78 + 5 * (u : Int) := by decide +kernel
theorem k_98 : ∀ d, d < 6 → ((sig2 (rho1 (HXF 98 d).toNat) : Nat) : Int) = 101 + 7 * (d : Int) ∧ HXF (101 + 7 * d) 0 = 0 := by decide +kernel
theorem k_40 : HXF 40 12 = 0 := by decide +kernel
/-- what both constructors leave -/
theorem init_Inv : ∃ hh, XX11_startAll 3 0 1 HXF = some (0, hh) ∧ Inv 0 (HF hh) ∧ HN (HF hh) := by
  obtain ⟨hh, eg, fg, c1, c2, c3, c4, c5, c6⟩ := startAll_ok (x := 3) (y := 0) (z := 1) (by decide) HXF
  refine ⟨hh, eg, ?_, HF_hn hh (by rw [fg 40 12 (by omega)]; exact k_40)⟩
  have lo := HF_lo hh
  have hi := HF_hi hh
  have k73 : ∀ u, u < 4 → HF hh 73 u = 78 + 5 * (u : Int) := fun u hu => by rw [HF_q hh 73 u (by omega), fg 73 u (by omega)]; exact k_73 u hu
  refine begin_Inv (x := 3) (y := 0) (z := 1) (by decide) (by decide) (by decide) (by decide) ⟨?_, ?_⟩ ⟨fun w hw => ?_, fun w hw => ?_, fun j hj => ?_, fun j hj => ?_⟩ ⟨fun u hu => ?_, fun u v h1 h2 => ?_⟩ (fun d hd => ⟨?_, ?_⟩) ⟨fun m hm => ?_, fun k hk => ?_, fun i hi2 => ?_⟩ ?_ (fun k hk => ?_) (fun w hw => ?_) ?_ ?_ (fun k hk => ?_) ?_ (fun k hk => ?_) (fun k hk => ?_) (fun c hc => ?_) (fun w hw => ?_) (fun k hk => ?_) ?_
  · rw [lo 17 1 (by omega), fg 17 1 (by omega)]; exact k_17.1
  · rw [lo 27 1 (by omega), fg 27 1 (by omega)]; exact k_17.2
  · rw [hi 145 w (by omega) (by omega), lo 19 w (by omega), fg 19 w (by omega), k_145 w (by omega)]; exact (k_19 w hw).1.symm
  · rw [hi 145 _ (by omega) (by omega), lo 29 w (by omega), fg 29 w (by omega), k_145 _ (by omega)]; exact (k_19 w hw).2.symm
  · rw [hi 146 j (by omega) (by omega), lo 20 j (by omega), fg 20 j (by omega), k_146 j (by omega)]; exact (k_20 j hj).1.symm
  · rw [hi 146 _ (by omega) (by omega), lo 30 j (by omega), fg 30 j (by omega), k_146 _ (by omega)]; exact (k_20 j hj).2.symm
  · have := k73 u hu; omega
  · have := k73 u (by omega); have := k73 v h2; omega
  · rw [HF_q hh 98 d (by omega), fg 98 d (by omega)]; exact (k_98 d hd).1
  · have e1 : HF hh 171 d = 0 := by rw [hi 171 d (by omega) (by omega)]; exact k_155.2.2.2 d hd
    have e2 : HF hh (101 + 7 * d) 0 = 0 := by rw [lo _ 0 (by omega), fg _ 0 (by omega)]; exact (k_98 d hd).2
    refine ⟨by rw [e1, e2], by rw [e1]; decide, fun z => absurd e1 z, fun z => ?_⟩
    rw [e1] at z; cases z
  · have e1 : HF hh 192 m = 0 := by rw [hi 192 m (by omega) (by omega)]; exact k_155.2.2.1 m hm
    refine ⟨Or.inl e1, fun z => ?_⟩
    rw [e1] at z; cases z
  · rw [hi 155 k (by omega) (by omega)]; exact Or.inl (k_155.1 k hk)
  · rw [hi 184 i (by omega) (by omega)]; exact Or.inl (k_155.2.1 i hi2)
  · rw [lo 17 6 (by omega), lo 27 6 (by omega), lo 18 0 (by omega), lo 18 1 (by omega), lo 18 2 (by omega), lo 18 3 (by omega), lo 28 0 (by omega), lo 28 1 (by omega), lo 28 2 (by omega), lo 28 3 (by omega)]; exact c1
  · rw [lo 21 k (by omega), lo 31 k (by omega)]; exact c2 k hk
  · rw [lo 22 w (by omega), lo 32 w (by omega), lo 54 w (by omega)]; exact c3 w hw
  · rw [lo 37 0 (by omega), lo 37 1 (by omega), show HF hh 38 = hh 38 from funext (fun i => lo 38 i (by omega)), show HF hh 39 = hh 39 from funext (fun i => lo 39 i (by omega))]; exact c4
  · rw [lo 53 1 (by omega), lo 56 0 (by omega), lo 67 0 (by omega), lo 67 1 (by omega), lo 72 2 (by omega), lo 72 4 (by omega), lo 72 6 (by omega), lo 16 12 (by omega), lo 16 13 (by omega), lo 16 14 (by omega), lo 16 15 (by omega)]; exact c5
  · rw [lo 99 k (by omega)]; exact c6 k hk
  · rw [hi 143 1 (by omega) (by omega), hi 143 2 (by omega) (by omega), hi 143 3 (by omega) (by omega), hi 144 0 (by omega) (by omega), hi 144 1 (by omega) (by omega)]; exact k_143.1
  · rw [hi 147 k (by omega) (by omega)]; exact k_147.1 k hk
  · rw [hi 148 k (by omega) (by omega)]; exact k_147.2 k hk
  · rw [hi 149 c (by omega) (by omega)]; exact k_149 c hc
  · rw [hi 150 w (by omega) (by omega), hi 151 w (by omega) (by omega)]; exact ⟨(k_150 w hw).1, (k_150 w hw).2, HF_157 hh w hw⟩
  · rw [hi 156 k (by omega) (by omega)]; exact k_156 k hk
  · rw [hi 143 12 (by omega) (by omega), hi 143 19 (by omega) (by omega), hi 143 21 (by omega) (by omega), hi 143 22 (by omega) (by omega), hi 143 23 (by omega) (by omega), hi 143 36 (by omega) (by omega), hi 143 37 (by omega) (by omega), hi 143 38 (by omega) (by omega), hi 143 57 (by omega) (by omega)]; exact k_143.2
