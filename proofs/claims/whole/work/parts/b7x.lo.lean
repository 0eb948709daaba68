/-! THE CLASS'S CELLS BEHIND BOTH CONSTRUCTORS: as the first one left them -/
def LoX (w : Wd) : Prop := 146 ≤ w.1 ∧ ∀ a, a < 146 → w.2.1 a = WX11_init_83.2.1 a ∧ ∀ i, w.2.2 a i = WX11_init_83.2.2 a i
theorem lox_new {w : Wd} {S : ShT} (h : LoX w) : LoX (wnew w S) := ⟨Nat.le_succ_of_le h.1, fun a ha => by
  have hne : a ≠ w.1 := Nat.ne_of_lt (Nat.lt_of_lt_of_le ha h.1)
  simp only [wnew, if_neg hne]; exact h.2 a ha⟩
theorem lox_ref {w : Wd} {a i b : Nat} (h : LoX w) (hb : 146 ≤ a) : LoX (wref w a i b) := ⟨h.1, fun x hx => ⟨(h.2 x hx).1, fun j => by
  have hne : ¬ (x = a ∧ j = i) := fun q => by omega
  simp only [wref, if_neg hne]; exact (h.2 x hx).2 j⟩⟩
theorem lox_WX11_init_83 : LoX WX11_init_83 := ⟨by decide +kernel, fun a _ => ⟨rfl, fun _ => rfl⟩⟩
theorem lox_WM0 : LoX WM0 := lox_new lox_WX11_init_83
theorem lox_WX12_init_4 : LoX WX12_init_4 := lox_new lox_WM0
theorem lox_WX12_init_5 : LoX WX12_init_5 := lox_ref lox_WX12_init_4 (by decide)
theorem lox_WX12_init_7 : LoX WX12_init_7 := lox_new lox_WX12_init_5
theorem lox_WX12_init_8 : LoX WX12_init_8 := lox_ref lox_WX12_init_7 (by decide)
theorem lox_WX12_init_10 : LoX WX12_init_10 := lox_new lox_WX12_init_8
theorem lox_WX12_init_11 : LoX WX12_init_11 := lox_ref lox_WX12_init_10 (by decide)
theorem lox_WX12_init_13 : LoX WX12_init_13 := lox_new lox_WX12_init_11
theorem lox_WX12_init_14 : LoX WX12_init_14 := lox_ref lox_WX12_init_13 (by decide)
theorem lox_WX12_init_16 : LoX WX12_init_16 := lox_new lox_WX12_init_14
theorem lox_WX12_init_17 : LoX WX12_init_17 := lox_ref lox_WX12_init_16 (by decide)
theorem lox_WX12_init_19 : LoX WX12_init_19 := lox_new lox_WX12_init_17
theorem lox_WX12_init_20 : LoX WX12_init_20 := lox_ref lox_WX12_init_19 (by decide)
theorem lox_WX12_init_22 : LoX WX12_init_22 := lox_new lox_WX12_init_20
theorem lox_WX12_init_23 : LoX WX12_init_23 := lox_ref lox_WX12_init_22 (by decide)
theorem lox_WX12_init_25 : LoX WX12_init_25 := lox_new lox_WX12_init_23
theorem lox_WX12_init_26 : LoX WX12_init_26 := lox_ref lox_WX12_init_25 (by decide)
theorem lox_WX12_init_28 : LoX WX12_init_28 := lox_new lox_WX12_init_26
theorem lox_WX12_init_29 : LoX WX12_init_29 := lox_ref lox_WX12_init_28 (by decide)
theorem lox_WX12_init_31 : LoX WX12_init_31 := lox_new lox_WX12_init_29
theorem lox_WX12_init_32 : LoX WX12_init_32 := lox_ref lox_WX12_init_31 (by decide)
theorem lox_WX12_init_34 : LoX WX12_init_34 := lox_new lox_WX12_init_32
theorem lox_WX12_init_35 : LoX WX12_init_35 := lox_ref lox_WX12_init_34 (by decide)
theorem lox_WX12_init_37 : LoX WX12_init_37 := lox_new lox_WX12_init_35
theorem lox_WX12_init_38 : LoX WX12_init_38 := lox_ref lox_WX12_init_37 (by decide)
theorem lox_WX12_init_40 : LoX WX12_init_40 := lox_new lox_WX12_init_38
theorem lox_WX12_init_50 : LoX WX12_init_50 := lox_ref lox_WX12_init_40 (by decide)
theorem lox_WX12_init_52 : LoX WX12_init_52 := lox_new lox_WX12_init_50
theorem lox_WX12_init_53 : LoX WX12_init_53 := lox_ref lox_WX12_init_52 (by decide)
theorem lox_WX12_init_55 : LoX WX12_init_55 := lox_new lox_WX12_init_53
theorem lox_WX12_init_56 : LoX WX12_init_56 := lox_ref lox_WX12_init_55 (by decide)
theorem lox_WX12_init_60 : LoX WX12_init_60 := lox_new lox_WX12_init_56
theorem lox_WX12_init_61 : LoX WX12_init_61 := lox_ref lox_WX12_init_60 (by decide)
theorem lox_WX12_init_63 : LoX WX12_init_63 := lox_new lox_WX12_init_61
theorem lox_WX12_init_64 : LoX WX12_init_64 := lox_ref lox_WX12_init_63 (by decide)
theorem lox_WX12_init_66 : LoX WX12_init_66 := lox_new lox_WX12_init_64
theorem lox_WX12_init_67 : LoX WX12_init_67 := lox_ref lox_WX12_init_66 (by decide)
theorem lox_WX12_init_69 : LoX WX12_init_69 := lox_new lox_WX12_init_67
theorem lox_WX12_init_70 : LoX WX12_init_70 := lox_ref lox_WX12_init_69 (by decide)
theorem lox_WX12_init_72 : LoX WX12_init_72 := lox_new lox_WX12_init_70
theorem lox_WX12_init_73 : LoX WX12_init_73 := lox_ref lox_WX12_init_72 (by decide)
theorem lox_WX12_init_75 : LoX WX12_init_75 := lox_new lox_WX12_init_73
theorem lox_WX12_init_76 : LoX WX12_init_76 := lox_ref lox_WX12_init_75 (by decide)
theorem lox_WX12_init_78 : LoX WX12_init_78 := lox_new lox_WX12_init_76
theorem lox_WX12_init_79 : LoX WX12_init_79 := lox_ref lox_WX12_init_78 (by decide)
theorem lox_WX12_init_81 : LoX WX12_init_81 := lox_new lox_WX12_init_79
theorem lox_WX12_init_82 : LoX WX12_init_82 := lox_ref lox_WX12_init_81 (by decide)
theorem lox_WX12_init_84 : LoX WX12_init_84 := lox_new lox_WX12_init_82
theorem lox_WX12_init_85 : LoX WX12_init_85 := lox_ref lox_WX12_init_84 (by decide)
theorem lox_WX12_init_87 : LoX WX12_init_87 := lox_new lox_WX12_init_85
theorem lox_WX12_init_88 : LoX WX12_init_88 := lox_ref lox_WX12_init_87 (by decide)
theorem lox_WX12_init_90 : LoX WX12_init_90 := lox_new lox_WX12_init_88
theorem lox_WX12_init_91 : LoX WX12_init_91 := lox_ref lox_WX12_init_90 (by decide)
theorem lox_WX12_init_93 : LoX WX12_init_93 := lox_new lox_WX12_init_91
theorem lox_WX12_init_94 : LoX WX12_init_94 := lox_ref lox_WX12_init_93 (by decide)
theorem lox_WX12_init_96 : LoX WX12_init_96 := lox_new lox_WX12_init_94
theorem lox_WX12_init_97 : LoX WX12_init_97 := lox_ref lox_WX12_init_96 (by decide)
theorem lox_WX12_init_99 : LoX WX12_init_99 := lox_new lox_WX12_init_97
theorem lox_WX12_init_100 : LoX WX12_init_100 := lox_ref lox_WX12_init_99 (by decide)
theorem lox_WX12_init_102 : LoX WX12_init_102 := lox_new lox_WX12_init_100
theorem lox_WX12_init_103 : LoX WX12_init_103 := lox_ref lox_WX12_init_102 (by decide)
theorem lox_WX12_init_105 : LoX WX12_init_105 := lox_new lox_WX12_init_103
theorem lox_WX12_init_106 : LoX WX12_init_106 := lox_ref lox_WX12_init_105 (by decide)
theorem lox_WX12_init_108 : LoX WX12_init_108 := lox_new lox_WX12_init_106
theorem lox_WX12_init_109 : LoX WX12_init_109 := lox_ref lox_WX12_init_108 (by decide)
theorem lox_WX12_init_111 : LoX WX12_init_111 := lox_new lox_WX12_init_109
theorem lox_WX12_init_112 : LoX WX12_init_112 := lox_ref lox_WX12_init_111 (by decide)
theorem lox_WX12_init_114 : LoX WX12_init_114 := lox_new lox_WX12_init_112
theorem lox_WX12_init_115 : LoX WX12_init_115 := lox_ref lox_WX12_init_114 (by decide)
theorem lox_WX12_init_117 : LoX WX12_init_117 := lox_new lox_WX12_init_115
theorem lox_WX12_init_118 : LoX WX12_init_118 := lox_ref lox_WX12_init_117 (by decide)
theorem lox_WX12_init_120 : LoX WX12_init_120 := lox_new lox_WX12_init_118
theorem lox_WX12_init_121 : LoX WX12_init_121 := lox_ref lox_WX12_init_120 (by decide)
theorem lox_WX12_init_123 : LoX WX12_init_123 := lox_new lox_WX12_init_121
theorem lox_WX12_init_124 : LoX WX12_init_124 := lox_ref lox_WX12_init_123 (by decide)
theorem lox_WX12_init_126 : LoX WX12_init_126 := lox_new lox_WX12_init_124
theorem lox_WX12_init_127 : LoX WX12_init_127 := lox_ref lox_WX12_init_126 (by decide)
theorem lox_WX12_init_129 : LoX WX12_init_129 := lox_new lox_WX12_init_127
theorem lox_WX12_init_130 : LoX WX12_init_130 := lox_ref lox_WX12_init_129 (by decide)
theorem lox_WX12_init_132 : LoX WX12_init_132 := lox_new lox_WX12_init_130
theorem lox_WX12_init_133 : LoX WX12_init_133 := lox_ref lox_WX12_init_132 (by decide)
theorem lox_WX12_init_135 : LoX WX12_init_135 := lox_new lox_WX12_init_133
theorem lox_WX12_init_136 : LoX WX12_init_136 := lox_ref lox_WX12_init_135 (by decide)
theorem lox_WX12_init_138 : LoX WX12_init_138 := lox_new lox_WX12_init_136
theorem lox_WX12_init_139 : LoX WX12_init_139 := lox_ref lox_WX12_init_138 (by decide)
theorem lox_WX12_init_141 : LoX WX12_init_141 := lox_new lox_WX12_init_139
theorem lox_WX12_init_142 : LoX WX12_init_142 := lox_ref lox_WX12_init_141 (by decide)
theorem lox_WX12_init_144 : LoX WX12_init_144 := lox_new lox_WX12_init_142
theorem lox_WX12_init_145 : LoX WX12_init_145 := lox_ref lox_WX12_init_144 (by decide)
theorem lox_WX12_init_147 : LoX WX12_init_147 := lox_new lox_WX12_init_145
theorem lox_WX12_init_148 : LoX WX12_init_148 := lox_ref lox_WX12_init_147 (by decide)
theorem lox_WX12_init_150 : LoX WX12_init_150 := lox_new lox_WX12_init_148
theorem lox_WX12_init_151 : LoX WX12_init_151 := lox_ref lox_WX12_init_150 (by decide)
theorem lox_WX12_init_153 : LoX WX12_init_153 := lox_new lox_WX12_init_151
theorem lox_WX12_init_154 : LoX WX12_init_154 := lox_ref lox_WX12_init_153 (by decide)
theorem lox_WX12_init_156 : LoX WX12_init_156 := lox_new lox_WX12_init_154
theorem lox_WX12_init_157 : LoX WX12_init_157 := lox_ref lox_WX12_init_156 (by decide)
theorem lox_WX12_init_159 : LoX WX12_init_159 := lox_new lox_WX12_init_157
theorem lox_WX12_init_160 : LoX WX12_init_160 := lox_ref lox_WX12_init_159 (by decide)
theorem lox_WX12_init_162 : LoX WX12_init_162 := lox_new lox_WX12_init_160
theorem lox_WX12_init_163 : LoX WX12_init_163 := lox_ref lox_WX12_init_162 (by decide)
theorem lox_WX12_init_165 : LoX WX12_init_165 := lox_new lox_WX12_init_163
theorem lox_WX12_init_166 : LoX WX12_init_166 := lox_ref lox_WX12_init_165 (by decide)
theorem lox_WX12_init_168 : LoX WX12_init_168 := lox_new lox_WX12_init_166
theorem lox_WX12_init_169 : LoX WX12_init_169 := lox_ref lox_WX12_init_168 (by decide)
theorem lox_WX12_init_171 : LoX WX12_init_171 := lox_new lox_WX12_init_169
theorem lox_WX12_init_172 : LoX WX12_init_172 := lox_ref lox_WX12_init_171 (by decide)
theorem lox_WX12_init_174 : LoX WX12_init_174 := lox_new lox_WX12_init_172
theorem lox_WX12_init_175 : LoX WX12_init_175 := lox_ref lox_WX12_init_174 (by decide)
theorem lox_WX12_init_177 : LoX WX12_init_177 := lox_new lox_WX12_init_175
theorem lox_WX12_init_178 : LoX WX12_init_178 := lox_ref lox_WX12_init_177 (by decide)
theorem lox_WX12_init_180 : LoX WX12_init_180 := lox_new lox_WX12_init_178
theorem lox_WX12_init_181 : LoX WX12_init_181 := lox_ref lox_WX12_init_180 (by decide)
theorem lox_WX12_init_183 : LoX WX12_init_183 := lox_new lox_WX12_init_181
theorem lox_WX12_init_184 : LoX WX12_init_184 := lox_ref lox_WX12_init_183 (by decide)
theorem lox_WX12_init_186 : LoX WX12_init_186 := lox_new lox_WX12_init_184
theorem lox_WX12_init_187 : LoX WX12_init_187 := lox_ref lox_WX12_init_186 (by decide)
theorem lox_WX12_init_189 : LoX WX12_init_189 := lox_new lox_WX12_init_187
theorem lox_WX12_init_190 : LoX WX12_init_190 := lox_ref lox_WX12_init_189 (by decide)
theorem lox_W9r : LoX W9r := lox_new lox_WX12_init_190
theorem rho12 : ∀ a, a < 143 → rho2 a = rho1 a ∧ rho1 a < 146 := by decide +kernel
theorem rcl_lo : ∀ a, a < 143 → ∀ i, i < 82 → (a < 16 ∨ a = 40) ∨ sig2 (rho1 ((RCL.getD (a - 16) []).getD i 0)) = (RCL.getD (a - 16) []).getD i 0 := by decide +kernel
theorem rcl_40 : ∀ i, i < 82 → (i = 9 ∨ i = 13 ∨ i = 14) ∨ sig2 (rho1 ((RCL.getD (40 - 16) []).getD i 0)) = (RCL.getD (40 - 16) []).getD i 0 := by decide +kernel
theorem okX0_W9 : okX0 W9 := by
  refine ⟨by decide +kernel, fun a l1 l2 => ?_⟩
  obtain ⟨s1, s2⟩ := okX0_WXF.2 a l1 l2
  have e := rho12 a l2
  have hl := lox_W9r.2 (rho2 a) (by rw [e.1]; exact e.2)
  refine ⟨?_, fun i hi hn => ?_⟩
  · show W9r.2.1 (rho2 a) = _
    rw [hl.1, e.1]; exact s1
  · show sig2 (W9r.2.2 (rho2 a) i) = _
    have t := s2 i hi hn
    have u : WX11_init_83.2.2 (rho1 a) i = rho1 ((RCL.getD (a - 16) []).getD i 0) := by
      rw [← t]
      show _ = rho1 (sig1 (WX11_init_83.2.2 (rho1 a) i))
      rw [rho1_b]
    rw [hl.2 i, e.1, u]
    by_cases q : a = 40
    · subst q
      exact (rcl_40 i hi).resolve_left (fun z => by have := hn rfl; omega)
    · exact (rcl_lo a l2 i hi).resolve_left (fun z => by omega)
