theorem law_c12 {Γ : Cx} {rt : Option FieldType} (g : Gd Γ code 8 "GatePatchLaw" rt room_1) {sa : Nat → Nat} (gx : GX Γ sa) {L : Nat} {xs : Nat → Int32} (gl : LX Γ L xs) (hL : L ≤ 3072) {w : Wd} (hw : okX w) (hm : okM w) (ho : At w 206 (2, 1, 1)) {n : Nat} {h : Hp} (hI : Inv n h) (hH : HN h) (hn : n ≤ 1000) {i : Int} (hi : 0 ≤ i ∧ i + 6 ≤ L) {kc ks : Nat} (hk : kc + 1 ≤ room_1.cells ∧ ks + 6 ≤ room_1.slots) {Q : State → Prop} (k : ∀ h2, Inv (n + 1) h2 → HN h2 → Core Γ w h2 (kc + 1) (ks + 6) Q 2070 (LSt i) []) : Core Γ w h kc ks Q 810 (LSt i) [] := by
  obtain ⟨r, h1, h2, e1, e2, hI2⟩ := m_point hI (xi xs (i + 1).toNat)
  have hH2 : HN h2 := by
    unfold HN
    rw [fr_XX12_point e2 40 12 (by first | omega | exact fun hh => hh), fr_XX11_point e1 40 12 (by first | omega | exact fun hh => hh)]; exact hH
  have hk : kc ≤ room_1.cells ∧ ks ≤ room_1.slots := ⟨Nat.le_of_succ_le hk.1, Nat.le_trans (Nat.le_add_right _ _) hk.2⟩
  refine Co_aload_n (kk := 3) g dL_law_810 rfl rfl ?_
  refine Co_aload_n (kk := 4) g dL_law_811 rfl rfl ?_
  refine Co_iload (kk := 0) g dL_law_812 rfl ?_
  refine Co_iconst g dL_law_814 ⟨by decide, by decide⟩ ?_
  refine Co_iadd g dL_law_815 ⟨by omega, by omega⟩ ?_
  refine Co_sld g gl dL_law_816 (by omega) (by omega) ?_
  refine Lw_callV (As := [vI (xi xs (i + 1).toNat)]) g dL_law_817 (sX11_point hw _ _) e1 rfl (at_16 hw) rfl im_X11_point se_X11_point cw_X11_point ml_Law_83 ini_GP nd_X11_point ⟨by decide, by decide⟩ hk (Nat.le_of_ble_eq_true rfl) ?_
  refine Co_aload_n (kk := 2) g dL_law_820 rfl rfl ?_
  refine Co_aload_n (kk := 4) g dL_law_821 rfl rfl ?_
  refine Co_iload (kk := 0) g dL_law_822 rfl ?_
  refine Co_iconst g dL_law_824 ⟨by decide, by decide⟩ ?_
  refine Co_iadd g dL_law_825 ⟨by omega, by omega⟩ ?_
  refine Co_sld g gl dL_law_826 (by omega) (by omega) ?_
  refine Lw_callV (As := [vI (xi xs (i + 1).toNat)]) g dL_law_827 (sX12_point hm _ _) e2 rfl (at_143 hm) rfl im_X12_point se_X12_point cw_X12_point ml_Law_86 ini_Mod nd_X12_point ⟨by decide, by decide⟩ hk (Nat.le_of_ble_eq_true rfl) ?_
  refine Co_icmp_eq (tgt := 2070) g dL_law_830 (by decide) (fun _ => ?_) (fun z => absurd rfl z)
  exact Co_widen (Nat.le_succ _) (Nat.le_add_right _ _) (k h2 hI2 hH2)
theorem law_c13 {Γ : Cx} {rt : Option FieldType} (g : Gd Γ code 8 "GatePatchLaw" rt room_1) {sa : Nat → Nat} (gx : GX Γ sa) {L : Nat} {xs : Nat → Int32} (gl : LX Γ L xs) (hL : L ≤ 3072) {w : Wd} (hw : okX w) (hm : okM w) (ho : At w 206 (2, 1, 1)) {n : Nat} {h : Hp} (hI : Inv n h) (hH : HN h) (hn : n ≤ 1000) {i : Int} (hi : 0 ≤ i ∧ i + 6 ≤ L) {kc ks : Nat} (hk : kc + 1 ≤ room_1.cells ∧ ks + 6 ≤ room_1.slots) {Q : State → Prop} (k : ∀ h2, Inv (n + 1) h2 → HN h2 → Core Γ w h2 (kc + 1) (ks + 6) Q 2070 (LSt i) []) : Core Γ w h kc ks Q 835 (LSt i) [] := by
  obtain ⟨r, h1, h2, e1, e2, hI2⟩ := m_mend hI (xi xs (i + 1).toNat) (xi xs (i + 2).toNat) (xi xs (i + 3).toNat) (xi xs (i + 4).toNat)
  have hH2 : HN h2 := by
    unfold HN
    rw [fr_XX12_mend e2 40 12 (by first | omega | exact fun hh => hh), fr_XX11_mend e1 40 12 (by first | omega | exact fun hh => hh)]; exact hH
  have hk : kc ≤ room_1.cells ∧ ks ≤ room_1.slots := ⟨Nat.le_of_succ_le hk.1, Nat.le_trans (Nat.le_add_right _ _) hk.2⟩
  refine Co_aload_n (kk := 3) g dL_law_835 rfl rfl ?_
  refine Co_aload_n (kk := 4) g dL_law_836 rfl rfl ?_
  refine Co_iload (kk := 0) g dL_law_837 rfl ?_
  refine Co_iconst g dL_law_839 ⟨by decide, by decide⟩ ?_
  refine Co_iadd g dL_law_840 ⟨by omega, by omega⟩ ?_
  refine Co_sld g gl dL_law_841 (by omega) (by omega) ?_
  refine Co_aload_n (kk := 4) g dL_law_842 rfl rfl ?_
  refine Co_iload (kk := 0) g dL_law_843 rfl ?_
  refine Co_iconst g dL_law_845 ⟨by decide, by decide⟩ ?_
  refine Co_iadd g dL_law_846 ⟨by omega, by omega⟩ ?_
  refine Co_sld g gl dL_law_847 (by omega) (by omega) ?_
  refine Co_aload_n (kk := 4) g dL_law_848 rfl rfl ?_
  refine Co_iload (kk := 0) g dL_law_849 rfl ?_
  refine Co_iconst g dL_law_851 ⟨by decide, by decide⟩ ?_
  refine Co_iadd g dL_law_852 ⟨by omega, by omega⟩ ?_
  refine Co_sld g gl dL_law_853 (by omega) (by omega) ?_
  refine Co_aload_n (kk := 4) g dL_law_854 rfl rfl ?_
  refine Co_iload (kk := 0) g dL_law_855 rfl ?_
  refine Co_iconst g dL_law_857 ⟨by decide, by decide⟩ ?_
  refine Co_iadd g dL_law_858 ⟨by omega, by omega⟩ ?_
  refine Co_sld g gl dL_law_859 (by omega) (by omega) ?_
  refine Lw_callV (As := [vI (xi xs (i + 1).toNat), vI (xi xs (i + 2).toNat), vI (xi xs (i + 3).toNat), vI (xi xs (i + 4).toNat)]) g dL_law_860 (sX11_mend hw _ _ _ _ _) e1 rfl (at_16 hw) rfl im_X11_mend se_X11_mend cw_X11_mend ml_Law_87 ini_GP nd_X11_mend ⟨by decide, by decide⟩ hk (Nat.le_of_ble_eq_true rfl) ?_
  refine Co_aload_n (kk := 2) g dL_law_863 rfl rfl ?_
  refine Co_aload_n (kk := 4) g dL_law_864 rfl rfl ?_
  refine Co_iload (kk := 0) g dL_law_865 rfl ?_
  refine Co_iconst g dL_law_867 ⟨by decide, by decide⟩ ?_
  refine Co_iadd g dL_law_868 ⟨by omega, by omega⟩ ?_
  refine Co_sld g gl dL_law_869 (by omega) (by omega) ?_
  refine Co_aload_n (kk := 4) g dL_law_870 rfl rfl ?_
  refine Co_iload (kk := 0) g dL_law_871 rfl ?_
  refine Co_iconst g dL_law_873 ⟨by decide, by decide⟩ ?_
  refine Co_iadd g dL_law_874 ⟨by omega, by omega⟩ ?_
  refine Co_sld g gl dL_law_875 (by omega) (by omega) ?_
  refine Co_aload_n (kk := 4) g dL_law_876 rfl rfl ?_
  refine Co_iload (kk := 0) g dL_law_877 rfl ?_
  refine Co_iconst g dL_law_879 ⟨by decide, by decide⟩ ?_
  refine Co_iadd g dL_law_880 ⟨by omega, by omega⟩ ?_
  refine Co_sld g gl dL_law_881 (by omega) (by omega) ?_
  refine Co_aload_n (kk := 4) g dL_law_882 rfl rfl ?_
  refine Co_iload (kk := 0) g dL_law_883 rfl ?_
  refine Co_iconst g dL_law_885 ⟨by decide, by decide⟩ ?_
  refine Co_iadd g dL_law_886 ⟨by omega, by omega⟩ ?_
  refine Co_sld g gl dL_law_887 (by omega) (by omega) ?_
  refine Lw_callV (As := [vI (xi xs (i + 1).toNat), vI (xi xs (i + 2).toNat), vI (xi xs (i + 3).toNat), vI (xi xs (i + 4).toNat)]) g dL_law_888 (sX12_mend hm _ _ _ _ _) e2 rfl (at_143 hm) rfl im_X12_mend se_X12_mend cw_X12_mend ml_Law_90 ini_Mod nd_X12_mend ⟨by decide, by decide⟩ hk (Nat.le_of_ble_eq_true rfl) ?_
  refine Co_icmp_eq (tgt := 2070) g dL_law_891 (by decide) (fun _ => ?_) (fun z => absurd rfl z)
  exact Co_widen (Nat.le_succ _) (Nat.le_add_right _ _) (k h2 hI2 hH2)
theorem law_c14 {Γ : Cx} {rt : Option FieldType} (g : Gd Γ code 8 "GatePatchLaw" rt room_1) {sa : Nat → Nat} (gx : GX Γ sa) {L : Nat} {xs : Nat → Int32} (gl : LX Γ L xs) (hL : L ≤ 3072) {w : Wd} (hw : okX w) (hm : okM w) (ho : At w 206 (2, 1, 1)) {n : Nat} {h : Hp} (hI : Inv n h) (hH : HN h) (hn : n ≤ 1000) {i : Int} (hi : 0 ≤ i ∧ i + 6 ≤ L) {kc ks : Nat} (hk : kc + 1 ≤ room_1.cells ∧ ks + 6 ≤ room_1.slots) {Q : State → Prop} (k : ∀ h2, Inv (n + 1) h2 → HN h2 → Core Γ w h2 (kc + 1) (ks + 6) Q 2070 (LSt i) []) : Core Γ w h kc ks Q 896 (LSt i) [] := by
  obtain ⟨r, h1, h2, e1, e2, hI2⟩ := m_witness hI (xi xs (i + 1).toNat) (xi xs (i + 2).toNat) (xi xs (i + 3).toNat) (xi xs (i + 4).toNat)
  have hH2 : HN h2 := by
    unfold HN
    rw [fr_XX12_witness e2 40 12 (by first | omega | exact fun hh => hh), fr_XX11_witness e1 40 12 (by first | omega | exact fun hh => hh)]; exact hH
  have hk : kc ≤ room_1.cells ∧ ks ≤ room_1.slots := ⟨Nat.le_of_succ_le hk.1, Nat.le_trans (Nat.le_add_right _ _) hk.2⟩
  refine Co_aload_n (kk := 3) g dL_law_896 rfl rfl ?_
  refine Co_aload_n (kk := 4) g dL_law_897 rfl rfl ?_
  refine Co_iload (kk := 0) g dL_law_898 rfl ?_
  refine Co_iconst g dL_law_900 ⟨by decide, by decide⟩ ?_
  refine Co_iadd g dL_law_901 ⟨by omega, by omega⟩ ?_
  refine Co_sld g gl dL_law_902 (by omega) (by omega) ?_
  refine Co_aload_n (kk := 4) g dL_law_903 rfl rfl ?_
  refine Co_iload (kk := 0) g dL_law_904 rfl ?_
  refine Co_iconst g dL_law_906 ⟨by decide, by decide⟩ ?_
  refine Co_iadd g dL_law_907 ⟨by omega, by omega⟩ ?_
  refine Co_sld g gl dL_law_908 (by omega) (by omega) ?_
  refine Co_aload_n (kk := 4) g dL_law_909 rfl rfl ?_
  refine Co_iload (kk := 0) g dL_law_910 rfl ?_
  refine Co_iconst g dL_law_912 ⟨by decide, by decide⟩ ?_
  refine Co_iadd g dL_law_913 ⟨by omega, by omega⟩ ?_
  refine Co_sld g gl dL_law_914 (by omega) (by omega) ?_
  refine Co_aload_n (kk := 4) g dL_law_915 rfl rfl ?_
  refine Co_iload (kk := 0) g dL_law_916 rfl ?_
  refine Co_iconst g dL_law_918 ⟨by decide, by decide⟩ ?_
  refine Co_iadd g dL_law_919 ⟨by omega, by omega⟩ ?_
  refine Co_sld g gl dL_law_920 (by omega) (by omega) ?_
  refine Lw_callV (As := [vI (xi xs (i + 1).toNat), vI (xi xs (i + 2).toNat), vI (xi xs (i + 3).toNat), vI (xi xs (i + 4).toNat)]) g dL_law_921 (sX11_witness hw _ _ _ _ _) e1 rfl (at_16 hw) rfl im_X11_witness se_X11_witness cw_X11_witness ml_Law_91 ini_GP nd_X11_witness ⟨by decide, by decide⟩ hk (Nat.le_of_ble_eq_true rfl) ?_
  refine Co_aload_n (kk := 2) g dL_law_924 rfl rfl ?_
  refine Co_aload_n (kk := 4) g dL_law_925 rfl rfl ?_
  refine Co_iload (kk := 0) g dL_law_926 rfl ?_
  refine Co_iconst g dL_law_928 ⟨by decide, by decide⟩ ?_
  refine Co_iadd g dL_law_929 ⟨by omega, by omega⟩ ?_
  refine Co_sld g gl dL_law_930 (by omega) (by omega) ?_
  refine Co_aload_n (kk := 4) g dL_law_931 rfl rfl ?_
  refine Co_iload (kk := 0) g dL_law_932 rfl ?_
  refine Co_iconst g dL_law_934 ⟨by decide, by decide⟩ ?_
  refine Co_iadd g dL_law_935 ⟨by omega, by omega⟩ ?_
  refine Co_sld g gl dL_law_936 (by omega) (by omega) ?_
  refine Co_aload_n (kk := 4) g dL_law_937 rfl rfl ?_
  refine Co_iload (kk := 0) g dL_law_938 rfl ?_
  refine Co_iconst g dL_law_940 ⟨by decide, by decide⟩ ?_
  refine Co_iadd g dL_law_941 ⟨by omega, by omega⟩ ?_
  refine Co_sld g gl dL_law_942 (by omega) (by omega) ?_
  refine Co_aload_n (kk := 4) g dL_law_943 rfl rfl ?_
  refine Co_iload (kk := 0) g dL_law_944 rfl ?_
  refine Co_iconst g dL_law_946 ⟨by decide, by decide⟩ ?_
  refine Co_iadd g dL_law_947 ⟨by omega, by omega⟩ ?_
  refine Co_sld g gl dL_law_948 (by omega) (by omega) ?_
  refine Lw_callV (As := [vI (xi xs (i + 1).toNat), vI (xi xs (i + 2).toNat), vI (xi xs (i + 3).toNat), vI (xi xs (i + 4).toNat)]) g dL_law_949 (sX12_witness hm _ _ _ _ _) e2 rfl (at_143 hm) rfl im_X12_witness se_X12_witness cw_X12_witness ml_Law_94 ini_Mod nd_X12_witness ⟨by decide, by decide⟩ hk (Nat.le_of_ble_eq_true rfl) ?_
  refine Co_icmp_eq (tgt := 2070) g dL_law_952 (by decide) (fun _ => ?_) (fun z => absurd rfl z)
  exact Co_widen (Nat.le_succ _) (Nat.le_add_right _ _) (k h2 hI2 hH2)
theorem law_c15 {Γ : Cx} {rt : Option FieldType} (g : Gd Γ code 8 "GatePatchLaw" rt room_1) {sa : Nat → Nat} (gx : GX Γ sa) {L : Nat} {xs : Nat → Int32} (gl : LX Γ L xs) (hL : L ≤ 3072) {w : Wd} (hw : okX w) (hm : okM w) (ho : At w 206 (2, 1, 1)) {n : Nat} {h : Hp} (hI : Inv n h) (hH : HN h) (hn : n ≤ 1000) {i : Int} (hi : 0 ≤ i ∧ i + 6 ≤ L) {kc ks : Nat} (hk : kc + 1 ≤ room_1.cells ∧ ks + 6 ≤ room_1.slots) {Q : State → Prop} (k : ∀ h2, Inv (n + 1) h2 → HN h2 → Core Γ w h2 (kc + 1) (ks + 6) Q 2070 (LSt i) []) : Core Γ w h kc ks Q 957 (LSt i) [] := by
  obtain ⟨r, h1, h2, e1, e2, hI2⟩ := m_judge hI hn (xi xs (i + 1).toNat) (xi xs (i + 2).toNat) (xi xs (i + 3).toNat) (xi xs (i + 4).toNat)
  have hH2 : HN h2 := by
    unfold HN
    rw [fr_XX12_judge e2 40 12 (by first | omega | exact fun hh => hh), fr_XX11_judge e1 40 12 (by first | omega | exact fun hh => hh)]; exact hH
  have hk : kc ≤ room_1.cells ∧ ks ≤ room_1.slots := ⟨Nat.le_of_succ_le hk.1, Nat.le_trans (Nat.le_add_right _ _) hk.2⟩
  refine Co_aload_n (kk := 3) g dL_law_957 rfl rfl ?_
  refine Co_aload_n (kk := 4) g dL_law_958 rfl rfl ?_
  refine Co_iload (kk := 0) g dL_law_959 rfl ?_
  refine Co_iconst g dL_law_961 ⟨by decide, by decide⟩ ?_
  refine Co_iadd g dL_law_962 ⟨by omega, by omega⟩ ?_
  refine Co_sld g gl dL_law_963 (by omega) (by omega) ?_
  refine Co_aload_n (kk := 4) g dL_law_964 rfl rfl ?_
  refine Co_iload (kk := 0) g dL_law_965 rfl ?_
  refine Co_iconst g dL_law_967 ⟨by decide, by decide⟩ ?_
  refine Co_iadd g dL_law_968 ⟨by omega, by omega⟩ ?_
  refine Co_sld g gl dL_law_969 (by omega) (by omega) ?_
  refine Co_aload_n (kk := 4) g dL_law_970 rfl rfl ?_
  refine Co_iload (kk := 0) g dL_law_971 rfl ?_
  refine Co_iconst g dL_law_973 ⟨by decide, by decide⟩ ?_
  refine Co_iadd g dL_law_974 ⟨by omega, by omega⟩ ?_
  refine Co_sld g gl dL_law_975 (by omega) (by omega) ?_
  refine Co_aload_n (kk := 4) g dL_law_976 rfl rfl ?_
  refine Co_iload (kk := 0) g dL_law_977 rfl ?_
  refine Co_iconst g dL_law_979 ⟨by decide, by decide⟩ ?_
  refine Co_iadd g dL_law_980 ⟨by omega, by omega⟩ ?_
  refine Co_sld g gl dL_law_981 (by omega) (by omega) ?_
  refine Lw_callV (As := [vI (xi xs (i + 1).toNat), vI (xi xs (i + 2).toNat), vI (xi xs (i + 3).toNat), vI (xi xs (i + 4).toNat)]) g dL_law_982 (sX11_judge hw _ _ _ _ _) e1 rfl (at_16 hw) rfl im_X11_judge se_X11_judge cw_X11_judge ml_Law_95 ini_GP nd_X11_judge ⟨by decide, by decide⟩ hk (Nat.le_of_ble_eq_true rfl) ?_
  refine Co_aload_n (kk := 2) g dL_law_985 rfl rfl ?_
  refine Co_aload_n (kk := 4) g dL_law_986 rfl rfl ?_
  refine Co_iload (kk := 0) g dL_law_987 rfl ?_
  refine Co_iconst g dL_law_989 ⟨by decide, by decide⟩ ?_
  refine Co_iadd g dL_law_990 ⟨by omega, by omega⟩ ?_
  refine Co_sld g gl dL_law_991 (by omega) (by omega) ?_
  refine Co_aload_n (kk := 4) g dL_law_992 rfl rfl ?_
  refine Co_iload (kk := 0) g dL_law_993 rfl ?_
  refine Co_iconst g dL_law_995 ⟨by decide, by decide⟩ ?_
  refine Co_iadd g dL_law_996 ⟨by omega, by omega⟩ ?_
  refine Co_sld g gl dL_law_997 (by omega) (by omega) ?_
  refine Co_aload_n (kk := 4) g dL_law_998 rfl rfl ?_
  refine Co_iload (kk := 0) g dL_law_999 rfl ?_
  refine Co_iconst g dL_law_1001 ⟨by decide, by decide⟩ ?_
  refine Co_iadd g dL_law_1002 ⟨by omega, by omega⟩ ?_
  refine Co_sld g gl dL_law_1003 (by omega) (by omega) ?_
  refine Co_aload_n (kk := 4) g dL_law_1004 rfl rfl ?_
  refine Co_iload (kk := 0) g dL_law_1005 rfl ?_
  refine Co_iconst g dL_law_1007 ⟨by decide, by decide⟩ ?_
  refine Co_iadd g dL_law_1008 ⟨by omega, by omega⟩ ?_
  refine Co_sld g gl dL_law_1009 (by omega) (by omega) ?_
  refine Lw_callV (As := [vI (xi xs (i + 1).toNat), vI (xi xs (i + 2).toNat), vI (xi xs (i + 3).toNat), vI (xi xs (i + 4).toNat)]) g dL_law_1010 (sX12_judge hm _ _ _ _ _) e2 rfl (at_143 hm) rfl im_X12_judge se_X12_judge cw_X12_judge ml_Law_98 ini_Mod nd_X12_judge ⟨by decide, by decide⟩ hk (Nat.le_of_ble_eq_true rfl) ?_
  refine Co_icmp_eq (tgt := 2070) g dL_law_1013 (by decide) (fun _ => ?_) (fun z => absurd rfl z)
  exact Co_widen (Nat.le_succ _) (Nat.le_add_right _ _) (k h2 hI2 hH2)
theorem law_c16 {Γ : Cx} {rt : Option FieldType} (g : Gd Γ code 8 "GatePatchLaw" rt room_1) {sa : Nat → Nat} (gx : GX Γ sa) {L : Nat} {xs : Nat → Int32} (gl : LX Γ L xs) (hL : L ≤ 3072) {w : Wd} (hw : okX w) (hm : okM w) (ho : At w 206 (2, 1, 1)) {n : Nat} {h : Hp} (hI : Inv n h) (hH : HN h) (hn : n ≤ 1000) {i : Int} (hi : 0 ≤ i ∧ i + 6 ≤ L) {kc ks : Nat} (hk : kc + 1 ≤ room_1.cells ∧ ks + 6 ≤ room_1.slots) {Q : State → Prop} (k : ∀ h2, Inv (n + 1) h2 → HN h2 → Core Γ w h2 (kc + 1) (ks + 6) Q 2070 (LSt i) []) : Core Γ w h kc ks Q 1018 (LSt i) [] := by
  obtain ⟨r, h1, h2, e1, e2, hI2⟩ := m_patch hI (xi xs (i + 1).toNat) (xi xs (i + 2).toNat) (xi xs (i + 3).toNat) (xi xs (i + 4).toNat) (xi xs (i + 5).toNat)
  have hH2 : HN h2 := by
    unfold HN
    rw [fr_XX12_patch e2 40 12 (by first | omega | exact fun hh => hh), fr_XX11_patch e1 40 12 (by first | omega | exact fun hh => hh)]; exact hH
  have hk : kc ≤ room_1.cells ∧ ks ≤ room_1.slots := ⟨Nat.le_of_succ_le hk.1, Nat.le_trans (Nat.le_add_right _ _) hk.2⟩
  refine Co_aload_n (kk := 3) g dL_law_1018 rfl rfl ?_
  refine Co_aload_n (kk := 4) g dL_law_1019 rfl rfl ?_
  refine Co_iload (kk := 0) g dL_law_1020 rfl ?_
  refine Co_iconst g dL_law_1022 ⟨by decide, by decide⟩ ?_
  refine Co_iadd g dL_law_1023 ⟨by omega, by omega⟩ ?_
  refine Co_sld g gl dL_law_1024 (by omega) (by omega) ?_
  refine Co_aload_n (kk := 4) g dL_law_1025 rfl rfl ?_
  refine Co_iload (kk := 0) g dL_law_1026 rfl ?_
  refine Co_iconst g dL_law_1028 ⟨by decide, by decide⟩ ?_
  refine Co_iadd g dL_law_1029 ⟨by omega, by omega⟩ ?_
  refine Co_sld g gl dL_law_1030 (by omega) (by omega) ?_
  refine Co_aload_n (kk := 4) g dL_law_1031 rfl rfl ?_
  refine Co_iload (kk := 0) g dL_law_1032 rfl ?_
  refine Co_iconst g dL_law_1034 ⟨by decide, by decide⟩ ?_
  refine Co_iadd g dL_law_1035 ⟨by omega, by omega⟩ ?_
  refine Co_sld g gl dL_law_1036 (by omega) (by omega) ?_
  refine Co_aload_n (kk := 4) g dL_law_1037 rfl rfl ?_
  refine Co_iload (kk := 0) g dL_law_1038 rfl ?_
  refine Co_iconst g dL_law_1040 ⟨by decide, by decide⟩ ?_
  refine Co_iadd g dL_law_1041 ⟨by omega, by omega⟩ ?_
  refine Co_sld g gl dL_law_1042 (by omega) (by omega) ?_
  refine Co_aload_n (kk := 4) g dL_law_1043 rfl rfl ?_
  refine Co_iload (kk := 0) g dL_law_1044 rfl ?_
  refine Co_iconst g dL_law_1046 ⟨by decide, by decide⟩ ?_
  refine Co_iadd g dL_law_1047 ⟨by omega, by omega⟩ ?_
  refine Co_sld g gl dL_law_1048 (by omega) (by omega) ?_
  refine Lw_callV (As := [vI (xi xs (i + 1).toNat), vI (xi xs (i + 2).toNat), vI (xi xs (i + 3).toNat), vI (xi xs (i + 4).toNat), vI (xi xs (i + 5).toNat)]) g dL_law_1049 (sX11_patch hw _ _ _ _ _ _) e1 rfl (at_16 hw) rfl im_X11_patch se_X11_patch cw_X11_patch ml_Law_99 ini_GP nd_X11_patch ⟨by decide, by decide⟩ hk (Nat.le_of_ble_eq_true rfl) ?_
  refine Co_aload_n (kk := 2) g dL_law_1052 rfl rfl ?_
  refine Co_aload_n (kk := 4) g dL_law_1053 rfl rfl ?_
  refine Co_iload (kk := 0) g dL_law_1054 rfl ?_
  refine Co_iconst g dL_law_1056 ⟨by decide, by decide⟩ ?_
  refine Co_iadd g dL_law_1057 ⟨by omega, by omega⟩ ?_
  refine Co_sld g gl dL_law_1058 (by omega) (by omega) ?_
  refine Co_aload_n (kk := 4) g dL_law_1059 rfl rfl ?_
  refine Co_iload (kk := 0) g dL_law_1060 rfl ?_
  refine Co_iconst g dL_law_1062 ⟨by decide, by decide⟩ ?_
  refine Co_iadd g dL_law_1063 ⟨by omega, by omega⟩ ?_
  refine Co_sld g gl dL_law_1064 (by omega) (by omega) ?_
  refine Co_aload_n (kk := 4) g dL_law_1065 rfl rfl ?_
  refine Co_iload (kk := 0) g dL_law_1066 rfl ?_
  refine Co_iconst g dL_law_1068 ⟨by decide, by decide⟩ ?_
  refine Co_iadd g dL_law_1069 ⟨by omega, by omega⟩ ?_
  refine Co_sld g gl dL_law_1070 (by omega) (by omega) ?_
  refine Co_aload_n (kk := 4) g dL_law_1071 rfl rfl ?_
  refine Co_iload (kk := 0) g dL_law_1072 rfl ?_
  refine Co_iconst g dL_law_1074 ⟨by decide, by decide⟩ ?_
  refine Co_iadd g dL_law_1075 ⟨by omega, by omega⟩ ?_
  refine Co_sld g gl dL_law_1076 (by omega) (by omega) ?_
  refine Co_aload_n (kk := 4) g dL_law_1077 rfl rfl ?_
  refine Co_iload (kk := 0) g dL_law_1078 rfl ?_
  refine Co_iconst g dL_law_1080 ⟨by decide, by decide⟩ ?_
  refine Co_iadd g dL_law_1081 ⟨by omega, by omega⟩ ?_
  refine Co_sld g gl dL_law_1082 (by omega) (by omega) ?_
  refine Lw_callV (As := [vI (xi xs (i + 1).toNat), vI (xi xs (i + 2).toNat), vI (xi xs (i + 3).toNat), vI (xi xs (i + 4).toNat), vI (xi xs (i + 5).toNat)]) g dL_law_1083 (sX12_patch hm _ _ _ _ _ _) e2 rfl (at_143 hm) rfl im_X12_patch se_X12_patch cw_X12_patch ml_Law_102 ini_Mod nd_X12_patch ⟨by decide, by decide⟩ hk (Nat.le_of_ble_eq_true rfl) ?_
  refine Co_icmp_eq (tgt := 2070) g dL_law_1086 (by decide) (fun _ => ?_) (fun z => absurd rfl z)
  exact Co_widen (Nat.le_succ _) (Nat.le_add_right _ _) (k h2 hI2 hH2)
theorem law_c17 {Γ : Cx} {rt : Option FieldType} (g : Gd Γ code 8 "GatePatchLaw" rt room_1) {sa : Nat → Nat} (gx : GX Γ sa) {L : Nat} {xs : Nat → Int32} (gl : LX Γ L xs) (hL : L ≤ 3072) {w : Wd} (hw : okX w) (hm : okM w) (ho : At w 206 (2, 1, 1)) {n : Nat} {h : Hp} (hI : Inv n h) (hH : HN h) (hn : n ≤ 1000) {i : Int} (hi : 0 ≤ i ∧ i + 6 ≤ L) {kc ks : Nat} (hk : kc + 1 ≤ room_1.cells ∧ ks + 6 ≤ room_1.slots) {Q : State → Prop} (k : ∀ h2, Inv (n + 1) h2 → HN h2 → Core Γ w h2 (kc + 1) (ks + 6) Q 2070 (LSt i) []) : Core Γ w h kc ks Q 1091 (LSt i) [] := by
  obtain ⟨r, h1, h2, e1, e2, hI2⟩ := m_clash hI (xi xs (i + 1).toNat)
  have hH2 : HN h2 := by
    unfold HN
    rw [fr_XX12_clash e2 40 12 (by first | omega | exact fun hh => hh), fr_XX11_clash e1 40 12 (by first | omega | exact fun hh => hh)]; exact hH
  have hk : kc ≤ room_1.cells ∧ ks ≤ room_1.slots := ⟨Nat.le_of_succ_le hk.1, Nat.le_trans (Nat.le_add_right _ _) hk.2⟩
  refine Co_aload_n (kk := 3) g dL_law_1091 rfl rfl ?_
  refine Co_aload_n (kk := 4) g dL_law_1092 rfl rfl ?_
  refine Co_iload (kk := 0) g dL_law_1093 rfl ?_
  refine Co_iconst g dL_law_1095 ⟨by decide, by decide⟩ ?_
  refine Co_iadd g dL_law_1096 ⟨by omega, by omega⟩ ?_
  refine Co_sld g gl dL_law_1097 (by omega) (by omega) ?_
  refine Lw_callV (As := [vI (xi xs (i + 1).toNat)]) g dL_law_1098 (sX11_clash hw _ _) e1 rfl (at_16 hw) rfl im_X11_clash se_X11_clash cw_X11_clash ml_Law_103 ini_GP nd_X11_clash ⟨by decide, by decide⟩ hk (Nat.le_of_ble_eq_true rfl) ?_
  refine Co_aload_n (kk := 2) g dL_law_1101 rfl rfl ?_
  refine Co_aload_n (kk := 4) g dL_law_1102 rfl rfl ?_
  refine Co_iload (kk := 0) g dL_law_1103 rfl ?_
  refine Co_iconst g dL_law_1105 ⟨by decide, by decide⟩ ?_
  refine Co_iadd g dL_law_1106 ⟨by omega, by omega⟩ ?_
  refine Co_sld g gl dL_law_1107 (by omega) (by omega) ?_
  refine Lw_callV (As := [vI (xi xs (i + 1).toNat)]) g dL_law_1108 (sX12_clash hm _ _) e2 rfl (at_143 hm) rfl im_X12_clash se_X12_clash cw_X12_clash ml_Law_106 ini_Mod nd_X12_clash ⟨by decide, by decide⟩ hk (Nat.le_of_ble_eq_true rfl) ?_
  refine Co_icmp_eq (tgt := 2070) g dL_law_1111 (by decide) (fun _ => ?_) (fun z => absurd rfl z)
  exact Co_widen (Nat.le_succ _) (Nat.le_add_right _ _) (k h2 hI2 hH2)
theorem law_c18 {Γ : Cx} {rt : Option FieldType} (g : Gd Γ code 8 "GatePatchLaw" rt room_1) {sa : Nat → Nat} (gx : GX Γ sa) {L : Nat} {xs : Nat → Int32} (gl : LX Γ L xs) (hL : L ≤ 3072) {w : Wd} (hw : okX w) (hm : okM w) (ho : At w 206 (2, 1, 1)) {n : Nat} {h : Hp} (hI : Inv n h) (hH : HN h) (hn : n ≤ 1000) {i : Int} (hi : 0 ≤ i ∧ i + 6 ≤ L) {kc ks : Nat} (hk : kc + 1 ≤ room_1.cells ∧ ks + 6 ≤ room_1.slots) {Q : State → Prop} (k : ∀ h2, Inv (n + 1) h2 → HN h2 → Core Γ w h2 (kc + 1) (ks + 6) Q 2070 (LSt i) []) : Core Γ w h kc ks Q 1116 (LSt i) [] := by
  obtain ⟨r, h1, h2, e1, e2, hI2⟩ := m_mark hI (xi xs (i + 1).toNat) (xi xs (i + 2).toNat)
  have hH2 : HN h2 := by
    unfold HN
    rw [fr_XX12_mark e2 40 12 (by first | omega | exact fun hh => hh), fr_XX11_mark e1 40 12 (by first | omega | exact fun hh => hh)]; exact hH
  have hk : kc ≤ room_1.cells ∧ ks ≤ room_1.slots := ⟨Nat.le_of_succ_le hk.1, Nat.le_trans (Nat.le_add_right _ _) hk.2⟩
  refine Co_aload_n (kk := 3) g dL_law_1116 rfl rfl ?_
  refine Co_aload_n (kk := 4) g dL_law_1117 rfl rfl ?_
  refine Co_iload (kk := 0) g dL_law_1118 rfl ?_
  refine Co_iconst g dL_law_1120 ⟨by decide, by decide⟩ ?_
  refine Co_iadd g dL_law_1121 ⟨by omega, by omega⟩ ?_
  refine Co_sld g gl dL_law_1122 (by omega) (by omega) ?_
  refine Co_aload_n (kk := 4) g dL_law_1123 rfl rfl ?_
  refine Co_iload (kk := 0) g dL_law_1124 rfl ?_
  refine Co_iconst g dL_law_1126 ⟨by decide, by decide⟩ ?_
  refine Co_iadd g dL_law_1127 ⟨by omega, by omega⟩ ?_
  refine Co_sld g gl dL_law_1128 (by omega) (by omega) ?_
  refine Lw_callV (As := [vI (xi xs (i + 1).toNat), vI (xi xs (i + 2).toNat)]) g dL_law_1129 (sX11_mark hw _ _ _) e1 rfl (at_16 hw) rfl im_X11_mark se_X11_mark cw_X11_mark ml_Law_107 ini_GP nd_X11_mark ⟨by decide, by decide⟩ hk (Nat.le_of_ble_eq_true rfl) ?_
  refine Co_aload_n (kk := 2) g dL_law_1132 rfl rfl ?_
  refine Co_aload_n (kk := 4) g dL_law_1133 rfl rfl ?_
  refine Co_iload (kk := 0) g dL_law_1134 rfl ?_
  refine Co_iconst g dL_law_1136 ⟨by decide, by decide⟩ ?_
  refine Co_iadd g dL_law_1137 ⟨by omega, by omega⟩ ?_
  refine Co_sld g gl dL_law_1138 (by omega) (by omega) ?_
  refine Co_aload_n (kk := 4) g dL_law_1139 rfl rfl ?_
  refine Co_iload (kk := 0) g dL_law_1140 rfl ?_
  refine Co_iconst g dL_law_1142 ⟨by decide, by decide⟩ ?_
  refine Co_iadd g dL_law_1143 ⟨by omega, by omega⟩ ?_
  refine Co_sld g gl dL_law_1144 (by omega) (by omega) ?_
  refine Lw_callV (As := [vI (xi xs (i + 1).toNat), vI (xi xs (i + 2).toNat)]) g dL_law_1145 (sX12_mark hm _ _ _) e2 rfl (at_143 hm) rfl im_X12_mark se_X12_mark cw_X12_mark ml_Law_111 ini_Mod nd_X12_mark ⟨by decide, by decide⟩ hk (Nat.le_of_ble_eq_true rfl) ?_
  refine Co_icmp_eq (tgt := 2070) g dL_law_1148 (by decide) (fun _ => ?_) (fun z => absurd rfl z)
  exact Co_widen (Nat.le_succ _) (Nat.le_add_right _ _) (k h2 hI2 hH2)
theorem law_c19 {Γ : Cx} {rt : Option FieldType} (g : Gd Γ code 8 "GatePatchLaw" rt room_1) {sa : Nat → Nat} (gx : GX Γ sa) {L : Nat} {xs : Nat → Int32} (gl : LX Γ L xs) (hL : L ≤ 3072) {w : Wd} (hw : okX w) (hm : okM w) (ho : At w 206 (2, 1, 1)) {n : Nat} {h : Hp} (hI : Inv n h) (hH : HN h) (hn : n ≤ 1000) {i : Int} (hi : 0 ≤ i ∧ i + 6 ≤ L) {kc ks : Nat} (hk : kc + 1 ≤ room_1.cells ∧ ks + 6 ≤ room_1.slots) {Q : State → Prop} (k : ∀ h2, Inv (n + 1) h2 → HN h2 → Core Γ w h2 (kc + 1) (ks + 6) Q 2070 (LSt i) []) : Core Γ w h kc ks Q 1153 (LSt i) [] := by
  obtain ⟨r, h1, h2, e1, e2, hI2⟩ := m_best hI (xi xs (i + 1).toNat)
  have hH2 : HN h2 := by
    unfold HN
    rw [fr_XX12_best e2 40 12 (by first | omega | exact fun hh => hh), fr_XX11_best e1 40 12 (by first | omega | exact fun hh => hh)]; exact hH
  have hk : kc ≤ room_1.cells ∧ ks ≤ room_1.slots := ⟨Nat.le_of_succ_le hk.1, Nat.le_trans (Nat.le_add_right _ _) hk.2⟩
  refine Co_aload_n (kk := 3) g dL_law_1153 rfl rfl ?_
  refine Co_aload_n (kk := 4) g dL_law_1154 rfl rfl ?_
  refine Co_iload (kk := 0) g dL_law_1155 rfl ?_
  refine Co_iconst g dL_law_1157 ⟨by decide, by decide⟩ ?_
  refine Co_iadd g dL_law_1158 ⟨by omega, by omega⟩ ?_
  refine Co_sld g gl dL_law_1159 (by omega) (by omega) ?_
  refine Lw_callV (As := [vI (xi xs (i + 1).toNat)]) g dL_law_1160 (sX11_best hw _ _) e1 rfl (at_16 hw) rfl im_X11_best se_X11_best cw_X11_best ml_Law_112 ini_GP nd_X11_best ⟨by decide, by decide⟩ hk (Nat.le_of_ble_eq_true rfl) ?_
  refine Co_aload_n (kk := 2) g dL_law_1163 rfl rfl ?_
  refine Co_aload_n (kk := 4) g dL_law_1164 rfl rfl ?_
  refine Co_iload (kk := 0) g dL_law_1165 rfl ?_
  refine Co_iconst g dL_law_1167 ⟨by decide, by decide⟩ ?_
  refine Co_iadd g dL_law_1168 ⟨by omega, by omega⟩ ?_
  refine Co_sld g gl dL_law_1169 (by omega) (by omega) ?_
  refine Lw_callV (As := [vI (xi xs (i + 1).toNat)]) g dL_law_1170 (sX12_best hm _ _) e2 rfl (at_143 hm) rfl im_X12_best se_X12_best cw_X12_best ml_Law_115 ini_Mod nd_X12_best ⟨by decide, by decide⟩ hk (Nat.le_of_ble_eq_true rfl) ?_
  refine Co_icmp_eq (tgt := 2070) g dL_law_1173 (by decide) (fun _ => ?_) (fun z => absurd rfl z)
  exact Co_widen (Nat.le_succ _) (Nat.le_add_right _ _) (k h2 hI2 hH2)
theorem law_c20 {Γ : Cx} {rt : Option FieldType} (g : Gd Γ code 8 "GatePatchLaw" rt room_1) {sa : Nat → Nat} (gx : GX Γ sa) {L : Nat} {xs : Nat → Int32} (gl : LX Γ L xs) (hL : L ≤ 3072) {w : Wd} (hw : okX w) (hm : okM w) (ho : At w 206 (2, 1, 1)) {n : Nat} {h : Hp} (hI : Inv n h) (hH : HN h) (hn : n ≤ 1000) {i : Int} (hi : 0 ≤ i ∧ i + 6 ≤ L) {kc ks : Nat} (hk : kc + 1 ≤ room_1.cells ∧ ks + 6 ≤ room_1.slots) {Q : State → Prop} (k : ∀ h2, Inv (n + 1) h2 → HN h2 → Core Γ w h2 (kc + 1) (ks + 6) Q 2070 (LSt i) []) : Core Γ w h kc ks Q 1178 (LSt i) [] := by
  obtain ⟨r, h1, h2, e1, e2, hI2⟩ := m_patched hI (xi xs (i + 1).toNat)
  have hH2 : HN h2 := by
    unfold HN
    rw [fr_XX12_patched e2 40 12 (by first | omega | exact fun hh => hh), fr_XX11_patched e1 40 12 (by first | omega | exact fun hh => hh)]; exact hH
  have hk : kc ≤ room_1.cells ∧ ks ≤ room_1.slots := ⟨Nat.le_of_succ_le hk.1, Nat.le_trans (Nat.le_add_right _ _) hk.2⟩
  refine Co_aload_n (kk := 3) g dL_law_1178 rfl rfl ?_
  refine Co_aload_n (kk := 4) g dL_law_1179 rfl rfl ?_
  refine Co_iload (kk := 0) g dL_law_1180 rfl ?_
  refine Co_iconst g dL_law_1182 ⟨by decide, by decide⟩ ?_
  refine Co_iadd g dL_law_1183 ⟨by omega, by omega⟩ ?_
  refine Co_sld g gl dL_law_1184 (by omega) (by omega) ?_
  refine Lw_callV (As := [vI (xi xs (i + 1).toNat)]) g dL_law_1185 (sX11_patched hw _ _) e1 rfl (at_16 hw) rfl im_X11_patched se_X11_patched cw_X11_patched ml_Law_116 ini_GP nd_X11_patched ⟨by decide, by decide⟩ hk (Nat.le_of_ble_eq_true rfl) ?_
  refine Co_aload_n (kk := 2) g dL_law_1188 rfl rfl ?_
  refine Co_aload_n (kk := 4) g dL_law_1189 rfl rfl ?_
  refine Co_iload (kk := 0) g dL_law_1190 rfl ?_
  refine Co_iconst g dL_law_1192 ⟨by decide, by decide⟩ ?_
  refine Co_iadd g dL_law_1193 ⟨by omega, by omega⟩ ?_
  refine Co_sld g gl dL_law_1194 (by omega) (by omega) ?_
  refine Lw_callV (As := [vI (xi xs (i + 1).toNat)]) g dL_law_1195 (sX12_patched hm _ _) e2 rfl (at_143 hm) rfl im_X12_patched se_X12_patched cw_X12_patched ml_Law_119 ini_Mod nd_X12_patched ⟨by decide, by decide⟩ hk (Nat.le_of_ble_eq_true rfl) ?_
  refine Co_icmp_eq (tgt := 2070) g dL_law_1198 (by decide) (fun _ => ?_) (fun z => absurd rfl z)
  exact Co_widen (Nat.le_succ _) (Nat.le_add_right _ _) (k h2 hI2 hH2)
theorem law_c21 {Γ : Cx} {rt : Option FieldType} (g : Gd Γ code 8 "GatePatchLaw" rt room_1) {sa : Nat → Nat} (gx : GX Γ sa) {L : Nat} {xs : Nat → Int32} (gl : LX Γ L xs) (hL : L ≤ 3072) {w : Wd} (hw : okX w) (hm : okM w) (ho : At w 206 (2, 1, 1)) {n : Nat} {h : Hp} (hI : Inv n h) (hH : HN h) (hn : n ≤ 1000) {i : Int} (hi : 0 ≤ i ∧ i + 6 ≤ L) {kc ks : Nat} (hk : kc + 1 ≤ room_1.cells ∧ ks + 6 ≤ room_1.slots) {Q : State → Prop} (k : ∀ h2, Inv (n + 1) h2 → HN h2 → Core Γ w h2 (kc + 1) (ks + 6) Q 2070 (LSt i) []) : Core Γ w h kc ks Q 1203 (LSt i) [] := by
  obtain ⟨r, h1, h2, e1, e2, hI2⟩ := m_function hI (xi xs (i + 1).toNat)
  have hH2 : HN h2 := by
    unfold HN
    rw [fr_XX12_function e2 40 12 (by first | omega | exact fun hh => hh), fr_XX11_function e1 40 12 (by first | omega | exact fun hh => hh)]; exact hH
  have hk : kc ≤ room_1.cells ∧ ks ≤ room_1.slots := ⟨Nat.le_of_succ_le hk.1, Nat.le_trans (Nat.le_add_right _ _) hk.2⟩
  refine Co_aload_n (kk := 3) g dL_law_1203 rfl rfl ?_
  refine Co_aload_n (kk := 4) g dL_law_1204 rfl rfl ?_
  refine Co_iload (kk := 0) g dL_law_1205 rfl ?_
  refine Co_iconst g dL_law_1207 ⟨by decide, by decide⟩ ?_
  refine Co_iadd g dL_law_1208 ⟨by omega, by omega⟩ ?_
  refine Co_sld g gl dL_law_1209 (by omega) (by omega) ?_
  refine Lw_callV (As := [vI (xi xs (i + 1).toNat)]) g dL_law_1210 (sX11_function hw _ _) e1 rfl (at_16 hw) rfl im_X11_function se_X11_function cw_X11_function ml_Law_120 ini_GP nd_X11_function ⟨by decide, by decide⟩ hk (Nat.le_of_ble_eq_true rfl) ?_
  refine Co_aload_n (kk := 2) g dL_law_1213 rfl rfl ?_
  refine Co_aload_n (kk := 4) g dL_law_1214 rfl rfl ?_
  refine Co_iload (kk := 0) g dL_law_1215 rfl ?_
  refine Co_iconst g dL_law_1217 ⟨by decide, by decide⟩ ?_
  refine Co_iadd g dL_law_1218 ⟨by omega, by omega⟩ ?_
  refine Co_sld g gl dL_law_1219 (by omega) (by omega) ?_
  refine Lw_callV (As := [vI (xi xs (i + 1).toNat)]) g dL_law_1220 (sX12_function hm _ _) e2 rfl (at_143 hm) rfl im_X12_function se_X12_function cw_X12_function ml_Law_123 ini_Mod nd_X12_function ⟨by decide, by decide⟩ hk (Nat.le_of_ble_eq_true rfl) ?_
  refine Co_icmp_eq (tgt := 2070) g dL_law_1223 (by decide) (fun _ => ?_) (fun z => absurd rfl z)
  exact Co_widen (Nat.le_succ _) (Nat.le_add_right _ _) (k h2 hI2 hH2)
theorem law_c22 {Γ : Cx} {rt : Option FieldType} (g : Gd Γ code 8 "GatePatchLaw" rt room_1) {sa : Nat → Nat} (gx : GX Γ sa) {L : Nat} {xs : Nat → Int32} (gl : LX Γ L xs) (hL : L ≤ 3072) {w : Wd} (hw : okX w) (hm : okM w) (ho : At w 206 (2, 1, 1)) {n : Nat} {h : Hp} (hI : Inv n h) (hH : HN h) (hn : n ≤ 1000) {i : Int} (hi : 0 ≤ i ∧ i + 6 ≤ L) {kc ks : Nat} (hk : kc + 1 ≤ room_1.cells ∧ ks + 6 ≤ room_1.slots) {Q : State → Prop} (k : ∀ h2, Inv (n + 1) h2 → HN h2 → Core Γ w h2 (kc + 1) (ks + 6) Q 2070 (LSt i) []) : Core Γ w h kc ks Q 1228 (LSt i) [] := by
  obtain ⟨r, h1, h2, e1, e2, hI2⟩ := m_told hI (xi xs (i + 1).toNat)
  have hH2 : HN h2 := by
    unfold HN
    rw [fr_XX12_told e2 40 12 (by first | omega | exact fun hh => hh), fr_XX11_told e1 40 12 (by first | omega | exact fun hh => hh)]; exact hH
  have hk : kc ≤ room_1.cells ∧ ks ≤ room_1.slots := ⟨Nat.le_of_succ_le hk.1, Nat.le_trans (Nat.le_add_right _ _) hk.2⟩
  refine Co_aload_n (kk := 3) g dL_law_1228 rfl rfl ?_
  refine Co_aload_n (kk := 4) g dL_law_1229 rfl rfl ?_
  refine Co_iload (kk := 0) g dL_law_1230 rfl ?_
  refine Co_iconst g dL_law_1232 ⟨by decide, by decide⟩ ?_
  refine Co_iadd g dL_law_1233 ⟨by omega, by omega⟩ ?_
  refine Co_sld g gl dL_law_1234 (by omega) (by omega) ?_
  refine Lw_callV (As := [vI (xi xs (i + 1).toNat)]) g dL_law_1235 (sX11_told hw _ _) e1 rfl (at_16 hw) rfl im_X11_told se_X11_told cw_X11_told ml_Law_124 ini_GP nd_X11_told ⟨by decide, by decide⟩ hk (Nat.le_of_ble_eq_true rfl) ?_
  refine Co_aload_n (kk := 2) g dL_law_1238 rfl rfl ?_
  refine Co_aload_n (kk := 4) g dL_law_1239 rfl rfl ?_
  refine Co_iload (kk := 0) g dL_law_1240 rfl ?_
  refine Co_iconst g dL_law_1242 ⟨by decide, by decide⟩ ?_
  refine Co_iadd g dL_law_1243 ⟨by omega, by omega⟩ ?_
  refine Co_sld g gl dL_law_1244 (by omega) (by omega) ?_
  refine Lw_callV (As := [vI (xi xs (i + 1).toNat)]) g dL_law_1245 (sX12_told hm _ _) e2 rfl (at_143 hm) rfl im_X12_told se_X12_told cw_X12_told ml_Law_127 ini_Mod nd_X12_told ⟨by decide, by decide⟩ hk (Nat.le_of_ble_eq_true rfl) ?_
  refine Co_icmp_eq (tgt := 2070) g dL_law_1248 (by decide) (fun _ => ?_) (fun z => absurd rfl z)
  exact Co_widen (Nat.le_succ _) (Nat.le_add_right _ _) (k h2 hI2 hH2)
theorem law_c23 {Γ : Cx} {rt : Option FieldType} (g : Gd Γ code 8 "GatePatchLaw" rt room_1) {sa : Nat → Nat} (gx : GX Γ sa) {L : Nat} {xs : Nat → Int32} (gl : LX Γ L xs) (hL : L ≤ 3072) {w : Wd} (hw : okX w) (hm : okM w) (ho : At w 206 (2, 1, 1)) {n : Nat} {h : Hp} (hI : Inv n h) (hH : HN h) (hn : n ≤ 1000) {i : Int} (hi : 0 ≤ i ∧ i + 6 ≤ L) {kc ks : Nat} (hk : kc + 1 ≤ room_1.cells ∧ ks + 6 ≤ room_1.slots) {Q : State → Prop} (k : ∀ h2, Inv (n + 1) h2 → HN h2 → Core Γ w h2 (kc + 1) (ks + 6) Q 2070 (LSt i) []) : Core Γ w h kc ks Q 1253 (LSt i) [] := by
  obtain ⟨r, h1, h2, e1, e2, hI2⟩ := m_node hI (xi xs (i + 1).toNat) (xi xs (i + 2).toNat)
  have hH2 : HN h2 := by
    unfold HN
    rw [fr_XX12_node e2 40 12 (by first | omega | exact fun hh => hh), fr_XX11_node e1 40 12 (by first | omega | exact fun hh => hh)]; exact hH
  have hk : kc ≤ room_1.cells ∧ ks ≤ room_1.slots := ⟨Nat.le_of_succ_le hk.1, Nat.le_trans (Nat.le_add_right _ _) hk.2⟩
  refine Co_aload_n (kk := 3) g dL_law_1253 rfl rfl ?_
  refine Co_aload_n (kk := 4) g dL_law_1254 rfl rfl ?_
  refine Co_iload (kk := 0) g dL_law_1255 rfl ?_
  refine Co_iconst g dL_law_1257 ⟨by decide, by decide⟩ ?_
  refine Co_iadd g dL_law_1258 ⟨by omega, by omega⟩ ?_
  refine Co_sld g gl dL_law_1259 (by omega) (by omega) ?_
  refine Co_aload_n (kk := 4) g dL_law_1260 rfl rfl ?_
  refine Co_iload (kk := 0) g dL_law_1261 rfl ?_
  refine Co_iconst g dL_law_1263 ⟨by decide, by decide⟩ ?_
  refine Co_iadd g dL_law_1264 ⟨by omega, by omega⟩ ?_
  refine Co_sld g gl dL_law_1265 (by omega) (by omega) ?_
  refine Lw_callV (As := [vI (xi xs (i + 1).toNat), vI (xi xs (i + 2).toNat)]) g dL_law_1266 (sX11_node hw _ _ _) e1 rfl (at_16 hw) rfl im_X11_node se_X11_node cw_X11_node ml_Law_128 ini_GP nd_X11_node ⟨by decide, by decide⟩ hk (Nat.le_of_ble_eq_true rfl) ?_
  refine Co_aload_n (kk := 2) g dL_law_1269 rfl rfl ?_
  refine Co_aload_n (kk := 4) g dL_law_1270 rfl rfl ?_
  refine Co_iload (kk := 0) g dL_law_1271 rfl ?_
  refine Co_iconst g dL_law_1273 ⟨by decide, by decide⟩ ?_
  refine Co_iadd g dL_law_1274 ⟨by omega, by omega⟩ ?_
  refine Co_sld g gl dL_law_1275 (by omega) (by omega) ?_
  refine Co_aload_n (kk := 4) g dL_law_1276 rfl rfl ?_
  refine Co_iload (kk := 0) g dL_law_1277 rfl ?_
  refine Co_iconst g dL_law_1279 ⟨by decide, by decide⟩ ?_
  refine Co_iadd g dL_law_1280 ⟨by omega, by omega⟩ ?_
  refine Co_sld g gl dL_law_1281 (by omega) (by omega) ?_
  refine Lw_callV (As := [vI (xi xs (i + 1).toNat), vI (xi xs (i + 2).toNat)]) g dL_law_1282 (sX12_node hm _ _ _) e2 rfl (at_143 hm) rfl im_X12_node se_X12_node cw_X12_node ml_Law_131 ini_Mod nd_X12_node ⟨by decide, by decide⟩ hk (Nat.le_of_ble_eq_true rfl) ?_
  refine Co_icmp_eq (tgt := 2070) g dL_law_1285 (by decide) (fun _ => ?_) (fun z => absurd rfl z)
  exact Co_widen (Nat.le_succ _) (Nat.le_add_right _ _) (k h2 hI2 hH2)
