theorem law_c36 {Γ : Cx} {rt : Option FieldType} (g : Gd Γ code 8 "GatePatchLaw" rt room_1) {sa : Nat → Nat} (gx : GX Γ sa) {L : Nat} {xs : Nat → Int32} (gl : LX Γ L xs) (hL : L ≤ 3072) {w : Wd} (hw : okX w) (hm : okM w) (ho : At w 206 (2, 1, 1)) {n : Nat} {h : Hp} (hI : Inv n h) (hH : HN h) (hn : n ≤ 1000) {i : Int} (hi : 0 ≤ i ∧ i + 6 ≤ L) {kc ks : Nat} (hk : kc + 1 ≤ room_1.cells ∧ ks + 6 ≤ room_1.slots) {Q : State → Prop} (k : ∀ h2, Inv (n + 1) h2 → HN h2 → Core Γ w h2 (kc + 1) (ks + 6) Q 2070 (LSt i) []) : Core Γ w h kc ks Q 1650 (LSt i) [] := by
  obtain ⟨r, h1, h2, e1, e2, hI2⟩ := m_idle hI (xi xs (i + 1).toNat)
  have hH2 : HN h2 := by
    unfold HN
    rw [fr_XX12_idle e2 40 12 (by first | omega | exact fun hh => hh), fr_XX11_idle e1 40 12 (by first | omega | exact fun hh => hh)]; exact hH
  have hk : kc ≤ room_1.cells ∧ ks ≤ room_1.slots := ⟨Nat.le_of_succ_le hk.1, Nat.le_trans (Nat.le_add_right _ _) hk.2⟩
  refine Co_aload_n (kk := 3) g dL_law_1650 rfl rfl ?_
  refine Co_aload_n (kk := 4) g dL_law_1651 rfl rfl ?_
  refine Co_iload (kk := 0) g dL_law_1652 rfl ?_
  refine Co_iconst g dL_law_1654 ⟨by decide, by decide⟩ ?_
  refine Co_iadd g dL_law_1655 ⟨by omega, by omega⟩ ?_
  refine Co_sld g gl dL_law_1656 (by omega) (by omega) ?_
  refine Lw_callV (As := [vI (xi xs (i + 1).toNat)]) g dL_law_1657 (sX11_idle hw _ _) e1 rfl (at_16 hw) rfl im_X11_idle se_X11_idle cw_X11_idle ml_Law_180 ini_GP nd_X11_idle ⟨by decide, by decide⟩ hk (Nat.le_of_ble_eq_true rfl) ?_
  refine Co_aload_n (kk := 2) g dL_law_1660 rfl rfl ?_
  refine Co_aload_n (kk := 4) g dL_law_1661 rfl rfl ?_
  refine Co_iload (kk := 0) g dL_law_1662 rfl ?_
  refine Co_iconst g dL_law_1664 ⟨by decide, by decide⟩ ?_
  refine Co_iadd g dL_law_1665 ⟨by omega, by omega⟩ ?_
  refine Co_sld g gl dL_law_1666 (by omega) (by omega) ?_
  refine Lw_callV (As := [vI (xi xs (i + 1).toNat)]) g dL_law_1667 (sX12_idle hm _ _) e2 rfl (at_143 hm) rfl im_X12_idle se_X12_idle cw_X12_idle ml_Law_183 ini_Mod nd_X12_idle ⟨by decide, by decide⟩ hk (Nat.le_of_ble_eq_true rfl) ?_
  refine Co_icmp_eq (tgt := 2070) g dL_law_1670 (by decide) (fun _ => ?_) (fun z => absurd rfl z)
  exact Co_widen (Nat.le_succ _) (Nat.le_add_right _ _) (k h2 hI2 hH2)
theorem law_c37 {Γ : Cx} {rt : Option FieldType} (g : Gd Γ code 8 "GatePatchLaw" rt room_1) {sa : Nat → Nat} (gx : GX Γ sa) {L : Nat} {xs : Nat → Int32} (gl : LX Γ L xs) (hL : L ≤ 3072) {w : Wd} (hw : okX w) (hm : okM w) (ho : At w 206 (2, 1, 1)) {n : Nat} {h : Hp} (hI : Inv n h) (hH : HN h) (hn : n ≤ 1000) {i : Int} (hi : 0 ≤ i ∧ i + 6 ≤ L) {kc ks : Nat} (hk : kc + 1 ≤ room_1.cells ∧ ks + 6 ≤ room_1.slots) {Q : State → Prop} (k : ∀ h2, Inv (n + 1) h2 → HN h2 → Core Γ w h2 (kc + 1) (ks + 6) Q 2070 (LSt i) []) : Core Γ w h kc ks Q 1675 (LSt i) [] := by
  obtain ⟨r, h1, h2, e1, e2, hI2⟩ := m_tape hI hn (xi xs (i + 1).toNat) (xi xs (i + 2).toNat) (xi xs (i + 3).toNat)
  have hH2 : HN h2 := by
    unfold HN
    rw [fr_XX12_tape e2 40 12 (by first | omega | exact fun hh => hh), fr_XX11_tape e1 40 12 (by first | omega | exact fun hh => hh)]; exact hH
  have hk : kc ≤ room_1.cells ∧ ks ≤ room_1.slots := ⟨Nat.le_of_succ_le hk.1, Nat.le_trans (Nat.le_add_right _ _) hk.2⟩
  refine Co_aload_n (kk := 3) g dL_law_1675 rfl rfl ?_
  refine Co_aload_n (kk := 4) g dL_law_1676 rfl rfl ?_
  refine Co_iload (kk := 0) g dL_law_1677 rfl ?_
  refine Co_iconst g dL_law_1679 ⟨by decide, by decide⟩ ?_
  refine Co_iadd g dL_law_1680 ⟨by omega, by omega⟩ ?_
  refine Co_sld g gl dL_law_1681 (by omega) (by omega) ?_
  refine Co_aload_n (kk := 4) g dL_law_1682 rfl rfl ?_
  refine Co_iload (kk := 0) g dL_law_1683 rfl ?_
  refine Co_iconst g dL_law_1685 ⟨by decide, by decide⟩ ?_
  refine Co_iadd g dL_law_1686 ⟨by omega, by omega⟩ ?_
  refine Co_sld g gl dL_law_1687 (by omega) (by omega) ?_
  refine Co_aload_n (kk := 4) g dL_law_1688 rfl rfl ?_
  refine Co_iload (kk := 0) g dL_law_1689 rfl ?_
  refine Co_iconst g dL_law_1691 ⟨by decide, by decide⟩ ?_
  refine Co_iadd g dL_law_1692 ⟨by omega, by omega⟩ ?_
  refine Co_sld g gl dL_law_1693 (by omega) (by omega) ?_
  refine Lw_callV (As := [vI (xi xs (i + 1).toNat), vI (xi xs (i + 2).toNat), vI (xi xs (i + 3).toNat)]) g dL_law_1694 (sX11_tape hw _ _ _ _) e1 rfl (at_16 hw) rfl im_X11_tape se_X11_tape cw_X11_tape ml_Law_184 ini_GP nd_X11_tape ⟨by decide, by decide⟩ hk (Nat.le_of_ble_eq_true rfl) ?_
  refine Co_aload_n (kk := 2) g dL_law_1697 rfl rfl ?_
  refine Co_aload_n (kk := 4) g dL_law_1698 rfl rfl ?_
  refine Co_iload (kk := 0) g dL_law_1699 rfl ?_
  refine Co_iconst g dL_law_1701 ⟨by decide, by decide⟩ ?_
  refine Co_iadd g dL_law_1702 ⟨by omega, by omega⟩ ?_
  refine Co_sld g gl dL_law_1703 (by omega) (by omega) ?_
  refine Co_aload_n (kk := 4) g dL_law_1704 rfl rfl ?_
  refine Co_iload (kk := 0) g dL_law_1705 rfl ?_
  refine Co_iconst g dL_law_1707 ⟨by decide, by decide⟩ ?_
  refine Co_iadd g dL_law_1708 ⟨by omega, by omega⟩ ?_
  refine Co_sld g gl dL_law_1709 (by omega) (by omega) ?_
  refine Co_aload_n (kk := 4) g dL_law_1710 rfl rfl ?_
  refine Co_iload (kk := 0) g dL_law_1711 rfl ?_
  refine Co_iconst g dL_law_1713 ⟨by decide, by decide⟩ ?_
  refine Co_iadd g dL_law_1714 ⟨by omega, by omega⟩ ?_
  refine Co_sld g gl dL_law_1715 (by omega) (by omega) ?_
  refine Lw_callV (As := [vI (xi xs (i + 1).toNat), vI (xi xs (i + 2).toNat), vI (xi xs (i + 3).toNat)]) g dL_law_1716 (sX12_tape hm _ _ _ _) e2 rfl (at_143 hm) rfl im_X12_tape se_X12_tape cw_X12_tape ml_Law_187 ini_Mod nd_X12_tape ⟨by decide, by decide⟩ hk (Nat.le_of_ble_eq_true rfl) ?_
  refine Co_icmp_eq (tgt := 2070) g dL_law_1719 (by decide) (fun _ => ?_) (fun z => absurd rfl z)
  exact Co_widen (Nat.le_succ _) (Nat.le_add_right _ _) (k h2 hI2 hH2)
theorem law_c38 {Γ : Cx} {rt : Option FieldType} (g : Gd Γ code 8 "GatePatchLaw" rt room_1) {sa : Nat → Nat} (gx : GX Γ sa) {L : Nat} {xs : Nat → Int32} (gl : LX Γ L xs) (hL : L ≤ 3072) {w : Wd} (hw : okX w) (hm : okM w) (ho : At w 206 (2, 1, 1)) {n : Nat} {h : Hp} (hI : Inv n h) (hH : HN h) (hn : n ≤ 1000) {i : Int} (hi : 0 ≤ i ∧ i + 6 ≤ L) {kc ks : Nat} (hk : kc + 1 ≤ room_1.cells ∧ ks + 6 ≤ room_1.slots) {Q : State → Prop} (k : ∀ h2, Inv (n + 1) h2 → HN h2 → Core Γ w h2 (kc + 1) (ks + 6) Q 2070 (LSt i) []) : Core Γ w h kc ks Q 1724 (LSt i) [] := by
  obtain ⟨r, h1, h2, e1, e2, hI2⟩ := m_image hI (xi xs (i + 1).toNat)
  have hH2 : HN h2 := by
    unfold HN
    rw [fr_XX12_image e2 40 12 (by first | omega | exact fun hh => hh), fr_XX11_image e1 40 12 (by first | omega | exact fun hh => hh)]; exact hH
  have hk : kc ≤ room_1.cells ∧ ks ≤ room_1.slots := ⟨Nat.le_of_succ_le hk.1, Nat.le_trans (Nat.le_add_right _ _) hk.2⟩
  refine Co_aload_n (kk := 3) g dL_law_1724 rfl rfl ?_
  refine Co_aload_n (kk := 4) g dL_law_1725 rfl rfl ?_
  refine Co_iload (kk := 0) g dL_law_1726 rfl ?_
  refine Co_iconst g dL_law_1728 ⟨by decide, by decide⟩ ?_
  refine Co_iadd g dL_law_1729 ⟨by omega, by omega⟩ ?_
  refine Co_sld g gl dL_law_1730 (by omega) (by omega) ?_
  refine Lw_callV (As := [vI (xi xs (i + 1).toNat)]) g dL_law_1731 (sX11_image hw _ _) e1 rfl (at_16 hw) rfl im_X11_image se_X11_image cw_X11_image ml_Law_188 ini_GP nd_X11_image ⟨by decide, by decide⟩ hk (Nat.le_of_ble_eq_true rfl) ?_
  refine Co_aload_n (kk := 2) g dL_law_1734 rfl rfl ?_
  refine Co_aload_n (kk := 4) g dL_law_1735 rfl rfl ?_
  refine Co_iload (kk := 0) g dL_law_1736 rfl ?_
  refine Co_iconst g dL_law_1738 ⟨by decide, by decide⟩ ?_
  refine Co_iadd g dL_law_1739 ⟨by omega, by omega⟩ ?_
  refine Co_sld g gl dL_law_1740 (by omega) (by omega) ?_
  refine Lw_callV (As := [vI (xi xs (i + 1).toNat)]) g dL_law_1741 (sX12_image hm _ _) e2 rfl (at_143 hm) rfl im_X12_image se_X12_image cw_X12_image ml_Law_191 ini_Mod nd_X12_image ⟨by decide, by decide⟩ hk (Nat.le_of_ble_eq_true rfl) ?_
  refine Co_icmp_eq (tgt := 2070) g dL_law_1744 (by decide) (fun _ => ?_) (fun z => absurd rfl z)
  exact Co_widen (Nat.le_succ _) (Nat.le_add_right _ _) (k h2 hI2 hH2)
theorem law_c39 {Γ : Cx} {rt : Option FieldType} (g : Gd Γ code 8 "GatePatchLaw" rt room_1) {sa : Nat → Nat} (gx : GX Γ sa) {L : Nat} {xs : Nat → Int32} (gl : LX Γ L xs) (hL : L ≤ 3072) {w : Wd} (hw : okX w) (hm : okM w) (ho : At w 206 (2, 1, 1)) {n : Nat} {h : Hp} (hI : Inv n h) (hH : HN h) (hn : n ≤ 1000) {i : Int} (hi : 0 ≤ i ∧ i + 6 ≤ L) {kc ks : Nat} (hk : kc + 1 ≤ room_1.cells ∧ ks + 6 ≤ room_1.slots) {Q : State → Prop} (k : ∀ h2, Inv (n + 1) h2 → HN h2 → Core Γ w h2 (kc + 1) (ks + 6) Q 2070 (LSt i) []) : Core Γ w h kc ks Q 1749 (LSt i) [] := by
  obtain ⟨r, h1, h2, e1, e2, hI2⟩ := m_back hI hn (xi xs (i + 1).toNat)
  have hH2 : HN h2 := by
    unfold HN
    rw [fr_XX12_back e2 40 12 (by first | omega | exact fun hh => hh), fr_XX11_back e1 40 12 (by first | omega | exact fun hh => hh)]; exact hH
  have hk : kc ≤ room_1.cells ∧ ks ≤ room_1.slots := ⟨Nat.le_of_succ_le hk.1, Nat.le_trans (Nat.le_add_right _ _) hk.2⟩
  refine Co_aload_n (kk := 3) g dL_law_1749 rfl rfl ?_
  refine Co_aload_n (kk := 4) g dL_law_1750 rfl rfl ?_
  refine Co_iload (kk := 0) g dL_law_1751 rfl ?_
  refine Co_iconst g dL_law_1753 ⟨by decide, by decide⟩ ?_
  refine Co_iadd g dL_law_1754 ⟨by omega, by omega⟩ ?_
  refine Co_sld g gl dL_law_1755 (by omega) (by omega) ?_
  refine Lw_callV (As := [vI (xi xs (i + 1).toNat)]) g dL_law_1756 (sX11_back hw _ _) e1 rfl (at_16 hw) rfl im_X11_back se_X11_back cw_X11_back ml_Law_192 ini_GP nd_X11_back ⟨by decide, by decide⟩ hk (Nat.le_of_ble_eq_true rfl) ?_
  refine Co_aload_n (kk := 2) g dL_law_1759 rfl rfl ?_
  refine Co_aload_n (kk := 4) g dL_law_1760 rfl rfl ?_
  refine Co_iload (kk := 0) g dL_law_1761 rfl ?_
  refine Co_iconst g dL_law_1763 ⟨by decide, by decide⟩ ?_
  refine Co_iadd g dL_law_1764 ⟨by omega, by omega⟩ ?_
  refine Co_sld g gl dL_law_1765 (by omega) (by omega) ?_
  refine Lw_callV (As := [vI (xi xs (i + 1).toNat)]) g dL_law_1766 (sX12_back hm _ _) e2 rfl (at_143 hm) rfl im_X12_back se_X12_back cw_X12_back ml_Law_195 ini_Mod nd_X12_back ⟨by decide, by decide⟩ hk (Nat.le_of_ble_eq_true rfl) ?_
  refine Co_icmp_eq (tgt := 2070) g dL_law_1769 (by decide) (fun _ => ?_) (fun z => absurd rfl z)
  exact Co_widen (Nat.le_succ _) (Nat.le_add_right _ _) (k h2 hI2 hH2)
theorem law_c40 {Γ : Cx} {rt : Option FieldType} (g : Gd Γ code 8 "GatePatchLaw" rt room_1) {sa : Nat → Nat} (gx : GX Γ sa) {L : Nat} {xs : Nat → Int32} (gl : LX Γ L xs) (hL : L ≤ 3072) {w : Wd} (hw : okX w) (hm : okM w) (ho : At w 206 (2, 1, 1)) {n : Nat} {h : Hp} (hI : Inv n h) (hH : HN h) (hn : n ≤ 1000) {i : Int} (hi : 0 ≤ i ∧ i + 6 ≤ L) {kc ks : Nat} (hk : kc + 1 ≤ room_1.cells ∧ ks + 6 ≤ room_1.slots) {Q : State → Prop} (k : ∀ h2, Inv (n + 1) h2 → HN h2 → Core Γ w h2 (kc + 1) (ks + 6) Q 2070 (LSt i) []) : Core Γ w h kc ks Q 1774 (LSt i) [] := by
  obtain ⟨r, h1, h2, e1, e2, hI2⟩ := m_toss hI hn (xi xs (i + 1).toNat)
  have hH2 : HN h2 := by
    unfold HN
    rw [fr_XX12_toss e2 40 12 (by first | omega | exact fun hh => hh), fr_XX11_toss e1 40 12 (by first | omega | exact fun hh => hh)]; exact hH
  have hk : kc ≤ room_1.cells ∧ ks ≤ room_1.slots := ⟨Nat.le_of_succ_le hk.1, Nat.le_trans (Nat.le_add_right _ _) hk.2⟩
  refine Co_aload_n (kk := 3) g dL_law_1774 rfl rfl ?_
  refine Co_aload_n (kk := 4) g dL_law_1775 rfl rfl ?_
  refine Co_iload (kk := 0) g dL_law_1776 rfl ?_
  refine Co_iconst g dL_law_1778 ⟨by decide, by decide⟩ ?_
  refine Co_iadd g dL_law_1779 ⟨by omega, by omega⟩ ?_
  refine Co_sld g gl dL_law_1780 (by omega) (by omega) ?_
  refine Lw_callV (As := [vI (xi xs (i + 1).toNat)]) g dL_law_1781 (sX11_toss hw _ _) e1 rfl (at_16 hw) rfl im_X11_toss se_X11_toss cw_X11_toss ml_Law_196 ini_GP nd_X11_toss ⟨by decide, by decide⟩ hk (Nat.le_of_ble_eq_true rfl) ?_
  refine Co_aload_n (kk := 2) g dL_law_1784 rfl rfl ?_
  refine Co_aload_n (kk := 4) g dL_law_1785 rfl rfl ?_
  refine Co_iload (kk := 0) g dL_law_1786 rfl ?_
  refine Co_iconst g dL_law_1788 ⟨by decide, by decide⟩ ?_
  refine Co_iadd g dL_law_1789 ⟨by omega, by omega⟩ ?_
  refine Co_sld g gl dL_law_1790 (by omega) (by omega) ?_
  refine Lw_callV (As := [vI (xi xs (i + 1).toNat)]) g dL_law_1791 (sX12_toss hm _ _) e2 rfl (at_143 hm) rfl im_X12_toss se_X12_toss cw_X12_toss ml_Law_199 ini_Mod nd_X12_toss ⟨by decide, by decide⟩ hk (Nat.le_of_ble_eq_true rfl) ?_
  refine Co_icmp_eq (tgt := 2070) g dL_law_1794 (by decide) (fun _ => ?_) (fun z => absurd rfl z)
  exact Co_widen (Nat.le_succ _) (Nat.le_add_right _ _) (k h2 hI2 hH2)
theorem law_c41 {Γ : Cx} {rt : Option FieldType} (g : Gd Γ code 8 "GatePatchLaw" rt room_1) {sa : Nat → Nat} (gx : GX Γ sa) {L : Nat} {xs : Nat → Int32} (gl : LX Γ L xs) (hL : L ≤ 3072) {w : Wd} (hw : okX w) (hm : okM w) (ho : At w 206 (2, 1, 1)) {n : Nat} {h : Hp} (hI : Inv n h) (hH : HN h) (hn : n ≤ 1000) {i : Int} (hi : 0 ≤ i ∧ i + 6 ≤ L) {kc ks : Nat} (hk : kc + 1 ≤ room_1.cells ∧ ks + 6 ≤ room_1.slots) {Q : State → Prop} (k : ∀ h2, Inv (n + 1) h2 → HN h2 → Core Γ w h2 (kc + 1) (ks + 6) Q 2070 (LSt i) []) : Core Γ w h kc ks Q 1799 (LSt i) [] := by
  obtain ⟨r, h1, h2, e1, e2, hI2⟩ := m_clear hI (xi xs (i + 1).toNat)
  have hH2 : HN h2 := by
    unfold HN
    rw [fr_XX12_clear e2 40 12 (by first | omega | exact fun hh => hh), fr_XX11_clear e1 40 12 (by first | omega | exact fun hh => hh)]; exact hH
  have hk : kc ≤ room_1.cells ∧ ks ≤ room_1.slots := ⟨Nat.le_of_succ_le hk.1, Nat.le_trans (Nat.le_add_right _ _) hk.2⟩
  refine Co_aload_n (kk := 3) g dL_law_1799 rfl rfl ?_
  refine Co_aload_n (kk := 4) g dL_law_1800 rfl rfl ?_
  refine Co_iload (kk := 0) g dL_law_1801 rfl ?_
  refine Co_iconst g dL_law_1803 ⟨by decide, by decide⟩ ?_
  refine Co_iadd g dL_law_1804 ⟨by omega, by omega⟩ ?_
  refine Co_sld g gl dL_law_1805 (by omega) (by omega) ?_
  refine Lw_callV (As := [vI (xi xs (i + 1).toNat)]) g dL_law_1806 (sX11_clear hw _ _) e1 rfl (at_16 hw) rfl im_X11_clear se_X11_clear cw_X11_clear ml_Law_200 ini_GP nd_X11_clear ⟨by decide, by decide⟩ hk (Nat.le_of_ble_eq_true rfl) ?_
  refine Co_aload_n (kk := 2) g dL_law_1809 rfl rfl ?_
  refine Co_aload_n (kk := 4) g dL_law_1810 rfl rfl ?_
  refine Co_iload (kk := 0) g dL_law_1811 rfl ?_
  refine Co_iconst g dL_law_1813 ⟨by decide, by decide⟩ ?_
  refine Co_iadd g dL_law_1814 ⟨by omega, by omega⟩ ?_
  refine Co_sld g gl dL_law_1815 (by omega) (by omega) ?_
  refine Lw_callV (As := [vI (xi xs (i + 1).toNat)]) g dL_law_1816 (sX12_clear hm _ _) e2 rfl (at_143 hm) rfl im_X12_clear se_X12_clear cw_X12_clear ml_Law_203 ini_Mod nd_X12_clear ⟨by decide, by decide⟩ hk (Nat.le_of_ble_eq_true rfl) ?_
  refine Co_icmp_eq (tgt := 2070) g dL_law_1819 (by decide) (fun _ => ?_) (fun z => absurd rfl z)
  exact Co_widen (Nat.le_succ _) (Nat.le_add_right _ _) (k h2 hI2 hH2)
theorem law_c42 {Γ : Cx} {rt : Option FieldType} (g : Gd Γ code 8 "GatePatchLaw" rt room_1) {sa : Nat → Nat} (gx : GX Γ sa) {L : Nat} {xs : Nat → Int32} (gl : LX Γ L xs) (hL : L ≤ 3072) {w : Wd} (hw : okX w) (hm : okM w) (ho : At w 206 (2, 1, 1)) {n : Nat} {h : Hp} (hI : Inv n h) (hH : HN h) (hn : n ≤ 1000) {i : Int} (hi : 0 ≤ i ∧ i + 6 ≤ L) {kc ks : Nat} (hk : kc + 1 ≤ room_1.cells ∧ ks + 6 ≤ room_1.slots) {Q : State → Prop} (k : ∀ h2, Inv (n + 1) h2 → HN h2 → Core Γ w h2 (kc + 1) (ks + 6) Q 2070 (LSt i) []) : Core Γ w h kc ks Q 1824 (LSt i) [] := by
  obtain ⟨r, h1, h2, e1, e2, hI2⟩ := m_put hI hn (xi xs (i + 1).toNat) (xi xs (i + 2).toNat) (jor (jshl (xi xs (i + 3).toNat) 32) (jand (xi xs (i + 4).toNat) 4294967295))
  have hH2 : HN h2 := by
    unfold HN
    rw [fr_XX12_put e2 40 12 (by first | omega | exact fun hh => hh), fr_XX11_put e1 40 12 (by first | omega | exact fun hh => hh)]; exact hH
  have hk : kc ≤ room_1.cells ∧ ks ≤ room_1.slots := ⟨Nat.le_of_succ_le hk.1, Nat.le_trans (Nat.le_add_right _ _) hk.2⟩
  refine Co_aload_n (kk := 3) g dL_law_1824 rfl rfl ?_
  refine Co_aload_n (kk := 4) g dL_law_1825 rfl rfl ?_
  refine Co_iload (kk := 0) g dL_law_1826 rfl ?_
  refine Co_iconst g dL_law_1828 ⟨by decide, by decide⟩ ?_
  refine Co_iadd g dL_law_1829 ⟨by omega, by omega⟩ ?_
  refine Co_sld g gl dL_law_1830 (by omega) (by omega) ?_
  refine Co_aload_n (kk := 4) g dL_law_1831 rfl rfl ?_
  refine Co_iload (kk := 0) g dL_law_1832 rfl ?_
  refine Co_iconst g dL_law_1834 ⟨by decide, by decide⟩ ?_
  refine Co_iadd g dL_law_1835 ⟨by omega, by omega⟩ ?_
  refine Co_sld g gl dL_law_1836 (by omega) (by omega) ?_
  refine Co_aload_n (kk := 4) g dL_law_1837 rfl rfl ?_
  refine Co_iload (kk := 0) g dL_law_1838 rfl ?_
  refine Co_iconst g dL_law_1840 ⟨by decide, by decide⟩ ?_
  refine Co_iadd g dL_law_1841 ⟨by omega, by omega⟩ ?_
  refine Co_sld g gl dL_law_1842 (by omega) (by omega) ?_
  refine Co_i2l g dL_law_1843 ?_
  refine Co_bipush g dL_law_1844 ⟨by decide, by decide⟩ rfl ?_
  refine Co_lshl g dL_law_1846 ?_
  refine Co_aload_n (kk := 4) g dL_law_1847 rfl rfl ?_
  refine Co_iload (kk := 0) g dL_law_1848 rfl ?_
  refine Co_iconst g dL_law_1850 ⟨by decide, by decide⟩ ?_
  refine Co_iadd g dL_law_1851 ⟨by omega, by omega⟩ ?_
  refine Co_sld g gl dL_law_1852 (by omega) (by omega) ?_
  refine Co_i2l g dL_law_1853 ?_
  refine Co_ldc2 g dL_law_1854 ⟨by decide, by decide⟩ k_Law_204 ?_
  refine Co_land g dL_law_1857 ?_
  refine Co_lor g dL_law_1858 ?_
  refine Lw_callV (As := [vI (xi xs (i + 1).toNat), vI (xi xs (i + 2).toNat), vJ (jor (jshl (xi xs (i + 3).toNat) 32) (jand (xi xs (i + 4).toNat) 4294967295))]) g dL_law_1859 (sX11_put hw _ _ _ _) e1 rfl (at_16 hw) rfl im_X11_put se_X11_put cw_X11_put ml_Law_206 ini_GP nd_X11_put ⟨by decide, by decide⟩ hk (Nat.le_of_ble_eq_true rfl) ?_
  refine Co_aload_n (kk := 2) g dL_law_1862 rfl rfl ?_
  refine Co_aload_n (kk := 4) g dL_law_1863 rfl rfl ?_
  refine Co_iload (kk := 0) g dL_law_1864 rfl ?_
  refine Co_iconst g dL_law_1866 ⟨by decide, by decide⟩ ?_
  refine Co_iadd g dL_law_1867 ⟨by omega, by omega⟩ ?_
  refine Co_sld g gl dL_law_1868 (by omega) (by omega) ?_
  refine Co_aload_n (kk := 4) g dL_law_1869 rfl rfl ?_
  refine Co_iload (kk := 0) g dL_law_1870 rfl ?_
  refine Co_iconst g dL_law_1872 ⟨by decide, by decide⟩ ?_
  refine Co_iadd g dL_law_1873 ⟨by omega, by omega⟩ ?_
  refine Co_sld g gl dL_law_1874 (by omega) (by omega) ?_
  refine Co_aload_n (kk := 4) g dL_law_1875 rfl rfl ?_
  refine Co_iload (kk := 0) g dL_law_1876 rfl ?_
  refine Co_iconst g dL_law_1878 ⟨by decide, by decide⟩ ?_
  refine Co_iadd g dL_law_1879 ⟨by omega, by omega⟩ ?_
  refine Co_sld g gl dL_law_1880 (by omega) (by omega) ?_
  refine Co_i2l g dL_law_1881 ?_
  refine Co_bipush g dL_law_1882 ⟨by decide, by decide⟩ rfl ?_
  refine Co_lshl g dL_law_1884 ?_
  refine Co_aload_n (kk := 4) g dL_law_1885 rfl rfl ?_
  refine Co_iload (kk := 0) g dL_law_1886 rfl ?_
  refine Co_iconst g dL_law_1888 ⟨by decide, by decide⟩ ?_
  refine Co_iadd g dL_law_1889 ⟨by omega, by omega⟩ ?_
  refine Co_sld g gl dL_law_1890 (by omega) (by omega) ?_
  refine Co_i2l g dL_law_1891 ?_
  refine Co_ldc2 g dL_law_1892 ⟨by decide, by decide⟩ k_Law_204 ?_
  refine Co_land g dL_law_1895 ?_
  refine Co_lor g dL_law_1896 ?_
  refine Lw_callV (As := [vI (xi xs (i + 1).toNat), vI (xi xs (i + 2).toNat), vJ (jor (jshl (xi xs (i + 3).toNat) 32) (jand (xi xs (i + 4).toNat) 4294967295))]) g dL_law_1897 (sX12_put hm _ _ _ _) e2 rfl (at_143 hm) rfl im_X12_put se_X12_put cw_X12_put ml_Law_210 ini_Mod nd_X12_put ⟨by decide, by decide⟩ hk (Nat.le_of_ble_eq_true rfl) ?_
  refine Co_icmp_eq (tgt := 2070) g dL_law_1900 (by decide) (fun _ => ?_) (fun z => absurd rfl z)
  exact Co_widen (Nat.le_succ _) (Nat.le_add_right _ _) (k h2 hI2 hH2)
theorem law_c43 {Γ : Cx} {rt : Option FieldType} (g : Gd Γ code 8 "GatePatchLaw" rt room_1) {sa : Nat → Nat} (gx : GX Γ sa) {L : Nat} {xs : Nat → Int32} (gl : LX Γ L xs) (hL : L ≤ 3072) {w : Wd} (hw : okX w) (hm : okM w) (ho : At w 206 (2, 1, 1)) {n : Nat} {h : Hp} (hI : Inv n h) (hH : HN h) (hn : n ≤ 1000) {i : Int} (hi : 0 ≤ i ∧ i + 6 ≤ L) {kc ks : Nat} (hk : kc + 1 ≤ room_1.cells ∧ ks + 6 ≤ room_1.slots) {Q : State → Prop} (k : ∀ h2, Inv (n + 1) h2 → HN h2 → Core Γ w h2 (kc + 1) (ks + 6) Q 2070 (LSt i) []) : Core Γ w h kc ks Q 1905 (LSt i) [] := by
  refine Core_ok (fun okh => ?_)
  have hj : ∀ d, d < 6 → ∀ i, i < 256 → inJ (h (101 + 7 * d + 1) i) := tape_in hw okh
  obtain ⟨r, h1, e1, hr, hu⟩ := u_at hI hj (xi xs (i + 1).toNat) (xi xs (i + 2).toNat)
  obtain ⟨h1', c, hc, hg⟩ : ∃ (h1' : Hp) (c : Int), ((r = TH1 ∧ h1' = h1 ∧ c = 1) ∨ (r = TH2 ∧ h1' = h1 ∧ c = 2) ∨ (inJ r ∧ h1' = wr h1 206 0 r ∧ c = 0)) ∧ ∀ a i, a ≠ 206 → h1' a i = h1 a i := by
    rcases hr with z | z | z
    · exact ⟨h1, 1, Or.inl ⟨z, rfl, rfl⟩, fun _ _ _ => rfl⟩
    · exact ⟨h1, 2, Or.inr (Or.inl ⟨z.2, rfl, rfl⟩), fun _ _ _ => rfl⟩
    · exact ⟨_, 0, Or.inr (Or.inr ⟨z, rfl, rfl⟩), fun a i hh => wq_ne (fun u => hh u.1)⟩
  obtain ⟨v, h2, e2, hI2, hv⟩ := hu h1' hg
  have f203 : h2 206 0 = h1' 206 0 := fr_XX12_at e2 206 0 (by omega)
  have ec : h2 143 0 = c := by
    rcases hv with z | z | z <;> rcases hc with y | y | y
    · rw [z.2, y.2.2]
    · exact absurd (z.1.symm.trans y.1) TH12
    · exact absurd z.1 (TH_ne y.1).1
    · exact absurd (y.1.symm.trans z.2.1) TH12
    · rw [z.2.2, y.2.2]
    · exact absurd z.2.1 (TH_ne y.1).2
    · exact absurd y.1 (TH_ne z.1).1
    · exact absurd y.1 (TH_ne z.1).2
    · rw [z.2.2, y.2.2]
  have ez : c = 0 → jcmp (h2 206 0) v = 0 := fun cz => by
    rcases hc with y | y | y
    · rw [y.2.2] at cz; cases cz
    · rw [y.2.2] at cz; cases cz
    · rcases hv with z | z | z
      · exact absurd z.1 (TH_ne y.1).1
      · exact absurd z.2.1 (TH_ne y.1).2
      · rw [f203, y.2.1, wr_at, z.2.1]; exact jcmp0.mpr rfl
  have hH2 : HN h2 := by
    unfold HN
    rw [fr_XX12_at e2 40 12 (by omega), hg 40 12 (by omega), hn_at e1]; exact hH
  have hl := GX_l gx
  have hk2 : kc + 1 ≤ room_1.cells ∧ ks + 6 ≤ room_1.slots := hk
  refine Co_aload_n (kk := 3) g dL_law_1905 rfl rfl ?_
  refine Co_aload_n (kk := 4) g dL_law_1906 rfl rfl ?_
  refine Co_iload (kk := 0) g dL_law_1907 rfl ?_
  refine Co_iconst g dL_law_1909 ⟨by decide, by decide⟩ ?_
  refine Co_iadd g dL_law_1910 ⟨by omega, by omega⟩ ?_
  refine Co_sld g gl dL_law_1911 (by omega) (by omega) ?_
  refine Co_aload_n (kk := 4) g dL_law_1912 rfl rfl ?_
  refine Co_iload (kk := 0) g dL_law_1913 rfl ?_
  refine Co_iconst g dL_law_1915 ⟨by decide, by decide⟩ ?_
  refine Co_iadd g dL_law_1916 ⟨by omega, by omega⟩ ?_
  refine Co_sld g gl dL_law_1917 (by omega) (by omega) ?_
  refine Co_aload_n (kk := 1) g dL_law_1918 rfl rfl ?_
  refine Co_callSW (As := [vP 16, vI (xi xs (i + 1).toNat), vI (xi xs (i + 2).toNat), vP 206]) g gx dL_law_1919 (cw9_at hl hw ho _ _ _ e1 hc) rfl st_L_at cw_L_at ml_Law_211 ini_Law nd_L_at ⟨Nat.le_of_ble_eq_true rfl, Nat.le_of_ble_eq_true rfl⟩ hk (Nat.le_of_ble_eq_true rfl) ?_
  refine Co_istore g dL_law_1922 (by decide) rfl ?_
  refine Co_aload_n (kk := 3) g dL_law_1924 rfl rfl ?_
  refine Co_aload_n (kk := 5) g dL_law_1925 rfl rfl ?_
  refine Co_iload (kk := 1) g dL_law_1926 rfl ?_
  refine Co_iconst g dL_law_1928 ⟨by decide, by decide⟩ ?_
  refine Co_iadd g dL_law_1929 ⟨by omega, by omega⟩ ?_
  refine Co_sld g gl dL_law_1930 (by omega) (by omega) ?_
  refine Co_aload_n (kk := 5) g dL_law_1931 rfl rfl ?_
  refine Co_iload (kk := 1) g dL_law_1932 rfl ?_
  refine Co_iconst g dL_law_1934 ⟨by decide, by decide⟩ ?_
  refine Co_iadd g dL_law_1935 ⟨by omega, by omega⟩ ?_
  refine Co_sld g gl dL_law_1936 (by omega) (by omega) ?_
  refine Lw_callV (As := [vI (xi xs (i + 1).toNat), vI (xi xs (i + 2).toNat)]) g dL_law_1937 (sX12_at hm _ _ _) e2 rfl (at_143 hm) rfl im_X12_at se_X12_at cw_X12_at ml_Law_214 ini_Mod nd_X12_at ⟨by decide, by decide⟩ hk2 (Nat.le_of_ble_eq_true rfl) ?_
  refine Co_lstore g dL_law_1940 (by decide) rfl ?_
  refine Co_aload_n (kk := 4) g dL_law_1942 rfl rfl ?_
  refine Lw_callV (As := []) g dL_law_1943 (sX12_thrown hm  _) rfl rfl (at_143 hm) rfl im_X12_thrown se_X12_thrown cw_X12_thrown ml_Law_63 ini_Mod nd_X12_thrown ⟨by decide, by decide⟩ hk2 (Nat.le_of_ble_eq_true rfl) ?_
  refine Co_iload (kk := 1) g dL_law_1946 rfl ?_
  refine Co_icmp_eq (tgt := 1953) g dL_law_1948 (by decide) (fun _ => ?_) (fun z => absurd ec z)
  refine Co_iload (kk := 1) g dL_law_1953 rfl ?_
  refine Co_if_ne (tgt := 1969) g dL_law_1955 (by decide) (fun _ => ?_) (fun z => ?_)
  · refine Co_goto (tgt := 2070) g dL_law_1969 (by decide) ?_
    refine Co_sub g [2, 3, 4, 5, 6] rfl ?_
    exact k h2 hI2 hH2
  have ev := ez z
  refine Co_aload_n (kk := 3) g dL_law_1958 rfl rfl ?_
  refine Co_iconst g dL_law_1959 ⟨by decide, by decide⟩ ?_
  refine Co_laload g dL_law_1960 ho (by decide) (by decide) ?_
  refine Co_lload (kk := 0) g dL_law_1961 rfl ?_
  refine Co_lcmp g dL_law_1963 ?_
  refine Co_if_eq (tgt := 1969) g dL_law_1964 (by decide) (fun _ => ?_) (fun z => absurd ev z)
  refine Co_goto (tgt := 2070) g dL_law_1969 (by decide) ?_
  refine Co_sub g [2, 3, 4, 5, 6] rfl ?_
  exact k h2 hI2 hH2
theorem law_c44 {Γ : Cx} {rt : Option FieldType} (g : Gd Γ code 8 "GatePatchLaw" rt room_1) {sa : Nat → Nat} (gx : GX Γ sa) {L : Nat} {xs : Nat → Int32} (gl : LX Γ L xs) (hL : L ≤ 3072) {w : Wd} (hw : okX w) (hm : okM w) (ho : At w 206 (2, 1, 1)) {n : Nat} {h : Hp} (hI : Inv n h) (hH : HN h) (hn : n ≤ 1000) {i : Int} (hi : 0 ≤ i ∧ i + 6 ≤ L) {kc ks : Nat} (hk : kc + 1 ≤ room_1.cells ∧ ks + 6 ≤ room_1.slots) {Q : State → Prop} (k : ∀ h2, Inv (n + 1) h2 → HN h2 → Core Γ w h2 (kc + 1) (ks + 6) Q 2070 (LSt i) []) : Core Γ w h kc ks Q 1972 (LSt i) [] := by
  obtain ⟨r, h1, h2, e1, e2, hI2⟩ := m_copy hI hn (xi xs (i + 1).toNat) (xi xs (i + 2).toNat) (xi xs (i + 3).toNat) (xi xs (i + 4).toNat) (xi xs (i + 5).toNat) (inI_t _) (inI_t _)
  have hH2 : HN h2 := by
    unfold HN
    rw [fr_XX12_copy e2 40 12 (by first | omega | exact fun hh => hh), fr_XX11_copy e1 40 12 (by first | omega | exact fun hh => hh)]; exact hH
  have hk : kc ≤ room_1.cells ∧ ks ≤ room_1.slots := ⟨Nat.le_of_succ_le hk.1, Nat.le_trans (Nat.le_add_right _ _) hk.2⟩
  refine Co_aload_n (kk := 3) g dL_law_1972 rfl rfl ?_
  refine Co_aload_n (kk := 4) g dL_law_1973 rfl rfl ?_
  refine Co_iload (kk := 0) g dL_law_1974 rfl ?_
  refine Co_iconst g dL_law_1976 ⟨by decide, by decide⟩ ?_
  refine Co_iadd g dL_law_1977 ⟨by omega, by omega⟩ ?_
  refine Co_sld g gl dL_law_1978 (by omega) (by omega) ?_
  refine Co_aload_n (kk := 4) g dL_law_1979 rfl rfl ?_
  refine Co_iload (kk := 0) g dL_law_1980 rfl ?_
  refine Co_iconst g dL_law_1982 ⟨by decide, by decide⟩ ?_
  refine Co_iadd g dL_law_1983 ⟨by omega, by omega⟩ ?_
  refine Co_sld g gl dL_law_1984 (by omega) (by omega) ?_
  refine Co_aload_n (kk := 4) g dL_law_1985 rfl rfl ?_
  refine Co_iload (kk := 0) g dL_law_1986 rfl ?_
  refine Co_iconst g dL_law_1988 ⟨by decide, by decide⟩ ?_
  refine Co_iadd g dL_law_1989 ⟨by omega, by omega⟩ ?_
  refine Co_sld g gl dL_law_1990 (by omega) (by omega) ?_
  refine Co_aload_n (kk := 4) g dL_law_1991 rfl rfl ?_
  refine Co_iload (kk := 0) g dL_law_1992 rfl ?_
  refine Co_iconst g dL_law_1994 ⟨by decide, by decide⟩ ?_
  refine Co_iadd g dL_law_1995 ⟨by omega, by omega⟩ ?_
  refine Co_sld g gl dL_law_1996 (by omega) (by omega) ?_
  refine Co_aload_n (kk := 4) g dL_law_1997 rfl rfl ?_
  refine Co_iload (kk := 0) g dL_law_1998 rfl ?_
  refine Co_iconst g dL_law_2000 ⟨by decide, by decide⟩ ?_
  refine Co_iadd g dL_law_2001 ⟨by omega, by omega⟩ ?_
  refine Co_sld g gl dL_law_2002 (by omega) (by omega) ?_
  refine Lw_callV (As := [vI (xi xs (i + 1).toNat), vI (xi xs (i + 2).toNat), vI (xi xs (i + 3).toNat), vI (xi xs (i + 4).toNat), vI (xi xs (i + 5).toNat)]) g dL_law_2003 (sX11_copy hw _ _ _ _ _ _) e1 rfl (at_16 hw) rfl im_X11_copy se_X11_copy cw_X11_copy ml_Law_215 ini_GP nd_X11_copy ⟨by decide, by decide⟩ hk (Nat.le_of_ble_eq_true rfl) ?_
  refine Co_aload_n (kk := 2) g dL_law_2006 rfl rfl ?_
  refine Co_aload_n (kk := 4) g dL_law_2007 rfl rfl ?_
  refine Co_iload (kk := 0) g dL_law_2008 rfl ?_
  refine Co_iconst g dL_law_2010 ⟨by decide, by decide⟩ ?_
  refine Co_iadd g dL_law_2011 ⟨by omega, by omega⟩ ?_
  refine Co_sld g gl dL_law_2012 (by omega) (by omega) ?_
  refine Co_aload_n (kk := 4) g dL_law_2013 rfl rfl ?_
  refine Co_iload (kk := 0) g dL_law_2014 rfl ?_
  refine Co_iconst g dL_law_2016 ⟨by decide, by decide⟩ ?_
  refine Co_iadd g dL_law_2017 ⟨by omega, by omega⟩ ?_
  refine Co_sld g gl dL_law_2018 (by omega) (by omega) ?_
  refine Co_aload_n (kk := 4) g dL_law_2019 rfl rfl ?_
  refine Co_iload (kk := 0) g dL_law_2020 rfl ?_
  refine Co_iconst g dL_law_2022 ⟨by decide, by decide⟩ ?_
  refine Co_iadd g dL_law_2023 ⟨by omega, by omega⟩ ?_
  refine Co_sld g gl dL_law_2024 (by omega) (by omega) ?_
  refine Co_aload_n (kk := 4) g dL_law_2025 rfl rfl ?_
  refine Co_iload (kk := 0) g dL_law_2026 rfl ?_
  refine Co_iconst g dL_law_2028 ⟨by decide, by decide⟩ ?_
  refine Co_iadd g dL_law_2029 ⟨by omega, by omega⟩ ?_
  refine Co_sld g gl dL_law_2030 (by omega) (by omega) ?_
  refine Co_aload_n (kk := 4) g dL_law_2031 rfl rfl ?_
  refine Co_iload (kk := 0) g dL_law_2032 rfl ?_
  refine Co_iconst g dL_law_2034 ⟨by decide, by decide⟩ ?_
  refine Co_iadd g dL_law_2035 ⟨by omega, by omega⟩ ?_
  refine Co_sld g gl dL_law_2036 (by omega) (by omega) ?_
  refine Lw_callV (As := [vI (xi xs (i + 1).toNat), vI (xi xs (i + 2).toNat), vI (xi xs (i + 3).toNat), vI (xi xs (i + 4).toNat), vI (xi xs (i + 5).toNat)]) g dL_law_2037 (sX12_copy hm _ _ _ _ _ _) e2 rfl (at_143 hm) rfl im_X12_copy se_X12_copy cw_X12_copy ml_Law_218 ini_Mod nd_X12_copy ⟨by decide, by decide⟩ hk (Nat.le_of_ble_eq_true rfl) ?_
  refine Co_icmp_eq (tgt := 2070) g dL_law_2040 (by decide) (fun _ => ?_) (fun z => absurd rfl z)
  exact Co_widen (Nat.le_succ _) (Nat.le_add_right _ _) (k h2 hI2 hH2)
theorem law_c45 {Γ : Cx} {rt : Option FieldType} (g : Gd Γ code 8 "GatePatchLaw" rt room_1) {sa : Nat → Nat} (gx : GX Γ sa) {L : Nat} {xs : Nat → Int32} (gl : LX Γ L xs) (hL : L ≤ 3072) {w : Wd} (hw : okX w) (hm : okM w) (ho : At w 206 (2, 1, 1)) {n : Nat} {h : Hp} (hI : Inv n h) (hH : HN h) (hn : n ≤ 1000) {i : Int} (hi : 0 ≤ i ∧ i + 6 ≤ L) {kc ks : Nat} (hk : kc + 1 ≤ room_1.cells ∧ ks + 6 ≤ room_1.slots) {Q : State → Prop} (k : ∀ h2, Inv (n + 1) h2 → HN h2 → Core Γ w h2 (kc + 1) (ks + 6) Q 2070 (LSt i) []) : Core Γ w h kc ks Q 2045 (LSt i) [] := by
  obtain ⟨r, h1, h2, e1, e2, hI2⟩ := m_count hI (xi xs (i + 1).toNat)
  have hH2 : HN h2 := by
    unfold HN
    rw [fr_XX12_count e2 40 12 (by first | omega | exact fun hh => hh), fr_XX11_count e1 40 12 (by first | omega | exact fun hh => hh)]; exact hH
  have hk : kc ≤ room_1.cells ∧ ks ≤ room_1.slots := ⟨Nat.le_of_succ_le hk.1, Nat.le_trans (Nat.le_add_right _ _) hk.2⟩
  refine Co_aload_n (kk := 3) g dL_law_2045 rfl rfl ?_
  refine Co_aload_n (kk := 4) g dL_law_2046 rfl rfl ?_
  refine Co_iload (kk := 0) g dL_law_2047 rfl ?_
  refine Co_iconst g dL_law_2049 ⟨by decide, by decide⟩ ?_
  refine Co_iadd g dL_law_2050 ⟨by omega, by omega⟩ ?_
  refine Co_sld g gl dL_law_2051 (by omega) (by omega) ?_
  refine Lw_callV (As := [vI (xi xs (i + 1).toNat)]) g dL_law_2052 (sX11_count hw _ _) e1 rfl (at_16 hw) rfl im_X11_count se_X11_count cw_X11_count ml_Law_219 ini_GP nd_X11_count ⟨by decide, by decide⟩ hk (Nat.le_of_ble_eq_true rfl) ?_
  refine Co_aload_n (kk := 2) g dL_law_2055 rfl rfl ?_
  refine Co_aload_n (kk := 4) g dL_law_2056 rfl rfl ?_
  refine Co_iload (kk := 0) g dL_law_2057 rfl ?_
  refine Co_iconst g dL_law_2059 ⟨by decide, by decide⟩ ?_
  refine Co_iadd g dL_law_2060 ⟨by omega, by omega⟩ ?_
  refine Co_sld g gl dL_law_2061 (by omega) (by omega) ?_
  refine Lw_callV (As := [vI (xi xs (i + 1).toNat)]) g dL_law_2062 (sX12_count hm _ _) e2 rfl (at_143 hm) rfl im_X12_count se_X12_count cw_X12_count ml_Law_222 ini_Mod nd_X12_count ⟨by decide, by decide⟩ hk (Nat.le_of_ble_eq_true rfl) ?_
  refine Co_icmp_eq (tgt := 2070) g dL_law_2065 (by decide) (fun _ => ?_) (fun z => absurd rfl z)
  exact Co_widen (Nat.le_succ _) (Nat.le_add_right _ _) (k h2 hI2 hH2)
