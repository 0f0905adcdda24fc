set_option maxRecDepth 100000 in
set_option maxHeartbeats 4000000 in
theorem ct_law_1750 {G : Gx} (hG : GOK G) {Γ : Cx} (hC : COK G Γ "BandplanLaw" cL_law 9 2048 94400 603072 7219306 []) (hE : LEND G Γ) {b N : Nat} {xs : Nat → Int32} (hX : LSCR G Γ b N xs) (px pm po pd : Nat) (i : Int32) (h0 : hw) (uc us : Nat) (J : hw → Nat → Nat → Prop) (hJ : ∀ (h1 : hw) (c1 u1 : Nat), J h1 c1 u1 → c1 ≤ 603072 → u1 ≤ 7219306 → V G Γ 9 c1 u1 h1 2279 [(0, .ref b), (1, .ref px), (2, .ref pm), (3, .ref po), (4, .ref pd), (5, .int i)] []) (hq : wp_law_1750 G N xs px pm po pd i h0 uc us J) (hu1 : uc ≤ 603072) (hu2 : us ≤ 7219306) : V G Γ 9 uc us h0 1750 [(0, .ref b), (1, .ref px), (2, .ref pm), (3, .ref po), (4, .ref pd), (5, .int i)] [] := by
  unfold wp_law_1750 at hq
  refine V_aload_n hC dL_law_1750 1 rfl ?_
  obtain ⟨hz, hq⟩ := hq
  refine clV_X11_rounds hG hC sv_L_204 ⟨by decide, by decide⟩ (Nat.le_of_ble_eq_true rfl) ⟨by omega, by omega⟩ dL_law_1751 hz hq (fun r1 hq => ?_)
  show V G Γ 9 uc us h0 1754 [(0, .ref b), (1, .ref px), (2, .ref pm), (3, .ref po), (4, .ref pd), (5, .int i)] [.int r1]
  refine V_aload_n hC dL_law_1754 2 rfl ?_
  obtain ⟨hz, hq⟩ := hq
  refine clV_X12_rounds hG hC sv_L_207 ⟨by decide, by decide⟩ (Nat.le_of_ble_eq_true rfl) ⟨by omega, by omega⟩ dL_law_1755 hz hq (fun r2 h3 hq => ?_)
  show V G Γ 9 uc us h3 1758 [(0, .ref b), (1, .ref px), (2, .ref pm), (3, .ref po), (4, .ref pd), (5, .int i)] [.int r2, .int r1]
  refine V_icmp_eq (tgt := 2279) hC dL_law_1758 (by decide) (fun hc => ?_) (fun hc => ?_)
  · have hq := hq.1 hc
    exact hJ _ _ _ hq (by omega) (by omega)
  · have hq := hq.2 hc
    refine V_iconst (v := 0) hC dL_law_1761 (by decide) ?_
    exact hq.elim
set_option maxRecDepth 100000 in
set_option maxHeartbeats 4000000 in
theorem ct_law_1763 {G : Gx} (hG : GOK G) {Γ : Cx} (hC : COK G Γ "BandplanLaw" cL_law 9 2048 94400 603072 7219306 []) (hE : LEND G Γ) {b N : Nat} {xs : Nat → Int32} (hX : LSCR G Γ b N xs) (px pm po pd : Nat) (i : Int32) (h0 : hw) (uc us : Nat) (J : hw → Nat → Nat → Prop) (hJ : ∀ (h1 : hw) (c1 u1 : Nat), J h1 c1 u1 → c1 ≤ 603072 → u1 ≤ 7219306 → V G Γ 9 c1 u1 h1 2279 [(0, .ref b), (1, .ref px), (2, .ref pm), (3, .ref po), (4, .ref pd), (5, .int i)] []) (hq : wp_law_1763 G N xs px pm po pd i h0 uc us J) (hu1 : uc ≤ 603072) (hu2 : us ≤ 7219306) : V G Γ 9 uc us h0 1763 [(0, .ref b), (1, .ref px), (2, .ref pm), (3, .ref po), (4, .ref pd), (5, .int i)] [] := by
  unfold wp_law_1763 at hq
  refine V_aload_n hC dL_law_1763 1 rfl ?_
  refine V_aload_n hC dL_law_1764 0 rfl ?_
  refine V_iload hC dL_law_1765 5 rfl ?_
  refine V_iconst (v := 1) hC dL_law_1767 (by decide) ?_
  refine V_iadd hC dL_law_1768 ?_
  obtain ⟨hz, hq⟩ := hq
  refine V_sld hC hX hz dL_law_1769 ?_
  refine V_aload_n hC dL_law_1770 0 rfl ?_
  refine V_iload hC dL_law_1771 5 rfl ?_
  refine V_iconst (v := 2) hC dL_law_1773 (by decide) ?_
  refine V_iadd hC dL_law_1774 ?_
  obtain ⟨hz, hq⟩ := hq
  refine V_sld hC hX hz dL_law_1775 ?_
  refine V_aload_n hC dL_law_1776 0 rfl ?_
  refine V_iload hC dL_law_1777 5 rfl ?_
  refine V_iconst (v := 3) hC dL_law_1779 (by decide) ?_
  refine V_iadd hC dL_law_1780 ?_
  obtain ⟨hz, hq⟩ := hq
  refine V_sld hC hX hz dL_law_1781 ?_
  refine V_aload_n hC dL_law_1782 3 rfl ?_
  obtain ⟨hz1, hz2, hq⟩ := hq
  refine clSX_L_addBidder hG hC ssx_L_208 ⟨by decide, by decide⟩ (Nat.le_of_ble_eq_true rfl) ⟨hz1, hz2⟩ dL_law_1783 hq (fun r1 h2 hq => ?_)
  show V G Γ 9 (uc + 4) (us + 24) h2 1786 [(0, .ref b), (1, .ref px), (2, .ref pm), (3, .ref po), (4, .ref pd), (5, .int i)] [.int r1]
  refine V_istore (L' := [(0, .ref b), (1, .ref px), (2, .ref pm), (3, .ref po), (4, .ref pd), (5, .int i), (6, .int r1)]) hC dL_law_1786 (by decide) [1, 2, 3, 4, 5, 6, 0] rfl ?_
  refine V_aload_n hC dL_law_1788 2 rfl ?_
  refine V_aload_n hC dL_law_1789 0 rfl ?_
  refine V_iload hC dL_law_1790 5 rfl ?_
  refine V_iconst (v := 1) hC dL_law_1792 (by decide) ?_
  refine V_iadd hC dL_law_1793 ?_
  obtain ⟨hz, hq⟩ := hq
  refine V_sld hC hX hz dL_law_1794 ?_
  refine V_aload_n hC dL_law_1795 0 rfl ?_
  refine V_iload hC dL_law_1796 5 rfl ?_
  refine V_iconst (v := 2) hC dL_law_1798 (by decide) ?_
  refine V_iadd hC dL_law_1799 ?_
  obtain ⟨hz, hq⟩ := hq
  refine V_sld hC hX hz dL_law_1800 ?_
  refine V_aload_n hC dL_law_1801 0 rfl ?_
  refine V_iload hC dL_law_1802 5 rfl ?_
  refine V_iconst (v := 3) hC dL_law_1804 (by decide) ?_
  refine V_iadd hC dL_law_1805 ?_
  obtain ⟨hz, hq⟩ := hq
  refine V_sld hC hX hz dL_law_1806 ?_
  obtain ⟨hz, hq⟩ := hq
  refine clV_X12_addBidder hG hC sv_L_210 ⟨by decide, by decide⟩ (Nat.le_of_ble_eq_true rfl) ⟨by omega, by omega⟩ dL_law_1807 hz hq (fun r3 h4 hq => ?_)
  show V G Γ 9 (uc + 4) (us + 24) h4 1810 [(0, .ref b), (1, .ref px), (2, .ref pm), (3, .ref po), (4, .ref pd), (5, .int i), (6, .int r1)] [.int r3]
  refine V_istore (L' := [(0, .ref b), (1, .ref px), (2, .ref pm), (3, .ref po), (4, .ref pd), (5, .int i), (6, .int r1), (7, .int r3)]) hC dL_law_1810 (by decide) [1, 2, 3, 4, 5, 6, 7, 0] rfl ?_
  refine V_aload_n hC dL_law_1812 2 rfl ?_
  obtain ⟨hz, hq⟩ := hq
  refine clV_X12_thrown hG hC sv_L_132 ⟨by decide, by decide⟩ (Nat.le_of_ble_eq_true rfl) ⟨by omega, by omega⟩ dL_law_1813 hz hq (fun r5 hq => ?_)
  show V G Γ 9 (uc + 4) (us + 24) h4 1816 [(0, .ref b), (1, .ref px), (2, .ref pm), (3, .ref po), (4, .ref pd), (5, .int i), (6, .int r1), (7, .int r3)] [.int r5]
  refine V_iload hC dL_law_1816 6 rfl ?_
  refine V_icmp_eq (tgt := 1823) hC dL_law_1818 (by decide) (fun hc => ?_) (fun hc => ?_)
  · have hq := hq.1 hc
    refine V_iload hC dL_law_1823 6 rfl ?_
    have hq := hq (V G Γ 9 (uc + 4) (us + 24) h4 1840 [(0, .ref b), (1, .ref px), (2, .ref pm), (3, .ref po), (4, .ref pd), (5, .int i)] []) (by
      intro hq
      show V G Γ 9 (uc + 4) (us + 24) h4 1840 [(0, .ref b), (1, .ref px), (2, .ref pm), (3, .ref po), (4, .ref pd), (5, .int i)] []
      refine V_goto (tgt := 2279) hC dL_law_1840 (by decide) ?_
      exact hJ _ _ _ hq (by omega) (by omega))
    refine V_if_ne (tgt := 1840) hC dL_law_1825 (by decide) (fun hc => ?_) (fun hc => ?_)
    · have hq := hq.1 hc
      refine V_sub [0, 1, 2, 3, 4, 5] rfl ?_
      exact hq
    · have hq := hq.2 hc
      refine V_aload_n hC dL_law_1828 3 rfl ?_
      refine V_iconst (v := 0) hC dL_law_1829 (by decide) ?_
      refine U_ldJ hC dL_law_1830 hq (fun v6 hq => ?_)
      refine V_iload hC dL_law_1831 7 rfl ?_
      refine V_i2l hC dL_law_1833 ?_
      refine V_lcmp hC dL_law_1834 ?_
      refine V_if_eq (tgt := 1840) hC dL_law_1835 (by decide) (fun hc => ?_) (fun hc => ?_)
      · have hq := hq.1 hc
        refine V_sub [0, 1, 2, 3, 4, 5] rfl ?_
        exact hq
      · have hq := hq.2 hc
        refine V_iconst (v := 0) hC dL_law_1838 (by decide) ?_
        exact hq.elim
  · have hq := hq.2 hc
    refine V_iconst (v := 0) hC dL_law_1821 (by decide) ?_
    exact hq.elim
set_option maxRecDepth 100000 in
set_option maxHeartbeats 4000000 in
theorem ct_law_1843 {G : Gx} (hG : GOK G) {Γ : Cx} (hC : COK G Γ "BandplanLaw" cL_law 9 2048 94400 603072 7219306 []) (hE : LEND G Γ) {b N : Nat} {xs : Nat → Int32} (hX : LSCR G Γ b N xs) (px pm po pd : Nat) (i : Int32) (h0 : hw) (uc us : Nat) (J : hw → Nat → Nat → Prop) (hJ : ∀ (h1 : hw) (c1 u1 : Nat), J h1 c1 u1 → c1 ≤ 603072 → u1 ≤ 7219306 → V G Γ 9 c1 u1 h1 2279 [(0, .ref b), (1, .ref px), (2, .ref pm), (3, .ref po), (4, .ref pd), (5, .int i)] []) (hq : wp_law_1843 G N xs px pm po pd i h0 uc us J) (hu1 : uc ≤ 603072) (hu2 : us ≤ 7219306) : V G Γ 9 uc us h0 1843 [(0, .ref b), (1, .ref px), (2, .ref pm), (3, .ref po), (4, .ref pd), (5, .int i)] [] := by
  unfold wp_law_1843 at hq
  refine V_aload_n hC dL_law_1843 1 rfl ?_
  refine V_aload_n hC dL_law_1844 0 rfl ?_
  refine V_iload hC dL_law_1845 5 rfl ?_
  refine V_iconst (v := 1) hC dL_law_1847 (by decide) ?_
  refine V_iadd hC dL_law_1848 ?_
  obtain ⟨hz, hq⟩ := hq
  refine V_sld hC hX hz dL_law_1849 ?_
  refine V_aload_n hC dL_law_1850 3 rfl ?_
  obtain ⟨hz1, hz2, hq⟩ := hq
  refine clSX_L_buy hG hC ssx_L_211 ⟨by decide, by decide⟩ (Nat.le_of_ble_eq_true rfl) ⟨hz1, hz2⟩ dL_law_1851 hq (fun r1 h2 hq => ?_)
  show V G Γ 9 (uc + 1) (us + 6) h2 1854 [(0, .ref b), (1, .ref px), (2, .ref pm), (3, .ref po), (4, .ref pd), (5, .int i)] [.int r1]
  refine V_istore (L' := [(0, .ref b), (1, .ref px), (2, .ref pm), (3, .ref po), (4, .ref pd), (5, .int i), (6, .int r1)]) hC dL_law_1854 (by decide) [1, 2, 3, 4, 5, 6, 0] rfl ?_
  refine V_aload_n hC dL_law_1856 2 rfl ?_
  refine V_aload_n hC dL_law_1857 0 rfl ?_
  refine V_iload hC dL_law_1858 5 rfl ?_
  refine V_iconst (v := 1) hC dL_law_1860 (by decide) ?_
  refine V_iadd hC dL_law_1861 ?_
  obtain ⟨hz, hq⟩ := hq
  refine V_sld hC hX hz dL_law_1862 ?_
  obtain ⟨hz, hq⟩ := hq
  refine clV_X12_buy hG hC sv_L_213 ⟨by decide, by decide⟩ (Nat.le_of_ble_eq_true rfl) ⟨by omega, by omega⟩ dL_law_1863 hz hq (fun r3 h4 hq => ?_)
  show V G Γ 9 (uc + 1) (us + 6) h4 1866 [(0, .ref b), (1, .ref px), (2, .ref pm), (3, .ref po), (4, .ref pd), (5, .int i), (6, .int r1)] [.int r3]
  refine V_istore (L' := [(0, .ref b), (1, .ref px), (2, .ref pm), (3, .ref po), (4, .ref pd), (5, .int i), (6, .int r1), (7, .int r3)]) hC dL_law_1866 (by decide) [1, 2, 3, 4, 5, 6, 7, 0] rfl ?_
  refine V_aload_n hC dL_law_1868 2 rfl ?_
  obtain ⟨hz, hq⟩ := hq
  refine clV_X12_thrown hG hC sv_L_132 ⟨by decide, by decide⟩ (Nat.le_of_ble_eq_true rfl) ⟨by omega, by omega⟩ dL_law_1869 hz hq (fun r5 hq => ?_)
  show V G Γ 9 (uc + 1) (us + 6) h4 1872 [(0, .ref b), (1, .ref px), (2, .ref pm), (3, .ref po), (4, .ref pd), (5, .int i), (6, .int r1), (7, .int r3)] [.int r5]
  refine V_iload hC dL_law_1872 6 rfl ?_
  refine V_icmp_eq (tgt := 1879) hC dL_law_1874 (by decide) (fun hc => ?_) (fun hc => ?_)
  · have hq := hq.1 hc
    refine V_iload hC dL_law_1879 6 rfl ?_
    have hq := hq (V G Γ 9 (uc + 1) (us + 6) h4 1896 [(0, .ref b), (1, .ref px), (2, .ref pm), (3, .ref po), (4, .ref pd), (5, .int i)] []) (by
      intro hq
      show V G Γ 9 (uc + 1) (us + 6) h4 1896 [(0, .ref b), (1, .ref px), (2, .ref pm), (3, .ref po), (4, .ref pd), (5, .int i)] []
      refine V_goto (tgt := 2279) hC dL_law_1896 (by decide) ?_
      exact hJ _ _ _ hq (by omega) (by omega))
    refine V_if_ne (tgt := 1896) hC dL_law_1881 (by decide) (fun hc => ?_) (fun hc => ?_)
    · have hq := hq.1 hc
      refine V_sub [0, 1, 2, 3, 4, 5] rfl ?_
      exact hq
    · have hq := hq.2 hc
      refine V_aload_n hC dL_law_1884 3 rfl ?_
      refine V_iconst (v := 0) hC dL_law_1885 (by decide) ?_
      refine U_ldJ hC dL_law_1886 hq (fun v6 hq => ?_)
      refine V_iload hC dL_law_1887 7 rfl ?_
      refine V_i2l hC dL_law_1889 ?_
      refine V_lcmp hC dL_law_1890 ?_
      refine V_if_eq (tgt := 1896) hC dL_law_1891 (by decide) (fun hc => ?_) (fun hc => ?_)
      · have hq := hq.1 hc
        refine V_sub [0, 1, 2, 3, 4, 5] rfl ?_
        exact hq
      · have hq := hq.2 hc
        refine V_iconst (v := 0) hC dL_law_1894 (by decide) ?_
        exact hq.elim
  · have hq := hq.2 hc
    refine V_iconst (v := 0) hC dL_law_1877 (by decide) ?_
    exact hq.elim
set_option maxRecDepth 100000 in
set_option maxHeartbeats 4000000 in
theorem ct_law_1899 {G : Gx} (hG : GOK G) {Γ : Cx} (hC : COK G Γ "BandplanLaw" cL_law 9 2048 94400 603072 7219306 []) (hE : LEND G Γ) {b N : Nat} {xs : Nat → Int32} (hX : LSCR G Γ b N xs) (px pm po pd : Nat) (i : Int32) (h0 : hw) (uc us : Nat) (J : hw → Nat → Nat → Prop) (hJ : ∀ (h1 : hw) (c1 u1 : Nat), J h1 c1 u1 → c1 ≤ 603072 → u1 ≤ 7219306 → V G Γ 9 c1 u1 h1 2279 [(0, .ref b), (1, .ref px), (2, .ref pm), (3, .ref po), (4, .ref pd), (5, .int i)] []) (hq : wp_law_1899 G N xs px pm po pd i h0 uc us J) (hu1 : uc ≤ 603072) (hu2 : us ≤ 7219306) : V G Γ 9 uc us h0 1899 [(0, .ref b), (1, .ref px), (2, .ref pm), (3, .ref po), (4, .ref pd), (5, .int i)] [] := by
  unfold wp_law_1899 at hq
  refine V_aload_n hC dL_law_1899 1 rfl ?_
  refine V_aload_n hC dL_law_1900 0 rfl ?_
  refine V_iload hC dL_law_1901 5 rfl ?_
  refine V_iconst (v := 1) hC dL_law_1903 (by decide) ?_
  refine V_iadd hC dL_law_1904 ?_
  obtain ⟨hz, hq⟩ := hq
  refine V_sld hC hX hz dL_law_1905 ?_
  refine V_aload_n hC dL_law_1906 3 rfl ?_
  obtain ⟨hz1, hz2, hq⟩ := hq
  refine clSX_L_bought hG hC ssx_L_214 ⟨by decide, by decide⟩ (Nat.le_of_ble_eq_true rfl) ⟨hz1, hz2⟩ dL_law_1907 hq (fun r1 h2 hq => ?_)
  show V G Γ 9 (uc + 1) (us + 6) h2 1910 [(0, .ref b), (1, .ref px), (2, .ref pm), (3, .ref po), (4, .ref pd), (5, .int i)] [.int r1]
  refine V_istore (L' := [(0, .ref b), (1, .ref px), (2, .ref pm), (3, .ref po), (4, .ref pd), (5, .int i), (6, .int r1)]) hC dL_law_1910 (by decide) [1, 2, 3, 4, 5, 6, 0] rfl ?_
  refine V_aload_n hC dL_law_1912 2 rfl ?_
  refine V_aload_n hC dL_law_1913 0 rfl ?_
  refine V_iload hC dL_law_1914 5 rfl ?_
  refine V_iconst (v := 1) hC dL_law_1916 (by decide) ?_
  refine V_iadd hC dL_law_1917 ?_
  obtain ⟨hz, hq⟩ := hq
  refine V_sld hC hX hz dL_law_1918 ?_
  obtain ⟨hz, hq⟩ := hq
  refine clV_X12_bought hG hC sv_L_216 ⟨by decide, by decide⟩ (Nat.le_of_ble_eq_true rfl) ⟨by omega, by omega⟩ dL_law_1919 hz hq (fun r3 h4 hq => ?_)
  show V G Γ 9 (uc + 1) (us + 6) h4 1922 [(0, .ref b), (1, .ref px), (2, .ref pm), (3, .ref po), (4, .ref pd), (5, .int i), (6, .int r1)] [.int r3]
  refine V_istore (L' := [(0, .ref b), (1, .ref px), (2, .ref pm), (3, .ref po), (4, .ref pd), (5, .int i), (6, .int r1), (7, .int r3)]) hC dL_law_1922 (by decide) [1, 2, 3, 4, 5, 6, 7, 0] rfl ?_
  refine V_aload_n hC dL_law_1924 2 rfl ?_
  obtain ⟨hz, hq⟩ := hq
  refine clV_X12_thrown hG hC sv_L_132 ⟨by decide, by decide⟩ (Nat.le_of_ble_eq_true rfl) ⟨by omega, by omega⟩ dL_law_1925 hz hq (fun r5 hq => ?_)
  show V G Γ 9 (uc + 1) (us + 6) h4 1928 [(0, .ref b), (1, .ref px), (2, .ref pm), (3, .ref po), (4, .ref pd), (5, .int i), (6, .int r1), (7, .int r3)] [.int r5]
  refine V_iload hC dL_law_1928 6 rfl ?_
  refine V_icmp_eq (tgt := 1935) hC dL_law_1930 (by decide) (fun hc => ?_) (fun hc => ?_)
  · have hq := hq.1 hc
    refine V_iload hC dL_law_1935 6 rfl ?_
    have hq := hq (V G Γ 9 (uc + 1) (us + 6) h4 1952 [(0, .ref b), (1, .ref px), (2, .ref pm), (3, .ref po), (4, .ref pd), (5, .int i)] []) (by
      intro hq
      show V G Γ 9 (uc + 1) (us + 6) h4 1952 [(0, .ref b), (1, .ref px), (2, .ref pm), (3, .ref po), (4, .ref pd), (5, .int i)] []
      refine V_goto (tgt := 2279) hC dL_law_1952 (by decide) ?_
      exact hJ _ _ _ hq (by omega) (by omega))
    refine V_if_ne (tgt := 1952) hC dL_law_1937 (by decide) (fun hc => ?_) (fun hc => ?_)
    · have hq := hq.1 hc
      refine V_sub [0, 1, 2, 3, 4, 5] rfl ?_
      exact hq
    · have hq := hq.2 hc
      refine V_aload_n hC dL_law_1940 3 rfl ?_
      refine V_iconst (v := 0) hC dL_law_1941 (by decide) ?_
      refine U_ldJ hC dL_law_1942 hq (fun v6 hq => ?_)
      refine V_iload hC dL_law_1943 7 rfl ?_
      refine V_i2l hC dL_law_1945 ?_
      refine V_lcmp hC dL_law_1946 ?_
      refine V_if_eq (tgt := 1952) hC dL_law_1947 (by decide) (fun hc => ?_) (fun hc => ?_)
      · have hq := hq.1 hc
        refine V_sub [0, 1, 2, 3, 4, 5] rfl ?_
        exact hq
      · have hq := hq.2 hc
        refine V_iconst (v := 0) hC dL_law_1950 (by decide) ?_
        exact hq.elim
  · have hq := hq.2 hc
    refine V_iconst (v := 0) hC dL_law_1933 (by decide) ?_
    exact hq.elim
set_option maxRecDepth 100000 in
set_option maxHeartbeats 4000000 in
theorem ct_law_1955 {G : Gx} (hG : GOK G) {Γ : Cx} (hC : COK G Γ "BandplanLaw" cL_law 9 2048 94400 603072 7219306 []) (hE : LEND G Γ) {b N : Nat} {xs : Nat → Int32} (hX : LSCR G Γ b N xs) (px pm po pd : Nat) (i : Int32) (h0 : hw) (uc us : Nat) (J : hw → Nat → Nat → Prop) (hJ : ∀ (h1 : hw) (c1 u1 : Nat), J h1 c1 u1 → c1 ≤ 603072 → u1 ≤ 7219306 → V G Γ 9 c1 u1 h1 2279 [(0, .ref b), (1, .ref px), (2, .ref pm), (3, .ref po), (4, .ref pd), (5, .int i)] []) (hq : wp_law_1955 G N xs px pm po pd i h0 uc us J) (hu1 : uc ≤ 603072) (hu2 : us ≤ 7219306) : V G Γ 9 uc us h0 1955 [(0, .ref b), (1, .ref px), (2, .ref pm), (3, .ref po), (4, .ref pd), (5, .int i)] [] := by
  unfold wp_law_1955 at hq
  refine V_aload_n hC dL_law_1955 1 rfl ?_
  refine V_aload_n hC dL_law_1956 0 rfl ?_
  refine V_iload hC dL_law_1957 5 rfl ?_
  refine V_iconst (v := 1) hC dL_law_1959 (by decide) ?_
  refine V_iadd hC dL_law_1960 ?_
  obtain ⟨hz, hq⟩ := hq
  refine V_sld hC hX hz dL_law_1961 ?_
  refine V_aload_n hC dL_law_1962 3 rfl ?_
  obtain ⟨hz1, hz2, hq⟩ := hq
  refine clSX_L_pays hG hC ssx_L_217 ⟨by decide, by decide⟩ (Nat.le_of_ble_eq_true rfl) ⟨hz1, hz2⟩ dL_law_1963 hq (fun r1 h2 hq => ?_)
  show V G Γ 9 (uc + 1) (us + 6) h2 1966 [(0, .ref b), (1, .ref px), (2, .ref pm), (3, .ref po), (4, .ref pd), (5, .int i)] [.int r1]
  refine V_istore (L' := [(0, .ref b), (1, .ref px), (2, .ref pm), (3, .ref po), (4, .ref pd), (5, .int i), (6, .int r1)]) hC dL_law_1966 (by decide) [1, 2, 3, 4, 5, 6, 0] rfl ?_
  refine V_aload_n hC dL_law_1968 2 rfl ?_
  refine V_aload_n hC dL_law_1969 0 rfl ?_
  refine V_iload hC dL_law_1970 5 rfl ?_
  refine V_iconst (v := 1) hC dL_law_1972 (by decide) ?_
  refine V_iadd hC dL_law_1973 ?_
  obtain ⟨hz, hq⟩ := hq
  refine V_sld hC hX hz dL_law_1974 ?_
  obtain ⟨hz, hq⟩ := hq
  refine clV_X12_pays hG hC sv_L_219 ⟨by decide, by decide⟩ (Nat.le_of_ble_eq_true rfl) ⟨by omega, by omega⟩ dL_law_1975 hz hq (fun r3 h4 hq => ?_)
  show V G Γ 9 (uc + 1) (us + 6) h4 1978 [(0, .ref b), (1, .ref px), (2, .ref pm), (3, .ref po), (4, .ref pd), (5, .int i), (6, .int r1)] [.long r3]
  refine V_lstore (L' := [(0, .ref b), (1, .ref px), (2, .ref pm), (3, .ref po), (4, .ref pd), (5, .int i), (6, .int r1), (7, .long r3)]) hC dL_law_1978 (by decide) [1, 2, 3, 4, 5, 6, 7, 0] rfl ?_
  refine V_aload_n hC dL_law_1980 2 rfl ?_
  obtain ⟨hz, hq⟩ := hq
  refine clV_X12_thrown hG hC sv_L_132 ⟨by decide, by decide⟩ (Nat.le_of_ble_eq_true rfl) ⟨by omega, by omega⟩ dL_law_1981 hz hq (fun r5 hq => ?_)
  show V G Γ 9 (uc + 1) (us + 6) h4 1984 [(0, .ref b), (1, .ref px), (2, .ref pm), (3, .ref po), (4, .ref pd), (5, .int i), (6, .int r1), (7, .long r3)] [.int r5]
  refine V_iload hC dL_law_1984 6 rfl ?_
  refine V_icmp_eq (tgt := 1991) hC dL_law_1986 (by decide) (fun hc => ?_) (fun hc => ?_)
  · have hq := hq.1 hc
    refine V_iload hC dL_law_1991 6 rfl ?_
    have hq := hq (V G Γ 9 (uc + 1) (us + 6) h4 2007 [(0, .ref b), (1, .ref px), (2, .ref pm), (3, .ref po), (4, .ref pd), (5, .int i)] []) (by
      intro hq
      show V G Γ 9 (uc + 1) (us + 6) h4 2007 [(0, .ref b), (1, .ref px), (2, .ref pm), (3, .ref po), (4, .ref pd), (5, .int i)] []
      refine V_goto (tgt := 2279) hC dL_law_2007 (by decide) ?_
      exact hJ _ _ _ hq (by omega) (by omega))
    refine V_if_ne (tgt := 2007) hC dL_law_1993 (by decide) (fun hc => ?_) (fun hc => ?_)
    · have hq := hq.1 hc
      refine V_sub [0, 1, 2, 3, 4, 5] rfl ?_
      exact hq
    · have hq := hq.2 hc
      refine V_aload_n hC dL_law_1996 3 rfl ?_
      refine V_iconst (v := 0) hC dL_law_1997 (by decide) ?_
      refine U_ldJ hC dL_law_1998 hq (fun v6 hq => ?_)
      refine V_lload hC dL_law_1999 7 rfl ?_
      refine V_lcmp hC dL_law_2001 ?_
      refine V_if_eq (tgt := 2007) hC dL_law_2002 (by decide) (fun hc => ?_) (fun hc => ?_)
      · have hq := hq.1 hc
        refine V_sub [0, 1, 2, 3, 4, 5] rfl ?_
        exact hq
      · have hq := hq.2 hc
        refine V_iconst (v := 0) hC dL_law_2005 (by decide) ?_
        exact hq.elim
  · have hq := hq.2 hc
    refine V_iconst (v := 0) hC dL_law_1989 (by decide) ?_
    exact hq.elim
set_option maxRecDepth 100000 in
set_option maxHeartbeats 4000000 in
theorem ct_law_2010 {G : Gx} (hG : GOK G) {Γ : Cx} (hC : COK G Γ "BandplanLaw" cL_law 9 2048 94400 603072 7219306 []) (hE : LEND G Γ) {b N : Nat} {xs : Nat → Int32} (hX : LSCR G Γ b N xs) (px pm po pd : Nat) (i : Int32) (h0 : hw) (uc us : Nat) (J : hw → Nat → Nat → Prop) (hJ : ∀ (h1 : hw) (c1 u1 : Nat), J h1 c1 u1 → c1 ≤ 603072 → u1 ≤ 7219306 → V G Γ 9 c1 u1 h1 2279 [(0, .ref b), (1, .ref px), (2, .ref pm), (3, .ref po), (4, .ref pd), (5, .int i)] []) (hq : wp_law_2010 G N xs px pm po pd i h0 uc us J) (hu1 : uc ≤ 603072) (hu2 : us ≤ 7219306) : V G Γ 9 uc us h0 2010 [(0, .ref b), (1, .ref px), (2, .ref pm), (3, .ref po), (4, .ref pd), (5, .int i)] [] := by
  unfold wp_law_2010 at hq
  refine V_aload_n hC dL_law_2010 1 rfl ?_
  refine V_aload_n hC dL_law_2011 0 rfl ?_
  refine V_iload hC dL_law_2012 5 rfl ?_
  refine V_iconst (v := 1) hC dL_law_2014 (by decide) ?_
  refine V_iadd hC dL_law_2015 ?_
  obtain ⟨hz, hq⟩ := hq
  refine V_sld hC hX hz dL_law_2016 ?_
  refine V_aload_n hC dL_law_2017 3 rfl ?_
  obtain ⟨hz1, hz2, hq⟩ := hq
  refine clSX_L_move hG hC ssx_L_220 ⟨by decide, by decide⟩ (Nat.le_of_ble_eq_true rfl) ⟨hz1, hz2⟩ dL_law_2018 hq (fun r1 h2 hq => ?_)
  show V G Γ 9 (uc + 2) (us + 12) h2 2021 [(0, .ref b), (1, .ref px), (2, .ref pm), (3, .ref po), (4, .ref pd), (5, .int i)] [.int r1]
  refine V_istore (L' := [(0, .ref b), (1, .ref px), (2, .ref pm), (3, .ref po), (4, .ref pd), (5, .int i), (6, .int r1)]) hC dL_law_2021 (by decide) [1, 2, 3, 4, 5, 6, 0] rfl ?_
  refine V_aload_n hC dL_law_2023 2 rfl ?_
  refine V_aload_n hC dL_law_2024 0 rfl ?_
  refine V_iload hC dL_law_2025 5 rfl ?_
  refine V_iconst (v := 1) hC dL_law_2027 (by decide) ?_
  refine V_iadd hC dL_law_2028 ?_
  obtain ⟨hz, hq⟩ := hq
  refine V_sld hC hX hz dL_law_2029 ?_
  obtain ⟨bc3, bs4, hz1, hz2, hq⟩ := hq
  obtain ⟨hz, hq⟩ := hq
  refine clV_X12_move hG hC sv_L_222 ⟨by decide, by decide⟩ (Nat.le_of_ble_eq_true rfl) ⟨hz1, hz2⟩ dL_law_2030 hz hq (fun r5 h6 hq => ?_)
  show V G Γ 9 ((uc + 2) + bc3) ((us + 12) + bs4) h6 2033 [(0, .ref b), (1, .ref px), (2, .ref pm), (3, .ref po), (4, .ref pd), (5, .int i), (6, .int r1)] [.int r5]
  refine V_istore (L' := [(0, .ref b), (1, .ref px), (2, .ref pm), (3, .ref po), (4, .ref pd), (5, .int i), (6, .int r1), (7, .int r5)]) hC dL_law_2033 (by decide) [1, 2, 3, 4, 5, 6, 7, 0] rfl ?_
  refine V_aload_n hC dL_law_2035 2 rfl ?_
  obtain ⟨hz, hq⟩ := hq
  refine clV_X12_thrown hG hC sv_L_132 ⟨by decide, by decide⟩ (Nat.le_of_ble_eq_true rfl) ⟨by omega, by omega⟩ dL_law_2036 hz hq (fun r7 hq => ?_)
  show V G Γ 9 ((uc + 2) + bc3) ((us + 12) + bs4) h6 2039 [(0, .ref b), (1, .ref px), (2, .ref pm), (3, .ref po), (4, .ref pd), (5, .int i), (6, .int r1), (7, .int r5)] [.int r7]
  refine V_iload hC dL_law_2039 6 rfl ?_
  refine V_icmp_eq (tgt := 2046) hC dL_law_2041 (by decide) (fun hc => ?_) (fun hc => ?_)
  · have hq := hq.1 hc
    refine V_iload hC dL_law_2046 6 rfl ?_
    have hq := hq (V G Γ 9 ((uc + 2) + bc3) ((us + 12) + bs4) h6 2063 [(0, .ref b), (1, .ref px), (2, .ref pm), (3, .ref po), (4, .ref pd), (5, .int i)] []) (by
      intro hq
      show V G Γ 9 ((uc + 2) + bc3) ((us + 12) + bs4) h6 2063 [(0, .ref b), (1, .ref px), (2, .ref pm), (3, .ref po), (4, .ref pd), (5, .int i)] []
      refine V_goto (tgt := 2279) hC dL_law_2063 (by decide) ?_
      exact hJ _ _ _ hq (by omega) (by omega))
    refine V_if_ne (tgt := 2063) hC dL_law_2048 (by decide) (fun hc => ?_) (fun hc => ?_)
    · have hq := hq.1 hc
      refine V_sub [0, 1, 2, 3, 4, 5] rfl ?_
      exact hq
    · have hq := hq.2 hc
      refine V_aload_n hC dL_law_2051 3 rfl ?_
      refine V_iconst (v := 0) hC dL_law_2052 (by decide) ?_
      refine U_ldJ hC dL_law_2053 hq (fun v8 hq => ?_)
      refine V_iload hC dL_law_2054 7 rfl ?_
      refine V_i2l hC dL_law_2056 ?_
      refine V_lcmp hC dL_law_2057 ?_
      refine V_if_eq (tgt := 2063) hC dL_law_2058 (by decide) (fun hc => ?_) (fun hc => ?_)
      · have hq := hq.1 hc
        refine V_sub [0, 1, 2, 3, 4, 5] rfl ?_
        exact hq
      · have hq := hq.2 hc
        refine V_iconst (v := 0) hC dL_law_2061 (by decide) ?_
        exact hq.elim
  · have hq := hq.2 hc
    refine V_iconst (v := 0) hC dL_law_2044 (by decide) ?_
    exact hq.elim
set_option maxRecDepth 100000 in
set_option maxHeartbeats 4000000 in
theorem ct_law_2066 {G : Gx} (hG : GOK G) {Γ : Cx} (hC : COK G Γ "BandplanLaw" cL_law 9 2048 94400 603072 7219306 []) (hE : LEND G Γ) {b N : Nat} {xs : Nat → Int32} (hX : LSCR G Γ b N xs) (px pm po pd : Nat) (i : Int32) (h0 : hw) (uc us : Nat) (J : hw → Nat → Nat → Prop) (hJ : ∀ (h1 : hw) (c1 u1 : Nat), J h1 c1 u1 → c1 ≤ 603072 → u1 ≤ 7219306 → V G Γ 9 c1 u1 h1 2279 [(0, .ref b), (1, .ref px), (2, .ref pm), (3, .ref po), (4, .ref pd), (5, .int i)] []) (hq : wp_law_2066 G N xs px pm po pd i h0 uc us J) (hu1 : uc ≤ 603072) (hu2 : us ≤ 7219306) : V G Γ 9 uc us h0 2066 [(0, .ref b), (1, .ref px), (2, .ref pm), (3, .ref po), (4, .ref pd), (5, .int i)] [] := by
  unfold wp_law_2066 at hq
  refine V_aload_n hC dL_law_2066 1 rfl ?_
  refine V_aload_n hC dL_law_2067 0 rfl ?_
  refine V_iload hC dL_law_2068 5 rfl ?_
  refine V_iconst (v := 1) hC dL_law_2070 (by decide) ?_
  refine V_iadd hC dL_law_2071 ?_
  obtain ⟨hz, hq⟩ := hq
  refine V_sld hC hX hz dL_law_2072 ?_
  refine V_aload_n hC dL_law_2073 3 rfl ?_
  obtain ⟨hz1, hz2, hq⟩ := hq
  refine clSX_L_phaseOf hG hC ssx_L_223 ⟨by decide, by decide⟩ (Nat.le_of_ble_eq_true rfl) ⟨hz1, hz2⟩ dL_law_2074 hq (fun r1 h2 hq => ?_)
  show V G Γ 9 (uc + 2) (us + 12) h2 2077 [(0, .ref b), (1, .ref px), (2, .ref pm), (3, .ref po), (4, .ref pd), (5, .int i)] [.int r1]
  refine V_istore (L' := [(0, .ref b), (1, .ref px), (2, .ref pm), (3, .ref po), (4, .ref pd), (5, .int i), (6, .int r1)]) hC dL_law_2077 (by decide) [1, 2, 3, 4, 5, 6, 0] rfl ?_
  refine V_aload_n hC dL_law_2079 2 rfl ?_
  refine V_aload_n hC dL_law_2080 0 rfl ?_
  refine V_iload hC dL_law_2081 5 rfl ?_
  refine V_iconst (v := 1) hC dL_law_2083 (by decide) ?_
  refine V_iadd hC dL_law_2084 ?_
  obtain ⟨hz, hq⟩ := hq
  refine V_sld hC hX hz dL_law_2085 ?_
  obtain ⟨hz, hq⟩ := hq
  refine clV_X12_phaseOf hG hC sv_L_225 ⟨by decide, by decide⟩ (Nat.le_of_ble_eq_true rfl) ⟨by omega, by omega⟩ dL_law_2086 hz hq (fun r3 h4 hq => ?_)
  show V G Γ 9 (uc + 2) (us + 12) h4 2089 [(0, .ref b), (1, .ref px), (2, .ref pm), (3, .ref po), (4, .ref pd), (5, .int i), (6, .int r1)] [.int r3]
  refine V_istore (L' := [(0, .ref b), (1, .ref px), (2, .ref pm), (3, .ref po), (4, .ref pd), (5, .int i), (6, .int r1), (7, .int r3)]) hC dL_law_2089 (by decide) [1, 2, 3, 4, 5, 6, 7, 0] rfl ?_
  refine V_aload_n hC dL_law_2091 2 rfl ?_
  obtain ⟨hz, hq⟩ := hq
  refine clV_X12_thrown hG hC sv_L_132 ⟨by decide, by decide⟩ (Nat.le_of_ble_eq_true rfl) ⟨by omega, by omega⟩ dL_law_2092 hz hq (fun r5 hq => ?_)
  show V G Γ 9 (uc + 2) (us + 12) h4 2095 [(0, .ref b), (1, .ref px), (2, .ref pm), (3, .ref po), (4, .ref pd), (5, .int i), (6, .int r1), (7, .int r3)] [.int r5]
  refine V_iload hC dL_law_2095 6 rfl ?_
  refine V_icmp_eq (tgt := 2102) hC dL_law_2097 (by decide) (fun hc => ?_) (fun hc => ?_)
  · have hq := hq.1 hc
    refine V_iload hC dL_law_2102 6 rfl ?_
    have hq := hq (V G Γ 9 (uc + 2) (us + 12) h4 2119 [(0, .ref b), (1, .ref px), (2, .ref pm), (3, .ref po), (4, .ref pd), (5, .int i)] []) (by
      intro hq
      show V G Γ 9 (uc + 2) (us + 12) h4 2119 [(0, .ref b), (1, .ref px), (2, .ref pm), (3, .ref po), (4, .ref pd), (5, .int i)] []
      refine V_goto (tgt := 2279) hC dL_law_2119 (by decide) ?_
      exact hJ _ _ _ hq (by omega) (by omega))
    refine V_if_ne (tgt := 2119) hC dL_law_2104 (by decide) (fun hc => ?_) (fun hc => ?_)
    · have hq := hq.1 hc
      refine V_sub [0, 1, 2, 3, 4, 5] rfl ?_
      exact hq
    · have hq := hq.2 hc
      refine V_aload_n hC dL_law_2107 3 rfl ?_
      refine V_iconst (v := 0) hC dL_law_2108 (by decide) ?_
      refine U_ldJ hC dL_law_2109 hq (fun v6 hq => ?_)
      refine V_iload hC dL_law_2110 7 rfl ?_
      refine V_i2l hC dL_law_2112 ?_
      refine V_lcmp hC dL_law_2113 ?_
      refine V_if_eq (tgt := 2119) hC dL_law_2114 (by decide) (fun hc => ?_) (fun hc => ?_)
      · have hq := hq.1 hc
        refine V_sub [0, 1, 2, 3, 4, 5] rfl ?_
        exact hq
      · have hq := hq.2 hc
        refine V_iconst (v := 0) hC dL_law_2117 (by decide) ?_
        exact hq.elim
  · have hq := hq.2 hc
    refine V_iconst (v := 0) hC dL_law_2100 (by decide) ?_
    exact hq.elim
set_option maxRecDepth 100000 in
set_option maxHeartbeats 4000000 in
theorem ct_law_2122 {G : Gx} (hG : GOK G) {Γ : Cx} (hC : COK G Γ "BandplanLaw" cL_law 9 2048 94400 603072 7219306 []) (hE : LEND G Γ) {b N : Nat} {xs : Nat → Int32} (hX : LSCR G Γ b N xs) (px pm po pd : Nat) (i : Int32) (h0 : hw) (uc us : Nat) (J : hw → Nat → Nat → Prop) (hJ : ∀ (h1 : hw) (c1 u1 : Nat), J h1 c1 u1 → c1 ≤ 603072 → u1 ≤ 7219306 → V G Γ 9 c1 u1 h1 2279 [(0, .ref b), (1, .ref px), (2, .ref pm), (3, .ref po), (4, .ref pd), (5, .int i)] []) (hq : wp_law_2122 G N xs px pm po pd i h0 uc us J) (hu1 : uc ≤ 603072) (hu2 : us ≤ 7219306) : V G Γ 9 uc us h0 2122 [(0, .ref b), (1, .ref px), (2, .ref pm), (3, .ref po), (4, .ref pd), (5, .int i)] [] := by
  unfold wp_law_2122 at hq
  refine V_aload_n hC dL_law_2122 1 rfl ?_
  obtain ⟨hz, hq⟩ := hq
  refine clV_X11_dark hG hC sv_L_226 ⟨by decide, by decide⟩ (Nat.le_of_ble_eq_true rfl) ⟨by omega, by omega⟩ dL_law_2123 hz hq (fun r1 hq => ?_)
  show V G Γ 9 uc us h0 2126 [(0, .ref b), (1, .ref px), (2, .ref pm), (3, .ref po), (4, .ref pd), (5, .int i)] [.int r1]
  refine V_aload_n hC dL_law_2126 2 rfl ?_
  obtain ⟨hz, hq⟩ := hq
  refine clV_X12_dark hG hC sv_L_229 ⟨by decide, by decide⟩ (Nat.le_of_ble_eq_true rfl) ⟨by omega, by omega⟩ dL_law_2127 hz hq (fun r2 h3 hq => ?_)
  show V G Γ 9 uc us h3 2130 [(0, .ref b), (1, .ref px), (2, .ref pm), (3, .ref po), (4, .ref pd), (5, .int i)] [.int r2, .int r1]
  refine V_icmp_eq (tgt := 2279) hC dL_law_2130 (by decide) (fun hc => ?_) (fun hc => ?_)
  · have hq := hq.1 hc
    exact hJ _ _ _ hq (by omega) (by omega)
  · have hq := hq.2 hc
    refine V_iconst (v := 0) hC dL_law_2133 (by decide) ?_
    exact hq.elim
set_option maxRecDepth 100000 in
set_option maxHeartbeats 4000000 in
theorem ct_law_2135 {G : Gx} (hG : GOK G) {Γ : Cx} (hC : COK G Γ "BandplanLaw" cL_law 9 2048 94400 603072 7219306 []) (hE : LEND G Γ) {b N : Nat} {xs : Nat → Int32} (hX : LSCR G Γ b N xs) (px pm po pd : Nat) (i : Int32) (h0 : hw) (uc us : Nat) (J : hw → Nat → Nat → Prop) (hJ : ∀ (h1 : hw) (c1 u1 : Nat), J h1 c1 u1 → c1 ≤ 603072 → u1 ≤ 7219306 → V G Γ 9 c1 u1 h1 2279 [(0, .ref b), (1, .ref px), (2, .ref pm), (3, .ref po), (4, .ref pd), (5, .int i)] []) (hq : wp_law_2135 G N xs px pm po pd i h0 uc us J) (hu1 : uc ≤ 603072) (hu2 : us ≤ 7219306) : V G Γ 9 uc us h0 2135 [(0, .ref b), (1, .ref px), (2, .ref pm), (3, .ref po), (4, .ref pd), (5, .int i)] [] := by
  unfold wp_law_2135 at hq
  refine V_aload_n hC dL_law_2135 1 rfl ?_
  refine V_aload hC dL_law_2136 4 rfl ?_
  obtain ⟨hz1, hz2, hq⟩ := hq
  refine clSX_L_onShare hG hC ssx_L_230 ⟨by decide, by decide⟩ (Nat.le_of_ble_eq_true rfl) ⟨hz1, hz2⟩ dL_law_2138 hq (fun r1 h2 hq => ?_)
  show V G Γ 9 (uc + 1) (us + 6) h2 2141 [(0, .ref b), (1, .ref px), (2, .ref pm), (3, .ref po), (4, .ref pd), (5, .int i)] [.int r1]
  refine V_istore (L' := [(0, .ref b), (1, .ref px), (2, .ref pm), (3, .ref po), (4, .ref pd), (5, .int i), (6, .int r1)]) hC dL_law_2141 (by decide) [1, 2, 3, 4, 5, 6, 0] rfl ?_
  refine V_aload_n hC dL_law_2143 2 rfl ?_
  obtain ⟨hz, hq⟩ := hq
  refine clV_X12_onShare hG hC sv_L_233 ⟨by decide, by decide⟩ (Nat.le_of_ble_eq_true rfl) ⟨by omega, by omega⟩ dL_law_2144 hz hq (fun r3 h4 hq => ?_)
  show V G Γ 9 (uc + 1) (us + 6) h4 2147 [(0, .ref b), (1, .ref px), (2, .ref pm), (3, .ref po), (4, .ref pd), (5, .int i), (6, .int r1)] [.float r3]
  refine V_fstore (L' := [(0, .ref b), (1, .ref px), (2, .ref pm), (3, .ref po), (4, .ref pd), (5, .int i), (6, .int r1), (7, .float r3)]) hC dL_law_2147 (by decide) [1, 2, 3, 4, 5, 6, 7, 0] rfl ?_
  refine V_aload_n hC dL_law_2149 2 rfl ?_
  obtain ⟨hz, hq⟩ := hq
  refine clV_X12_thrown hG hC sv_L_132 ⟨by decide, by decide⟩ (Nat.le_of_ble_eq_true rfl) ⟨by omega, by omega⟩ dL_law_2150 hz hq (fun r5 hq => ?_)
  show V G Γ 9 (uc + 1) (us + 6) h4 2153 [(0, .ref b), (1, .ref px), (2, .ref pm), (3, .ref po), (4, .ref pd), (5, .int i), (6, .int r1), (7, .float r3)] [.int r5]
  refine V_iload hC dL_law_2153 6 rfl ?_
  refine V_icmp_eq (tgt := 2160) hC dL_law_2155 (by decide) (fun hc => ?_) (fun hc => ?_)
  · have hq := hq.1 hc
    refine V_iload hC dL_law_2160 6 rfl ?_
    have hq := hq (V G Γ 9 (uc + 1) (us + 6) h4 2198 [(0, .ref b), (1, .ref px), (2, .ref pm), (3, .ref po), (4, .ref pd), (5, .int i)] []) (by
      intro hq
      show V G Γ 9 (uc + 1) (us + 6) h4 2198 [(0, .ref b), (1, .ref px), (2, .ref pm), (3, .ref po), (4, .ref pd), (5, .int i)] []
      refine V_goto (tgt := 2279) hC dL_law_2198 (by decide) ?_
      exact hJ _ _ _ hq (by omega) (by omega))
    refine V_if_ne (tgt := 2198) hC dL_law_2162 (by decide) (fun hc => ?_) (fun hc => ?_)
    · have hq := hq.1 hc
      refine V_sub [0, 1, 2, 3, 4, 5] rfl ?_
      exact hq
    · have hq := hq.2 hc
      refine V_aload hC dL_law_2165 4 rfl ?_
      refine V_iconst (v := 0) hC dL_law_2167 (by decide) ?_
      refine U_ldD hC dL_law_2168 hq (fun v6 hq => ?_)
      refine V_fload hC dL_law_2169 7 rfl ?_
      obtain ⟨hz, hq⟩ := hq
      refine V_f2d hC dL_law_2171 hz ?_
      refine V_dcmp hC dL_law_2172 ?_
      refine V_if_eq (tgt := 2198) hC dL_law_2173 (by decide) (fun hc => ?_) (fun hc => ?_)
      · have hq := hq.1 hc
        refine V_sub [0, 1, 2, 3, 4, 5] rfl ?_
        exact hq
      · have hq := hq.2 hc
        refine V_aload hC dL_law_2176 4 rfl ?_
        refine V_iconst (v := 0) hC dL_law_2178 (by decide) ?_
        refine U_ldD hC dL_law_2179 hq (fun v7 hq => ?_)
        refine V_aload hC dL_law_2180 4 rfl ?_
        refine V_iconst (v := 0) hC dL_law_2182 (by decide) ?_
        refine U_ldD hC dL_law_2183 hq (fun v8 hq => ?_)
        refine V_dcmp hC dL_law_2184 ?_
        refine V_if_eq (tgt := 2196) hC dL_law_2185 (by decide) (fun hc => ?_) (fun hc => ?_)
        · have hq := hq.1 hc
          refine V_iconst (v := 0) hC dL_law_2196 (by decide) ?_
          exact hq.elim
        · have hq := hq.2 hc
          refine V_fload hC dL_law_2188 7 rfl ?_
          refine V_fload hC dL_law_2190 7 rfl ?_
          refine V_fcmp hC dL_law_2192 ?_
          refine V_if_ne (tgt := 2198) hC dL_law_2193 (by decide) (fun hc => ?_) (fun hc => ?_)
          · have hq := hq.1 hc
            refine V_sub [0, 1, 2, 3, 4, 5] rfl ?_
            exact hq
          · have hq := hq.2 hc
            refine V_iconst (v := 0) hC dL_law_2196 (by decide) ?_
            exact hq.elim
  · have hq := hq.2 hc
    refine V_iconst (v := 0) hC dL_law_2158 (by decide) ?_
    exact hq.elim
set_option maxRecDepth 100000 in
set_option maxHeartbeats 4000000 in
theorem ct_law_2201 {G : Gx} (hG : GOK G) {Γ : Cx} (hC : COK G Γ "BandplanLaw" cL_law 9 2048 94400 603072 7219306 []) (hE : LEND G Γ) {b N : Nat} {xs : Nat → Int32} (hX : LSCR G Γ b N xs) (px pm po pd : Nat) (i : Int32) (h0 : hw) (uc us : Nat) (J : hw → Nat → Nat → Prop) (hJ : ∀ (h1 : hw) (c1 u1 : Nat), J h1 c1 u1 → c1 ≤ 603072 → u1 ≤ 7219306 → V G Γ 9 c1 u1 h1 2279 [(0, .ref b), (1, .ref px), (2, .ref pm), (3, .ref po), (4, .ref pd), (5, .int i)] []) (hq : wp_law_2201 G N xs px pm po pd i h0 uc us J) (hu1 : uc ≤ 603072) (hu2 : us ≤ 7219306) : V G Γ 9 uc us h0 2201 [(0, .ref b), (1, .ref px), (2, .ref pm), (3, .ref po), (4, .ref pd), (5, .int i)] [] := by
  unfold wp_law_2201 at hq
  refine V_aload_n hC dL_law_2201 1 rfl ?_
  refine V_aload hC dL_law_2202 4 rfl ?_
  obtain ⟨hz1, hz2, hq⟩ := hq
  refine clSX_L_meanLevel hG hC ssx_L_234 ⟨by decide, by decide⟩ (Nat.le_of_ble_eq_true rfl) ⟨hz1, hz2⟩ dL_law_2204 hq (fun r1 h2 hq => ?_)
  show V G Γ 9 (uc + 1) (us + 6) h2 2207 [(0, .ref b), (1, .ref px), (2, .ref pm), (3, .ref po), (4, .ref pd), (5, .int i)] [.int r1]
  refine V_istore (L' := [(0, .ref b), (1, .ref px), (2, .ref pm), (3, .ref po), (4, .ref pd), (5, .int i), (6, .int r1)]) hC dL_law_2207 (by decide) [1, 2, 3, 4, 5, 6, 0] rfl ?_
  refine V_aload_n hC dL_law_2209 2 rfl ?_
  obtain ⟨hz, hq⟩ := hq
  refine clV_X12_meanLevel hG hC sv_L_236 ⟨by decide, by decide⟩ (Nat.le_of_ble_eq_true rfl) ⟨by omega, by omega⟩ dL_law_2210 hz hq (fun r3 h4 hq => ?_)
  show V G Γ 9 (uc + 1) (us + 6) h4 2213 [(0, .ref b), (1, .ref px), (2, .ref pm), (3, .ref po), (4, .ref pd), (5, .int i), (6, .int r1)] [.double r3]
  refine V_dstore (L' := [(0, .ref b), (1, .ref px), (2, .ref pm), (3, .ref po), (4, .ref pd), (5, .int i), (6, .int r1), (7, .double r3)]) hC dL_law_2213 (by decide) [1, 2, 3, 4, 5, 6, 7, 0] rfl ?_
  refine V_aload_n hC dL_law_2215 2 rfl ?_
  obtain ⟨hz, hq⟩ := hq
  refine clV_X12_thrown hG hC sv_L_132 ⟨by decide, by decide⟩ (Nat.le_of_ble_eq_true rfl) ⟨by omega, by omega⟩ dL_law_2216 hz hq (fun r5 hq => ?_)
  show V G Γ 9 (uc + 1) (us + 6) h4 2219 [(0, .ref b), (1, .ref px), (2, .ref pm), (3, .ref po), (4, .ref pd), (5, .int i), (6, .int r1), (7, .double r3)] [.int r5]
  refine V_iload hC dL_law_2219 6 rfl ?_
  refine V_icmp_eq (tgt := 2226) hC dL_law_2221 (by decide) (fun hc => ?_) (fun hc => ?_)
  · have hq := hq.1 hc
    refine V_iload hC dL_law_2226 6 rfl ?_
    have hq := hq (V G Γ 9 (uc + 1) (us + 6) h4 2263 [(0, .ref b), (1, .ref px), (2, .ref pm), (3, .ref po), (4, .ref pd), (5, .int i)] []) (by
      intro hq
      show V G Γ 9 (uc + 1) (us + 6) h4 2263 [(0, .ref b), (1, .ref px), (2, .ref pm), (3, .ref po), (4, .ref pd), (5, .int i)] []
      refine V_goto (tgt := 2279) hC dL_law_2263 (by decide) ?_
      exact hJ _ _ _ hq (by omega) (by omega))
    refine V_if_ne (tgt := 2263) hC dL_law_2228 (by decide) (fun hc => ?_) (fun hc => ?_)
    · have hq := hq.1 hc
      refine V_sub [0, 1, 2, 3, 4, 5] rfl ?_
      exact hq
    · have hq := hq.2 hc
      refine V_aload hC dL_law_2231 4 rfl ?_
      refine V_iconst (v := 0) hC dL_law_2233 (by decide) ?_
      refine U_ldD hC dL_law_2234 hq (fun v6 hq => ?_)
      refine V_dload hC dL_law_2235 7 rfl ?_
      refine V_dcmp hC dL_law_2237 ?_
      refine V_if_eq (tgt := 2263) hC dL_law_2238 (by decide) (fun hc => ?_) (fun hc => ?_)
      · have hq := hq.1 hc
        refine V_sub [0, 1, 2, 3, 4, 5] rfl ?_
        exact hq
      · have hq := hq.2 hc
        refine V_aload hC dL_law_2241 4 rfl ?_
        refine V_iconst (v := 0) hC dL_law_2243 (by decide) ?_
        refine U_ldD hC dL_law_2244 hq (fun v7 hq => ?_)
        refine V_aload hC dL_law_2245 4 rfl ?_
        refine V_iconst (v := 0) hC dL_law_2247 (by decide) ?_
        refine U_ldD hC dL_law_2248 hq (fun v8 hq => ?_)
        refine V_dcmp hC dL_law_2249 ?_
        refine V_if_eq (tgt := 2261) hC dL_law_2250 (by decide) (fun hc => ?_) (fun hc => ?_)
        · have hq := hq.1 hc
          refine V_iconst (v := 0) hC dL_law_2261 (by decide) ?_
          exact hq.elim
        · have hq := hq.2 hc
          refine V_dload hC dL_law_2253 7 rfl ?_
          refine V_dload hC dL_law_2255 7 rfl ?_
          refine V_dcmp hC dL_law_2257 ?_
          refine V_if_ne (tgt := 2263) hC dL_law_2258 (by decide) (fun hc => ?_) (fun hc => ?_)
          · have hq := hq.1 hc
            refine V_sub [0, 1, 2, 3, 4, 5] rfl ?_
            exact hq
          · have hq := hq.2 hc
            refine V_iconst (v := 0) hC dL_law_2261 (by decide) ?_
            exact hq.elim
  · have hq := hq.2 hc
    refine V_iconst (v := 0) hC dL_law_2224 (by decide) ?_
    exact hq.elim
set_option maxRecDepth 100000 in
set_option maxHeartbeats 4000000 in
theorem ct_law_2266 {G : Gx} (hG : GOK G) {Γ : Cx} (hC : COK G Γ "BandplanLaw" cL_law 9 2048 94400 603072 7219306 []) (hE : LEND G Γ) {b N : Nat} {xs : Nat → Int32} (hX : LSCR G Γ b N xs) (px pm po pd : Nat) (i : Int32) (h0 : hw) (uc us : Nat) (J : hw → Nat → Nat → Prop) (hJ : ∀ (h1 : hw) (c1 u1 : Nat), J h1 c1 u1 → c1 ≤ 603072 → u1 ≤ 7219306 → V G Γ 9 c1 u1 h1 2279 [(0, .ref b), (1, .ref px), (2, .ref pm), (3, .ref po), (4, .ref pd), (5, .int i)] []) (hq : wp_law_2266 G N xs px pm po pd i h0 uc us J) (hu1 : uc ≤ 603072) (hu2 : us ≤ 7219306) : V G Γ 9 uc us h0 2266 [(0, .ref b), (1, .ref px), (2, .ref pm), (3, .ref po), (4, .ref pd), (5, .int i)] [] := by
  unfold wp_law_2266 at hq
  refine V_aload_n hC dL_law_2266 1 rfl ?_
  obtain ⟨hz, hq⟩ := hq
  refine clV_X11_isSound hG hC sv_L_237 ⟨by decide, by decide⟩ (Nat.le_of_ble_eq_true rfl) ⟨by omega, by omega⟩ dL_law_2267 hz hq (fun r1 hq => ?_)
  show V G Γ 9 uc us h0 2270 [(0, .ref b), (1, .ref px), (2, .ref pm), (3, .ref po), (4, .ref pd), (5, .int i)] [.int r1]
  refine V_aload_n hC dL_law_2270 2 rfl ?_
  obtain ⟨hz, hq⟩ := hq
  refine clV_X12_isSound hG hC sv_L_241 ⟨by decide, by decide⟩ (Nat.le_of_ble_eq_true rfl) ⟨by omega, by omega⟩ dL_law_2271 hz hq (fun r2 h3 hq => ?_)
  show V G Γ 9 uc us h3 2274 [(0, .ref b), (1, .ref px), (2, .ref pm), (3, .ref po), (4, .ref pd), (5, .int i)] [.int r2, .int r1]
  refine V_icmp_eq (tgt := 2279) hC dL_law_2274 (by decide) (fun hc => ?_) (fun hc => ?_)
  · have hq := hq.1 hc
    exact hJ _ _ _ hq (by omega) (by omega)
  · have hq := hq.2 hc
    refine V_iconst (v := 0) hC dL_law_2277 (by decide) ?_
    exact hq.elim
