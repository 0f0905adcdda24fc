set_option maxRecDepth 100000 in
set_option maxHeartbeats 4000000 in
theorem ct_law_sw {G : Gx} (hG : GOK G) {Γ : Cx} (hC : COK G Γ "BandplanLaw" cL_law 9 2048 94400 603072 7219306 []) (hE : LEND G Γ) {b N : Nat} {xs : Nat → Int32} (hX : LSCR G Γ b N xs) (z : Int32) (px pm po pd : Nat) (i : Int32) (h0 : hw) (uc us : Nat) (J : hw → Nat → Nat → Prop) (hJ : ∀ (h1 : hw) (c1 u1 : Nat), J h1 c1 u1 → c1 ≤ 603072 → u1 ≤ 7219306 → V G Γ 9 c1 u1 h1 2279 [(0, .ref b), (1, .ref px), (2, .ref pm), (3, .ref po), (4, .ref pd), (5, .int i)] []) (hq : wp_law_sw G N xs z px pm po pd i h0 uc us J) (hu1 : uc ≤ 603072) (hu2 : us ≤ 7219306) : V G Γ 9 uc us h0 44 [(0, .ref b), (1, .ref px), (2, .ref pm), (3, .ref po), (4, .ref pd), (5, .int i)] [.int z] := by
  obtain ⟨k0, k1, k2, k3, k4, k5, k6, k7, k8, k9, k10, k11, k12, k13, k14, k15, k16, k17, k18, k19, k20, k21, k22, k23, k24, k25, k26, k27, k28, k29, k30, k31, k32, k33⟩ := hq
  rcases sw33 (Int32.toInt z) with hc | hc | hc | hc | hc | hc | hc | hc | hc | hc | hc | hc | hc | hc | hc | hc | hc | hc | hc | hc | hc | hc | hc | hc | hc | hc | hc | hc | hc | hc | hc | hc | hc | hc
  · refine V_tableIn (tgt := 192) (off := 148) hC dL_law_44 (by rw [hc]; decide) (by rw [hc]; decide) (by rw [hc]; rfl) (by decide) ?_
    exact ct_law_192 hG hC hE hX px pm po pd i h0 uc us J hJ (k0 hc) hu1 hu2
  · refine V_tableIn (tgt := 272) (off := 228) hC dL_law_44 (by rw [hc]; decide) (by rw [hc]; decide) (by rw [hc]; rfl) (by decide) ?_
    exact ct_law_272 hG hC hE hX px pm po pd i h0 uc us J hJ (k1 hc) hu1 hu2
  · refine V_tableIn (tgt := 352) (off := 308) hC dL_law_44 (by rw [hc]; decide) (by rw [hc]; decide) (by rw [hc]; rfl) (by decide) ?_
    exact ct_law_352 hG hC hE hX px pm po pd i h0 uc us J hJ (k2 hc) hu1 hu2
  · refine V_tableIn (tgt := 420) (off := 376) hC dL_law_44 (by rw [hc]; decide) (by rw [hc]; decide) (by rw [hc]; rfl) (by decide) ?_
    exact ct_law_420 hG hC hE hX px pm po pd i h0 uc us J hJ (k3 hc) hu1 hu2
  · refine V_tableIn (tgt := 528) (off := 484) hC dL_law_44 (by rw [hc]; decide) (by rw [hc]; decide) (by rw [hc]; rfl) (by decide) ?_
    exact ct_law_528 hG hC hE hX px pm po pd i h0 uc us J hJ (k4 hc) hu1 hu2
  · refine V_tableIn (tgt := 584) (off := 540) hC dL_law_44 (by rw [hc]; decide) (by rw [hc]; decide) (by rw [hc]; rfl) (by decide) ?_
    exact ct_law_584 hG hC hE hX px pm po pd i h0 uc us J hJ (k5 hc) hu1 hu2
  · refine V_tableIn (tgt := 640) (off := 596) hC dL_law_44 (by rw [hc]; decide) (by rw [hc]; decide) (by rw [hc]; rfl) (by decide) ?_
    exact ct_law_640 hG hC hE hX px pm po pd i h0 uc us J hJ (k6 hc) hu1 hu2
  · refine V_tableIn (tgt := 696) (off := 652) hC dL_law_44 (by rw [hc]; decide) (by rw [hc]; decide) (by rw [hc]; rfl) (by decide) ?_
    exact ct_law_696 hG hC hE hX px pm po pd i h0 uc us J hJ (k7 hc) hu1 hu2
  · refine V_tableIn (tgt := 759) (off := 715) hC dL_law_44 (by rw [hc]; decide) (by rw [hc]; decide) (by rw [hc]; rfl) (by decide) ?_
    exact ct_law_759 hG hC hE hX px pm po pd i h0 uc us J hJ (k8 hc) hu1 hu2
  · refine V_tableIn (tgt := 858) (off := 814) hC dL_law_44 (by rw [hc]; decide) (by rw [hc]; decide) (by rw [hc]; rfl) (by decide) ?_
    exact ct_law_858 hG hC hE hX px pm po pd i h0 uc us J hJ (k9 hc) hu1 hu2
  · refine V_tableIn (tgt := 926) (off := 882) hC dL_law_44 (by rw [hc]; decide) (by rw [hc]; decide) (by rw [hc]; rfl) (by decide) ?_
    exact ct_law_926 hG hC hE hX px pm po pd i h0 uc us J hJ (k10 hc) hu1 hu2
  · refine V_tableIn (tgt := 982) (off := 938) hC dL_law_44 (by rw [hc]; decide) (by rw [hc]; decide) (by rw [hc]; rfl) (by decide) ?_
    exact ct_law_982 hG hC hE hX px pm po pd i h0 uc us J hJ (k11 hc) hu1 hu2
  · refine V_tableIn (tgt := 1050) (off := 1006) hC dL_law_44 (by rw [hc]; decide) (by rw [hc]; decide) (by rw [hc]; rfl) (by decide) ?_
    exact ct_law_1050 hG hC hE hX px pm po pd i h0 uc us J hJ (k12 hc) hu1 hu2
  · refine V_tableIn (tgt := 1141) (off := 1097) hC dL_law_44 (by rw [hc]; decide) (by rw [hc]; decide) (by rw [hc]; rfl) (by decide) ?_
    exact ct_law_1141 hG hC hE hX px pm po pd i h0 uc us J hJ (k13 hc) hu1 hu2
  · refine V_tableIn (tgt := 1209) (off := 1165) hC dL_law_44 (by rw [hc]; decide) (by rw [hc]; decide) (by rw [hc]; rfl) (by decide) ?_
    exact ct_law_1209 hG hC hE hX px pm po pd i h0 uc us J hJ (k14 hc) hu1 hu2
  · refine V_tableIn (tgt := 1284) (off := 1240) hC dL_law_44 (by rw [hc]; decide) (by rw [hc]; decide) (by rw [hc]; rfl) (by decide) ?_
    exact ct_law_1284 hG hC hE hX px pm po pd i h0 uc us J hJ (k15 hc) hu1 hu2
  · refine V_tableIn (tgt := 1359) (off := 1315) hC dL_law_44 (by rw [hc]; decide) (by rw [hc]; decide) (by rw [hc]; rfl) (by decide) ?_
    exact ct_law_1359 hG hC hE hX px pm po pd i h0 uc us J hJ (k16 hc) hu1 hu2
  · refine V_tableIn (tgt := 1415) (off := 1371) hC dL_law_44 (by rw [hc]; decide) (by rw [hc]; decide) (by rw [hc]; rfl) (by decide) ?_
    exact ct_law_1415 hG hC hE hX px pm po pd i h0 uc us J hJ (k17 hc) hu1 hu2
  · refine V_tableIn (tgt := 1478) (off := 1434) hC dL_law_44 (by rw [hc]; decide) (by rw [hc]; decide) (by rw [hc]; rfl) (by decide) ?_
    exact ct_law_1478 hG hC hE hX px pm po pd i h0 uc us J hJ (k18 hc) hu1 hu2
  · refine V_tableIn (tgt := 1546) (off := 1502) hC dL_law_44 (by rw [hc]; decide) (by rw [hc]; decide) (by rw [hc]; rfl) (by decide) ?_
    exact ct_law_1546 hG hC hE hX px pm po pd i h0 uc us J hJ (k19 hc) hu1 hu2
  · refine V_tableIn (tgt := 1614) (off := 1570) hC dL_law_44 (by rw [hc]; decide) (by rw [hc]; decide) (by rw [hc]; rfl) (by decide) ?_
    exact ct_law_1614 hG hC hE hX px pm po pd i h0 uc us J hJ (k20 hc) hu1 hu2
  · refine V_tableIn (tgt := 1694) (off := 1650) hC dL_law_44 (by rw [hc]; decide) (by rw [hc]; decide) (by rw [hc]; rfl) (by decide) ?_
    exact ct_law_1694 hG hC hE hX px pm po pd i h0 uc us J hJ (k21 hc) hu1 hu2
  · refine V_tableIn (tgt := 1750) (off := 1706) hC dL_law_44 (by rw [hc]; decide) (by rw [hc]; decide) (by rw [hc]; rfl) (by decide) ?_
    exact ct_law_1750 hG hC hE hX px pm po pd i h0 uc us J hJ (k22 hc) hu1 hu2
  · refine V_tableIn (tgt := 1763) (off := 1719) hC dL_law_44 (by rw [hc]; decide) (by rw [hc]; decide) (by rw [hc]; rfl) (by decide) ?_
    exact ct_law_1763 hG hC hE hX px pm po pd i h0 uc us J hJ (k23 hc) hu1 hu2
  · refine V_tableIn (tgt := 1843) (off := 1799) hC dL_law_44 (by rw [hc]; decide) (by rw [hc]; decide) (by rw [hc]; rfl) (by decide) ?_
    exact ct_law_1843 hG hC hE hX px pm po pd i h0 uc us J hJ (k24 hc) hu1 hu2
  · refine V_tableIn (tgt := 1899) (off := 1855) hC dL_law_44 (by rw [hc]; decide) (by rw [hc]; decide) (by rw [hc]; rfl) (by decide) ?_
    exact ct_law_1899 hG hC hE hX px pm po pd i h0 uc us J hJ (k25 hc) hu1 hu2
  · refine V_tableIn (tgt := 1955) (off := 1911) hC dL_law_44 (by rw [hc]; decide) (by rw [hc]; decide) (by rw [hc]; rfl) (by decide) ?_
    exact ct_law_1955 hG hC hE hX px pm po pd i h0 uc us J hJ (k26 hc) hu1 hu2
  · refine V_tableIn (tgt := 2010) (off := 1966) hC dL_law_44 (by rw [hc]; decide) (by rw [hc]; decide) (by rw [hc]; rfl) (by decide) ?_
    exact ct_law_2010 hG hC hE hX px pm po pd i h0 uc us J hJ (k27 hc) hu1 hu2
  · refine V_tableIn (tgt := 2066) (off := 2022) hC dL_law_44 (by rw [hc]; decide) (by rw [hc]; decide) (by rw [hc]; rfl) (by decide) ?_
    exact ct_law_2066 hG hC hE hX px pm po pd i h0 uc us J hJ (k28 hc) hu1 hu2
  · refine V_tableIn (tgt := 2122) (off := 2078) hC dL_law_44 (by rw [hc]; decide) (by rw [hc]; decide) (by rw [hc]; rfl) (by decide) ?_
    exact ct_law_2122 hG hC hE hX px pm po pd i h0 uc us J hJ (k29 hc) hu1 hu2
  · refine V_tableIn (tgt := 2135) (off := 2091) hC dL_law_44 (by rw [hc]; decide) (by rw [hc]; decide) (by rw [hc]; rfl) (by decide) ?_
    exact ct_law_2135 hG hC hE hX px pm po pd i h0 uc us J hJ (k30 hc) hu1 hu2
  · refine V_tableIn (tgt := 2201) (off := 2157) hC dL_law_44 (by rw [hc]; decide) (by rw [hc]; decide) (by rw [hc]; rfl) (by decide) ?_
    exact ct_law_2201 hG hC hE hX px pm po pd i h0 uc us J hJ (k31 hc) hu1 hu2
  · refine V_tableIn (tgt := 2266) (off := 2222) hC dL_law_44 (by rw [hc]; decide) (by rw [hc]; decide) (by rw [hc]; rfl) (by decide) ?_
    exact ct_law_2266 hG hC hE hX px pm po pd i h0 uc us J hJ (k32 hc) hu1 hu2
  · refine V_tableOut (tgt := 2279) hC dL_law_44 hc (by decide) ?_
    exact hJ _ _ _ (k33 hc) hu1 hu2
