set_option maxRecDepth 100000 in
set_option maxHeartbeats 8000000 in
theorem ct_law {G : Gx} (hG : GOK G) {Γ : Cx} (hC : COK G Γ "BandplanLaw" cL_law 9 2048 94400 603072 7219306 []) (hE : LEND G Γ) {b N : Nat} {xs : Nat → Int32} (hX : LSCR G Γ b N xs) (h0 : hw) (hq : wp_law G b N xs h0) : V G Γ 9 0 0 h0 0 [(0, .ref b)] [] := by
  unfold wp_law at hq
  obtain ⟨hz1, hz2, hq⟩ := hq
  refine U_new hC no_L_8 ⟨hz1, hz2⟩ dL_law_0 hq (fun a1 h2 hq => ?_)
  refine V_dup hC dL_law_3 rfl ?_
  obtain ⟨hz1, hz2, hq⟩ := hq
  refine clI_X11_init hG hC si_L_122 ⟨by decide, by decide⟩ (Nat.le_of_ble_eq_true rfl) ⟨hz1, hz2⟩ dL_law_4 hq (fun h3 hq => ?_)
  show V G Γ 9 ((0 + 1) + 50) ((0 + 8) + 5192) h3 7 [(0, .ref b)] [.ref a1]
  refine V_astore_n (L' := [(0, .ref b), (1, .ref a1)]) hC dL_law_7 rfl (by decide) [1, 0] rfl ?_
  obtain ⟨hz1, hz2, hq⟩ := hq
  refine U_new hC no_L_123 ⟨hz1, hz2⟩ dL_law_8 hq (fun a4 h5 hq => ?_)
  refine V_dup hC dL_law_11 rfl ?_
  obtain ⟨hz1, hz2, hq⟩ := hq
  refine clI_X12_init hG hC si_L_125 ⟨by decide, by decide⟩ (Nat.le_of_ble_eq_true rfl) ⟨hz1, hz2⟩ dL_law_12 hq (fun h6 hq => ?_)
  show V G Γ 9 ((((0 + 1) + 50) + 1) + 26) ((((0 + 8) + 5192) + 36) + 709) h6 15 [(0, .ref b), (1, .ref a1)] [.ref a4]
  refine V_astore_n (L' := [(0, .ref b), (1, .ref a1), (2, .ref a4)]) hC dL_law_15 rfl (by decide) [1, 2, 0] rfl ?_
  refine V_iconst (v := 1) hC dL_law_16 (by decide) ?_
  obtain ⟨hz1, hz2, hq⟩ := hq
  refine U_newaJ (room := 1) hC aw_6_129 ⟨hz1, hz2⟩ dL_law_17 hq (fun a7 h8 hq => ?_)
  refine V_astore_n (L' := [(0, .ref b), (1, .ref a1), (2, .ref a4), (3, .ref a7)]) hC dL_law_19 rfl (by decide) [1, 2, 3, 0] rfl ?_
  refine V_iconst (v := 1) hC dL_law_20 (by decide) ?_
  obtain ⟨hz1, hz2, hq⟩ := hq
  refine U_newaD (room := 1) hC aw_7_183 ⟨hz1, hz2⟩ dL_law_21 hq (fun a9 h10 hq => ?_)
  refine V_astore (L' := [(0, .ref b), (1, .ref a1), (2, .ref a4), (3, .ref a7), (4, .ref a9)]) hC dL_law_23 (by decide) [1, 2, 3, 4, 0] rfl ?_
  refine V_iconst (v := 0) hC dL_law_25 (by decide) ?_
  refine V_istore (L' := [(0, .ref b), (1, .ref a1), (2, .ref a4), (3, .ref a7), (4, .ref a9), (5, .int 0)]) hC dL_law_26 (by decide) [1, 2, 3, 4, 5, 0] rfl ?_
  have hq := hq (fun (x5_11 : Int32) (h12 : hw) (uc13 : Nat) (us14 : Nat) => uc13 ≤ 603072 → us14 ≤ 7219306 → V G Γ 9 uc13 us14 h12 28 [(0, .ref b), (1, .ref a1), (2, .ref a4), (3, .ref a7), (4, .ref a9), (5, .int x5_11)] []) (by
    intro x5_11 h12 uc13 us14 hq hu1 hu2
    show V G Γ 9 uc13 us14 h12 28 [(0, .ref b), (1, .ref a1), (2, .ref a4), (3, .ref a7), (4, .ref a9), (5, .int x5_11)] []
    refine V_iload hC dL_law_28 5 rfl ?_
    refine V_aload_n hC dL_law_30 0 rfl ?_
    refine V_slen hC hX dL_law_31 ?_
    refine V_iconst (v := 5) hC dL_law_32 (by decide) ?_
    refine V_isub hC dL_law_33 ?_
    refine V_icmp_gt (tgt := 2285) hC dL_law_34 (by decide) (fun hc => ?_) (fun hc => ?_)
    · have hq := hq.1 hc
      refine V_iconst (v := 1) hC dL_law_2285 (by decide) ?_
      exact V_lawret hE hq dL_law_2286
    · have hq := hq.2 hc
      refine V_aload_n hC dL_law_37 0 rfl ?_
      refine V_iload hC dL_law_38 5 rfl ?_
      obtain ⟨hz, hq⟩ := hq
      refine V_sld hC hX hz dL_law_40 ?_
      refine V_bipush (v := 63) hC dL_law_41 (by decide) ?_
      refine V_iand hC dL_law_43 ?_
      have hq := hq (fun (h15 : hw) (uc16 : Nat) (us17 : Nat) => uc16 ≤ 603072 → us17 ≤ 7219306 → V G Γ 9 uc16 us17 h15 2279 [(0, .ref b), (1, .ref a1), (2, .ref a4), (3, .ref a7), (4, .ref a9), (5, .int x5_11)] []) (by
        intro h15 uc16 us17 hq hu1 hu2
        show V G Γ 9 uc16 us17 h15 2279 [(0, .ref b), (1, .ref a1), (2, .ref a4), (3, .ref a7), (4, .ref a9), (5, .int x5_11)] []
        refine V_iinc (j := 5) (v := (x5_11 + 5)) (L' := [(0, .ref b), (1, .ref a1), (2, .ref a4), (3, .ref a7), (4, .ref a9), (5, .int (x5_11 + 5))]) hC dL_law_2279 rfl rfl (by decide) [1, 2, 3, 4, 5, 0] rfl ?_
        refine V_goto (tgt := 28) hC dL_law_2282 (by decide) ?_
        exact hq (by omega) (by omega))
      exact ct_law_sw hG hC hE hX ((xs (Int32.toNatClampNeg x5_11)) &&& 63) a1 a4 a7 a9 x5_11 h12 uc13 us14 _ (fun h1 c1 u1 z1 z2 z3 => z1 z2 z3) hq (by omega) (by omega))
  exact hq (by omega) (by omega)
