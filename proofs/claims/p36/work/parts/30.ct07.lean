set_option maxRecDepth 100000 in
set_option maxHeartbeats 8000000 in
theorem ct_law {G : Gx} (hG : GOK G) {Γ : Cx} (hC : COK G Γ "BandplanLaw" cL_law 12 2048 94400 926731 6314567 []) (hE : LEND G Γ) {b : Nat} (h0 : hw) (hq : wp_law G b h0) : V G Γ 12 0 0 h0 0 [(0, .ref b)] [] := by
  unfold wp_law at hq
  obtain ⟨hz1, hz2, hq⟩ := hq
  refine U_new hC no_L_16 ⟨hz1, hz2⟩ dL_law_0 hq (fun a1 h2 hq => ?_)
  refine V_dup hC dL_law_3 rfl ?_
  obtain ⟨hz1, hz2, hq⟩ := hq
  refine clI_X11_init hG hC si_L_162 ⟨by decide, by decide⟩ (Nat.le_of_ble_eq_true rfl) ⟨hz1, hz2⟩ dL_law_4 hq (fun h3 hq => ?_)
  show V G Γ 12 ((0 + 1) + 50) ((0 + 8) + 5192) h3 7 [(0, .ref b)] [.ref a1]
  refine V_astore_n (L' := [(0, .ref b), (1, .ref a1)]) hC dL_law_7 rfl (by decide) [1, 0] rfl ?_
  refine V_aload_n hC dL_law_8 1 rfl ?_
  refine V_aload_n hC dL_law_9 0 rfl ?_
  obtain ⟨bc4, bs5, hz1, hz2, hq⟩ := hq
  refine clS_L_build hG hC ss_L_163 ⟨by decide, by decide⟩ (Nat.le_of_ble_eq_true rfl) ⟨hz1, hz2⟩ dL_law_10 hq (fun h6 hq => ?_)
  show V G Γ 12 (((0 + 1) + 50) + bc4) (((0 + 8) + 5192) + bs5) h6 13 [(0, .ref b), (1, .ref a1)] []
  refine V_iconst (v := 0) hC dL_law_13 (by decide) ?_
  refine V_istore_n (L' := [(0, .ref b), (1, .ref a1), (2, .int 0)]) hC dL_law_14 rfl (by decide) [1, 2, 0] rfl ?_
  have hq := hq (fun (x2_7 : Int32) (h8 : hw) (uc9 : Nat) (us10 : Nat) => uc9 ≤ 926731 → us10 ≤ 6314567 → V G Γ 12 uc9 us10 h8 15 [(0, .ref b), (1, .ref a1), (2, .int x2_7)] []) (by
    intro x2_7 h8 uc9 us10 hq hu1 hu2
    show V G Γ 12 uc9 us10 h8 15 [(0, .ref b), (1, .ref a1), (2, .int x2_7)] []
    refine V_iload_n hC dL_law_15 2 rfl ?_
    refine V_iconst (v := 4) hC dL_law_16 (by decide) ?_
    refine V_icmp_ge (tgt := 55) hC dL_law_17 (by decide) (fun hc => ?_) (fun hc => ?_)
    · have hq := hq.1 hc
      refine V_aload_n hC dL_law_55 1 rfl ?_
      obtain ⟨bc11, bs12, hz1, hz2, hq⟩ := hq
      refine clS_L_areLosses hG hC ss_L_167 ⟨by decide, by decide⟩ (Nat.le_of_ble_eq_true rfl) ⟨hz1, hz2⟩ dL_law_56 hq (fun r13 h14 hq => ?_)
      show V G Γ 12 (uc9 + bc11) (us10 + bs12) h14 59 [(0, .ref b), (1, .ref a1), (2, .int x2_7)] [.int r13]
      have hq := hq (fun (t15 : Int32) (h16 : hw) (uc17 : Nat) (us18 : Nat) => uc17 ≤ 926731 → us18 ≤ 6314567 → V G Γ 12 uc17 us18 h16 75 [(0, .ref b), (1, .ref a1)] [.int t15]) (by
        intro t15 h16 uc17 us18 hq hu1 hu2
        show V G Γ 12 uc17 us18 h16 75 [(0, .ref b), (1, .ref a1)] [.int t15]
        refine V_istore_n (L' := [(0, .ref b), (1, .ref a1), (2, .int t15)]) hC dL_law_75 rfl (by decide) [1, 2, 0] rfl ?_
        refine V_iconst (v := 0) hC dL_law_76 (by decide) ?_
        refine V_istore_n (L' := [(0, .ref b), (1, .ref a1), (2, .int t15), (3, .int 0)]) hC dL_law_77 rfl (by decide) [1, 2, 3, 0] rfl ?_
        refine V_iconst (v := 0) hC dL_law_78 (by decide) ?_
        refine V_istore (L' := [(0, .ref b), (1, .ref a1), (2, .int t15), (3, .int 0), (4, .int 0)]) hC dL_law_79 (by decide) [1, 2, 3, 4, 0] rfl ?_
        refine V_iconst (v := 0) hC dL_law_81 (by decide) ?_
        refine V_istore (L' := [(0, .ref b), (1, .ref a1), (2, .int t15), (3, .int 0), (4, .int 0), (5, .int 0)]) hC dL_law_82 (by decide) [1, 2, 3, 4, 5, 0] rfl ?_
        have hq := hq (fun (x2_19 : Int32) (x3_20 : Int32) (x4_21 : Int32) (x5_22 : Int32) (h23 : hw) (uc24 : Nat) (us25 : Nat) => uc24 ≤ 926731 → us25 ≤ 6314567 → V G Γ 12 uc24 us25 h23 84 [(0, .ref b), (1, .ref a1), (2, .int x2_19), (3, .int x3_20), (4, .int x4_21), (5, .int x5_22)] []) (by
          intro x2_19 x3_20 x4_21 x5_22 h23 uc24 us25 hq hu1 hu2
          show V G Γ 12 uc24 us25 h23 84 [(0, .ref b), (1, .ref a1), (2, .int x2_19), (3, .int x3_20), (4, .int x4_21), (5, .int x5_22)] []
          refine V_iload hC dL_law_84 5 rfl ?_
          refine V_bipush (v := 40) hC dL_law_86 (by decide) ?_
          refine V_icmp_ge (tgt := 575) hC dL_law_88 (by decide) (fun hc => ?_) (fun hc => ?_)
          · have hq := hq.1 hc
            refine V_iload_n hC dL_law_575 2 rfl ?_
            exact V_lawret hE hq.1 hq.2 dL_law_576
          · have hq := hq.2 hc
            refine V_iload_n hC dL_law_91 2 rfl ?_
            refine V_if_eq (tgt := 575) hC dL_law_92 (by decide) (fun hc => ?_) (fun hc => ?_)
            · have hq := hq.1 hc
              refine V_iload_n hC dL_law_575 2 rfl ?_
              exact V_lawret hE hq.1 hq.2 dL_law_576
            · have hq := hq.2 hc
              refine V_sipush (v := 210) hC dL_law_95 (by decide) ?_
              refine V_bipush (v := 6) hC dL_law_98 (by decide) ?_
              refine V_iload hC dL_law_100 5 rfl ?_
              refine V_imul hC dL_law_102 ?_
              refine V_iadd hC dL_law_103 ?_
              refine V_istore (L' := [(0, .ref b), (1, .ref a1), (2, .int x2_19), (3, .int x3_20), (4, .int x4_21), (5, .int x5_22), (6, .int (210 + (6 * x5_22)))]) hC dL_law_104 (by decide) [1, 2, 3, 4, 5, 6, 0] rfl ?_
              refine V_aload_n hC dL_law_106 0 rfl ?_
              refine V_iload hC dL_law_107 6 rfl ?_
              refine V_iconst (v := 1) hC dL_law_109 (by decide) ?_
              refine V_iadd hC dL_law_110 ?_
              refine V_bipush (v := 6) hC dL_law_111 (by decide) ?_
              refine clS_L_pick hG hC ss_L_134 ⟨by decide, by decide⟩ (Nat.le_of_ble_eq_true rfl) ⟨by omega, by omega⟩ dL_law_113 hq (fun r26 hq => ?_)
              show V G Γ 12 uc24 us25 h23 116 [(0, .ref b), (1, .ref a1), (2, .int x2_19), (3, .int x3_20), (4, .int x4_21), (5, .int x5_22), (6, .int (210 + (6 * x5_22)))] [.int r26]
              refine V_istore (L' := [(0, .ref b), (1, .ref a1), (2, .int x2_19), (3, .int x3_20), (4, .int x4_21), (5, .int x5_22), (6, .int (210 + (6 * x5_22))), (7, .int r26)]) hC dL_law_116 (by decide) [1, 2, 3, 4, 5, 6, 7, 0] rfl ?_
              refine V_aload_n hC dL_law_118 0 rfl ?_
              refine V_iload hC dL_law_119 6 rfl ?_
              refine V_iconst (v := 2) hC dL_law_121 (by decide) ?_
              refine V_iadd hC dL_law_122 ?_
              refine V_bipush (v := 8) hC dL_law_123 (by decide) ?_
              refine clS_L_pick hG hC ss_L_134 ⟨by decide, by decide⟩ (Nat.le_of_ble_eq_true rfl) ⟨by omega, by omega⟩ dL_law_125 hq (fun r27 hq => ?_)
              show V G Γ 12 uc24 us25 h23 128 [(0, .ref b), (1, .ref a1), (2, .int x2_19), (3, .int x3_20), (4, .int x4_21), (5, .int x5_22), (6, .int (210 + (6 * x5_22))), (7, .int r26)] [.int r27]
              refine V_istore (L' := [(0, .ref b), (1, .ref a1), (2, .int x2_19), (3, .int x3_20), (4, .int x4_21), (5, .int x5_22), (6, .int (210 + (6 * x5_22))), (7, .int r26), (8, .int r27)]) hC dL_law_128 (by decide) [1, 2, 3, 4, 5, 6, 7, 8, 0] rfl ?_
              refine V_aload_n hC dL_law_130 1 rfl ?_
              refine V_bipush (v := 25) hC dL_law_131 (by decide) ?_
              refine V_iload hC dL_law_133 7 rfl ?_
              refine V_iload hC dL_law_135 4 rfl ?_
              obtain ⟨hz1, hz2, hq⟩ := hq
              refine clS_L_ask hG hC ss_L_138 ⟨by decide, by decide⟩ (Nat.le_of_ble_eq_true rfl) ⟨hz1, hz2⟩ dL_law_137 hq (fun r28 h29 hq => ?_)
              show V G Γ 12 (uc24 + 5) (us25 + 34) h29 140 [(0, .ref b), (1, .ref a1), (2, .int x2_19), (3, .int x3_20), (4, .int x4_21), (5, .int x5_22), (6, .int (210 + (6 * x5_22))), (7, .int r26), (8, .int r27)] [.int r28]
              refine V_istore (L' := [(0, .ref b), (1, .ref a1), (2, .int x2_19), (3, .int x3_20), (4, .int x4_21), (5, .int x5_22), (6, .int (210 + (6 * x5_22))), (7, .int r26), (8, .int r27), (9, .int r28)]) hC dL_law_140 (by decide) [1, 2, 3, 4, 5, 6, 7, 8, 9, 0] rfl ?_
              refine V_aload_n hC dL_law_142 0 rfl ?_
              refine V_iload hC dL_law_143 6 rfl ?_
              refine V_bipush (v := 12) hC dL_law_145 (by decide) ?_
              refine clS_L_pick hG hC ss_L_134 ⟨by decide, by decide⟩ (Nat.le_of_ble_eq_true rfl) ⟨by omega, by omega⟩ dL_law_147 hq (fun r30 hq => ?_)
              show V G Γ 12 (uc24 + 5) (us25 + 34) h29 150 [(0, .ref b), (1, .ref a1), (2, .int x2_19), (3, .int x3_20), (4, .int x4_21), (5, .int x5_22), (6, .int (210 + (6 * x5_22))), (7, .int r26), (8, .int r27), (9, .int r28)] [.int r30]
              have hq := hq (fun (x2_31 : Int32) (x3_32 : Int32) (x4_33 : Int32) (h34 : hw) (uc35 : Nat) (us36 : Nat) => uc35 ≤ 926731 → us36 ≤ 6314567 → V G Γ 12 uc35 us36 h34 548 [(0, .ref b), (1, .ref a1), (2, .int x2_31), (3, .int x3_32), (4, .int x4_33), (5, .int x5_22)] []) (by
                intro x2_31 x3_32 x4_33 h34 uc35 us36 hq hu1 hu2
                show V G Γ 12 uc35 us36 h34 548 [(0, .ref b), (1, .ref a1), (2, .int x2_31), (3, .int x3_32), (4, .int x4_33), (5, .int x5_22)] []
                refine V_iload_n hC dL_law_548 2 rfl ?_
                have hq := hq (fun (t37 : Int32) (h38 : hw) (uc39 : Nat) (us40 : Nat) => uc39 ≤ 926731 → us40 ≤ 6314567 → V G Γ 12 uc39 us40 h38 568 [(0, .ref b), (1, .ref a1), (3, .int x3_32), (4, .int x4_33), (5, .int x5_22)] [.int t37]) (by
                  intro t37 h38 uc39 us40 hq hu1 hu2
                  show V G Γ 12 uc39 us40 h38 568 [(0, .ref b), (1, .ref a1), (3, .int x3_32), (4, .int x4_33), (5, .int x5_22)] [.int t37]
                  refine V_istore_n (L' := [(0, .ref b), (1, .ref a1), (2, .int t37), (3, .int x3_32), (4, .int x4_33), (5, .int x5_22)]) hC dL_law_568 rfl (by decide) [1, 2, 0, 3, 4, 5] rfl ?_
                  refine V_iinc (j := 5) (v := (x5_22 + 1)) (L' := [(0, .ref b), (1, .ref a1), (2, .int t37), (3, .int x3_32), (4, .int x4_33), (5, .int (x5_22 + 1))]) hC dL_law_569 rfl rfl (by decide) [1, 2, 3, 4, 5, 0] rfl ?_
                  refine V_goto (tgt := 84) hC dL_law_572 (by decide) ?_
                  exact hq (by omega) (by omega))
                have hq := hq (fun (h41 : hw) (uc42 : Nat) (us43 : Nat) => uc42 ≤ 926731 → us43 ≤ 6314567 → V G Γ 12 uc42 us43 h41 567 [(0, .ref b), (1, .ref a1), (3, .int x3_32), (4, .int x4_33), (5, .int x5_22)] []) (by
                  intro h41 uc42 us43 hq hu1 hu2
                  show V G Γ 12 uc42 us43 h41 567 [(0, .ref b), (1, .ref a1), (3, .int x3_32), (4, .int x4_33), (5, .int x5_22)] []
                  refine V_iconst (v := 0) hC dL_law_567 (by decide) ?_
                  exact hq (by omega) (by omega))
                refine V_if_eq (tgt := 567) hC dL_law_549 (by decide) (fun hc => ?_) (fun hc => ?_)
                · have hq := hq.1 hc
                  refine V_sub [0, 1, 3, 4, 5] rfl ?_
                  exact hq (by omega) (by omega)
                · have hq := hq.2 hc
                  refine V_aload_n hC dL_law_552 1 rfl ?_
                  refine V_aload_n hC dL_law_553 0 rfl ?_
                  refine V_iload hC dL_law_554 4 rfl ?_
                  refine V_iload_n hC dL_law_556 3 rfl ?_
                  obtain ⟨bc44, bs45, hz1, hz2, hq⟩ := hq
                  refine clS_L_areKept hG hC ss_L_186 ⟨by decide, by decide⟩ (Nat.le_of_ble_eq_true rfl) ⟨hz1, hz2⟩ dL_law_557 hq (fun E h9 hx => hx.elim) (fun r46 h47 hq => ?_)
                  show V G Γ 12 (uc35 + bc44) (us36 + bs45) h47 560 [(0, .ref b), (1, .ref a1), (2, .int x2_31), (3, .int x3_32), (4, .int x4_33), (5, .int x5_22)] [.int r46]
                  refine V_if_eq (tgt := 567) hC dL_law_560 (by decide) (fun hc => ?_) (fun hc => ?_)
                  · have hq := hq.1 hc
                    refine V_sub [0, 1, 3, 4, 5] rfl ?_
                    exact hq (by omega) (by omega)
                  · have hq := hq.2 hc
                    refine V_iconst (v := 1) hC dL_law_563 (by decide) ?_
                    refine V_goto (tgt := 568) hC dL_law_564 (by decide) ?_
                    refine V_sub [0, 1, 3, 4, 5] rfl ?_
                    exact hq (by omega) (by omega))
              have hq := hq (V G Γ 12 (uc24 + 5) (us25 + 34) h29 200 [(0, .ref b), (1, .ref a1), (3, .int x3_20), (4, .int x4_21), (5, .int x5_22), (7, .int r26), (8, .int r27), (9, .int r28)] []) (by
                intro hq
                show V G Γ 12 (uc24 + 5) (us25 + 34) h29 200 [(0, .ref b), (1, .ref a1), (3, .int x3_20), (4, .int x4_21), (5, .int x5_22), (7, .int r26), (8, .int r27), (9, .int r28)] []
                refine V_aload_n hC dL_law_200 1 rfl ?_
                refine V_iconst (v := 4) hC dL_law_201 (by decide) ?_
                refine V_iload hC dL_law_202 5 rfl ?_
                refine V_iload hC dL_law_204 6 rfl ?_
                obtain ⟨hz1, hz2, hq⟩ := hq
                refine clS_L_ask hG hC ss_L_138 ⟨by decide, by decide⟩ (Nat.le_of_ble_eq_true rfl) ⟨hz1, hz2⟩ dL_law_206 hq (fun r48 h49 hq => ?_)
                show V G Γ 12 ((uc24 + 5) + 5) ((us25 + 34) + 34) h49 209 [(0, .ref b), (1, .ref a1), (3, .int x3_20), (4, .int x4_21), (5, .int x5_22), (7, .int r26), (8, .int r27), (9, .int r28)] [.int r48]
                refine V_istore (L' := [(0, .ref b), (1, .ref a1), (3, .int x3_20), (4, .int x4_21), (5, .int x5_22), (7, .int r26), (8, .int r27), (9, .int r28), (10, .int r48)]) hC dL_law_209 (by decide) [1, 2, 3, 4, 5, 6, 7, 8, 0] rfl ?_
                refine V_iload hC dL_law_211 8 rfl ?_
                have hq := hq (fun (t50 : Int32) (h51 : hw) (uc52 : Nat) (us53 : Nat) => uc52 ≤ 926731 → us53 ≤ 6314567 → V G Γ 12 uc52 us53 h51 289 [(0, .ref b), (1, .ref a1), (3, .int x3_20), (4, .int x4_21), (5, .int x5_22)] [.int t50]) (by
                  intro t50 h51 uc52 us53 hq hu1 hu2
                  show V G Γ 12 uc52 us53 h51 289 [(0, .ref b), (1, .ref a1), (3, .int x3_20), (4, .int x4_21), (5, .int x5_22)] [.int t50]
                  refine V_istore_n (L' := [(0, .ref b), (1, .ref a1), (2, .int t50), (3, .int x3_20), (4, .int x4_21), (5, .int x5_22)]) hC dL_law_289 rfl (by decide) [1, 2, 0, 3, 4, 5] rfl ?_
                  refine V_goto (tgt := 548) hC dL_law_290 (by decide) ?_
                  exact hq (by omega) (by omega))
                refine V_if_lt (tgt := 253) hC dL_law_213 (by decide) (fun hc => ?_) (fun hc => ?_)
                · have hq := hq.1 hc
                  refine V_aload_n hC dL_law_253 1 rfl ?_
                  refine V_bipush (v := 25) hC dL_law_254 (by decide) ?_
                  refine V_iload hC dL_law_256 5 rfl ?_
                  refine V_iload hC dL_law_258 3 rfl ?_
                  obtain ⟨hz1, hz2, hq⟩ := hq
                  refine clS_L_ask hG hC ss_L_138 ⟨by decide, by decide⟩ (Nat.le_of_ble_eq_true rfl) ⟨hz1, hz2⟩ dL_law_260 hq (fun r54 h55 hq => ?_)
                  show V G Γ 12 (((uc24 + 5) + 5) + 5) (((us25 + 34) + 34) + 34) h55 263 [(0, .ref b), (1, .ref a1), (3, .int x3_20), (4, .int x4_21), (5, .int x5_22), (7, .int r26), (8, .int r27), (9, .int r28), (10, .int r48)] [.int r54]
                  refine V_iload hC dL_law_263 7 rfl ?_
                  have hq := hq (V G Γ 12 (((uc24 + 5) + 5) + 5) (((us25 + 34) + 34) + 34) h55 288 [(0, .ref b), (1, .ref a1), (3, .int x3_20), (4, .int x4_21), (5, .int x5_22)] []) (by
                    intro hq
                    show V G Γ 12 (((uc24 + 5) + 5) + 5) (((us25 + 34) + 34) + 34) h55 288 [(0, .ref b), (1, .ref a1), (3, .int x3_20), (4, .int x4_21), (5, .int x5_22)] []
                    refine V_iconst (v := 0) hC dL_law_288 (by decide) ?_
                    exact hq (by omega) (by omega))
                  refine V_icmp_ne (tgt := 288) hC dL_law_265 (by decide) (fun hc => ?_) (fun hc => ?_)
                  · have hq := hq.1 hc
                    refine V_sub [0, 1, 2, 3, 4] rfl ?_
                    exact hq
                  · have hq := hq.2 hc
                    refine V_iload hC dL_law_268 8 rfl ?_
                    refine V_sipush (v := (-20004)) hC dL_law_270 (by decide) ?_
                    have hq := hq (V G Γ 12 (((uc24 + 5) + 5) + 5) (((us25 + 34) + 34) + 34) h55 284 [(0, .ref b), (1, .ref a1), (3, .int x3_20), (4, .int x4_21), (5, .int x5_22)] []) (by
                      intro hq
                      show V G Γ 12 (((uc24 + 5) + 5) + 5) (((us25 + 34) + 34) + 34) h55 284 [(0, .ref b), (1, .ref a1), (3, .int x3_20), (4, .int x4_21), (5, .int x5_22)] []
                      refine V_iconst (v := 1) hC dL_law_284 (by decide) ?_
                      refine V_goto (tgt := 289) hC dL_law_285 (by decide) ?_
                      exact hq (by omega) (by omega))
                    refine V_icmp_eq (tgt := 284) hC dL_law_273 (by decide) (fun hc => ?_) (fun hc => ?_)
                    · have hq := hq.1 hc
                      refine V_sub [0, 1, 2, 3, 4] rfl ?_
                      exact hq
                    · have hq := hq.2 hc
                      refine V_iload hC dL_law_276 8 rfl ?_
                      refine V_sipush (v := (-20003)) hC dL_law_278 (by decide) ?_
                      refine V_icmp_ne (tgt := 288) hC dL_law_281 (by decide) (fun hc => ?_) (fun hc => ?_)
                      · have hq := hq.1 hc
                        refine V_sub [0, 1, 2, 3, 4] rfl ?_
                        exact hq
                      · have hq := hq.2 hc
                        refine V_sub [0, 1, 2, 3, 4] rfl ?_
                        exact hq
                · have hq := hq.2 hc
                  refine V_aload_n hC dL_law_216 1 rfl ?_
                  refine V_bipush (v := 25) hC dL_law_217 (by decide) ?_
                  refine V_iload hC dL_law_219 5 rfl ?_
                  refine V_iload hC dL_law_221 3 rfl ?_
                  obtain ⟨hz1, hz2, hq⟩ := hq
                  refine clS_L_ask hG hC ss_L_138 ⟨by decide, by decide⟩ (Nat.le_of_ble_eq_true rfl) ⟨hz1, hz2⟩ dL_law_223 hq (fun r56 h57 hq => ?_)
                  show V G Γ 12 (((uc24 + 5) + 5) + 5) (((us25 + 34) + 34) + 34) h57 226 [(0, .ref b), (1, .ref a1), (3, .int x3_20), (4, .int x4_21), (5, .int x5_22), (7, .int r26), (8, .int r27), (9, .int r28), (10, .int r48)] [.int r56]
                  refine V_iload hC dL_law_226 6 rfl ?_
                  have hq := hq (V G Γ 12 (((uc24 + 5) + 5) + 5) (((us25 + 34) + 34) + 34) h57 249 [(0, .ref b), (1, .ref a1), (3, .int x3_20), (4, .int x4_21), (5, .int x5_22)] []) (by
                    intro hq
                    show V G Γ 12 (((uc24 + 5) + 5) + 5) (((us25 + 34) + 34) + 34) h57 249 [(0, .ref b), (1, .ref a1), (3, .int x3_20), (4, .int x4_21), (5, .int x5_22)] []
                    refine V_iconst (v := 0) hC dL_law_249 (by decide) ?_
                    refine V_goto (tgt := 289) hC dL_law_250 (by decide) ?_
                    exact hq (by omega) (by omega))
                  refine V_icmp_ne (tgt := 249) hC dL_law_228 (by decide) (fun hc => ?_) (fun hc => ?_)
                  · have hq := hq.1 hc
                    refine V_sub [0, 1, 2, 3, 4] rfl ?_
                    exact hq
                  · have hq := hq.2 hc
                    refine V_iload hC dL_law_231 8 rfl ?_
                    have hq := hq (V G Γ 12 (((uc24 + 5) + 5) + 5) (((us25 + 34) + 34) + 34) h57 245 [(0, .ref b), (1, .ref a1), (3, .int x3_20), (4, .int x4_21), (5, .int x5_22)] []) (by
                      intro hq
                      show V G Γ 12 (((uc24 + 5) + 5) + 5) (((us25 + 34) + 34) + 34) h57 245 [(0, .ref b), (1, .ref a1), (3, .int x3_20), (4, .int x4_21), (5, .int x5_22)] []
                      refine V_iconst (v := 1) hC dL_law_245 (by decide) ?_
                      refine V_goto (tgt := 289) hC dL_law_246 (by decide) ?_
                      exact hq (by omega) (by omega))
                    refine V_if_eq (tgt := 245) hC dL_law_233 (by decide) (fun hc => ?_) (fun hc => ?_)
                    · have hq := hq.1 hc
                      refine V_sub [0, 1, 2, 3, 4] rfl ?_
                      exact hq
                    · have hq := hq.2 hc
                      refine V_aload_n hC dL_law_236 0 rfl ?_
                      refine V_iload hC dL_law_237 5 rfl ?_
                      refine clS_L_isProtected hG hC ss_L_146 ⟨by decide, by decide⟩ (Nat.le_of_ble_eq_true rfl) ⟨by omega, by omega⟩ dL_law_239 hq (fun r58 hq => ?_)
                      show V G Γ 12 (((uc24 + 5) + 5) + 5) (((us25 + 34) + 34) + 34) h57 242 [(0, .ref b), (1, .ref a1), (3, .int x3_20), (4, .int x4_21), (5, .int x5_22), (7, .int r26), (8, .int r27), (9, .int r28), (10, .int r48)] [.int r58]
                      refine V_if_eq (tgt := 249) hC dL_law_242 (by decide) (fun hc => ?_) (fun hc => ?_)
                      · have hq := hq.1 hc
                        refine V_sub [0, 1, 2, 3, 4] rfl ?_
                        exact hq
                      · have hq := hq.2 hc
                        refine V_sub [0, 1, 2, 3, 4] rfl ?_
                        exact hq)
              obtain ⟨k0, k1, k2, k3, k4, k5, k6, k7, k8, k9⟩ := hq
              rcases sw_0_8 (Int32.toInt r30) with hc | hc | hc | hc | hc | hc | hc | hc | hc | hc
              · refine V_tableIn (tgt := 200) (off := 50) hC dL_law_150 (by rw [hc]; decide) (by rw [hc]; decide) (by rw [hc]; rfl) (by decide) ?_
                have hq := k0 hc
                refine V_sub [0, 1, 3, 4, 5, 7, 8, 9] rfl ?_
                exact hq
              · refine V_tableIn (tgt := 200) (off := 50) hC dL_law_150 (by rw [hc]; decide) (by rw [hc]; decide) (by rw [hc]; rfl) (by decide) ?_
                have hq := k1 hc
                refine V_sub [0, 1, 3, 4, 5, 7, 8, 9] rfl ?_
                exact hq
              · refine V_tableIn (tgt := 200) (off := 50) hC dL_law_150 (by rw [hc]; decide) (by rw [hc]; decide) (by rw [hc]; rfl) (by decide) ?_
                have hq := k2 hc
                refine V_sub [0, 1, 3, 4, 5, 7, 8, 9] rfl ?_
                exact hq
              · refine V_tableIn (tgt := 200) (off := 50) hC dL_law_150 (by rw [hc]; decide) (by rw [hc]; decide) (by rw [hc]; rfl) (by decide) ?_
                have hq := k3 hc
                refine V_sub [0, 1, 3, 4, 5, 7, 8, 9] rfl ?_
                exact hq
              · refine V_tableIn (tgt := 293) (off := 143) hC dL_law_150 (by rw [hc]; decide) (by rw [hc]; decide) (by rw [hc]; rfl) (by decide) ?_
                have hq := k4 hc
                refine V_aload_n hC dL_law_293 1 rfl ?_
                refine V_iconst (v := 5) hC dL_law_294 (by decide) ?_
                refine V_iload hC dL_law_295 7 rfl ?_
                refine V_iconst (v := 0) hC dL_law_297 (by decide) ?_
                obtain ⟨hz1, hz2, hq⟩ := hq
                refine clS_L_ask hG hC ss_L_138 ⟨by decide, by decide⟩ (Nat.le_of_ble_eq_true rfl) ⟨hz1, hz2⟩ dL_law_298 hq (fun r59 h60 hq => ?_)
                show V G Γ 12 ((uc24 + 5) + 5) ((us25 + 34) + 34) h60 301 [(0, .ref b), (1, .ref a1), (2, .int x2_19), (3, .int x3_20), (4, .int x4_21), (5, .int x5_22), (6, .int (210 + (6 * x5_22))), (7, .int r26), (8, .int r27), (9, .int r28)] [.int r59]
                refine V_iload hC dL_law_301 9 rfl ?_
                have hq := hq (fun (t61 : Int32) (h62 : hw) (uc63 : Nat) (us64 : Nat) => uc63 ≤ 926731 → us64 ≤ 6314567 → V G Γ 12 uc63 us64 h62 325 [(0, .ref b), (1, .ref a1), (3, .int x3_20), (4, .int x4_21), (5, .int x5_22)] [.int t61]) (by
                  intro t61 h62 uc63 us64 hq hu1 hu2
                  show V G Γ 12 uc63 us64 h62 325 [(0, .ref b), (1, .ref a1), (3, .int x3_20), (4, .int x4_21), (5, .int x5_22)] [.int t61]
                  refine V_istore_n (L' := [(0, .ref b), (1, .ref a1), (2, .int t61), (3, .int x3_20), (4, .int x4_21), (5, .int x5_22)]) hC dL_law_325 rfl (by decide) [1, 2, 0, 3, 4, 5] rfl ?_
                  refine V_goto (tgt := 548) hC dL_law_326 (by decide) ?_
                  exact hq (by omega) (by omega))
                have hq := hq (fun (h65 : hw) (uc66 : Nat) (us67 : Nat) => uc66 ≤ 926731 → us67 ≤ 6314567 → V G Γ 12 uc66 us67 h65 324 [(0, .ref b), (1, .ref a1), (3, .int x3_20), (4, .int x4_21), (5, .int x5_22)] []) (by
                  intro h65 uc66 us67 hq hu1 hu2
                  show V G Γ 12 uc66 us67 h65 324 [(0, .ref b), (1, .ref a1), (3, .int x3_20), (4, .int x4_21), (5, .int x5_22)] []
                  refine V_iconst (v := 0) hC dL_law_324 (by decide) ?_
                  exact hq (by omega) (by omega))
                refine V_icmp_ne (tgt := 324) hC dL_law_303 (by decide) (fun hc => ?_) (fun hc => ?_)
                · have hq := hq.1 hc
                  refine V_sub [0, 1, 3, 4, 5] rfl ?_
                  exact hq (by omega) (by omega)
                · have hq := hq.2 hc
                  refine V_aload_n hC dL_law_306 1 rfl ?_
                  refine V_bipush (v := 25) hC dL_law_307 (by decide) ?_
                  refine V_iload hC dL_law_309 7 rfl ?_
                  refine V_iload hC dL_law_311 4 rfl ?_
                  obtain ⟨hz1, hz2, hq⟩ := hq
                  refine clS_L_ask hG hC ss_L_138 ⟨by decide, by decide⟩ (Nat.le_of_ble_eq_true rfl) ⟨hz1, hz2⟩ dL_law_313 hq (fun r68 h69 hq => ?_)
                  show V G Γ 12 (((uc24 + 5) + 5) + 5) (((us25 + 34) + 34) + 34) h69 316 [(0, .ref b), (1, .ref a1), (2, .int x2_19), (3, .int x3_20), (4, .int x4_21), (5, .int x5_22), (6, .int (210 + (6 * x5_22))), (7, .int r26), (8, .int r27), (9, .int r28)] [.int r68]
                  refine V_iconst (v := (-1)) hC dL_law_316 (by decide) ?_
                  refine V_icmp_ne (tgt := 324) hC dL_law_317 (by decide) (fun hc => ?_) (fun hc => ?_)
                  · have hq := hq.1 hc
                    refine V_sub [0, 1, 3, 4, 5] rfl ?_
                    exact hq (by omega) (by omega)
                  · have hq := hq.2 hc
                    refine V_iconst (v := 1) hC dL_law_320 (by decide) ?_
                    refine V_goto (tgt := 325) hC dL_law_321 (by decide) ?_
                    refine V_sub [0, 1, 3, 4, 5] rfl ?_
                    exact hq (by omega) (by omega)
              · refine V_tableIn (tgt := 329) (off := 179) hC dL_law_150 (by rw [hc]; decide) (by rw [hc]; decide) (by rw [hc]; rfl) (by decide) ?_
                have hq := k5 hc
                refine V_aload_n hC dL_law_329 1 rfl ?_
                refine V_bipush (v := 7) hC dL_law_330 (by decide) ?_
                refine V_iload hC dL_law_332 7 rfl ?_
                refine V_iload hC dL_law_334 8 rfl ?_
                obtain ⟨hz1, hz2, hq⟩ := hq
                refine clS_L_ask hG hC ss_L_138 ⟨by decide, by decide⟩ (Nat.le_of_ble_eq_true rfl) ⟨hz1, hz2⟩ dL_law_336 hq (fun r70 h71 hq => ?_)
                show V G Γ 12 ((uc24 + 5) + 5) ((us25 + 34) + 34) h71 339 [(0, .ref b), (1, .ref a1), (2, .int x2_19), (3, .int x3_20), (4, .int x4_21), (5, .int x5_22), (6, .int (210 + (6 * x5_22))), (7, .int r26), (8, .int r27), (9, .int r28)] [.int r70]
                refine V_iload hC dL_law_339 4 rfl ?_
                refine V_iconst (v := 3) hC dL_law_341 (by decide) ?_
                refine V_iadd hC dL_law_342 ?_
                have hq := hq (fun (t72 : Int32) (h73 : hw) (uc74 : Nat) (us75 : Nat) => uc74 ≤ 926731 → us75 ≤ 6314567 → V G Γ 12 uc74 us75 h73 390 [(0, .ref b), (1, .ref a1), (3, .int x3_20), (4, .int x4_21), (5, .int x5_22)] [.int t72]) (by
                  intro t72 h73 uc74 us75 hq hu1 hu2
                  show V G Γ 12 uc74 us75 h73 390 [(0, .ref b), (1, .ref a1), (3, .int x3_20), (4, .int x4_21), (5, .int x5_22)] [.int t72]
                  refine V_istore_n (L' := [(0, .ref b), (1, .ref a1), (2, .int t72), (3, .int x3_20), (4, .int x4_21), (5, .int x5_22)]) hC dL_law_390 rfl (by decide) [1, 2, 0, 3, 4, 5] rfl ?_
                  refine V_goto (tgt := 548) hC dL_law_391 (by decide) ?_
                  exact hq (by omega) (by omega))
                have hq := hq (fun (h76 : hw) (uc77 : Nat) (us78 : Nat) => uc77 ≤ 926731 → us78 ≤ 6314567 → V G Γ 12 uc77 us78 h76 389 [(0, .ref b), (1, .ref a1), (3, .int x3_20), (4, .int x4_21), (5, .int x5_22)] []) (by
                  intro h76 uc77 us78 hq hu1 hu2
                  show V G Γ 12 uc77 us78 h76 389 [(0, .ref b), (1, .ref a1), (3, .int x3_20), (4, .int x4_21), (5, .int x5_22)] []
                  refine V_iconst (v := 0) hC dL_law_389 (by decide) ?_
                  exact hq (by omega) (by omega))
                refine V_icmp_ne (tgt := 389) hC dL_law_343 (by decide) (fun hc => ?_) (fun hc => ?_)
                · have hq := hq.1 hc
                  refine V_sub [0, 1, 3, 4, 5] rfl ?_
                  exact hq (by omega) (by omega)
                · have hq := hq.2 hc
                  refine V_aload_n hC dL_law_346 1 rfl ?_
                  refine V_bipush (v := 26) hC dL_law_347 (by decide) ?_
                  refine V_iload hC dL_law_349 7 rfl ?_
                  refine V_iload hC dL_law_351 8 rfl ?_
                  obtain ⟨hz1, hz2, hq⟩ := hq
                  refine clS_L_ask hG hC ss_L_138 ⟨by decide, by decide⟩ (Nat.le_of_ble_eq_true rfl) ⟨hz1, hz2⟩ dL_law_353 hq (fun r79 h80 hq => ?_)
                  show V G Γ 12 (((uc24 + 5) + 5) + 5) (((us25 + 34) + 34) + 34) h80 356 [(0, .ref b), (1, .ref a1), (2, .int x2_19), (3, .int x3_20), (4, .int x4_21), (5, .int x5_22), (6, .int (210 + (6 * x5_22))), (7, .int r26), (8, .int r27), (9, .int r28)] [.int r79]
                  refine V_if_ne (tgt := 389) hC dL_law_356 (by decide) (fun hc => ?_) (fun hc => ?_)
                  · have hq := hq.1 hc
                    refine V_sub [0, 1, 3, 4, 5] rfl ?_
                    exact hq (by omega) (by omega)
                  · have hq := hq.2 hc
                    refine V_aload_n hC dL_law_359 0 rfl ?_
                    refine V_iload hC dL_law_360 6 rfl ?_
                    refine V_iconst (v := 3) hC dL_law_362 (by decide) ?_
                    refine V_iadd hC dL_law_363 ?_
                    refine V_iconst (v := 2) hC dL_law_364 (by decide) ?_
                    refine clS_L_pick hG hC ss_L_134 ⟨by decide, by decide⟩ (Nat.le_of_ble_eq_true rfl) ⟨by omega, by omega⟩ dL_law_365 hq (fun r81 hq => ?_)
                    show V G Γ 12 (((uc24 + 5) + 5) + 5) (((us25 + 34) + 34) + 34) h80 368 [(0, .ref b), (1, .ref a1), (2, .int x2_19), (3, .int x3_20), (4, .int x4_21), (5, .int x5_22), (6, .int (210 + (6 * x5_22))), (7, .int r26), (8, .int r27), (9, .int r28)] [.int r81]
                    have hq := hq (fun (h82 : hw) (uc83 : Nat) (us84 : Nat) => uc83 ≤ 926731 → us84 ≤ 6314567 → V G Γ 12 uc83 us84 h82 385 [(0, .ref b), (1, .ref a1), (3, .int x3_20), (4, .int x4_21), (5, .int x5_22)] []) (by
                      intro h82 uc83 us84 hq hu1 hu2
                      show V G Γ 12 uc83 us84 h82 385 [(0, .ref b), (1, .ref a1), (3, .int x3_20), (4, .int x4_21), (5, .int x5_22)] []
                      refine V_iconst (v := 1) hC dL_law_385 (by decide) ?_
                      refine V_goto (tgt := 390) hC dL_law_386 (by decide) ?_
                      exact hq (by omega) (by omega))
                    refine V_if_eq (tgt := 385) hC dL_law_368 (by decide) (fun hc => ?_) (fun hc => ?_)
                    · have hq := hq.1 hc
                      refine V_sub [0, 1, 3, 4, 5] rfl ?_
                      exact hq (by omega) (by omega)
                    · have hq := hq.2 hc
                      refine V_aload_n hC dL_law_371 1 rfl ?_
                      refine V_bipush (v := 8) hC dL_law_372 (by decide) ?_
                      refine V_iload hC dL_law_374 7 rfl ?_
                      refine V_iload hC dL_law_376 8 rfl ?_
                      obtain ⟨hz1, hz2, hq⟩ := hq
                      refine clS_L_ask hG hC ss_L_138 ⟨by decide, by decide⟩ (Nat.le_of_ble_eq_true rfl) ⟨hz1, hz2⟩ dL_law_378 hq (fun r85 h86 hq => ?_)
                      show V G Γ 12 ((((uc24 + 5) + 5) + 5) + 5) ((((us25 + 34) + 34) + 34) + 34) h86 381 [(0, .ref b), (1, .ref a1), (2, .int x2_19), (3, .int x3_20), (4, .int x4_21), (5, .int x5_22), (6, .int (210 + (6 * x5_22))), (7, .int r26), (8, .int r27), (9, .int r28)] [.int r85]
                      refine V_iconst (v := 1) hC dL_law_381 (by decide) ?_
                      refine V_icmp_ne (tgt := 389) hC dL_law_382 (by decide) (fun hc => ?_) (fun hc => ?_)
                      · have hq := hq.1 hc
                        refine V_sub [0, 1, 3, 4, 5] rfl ?_
                        exact hq (by omega) (by omega)
                      · have hq := hq.2 hc
                        refine V_sub [0, 1, 3, 4, 5] rfl ?_
                        exact hq (by omega) (by omega)
              · refine V_tableIn (tgt := 394) (off := 244) hC dL_law_150 (by rw [hc]; decide) (by rw [hc]; decide) (by rw [hc]; rfl) (by decide) ?_
                have hq := k6 hc
                refine V_aload_n hC dL_law_394 1 rfl ?_
                refine V_aload_n hC dL_law_395 0 rfl ?_
                refine V_iload hC dL_law_396 6 rfl ?_
                refine V_iconst (v := 2) hC dL_law_398 (by decide) ?_
                refine V_iadd hC dL_law_399 ?_
                refine V_iload hC dL_law_400 4 rfl ?_
                obtain ⟨bc87, bs88, hz1, hz2, hq⟩ := hq
                refine clS_L_isSold hG hC ss_L_175 ⟨by decide, by decide⟩ (Nat.le_of_ble_eq_true rfl) ⟨hz1, hz2⟩ dL_law_402 hq (fun r89 h90 hq => ?_)
                show V G Γ 12 ((uc24 + 5) + bc87) ((us25 + 34) + bs88) h90 405 [(0, .ref b), (1, .ref a1), (2, .int x2_19), (3, .int x3_20), (4, .int x4_21), (5, .int x5_22), (6, .int (210 + (6 * x5_22))), (7, .int r26), (8, .int r27), (9, .int r28)] [.int r89]
                refine V_istore_n (L' := [(0, .ref b), (1, .ref a1), (2, .int r89), (3, .int x3_20), (4, .int x4_21), (5, .int x5_22), (6, .int (210 + (6 * x5_22))), (7, .int r26), (8, .int r27), (9, .int r28)]) hC dL_law_405 rfl (by decide) [1, 2, 0, 3, 4, 5, 6, 7, 8, 9] rfl ?_
                refine V_goto (tgt := 548) hC dL_law_406 (by decide) ?_
                refine V_sub [0, 1, 2, 3, 4, 5] rfl ?_
                exact hq (by omega) (by omega)
              · refine V_tableIn (tgt := 409) (off := 259) hC dL_law_150 (by rw [hc]; decide) (by rw [hc]; decide) (by rw [hc]; rfl) (by decide) ?_
                have hq := k7 hc
                refine V_aload_n hC dL_law_409 1 rfl ?_
                refine V_aload_n hC dL_law_410 0 rfl ?_
                refine V_iload hC dL_law_411 6 rfl ?_
                refine V_iconst (v := 2) hC dL_law_413 (by decide) ?_
                refine V_iadd hC dL_law_414 ?_
                obtain ⟨bc91, bs92, hz1, hz2, hq⟩ := hq
                refine clS_L_isBought hG hC ss_L_179 ⟨by decide, by decide⟩ (Nat.le_of_ble_eq_true rfl) ⟨hz1, hz2⟩ dL_law_415 hq (fun r93 h94 hq => ?_)
                show V G Γ 12 ((uc24 + 5) + bc91) ((us25 + 34) + bs92) h94 418 [(0, .ref b), (1, .ref a1), (2, .int x2_19), (3, .int x3_20), (4, .int x4_21), (5, .int x5_22), (6, .int (210 + (6 * x5_22))), (7, .int r26), (8, .int r27), (9, .int r28)] [.int r93]
                refine V_istore_n (L' := [(0, .ref b), (1, .ref a1), (2, .int r93), (3, .int x3_20), (4, .int x4_21), (5, .int x5_22), (6, .int (210 + (6 * x5_22))), (7, .int r26), (8, .int r27), (9, .int r28)]) hC dL_law_418 rfl (by decide) [1, 2, 0, 3, 4, 5, 6, 7, 8, 9] rfl ?_
                refine V_goto (tgt := 548) hC dL_law_419 (by decide) ?_
                refine V_sub [0, 1, 2, 3, 4, 5] rfl ?_
                exact hq (by omega) (by omega)
              · refine V_tableIn (tgt := 422) (off := 272) hC dL_law_150 (by rw [hc]; decide) (by rw [hc]; decide) (by rw [hc]; rfl) (by decide) ?_
                have hq := k8 hc
                refine V_aload_n hC dL_law_422 0 rfl ?_
                refine V_iload hC dL_law_423 6 rfl ?_
                refine V_iconst (v := 3) hC dL_law_425 (by decide) ?_
                refine V_iadd hC dL_law_426 ?_
                refine V_iconst (v := 3) hC dL_law_427 (by decide) ?_
                refine clS_L_pick hG hC ss_L_134 ⟨by decide, by decide⟩ (Nat.le_of_ble_eq_true rfl) ⟨by omega, by omega⟩ dL_law_428 hq (fun r95 hq => ?_)
                show V G Γ 12 (uc24 + 5) (us25 + 34) h29 431 [(0, .ref b), (1, .ref a1), (2, .int x2_19), (3, .int x3_20), (4, .int x4_21), (5, .int x5_22), (6, .int (210 + (6 * x5_22))), (7, .int r26), (8, .int r27), (9, .int r28)] [.int r95]
                refine V_if_ne (tgt := 548) hC dL_law_431 (by decide) (fun hc => ?_) (fun hc => ?_)
                · have hq := hq.1 hc
                  refine V_sub [0, 1, 2, 3, 4, 5] rfl ?_
                  exact hq (by omega) (by omega)
                · have hq := hq.2 hc
                  refine V_aload_n hC dL_law_434 1 rfl ?_
                  refine V_aload_n hC dL_law_435 0 rfl ?_
                  refine V_iload hC dL_law_436 6 rfl ?_
                  refine V_iconst (v := 4) hC dL_law_438 (by decide) ?_
                  refine V_iadd hC dL_law_439 ?_
                  refine V_iload hC dL_law_440 4 rfl ?_
                  obtain ⟨bc96, bs97, hz1, hz2, hq⟩ := hq
                  refine clS_L_isMoved hG hC ss_L_183 ⟨by decide, by decide⟩ (Nat.le_of_ble_eq_true rfl) ⟨hz1, hz2⟩ dL_law_442 hq (fun r98 h99 hq => ?_)
                  show V G Γ 12 ((uc24 + 5) + bc96) ((us25 + 34) + bs97) h99 445 [(0, .ref b), (1, .ref a1), (2, .int x2_19), (3, .int x3_20), (4, .int x4_21), (5, .int x5_22), (6, .int (210 + (6 * x5_22))), (7, .int r26), (8, .int r27), (9, .int r28)] [.int r98]
                  refine V_istore_n (L' := [(0, .ref b), (1, .ref a1), (2, .int r98), (3, .int x3_20), (4, .int x4_21), (5, .int x5_22), (6, .int (210 + (6 * x5_22))), (7, .int r26), (8, .int r27), (9, .int r28)]) hC dL_law_445 rfl (by decide) [1, 2, 0, 3, 4, 5, 6, 7, 8, 9] rfl ?_
                  refine V_iconst (v := 1) hC dL_law_446 (by decide) ?_
                  refine V_istore_n (L' := [(0, .ref b), (1, .ref a1), (2, .int r98), (3, .int 1), (4, .int x4_21), (5, .int x5_22), (6, .int (210 + (6 * x5_22))), (7, .int r26), (8, .int r27), (9, .int r28)]) hC dL_law_447 rfl (by decide) [1, 2, 3, 0, 4, 5, 6, 7, 8, 9] rfl ?_
                  refine V_goto (tgt := 548) hC dL_law_448 (by decide) ?_
                  refine V_sub [0, 1, 2, 3, 4, 5] rfl ?_
                  exact hq (by omega) (by omega)
              · refine V_tableOut (tgt := 451) hC dL_law_150 hc (by decide) ?_
                have hq := k9 hc
                refine V_iconst (v := 1) hC dL_law_451 (by decide) ?_
                refine V_aload_n hC dL_law_452 0 rfl ?_
                refine V_iload hC dL_law_453 6 rfl ?_
                refine V_iconst (v := 2) hC dL_law_455 (by decide) ?_
                refine V_iadd hC dL_law_456 ?_
                refine V_iconst (v := 4) hC dL_law_457 (by decide) ?_
                refine clS_L_pick hG hC ss_L_134 ⟨by decide, by decide⟩ (Nat.le_of_ble_eq_true rfl) ⟨by omega, by omega⟩ dL_law_458 hq (fun r100 hq => ?_)
                show V G Γ 12 (uc24 + 5) (us25 + 34) h29 461 [(0, .ref b), (1, .ref a1), (2, .int x2_19), (3, .int x3_20), (4, .int x4_21), (5, .int x5_22), (6, .int (210 + (6 * x5_22))), (7, .int r26), (8, .int r27), (9, .int r28)] [.int r100, .int 1]
                refine V_iadd hC dL_law_461 ?_
                refine V_istore (L' := [(0, .ref b), (1, .ref a1), (2, .int x2_19), (3, .int x3_20), (4, .int x4_21), (5, .int x5_22), (6, .int (210 + (6 * x5_22))), (7, .int r26), (8, .int r27), (9, .int r28), (11, .int (1 + r100))]) hC dL_law_462 (by decide) [1, 2, 3, 4, 5, 6, 7, 8, 9, 10, 0] rfl ?_
                refine V_aload_n hC dL_law_464 1 rfl ?_
                refine V_bipush (v := 9) hC dL_law_465 (by decide) ?_
                refine V_iload hC dL_law_467 10 rfl ?_
                refine V_iconst (v := 0) hC dL_law_469 (by decide) ?_
                obtain ⟨hz1, hz2, hq⟩ := hq
                refine clS_L_ask hG hC ss_L_138 ⟨by decide, by decide⟩ (Nat.le_of_ble_eq_true rfl) ⟨hz1, hz2⟩ dL_law_470 hq (fun r101 h102 hq => ?_)
                show V G Γ 12 ((uc24 + 5) + 5) ((us25 + 34) + 34) h102 473 [(0, .ref b), (1, .ref a1), (2, .int x2_19), (3, .int x3_20), (4, .int x4_21), (5, .int x5_22), (6, .int (210 + (6 * x5_22))), (7, .int r26), (8, .int r27), (9, .int r28), (11, .int (1 + r100))] [.int r101]
                refine V_iload hC dL_law_473 4 rfl ?_
                refine V_iload hC dL_law_475 10 rfl ?_
                refine V_iadd hC dL_law_477 ?_
                have hq := hq (fun (t103 : Int32) (h104 : hw) (uc105 : Nat) (us106 : Nat) => uc105 ≤ 926731 → us106 ≤ 6314567 → V G Γ 12 uc105 us106 h104 540 [(0, .ref b), (1, .ref a1), (3, .int x3_20), (4, .int x4_21), (5, .int x5_22), (11, .int (1 + r100))] [.int t103]) (by
                  intro t103 h104 uc105 us106 hq hu1 hu2
                  show V G Γ 12 uc105 us106 h104 540 [(0, .ref b), (1, .ref a1), (3, .int x3_20), (4, .int x4_21), (5, .int x5_22), (11, .int (1 + r100))] [.int t103]
                  refine V_istore_n (L' := [(0, .ref b), (1, .ref a1), (2, .int t103), (3, .int x3_20), (4, .int x4_21), (5, .int x5_22), (11, .int (1 + r100))]) hC dL_law_540 rfl (by decide) [1, 2, 0, 3, 4, 5, 6] rfl ?_
                  refine V_iload hC dL_law_541 4 rfl ?_
                  refine V_iload hC dL_law_543 6 rfl ?_
                  refine V_iadd hC dL_law_545 ?_
                  refine V_istore (L' := [(0, .ref b), (1, .ref a1), (2, .int t103), (3, .int x3_20), (4, .int (x4_21 + (1 + r100))), (5, .int x5_22), (11, .int (1 + r100))]) hC dL_law_546 (by decide) [1, 2, 3, 4, 0, 5, 6] rfl ?_
                  refine V_sub [0, 1, 2, 3, 4, 5] rfl ?_
                  exact hq (by omega) (by omega))
                have hq := hq (fun (h107 : hw) (uc108 : Nat) (us109 : Nat) => uc108 ≤ 926731 → us109 ≤ 6314567 → V G Γ 12 uc108 us109 h107 539 [(0, .ref b), (1, .ref a1), (3, .int x3_20), (4, .int x4_21), (5, .int x5_22), (11, .int (1 + r100))] []) (by
                  intro h107 uc108 us109 hq hu1 hu2
                  show V G Γ 12 uc108 us109 h107 539 [(0, .ref b), (1, .ref a1), (3, .int x3_20), (4, .int x4_21), (5, .int x5_22), (11, .int (1 + r100))] []
                  refine V_iconst (v := 0) hC dL_law_539 (by decide) ?_
                  exact hq (by omega) (by omega))
                refine V_icmp_ne (tgt := 539) hC dL_law_478 (by decide) (fun hc => ?_) (fun hc => ?_)
                · have hq := hq.1 hc
                  refine V_sub [0, 1, 3, 4, 5, 10] rfl ?_
                  exact hq (by omega) (by omega)
                · have hq := hq.2 hc
                  refine V_aload_n hC dL_law_481 1 rfl ?_
                  refine V_bipush (v := 25) hC dL_law_482 (by decide) ?_
                  refine V_iload hC dL_law_484 7 rfl ?_
                  refine V_iload hC dL_law_486 4 rfl ?_
                  obtain ⟨hz1, hz2, hq⟩ := hq
                  refine clS_L_ask hG hC ss_L_138 ⟨by decide, by decide⟩ (Nat.le_of_ble_eq_true rfl) ⟨hz1, hz2⟩ dL_law_488 hq (fun r110 h111 hq => ?_)
                  show V G Γ 12 (((uc24 + 5) + 5) + 5) (((us25 + 34) + 34) + 34) h111 491 [(0, .ref b), (1, .ref a1), (2, .int x2_19), (3, .int x3_20), (4, .int x4_21), (5, .int x5_22), (6, .int (210 + (6 * x5_22))), (7, .int r26), (8, .int r27), (9, .int r28), (11, .int (1 + r100))] [.int r110]
                  refine V_iload hC dL_law_491 9 rfl ?_
                  refine V_icmp_ne (tgt := 539) hC dL_law_493 (by decide) (fun hc => ?_) (fun hc => ?_)
                  · have hq := hq.1 hc
                    refine V_sub [0, 1, 3, 4, 5, 10] rfl ?_
                    exact hq (by omega) (by omega)
                  · have hq := hq.2 hc
                    refine V_aload_n hC dL_law_496 1 rfl ?_
                    refine V_bipush (v := 25) hC dL_law_497 (by decide) ?_
                    refine V_iload hC dL_law_499 7 rfl ?_
                    refine V_iload hC dL_law_501 4 rfl ?_
                    refine V_iload hC dL_law_503 10 rfl ?_
                    refine V_iadd hC dL_law_505 ?_
                    obtain ⟨hz1, hz2, hq⟩ := hq
                    refine clS_L_ask hG hC ss_L_138 ⟨by decide, by decide⟩ (Nat.le_of_ble_eq_true rfl) ⟨hz1, hz2⟩ dL_law_506 hq (fun r112 h113 hq => ?_)
                    show V G Γ 12 ((((uc24 + 5) + 5) + 5) + 5) ((((us25 + 34) + 34) + 34) + 34) h113 509 [(0, .ref b), (1, .ref a1), (2, .int x2_19), (3, .int x3_20), (4, .int x4_21), (5, .int x5_22), (6, .int (210 + (6 * x5_22))), (7, .int r26), (8, .int r27), (9, .int r28), (11, .int (1 + r100))] [.int r112]
                    refine V_iload hC dL_law_509 9 rfl ?_
                    refine V_icmp_ne (tgt := 539) hC dL_law_511 (by decide) (fun hc => ?_) (fun hc => ?_)
                    · have hq := hq.1 hc
                      refine V_sub [0, 1, 3, 4, 5, 10] rfl ?_
                      exact hq (by omega) (by omega)
                    · have hq := hq.2 hc
                      refine V_aload_n hC dL_law_514 1 rfl ?_
                      refine V_bipush (v := 25) hC dL_law_515 (by decide) ?_
                      refine V_iload hC dL_law_517 7 rfl ?_
                      refine V_iload hC dL_law_519 4 rfl ?_
                      refine V_iload hC dL_law_521 10 rfl ?_
                      refine V_iadd hC dL_law_523 ?_
                      refine V_iconst (v := 1) hC dL_law_524 (by decide) ?_
                      refine V_iadd hC dL_law_525 ?_
                      obtain ⟨hz1, hz2, hq⟩ := hq
                      refine clS_L_ask hG hC ss_L_138 ⟨by decide, by decide⟩ (Nat.le_of_ble_eq_true rfl) ⟨hz1, hz2⟩ dL_law_526 hq (fun r114 h115 hq => ?_)
                      show V G Γ 12 (((((uc24 + 5) + 5) + 5) + 5) + 5) (((((us25 + 34) + 34) + 34) + 34) + 34) h115 529 [(0, .ref b), (1, .ref a1), (2, .int x2_19), (3, .int x3_20), (4, .int x4_21), (5, .int x5_22), (6, .int (210 + (6 * x5_22))), (7, .int r26), (8, .int r27), (9, .int r28), (11, .int (1 + r100))] [.int r114]
                      refine V_sipush (v := (-20002)) hC dL_law_529 (by decide) ?_
                      refine V_icmp_ne (tgt := 539) hC dL_law_532 (by decide) (fun hc => ?_) (fun hc => ?_)
                      · have hq := hq.1 hc
                        refine V_sub [0, 1, 3, 4, 5, 10] rfl ?_
                        exact hq (by omega) (by omega)
                      · have hq := hq.2 hc
                        refine V_iconst (v := 1) hC dL_law_535 (by decide) ?_
                        refine V_goto (tgt := 540) hC dL_law_536 (by decide) ?_
                        refine V_sub [0, 1, 3, 4, 5, 10] rfl ?_
                        exact hq (by omega) (by omega))
        exact hq (by omega) (by omega))
      have hq := hq (fun (h116 : hw) (uc117 : Nat) (us118 : Nat) => uc117 ≤ 926731 → us118 ≤ 6314567 → V G Γ 12 uc117 us118 h116 74 [(0, .ref b), (1, .ref a1)] []) (by
        intro h116 uc117 us118 hq hu1 hu2
        show V G Γ 12 uc117 us118 h116 74 [(0, .ref b), (1, .ref a1)] []
        refine V_iconst (v := 0) hC dL_law_74 (by decide) ?_
        exact hq (by omega) (by omega))
      refine V_if_eq (tgt := 74) hC dL_law_59 (by decide) (fun hc => ?_) (fun hc => ?_)
      · have hq := hq.1 hc
        refine V_sub [0, 1] rfl ?_
        exact hq (by omega) (by omega)
      · have hq := hq.2 hc
        refine V_aload_n hC dL_law_62 1 rfl ?_
        refine V_aload_n hC dL_law_63 0 rfl ?_
        obtain ⟨bc119, bs120, hz1, hz2, hq⟩ := hq
        refine clS_L_arePacked hG hC ss_L_171 ⟨by decide, by decide⟩ (Nat.le_of_ble_eq_true rfl) ⟨hz1, hz2⟩ dL_law_64 hq (fun r121 h122 hq => ?_)
        show V G Γ 12 ((uc9 + bc11) + bc119) ((us10 + bs12) + bs120) h122 67 [(0, .ref b), (1, .ref a1), (2, .int x2_7)] [.int r121]
        refine V_if_eq (tgt := 74) hC dL_law_67 (by decide) (fun hc => ?_) (fun hc => ?_)
        · have hq := hq.1 hc
          refine V_sub [0, 1] rfl ?_
          exact hq (by omega) (by omega)
        · have hq := hq.2 hc
          refine V_iconst (v := 1) hC dL_law_70 (by decide) ?_
          refine V_goto (tgt := 75) hC dL_law_71 (by decide) ?_
          refine V_sub [0, 1] rfl ?_
          exact hq (by omega) (by omega)
    · have hq := hq.2 hc
      refine V_aload_n hC dL_law_20 0 rfl ?_
      refine V_sipush (v := 190) hC dL_law_21 (by decide) ?_
      refine V_iconst (v := 3) hC dL_law_24 (by decide) ?_
      refine V_iload_n hC dL_law_25 2 rfl ?_
      refine V_imul hC dL_law_26 ?_
      refine V_iadd hC dL_law_27 ?_
      refine V_bipush (v := 90) hC dL_law_28 (by decide) ?_
      refine clS_L_pick hG hC ss_L_134 ⟨by decide, by decide⟩ (Nat.le_of_ble_eq_true rfl) ⟨by omega, by omega⟩ dL_law_30 hq (fun r123 hq => ?_)
      show V G Γ 12 uc9 us10 h8 33 [(0, .ref b), (1, .ref a1), (2, .int x2_7)] [.int r123]
      refine V_istore_n (L' := [(0, .ref b), (1, .ref a1), (2, .int x2_7), (3, .int r123)]) hC dL_law_33 rfl (by decide) [1, 2, 3, 0] rfl ?_
      refine V_aload_n hC dL_law_34 1 rfl ?_
      refine V_bipush (v := 12) hC dL_law_35 (by decide) ?_
      refine V_iload_n hC dL_law_37 3 rfl ?_
      refine V_iload_n hC dL_law_38 3 rfl ?_
      refine V_iconst (v := 2) hC dL_law_39 (by decide) ?_
      obtain ⟨hz, hq⟩ := hq
      refine V_idiv hC dL_law_40 hz ?_
      refine V_iload_n hC dL_law_41 3 rfl ?_
      refine V_iconst (v := 3) hC dL_law_42 (by decide) ?_
      obtain ⟨hz, hq⟩ := hq
      refine V_idiv hC dL_law_43 hz ?_
      refine V_iconst (v := 0) hC dL_law_44 (by decide) ?_
      obtain ⟨hz1, hz2, hq⟩ := hq
      refine clSX_L_deed hG hC ssx_L_131 ⟨by decide, by decide⟩ (Nat.le_of_ble_eq_true rfl) ⟨hz1, hz2⟩ dL_law_45 hq (fun r124 h125 hq => ?_)
      show V G Γ 12 (uc9 + 5) (us10 + 34) h125 48 [(0, .ref b), (1, .ref a1), (2, .int x2_7), (3, .int r123)] [.int r124]
      refine V_pop hC dL_law_48 rfl ?_
      refine V_iinc (j := 2) (v := (x2_7 + 1)) (L' := [(0, .ref b), (1, .ref a1), (2, .int (x2_7 + 1)), (3, .int r123)]) hC dL_law_49 rfl rfl (by decide) [1, 2, 0, 3] rfl ?_
      refine V_goto (tgt := 15) hC dL_law_52 (by decide) ?_
      refine V_sub [0, 1, 2] rfl ?_
      exact hq (by omega) (by omega))
  exact hq (by omega) (by omega)
