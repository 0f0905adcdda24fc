set_option maxRecDepth 100000 in
set_option maxHeartbeats 4000000 in
theorem ct_L_isMoved {G : Gx} (hG : GOK G) (p0 : Nat) (p1 : Nat) (p2 : Int32) (p3 : Int32) (h0 : hw) (bc bs : Nat) (post : Int32 → hw → Prop) (hq : wp_L_isMoved G p0 p1 p2 p3 h0 bc bs post) : CT G yL_isMoved cL_isMoved 8 (some .boolean) 22 559 bc bs [.ref p0, .ref p1, .int p2, .int p3] h0 (fun v h1 => ∃ r : Int32, v = some (.int r) ∧ post r h1) (fun E h1 => False) := by
  refine CT_of hG (by decide) (Nat.le_of_ble_eq_true rfl) (fun Γ hC hQ hN => ?_)
  have hC : COK G Γ "BandplanLaw" cL_isMoved 8 22 559 bc bs [] := hC
  unfold wp_L_isMoved at hq
  show V G Γ 8 0 0 h0 0 [(0, .ref p0), (1, .ref p1), (2, .int p2), (3, .int p3)] []
  refine V_aload_n hC dL_isMoved_0 0 rfl ?_
  refine V_bipush (v := 14) hC dL_isMoved_1 (by decide) ?_
  refine V_iconst (v := 1) hC dL_isMoved_3 (by decide) ?_
  refine V_aload_n hC dL_isMoved_4 1 rfl ?_
  refine V_iload_n hC dL_isMoved_5 2 rfl ?_
  refine V_iconst (v := 4) hC dL_isMoved_6 (by decide) ?_
  refine clS_L_pick hG hC ss_L_134 ⟨by decide, by decide⟩ (Nat.le_of_ble_eq_true rfl) ⟨by omega, by omega⟩ dL_isMoved_7 hq (fun r1 hq => ?_)
  show V G Γ 8 0 0 h0 10 [(0, .ref p0), (1, .ref p1), (2, .int p2), (3, .int p3)] [.int r1, .int 1, .int 14, .ref p0]
  refine V_iadd hC dL_isMoved_10 ?_
  refine V_iconst (v := 0) hC dL_isMoved_11 (by decide) ?_
  obtain ⟨hz1, hz2, hq⟩ := hq
  refine clS_L_ask hG hC ss_L_138 ⟨by decide, by decide⟩ (Nat.le_of_ble_eq_true rfl) ⟨hz1, hz2⟩ dL_isMoved_12 hq (fun r2 h3 hq => ?_)
  show V G Γ 8 (0 + 5) (0 + 34) h3 15 [(0, .ref p0), (1, .ref p1), (2, .int p2), (3, .int p3)] [.int r2]
  refine V_istore (L' := [(0, .ref p0), (1, .ref p1), (2, .int p2), (3, .int p3), (4, .int r2)]) hC dL_isMoved_15 (by decide) [1, 2, 3, 4, 0] rfl ?_
  refine V_iload hC dL_isMoved_17 4 rfl ?_
  have hq := hq (fun (t4 : Int32) => V G Γ 8 (0 + 5) (0 + 34) h3 35 [(0, .ref p0), (1, .ref p1), (3, .int p3), (4, .int r2)] [.int t4]) (by
    intro t4 hq
    show V G Γ 8 (0 + 5) (0 + 34) h3 35 [(0, .ref p0), (1, .ref p1), (3, .int p3), (4, .int r2)] [.int t4]
    refine V_istore (L' := [(0, .ref p0), (1, .ref p1), (3, .int p3), (4, .int r2), (5, .int t4)]) hC dL_isMoved_35 (by decide) [1, 2, 3, 4, 0] rfl ?_
    refine V_iconst (v := 0) hC dL_isMoved_37 (by decide) ?_
    refine V_istore (L' := [(0, .ref p0), (1, .ref p1), (3, .int p3), (4, .int r2), (5, .int t4), (6, .int 0)]) hC dL_isMoved_38 (by decide) [1, 2, 3, 4, 5, 0] rfl ?_
    have hq := hq (fun (x5_5 : Int32) (x6_6 : Int32) (h7 : hw) (uc8 : Nat) (us9 : Nat) => uc8 ≤ bc → us9 ≤ bs → V G Γ 8 uc8 us9 h7 40 [(0, .ref p0), (1, .ref p1), (3, .int p3), (4, .int r2), (5, .int x5_5), (6, .int x6_6)] []) (by
      intro x5_5 x6_6 h7 uc8 us9 hq hu1 hu2
      show V G Γ 8 uc8 us9 h7 40 [(0, .ref p0), (1, .ref p1), (3, .int p3), (4, .int r2), (5, .int x5_5), (6, .int x6_6)] []
      refine V_iload hC dL_isMoved_40 5 rfl ?_
      refine V_bipush (v := 6) hC dL_isMoved_42 (by decide) ?_
      have hq := hq (V G Γ 8 uc8 us9 h7 123 [(0, .ref p0), (4, .int r2), (5, .int x5_5)] []) (by
        intro hq
        show V G Γ 8 uc8 us9 h7 123 [(0, .ref p0), (4, .int r2), (5, .int x5_5)] []
        refine V_iload hC dL_isMoved_123 2 rfl ?_
        have hq := hq (V G Γ 8 uc8 us9 h7 146 [] []) (by
          intro hq
          show V G Γ 8 uc8 us9 h7 146 [] []
          refine V_iconst (v := 0) hC dL_isMoved_146 (by decide) ?_
          obtain ⟨hz1, hz2, hq⟩ := hq
          exact V_iret hC hQ rfl rfl ⟨hz1, hz2⟩ dL_isMoved_147 ⟨_, rfl, hq⟩)
        refine V_if_eq (tgt := 146) hC dL_isMoved_125 (by decide) (fun hc => ?_) (fun hc => ?_)
        · have hq := hq.1 hc
          refine V_sub [] rfl ?_
          exact hq
        · have hq := hq.2 hc
          refine V_iload hC dL_isMoved_128 1 rfl ?_
          have hq := hq (V G Γ 8 uc8 us9 h7 142 [] []) (by
            intro hq
            show V G Γ 8 uc8 us9 h7 142 [] []
            refine V_iconst (v := 1) hC dL_isMoved_142 (by decide) ?_
            refine V_goto (tgt := 147) hC dL_isMoved_143 (by decide) ?_
            obtain ⟨hz1, hz2, hq⟩ := hq
            exact V_iret hC hQ rfl rfl ⟨hz1, hz2⟩ dL_isMoved_147 ⟨_, rfl, hq⟩)
          refine V_if_lt (tgt := 142) hC dL_isMoved_130 (by decide) (fun hc => ?_) (fun hc => ?_)
          · have hq := hq.1 hc
            refine V_sub [] rfl ?_
            exact hq
          · have hq := hq.2 hc
            refine V_aload_n hC dL_isMoved_133 0 rfl ?_
            obtain ⟨hz, hq⟩ := hq
            refine clV_X11_dark hG hC sv_L_159 ⟨by decide, by decide⟩ (Nat.le_of_ble_eq_true rfl) ⟨by omega, by omega⟩ dL_isMoved_134 hz hq (fun r10 hq => ?_)
            show V G Γ 8 uc8 us9 h7 137 [(0, .ref p0), (4, .int r2), (5, .int x5_5)] [.int r10]
            refine V_iload hC dL_isMoved_137 1 rfl ?_
            refine V_icmp_gt (tgt := 146) hC dL_isMoved_139 (by decide) (fun hc => ?_) (fun hc => ?_)
            · have hq := hq.1 hc
              refine V_sub [] rfl ?_
              exact hq
            · have hq := hq.2 hc
              refine V_sub [] rfl ?_
              exact hq)
      refine V_icmp_ge (tgt := 123) hC dL_isMoved_44 (by decide) (fun hc => ?_) (fun hc => ?_)
      · have hq := hq.1 hc
        refine V_sub [0, 3, 4] rfl ?_
        exact hq
      · have hq := hq.2 hc
        refine V_iload hC dL_isMoved_47 4 rfl ?_
        refine V_if_eq (tgt := 123) hC dL_isMoved_49 (by decide) (fun hc => ?_) (fun hc => ?_)
        · have hq := hq.1 hc
          refine V_sub [0, 3, 4] rfl ?_
          exact hq
        · have hq := hq.2 hc
          refine V_iload hC dL_isMoved_52 3 rfl ?_
          refine V_if_lt (tgt := 123) hC dL_isMoved_54 (by decide) (fun hc => ?_) (fun hc => ?_)
          · have hq := hq.1 hc
            refine V_sub [0, 3, 4] rfl ?_
            exact hq
          · have hq := hq.2 hc
            refine V_aload_n hC dL_isMoved_57 0 rfl ?_
            refine V_bipush (v := 32) hC dL_isMoved_58 (by decide) ?_
            refine V_iload hC dL_isMoved_60 5 rfl ?_
            refine V_iconst (v := 0) hC dL_isMoved_62 (by decide) ?_
            obtain ⟨hz1, hz2, hq⟩ := hq
            refine clS_L_ask hG hC ss_L_138 ⟨by decide, by decide⟩ (Nat.le_of_ble_eq_true rfl) ⟨hz1, hz2⟩ dL_isMoved_63 hq (fun r11 h12 hq => ?_)
            show V G Γ 8 (uc8 + 5) (us9 + 34) h12 66 [(0, .ref p0), (1, .ref p1), (3, .int p3), (4, .int r2), (5, .int x5_5), (6, .int x6_6)] [.int r11]
            refine V_istore (L' := [(0, .ref p0), (1, .ref p1), (3, .int p3), (4, .int r2), (5, .int x5_5), (6, .int x6_6), (7, .int r11)]) hC dL_isMoved_66 (by decide) [1, 2, 3, 4, 5, 6, 0] rfl ?_
            refine V_iload hC dL_isMoved_68 6 rfl ?_
            refine V_sipush (v := (-20005)) hC dL_isMoved_70 (by decide) ?_
            have hq := hq (fun (t13 : Int32) (h14 : hw) (uc15 : Nat) (us16 : Nat) => uc15 ≤ bc → us16 ≤ bs → V G Γ 8 uc15 us16 h14 115 [(0, .ref p0), (1, .ref p1), (3, .int p3), (4, .int r2), (6, .int x6_6)] [.int t13]) (by
              intro t13 h14 uc15 us16 hq hu1 hu2
              show V G Γ 8 uc15 us16 h14 115 [(0, .ref p0), (1, .ref p1), (3, .int p3), (4, .int r2), (6, .int x6_6)] [.int t13]
              refine V_istore (L' := [(0, .ref p0), (1, .ref p1), (3, .int p3), (4, .int r2), (5, .int t13), (6, .int x6_6)]) hC dL_isMoved_115 (by decide) [1, 2, 3, 4, 0, 5] rfl ?_
              refine V_iinc (j := 5) (v := (x6_6 + 1)) (L' := [(0, .ref p0), (1, .ref p1), (3, .int p3), (4, .int r2), (5, .int t13), (6, .int (x6_6 + 1))]) hC dL_isMoved_117 rfl rfl (by decide) [1, 2, 3, 4, 5, 0] rfl ?_
              refine V_goto (tgt := 40) hC dL_isMoved_120 (by decide) ?_
              exact hq (by omega) (by omega))
            have hq := hq (fun (h17 : hw) (uc18 : Nat) (us19 : Nat) => uc18 ≤ bc → us19 ≤ bs → V G Γ 8 uc18 us19 h17 110 [(0, .ref p0), (1, .ref p1), (3, .int p3), (4, .int r2), (6, .int x6_6)] []) (by
              intro h17 uc18 us19 hq hu1 hu2
              show V G Γ 8 uc18 us19 h17 110 [(0, .ref p0), (1, .ref p1), (3, .int p3), (4, .int r2), (6, .int x6_6)] []
              refine V_iconst (v := 1) hC dL_isMoved_110 (by decide) ?_
              refine V_goto (tgt := 115) hC dL_isMoved_111 (by decide) ?_
              exact hq (by omega) (by omega))
            refine V_icmp_eq (tgt := 110) hC dL_isMoved_73 (by decide) (fun hc => ?_) (fun hc => ?_)
            · have hq := hq.1 hc
              refine V_sub [0, 1, 2, 3, 5] rfl ?_
              exact hq (by omega) (by omega)
            · have hq := hq.2 hc
              refine V_iload hC dL_isMoved_76 6 rfl ?_
              have hq := hq (fun (h20 : hw) (uc21 : Nat) (us22 : Nat) => uc21 ≤ bc → us22 ≤ bs → V G Γ 8 uc21 us22 h20 114 [(0, .ref p0), (1, .ref p1), (3, .int p3), (4, .int r2), (6, .int x6_6)] []) (by
                intro h20 uc21 us22 hq hu1 hu2
                show V G Γ 8 uc21 us22 h20 114 [(0, .ref p0), (1, .ref p1), (3, .int p3), (4, .int r2), (6, .int x6_6)] []
                refine V_iconst (v := 0) hC dL_isMoved_114 (by decide) ?_
                exact hq (by omega) (by omega))
              refine V_if_lt (tgt := 114) hC dL_isMoved_78 (by decide) (fun hc => ?_) (fun hc => ?_)
              · have hq := hq.1 hc
                refine V_sub [0, 1, 2, 3, 5] rfl ?_
                exact hq (by omega) (by omega)
              · have hq := hq.2 hc
                refine V_iload hC dL_isMoved_81 6 rfl ?_
                refine V_iload hC dL_isMoved_83 3 rfl ?_
                refine V_icmp_gt (tgt := 114) hC dL_isMoved_85 (by decide) (fun hc => ?_) (fun hc => ?_)
                · have hq := hq.1 hc
                  refine V_sub [0, 1, 2, 3, 5] rfl ?_
                  exact hq (by omega) (by omega)
                · have hq := hq.2 hc
                  refine V_aload_n hC dL_isMoved_88 0 rfl ?_
                  refine V_bipush (v := 25) hC dL_isMoved_89 (by decide) ?_
                  refine V_iload hC dL_isMoved_91 5 rfl ?_
                  refine V_iload_n hC dL_isMoved_93 2 rfl ?_
                  obtain ⟨hz1, hz2, hq⟩ := hq
                  refine clS_L_ask hG hC ss_L_138 ⟨by decide, by decide⟩ (Nat.le_of_ble_eq_true rfl) ⟨hz1, hz2⟩ dL_isMoved_94 hq (fun r23 h24 hq => ?_)
                  show V G Γ 8 ((uc8 + 5) + 5) ((us9 + 34) + 34) h24 97 [(0, .ref p0), (1, .ref p1), (3, .int p3), (4, .int r2), (5, .int x5_5), (6, .int x6_6), (7, .int r11)] [.int r23]
                  refine V_iconst (v := (-1)) hC dL_isMoved_97 (by decide) ?_
                  refine V_icmp_eq (tgt := 114) hC dL_isMoved_98 (by decide) (fun hc => ?_) (fun hc => ?_)
                  · have hq := hq.1 hc
                    refine V_sub [0, 1, 2, 3, 5] rfl ?_
                    exact hq (by omega) (by omega)
                  · have hq := hq.2 hc
                    refine V_aload_n hC dL_isMoved_101 1 rfl ?_
                    refine V_iload hC dL_isMoved_102 5 rfl ?_
                    refine clS_L_isProtected hG hC ss_L_146 ⟨by decide, by decide⟩ (Nat.le_of_ble_eq_true rfl) ⟨by omega, by omega⟩ dL_isMoved_104 hq (fun r25 hq => ?_)
                    show V G Γ 8 ((uc8 + 5) + 5) ((us9 + 34) + 34) h24 107 [(0, .ref p0), (1, .ref p1), (3, .int p3), (4, .int r2), (5, .int x5_5), (6, .int x6_6), (7, .int r11)] [.int r25]
                    refine V_if_eq (tgt := 114) hC dL_isMoved_107 (by decide) (fun hc => ?_) (fun hc => ?_)
                    · have hq := hq.1 hc
                      refine V_sub [0, 1, 2, 3, 5] rfl ?_
                      exact hq (by omega) (by omega)
                    · have hq := hq.2 hc
                      refine V_sub [0, 1, 2, 3, 5] rfl ?_
                      exact hq (by omega) (by omega))
    exact hq (by omega) (by omega))
  have hq := hq (V G Γ 8 (0 + 5) (0 + 34) h3 30 [(0, .ref p0), (1, .ref p1), (3, .int p3), (4, .int r2)] []) (by
    intro hq
    show V G Γ 8 (0 + 5) (0 + 34) h3 30 [(0, .ref p0), (1, .ref p1), (3, .int p3), (4, .int r2)] []
    refine V_iconst (v := 1) hC dL_isMoved_30 (by decide) ?_
    refine V_goto (tgt := 35) hC dL_isMoved_31 (by decide) ?_
    exact hq)
  refine V_if_ge (tgt := 30) hC dL_isMoved_19 (by decide) (fun hc => ?_) (fun hc => ?_)
  · have hq := hq.1 hc
    refine V_sub [0, 1, 3, 4] rfl ?_
    exact hq
  · have hq := hq.2 hc
    refine V_iload hC dL_isMoved_22 4 rfl ?_
    refine V_sipush (v := (-20004)) hC dL_isMoved_24 (by decide) ?_
    refine V_icmp_ne (tgt := 34) hC dL_isMoved_27 (by decide) (fun hc => ?_) (fun hc => ?_)
    · have hq := hq.1 hc
      refine V_iconst (v := 0) hC dL_isMoved_34 (by decide) ?_
      refine V_sub [0, 1, 3, 4] rfl ?_
      exact hq
    · have hq := hq.2 hc
      refine V_sub [0, 1, 3, 4] rfl ?_
      exact hq
theorem clS_L_isMoved {G : Gx} (hG : GOK G) {Γ : Cx} {own : String} {cc : ByteArray} {nL fr lo mc ms cells slots pc : Nat} {hh : List (Nat × Nat × Nat × Nat)} {h : hw} {L : List (Nat × Value)} {rest : List Value} (hC : COK G Γ own cc nL fr lo mc ms hh) {idx : Nat} (hs : SS own idx yL_isMoved cL_isMoved 8 (some .boolean) 4) {bc bs : Nat} {p0 : Nat} {p1 : Nat} {p2 : Int32} {p3 : Int32} (hR : 22 + 1 ≤ fr ∧ 8 + (8 + 11) + 559 ≤ lo) (hw8 : (rest.map fun v => v.category).sum ≤ 8) (hcs : cells + bc ≤ mc ∧ slots + bs ≤ ms) (hdg : decode cc pc = .ok (.invokestatic idx, 3)) {post : Int32 → hw → Prop} (hq : wp_L_isMoved G p0 p1 p2 p3 h bc bs post) (kk : ∀ (r : Int32) (h1 : hw) , post r h1 → V G Γ nL (cells + bc) (slots + bs) h1 (pc + 3) L (.int r :: rest)) : V G Γ nL cells slots h pc L (.int p3 :: .int p2 :: .ref p1 :: .ref p0 :: rest) :=
  V_callS (As := [.ref p0, .ref p1, .int p2, .int p3]) hC (ct_L_isMoved hG p0 p1 p2 p3 h bc bs post hq) hs rfl hR hw8 hcs hdg (fun E h1 z => z.elim) (fun v h1 z => by obtain ⟨r, rfl, hz⟩ := z; exact kk r h1 hz)
