set_option maxRecDepth 100000 in
set_option maxHeartbeats 4000000 in
theorem ct_X12_priceOf {G : Gx} (hG : GOK G) (p0 : Nat) (p1 : Int32) (h0 : hw) (post : Int32 → hw → Prop) (hq : wp_X12_priceOf G p0 p1 h0 post) : CT G yX12_priceOf cX12_priceOf 2 (some .int) 3 73 0 0 [.ref p0, .int p1] h0 (fun v h1 => ∃ r : Int32, v = some (.int r) ∧ post r h1) (fun E h1 => False) := by
  refine CT_of hG (by decide) (Nat.le_of_ble_eq_true rfl) (fun Γ hC hQ hN => ?_)
  have hC : COK G Γ "BandplanModel" cX12_priceOf 2 3 73 0 0 [] := hC
  unfold wp_X12_priceOf at hq
  show V G Γ 2 0 0 h0 0 [(0, .ref p0), (1, .int p1)] []
  refine V_aload_n hC dX12_priceOf_0 0 rfl ?_
  refine V_iconst (v := 0) hC dX12_priceOf_1 (by decide) ?_
  refine U_putO hC (by decide) fl_X12_98 fin_X12_0 rfl rfl dX12_priceOf_2 hq (fun h1 hq => ?_)
  refine V_aload_n hC dX12_priceOf_5 0 rfl ?_
  refine V_aload_n hC dX12_priceOf_6 0 rfl ?_
  refine V_iload_n hC dX12_priceOf_7 1 rfl ?_
  obtain ⟨hz, hq⟩ := hq
  refine clV_X12_no hG hC sv_X12_153 ⟨by decide, by decide⟩ (Nat.le_of_ble_eq_true rfl) ⟨by decide, by decide⟩ dX12_priceOf_8 hz hq (fun r2 hq => ?_)
  show V G Γ 2 0 0 h1 11 [(0, .ref p0), (1, .int p1)] [.int r2, .ref p0]
  refine V_iconst (v := 1) hC dX12_priceOf_11 (by decide) ?_
  obtain ⟨hz, hq⟩ := hq
  refine clV_X12_fails hG hC sv_X12_115 ⟨by decide, by decide⟩ (Nat.le_of_ble_eq_true rfl) ⟨by decide, by decide⟩ dX12_priceOf_12 hz hq (fun r3 h4 hq => ?_)
  show V G Γ 2 0 0 h4 15 [(0, .ref p0), (1, .int p1)] [.int r3]
  have hq := hq (fun (h5 : hw) => V G Γ 2 0 0 h5 41 [] []) (by
    intro h5 hq
    show V G Γ 2 0 0 h5 41 [] []
    refine V_iconst (v := 0) hC dX12_priceOf_41 (by decide) ?_
    refine V_goto (tgt := 51) hC dX12_priceOf_42 (by decide) ?_
    exact V_iret hC hQ rfl rfl ⟨by decide, by decide⟩ dX12_priceOf_51 ⟨_, rfl, hq⟩)
  refine V_if_ne (tgt := 41) hC dX12_priceOf_15 (by decide) (fun hc => ?_) (fun hc => ?_)
  · have hq := hq.1 hc
    refine V_sub [] rfl ?_
    exact hq
  · have hq := hq.2 hc
    refine V_aload_n hC dX12_priceOf_18 0 rfl ?_
    refine V_aload_n hC dX12_priceOf_19 0 rfl ?_
    refine U_getR hC fl_X12_61 dX12_priceOf_20 hq (fun v6 hq => ?_)
    refine V_iload_n hC dX12_priceOf_23 1 rfl ?_
    refine U_ldI hC dX12_priceOf_24 hq (fun v7 hq => ?_)
    refine V_iconst (v := (-1)) hC dX12_priceOf_25 (by decide) ?_
    have hq := hq (fun (t8 : Nat) (t9 : Int32) => V G Γ 2 0 0 h4 34 [(0, .ref p0), (1, .int p1)] [.int t9, .ref t8]) (by
      intro t8 t9 hq
      show V G Γ 2 0 0 h4 34 [(0, .ref p0), (1, .int p1)] [.int t9, .ref t8]
      refine V_iconst (v := 2) hC dX12_priceOf_34 (by decide) ?_
      obtain ⟨hz, hq⟩ := hq
      refine clV_X12_fails hG hC sv_X12_115 ⟨by decide, by decide⟩ (Nat.le_of_ble_eq_true rfl) ⟨by decide, by decide⟩ dX12_priceOf_35 hz hq (fun r10 h11 hq => ?_)
      show V G Γ 2 0 0 h11 38 [(0, .ref p0), (1, .int p1)] [.int r10]
      refine V_if_eq (tgt := 45) hC dX12_priceOf_38 (by decide) (fun hc => ?_) (fun hc => ?_)
      · have hq := hq.1 hc
        refine V_aload_n hC dX12_priceOf_45 0 rfl ?_
        refine U_getR hC fl_X12_61 dX12_priceOf_46 hq (fun v12 hq => ?_)
        refine V_iload_n hC dX12_priceOf_49 1 rfl ?_
        refine U_ldI hC dX12_priceOf_50 hq (fun v13 hq => ?_)
        exact V_iret hC hQ rfl rfl ⟨by decide, by decide⟩ dX12_priceOf_51 ⟨_, rfl, hq⟩
      · have hq := hq.2 hc
        refine V_sub [] rfl ?_
        exact hq)
    refine V_icmp_ne (tgt := 33) hC dX12_priceOf_26 (by decide) (fun hc => ?_) (fun hc => ?_)
    · have hq := hq.1 hc
      refine V_iconst (v := 0) hC dX12_priceOf_33 (by decide) ?_
      exact hq
    · have hq := hq.2 hc
      refine V_iconst (v := 1) hC dX12_priceOf_29 (by decide) ?_
      refine V_goto (tgt := 34) hC dX12_priceOf_30 (by decide) ?_
      exact hq
theorem clV_X12_priceOf {G : Gx} (hG : GOK G) {Γ : Cx} {own : String} {cc : ByteArray} {nL fr lo mc ms cells slots pc : Nat} {hh : List (Nat × Nat × Nat × Nat)} {h : hw} {L : List (Nat × Value)} {rest : List Value} (hC : COK G Γ own cc nL fr lo mc ms hh) {idx : Nat} (hs : SV own idx yX12_priceOf cX12_priceOf 2 (some .int) 1) {p0 : Nat} {p1 : Int32} (hR : 3 + 1 ≤ fr ∧ 8 + (2 + 11) + 73 ≤ lo) (hw8 : (rest.map fun v => v.category).sum ≤ 8) (hcs : cells + 0 ≤ mc ∧ slots + 0 ≤ ms) (hdg : decode cc pc = .ok (.invokevirtual idx, 3)) (ho : isO h p0 12) {post : Int32 → hw → Prop} (hq : wp_X12_priceOf G p0 p1 h post) (kk : ∀ (r : Int32) (h1 : hw) , post r h1 → V G Γ nL (cells + 0) (slots + 0) h1 (pc + 3) L (.int r :: rest)) : V G Γ nL cells slots h pc L (.int p1 :: .ref p0 :: rest) :=
  V_callV (As := [.int p1]) (r9 := (RX12, TX12, 36)) hC (ct_X12_priceOf hG p0 p1 h post hq) hs ho rfl rfl rfl hR hw8 hcs hdg (fun E h1 z => z.elim) (fun v h1 z => by obtain ⟨r, rfl, hz⟩ := z; exact kk r h1 hz)
set_option maxRecDepth 100000 in
set_option maxHeartbeats 4000000 in
theorem ct_X12_rounds {G : Gx} (hG : GOK G) (p0 : Nat) (h0 : hw) (post : Int32 → hw → Prop) (hq : wp_X12_rounds G p0 h0 post) : CT G yX12_rounds cX12_rounds 1 (some .int) 1 30 0 0 [.ref p0] h0 (fun v h1 => ∃ r : Int32, v = some (.int r) ∧ post r h1) (fun E h1 => False) := by
  refine CT_of hG (by decide) (Nat.le_of_ble_eq_true rfl) (fun Γ hC hQ hN => ?_)
  have hC : COK G Γ "BandplanModel" cX12_rounds 1 1 30 0 0 [] := hC
  unfold wp_X12_rounds at hq
  show V G Γ 1 0 0 h0 0 [(0, .ref p0)] []
  refine V_aload_n hC dX12_rounds_0 0 rfl ?_
  refine V_iconst (v := 0) hC dX12_rounds_1 (by decide) ?_
  refine U_putO hC (by decide) fl_X12_98 fin_X12_0 rfl rfl dX12_rounds_2 hq (fun h1 hq => ?_)
  refine V_aload_n hC dX12_rounds_5 0 rfl ?_
  refine U_getI hC fl_X12_237 dX12_rounds_6 hq (fun v2 hq => ?_)
  exact V_iret hC hQ rfl rfl ⟨by decide, by decide⟩ dX12_rounds_9 ⟨_, rfl, hq⟩
theorem clV_X12_rounds {G : Gx} (hG : GOK G) {Γ : Cx} {own : String} {cc : ByteArray} {nL fr lo mc ms cells slots pc : Nat} {hh : List (Nat × Nat × Nat × Nat)} {h : hw} {L : List (Nat × Value)} {rest : List Value} (hC : COK G Γ own cc nL fr lo mc ms hh) {idx : Nat} (hs : SV own idx yX12_rounds cX12_rounds 1 (some .int) 0) {p0 : Nat} (hR : 1 + 1 ≤ fr ∧ 8 + (1 + 11) + 30 ≤ lo) (hw8 : (rest.map fun v => v.category).sum ≤ 8) (hcs : cells + 0 ≤ mc ∧ slots + 0 ≤ ms) (hdg : decode cc pc = .ok (.invokevirtual idx, 3)) (ho : isO h p0 12) {post : Int32 → hw → Prop} (hq : wp_X12_rounds G p0 h post) (kk : ∀ (r : Int32) (h1 : hw) , post r h1 → V G Γ nL (cells + 0) (slots + 0) h1 (pc + 3) L (.int r :: rest)) : V G Γ nL cells slots h pc L (.ref p0 :: rest) :=
  V_callV (As := []) (r9 := (RX12, TX12, 36)) hC (ct_X12_rounds hG p0 h post hq) hs ho rfl rfl rfl hR hw8 hcs hdg (fun E h1 z => z.elim) (fun v h1 z => by obtain ⟨r, rfl, hz⟩ := z; exact kk r h1 hz)
set_option maxRecDepth 100000 in
set_option maxHeartbeats 4000000 in
theorem ct_X12_addBidder {G : Gx} (hG : GOK G) (p0 : Nat) (p1 : Int32) (p2 : Int32) (p3 : Int32) (h0 : hw) (post : Int32 → hw → Prop) (hq : wp_X12_addBidder G p0 p1 p2 p3 h0 post) : CT G yX12_addBidder cX12_addBidder 5 (some .int) 2 52 0 0 [.ref p0, .int p1, .int p2, .int p3] h0 (fun v h1 => ∃ r : Int32, v = some (.int r) ∧ post r h1) (fun E h1 => False) := by
  refine CT_of hG (by decide) (Nat.le_of_ble_eq_true rfl) (fun Γ hC hQ hN => ?_)
  have hC : COK G Γ "BandplanModel" cX12_addBidder 5 2 52 0 0 [] := hC
  unfold wp_X12_addBidder at hq
  show V G Γ 5 0 0 h0 0 [(0, .ref p0), (1, .int p1), (2, .int p2), (3, .int p3)] []
  refine V_aload_n hC dX12_addBidder_0 0 rfl ?_
  refine V_iconst (v := 0) hC dX12_addBidder_1 (by decide) ?_
  refine U_putO hC (by decide) fl_X12_98 fin_X12_0 rfl rfl dX12_addBidder_2 hq (fun h1 hq => ?_)
  refine V_iload_n hC dX12_addBidder_5 1 rfl ?_
  refine V_iconst (v := 0) hC dX12_addBidder_6 (by decide) ?_
  refine V_sipush (v := 9999) hC dX12_addBidder_7 (by decide) ?_
  refine clS_X12_in hG hC ss_X12_101 ⟨by decide, by decide⟩ (Nat.le_of_ble_eq_true rfl) ⟨by decide, by decide⟩ dX12_addBidder_10 hq (fun r2 hq => ?_)
  show V G Γ 5 0 0 h1 13 [(0, .ref p0), (1, .int p1), (2, .int p2), (3, .int p3)] [.int r2]
  have hq := hq (fun (t3 : Int32) => V G Γ 5 0 0 h1 39 [(0, .ref p0), (1, .int p1), (2, .int p2), (3, .int p3)] [.int t3]) (by
    intro t3 hq
    show V G Γ 5 0 0 h1 39 [(0, .ref p0), (1, .int p1), (2, .int p2), (3, .int p3)] [.int t3]
    refine V_istore (L' := [(0, .ref p0), (1, .int p1), (2, .int p2), (3, .int p3), (4, .int t3)]) hC dX12_addBidder_39 (by decide) [1, 2, 3, 4, 0] rfl ?_
    refine V_aload_n hC dX12_addBidder_41 0 rfl ?_
    refine V_iload hC dX12_addBidder_42 4 rfl ?_
    have hq := hq (fun (t4 : Nat) (t5 : Int32) => V G Γ 5 0 0 h1 52 [(0, .ref p0), (1, .int p1), (2, .int p2), (3, .int p3)] [.int t5, .ref t4]) (by
      intro t4 t5 hq
      show V G Γ 5 0 0 h1 52 [(0, .ref p0), (1, .int p1), (2, .int p2), (3, .int p3)] [.int t5, .ref t4]
      refine V_iconst (v := 1) hC dX12_addBidder_52 (by decide) ?_
      obtain ⟨hz, hq⟩ := hq
      refine clV_X12_fails hG hC sv_X12_115 ⟨by decide, by decide⟩ (Nat.le_of_ble_eq_true rfl) ⟨by decide, by decide⟩ dX12_addBidder_53 hz hq (fun r6 h7 hq => ?_)
      show V G Γ 5 0 0 h7 56 [(0, .ref p0), (1, .int p1), (2, .int p2), (3, .int p3)] [.int r6]
      refine V_if_ne (tgt := 80) hC dX12_addBidder_56 (by decide) (fun hc => ?_) (fun hc => ?_)
      · have hq := hq.1 hc
        refine V_iconst (v := 0) hC dX12_addBidder_80 (by decide) ?_
        exact V_iret hC hQ rfl rfl ⟨by decide, by decide⟩ dX12_addBidder_81 ⟨_, rfl, hq⟩
      · have hq := hq.2 hc
        refine V_aload_n hC dX12_addBidder_59 0 rfl ?_
        refine V_aload_n hC dX12_addBidder_60 0 rfl ?_
        refine U_getI hC fl_X12_243 dX12_addBidder_61 hq (fun v8 hq => ?_)
        refine V_iconst (v := 4) hC dX12_addBidder_64 (by decide) ?_
        have hq := hq (fun (t9 : Nat) (t10 : Int32) => V G Γ 5 0 0 h7 73 [(0, .ref p0), (1, .int p1), (2, .int p2), (3, .int p3)] [.int t10, .ref t9]) (by
          intro t9 t10 hq
          show V G Γ 5 0 0 h7 73 [(0, .ref p0), (1, .int p1), (2, .int p2), (3, .int p3)] [.int t10, .ref t9]
          refine V_iconst (v := 2) hC dX12_addBidder_73 (by decide) ?_
          obtain ⟨hz, hq⟩ := hq
          refine clV_X12_fails hG hC sv_X12_115 ⟨by decide, by decide⟩ (Nat.le_of_ble_eq_true rfl) ⟨by decide, by decide⟩ dX12_addBidder_74 hz hq (fun r11 h12 hq => ?_)
          show V G Γ 5 0 0 h12 77 [(0, .ref p0), (1, .int p1), (2, .int p2), (3, .int p3)] [.int r11]
          refine V_if_eq (tgt := 82) hC dX12_addBidder_77 (by decide) (fun hc => ?_) (fun hc => ?_)
          · have hq := hq.1 hc
            refine V_aload_n hC dX12_addBidder_82 0 rfl ?_
            refine U_getR hC fl_X12_67 dX12_addBidder_83 hq (fun v13 hq => ?_)
            refine V_iconst (v := 3) hC dX12_addBidder_86 (by decide) ?_
            refine V_aload_n hC dX12_addBidder_87 0 rfl ?_
            refine U_getI hC fl_X12_243 dX12_addBidder_88 hq (fun v14 hq => ?_)
            refine V_imul hC dX12_addBidder_91 ?_
            refine V_iload_n hC dX12_addBidder_92 1 rfl ?_
            refine U_stI hC dX12_addBidder_93 hq (fun h15 hq => ?_)
            refine V_aload_n hC dX12_addBidder_94 0 rfl ?_
            refine U_getR hC fl_X12_67 dX12_addBidder_95 hq (fun v16 hq => ?_)
            refine V_iconst (v := 3) hC dX12_addBidder_98 (by decide) ?_
            refine V_aload_n hC dX12_addBidder_99 0 rfl ?_
            refine U_getI hC fl_X12_243 dX12_addBidder_100 hq (fun v17 hq => ?_)
            refine V_imul hC dX12_addBidder_103 ?_
            refine V_iconst (v := 1) hC dX12_addBidder_104 (by decide) ?_
            refine V_iadd hC dX12_addBidder_105 ?_
            refine V_iload_n hC dX12_addBidder_106 2 rfl ?_
            refine U_stI hC dX12_addBidder_107 hq (fun h18 hq => ?_)
            refine V_aload_n hC dX12_addBidder_108 0 rfl ?_
            refine U_getR hC fl_X12_67 dX12_addBidder_109 hq (fun v19 hq => ?_)
            refine V_iconst (v := 3) hC dX12_addBidder_112 (by decide) ?_
            refine V_aload_n hC dX12_addBidder_113 0 rfl ?_
            refine U_getI hC fl_X12_243 dX12_addBidder_114 hq (fun v20 hq => ?_)
            refine V_imul hC dX12_addBidder_117 ?_
            refine V_iconst (v := 2) hC dX12_addBidder_118 (by decide) ?_
            refine V_iadd hC dX12_addBidder_119 ?_
            refine V_iload_n hC dX12_addBidder_120 3 rfl ?_
            refine U_stI hC dX12_addBidder_121 hq (fun h21 hq => ?_)
            refine V_aload_n hC dX12_addBidder_122 0 rfl ?_
            refine V_dup hC dX12_addBidder_123 rfl ?_
            refine U_getI hC fl_X12_243 dX12_addBidder_124 hq (fun v22 hq => ?_)
            refine V_iconst (v := 1) hC dX12_addBidder_127 (by decide) ?_
            refine V_iadd hC dX12_addBidder_128 ?_
            refine U_putO hC (by decide) fl_X12_243 fin_X12_24 rfl rfl dX12_addBidder_129 hq (fun h23 hq => ?_)
            refine V_aload_n hC dX12_addBidder_132 0 rfl ?_
            refine U_getI hC fl_X12_243 dX12_addBidder_133 hq (fun v24 hq => ?_)
            refine V_iconst (v := 1) hC dX12_addBidder_136 (by decide) ?_
            refine V_isub hC dX12_addBidder_137 ?_
            exact V_iret hC hQ rfl rfl ⟨by decide, by decide⟩ dX12_addBidder_138 ⟨_, rfl, hq⟩
          · have hq := hq.2 hc
            refine V_iconst (v := 0) hC dX12_addBidder_80 (by decide) ?_
            exact V_iret hC hQ rfl rfl ⟨by decide, by decide⟩ dX12_addBidder_81 ⟨_, rfl, hq⟩)
        refine V_icmp_ne (tgt := 72) hC dX12_addBidder_65 (by decide) (fun hc => ?_) (fun hc => ?_)
        · have hq := hq.1 hc
          refine V_iconst (v := 0) hC dX12_addBidder_72 (by decide) ?_
          exact hq
        · have hq := hq.2 hc
          refine V_iconst (v := 1) hC dX12_addBidder_68 (by decide) ?_
          refine V_goto (tgt := 73) hC dX12_addBidder_69 (by decide) ?_
          exact hq)
    refine V_if_ne (tgt := 51) hC dX12_addBidder_44 (by decide) (fun hc => ?_) (fun hc => ?_)
    · have hq := hq.1 hc
      refine V_iconst (v := 0) hC dX12_addBidder_51 (by decide) ?_
      refine V_sub [0, 1, 2, 3] rfl ?_
      exact hq
    · have hq := hq.2 hc
      refine V_iconst (v := 1) hC dX12_addBidder_47 (by decide) ?_
      refine V_goto (tgt := 52) hC dX12_addBidder_48 (by decide) ?_
      refine V_sub [0, 1, 2, 3] rfl ?_
      exact hq)
  have hq := hq (V G Γ 5 0 0 h1 38 [(0, .ref p0), (1, .int p1), (2, .int p2), (3, .int p3)] []) (by
    intro hq
    show V G Γ 5 0 0 h1 38 [(0, .ref p0), (1, .int p1), (2, .int p2), (3, .int p3)] []
    refine V_iconst (v := 0) hC dX12_addBidder_38 (by decide) ?_
    exact hq)
  refine V_if_eq (tgt := 38) hC dX12_addBidder_13 (by decide) (fun hc => ?_) (fun hc => ?_)
  · have hq := hq.1 hc
    exact hq
  · have hq := hq.2 hc
    refine V_iload_n hC dX12_addBidder_16 2 rfl ?_
    refine V_iconst (v := 0) hC dX12_addBidder_17 (by decide) ?_
    refine V_iload_n hC dX12_addBidder_18 1 rfl ?_
    refine clS_X12_in hG hC ss_X12_101 ⟨by decide, by decide⟩ (Nat.le_of_ble_eq_true rfl) ⟨by decide, by decide⟩ dX12_addBidder_19 hq (fun r25 hq => ?_)
    show V G Γ 5 0 0 h1 22 [(0, .ref p0), (1, .int p1), (2, .int p2), (3, .int p3)] [.int r25]
    refine V_if_eq (tgt := 38) hC dX12_addBidder_22 (by decide) (fun hc => ?_) (fun hc => ?_)
    · have hq := hq.1 hc
      exact hq
    · have hq := hq.2 hc
      refine V_iload_n hC dX12_addBidder_25 3 rfl ?_
      refine V_iconst (v := 0) hC dX12_addBidder_26 (by decide) ?_
      refine V_iload_n hC dX12_addBidder_27 2 rfl ?_
      refine clS_X12_in hG hC ss_X12_101 ⟨by decide, by decide⟩ (Nat.le_of_ble_eq_true rfl) ⟨by decide, by decide⟩ dX12_addBidder_28 hq (fun r26 hq => ?_)
      show V G Γ 5 0 0 h1 31 [(0, .ref p0), (1, .int p1), (2, .int p2), (3, .int p3)] [.int r26]
      refine V_if_eq (tgt := 38) hC dX12_addBidder_31 (by decide) (fun hc => ?_) (fun hc => ?_)
      · have hq := hq.1 hc
        exact hq
      · have hq := hq.2 hc
        refine V_iconst (v := 1) hC dX12_addBidder_34 (by decide) ?_
        refine V_goto (tgt := 39) hC dX12_addBidder_35 (by decide) ?_
        exact hq
theorem clV_X12_addBidder {G : Gx} (hG : GOK G) {Γ : Cx} {own : String} {cc : ByteArray} {nL fr lo mc ms cells slots pc : Nat} {hh : List (Nat × Nat × Nat × Nat)} {h : hw} {L : List (Nat × Value)} {rest : List Value} (hC : COK G Γ own cc nL fr lo mc ms hh) {idx : Nat} (hs : SV own idx yX12_addBidder cX12_addBidder 5 (some .int) 3) {p0 : Nat} {p1 : Int32} {p2 : Int32} {p3 : Int32} (hR : 2 + 1 ≤ fr ∧ 8 + (5 + 11) + 52 ≤ lo) (hw8 : (rest.map fun v => v.category).sum ≤ 8) (hcs : cells + 0 ≤ mc ∧ slots + 0 ≤ ms) (hdg : decode cc pc = .ok (.invokevirtual idx, 3)) (ho : isO h p0 12) {post : Int32 → hw → Prop} (hq : wp_X12_addBidder G p0 p1 p2 p3 h post) (kk : ∀ (r : Int32) (h1 : hw) , post r h1 → V G Γ nL (cells + 0) (slots + 0) h1 (pc + 3) L (.int r :: rest)) : V G Γ nL cells slots h pc L (.int p3 :: .int p2 :: .int p1 :: .ref p0 :: rest) :=
  V_callV (As := [.int p1, .int p2, .int p3]) (r9 := (RX12, TX12, 36)) hC (ct_X12_addBidder hG p0 p1 p2 p3 h post hq) hs ho rfl rfl rfl hR hw8 hcs hdg (fun E h1 z => z.elim) (fun v h1 z => by obtain ⟨r, rfl, hz⟩ := z; exact kk r h1 hz)
set_option maxRecDepth 100000 in
set_option maxHeartbeats 4000000 in
theorem ct_X12_handOut {G : Gx} (hG : GOK G) (p0 : Nat) (p1 : Int32) (p2 : Int32) (h0 : hw) (post : Int64 → hw → Prop) (hq : wp_X12_handOut G p0 p1 p2 h0 post) : CT G yX12_handOut cX12_handOut 10 (some .long) 2 60 0 0 [.ref p0, .int p1, .int p2] h0 (fun v h1 => ∃ r : Int64, v = some (.long r) ∧ post r h1) (fun E h1 => False) := by
  refine CT_of hG (by decide) (Nat.le_of_ble_eq_true rfl) (fun Γ hC hQ hN => ?_)
  have hC : COK G Γ "BandplanModel" cX12_handOut 10 2 60 0 0 [] := hC
  unfold wp_X12_handOut at hq
  show V G Γ 10 0 0 h0 0 [(0, .ref p0), (1, .int p1), (2, .int p2)] []
  refine V_iconst (v := 0) hC dX12_handOut_0 (by decide) ?_
  refine V_istore_n (L' := [(0, .ref p0), (1, .int p1), (2, .int p2), (3, .int 0)]) hC dX12_handOut_1 rfl (by decide) [1, 2, 3, 0] rfl ?_
  have hq := hq (fun (x3_1 : Int32) (h2 : hw) => V G Γ 10 0 0 h2 2 [(0, .ref p0), (1, .int p1), (2, .int p2), (3, .int x3_1)] []) (by
    intro x3_1 h2 hq
    show V G Γ 10 0 0 h2 2 [(0, .ref p0), (1, .int p1), (2, .int p2), (3, .int x3_1)] []
    refine V_iload_n hC dX12_handOut_2 3 rfl ?_
    refine V_aload_n hC dX12_handOut_3 0 rfl ?_
    refine U_getI hC fl_X12_243 dX12_handOut_4 hq (fun v3 hq => ?_)
    refine V_icmp_ge (tgt := 23) hC dX12_handOut_7 (by decide) (fun hc => ?_) (fun hc => ?_)
    · have hq := hq.1 hc
      refine V_lconst (v := 0) hC dX12_handOut_23 (by decide) ?_
      refine V_lstore_n (L' := [(0, .ref p0), (1, .int p1), (2, .int p2), (3, .long 0)]) hC dX12_handOut_24 rfl (by decide) [1, 2, 3, 0] rfl ?_
      refine V_iconst (v := 0) hC dX12_handOut_25 (by decide) ?_
      refine V_istore (L' := [(0, .ref p0), (1, .int p1), (2, .int p2), (3, .long 0), (5, .int 0)]) hC dX12_handOut_26 (by decide) [1, 2, 3, 4, 0] rfl ?_
      have hq := hq (fun (x3_4 : Int64) (x5_5 : Int32) (h6 : hw) => V G Γ 10 0 0 h6 28 [(0, .ref p0), (1, .int p1), (2, .int p2), (3, .long x3_4), (5, .int x5_5)] []) (by
        intro x3_4 x5_5 h6 hq
        show V G Γ 10 0 0 h6 28 [(0, .ref p0), (1, .int p1), (2, .int p2), (3, .long x3_4), (5, .int x5_5)] []
        refine V_iload hC dX12_handOut_28 4 rfl ?_
        refine V_iload_n hC dX12_handOut_30 1 rfl ?_
        refine V_icmp_ge (tgt := 152) hC dX12_handOut_31 (by decide) (fun hc => ?_) (fun hc => ?_)
        · have hq := hq.1 hc
          refine V_lload_n hC dX12_handOut_152 3 rfl ?_
          exact V_lret hC hQ ⟨by decide, by decide⟩ dX12_handOut_153 ⟨_, rfl, hq⟩
        · have hq := hq.2 hc
          refine V_iconst (v := (-1)) hC dX12_handOut_34 (by decide) ?_
          refine V_istore (L' := [(0, .ref p0), (1, .int p1), (2, .int p2), (3, .long x3_4), (5, .int x5_5), (6, .int (-1))]) hC dX12_handOut_35 (by decide) [1, 2, 3, 4, 5, 0] rfl ?_
          refine V_iconst (v := 0) hC dX12_handOut_37 (by decide) ?_
          refine V_istore (L' := [(0, .ref p0), (1, .int p1), (2, .int p2), (3, .long x3_4), (5, .int x5_5), (6, .int (-1)), (7, .int 0)]) hC dX12_handOut_38 (by decide) [1, 2, 3, 4, 5, 6, 0] rfl ?_
          refine V_iconst (v := 0) hC dX12_handOut_40 (by decide) ?_
          refine V_istore (L' := [(0, .ref p0), (1, .int p1), (2, .int p2), (3, .long x3_4), (5, .int x5_5), (6, .int (-1)), (7, .int 0), (8, .int 0)]) hC dX12_handOut_41 (by decide) [1, 2, 3, 4, 5, 6, 7, 0] rfl ?_
          have hq := hq (fun (x6_7 : Int32) (x7_8 : Int32) (x8_9 : Int32) => V G Γ 10 0 0 h6 43 [(0, .ref p0), (1, .int p1), (2, .int p2), (3, .long x3_4), (5, .int x5_5), (6, .int x6_7), (7, .int x7_8), (8, .int x8_9)] []) (by
            intro x6_7 x7_8 x8_9 hq
            show V G Γ 10 0 0 h6 43 [(0, .ref p0), (1, .int p1), (2, .int p2), (3, .long x3_4), (5, .int x5_5), (6, .int x6_7), (7, .int x7_8), (8, .int x8_9)] []
            refine V_iload hC dX12_handOut_43 7 rfl ?_
            refine V_aload_n hC dX12_handOut_45 0 rfl ?_
            refine U_getI hC fl_X12_243 dX12_handOut_46 hq (fun v10 hq => ?_)
            refine V_icmp_ge (tgt := 123) hC dX12_handOut_49 (by decide) (fun hc => ?_) (fun hc => ?_)
            · have hq := hq.1 hc
              refine V_iload hC dX12_handOut_123 5 rfl ?_
              refine V_iconst (v := (-1)) hC dX12_handOut_125 (by decide) ?_
              have hq := hq (fun (x3_11 : Int64) (h12 : hw) => V G Γ 10 0 0 h12 146 [(0, .ref p0), (1, .int p1), (2, .int p2), (3, .long x3_11), (5, .int x5_5)] []) (by
                intro x3_11 h12 hq
                show V G Γ 10 0 0 h12 146 [(0, .ref p0), (1, .int p1), (2, .int p2), (3, .long x3_11), (5, .int x5_5)] []
                refine V_iinc (j := 4) (v := (x5_5 + 1)) (L' := [(0, .ref p0), (1, .int p1), (2, .int p2), (3, .long x3_11), (5, .int (x5_5 + 1))]) hC dX12_handOut_146 rfl rfl (by decide) [1, 2, 3, 4, 0] rfl ?_
                refine V_goto (tgt := 28) hC dX12_handOut_149 (by decide) ?_
                exact hq)
              refine V_icmp_eq (tgt := 146) hC dX12_handOut_126 (by decide) (fun hc => ?_) (fun hc => ?_)
              · have hq := hq.1 hc
                refine V_sub [0, 1, 2, 3, 4] rfl ?_
                exact hq
              · have hq := hq.2 hc
                refine V_aload_n hC dX12_handOut_129 0 rfl ?_
                refine U_getR hC fl_X12_83 dX12_handOut_130 hq (fun v13 hq => ?_)
                refine V_iload hC dX12_handOut_133 5 rfl ?_
                refine V_dup2 hC dX12_handOut_135 rfl rfl ?_
                refine U_ldI hC dX12_handOut_136 hq (fun v14 hq => ?_)
                refine V_iconst (v := 1) hC dX12_handOut_137 (by decide) ?_
                refine V_iadd hC dX12_handOut_138 ?_
                refine U_stI hC dX12_handOut_139 hq (fun h15 hq => ?_)
                refine V_lload_n hC dX12_handOut_140 3 rfl ?_
                refine V_iload hC dX12_handOut_141 6 rfl ?_
                refine V_i2l hC dX12_handOut_143 ?_
                refine V_ladd hC dX12_handOut_144 ?_
                refine V_lstore_n (L' := [(0, .ref p0), (1, .int p1), (2, .int p2), (3, .long (x3_4 + (Int32.toInt64 x7_8))), (5, .int x5_5), (6, .int x6_7), (7, .int x7_8), (8, .int x8_9)]) hC dX12_handOut_145 rfl (by decide) [1, 2, 3, 0, 4, 5, 6, 7] rfl ?_
                refine V_sub [0, 1, 2, 3, 4] rfl ?_
                exact hq
            · have hq := hq.2 hc
              refine V_iload hC dX12_handOut_52 7 rfl ?_
              refine V_iload_n hC dX12_handOut_54 2 rfl ?_
              have hq := hq (fun (t16 : Int32) => V G Γ 10 0 0 h6 90 [(0, .ref p0), (1, .int p1), (2, .int p2), (3, .long x3_4), (5, .int x5_5), (6, .int x6_7), (7, .int x7_8), (8, .int x8_9)] [.int t16]) (by
                intro t16 hq
                show V G Γ 10 0 0 h6 90 [(0, .ref p0), (1, .int p1), (2, .int p2), (3, .long x3_4), (5, .int x5_5), (6, .int x6_7), (7, .int x7_8), (8, .int x8_9)] [.int t16]
                refine V_istore (L' := [(0, .ref p0), (1, .int p1), (2, .int p2), (3, .long x3_4), (5, .int x5_5), (6, .int x6_7), (7, .int x7_8), (8, .int x8_9), (9, .int t16)]) hC dX12_handOut_90 (by decide) [1, 2, 3, 4, 5, 6, 7, 8, 0] rfl ?_
                refine V_iload hC dX12_handOut_92 8 rfl ?_
                refine V_iload hC dX12_handOut_94 6 rfl ?_
                have hq := hq (fun (t17 : Int32) => V G Γ 10 0 0 h6 106 [(0, .ref p0), (1, .int p1), (2, .int p2), (3, .long x3_4), (5, .int x5_5), (7, .int x7_8), (8, .int x8_9), (9, .int t16)] [.int t17]) (by
                  intro t17 hq
                  show V G Γ 10 0 0 h6 106 [(0, .ref p0), (1, .int p1), (2, .int p2), (3, .long x3_4), (5, .int x5_5), (7, .int x7_8), (8, .int x8_9), (9, .int t16)] [.int t17]
                  refine V_istore (L' := [(0, .ref p0), (1, .int p1), (2, .int p2), (3, .long x3_4), (5, .int x5_5), (6, .int t17), (7, .int x7_8), (8, .int x8_9), (9, .int t16)]) hC dX12_handOut_106 (by decide) [1, 2, 3, 4, 5, 0, 6, 7, 8] rfl ?_
                  refine V_iload hC dX12_handOut_108 6 rfl ?_
                  refine V_iload hC dX12_handOut_110 8 rfl ?_
                  refine V_max hC sm_X12_129 (by decide) (Nat.le_of_ble_eq_true rfl) (by decide) (by decide) dX12_handOut_112 ?_
                  refine V_istore (L' := [(0, .ref p0), (1, .int p1), (2, .int p2), (3, .long x3_4), (5, .int x5_5), (6, .int t17), (7, .int (jmax x7_8 t16)), (8, .int x8_9), (9, .int t16)]) hC dX12_handOut_115 (by decide) [1, 2, 3, 4, 5, 6, 0, 7, 8] rfl ?_
                  refine V_iinc (j := 7) (v := (x8_9 + 1)) (L' := [(0, .ref p0), (1, .int p1), (2, .int p2), (3, .long x3_4), (5, .int x5_5), (6, .int t17), (7, .int (jmax x7_8 t16)), (8, .int (x8_9 + 1)), (9, .int t16)]) hC dX12_handOut_117 rfl rfl (by decide) [1, 2, 3, 4, 5, 6, 7, 0, 8] rfl ?_
                  refine V_goto (tgt := 43) hC dX12_handOut_120 (by decide) ?_
                  refine V_sub [0, 1, 2, 3, 4, 5, 6, 7] rfl ?_
                  exact hq)
                refine V_icmp_le (tgt := 104) hC dX12_handOut_96 (by decide) (fun hc => ?_) (fun hc => ?_)
                · have hq := hq.1 hc
                  refine V_iload hC dX12_handOut_104 5 rfl ?_
                  refine V_sub [0, 1, 2, 3, 4, 6, 7, 8] rfl ?_
                  exact hq
                · have hq := hq.2 hc
                  refine V_iload hC dX12_handOut_99 7 rfl ?_
                  refine V_goto (tgt := 106) hC dX12_handOut_101 (by decide) ?_
                  refine V_sub [0, 1, 2, 3, 4, 6, 7, 8] rfl ?_
                  exact hq)
              have hq := hq (V G Γ 10 0 0 h6 69 [(0, .ref p0), (1, .int p1), (2, .int p2), (3, .long x3_4), (5, .int x5_5), (6, .int x6_7), (7, .int x7_8), (8, .int x8_9)] []) (by
                intro hq
                show V G Γ 10 0 0 h6 69 [(0, .ref p0), (1, .int p1), (2, .int p2), (3, .long x3_4), (5, .int x5_5), (6, .int x6_7), (7, .int x7_8), (8, .int x8_9)] []
                refine V_iconst (v := 0) hC dX12_handOut_69 (by decide) ?_
                refine V_goto (tgt := 90) hC dX12_handOut_70 (by decide) ?_
                exact hq)
              refine V_icmp_eq (tgt := 69) hC dX12_handOut_55 (by decide) (fun hc => ?_) (fun hc => ?_)
              · have hq := hq.1 hc
                exact hq
              · have hq := hq.2 hc
                refine V_aload_n hC dX12_handOut_58 0 rfl ?_
                refine U_getR hC fl_X12_83 dX12_handOut_59 hq (fun v18 hq => ?_)
                refine V_iload hC dX12_handOut_62 7 rfl ?_
                refine U_ldI hC dX12_handOut_64 hq (fun v19 hq => ?_)
                refine V_iconst (v := 3) hC dX12_handOut_65 (by decide) ?_
                refine V_icmp_ne (tgt := 73) hC dX12_handOut_66 (by decide) (fun hc => ?_) (fun hc => ?_)
                · have hq := hq.1 hc
                  refine V_aload_n hC dX12_handOut_73 0 rfl ?_
                  refine U_getR hC fl_X12_67 dX12_handOut_74 hq (fun v20 hq => ?_)
                  refine V_iconst (v := 3) hC dX12_handOut_77 (by decide) ?_
                  refine V_iload hC dX12_handOut_78 7 rfl ?_
                  refine V_imul hC dX12_handOut_80 ?_
                  refine V_aload_n hC dX12_handOut_81 0 rfl ?_
                  refine U_getR hC fl_X12_83 dX12_handOut_82 hq (fun v21 hq => ?_)
                  refine V_iload hC dX12_handOut_85 7 rfl ?_
                  refine U_ldI hC dX12_handOut_87 hq (fun v22 hq => ?_)
                  refine V_iadd hC dX12_handOut_88 ?_
                  refine U_ldI hC dX12_handOut_89 hq (fun v23 hq => ?_)
                  exact hq
                · have hq := hq.2 hc
                  exact hq)
          exact hq)
      exact hq
    · have hq := hq.2 hc
      refine V_aload_n hC dX12_handOut_10 0 rfl ?_
      refine U_getR hC fl_X12_83 dX12_handOut_11 hq (fun v24 hq => ?_)
      refine V_iload_n hC dX12_handOut_14 3 rfl ?_
      refine V_iconst (v := 0) hC dX12_handOut_15 (by decide) ?_
      refine U_stI hC dX12_handOut_16 hq (fun h25 hq => ?_)
      refine V_iinc (j := 3) (v := (x3_1 + 1)) (L' := [(0, .ref p0), (1, .int p1), (2, .int p2), (3, .int (x3_1 + 1))]) hC dX12_handOut_17 rfl rfl (by decide) [1, 2, 3, 0] rfl ?_
      refine V_goto (tgt := 2) hC dX12_handOut_20 (by decide) ?_
      exact hq)
  exact hq
theorem clV_X12_handOut {G : Gx} (hG : GOK G) {Γ : Cx} {own : String} {cc : ByteArray} {nL fr lo mc ms cells slots pc : Nat} {hh : List (Nat × Nat × Nat × Nat)} {h : hw} {L : List (Nat × Value)} {rest : List Value} (hC : COK G Γ own cc nL fr lo mc ms hh) {idx : Nat} (hs : SV own idx yX12_handOut cX12_handOut 10 (some .long) 2) {p0 : Nat} {p1 : Int32} {p2 : Int32} (hR : 2 + 1 ≤ fr ∧ 8 + (10 + 11) + 60 ≤ lo) (hw8 : (rest.map fun v => v.category).sum ≤ 8) (hcs : cells + 0 ≤ mc ∧ slots + 0 ≤ ms) (hdg : decode cc pc = .ok (.invokevirtual idx, 3)) (ho : isO h p0 12) {post : Int64 → hw → Prop} (hq : wp_X12_handOut G p0 p1 p2 h post) (kk : ∀ (r : Int64) (h1 : hw) , post r h1 → V G Γ nL (cells + 0) (slots + 0) h1 (pc + 3) L (.long r :: rest)) : V G Γ nL cells slots h pc L (.int p2 :: .int p1 :: .ref p0 :: rest) :=
  V_callV (As := [.int p1, .int p2]) (r9 := (RX12, TX12, 36)) hC (ct_X12_handOut hG p0 p1 p2 h post hq) hs ho rfl rfl rfl hR hw8 hcs hdg (fun E h1 z => z.elim) (fun v h1 z => by obtain ⟨r, rfl, hz⟩ := z; exact kk r h1 hz)
set_option maxRecDepth 100000 in
set_option maxHeartbeats 4000000 in
theorem ct_X12_buy {G : Gx} (hG : GOK G) (p0 : Nat) (p1 : Int32) (h0 : hw) (post : Int32 → hw → Prop) (hq : wp_X12_buy G p0 p1 h0 post) : CT G yX12_buy cX12_buy 9 (some .int) 3 89 0 0 [.ref p0, .int p1] h0 (fun v h1 => ∃ r : Int32, v = some (.int r) ∧ post r h1) (fun E h1 => False) := by
  refine CT_of hG (by decide) (Nat.le_of_ble_eq_true rfl) (fun Γ hC hQ hN => ?_)
  have hC : COK G Γ "BandplanModel" cX12_buy 9 3 89 0 0 [] := hC
  unfold wp_X12_buy at hq
  show V G Γ 9 0 0 h0 0 [(0, .ref p0), (1, .int p1)] []
  refine V_aload_n hC dX12_buy_0 0 rfl ?_
  refine V_iconst (v := 0) hC dX12_buy_1 (by decide) ?_
  refine U_putO hC (by decide) fl_X12_98 fin_X12_0 rfl rfl dX12_buy_2 hq (fun h1 hq => ?_)
  refine V_aload_n hC dX12_buy_5 0 rfl ?_
  refine V_iload_n hC dX12_buy_6 1 rfl ?_
  refine V_iconst (v := 0) hC dX12_buy_7 (by decide) ?_
  refine V_bipush (v := 8) hC dX12_buy_8 (by decide) ?_
  refine clS_X12_in hG hC ss_X12_101 ⟨by decide, by decide⟩ (Nat.le_of_ble_eq_true rfl) ⟨by decide, by decide⟩ dX12_buy_10 hq (fun r2 hq => ?_)
  show V G Γ 9 0 0 h1 13 [(0, .ref p0), (1, .int p1)] [.int r2, .ref p0]
  have hq := hq (fun (t3 : Nat) (t4 : Int32) => V G Γ 9 0 0 h1 21 [(0, .ref p0), (1, .int p1)] [.int t4, .ref t3]) (by
    intro t3 t4 hq
    show V G Γ 9 0 0 h1 21 [(0, .ref p0), (1, .int p1)] [.int t4, .ref t3]
    refine V_iconst (v := 1) hC dX12_buy_21 (by decide) ?_
    obtain ⟨hz, hq⟩ := hq
    refine clV_X12_fails hG hC sv_X12_115 ⟨by decide, by decide⟩ (Nat.le_of_ble_eq_true rfl) ⟨by decide, by decide⟩ dX12_buy_22 hz hq (fun r5 h6 hq => ?_)
    show V G Γ 9 0 0 h6 25 [(0, .ref p0), (1, .int p1)] [.int r5]
    refine V_if_eq (tgt := 30) hC dX12_buy_25 (by decide) (fun hc => ?_) (fun hc => ?_)
    · have hq := hq.1 hc
      refine V_aload_n hC dX12_buy_30 0 rfl ?_
      refine V_iload_n hC dX12_buy_31 1 rfl ?_
      refine V_iconst (v := (-1)) hC dX12_buy_32 (by decide) ?_
      obtain ⟨hz, hq⟩ := hq
      refine clV_X12_handOut hG hC sv_X12_246 ⟨by decide, by decide⟩ (Nat.le_of_ble_eq_true rfl) ⟨by decide, by decide⟩ dX12_buy_33 hz hq (fun r7 h8 hq => ?_)
      show V G Γ 9 0 0 h8 36 [(0, .ref p0), (1, .int p1)] [.long r7]
      refine V_lstore_n (L' := [(0, .ref p0), (1, .int p1), (2, .long r7)]) hC dX12_buy_36 rfl (by decide) [1, 2, 0] rfl ?_
      refine V_iconst (v := 0) hC dX12_buy_37 (by decide) ?_
      refine V_istore (L' := [(0, .ref p0), (1, .int p1), (2, .long r7), (4, .int 0)]) hC dX12_buy_38 (by decide) [1, 2, 3, 0] rfl ?_
      refine V_iconst (v := 0) hC dX12_buy_40 (by decide) ?_
      refine V_istore (L' := [(0, .ref p0), (1, .int p1), (2, .long r7), (4, .int 0), (5, .int 0)]) hC dX12_buy_41 (by decide) [1, 2, 3, 4, 0] rfl ?_
      have hq := hq (fun (x4_9 : Int32) (x5_10 : Int32) (h11 : hw) => V G Γ 9 0 0 h11 43 [(0, .ref p0), (1, .int p1), (2, .long r7), (4, .int x4_9), (5, .int x5_10)] []) (by
        intro x4_9 x5_10 h11 hq
        show V G Γ 9 0 0 h11 43 [(0, .ref p0), (1, .int p1), (2, .long r7), (4, .int x4_9), (5, .int x5_10)] []
        refine V_iload hC dX12_buy_43 4 rfl ?_
        refine V_aload_n hC dX12_buy_45 0 rfl ?_
        refine U_getI hC fl_X12_243 dX12_buy_46 hq (fun v12 hq => ?_)
        refine V_icmp_ge (tgt := 84) hC dX12_buy_49 (by decide) (fun hc => ?_) (fun hc => ?_)
        · have hq := hq.1 hc
          refine V_iconst (v := 0) hC dX12_buy_84 (by decide) ?_
          refine V_istore (L' := [(0, .ref p0), (1, .int p1), (2, .long r7), (4, .int x4_9), (5, .int 0)]) hC dX12_buy_85 (by decide) [1, 2, 3, 4, 0] rfl ?_
          have hq := hq (fun (x5_13 : Int32) (h14 : hw) => V G Γ 9 0 0 h14 87 [(0, .ref p0), (1, .int p1), (2, .long r7), (4, .int x4_9), (5, .int x5_13)] []) (by
            intro x5_13 h14 hq
            show V G Γ 9 0 0 h14 87 [(0, .ref p0), (1, .int p1), (2, .long r7), (4, .int x4_9), (5, .int x5_13)] []
            refine V_iload hC dX12_buy_87 4 rfl ?_
            refine V_aload_n hC dX12_buy_89 0 rfl ?_
            refine U_getI hC fl_X12_243 dX12_buy_90 hq (fun v15 hq => ?_)
            refine V_icmp_ge (tgt := 163) hC dX12_buy_93 (by decide) (fun hc => ?_) (fun hc => ?_)
            · have hq := hq.1 hc
              refine V_iload hC dX12_buy_163 3 rfl ?_
              exact V_iret hC hQ rfl rfl ⟨by decide, by decide⟩ dX12_buy_165 ⟨_, rfl, hq⟩
            · have hq := hq.2 hc
              refine V_lconst (v := 0) hC dX12_buy_96 (by decide) ?_
              refine V_lstore (L' := [(0, .ref p0), (1, .int p1), (2, .long r7), (4, .int x4_9), (5, .int x5_13), (6, .long 0)]) hC dX12_buy_97 (by decide) [1, 2, 3, 4, 5, 0] rfl ?_
              refine V_iconst (v := 0) hC dX12_buy_99 (by decide) ?_
              refine V_istore (L' := [(0, .ref p0), (1, .int p1), (2, .long r7), (4, .int x4_9), (5, .int x5_13), (6, .long 0), (8, .int 0)]) hC dX12_buy_100 (by decide) [1, 2, 3, 4, 5, 6, 0] rfl ?_
              have hq := hq (fun (x6_16 : Int64) (x8_17 : Int32) => V G Γ 9 0 0 h14 102 [(0, .ref p0), (1, .int p1), (2, .long r7), (4, .int x4_9), (5, .int x5_13), (6, .long x6_16), (8, .int x8_17)] []) (by
                intro x6_16 x8_17 hq
                show V G Γ 9 0 0 h14 102 [(0, .ref p0), (1, .int p1), (2, .long r7), (4, .int x4_9), (5, .int x5_13), (6, .long x6_16), (8, .int x8_17)] []
                refine V_iload hC dX12_buy_102 6 rfl ?_
                refine V_aload_n hC dX12_buy_104 0 rfl ?_
                refine U_getR hC fl_X12_70 dX12_buy_105 hq (fun v18 hq => ?_)
                refine V_iload hC dX12_buy_108 4 rfl ?_
                refine U_ldI hC dX12_buy_110 hq (fun v19 hq => ?_)
                refine V_icmp_ge (tgt := 138) hC dX12_buy_111 (by decide) (fun hc => ?_) (fun hc => ?_)
                · have hq := hq.1 hc
                  refine V_aload_n hC dX12_buy_138 0 rfl ?_
                  refine U_getR hC fl_X12_73 dX12_buy_139 hq (fun v20 hq => ?_)
                  refine V_iload hC dX12_buy_142 4 rfl ?_
                  refine V_aload_n hC dX12_buy_144 0 rfl ?_
                  refine V_iload_n hC dX12_buy_145 1 rfl ?_
                  refine V_iload hC dX12_buy_146 4 rfl ?_
                  obtain ⟨hz, hq⟩ := hq
                  refine clV_X12_handOut hG hC sv_X12_246 ⟨by decide, by decide⟩ (Nat.le_of_ble_eq_true rfl) ⟨by decide, by decide⟩ dX12_buy_148 hz hq (fun r21 h22 hq => ?_)
                  show V G Γ 9 0 0 h22 151 [(0, .ref p0), (1, .int p1), (2, .long r7), (4, .int x4_9), (5, .int x5_13), (6, .long x6_16), (8, .int x8_17)] [.long r21, .int x5_13, .ref v20]
                  refine V_lload_n hC dX12_buy_151 2 rfl ?_
                  refine V_lload hC dX12_buy_152 5 rfl ?_
                  refine V_lsub hC dX12_buy_154 ?_
                  refine V_lsub hC dX12_buy_155 ?_
                  refine U_stJ hC dX12_buy_156 hq (fun h23 hq => ?_)
                  refine V_iinc (j := 4) (v := (x5_13 + 1)) (L' := [(0, .ref p0), (1, .int p1), (2, .long r7), (4, .int x4_9), (5, .int (x5_13 + 1)), (6, .long x6_16), (8, .int x8_17)]) hC dX12_buy_157 rfl rfl (by decide) [1, 2, 3, 4, 0, 5, 6] rfl ?_
                  refine V_goto (tgt := 87) hC dX12_buy_160 (by decide) ?_
                  refine V_sub [0, 1, 2, 3, 4] rfl ?_
                  exact hq
                · have hq := hq.2 hc
                  refine V_lload hC dX12_buy_114 5 rfl ?_
                  refine V_aload_n hC dX12_buy_116 0 rfl ?_
                  refine U_getR hC fl_X12_67 dX12_buy_117 hq (fun v24 hq => ?_)
                  refine V_iconst (v := 3) hC dX12_buy_120 (by decide) ?_
                  refine V_iload hC dX12_buy_121 4 rfl ?_
                  refine V_imul hC dX12_buy_123 ?_
                  refine V_iload hC dX12_buy_124 6 rfl ?_
                  refine V_iadd hC dX12_buy_126 ?_
                  refine U_ldI hC dX12_buy_127 hq (fun v25 hq => ?_)
                  refine V_i2l hC dX12_buy_128 ?_
                  refine V_ladd hC dX12_buy_129 ?_
                  refine V_lstore (L' := [(0, .ref p0), (1, .int p1), (2, .long r7), (4, .int x4_9), (5, .int x5_13), (6, .long (x6_16 + (Int32.toInt64 v25))), (8, .int x8_17)]) hC dX12_buy_130 (by decide) [1, 2, 3, 4, 5, 0, 6] rfl ?_
                  refine V_iinc (j := 6) (v := (x8_17 + 1)) (L' := [(0, .ref p0), (1, .int p1), (2, .long r7), (4, .int x4_9), (5, .int x5_13), (6, .long (x6_16 + (Int32.toInt64 v25))), (8, .int (x8_17 + 1))]) hC dX12_buy_132 rfl rfl (by decide) [1, 2, 3, 4, 5, 6, 0] rfl ?_
                  refine V_goto (tgt := 102) hC dX12_buy_135 (by decide) ?_
                  exact hq)
              exact hq)
          exact hq
        · have hq := hq.2 hc
          refine V_aload_n hC dX12_buy_52 0 rfl ?_
          refine U_getR hC fl_X12_70 dX12_buy_53 hq (fun v26 hq => ?_)
          refine V_iload hC dX12_buy_56 4 rfl ?_
          refine V_aload_n hC dX12_buy_58 0 rfl ?_
          refine U_getR hC fl_X12_83 dX12_buy_59 hq (fun v27 hq => ?_)
          refine V_iload hC dX12_buy_62 4 rfl ?_
          refine U_ldI hC dX12_buy_64 hq (fun v28 hq => ?_)
          refine U_stI hC dX12_buy_65 hq (fun h29 hq => ?_)
          refine V_iload hC dX12_buy_66 3 rfl ?_
          refine V_aload_n hC dX12_buy_68 0 rfl ?_
          refine U_getR hC fl_X12_70 dX12_buy_69 hq (fun v30 hq => ?_)
          refine V_iload hC dX12_buy_72 4 rfl ?_
          refine U_ldI hC dX12_buy_74 hq (fun v31 hq => ?_)
          refine V_iadd hC dX12_buy_75 ?_
          refine V_istore (L' := [(0, .ref p0), (1, .int p1), (2, .long r7), (4, .int (x4_9 + v31)), (5, .int x5_10)]) hC dX12_buy_76 (by decide) [1, 2, 3, 0, 4] rfl ?_
          refine V_iinc (j := 4) (v := (x5_10 + 1)) (L' := [(0, .ref p0), (1, .int p1), (2, .long r7), (4, .int (x4_9 + v31)), (5, .int (x5_10 + 1))]) hC dX12_buy_78 rfl rfl (by decide) [1, 2, 3, 4, 0] rfl ?_
          refine V_goto (tgt := 43) hC dX12_buy_81 (by decide) ?_
          exact hq)
      exact hq
    · have hq := hq.2 hc
      refine V_iconst (v := 0) hC dX12_buy_28 (by decide) ?_
      exact V_iret hC hQ rfl rfl ⟨by decide, by decide⟩ dX12_buy_29 ⟨_, rfl, hq⟩)
  refine V_if_ne (tgt := 20) hC dX12_buy_13 (by decide) (fun hc => ?_) (fun hc => ?_)
  · have hq := hq.1 hc
    refine V_iconst (v := 0) hC dX12_buy_20 (by decide) ?_
    exact hq
  · have hq := hq.2 hc
    refine V_iconst (v := 1) hC dX12_buy_16 (by decide) ?_
    refine V_goto (tgt := 21) hC dX12_buy_17 (by decide) ?_
    exact hq
theorem clV_X12_buy {G : Gx} (hG : GOK G) {Γ : Cx} {own : String} {cc : ByteArray} {nL fr lo mc ms cells slots pc : Nat} {hh : List (Nat × Nat × Nat × Nat)} {h : hw} {L : List (Nat × Value)} {rest : List Value} (hC : COK G Γ own cc nL fr lo mc ms hh) {idx : Nat} (hs : SV own idx yX12_buy cX12_buy 9 (some .int) 1) {p0 : Nat} {p1 : Int32} (hR : 3 + 1 ≤ fr ∧ 8 + (9 + 11) + 89 ≤ lo) (hw8 : (rest.map fun v => v.category).sum ≤ 8) (hcs : cells + 0 ≤ mc ∧ slots + 0 ≤ ms) (hdg : decode cc pc = .ok (.invokevirtual idx, 3)) (ho : isO h p0 12) {post : Int32 → hw → Prop} (hq : wp_X12_buy G p0 p1 h post) (kk : ∀ (r : Int32) (h1 : hw) , post r h1 → V G Γ nL (cells + 0) (slots + 0) h1 (pc + 3) L (.int r :: rest)) : V G Γ nL cells slots h pc L (.int p1 :: .ref p0 :: rest) :=
  V_callV (As := [.int p1]) (r9 := (RX12, TX12, 36)) hC (ct_X12_buy hG p0 p1 h post hq) hs ho rfl rfl rfl hR hw8 hcs hdg (fun E h1 z => z.elim) (fun v h1 z => by obtain ⟨r, rfl, hz⟩ := z; exact kk r h1 hz)
set_option maxRecDepth 100000 in
set_option maxHeartbeats 4000000 in
theorem ct_X12_noBidder {G : Gx} (hG : GOK G) (p0 : Nat) (p1 : Int32) (h0 : hw) (post : Int32 → Prop) (hq : wp_X12_noBidder G p0 p1 h0 post) : CT G yX12_noBidder cX12_noBidder 2 (some .boolean) 2 52 0 0 [.ref p0, .int p1] h0 (fun v h1 => ∃ r : Int32, v = some (.int r) ∧ h1 = h0 ∧ post r) (fun E h1 => False) := by
  refine CT_of hG (by decide) (Nat.le_of_ble_eq_true rfl) (fun Γ hC hQ hN => ?_)
  have hC : COK G Γ "BandplanModel" cX12_noBidder 2 2 52 0 0 [] := hC
  unfold wp_X12_noBidder at hq
  show V G Γ 2 0 0 h0 0 [(0, .ref p0), (1, .int p1)] []
  refine V_iload_n hC dX12_noBidder_0 1 rfl ?_
  refine V_iconst (v := 0) hC dX12_noBidder_1 (by decide) ?_
  refine V_aload_n hC dX12_noBidder_2 0 rfl ?_
  refine U_getI hC fl_X12_243 dX12_noBidder_3 hq (fun v1 hq => ?_)
  refine V_iconst (v := 1) hC dX12_noBidder_6 (by decide) ?_
  refine V_isub hC dX12_noBidder_7 ?_
  refine clS_X12_in hG hC ss_X12_101 ⟨by decide, by decide⟩ (Nat.le_of_ble_eq_true rfl) ⟨by decide, by decide⟩ dX12_noBidder_8 hq (fun r2 hq => ?_)
  show V G Γ 2 0 0 h0 11 [(0, .ref p0), (1, .int p1)] [.int r2]
  refine V_if_ne (tgt := 18) hC dX12_noBidder_11 (by decide) (fun hc => ?_) (fun hc => ?_)
  · have hq := hq.1 hc
    refine V_iconst (v := 0) hC dX12_noBidder_18 (by decide) ?_
    exact V_iret hC hQ rfl rfl ⟨by decide, by decide⟩ dX12_noBidder_19 ⟨_, rfl, rfl, hq⟩
  · have hq := hq.2 hc
    refine V_iconst (v := 1) hC dX12_noBidder_14 (by decide) ?_
    refine V_goto (tgt := 19) hC dX12_noBidder_15 (by decide) ?_
    exact V_iret hC hQ rfl rfl ⟨by decide, by decide⟩ dX12_noBidder_19 ⟨_, rfl, rfl, hq⟩
theorem clV_X12_noBidder {G : Gx} (hG : GOK G) {Γ : Cx} {own : String} {cc : ByteArray} {nL fr lo mc ms cells slots pc : Nat} {hh : List (Nat × Nat × Nat × Nat)} {h : hw} {L : List (Nat × Value)} {rest : List Value} (hC : COK G Γ own cc nL fr lo mc ms hh) {idx : Nat} (hs : SV own idx yX12_noBidder cX12_noBidder 2 (some .boolean) 1) {p0 : Nat} {p1 : Int32} (hR : 2 + 1 ≤ fr ∧ 8 + (2 + 11) + 52 ≤ lo) (hw8 : (rest.map fun v => v.category).sum ≤ 8) (hcs : cells + 0 ≤ mc ∧ slots + 0 ≤ ms) (hdg : decode cc pc = .ok (.invokevirtual idx, 3)) (ho : isO h p0 12) {post : Int32 → Prop} (hq : wp_X12_noBidder G p0 p1 h post) (kk : ∀ (r : Int32) , post r → V G Γ nL (cells + 0) (slots + 0) h (pc + 3) L (.int r :: rest)) : V G Γ nL cells slots h pc L (.int p1 :: .ref p0 :: rest) :=
  V_callV (As := [.int p1]) (r9 := (RX12, TX12, 36)) hC (ct_X12_noBidder hG p0 p1 h post hq) hs ho rfl rfl rfl hR hw8 hcs hdg (fun E h1 z => z.elim) (fun v h1 z => by obtain ⟨r, rfl, rfl, hz⟩ := z; exact kk r hz)
set_option maxRecDepth 100000 in
set_option maxHeartbeats 4000000 in
theorem ct_X12_bought {G : Gx} (hG : GOK G) (p0 : Nat) (p1 : Int32) (h0 : hw) (post : Int32 → hw → Prop) (hq : wp_X12_bought G p0 p1 h0 post) : CT G yX12_bought cX12_bought 2 (some .int) 3 73 0 0 [.ref p0, .int p1] h0 (fun v h1 => ∃ r : Int32, v = some (.int r) ∧ post r h1) (fun E h1 => False) := by
  refine CT_of hG (by decide) (Nat.le_of_ble_eq_true rfl) (fun Γ hC hQ hN => ?_)
  have hC : COK G Γ "BandplanModel" cX12_bought 2 3 73 0 0 [] := hC
  unfold wp_X12_bought at hq
  show V G Γ 2 0 0 h0 0 [(0, .ref p0), (1, .int p1)] []
  refine V_aload_n hC dX12_bought_0 0 rfl ?_
  refine V_iconst (v := 0) hC dX12_bought_1 (by decide) ?_
  refine U_putO hC (by decide) fl_X12_98 fin_X12_0 rfl rfl dX12_bought_2 hq (fun h1 hq => ?_)
  refine V_aload_n hC dX12_bought_5 0 rfl ?_
  refine V_aload_n hC dX12_bought_6 0 rfl ?_
  refine V_iload_n hC dX12_bought_7 1 rfl ?_
  obtain ⟨hz, hq⟩ := hq
  refine clV_X12_noBidder hG hC sv_X12_250 ⟨by decide, by decide⟩ (Nat.le_of_ble_eq_true rfl) ⟨by decide, by decide⟩ dX12_bought_8 hz hq (fun r2 hq => ?_)
  show V G Γ 2 0 0 h1 11 [(0, .ref p0), (1, .int p1)] [.int r2, .ref p0]
  refine V_iconst (v := 1) hC dX12_bought_11 (by decide) ?_
  obtain ⟨hz, hq⟩ := hq
  refine clV_X12_fails hG hC sv_X12_115 ⟨by decide, by decide⟩ (Nat.le_of_ble_eq_true rfl) ⟨by decide, by decide⟩ dX12_bought_12 hz hq (fun r3 h4 hq => ?_)
  show V G Γ 2 0 0 h4 15 [(0, .ref p0), (1, .int p1)] [.int r3]
  refine V_if_eq (tgt := 22) hC dX12_bought_15 (by decide) (fun hc => ?_) (fun hc => ?_)
  · have hq := hq.1 hc
    refine V_aload_n hC dX12_bought_22 0 rfl ?_
    refine U_getR hC fl_X12_70 dX12_bought_23 hq (fun v5 hq => ?_)
    refine V_iload_n hC dX12_bought_26 1 rfl ?_
    refine U_ldI hC dX12_bought_27 hq (fun v6 hq => ?_)
    exact V_iret hC hQ rfl rfl ⟨by decide, by decide⟩ dX12_bought_28 ⟨_, rfl, hq⟩
  · have hq := hq.2 hc
    refine V_iconst (v := 0) hC dX12_bought_18 (by decide) ?_
    refine V_goto (tgt := 28) hC dX12_bought_19 (by decide) ?_
    exact V_iret hC hQ rfl rfl ⟨by decide, by decide⟩ dX12_bought_28 ⟨_, rfl, hq⟩
theorem clV_X12_bought {G : Gx} (hG : GOK G) {Γ : Cx} {own : String} {cc : ByteArray} {nL fr lo mc ms cells slots pc : Nat} {hh : List (Nat × Nat × Nat × Nat)} {h : hw} {L : List (Nat × Value)} {rest : List Value} (hC : COK G Γ own cc nL fr lo mc ms hh) {idx : Nat} (hs : SV own idx yX12_bought cX12_bought 2 (some .int) 1) {p0 : Nat} {p1 : Int32} (hR : 3 + 1 ≤ fr ∧ 8 + (2 + 11) + 73 ≤ lo) (hw8 : (rest.map fun v => v.category).sum ≤ 8) (hcs : cells + 0 ≤ mc ∧ slots + 0 ≤ ms) (hdg : decode cc pc = .ok (.invokevirtual idx, 3)) (ho : isO h p0 12) {post : Int32 → hw → Prop} (hq : wp_X12_bought G p0 p1 h post) (kk : ∀ (r : Int32) (h1 : hw) , post r h1 → V G Γ nL (cells + 0) (slots + 0) h1 (pc + 3) L (.int r :: rest)) : V G Γ nL cells slots h pc L (.int p1 :: .ref p0 :: rest) :=
  V_callV (As := [.int p1]) (r9 := (RX12, TX12, 36)) hC (ct_X12_bought hG p0 p1 h post hq) hs ho rfl rfl rfl hR hw8 hcs hdg (fun E h1 z => z.elim) (fun v h1 z => by obtain ⟨r, rfl, hz⟩ := z; exact kk r h1 hz)
set_option maxRecDepth 100000 in
set_option maxHeartbeats 4000000 in
theorem ct_X12_pays {G : Gx} (hG : GOK G) (p0 : Nat) (p1 : Int32) (h0 : hw) (post : Int64 → hw → Prop) (hq : wp_X12_pays G p0 p1 h0 post) : CT G yX12_pays cX12_pays 2 (some .long) 3 73 0 0 [.ref p0, .int p1] h0 (fun v h1 => ∃ r : Int64, v = some (.long r) ∧ post r h1) (fun E h1 => False) := by
  refine CT_of hG (by decide) (Nat.le_of_ble_eq_true rfl) (fun Γ hC hQ hN => ?_)
  have hC : COK G Γ "BandplanModel" cX12_pays 2 3 73 0 0 [] := hC
  unfold wp_X12_pays at hq
  show V G Γ 2 0 0 h0 0 [(0, .ref p0), (1, .int p1)] []
  refine V_aload_n hC dX12_pays_0 0 rfl ?_
  refine V_iconst (v := 0) hC dX12_pays_1 (by decide) ?_
  refine U_putO hC (by decide) fl_X12_98 fin_X12_0 rfl rfl dX12_pays_2 hq (fun h1 hq => ?_)
  refine V_aload_n hC dX12_pays_5 0 rfl ?_
  refine V_aload_n hC dX12_pays_6 0 rfl ?_
  refine V_iload_n hC dX12_pays_7 1 rfl ?_
  obtain ⟨hz, hq⟩ := hq
  refine clV_X12_noBidder hG hC sv_X12_250 ⟨by decide, by decide⟩ (Nat.le_of_ble_eq_true rfl) ⟨by decide, by decide⟩ dX12_pays_8 hz hq (fun r2 hq => ?_)
  show V G Γ 2 0 0 h1 11 [(0, .ref p0), (1, .int p1)] [.int r2, .ref p0]
  refine V_iconst (v := 1) hC dX12_pays_11 (by decide) ?_
  obtain ⟨hz, hq⟩ := hq
  refine clV_X12_fails hG hC sv_X12_115 ⟨by decide, by decide⟩ (Nat.le_of_ble_eq_true rfl) ⟨by decide, by decide⟩ dX12_pays_12 hz hq (fun r3 h4 hq => ?_)
  show V G Γ 2 0 0 h4 15 [(0, .ref p0), (1, .int p1)] [.int r3]
  refine V_if_eq (tgt := 22) hC dX12_pays_15 (by decide) (fun hc => ?_) (fun hc => ?_)
  · have hq := hq.1 hc
    refine V_aload_n hC dX12_pays_22 0 rfl ?_
    refine U_getR hC fl_X12_73 dX12_pays_23 hq (fun v5 hq => ?_)
    refine V_iload_n hC dX12_pays_26 1 rfl ?_
    refine U_ldJ hC dX12_pays_27 hq (fun v6 hq => ?_)
    exact V_lret hC hQ ⟨by decide, by decide⟩ dX12_pays_28 ⟨_, rfl, hq⟩
  · have hq := hq.2 hc
    refine V_lconst (v := 0) hC dX12_pays_18 (by decide) ?_
    refine V_goto (tgt := 28) hC dX12_pays_19 (by decide) ?_
    exact V_lret hC hQ ⟨by decide, by decide⟩ dX12_pays_28 ⟨_, rfl, hq⟩
theorem clV_X12_pays {G : Gx} (hG : GOK G) {Γ : Cx} {own : String} {cc : ByteArray} {nL fr lo mc ms cells slots pc : Nat} {hh : List (Nat × Nat × Nat × Nat)} {h : hw} {L : List (Nat × Value)} {rest : List Value} (hC : COK G Γ own cc nL fr lo mc ms hh) {idx : Nat} (hs : SV own idx yX12_pays cX12_pays 2 (some .long) 1) {p0 : Nat} {p1 : Int32} (hR : 3 + 1 ≤ fr ∧ 8 + (2 + 11) + 73 ≤ lo) (hw8 : (rest.map fun v => v.category).sum ≤ 8) (hcs : cells + 0 ≤ mc ∧ slots + 0 ≤ ms) (hdg : decode cc pc = .ok (.invokevirtual idx, 3)) (ho : isO h p0 12) {post : Int64 → hw → Prop} (hq : wp_X12_pays G p0 p1 h post) (kk : ∀ (r : Int64) (h1 : hw) , post r h1 → V G Γ nL (cells + 0) (slots + 0) h1 (pc + 3) L (.long r :: rest)) : V G Γ nL cells slots h pc L (.int p1 :: .ref p0 :: rest) :=
  V_callV (As := [.int p1]) (r9 := (RX12, TX12, 36)) hC (ct_X12_pays hG p0 p1 h post hq) hs ho rfl rfl rfl hR hw8 hcs hdg (fun E h1 z => z.elim) (fun v h1 z => by obtain ⟨r, rfl, hz⟩ := z; exact kk r h1 hz)
set_option maxRecDepth 100000 in
set_option maxHeartbeats 4000000 in
theorem ct_X12_isBarredAt {G : Gx} (hG : GOK G) (p0 : Nat) (p1 : Int32) (p2 : Int32) (h0 : hw) (post : Int32 → Prop) (hq : wp_X12_isBarredAt G p0 p1 p2 h0 post) : CT G yX12_isBarredAt cX12_isBarredAt 5 (some .boolean) 5 143 0 0 [.ref p0, .int p1, .int p2] h0 (fun v h1 => ∃ r : Int32, v = some (.int r) ∧ h1 = h0 ∧ post r) (fun E h1 => False) := by
  refine CT_of hG (by decide) (Nat.le_of_ble_eq_true rfl) (fun Γ hC hQ hN => ?_)
  have hC : COK G Γ "BandplanModel" cX12_isBarredAt 5 5 143 0 0 [] := hC
  unfold wp_X12_isBarredAt at hq
  show V G Γ 5 0 0 h0 0 [(0, .ref p0), (1, .int p1), (2, .int p2)] []
  refine V_iconst (v := 0) hC dX12_isBarredAt_0 (by decide) ?_
  refine V_istore_n (L' := [(0, .ref p0), (1, .int p1), (2, .int p2), (3, .int 0)]) hC dX12_isBarredAt_1 rfl (by decide) [1, 2, 3, 0] rfl ?_
  refine V_iconst (v := 0) hC dX12_isBarredAt_2 (by decide) ?_
  refine V_istore (L' := [(0, .ref p0), (1, .int p1), (2, .int p2), (3, .int 0), (4, .int 0)]) hC dX12_isBarredAt_3 (by decide) [1, 2, 3, 4, 0] rfl ?_
  have hq := hq (fun (x3_1 : Int32) (x4_2 : Int32) => V G Γ 5 0 0 h0 5 [(0, .ref p0), (1, .int p1), (2, .int p2), (3, .int x3_1), (4, .int x4_2)] []) (by
    intro x3_1 x4_2 hq
    show V G Γ 5 0 0 h0 5 [(0, .ref p0), (1, .int p1), (2, .int p2), (3, .int x3_1), (4, .int x4_2)] []
    refine V_iload hC dX12_isBarredAt_5 4 rfl ?_
    refine V_aload_n hC dX12_isBarredAt_7 0 rfl ?_
    refine U_getI hC fl_X12_108 dX12_isBarredAt_8 hq (fun v3 hq => ?_)
    refine V_icmp_ge (tgt := 75) hC dX12_isBarredAt_11 (by decide) (fun hc => ?_) (fun hc => ?_)
    · have hq := hq.1 hc
      refine V_iload_n hC dX12_isBarredAt_75 3 rfl ?_
      obtain ⟨hz, hq⟩ := hq
      exact V_iret hC hQ rfl (nar_b hz) ⟨by decide, by decide⟩ dX12_isBarredAt_76 ⟨_, rfl, rfl, hq⟩
    · have hq := hq.2 hc
      refine V_iload_n hC dX12_isBarredAt_14 3 rfl ?_
      have hq := hq (fun (t4 : Int32) => V G Γ 5 0 0 h0 68 [(0, .ref p0), (1, .int p1), (2, .int p2), (4, .int x4_2)] [.int t4]) (by
        intro t4 hq
        show V G Γ 5 0 0 h0 68 [(0, .ref p0), (1, .int p1), (2, .int p2), (4, .int x4_2)] [.int t4]
        refine V_istore_n (L' := [(0, .ref p0), (1, .int p1), (2, .int p2), (3, .int t4), (4, .int x4_2)]) hC dX12_isBarredAt_68 rfl (by decide) [1, 2, 3, 0, 4] rfl ?_
        refine V_iinc (j := 4) (v := (x4_2 + 1)) (L' := [(0, .ref p0), (1, .int p1), (2, .int p2), (3, .int t4), (4, .int (x4_2 + 1))]) hC dX12_isBarredAt_69 rfl rfl (by decide) [1, 2, 3, 4, 0] rfl ?_
        refine V_goto (tgt := 5) hC dX12_isBarredAt_72 (by decide) ?_
        exact hq)
      have hq := hq (V G Γ 5 0 0 h0 63 [(0, .ref p0), (1, .int p1), (2, .int p2), (4, .int x4_2)] []) (by
        intro hq
        show V G Γ 5 0 0 h0 63 [(0, .ref p0), (1, .int p1), (2, .int p2), (4, .int x4_2)] []
        refine V_iconst (v := 1) hC dX12_isBarredAt_63 (by decide) ?_
        refine V_goto (tgt := 68) hC dX12_isBarredAt_64 (by decide) ?_
        exact hq)
      refine V_if_ne (tgt := 63) hC dX12_isBarredAt_15 (by decide) (fun hc => ?_) (fun hc => ?_)
      · have hq := hq.1 hc
        refine V_sub [0, 1, 2, 4] rfl ?_
        exact hq
      · have hq := hq.2 hc
        refine V_iload hC dX12_isBarredAt_18 4 rfl ?_
        refine V_iload_n hC dX12_isBarredAt_20 1 rfl ?_
        have hq := hq (V G Γ 5 0 0 h0 67 [(0, .ref p0), (1, .int p1), (2, .int p2), (4, .int x4_2)] []) (by
          intro hq
          show V G Γ 5 0 0 h0 67 [(0, .ref p0), (1, .int p1), (2, .int p2), (4, .int x4_2)] []
          refine V_iconst (v := 0) hC dX12_isBarredAt_67 (by decide) ?_
          exact hq)
        refine V_icmp_eq (tgt := 67) hC dX12_isBarredAt_21 (by decide) (fun hc => ?_) (fun hc => ?_)
        · have hq := hq.1 hc
          refine V_sub [0, 1, 2, 4] rfl ?_
          exact hq
        · have hq := hq.2 hc
          refine V_aload_n hC dX12_isBarredAt_24 0 rfl ?_
          refine U_getR hC fl_X12_35 dX12_isBarredAt_25 hq (fun v5 hq => ?_)
          refine V_iload hC dX12_isBarredAt_28 4 rfl ?_
          refine U_ldZ hC dX12_isBarredAt_30 hq (fun v6 hq => ?_)
          refine V_if_eq (tgt := 67) hC dX12_isBarredAt_31 (by decide) (fun hc => ?_) (fun hc => ?_)
          · have hq := hq.1 hc
            refine V_sub [0, 1, 2, 4] rfl ?_
            exact hq
          · have hq := hq.2 hc
            refine V_aload_n hC dX12_isBarredAt_34 0 rfl ?_
            refine U_getR hC fl_X12_39 dX12_isBarredAt_35 hq (fun v7 hq => ?_)
            refine V_iload hC dX12_isBarredAt_38 4 rfl ?_
            refine U_ldI hC dX12_isBarredAt_40 hq (fun v8 hq => ?_)
            refine V_iconst (v := (-1)) hC dX12_isBarredAt_41 (by decide) ?_
            refine V_icmp_eq (tgt := 67) hC dX12_isBarredAt_42 (by decide) (fun hc => ?_) (fun hc => ?_)
            · have hq := hq.1 hc
              refine V_sub [0, 1, 2, 4] rfl ?_
              exact hq
            · have hq := hq.2 hc
              refine V_aload_n hC dX12_isBarredAt_45 0 rfl ?_
              refine V_iload_n hC dX12_isBarredAt_46 1 rfl ?_
              refine V_iload_n hC dX12_isBarredAt_47 2 rfl ?_
              refine V_iload hC dX12_isBarredAt_48 4 rfl ?_
              refine V_aload_n hC dX12_isBarredAt_50 0 rfl ?_
              refine U_getR hC fl_X12_39 dX12_isBarredAt_51 hq (fun v9 hq => ?_)
              refine V_iload hC dX12_isBarredAt_54 4 rfl ?_
              refine U_ldI hC dX12_isBarredAt_56 hq (fun v10 hq => ?_)
              obtain ⟨hz, hq⟩ := hq
              refine clV_X12_areBarred hG hC sv_X12_178 ⟨by decide, by decide⟩ (Nat.le_of_ble_eq_true rfl) ⟨by decide, by decide⟩ dX12_isBarredAt_57 hz hq (fun r11 hq => ?_)
              show V G Γ 5 0 0 h0 60 [(0, .ref p0), (1, .int p1), (2, .int p2), (3, .int x3_1), (4, .int x4_2)] [.int r11]
              refine V_if_eq (tgt := 67) hC dX12_isBarredAt_60 (by decide) (fun hc => ?_) (fun hc => ?_)
              · have hq := hq.1 hc
                refine V_sub [0, 1, 2, 4] rfl ?_
                exact hq
              · have hq := hq.2 hc
                refine V_sub [0, 1, 2, 4] rfl ?_
                exact hq)
  exact hq
theorem clV_X12_isBarredAt {G : Gx} (hG : GOK G) {Γ : Cx} {own : String} {cc : ByteArray} {nL fr lo mc ms cells slots pc : Nat} {hh : List (Nat × Nat × Nat × Nat)} {h : hw} {L : List (Nat × Value)} {rest : List Value} (hC : COK G Γ own cc nL fr lo mc ms hh) {idx : Nat} (hs : SV own idx yX12_isBarredAt cX12_isBarredAt 5 (some .boolean) 2) {p0 : Nat} {p1 : Int32} {p2 : Int32} (hR : 5 + 1 ≤ fr ∧ 8 + (5 + 11) + 143 ≤ lo) (hw8 : (rest.map fun v => v.category).sum ≤ 8) (hcs : cells + 0 ≤ mc ∧ slots + 0 ≤ ms) (hdg : decode cc pc = .ok (.invokevirtual idx, 3)) (ho : isO h p0 12) {post : Int32 → Prop} (hq : wp_X12_isBarredAt G p0 p1 p2 h post) (kk : ∀ (r : Int32) , post r → V G Γ nL (cells + 0) (slots + 0) h (pc + 3) L (.int r :: rest)) : V G Γ nL cells slots h pc L (.int p2 :: .int p1 :: .ref p0 :: rest) :=
  V_callV (As := [.int p1, .int p2]) (r9 := (RX12, TX12, 36)) hC (ct_X12_isBarredAt hG p0 p1 p2 h post hq) hs ho rfl rfl rfl hR hw8 hcs hdg (fun E h1 z => z.elim) (fun v h1 z => by obtain ⟨r, rfl, rfl, hz⟩ := z; exact kk r hz)
set_option maxRecDepth 100000 in
set_option maxHeartbeats 4000000 in
theorem ct_X12_moves {G : Gx} (hG : GOK G) (p0 : Nat) (p1 : Int32) (p2 : Int32) (p3 : Int32) (h0 : hw) (bc bs : Nat) (post : hw → Prop) (hq : wp_X12_moves G p0 p1 p2 p3 h0 bc bs post) : CT G yX12_moves cX12_moves 5 none 9 213 bc bs [.ref p0, .int p1, .int p2, .int p3] h0 (fun v h1 => v = none ∧ post h1) (fun E h1 => False) := by
  refine CT_of hG (by decide) (Nat.le_of_ble_eq_true rfl) (fun Γ hC hQ hN => ?_)
  have hC : COK G Γ "BandplanModel" cX12_moves 5 9 213 bc bs [] := hC
  unfold wp_X12_moves at hq
  show V G Γ 5 0 0 h0 0 [(0, .ref p0), (1, .int p1), (2, .int p2), (3, .int p3)] []
  refine V_aload_n hC dX12_moves_0 0 rfl ?_
  refine U_getI hC fl_X12_108 dX12_moves_1 hq (fun v1 hq => ?_)
  refine V_iconst (v := 1) hC dX12_moves_4 (by decide) ?_
  refine V_isub hC dX12_moves_5 ?_
  refine V_istore (L' := [(0, .ref p0), (1, .int p1), (2, .int p2), (3, .int p3), (4, .int (v1 - 1))]) hC dX12_moves_6 (by decide) [1, 2, 3, 4, 0] rfl ?_
  have hq := hq (fun (x4_2 : Int32) (h3 : hw) (uc4 : Nat) (us5 : Nat) => uc4 ≤ bc → us5 ≤ bs → V G Γ 5 uc4 us5 h3 8 [(0, .ref p0), (1, .int p1), (2, .int p2), (3, .int p3), (4, .int x4_2)] []) (by
    intro x4_2 h3 uc4 us5 hq hu1 hu2
    show V G Γ 5 uc4 us5 h3 8 [(0, .ref p0), (1, .int p1), (2, .int p2), (3, .int p3), (4, .int x4_2)] []
    refine V_iload hC dX12_moves_8 4 rfl ?_
    refine V_if_lt (tgt := 37) hC dX12_moves_10 (by decide) (fun hc => ?_) (fun hc => ?_)
    · have hq := hq.1 hc
      refine V_aload_n hC dX12_moves_37 0 rfl ?_
      refine V_iload_n hC dX12_moves_38 1 rfl ?_
      refine V_iload_n hC dX12_moves_39 2 rfl ?_
      obtain ⟨bc6, bs7, hz1, hz2, hq⟩ := hq
      obtain ⟨hz, hq⟩ := hq
      refine clV_X12_set hG hC sv_X12_207 ⟨by decide, by decide⟩ (Nat.le_of_ble_eq_true rfl) ⟨hz1, hz2⟩ dX12_moves_40 hz hq (fun h8 hq => ?_)
      show V G Γ 5 (uc4 + bc6) (us5 + bs7) h8 43 [(0, .ref p0), (1, .int p1), (2, .int p2), (3, .int p3), (4, .int x4_2)] []
      refine V_aload_n hC dX12_moves_43 0 rfl ?_
      refine U_getR hC fl_X12_77 dX12_moves_44 hq (fun v9 hq => ?_)
      refine V_iload_n hC dX12_moves_47 1 rfl ?_
      refine V_iload_n hC dX12_moves_48 3 rfl ?_
      refine U_stI hC dX12_moves_49 hq (fun h10 hq => ?_)
      obtain ⟨hz1, hz2, hq⟩ := hq
      exact V_vret hC hQ ⟨hz1, hz2⟩ dX12_moves_50 ⟨rfl, hq⟩
    · have hq := hq.2 hc
      refine V_aload_n hC dX12_moves_13 0 rfl ?_
      refine V_iload hC dX12_moves_14 4 rfl ?_
      refine V_iload_n hC dX12_moves_16 1 rfl ?_
      refine V_iload_n hC dX12_moves_17 2 rfl ?_
      obtain ⟨hz, hq⟩ := hq
      refine clV_X12_goesOffFor hG hC sv_X12_201 ⟨by decide, by decide⟩ (Nat.le_of_ble_eq_true rfl) ⟨by omega, by omega⟩ dX12_moves_18 hz hq (fun r11 hq => ?_)
      show V G Γ 5 uc4 us5 h3 21 [(0, .ref p0), (1, .int p1), (2, .int p2), (3, .int p3), (4, .int x4_2)] [.int r11]
      have hq := hq (fun (h12 : hw) (uc13 : Nat) (us14 : Nat) => uc13 ≤ bc → us14 ≤ bs → V G Γ 5 uc13 us14 h12 31 [(0, .ref p0), (1, .int p1), (2, .int p2), (3, .int p3), (4, .int x4_2)] []) (by
        intro h12 uc13 us14 hq hu1 hu2
        show V G Γ 5 uc13 us14 h12 31 [(0, .ref p0), (1, .int p1), (2, .int p2), (3, .int p3), (4, .int x4_2)] []
        refine V_iinc (j := 4) (v := (x4_2 + (-1))) (L' := [(0, .ref p0), (1, .int p1), (2, .int p2), (3, .int p3), (4, .int (x4_2 + (-1)))]) hC dX12_moves_31 rfl rfl (by decide) [1, 2, 3, 4, 0] rfl ?_
        refine V_goto (tgt := 8) hC dX12_moves_34 (by decide) ?_
        exact hq (by omega) (by omega))
      refine V_if_eq (tgt := 31) hC dX12_moves_21 (by decide) (fun hc => ?_) (fun hc => ?_)
      · have hq := hq.1 hc
        exact hq (by omega) (by omega)
      · have hq := hq.2 hc
        refine V_aload_n hC dX12_moves_24 0 rfl ?_
        refine V_iload hC dX12_moves_25 4 rfl ?_
        refine V_iconst (v := (-1)) hC dX12_moves_27 (by decide) ?_
        obtain ⟨bc15, bs16, hz1, hz2, hq⟩ := hq
        obtain ⟨hz, hq⟩ := hq
        refine clV_X12_set hG hC sv_X12_207 ⟨by decide, by decide⟩ (Nat.le_of_ble_eq_true rfl) ⟨hz1, hz2⟩ dX12_moves_28 hz hq (fun h17 hq => ?_)
        show V G Γ 5 (uc4 + bc15) (us5 + bs16) h17 31 [(0, .ref p0), (1, .int p1), (2, .int p2), (3, .int p3), (4, .int x4_2)] []
        exact hq (by omega) (by omega))
  exact hq (by omega) (by omega)
theorem clV_X12_moves {G : Gx} (hG : GOK G) {Γ : Cx} {own : String} {cc : ByteArray} {nL fr lo mc ms cells slots pc : Nat} {hh : List (Nat × Nat × Nat × Nat)} {h : hw} {L : List (Nat × Value)} {rest : List Value} (hC : COK G Γ own cc nL fr lo mc ms hh) {idx : Nat} (hs : SV own idx yX12_moves cX12_moves 5 none 3) {bc bs : Nat} {p0 : Nat} {p1 : Int32} {p2 : Int32} {p3 : Int32} (hR : 9 + 1 ≤ fr ∧ 8 + (5 + 11) + 213 ≤ lo) (hw8 : (rest.map fun v => v.category).sum ≤ 8) (hcs : cells + bc ≤ mc ∧ slots + bs ≤ ms) (hdg : decode cc pc = .ok (.invokevirtual idx, 3)) (ho : isO h p0 12) {post : hw → Prop} (hq : wp_X12_moves G p0 p1 p2 p3 h bc bs post) (kk : ∀ (h1 : hw) , post h1 → V G Γ nL (cells + bc) (slots + bs) h1 (pc + 3) L (rest)) : V G Γ nL cells slots h pc L (.int p3 :: .int p2 :: .int p1 :: .ref p0 :: rest) :=
  V_callV (As := [.int p1, .int p2, .int p3]) (r9 := (RX12, TX12, 36)) hC (ct_X12_moves hG p0 p1 p2 p3 h bc bs post hq) hs ho rfl rfl rfl hR hw8 hcs hdg (fun E h1 z => z.elim) (fun v h1 z => by obtain ⟨rfl, hz⟩ := z; exact kk h1 hz)
set_option maxRecDepth 100000 in
set_option maxHeartbeats 4000000 in
theorem ct_X12_lowestOn {G : Gx} (hG : GOK G) (p0 : Nat) (h0 : hw) (post : Int32 → Prop) (hq : wp_X12_lowestOn G p0 h0 post) : CT G yX12_lowestOn cX12_lowestOn 3 (some .int) 1 30 0 0 [.ref p0] h0 (fun v h1 => ∃ r : Int32, v = some (.int r) ∧ h1 = h0 ∧ post r) (fun E h1 => False) := by
  refine CT_of hG (by decide) (Nat.le_of_ble_eq_true rfl) (fun Γ hC hQ hN => ?_)
  have hC : COK G Γ "BandplanModel" cX12_lowestOn 3 1 30 0 0 [] := hC
  unfold wp_X12_lowestOn at hq
  show V G Γ 3 0 0 h0 0 [(0, .ref p0)] []
  refine V_iconst (v := (-1)) hC dX12_lowestOn_0 (by decide) ?_
  refine V_istore_n (L' := [(0, .ref p0), (1, .int (-1))]) hC dX12_lowestOn_1 rfl (by decide) [1, 0] rfl ?_
  refine V_aload_n hC dX12_lowestOn_2 0 rfl ?_
  refine U_getI hC fl_X12_108 dX12_lowestOn_3 hq (fun v1 hq => ?_)
  refine V_iconst (v := 1) hC dX12_lowestOn_6 (by decide) ?_
  refine V_isub hC dX12_lowestOn_7 ?_
  refine V_istore_n (L' := [(0, .ref p0), (1, .int (-1)), (2, .int (v1 - 1))]) hC dX12_lowestOn_8 rfl (by decide) [1, 2, 0] rfl ?_
  have hq := hq (fun (x1_2 : Int32) (x2_3 : Int32) => V G Γ 3 0 0 h0 9 [(0, .ref p0), (1, .int x1_2), (2, .int x2_3)] []) (by
    intro x1_2 x2_3 hq
    show V G Γ 3 0 0 h0 9 [(0, .ref p0), (1, .int x1_2), (2, .int x2_3)] []
    refine V_iload_n hC dX12_lowestOn_9 2 rfl ?_
    refine V_if_lt (tgt := 55) hC dX12_lowestOn_10 (by decide) (fun hc => ?_) (fun hc => ?_)
    · have hq := hq.1 hc
      refine V_iload_n hC dX12_lowestOn_55 1 rfl ?_
      exact V_iret hC hQ rfl rfl ⟨by decide, by decide⟩ dX12_lowestOn_56 ⟨_, rfl, rfl, hq⟩
    · have hq := hq.2 hc
      refine V_aload_n hC dX12_lowestOn_13 0 rfl ?_
      refine U_getR hC fl_X12_95 dX12_lowestOn_14 hq (fun v4 hq => ?_)
      refine V_iload_n hC dX12_lowestOn_17 2 rfl ?_
      refine U_ldI hC dX12_lowestOn_18 hq (fun v5 hq => ?_)
      refine V_iconst (v := (-1)) hC dX12_lowestOn_19 (by decide) ?_
      have hq := hq (fun (t6 : Int32) => V G Γ 3 0 0 h0 48 [(0, .ref p0), (2, .int x2_3)] [.int t6]) (by
        intro t6 hq
        show V G Γ 3 0 0 h0 48 [(0, .ref p0), (2, .int x2_3)] [.int t6]
        refine V_istore_n (L' := [(0, .ref p0), (1, .int t6), (2, .int x2_3)]) hC dX12_lowestOn_48 rfl (by decide) [1, 0, 2] rfl ?_
        refine V_iinc (j := 2) (v := (x2_3 + (-1))) (L' := [(0, .ref p0), (1, .int t6), (2, .int (x2_3 + (-1)))]) hC dX12_lowestOn_49 rfl rfl (by decide) [1, 2, 0] rfl ?_
        refine V_goto (tgt := 9) hC dX12_lowestOn_52 (by decide) ?_
        exact hq)
      have hq := hq (V G Γ 3 0 0 h0 47 [(0, .ref p0), (1, .int x1_2), (2, .int x2_3)] []) (by
        intro hq
        show V G Γ 3 0 0 h0 47 [(0, .ref p0), (1, .int x1_2), (2, .int x2_3)] []
        refine V_iload_n hC dX12_lowestOn_47 1 rfl ?_
        refine V_sub [0, 2] rfl ?_
        exact hq)
      refine V_icmp_eq (tgt := 47) hC dX12_lowestOn_20 (by decide) (fun hc => ?_) (fun hc => ?_)
      · have hq := hq.1 hc
        exact hq
      · have hq := hq.2 hc
        refine V_aload_n hC dX12_lowestOn_23 0 rfl ?_
        refine U_getR hC fl_X12_77 dX12_lowestOn_24 hq (fun v7 hq => ?_)
        refine V_iload_n hC dX12_lowestOn_27 2 rfl ?_
        refine U_ldI hC dX12_lowestOn_28 hq (fun v8 hq => ?_)
        refine V_iconst (v := (-1)) hC dX12_lowestOn_29 (by decide) ?_
        refine V_icmp_ne (tgt := 47) hC dX12_lowestOn_30 (by decide) (fun hc => ?_) (fun hc => ?_)
        · have hq := hq.1 hc
          exact hq
        · have hq := hq.2 hc
          refine V_aload_n hC dX12_lowestOn_33 0 rfl ?_
          refine U_getR hC fl_X12_39 dX12_lowestOn_34 hq (fun v9 hq => ?_)
          refine V_iload_n hC dX12_lowestOn_37 2 rfl ?_
          refine U_ldI hC dX12_lowestOn_38 hq (fun v10 hq => ?_)
          refine V_iconst (v := (-1)) hC dX12_lowestOn_39 (by decide) ?_
          refine V_icmp_eq (tgt := 47) hC dX12_lowestOn_40 (by decide) (fun hc => ?_) (fun hc => ?_)
          · have hq := hq.1 hc
            exact hq
          · have hq := hq.2 hc
            refine V_iload_n hC dX12_lowestOn_43 2 rfl ?_
            refine V_goto (tgt := 48) hC dX12_lowestOn_44 (by decide) ?_
            refine V_sub [0, 2] rfl ?_
            exact hq)
  exact hq
theorem clV_X12_lowestOn {G : Gx} (hG : GOK G) {Γ : Cx} {own : String} {cc : ByteArray} {nL fr lo mc ms cells slots pc : Nat} {hh : List (Nat × Nat × Nat × Nat)} {h : hw} {L : List (Nat × Value)} {rest : List Value} (hC : COK G Γ own cc nL fr lo mc ms hh) {idx : Nat} (hs : SV own idx yX12_lowestOn cX12_lowestOn 3 (some .int) 0) {p0 : Nat} (hR : 1 + 1 ≤ fr ∧ 8 + (3 + 11) + 30 ≤ lo) (hw8 : (rest.map fun v => v.category).sum ≤ 8) (hcs : cells + 0 ≤ mc ∧ slots + 0 ≤ ms) (hdg : decode cc pc = .ok (.invokevirtual idx, 3)) (ho : isO h p0 12) {post : Int32 → Prop} (hq : wp_X12_lowestOn G p0 h post) (kk : ∀ (r : Int32) , post r → V G Γ nL (cells + 0) (slots + 0) h (pc + 3) L (.int r :: rest)) : V G Γ nL cells slots h pc L (.ref p0 :: rest) :=
  V_callV (As := []) (r9 := (RX12, TX12, 36)) hC (ct_X12_lowestOn hG p0 h post hq) hs ho rfl rfl rfl hR hw8 hcs hdg (fun E h1 z => z.elim) (fun v h1 z => by obtain ⟨r, rfl, rfl, hz⟩ := z; exact kk r hz)
set_option maxRecDepth 100000 in
set_option maxHeartbeats 4000000 in
theorem ct_X12_move {G : Gx} (hG : GOK G) (p0 : Nat) (p1 : Int32) (h0 : hw) (bc bs : Nat) (post : Int32 → hw → Prop) (hq : wp_X12_move G p0 p1 h0 bc bs post) : CT G yX12_move cX12_move 8 (some .int) 17 419 bc bs [.ref p0, .int p1] h0 (fun v h1 => ∃ r : Int32, v = some (.int r) ∧ post r h1) (fun E h1 => False) := by
  refine CT_of hG (by decide) (Nat.le_of_ble_eq_true rfl) (fun Γ hC hQ hN => ?_)
  have hC : COK G Γ "BandplanModel" cX12_move 8 17 419 bc bs [] := hC
  unfold wp_X12_move at hq
  show V G Γ 8 0 0 h0 0 [(0, .ref p0), (1, .int p1)] []
  refine V_aload_n hC dX12_move_0 0 rfl ?_
  refine V_iconst (v := 0) hC dX12_move_1 (by decide) ?_
  refine U_putO hC (by decide) fl_X12_98 fin_X12_0 rfl rfl dX12_move_2 hq (fun h1 hq => ?_)
  refine V_aload_n hC dX12_move_5 0 rfl ?_
  refine V_iload_n hC dX12_move_6 1 rfl ?_
  refine V_iconst (v := 1) hC dX12_move_7 (by decide) ?_
  refine V_iconst (v := 4) hC dX12_move_8 (by decide) ?_
  refine clS_X12_in hG hC ss_X12_101 ⟨by decide, by decide⟩ (Nat.le_of_ble_eq_true rfl) ⟨by omega, by omega⟩ dX12_move_9 hq (fun r2 hq => ?_)
  show V G Γ 8 0 0 h1 12 [(0, .ref p0), (1, .int p1)] [.int r2, .ref p0]
  have hq := hq (fun (t3 : Nat) (t4 : Int32) => V G Γ 8 0 0 h1 20 [(0, .ref p0), (1, .int p1)] [.int t4, .ref t3]) (by
    intro t3 t4 hq
    show V G Γ 8 0 0 h1 20 [(0, .ref p0), (1, .int p1)] [.int t4, .ref t3]
    refine V_iconst (v := 1) hC dX12_move_20 (by decide) ?_
    obtain ⟨hz, hq⟩ := hq
    refine clV_X12_fails hG hC sv_X12_115 ⟨by decide, by decide⟩ (Nat.le_of_ble_eq_true rfl) ⟨by omega, by omega⟩ dX12_move_21 hz hq (fun r5 h6 hq => ?_)
    show V G Γ 8 0 0 h6 24 [(0, .ref p0), (1, .int p1)] [.int r5]
    refine V_if_eq (tgt := 29) hC dX12_move_24 (by decide) (fun hc => ?_) (fun hc => ?_)
    · have hq := hq.1 hc
      refine V_iconst (v := 0) hC dX12_move_29 (by decide) ?_
      refine V_istore_n (L' := [(0, .ref p0), (1, .int p1), (2, .int 0)]) hC dX12_move_30 rfl (by decide) [1, 2, 0] rfl ?_
      have hq := hq (fun (x2_7 : Int32) (h8 : hw) => V G Γ 8 0 0 h8 31 [(0, .ref p0), (1, .int p1), (2, .int x2_7)] []) (by
        intro x2_7 h8 hq
        show V G Γ 8 0 0 h8 31 [(0, .ref p0), (1, .int p1), (2, .int x2_7)] []
        refine V_iload_n hC dX12_move_31 2 rfl ?_
        refine V_aload_n hC dX12_move_32 0 rfl ?_
        refine U_getI hC fl_X12_108 dX12_move_33 hq (fun v9 hq => ?_)
        refine V_icmp_ge (tgt := 82) hC dX12_move_36 (by decide) (fun hc => ?_) (fun hc => ?_)
        · have hq := hq.1 hc
          refine V_aload_n hC dX12_move_82 0 rfl ?_
          refine V_aload_n hC dX12_move_83 0 rfl ?_
          refine U_getI hC fl_X12_230 dX12_move_84 hq (fun v10 hq => ?_)
          have hq := hq (fun (t11 : Nat) (t12 : Int32) (h13 : hw) => V G Γ 8 0 0 h13 107 [(0, .ref p0), (1, .int p1)] [.int t12, .ref t11]) (by
            intro t11 t12 h13 hq
            show V G Γ 8 0 0 h13 107 [(0, .ref p0), (1, .int p1)] [.int t12, .ref t11]
            refine V_iconst (v := 2) hC dX12_move_107 (by decide) ?_
            obtain ⟨hz, hq⟩ := hq
            refine clV_X12_fails hG hC sv_X12_115 ⟨by decide, by decide⟩ (Nat.le_of_ble_eq_true rfl) ⟨by omega, by omega⟩ dX12_move_108 hz hq (fun r14 h15 hq => ?_)
            show V G Γ 8 0 0 h15 111 [(0, .ref p0), (1, .int p1)] [.int r14]
            refine V_if_eq (tgt := 116) hC dX12_move_111 (by decide) (fun hc => ?_) (fun hc => ?_)
            · have hq := hq.1 hc
              refine V_iconst (v := 0) hC dX12_move_116 (by decide) ?_
              refine V_istore_n (L' := [(0, .ref p0), (1, .int p1), (2, .int 0)]) hC dX12_move_117 rfl (by decide) [1, 2, 0] rfl ?_
              refine V_aload_n hC dX12_move_118 0 rfl ?_
              refine V_iconst (v := 0) hC dX12_move_119 (by decide) ?_
              refine U_putO hC (by decide) fl_X12_253 fin_X12_28 rfl rfl dX12_move_120 hq (fun h16 hq => ?_)
              refine V_iconst (v := 0) hC dX12_move_123 (by decide) ?_
              refine V_istore_n (L' := [(0, .ref p0), (1, .int p1), (2, .int 0), (3, .int 0)]) hC dX12_move_124 rfl (by decide) [1, 2, 3, 0] rfl ?_
              have hq := hq (fun (x2_17 : Int32) (x3_18 : Int32) (h19 : hw) => V G Γ 8 0 0 h19 125 [(0, .ref p0), (1, .int p1), (2, .int x2_17), (3, .int x3_18)] []) (by
                intro x2_17 x3_18 h19 hq
                show V G Γ 8 0 0 h19 125 [(0, .ref p0), (1, .int p1), (2, .int x2_17), (3, .int x3_18)] []
                refine V_iload_n hC dX12_move_125 3 rfl ?_
                refine V_bipush (v := 8) hC dX12_move_126 (by decide) ?_
                refine V_icmp_ge (tgt := 236) hC dX12_move_128 (by decide) (fun hc => ?_) (fun hc => ?_)
                · have hq := hq.1 hc
                  refine V_iconst (v := 0) hC dX12_move_236 (by decide) ?_
                  refine V_istore_n (L' := [(0, .ref p0), (1, .int p1), (2, .int x2_17), (3, .int 0)]) hC dX12_move_237 rfl (by decide) [1, 2, 3, 0] rfl ?_
                  refine V_iload_n hC dX12_move_238 2 rfl ?_
                  have hq := hq (fun (t20 : Int32) => V G Γ 8 0 0 h19 247 [(0, .ref p0), (1, .int p1), (2, .int x2_17), (3, .int 0)] [.int t20]) (by
                    intro t20 hq
                    show V G Γ 8 0 0 h19 247 [(0, .ref p0), (1, .int p1), (2, .int x2_17), (3, .int 0)] [.int t20]
                    refine V_istore (L' := [(0, .ref p0), (1, .int p1), (2, .int x2_17), (3, .int 0), (4, .int t20)]) hC dX12_move_247 (by decide) [1, 2, 3, 4, 0] rfl ?_
                    have hq := hq (fun (x2_21 : Int32) (x3_22 : Int32) (x4_23 : Int32) (h24 : hw) (uc25 : Nat) (us26 : Nat) => uc25 ≤ bc → us26 ≤ bs → V G Γ 8 uc25 us26 h24 249 [(0, .ref p0), (1, .int p1), (2, .int x2_21), (3, .int x3_22), (4, .int x4_23)] []) (by
                      intro x2_21 x3_22 x4_23 h24 uc25 us26 hq hu1 hu2
                      show V G Γ 8 uc25 us26 h24 249 [(0, .ref p0), (1, .int p1), (2, .int x2_21), (3, .int x3_22), (4, .int x4_23)] []
                      refine V_iload hC dX12_move_249 4 rfl ?_
                      refine V_if_eq (tgt := 427) hC dX12_move_251 (by decide) (fun hc => ?_) (fun hc => ?_)
                      · have hq := hq.1 hc
                        refine V_iload_n hC dX12_move_427 3 rfl ?_
                        obtain ⟨hz1, hz2, hq⟩ := hq
                        exact V_iret hC hQ rfl rfl ⟨hz1, hz2⟩ dX12_move_428 ⟨_, rfl, hq⟩
                      · have hq := hq.2 hc
                        refine V_iconst (v := 0) hC dX12_move_254 (by decide) ?_
                        refine V_istore (L' := [(0, .ref p0), (1, .int p1), (2, .int x2_21), (3, .int x3_22), (4, .int x4_23), (5, .int 0)]) hC dX12_move_255 (by decide) [1, 2, 3, 4, 5, 0] rfl ?_
                        refine V_iconst (v := 0) hC dX12_move_257 (by decide) ?_
                        refine V_istore (L' := [(0, .ref p0), (1, .int p1), (2, .int x2_21), (3, .int x3_22), (4, .int x4_23), (5, .int 0), (6, .int 0)]) hC dX12_move_258 (by decide) [1, 2, 3, 4, 5, 6, 0] rfl ?_
                        have hq := hq (fun (x5_27 : Int32) (x6_28 : Int32) (h29 : hw) (uc30 : Nat) (us31 : Nat) => uc30 ≤ bc → us31 ≤ bs → V G Γ 8 uc30 us31 h29 260 [(0, .ref p0), (1, .int p1), (2, .int x2_21), (3, .int x3_22), (5, .int x5_27), (6, .int x6_28)] []) (by
                          intro x5_27 x6_28 h29 uc30 us31 hq hu1 hu2
                          show V G Γ 8 uc30 us31 h29 260 [(0, .ref p0), (1, .int p1), (2, .int x2_21), (3, .int x3_22), (5, .int x5_27), (6, .int x6_28)] []
                          refine V_iload hC dX12_move_260 5 rfl ?_
                          refine V_aload_n hC dX12_move_262 0 rfl ?_
                          refine U_getI hC fl_X12_108 dX12_move_263 hq (fun v32 hq => ?_)
                          refine V_icmp_ge (tgt := 338) hC dX12_move_266 (by decide) (fun hc => ?_) (fun hc => ?_)
                          · have hq := hq.1 hc
                            refine V_aload_n hC dX12_move_338 0 rfl ?_
                            obtain ⟨hz, hq⟩ := hq
                            refine clV_X12_lowestOn hG hC sv_X12_263 ⟨by decide, by decide⟩ (Nat.le_of_ble_eq_true rfl) ⟨by omega, by omega⟩ dX12_move_339 hz hq (fun r33 hq => ?_)
                            show V G Γ 8 uc30 us31 h29 342 [(0, .ref p0), (1, .int p1), (2, .int x2_21), (3, .int x3_22), (5, .int x5_27), (6, .int x6_28)] [.int r33]
                            refine V_istore (L' := [(0, .ref p0), (1, .int p1), (2, .int x2_21), (3, .int x3_22), (5, .int x5_27), (6, .int r33)]) hC dX12_move_342 (by decide) [1, 2, 3, 4, 5, 0] rfl ?_
                            refine V_iload_n hC dX12_move_344 2 rfl ?_
                            refine V_iload hC dX12_move_345 4 rfl ?_
                            refine V_isub hC dX12_move_347 ?_
                            refine V_istore_n (L' := [(0, .ref p0), (1, .int p1), (2, .int (x2_21 - x5_27)), (3, .int x3_22), (5, .int x5_27), (6, .int r33)]) hC dX12_move_348 rfl (by decide) [1, 2, 0, 3, 4, 5] rfl ?_
                            refine V_iload hC dX12_move_349 4 rfl ?_
                            have hq := hq (fun (h34 : hw) (uc35 : Nat) (us36 : Nat) => uc35 ≤ bc → us36 ≤ bs → V G Γ 8 uc35 us36 h34 377 [(0, .ref p0), (1, .int p1), (2, .int (x2_21 - x5_27)), (3, .int x3_22), (5, .int x5_27), (6, .int r33)] []) (by
                              intro h34 uc35 us36 hq hu1 hu2
                              show V G Γ 8 uc35 us36 h34 377 [(0, .ref p0), (1, .int p1), (2, .int (x2_21 - x5_27)), (3, .int x3_22), (5, .int x5_27), (6, .int r33)] []
                              refine V_iload hC dX12_move_377 4 rfl ?_
                              have hq := hq (fun (t37 : Int32) => V G Γ 8 uc35 us36 h34 393 [(0, .ref p0), (1, .int p1), (2, .int (x2_21 - x5_27)), (3, .int x3_22)] [.int t37]) (by
                                intro t37 hq
                                show V G Γ 8 uc35 us36 h34 393 [(0, .ref p0), (1, .int p1), (2, .int (x2_21 - x5_27)), (3, .int x3_22)] [.int t37]
                                refine V_istore (L' := [(0, .ref p0), (1, .int p1), (2, .int (x2_21 - x5_27)), (3, .int x3_22), (7, .int t37)]) hC dX12_move_393 (by decide) [1, 2, 3, 4, 0] rfl ?_
                                refine V_iload_n hC dX12_move_395 3 rfl ?_
                                refine V_iload hC dX12_move_396 4 rfl ?_
                                have hq := hq (fun (t38 : Int32) (t39 : Int32) => V G Γ 8 uc35 us36 h34 406 [(0, .ref p0), (1, .int p1), (2, .int (x2_21 - x5_27)), (7, .int t37)] [.int t39, .int t38]) (by
                                  intro t38 t39 hq
                                  show V G Γ 8 uc35 us36 h34 406 [(0, .ref p0), (1, .int p1), (2, .int (x2_21 - x5_27)), (7, .int t37)] [.int t39, .int t38]
                                  refine V_iadd hC dX12_move_406 ?_
                                  refine V_istore_n (L' := [(0, .ref p0), (1, .int p1), (2, .int (x2_21 - x5_27)), (3, .int (t38 + t39)), (7, .int t37)]) hC dX12_move_407 rfl (by decide) [1, 2, 3, 0, 4] rfl ?_
                                  refine V_iload_n hC dX12_move_408 2 rfl ?_
                                  have hq := hq (fun (t40 : Int32) => V G Γ 8 uc35 us36 h34 422 [(0, .ref p0), (1, .int p1), (2, .int (x2_21 - x5_27)), (3, .int (t38 + t39))] [.int t40]) (by
                                    intro t40 hq
                                    show V G Γ 8 uc35 us36 h34 422 [(0, .ref p0), (1, .int p1), (2, .int (x2_21 - x5_27)), (3, .int (t38 + t39))] [.int t40]
                                    refine V_istore (L' := [(0, .ref p0), (1, .int p1), (2, .int (x2_21 - x5_27)), (3, .int (t38 + t39)), (4, .int t40)]) hC dX12_move_422 (by decide) [1, 2, 3, 4, 0] rfl ?_
                                    refine V_goto (tgt := 249) hC dX12_move_424 (by decide) ?_
                                    exact hq (by omega) (by omega))
                                  have hq := hq (V G Γ 8 uc35 us36 h34 421 [(0, .ref p0), (1, .int p1), (2, .int (x2_21 - x5_27)), (3, .int (t38 + t39))] []) (by
                                    intro hq
                                    show V G Γ 8 uc35 us36 h34 421 [(0, .ref p0), (1, .int p1), (2, .int (x2_21 - x5_27)), (3, .int (t38 + t39))] []
                                    refine V_iconst (v := 0) hC dX12_move_421 (by decide) ?_
                                    exact hq)
                                  refine V_if_le (tgt := 421) hC dX12_move_409 (by decide) (fun hc => ?_) (fun hc => ?_)
                                  · have hq := hq.1 hc
                                    refine V_sub [0, 1, 2, 3] rfl ?_
                                    exact hq
                                  · have hq := hq.2 hc
                                    refine V_iload hC dX12_move_412 4 rfl ?_
                                    refine V_if_eq (tgt := 421) hC dX12_move_414 (by decide) (fun hc => ?_) (fun hc => ?_)
                                    · have hq := hq.1 hc
                                      refine V_sub [0, 1, 2, 3] rfl ?_
                                      exact hq
                                    · have hq := hq.2 hc
                                      refine V_iconst (v := 1) hC dX12_move_417 (by decide) ?_
                                      refine V_goto (tgt := 422) hC dX12_move_418 (by decide) ?_
                                      refine V_sub [0, 1, 2, 3] rfl ?_
                                      exact hq)
                                refine V_if_eq (tgt := 405) hC dX12_move_398 (by decide) (fun hc => ?_) (fun hc => ?_)
                                · have hq := hq.1 hc
                                  refine V_iconst (v := 0) hC dX12_move_405 (by decide) ?_
                                  refine V_sub [0, 1, 2, 4] rfl ?_
                                  exact hq
                                · have hq := hq.2 hc
                                  refine V_iconst (v := 1) hC dX12_move_401 (by decide) ?_
                                  refine V_goto (tgt := 406) hC dX12_move_402 (by decide) ?_
                                  refine V_sub [0, 1, 2, 4] rfl ?_
                                  exact hq)
                              have hq := hq (V G Γ 8 uc35 us36 h34 388 [(0, .ref p0), (1, .int p1), (2, .int (x2_21 - x5_27)), (3, .int x3_22)] []) (by
                                intro hq
                                show V G Γ 8 uc35 us36 h34 388 [(0, .ref p0), (1, .int p1), (2, .int (x2_21 - x5_27)), (3, .int x3_22)] []
                                refine V_iconst (v := 1) hC dX12_move_388 (by decide) ?_
                                refine V_goto (tgt := 393) hC dX12_move_389 (by decide) ?_
                                exact hq)
                              refine V_if_gt (tgt := 388) hC dX12_move_379 (by decide) (fun hc => ?_) (fun hc => ?_)
                              · have hq := hq.1 hc
                                refine V_sub [0, 1, 2, 3] rfl ?_
                                exact hq
                              · have hq := hq.2 hc
                                refine V_iload hC dX12_move_382 5 rfl ?_
                                refine V_iconst (v := (-1)) hC dX12_move_384 (by decide) ?_
                                refine V_icmp_eq (tgt := 392) hC dX12_move_385 (by decide) (fun hc => ?_) (fun hc => ?_)
                                · have hq := hq.1 hc
                                  refine V_iconst (v := 0) hC dX12_move_392 (by decide) ?_
                                  refine V_sub [0, 1, 2, 3] rfl ?_
                                  exact hq
                                · have hq := hq.2 hc
                                  refine V_sub [0, 1, 2, 3] rfl ?_
                                  exact hq)
                            refine V_if_ne (tgt := 377) hC dX12_move_351 (by decide) (fun hc => ?_) (fun hc => ?_)
                            · have hq := hq.1 hc
                              exact hq (by omega) (by omega)
                            · have hq := hq.2 hc
                              refine V_iload hC dX12_move_354 5 rfl ?_
                              refine V_iconst (v := (-1)) hC dX12_move_356 (by decide) ?_
                              refine V_icmp_eq (tgt := 377) hC dX12_move_357 (by decide) (fun hc => ?_) (fun hc => ?_)
                              · have hq := hq.1 hc
                                exact hq (by omega) (by omega)
                              · have hq := hq.2 hc
                                refine V_aload_n hC dX12_move_360 0 rfl ?_
                                refine V_iload hC dX12_move_361 5 rfl ?_
                                refine V_iconst (v := (-1)) hC dX12_move_363 (by decide) ?_
                                obtain ⟨bc41, bs42, hz1, hz2, hq⟩ := hq
                                obtain ⟨hz, hq⟩ := hq
                                refine clV_X12_set hG hC sv_X12_207 ⟨by decide, by decide⟩ (Nat.le_of_ble_eq_true rfl) ⟨hz1, hz2⟩ dX12_move_364 hz hq (fun h43 hq => ?_)
                                show V G Γ 8 (uc30 + bc41) (us31 + bs42) h43 367 [(0, .ref p0), (1, .int p1), (2, .int (x2_21 - x5_27)), (3, .int x3_22), (5, .int x5_27), (6, .int r33)] []
                                refine V_aload_n hC dX12_move_367 0 rfl ?_
                                refine V_dup hC dX12_move_368 rfl ?_
                                refine U_getI hC fl_X12_253 dX12_move_369 hq (fun v44 hq => ?_)
                                refine V_iconst (v := 1) hC dX12_move_372 (by decide) ?_
                                refine V_iadd hC dX12_move_373 ?_
                                refine U_putO hC (by decide) fl_X12_253 fin_X12_28 rfl rfl dX12_move_374 hq (fun h45 hq => ?_)
                                exact hq (by omega) (by omega)
                          · have hq := hq.2 hc
                            refine V_aload_n hC dX12_move_269 0 rfl ?_
                            refine U_getR hC fl_X12_95 dX12_move_270 hq (fun v46 hq => ?_)
                            refine V_iload hC dX12_move_273 5 rfl ?_
                            refine U_ldI hC dX12_move_275 hq (fun v47 hq => ?_)
                            refine V_iconst (v := (-1)) hC dX12_move_276 (by decide) ?_
                            have hq := hq (fun (x5_48 : Int32) (h49 : hw) (uc50 : Nat) (us51 : Nat) => uc50 ≤ bc → us51 ≤ bs → V G Γ 8 uc50 us51 h49 332 [(0, .ref p0), (1, .int p1), (2, .int x2_21), (3, .int x3_22), (5, .int x5_48), (6, .int x6_28)] []) (by
                              intro x5_48 h49 uc50 us51 hq hu1 hu2
                              show V G Γ 8 uc50 us51 h49 332 [(0, .ref p0), (1, .int p1), (2, .int x2_21), (3, .int x3_22), (5, .int x5_48), (6, .int x6_28)] []
                              refine V_iinc (j := 5) (v := (x6_28 + 1)) (L' := [(0, .ref p0), (1, .int p1), (2, .int x2_21), (3, .int x3_22), (5, .int x5_48), (6, .int (x6_28 + 1))]) hC dX12_move_332 rfl rfl (by decide) [1, 2, 3, 4, 5, 0] rfl ?_
                              refine V_goto (tgt := 260) hC dX12_move_335 (by decide) ?_
                              exact hq (by omega) (by omega))
                            refine V_icmp_eq (tgt := 332) hC dX12_move_277 (by decide) (fun hc => ?_) (fun hc => ?_)
                            · have hq := hq.1 hc
                              exact hq (by omega) (by omega)
                            · have hq := hq.2 hc
                              refine V_aload_n hC dX12_move_280 0 rfl ?_
                              refine U_getR hC fl_X12_77 dX12_move_281 hq (fun v52 hq => ?_)
                              refine V_iload hC dX12_move_284 5 rfl ?_
                              refine U_ldI hC dX12_move_286 hq (fun v53 hq => ?_)
                              refine V_iconst (v := (-1)) hC dX12_move_287 (by decide) ?_
                              refine V_icmp_ne (tgt := 332) hC dX12_move_288 (by decide) (fun hc => ?_) (fun hc => ?_)
                              · have hq := hq.1 hc
                                exact hq (by omega) (by omega)
                              · have hq := hq.2 hc
                                refine V_iload hC dX12_move_291 4 rfl ?_
                                refine V_iload_n hC dX12_move_293 1 rfl ?_
                                refine V_icmp_ge (tgt := 332) hC dX12_move_294 (by decide) (fun hc => ?_) (fun hc => ?_)
                                · have hq := hq.1 hc
                                  exact hq (by omega) (by omega)
                                · have hq := hq.2 hc
                                  refine V_aload_n hC dX12_move_297 0 rfl ?_
                                  refine V_iload hC dX12_move_298 5 rfl ?_
                                  refine V_aload_n hC dX12_move_300 0 rfl ?_
                                  refine U_getR hC fl_X12_95 dX12_move_301 hq (fun v54 hq => ?_)
                                  refine V_iload hC dX12_move_304 5 rfl ?_
                                  refine U_ldI hC dX12_move_306 hq (fun v55 hq => ?_)
                                  obtain ⟨hz, hq⟩ := hq
                                  refine clV_X12_isBarredAt hG hC sv_X12_256 ⟨by decide, by decide⟩ (Nat.le_of_ble_eq_true rfl) ⟨by omega, by omega⟩ dX12_move_307 hz hq (fun r56 hq => ?_)
                                  show V G Γ 8 uc30 us31 h29 310 [(0, .ref p0), (1, .int p1), (2, .int x2_21), (3, .int x3_22), (5, .int x5_27), (6, .int x6_28)] [.int r56]
                                  refine V_if_ne (tgt := 332) hC dX12_move_310 (by decide) (fun hc => ?_) (fun hc => ?_)
                                  · have hq := hq.1 hc
                                    exact hq (by omega) (by omega)
                                  · have hq := hq.2 hc
                                    refine V_aload_n hC dX12_move_313 0 rfl ?_
                                    refine V_iload hC dX12_move_314 5 rfl ?_
                                    refine V_aload_n hC dX12_move_316 0 rfl ?_
                                    refine U_getR hC fl_X12_95 dX12_move_317 hq (fun v57 hq => ?_)
                                    refine V_iload hC dX12_move_320 5 rfl ?_
                                    refine U_ldI hC dX12_move_322 hq (fun v58 hq => ?_)
                                    refine V_iload_n hC dX12_move_323 3 rfl ?_
                                    refine V_iconst (v := 1) hC dX12_move_324 (by decide) ?_
                                    refine V_iadd hC dX12_move_325 ?_
                                    obtain ⟨bc59, bs60, hz1, hz2, hq⟩ := hq
                                    obtain ⟨hz, hq⟩ := hq
                                    refine clV_X12_moves hG hC sv_X12_259 ⟨by decide, by decide⟩ (Nat.le_of_ble_eq_true rfl) ⟨hz1, hz2⟩ dX12_move_326 hz hq (fun h61 hq => ?_)
                                    show V G Γ 8 (uc30 + bc59) (us31 + bs60) h61 329 [(0, .ref p0), (1, .int p1), (2, .int x2_21), (3, .int x3_22), (5, .int x5_27), (6, .int x6_28)] []
                                    refine V_iinc (j := 4) (v := (x5_27 + 1)) (L' := [(0, .ref p0), (1, .int p1), (2, .int x2_21), (3, .int x3_22), (5, .int (x5_27 + 1)), (6, .int x6_28)]) hC dX12_move_329 rfl rfl (by decide) [1, 2, 3, 4, 0, 5] rfl ?_
                                    exact hq (by omega) (by omega))
                        refine V_sub [0, 1, 2, 3, 5, 6] rfl ?_
                        exact hq (by omega) (by omega))
                    exact hq (by omega) (by omega))
                  refine V_if_le (tgt := 246) hC dX12_move_239 (by decide) (fun hc => ?_) (fun hc => ?_)
                  · have hq := hq.1 hc
                    refine V_iconst (v := 0) hC dX12_move_246 (by decide) ?_
                    exact hq
                  · have hq := hq.2 hc
                    refine V_iconst (v := 1) hC dX12_move_242 (by decide) ?_
                    refine V_goto (tgt := 247) hC dX12_move_243 (by decide) ?_
                    exact hq
                · have hq := hq.2 hc
                  refine V_iload_n hC dX12_move_131 3 rfl ?_
                  refine V_aload_n hC dX12_move_132 0 rfl ?_
                  refine U_getI hC fl_X12_108 dX12_move_133 hq (fun v62 hq => ?_)
                  have hq := hq (fun (t63 : Int32) => V G Γ 8 0 0 h19 153 [(0, .ref p0), (1, .int p1), (2, .int x2_17), (3, .int x3_18)] [.int t63]) (by
                    intro t63 hq
                    show V G Γ 8 0 0 h19 153 [(0, .ref p0), (1, .int p1), (2, .int x2_17), (3, .int x3_18)] [.int t63]
                    refine V_istore (L' := [(0, .ref p0), (1, .int p1), (2, .int x2_17), (3, .int x3_18), (4, .int t63)]) hC dX12_move_153 (by decide) [1, 2, 3, 4, 0] rfl ?_
                    refine V_aload_n hC dX12_move_155 0 rfl ?_
                    refine U_getR hC fl_X12_95 dX12_move_156 hq (fun v64 hq => ?_)
                    refine V_iload_n hC dX12_move_159 3 rfl ?_
                    refine V_iload hC dX12_move_160 4 rfl ?_
                    have hq := hq (fun (t65 : Nat) (t66 : Int32) (t67 : Int32) => V G Γ 8 0 0 h19 175 [(0, .ref p0), (1, .int p1), (2, .int x2_17), (3, .int x3_18), (4, .int t63)] [.int t67, .int t66, .ref t65]) (by
                      intro t65 t66 t67 hq
                      show V G Γ 8 0 0 h19 175 [(0, .ref p0), (1, .int p1), (2, .int x2_17), (3, .int x3_18), (4, .int t63)] [.int t67, .int t66, .ref t65]
                      refine U_stI hC dX12_move_175 hq (fun h68 hq => ?_)
                      refine V_aload_n hC dX12_move_176 0 rfl ?_
                      refine U_getR hC fl_X12_77 dX12_move_177 hq (fun v69 hq => ?_)
                      refine V_iload_n hC dX12_move_180 3 rfl ?_
                      refine V_iload hC dX12_move_181 4 rfl ?_
                      have hq := hq (fun (t70 : Nat) (t71 : Int32) (t72 : Int32) => V G Γ 8 0 0 h68 206 [(0, .ref p0), (1, .int p1), (2, .int x2_17), (3, .int x3_18), (4, .int t63)] [.int t72, .int t71, .ref t70]) (by
                        intro t70 t71 t72 hq
                        show V G Γ 8 0 0 h68 206 [(0, .ref p0), (1, .int p1), (2, .int x2_17), (3, .int x3_18), (4, .int t63)] [.int t72, .int t71, .ref t70]
                        refine U_stI hC dX12_move_206 hq (fun h73 hq => ?_)
                        refine V_iload_n hC dX12_move_207 2 rfl ?_
                        refine V_iload hC dX12_move_208 4 rfl ?_
                        have hq := hq (fun (t74 : Int32) (t75 : Int32) => V G Γ 8 0 0 h73 228 [(0, .ref p0), (1, .int p1), (3, .int x3_18)] [.int t75, .int t74]) (by
                          intro t74 t75 hq
                          show V G Γ 8 0 0 h73 228 [(0, .ref p0), (1, .int p1), (3, .int x3_18)] [.int t75, .int t74]
                          refine V_iadd hC dX12_move_228 ?_
                          refine V_istore_n (L' := [(0, .ref p0), (1, .int p1), (2, .int (t74 + t75)), (3, .int x3_18)]) hC dX12_move_229 rfl (by decide) [1, 2, 0, 3] rfl ?_
                          refine V_iinc (j := 3) (v := (x3_18 + 1)) (L' := [(0, .ref p0), (1, .int p1), (2, .int (t74 + t75)), (3, .int (x3_18 + 1))]) hC dX12_move_230 rfl rfl (by decide) [1, 2, 3, 0] rfl ?_
                          refine V_goto (tgt := 125) hC dX12_move_233 (by decide) ?_
                          exact hq)
                        have hq := hq (fun (t76 : Int32) => V G Γ 8 0 0 h73 227 [(0, .ref p0), (1, .int p1), (3, .int x3_18)] [.int t76]) (by
                          intro t76 hq
                          show V G Γ 8 0 0 h73 227 [(0, .ref p0), (1, .int p1), (3, .int x3_18)] [.int t76]
                          refine V_iconst (v := 0) hC dX12_move_227 (by decide) ?_
                          exact hq)
                        refine V_if_eq (tgt := 227) hC dX12_move_210 (by decide) (fun hc => ?_) (fun hc => ?_)
                        · have hq := hq.1 hc
                          refine V_sub [0, 1, 3] rfl ?_
                          exact hq
                        · have hq := hq.2 hc
                          refine V_aload_n hC dX12_move_213 0 rfl ?_
                          refine U_getR hC fl_X12_77 dX12_move_214 hq (fun v77 hq => ?_)
                          refine V_iload_n hC dX12_move_217 3 rfl ?_
                          refine U_ldI hC dX12_move_218 hq (fun v78 hq => ?_)
                          refine V_iconst (v := (-1)) hC dX12_move_219 (by decide) ?_
                          refine V_icmp_ne (tgt := 227) hC dX12_move_220 (by decide) (fun hc => ?_) (fun hc => ?_)
                          · have hq := hq.1 hc
                            refine V_sub [0, 1, 3] rfl ?_
                            exact hq
                          · have hq := hq.2 hc
                            refine V_iconst (v := 1) hC dX12_move_223 (by decide) ?_
                            refine V_goto (tgt := 228) hC dX12_move_224 (by decide) ?_
                            refine V_sub [0, 1, 3] rfl ?_
                            exact hq)
                      have hq := hq (fun (t79 : Nat) (t80 : Int32) => V G Γ 8 0 0 h68 205 [(0, .ref p0), (1, .int p1), (2, .int x2_17), (3, .int x3_18), (4, .int t63)] [.int t80, .ref t79]) (by
                        intro t79 t80 hq
                        show V G Γ 8 0 0 h68 205 [(0, .ref p0), (1, .int p1), (2, .int x2_17), (3, .int x3_18), (4, .int t63)] [.int t80, .ref t79]
                        refine V_iconst (v := (-1)) hC dX12_move_205 (by decide) ?_
                        exact hq)
                      refine V_if_eq (tgt := 205) hC dX12_move_183 (by decide) (fun hc => ?_) (fun hc => ?_)
                      · have hq := hq.1 hc
                        exact hq
                      · have hq := hq.2 hc
                        refine V_aload_n hC dX12_move_186 0 rfl ?_
                        refine U_getR hC fl_X12_39 dX12_move_187 hq (fun v81 hq => ?_)
                        refine V_iload_n hC dX12_move_190 3 rfl ?_
                        refine U_ldI hC dX12_move_191 hq (fun v82 hq => ?_)
                        refine V_aload_n hC dX12_move_192 0 rfl ?_
                        refine U_getR hC fl_X12_95 dX12_move_193 hq (fun v83 hq => ?_)
                        refine V_iload_n hC dX12_move_196 3 rfl ?_
                        refine U_ldI hC dX12_move_197 hq (fun v84 hq => ?_)
                        refine V_icmp_ne (tgt := 205) hC dX12_move_198 (by decide) (fun hc => ?_) (fun hc => ?_)
                        · have hq := hq.1 hc
                          exact hq
                        · have hq := hq.2 hc
                          refine V_iconst (v := 0) hC dX12_move_201 (by decide) ?_
                          refine V_goto (tgt := 206) hC dX12_move_202 (by decide) ?_
                          exact hq)
                    refine V_if_eq (tgt := 174) hC dX12_move_162 (by decide) (fun hc => ?_) (fun hc => ?_)
                    · have hq := hq.1 hc
                      refine V_iconst (v := (-1)) hC dX12_move_174 (by decide) ?_
                      exact hq
                    · have hq := hq.2 hc
                      refine V_aload_n hC dX12_move_165 0 rfl ?_
                      refine U_getR hC fl_X12_83 dX12_move_166 hq (fun v85 hq => ?_)
                      refine V_iload_n hC dX12_move_169 3 rfl ?_
                      refine U_ldI hC dX12_move_170 hq (fun v86 hq => ?_)
                      refine V_goto (tgt := 175) hC dX12_move_171 (by decide) ?_
                      exact hq)
                  have hq := hq (V G Γ 8 0 0 h19 152 [(0, .ref p0), (1, .int p1), (2, .int x2_17), (3, .int x3_18)] []) (by
                    intro hq
                    show V G Γ 8 0 0 h19 152 [(0, .ref p0), (1, .int p1), (2, .int x2_17), (3, .int x3_18)] []
                    refine V_iconst (v := 0) hC dX12_move_152 (by decide) ?_
                    exact hq)
                  refine V_icmp_ge (tgt := 152) hC dX12_move_136 (by decide) (fun hc => ?_) (fun hc => ?_)
                  · have hq := hq.1 hc
                    exact hq
                  · have hq := hq.2 hc
                    refine V_aload_n hC dX12_move_139 0 rfl ?_
                    refine U_getR hC fl_X12_80 dX12_move_140 hq (fun v87 hq => ?_)
                    refine V_iload_n hC dX12_move_143 3 rfl ?_
                    refine U_ldZ hC dX12_move_144 hq (fun v88 hq => ?_)
                    refine V_if_eq (tgt := 152) hC dX12_move_145 (by decide) (fun hc => ?_) (fun hc => ?_)
                    · have hq := hq.1 hc
                      exact hq
                    · have hq := hq.2 hc
                      refine V_iconst (v := 1) hC dX12_move_148 (by decide) ?_
                      refine V_goto (tgt := 153) hC dX12_move_149 (by decide) ?_
                      exact hq)
              exact hq
            · have hq := hq.2 hc
              refine V_iconst (v := 0) hC dX12_move_114 (by decide) ?_
              obtain ⟨hz1, hz2, hq⟩ := hq
              exact V_iret hC hQ rfl rfl ⟨hz1, hz2⟩ dX12_move_115 ⟨_, rfl, hq⟩)
          have hq := hq (fun (t89 : Nat) (h90 : hw) => V G Γ 8 0 0 h90 102 [(0, .ref p0), (1, .int p1)] [.ref t89]) (by
            intro t89 h90 hq
            show V G Γ 8 0 0 h90 102 [(0, .ref p0), (1, .int p1)] [.ref t89]
            refine V_iconst (v := 1) hC dX12_move_102 (by decide) ?_
            refine V_goto (tgt := 107) hC dX12_move_103 (by decide) ?_
            exact hq)
          refine V_if_eq (tgt := 102) hC dX12_move_87 (by decide) (fun hc => ?_) (fun hc => ?_)
          · have hq := hq.1 hc
            refine V_sub [0, 1] rfl ?_
            exact hq
          · have hq := hq.2 hc
            refine V_aload_n hC dX12_move_90 0 rfl ?_
            refine V_iconst (v := 0) hC dX12_move_91 (by decide) ?_
            refine V_aload_n hC dX12_move_92 0 rfl ?_
            refine U_getI hC fl_X12_234 dX12_move_93 hq (fun v91 hq => ?_)
            obtain ⟨hz, hq⟩ := hq
            refine clV_X12_packs hG hC sv_X12_218 ⟨by decide, by decide⟩ (Nat.le_of_ble_eq_true rfl) ⟨by omega, by omega⟩ dX12_move_96 hz hq (fun r92 h93 hq => ?_)
            show V G Γ 8 0 0 h93 99 [(0, .ref p0), (1, .int p1), (2, .int x2_7)] [.int r92, .ref p0]
            refine V_if_ne (tgt := 106) hC dX12_move_99 (by decide) (fun hc => ?_) (fun hc => ?_)
            · have hq := hq.1 hc
              refine V_iconst (v := 0) hC dX12_move_106 (by decide) ?_
              refine V_sub [0, 1] rfl ?_
              exact hq
            · have hq := hq.2 hc
              refine V_sub [0, 1] rfl ?_
              exact hq
        · have hq := hq.2 hc
          refine V_aload_n hC dX12_move_39 0 rfl ?_
          refine U_getR hC fl_X12_80 dX12_move_40 hq (fun v94 hq => ?_)
          refine V_iload_n hC dX12_move_43 2 rfl ?_
          refine V_aload_n hC dX12_move_44 0 rfl ?_
          refine U_getI hC fl_X12_230 dX12_move_45 hq (fun v95 hq => ?_)
          have hq := hq (fun (t96 : Nat) (t97 : Int32) (t98 : Int32) => V G Γ 8 0 0 h8 75 [(0, .ref p0), (1, .int p1), (2, .int x2_7)] [.int t98, .int t97, .ref t96]) (by
            intro t96 t97 t98 hq
            show V G Γ 8 0 0 h8 75 [(0, .ref p0), (1, .int p1), (2, .int x2_7)] [.int t98, .int t97, .ref t96]
            refine U_stZ hC dX12_move_75 hq (fun h99 hq => ?_)
            refine V_iinc (j := 2) (v := (x2_7 + 1)) (L' := [(0, .ref p0), (1, .int p1), (2, .int (x2_7 + 1))]) hC dX12_move_76 rfl rfl (by decide) [1, 2, 0] rfl ?_
            refine V_goto (tgt := 31) hC dX12_move_79 (by decide) ?_
            exact hq)
          have hq := hq (fun (t100 : Nat) (t101 : Int32) => V G Γ 8 0 0 h8 74 [(0, .ref p0), (1, .int p1), (2, .int x2_7)] [.int t101, .ref t100]) (by
            intro t100 t101 hq
            show V G Γ 8 0 0 h8 74 [(0, .ref p0), (1, .int p1), (2, .int x2_7)] [.int t101, .ref t100]
            refine V_iconst (v := 0) hC dX12_move_74 (by decide) ?_
            exact hq)
          refine V_if_eq (tgt := 74) hC dX12_move_48 (by decide) (fun hc => ?_) (fun hc => ?_)
          · have hq := hq.1 hc
            exact hq
          · have hq := hq.2 hc
            refine V_aload_n hC dX12_move_51 0 rfl ?_
            refine U_getR hC fl_X12_64 dX12_move_52 hq (fun v102 hq => ?_)
            refine V_iload_n hC dX12_move_55 2 rfl ?_
            refine U_ldZ hC dX12_move_56 hq (fun v103 hq => ?_)
            refine V_if_eq (tgt := 74) hC dX12_move_57 (by decide) (fun hc => ?_) (fun hc => ?_)
            · have hq := hq.1 hc
              exact hq
            · have hq := hq.2 hc
              refine V_aload_n hC dX12_move_60 0 rfl ?_
              refine U_getR hC fl_X12_39 dX12_move_61 hq (fun v104 hq => ?_)
              refine V_iload_n hC dX12_move_64 2 rfl ?_
              refine U_ldI hC dX12_move_65 hq (fun v105 hq => ?_)
              refine V_iconst (v := (-1)) hC dX12_move_66 (by decide) ?_
              refine V_icmp_eq (tgt := 74) hC dX12_move_67 (by decide) (fun hc => ?_) (fun hc => ?_)
              · have hq := hq.1 hc
                exact hq
              · have hq := hq.2 hc
                refine V_iconst (v := 1) hC dX12_move_70 (by decide) ?_
                refine V_goto (tgt := 75) hC dX12_move_71 (by decide) ?_
                exact hq)
      exact hq
    · have hq := hq.2 hc
      refine V_iconst (v := 0) hC dX12_move_27 (by decide) ?_
      obtain ⟨hz1, hz2, hq⟩ := hq
      exact V_iret hC hQ rfl rfl ⟨hz1, hz2⟩ dX12_move_28 ⟨_, rfl, hq⟩)
  refine V_if_ne (tgt := 19) hC dX12_move_12 (by decide) (fun hc => ?_) (fun hc => ?_)
  · have hq := hq.1 hc
    refine V_iconst (v := 0) hC dX12_move_19 (by decide) ?_
    exact hq
  · have hq := hq.2 hc
    refine V_iconst (v := 1) hC dX12_move_15 (by decide) ?_
    refine V_goto (tgt := 20) hC dX12_move_16 (by decide) ?_
    exact hq
theorem clV_X12_move {G : Gx} (hG : GOK G) {Γ : Cx} {own : String} {cc : ByteArray} {nL fr lo mc ms cells slots pc : Nat} {hh : List (Nat × Nat × Nat × Nat)} {h : hw} {L : List (Nat × Value)} {rest : List Value} (hC : COK G Γ own cc nL fr lo mc ms hh) {idx : Nat} (hs : SV own idx yX12_move cX12_move 8 (some .int) 1) {bc bs : Nat} {p0 : Nat} {p1 : Int32} (hR : 17 + 1 ≤ fr ∧ 8 + (8 + 11) + 419 ≤ lo) (hw8 : (rest.map fun v => v.category).sum ≤ 8) (hcs : cells + bc ≤ mc ∧ slots + bs ≤ ms) (hdg : decode cc pc = .ok (.invokevirtual idx, 3)) (ho : isO h p0 12) {post : Int32 → hw → Prop} (hq : wp_X12_move G p0 p1 h bc bs post) (kk : ∀ (r : Int32) (h1 : hw) , post r h1 → V G Γ nL (cells + bc) (slots + bs) h1 (pc + 3) L (.int r :: rest)) : V G Γ nL cells slots h pc L (.int p1 :: .ref p0 :: rest) :=
  V_callV (As := [.int p1]) (r9 := (RX12, TX12, 36)) hC (ct_X12_move hG p0 p1 h bc bs post hq) hs ho rfl rfl rfl hR hw8 hcs hdg (fun E h1 z => z.elim) (fun v h1 z => by obtain ⟨r, rfl, hz⟩ := z; exact kk r h1 hz)
set_option maxRecDepth 100000 in
set_option maxHeartbeats 4000000 in
theorem ct_X12_phaseOf {G : Gx} (hG : GOK G) (p0 : Nat) (p1 : Int32) (h0 : hw) (post : Int32 → hw → Prop) (hq : wp_X12_phaseOf G p0 p1 h0 post) : CT G yX12_phaseOf cX12_phaseOf 2 (some .int) 3 73 0 0 [.ref p0, .int p1] h0 (fun v h1 => ∃ r : Int32, v = some (.int r) ∧ post r h1) (fun E h1 => False) := by
  refine CT_of hG (by decide) (Nat.le_of_ble_eq_true rfl) (fun Γ hC hQ hN => ?_)
  have hC : COK G Γ "BandplanModel" cX12_phaseOf 2 3 73 0 0 [] := hC
  unfold wp_X12_phaseOf at hq
  show V G Γ 2 0 0 h0 0 [(0, .ref p0), (1, .int p1)] []
  refine V_aload_n hC dX12_phaseOf_0 0 rfl ?_
  refine V_iconst (v := 0) hC dX12_phaseOf_1 (by decide) ?_
  refine U_putO hC (by decide) fl_X12_98 fin_X12_0 rfl rfl dX12_phaseOf_2 hq (fun h1 hq => ?_)
  refine V_aload_n hC dX12_phaseOf_5 0 rfl ?_
  refine V_aload_n hC dX12_phaseOf_6 0 rfl ?_
  refine V_iload_n hC dX12_phaseOf_7 1 rfl ?_
  obtain ⟨hz, hq⟩ := hq
  refine clV_X12_no hG hC sv_X12_153 ⟨by decide, by decide⟩ (Nat.le_of_ble_eq_true rfl) ⟨by decide, by decide⟩ dX12_phaseOf_8 hz hq (fun r2 hq => ?_)
  show V G Γ 2 0 0 h1 11 [(0, .ref p0), (1, .int p1)] [.int r2, .ref p0]
  refine V_iconst (v := 1) hC dX12_phaseOf_11 (by decide) ?_
  obtain ⟨hz, hq⟩ := hq
  refine clV_X12_fails hG hC sv_X12_115 ⟨by decide, by decide⟩ (Nat.le_of_ble_eq_true rfl) ⟨by decide, by decide⟩ dX12_phaseOf_12 hz hq (fun r3 h4 hq => ?_)
  show V G Γ 2 0 0 h4 15 [(0, .ref p0), (1, .int p1)] [.int r3]
  have hq := hq (fun (h5 : hw) => V G Γ 2 0 0 h5 41 [] []) (by
    intro h5 hq
    show V G Γ 2 0 0 h5 41 [] []
    refine V_iconst (v := 0) hC dX12_phaseOf_41 (by decide) ?_
    refine V_goto (tgt := 51) hC dX12_phaseOf_42 (by decide) ?_
    exact V_iret hC hQ rfl rfl ⟨by decide, by decide⟩ dX12_phaseOf_51 ⟨_, rfl, hq⟩)
  refine V_if_ne (tgt := 41) hC dX12_phaseOf_15 (by decide) (fun hc => ?_) (fun hc => ?_)
  · have hq := hq.1 hc
    refine V_sub [] rfl ?_
    exact hq
  · have hq := hq.2 hc
    refine V_aload_n hC dX12_phaseOf_18 0 rfl ?_
    refine V_aload_n hC dX12_phaseOf_19 0 rfl ?_
    refine U_getR hC fl_X12_77 dX12_phaseOf_20 hq (fun v6 hq => ?_)
    refine V_iload_n hC dX12_phaseOf_23 1 rfl ?_
    refine U_ldI hC dX12_phaseOf_24 hq (fun v7 hq => ?_)
    refine V_iconst (v := (-1)) hC dX12_phaseOf_25 (by decide) ?_
    have hq := hq (fun (t8 : Nat) (t9 : Int32) => V G Γ 2 0 0 h4 34 [(0, .ref p0), (1, .int p1)] [.int t9, .ref t8]) (by
      intro t8 t9 hq
      show V G Γ 2 0 0 h4 34 [(0, .ref p0), (1, .int p1)] [.int t9, .ref t8]
      refine V_iconst (v := 2) hC dX12_phaseOf_34 (by decide) ?_
      obtain ⟨hz, hq⟩ := hq
      refine clV_X12_fails hG hC sv_X12_115 ⟨by decide, by decide⟩ (Nat.le_of_ble_eq_true rfl) ⟨by decide, by decide⟩ dX12_phaseOf_35 hz hq (fun r10 h11 hq => ?_)
      show V G Γ 2 0 0 h11 38 [(0, .ref p0), (1, .int p1)] [.int r10]
      refine V_if_eq (tgt := 45) hC dX12_phaseOf_38 (by decide) (fun hc => ?_) (fun hc => ?_)
      · have hq := hq.1 hc
        refine V_aload_n hC dX12_phaseOf_45 0 rfl ?_
        refine U_getR hC fl_X12_77 dX12_phaseOf_46 hq (fun v12 hq => ?_)
        refine V_iload_n hC dX12_phaseOf_49 1 rfl ?_
        refine U_ldI hC dX12_phaseOf_50 hq (fun v13 hq => ?_)
        exact V_iret hC hQ rfl rfl ⟨by decide, by decide⟩ dX12_phaseOf_51 ⟨_, rfl, hq⟩
      · have hq := hq.2 hc
        refine V_sub [] rfl ?_
        exact hq)
    refine V_icmp_ne (tgt := 33) hC dX12_phaseOf_26 (by decide) (fun hc => ?_) (fun hc => ?_)
    · have hq := hq.1 hc
      refine V_iconst (v := 0) hC dX12_phaseOf_33 (by decide) ?_
      exact hq
    · have hq := hq.2 hc
      refine V_iconst (v := 1) hC dX12_phaseOf_29 (by decide) ?_
      refine V_goto (tgt := 34) hC dX12_phaseOf_30 (by decide) ?_
      exact hq
theorem clV_X12_phaseOf {G : Gx} (hG : GOK G) {Γ : Cx} {own : String} {cc : ByteArray} {nL fr lo mc ms cells slots pc : Nat} {hh : List (Nat × Nat × Nat × Nat)} {h : hw} {L : List (Nat × Value)} {rest : List Value} (hC : COK G Γ own cc nL fr lo mc ms hh) {idx : Nat} (hs : SV own idx yX12_phaseOf cX12_phaseOf 2 (some .int) 1) {p0 : Nat} {p1 : Int32} (hR : 3 + 1 ≤ fr ∧ 8 + (2 + 11) + 73 ≤ lo) (hw8 : (rest.map fun v => v.category).sum ≤ 8) (hcs : cells + 0 ≤ mc ∧ slots + 0 ≤ ms) (hdg : decode cc pc = .ok (.invokevirtual idx, 3)) (ho : isO h p0 12) {post : Int32 → hw → Prop} (hq : wp_X12_phaseOf G p0 p1 h post) (kk : ∀ (r : Int32) (h1 : hw) , post r h1 → V G Γ nL (cells + 0) (slots + 0) h1 (pc + 3) L (.int r :: rest)) : V G Γ nL cells slots h pc L (.int p1 :: .ref p0 :: rest) :=
  V_callV (As := [.int p1]) (r9 := (RX12, TX12, 36)) hC (ct_X12_phaseOf hG p0 p1 h post hq) hs ho rfl rfl rfl hR hw8 hcs hdg (fun E h1 z => z.elim) (fun v h1 z => by obtain ⟨r, rfl, hz⟩ := z; exact kk r h1 hz)
set_option maxRecDepth 100000 in
set_option maxHeartbeats 4000000 in
theorem ct_X12_dark {G : Gx} (hG : GOK G) (p0 : Nat) (h0 : hw) (post : Int32 → hw → Prop) (hq : wp_X12_dark G p0 h0 post) : CT G yX12_dark cX12_dark 1 (some .int) 1 30 0 0 [.ref p0] h0 (fun v h1 => ∃ r : Int32, v = some (.int r) ∧ post r h1) (fun E h1 => False) := by
  refine CT_of hG (by decide) (Nat.le_of_ble_eq_true rfl) (fun Γ hC hQ hN => ?_)
  have hC : COK G Γ "BandplanModel" cX12_dark 1 1 30 0 0 [] := hC
  unfold wp_X12_dark at hq
  show V G Γ 1 0 0 h0 0 [(0, .ref p0)] []
  refine V_aload_n hC dX12_dark_0 0 rfl ?_
  refine V_iconst (v := 0) hC dX12_dark_1 (by decide) ?_
  refine U_putO hC (by decide) fl_X12_98 fin_X12_0 rfl rfl dX12_dark_2 hq (fun h1 hq => ?_)
  refine V_aload_n hC dX12_dark_5 0 rfl ?_
  refine U_getI hC fl_X12_253 dX12_dark_6 hq (fun v2 hq => ?_)
  exact V_iret hC hQ rfl rfl ⟨by decide, by decide⟩ dX12_dark_9 ⟨_, rfl, hq⟩
theorem clV_X12_dark {G : Gx} (hG : GOK G) {Γ : Cx} {own : String} {cc : ByteArray} {nL fr lo mc ms cells slots pc : Nat} {hh : List (Nat × Nat × Nat × Nat)} {h : hw} {L : List (Nat × Value)} {rest : List Value} (hC : COK G Γ own cc nL fr lo mc ms hh) {idx : Nat} (hs : SV own idx yX12_dark cX12_dark 1 (some .int) 0) {p0 : Nat} (hR : 1 + 1 ≤ fr ∧ 8 + (1 + 11) + 30 ≤ lo) (hw8 : (rest.map fun v => v.category).sum ≤ 8) (hcs : cells + 0 ≤ mc ∧ slots + 0 ≤ ms) (hdg : decode cc pc = .ok (.invokevirtual idx, 3)) (ho : isO h p0 12) {post : Int32 → hw → Prop} (hq : wp_X12_dark G p0 h post) (kk : ∀ (r : Int32) (h1 : hw) , post r h1 → V G Γ nL (cells + 0) (slots + 0) h1 (pc + 3) L (.int r :: rest)) : V G Γ nL cells slots h pc L (.ref p0 :: rest) :=
  V_callV (As := []) (r9 := (RX12, TX12, 36)) hC (ct_X12_dark hG p0 h post hq) hs ho rfl rfl rfl hR hw8 hcs hdg (fun E h1 z => z.elim) (fun v h1 z => by obtain ⟨r, rfl, hz⟩ := z; exact kk r h1 hz)
set_option maxRecDepth 100000 in
set_option maxHeartbeats 4000000 in
theorem ct_X12_on {G : Gx} (hG : GOK G) (p0 : Nat) (h0 : hw) (post : Int32 → Prop) (hq : wp_X12_on G p0 h0 post) : CT G yX12_on cX12_on 3 (some .int) 1 30 0 0 [.ref p0] h0 (fun v h1 => ∃ r : Int32, v = some (.int r) ∧ h1 = h0 ∧ post r) (fun E h1 => False) := by
  refine CT_of hG (by decide) (Nat.le_of_ble_eq_true rfl) (fun Γ hC hQ hN => ?_)
  have hC : COK G Γ "BandplanModel" cX12_on 3 1 30 0 0 [] := hC
  unfold wp_X12_on at hq
  show V G Γ 3 0 0 h0 0 [(0, .ref p0)] []
  refine V_iconst (v := 0) hC dX12_on_0 (by decide) ?_
  refine V_istore_n (L' := [(0, .ref p0), (1, .int 0)]) hC dX12_on_1 rfl (by decide) [1, 0] rfl ?_
  refine V_iconst (v := 0) hC dX12_on_2 (by decide) ?_
  refine V_istore_n (L' := [(0, .ref p0), (1, .int 0), (2, .int 0)]) hC dX12_on_3 rfl (by decide) [1, 2, 0] rfl ?_
  have hq := hq (fun (x1_1 : Int32) (x2_2 : Int32) => V G Γ 3 0 0 h0 4 [(0, .ref p0), (1, .int x1_1), (2, .int x2_2)] []) (by
    intro x1_1 x2_2 hq
    show V G Γ 3 0 0 h0 4 [(0, .ref p0), (1, .int x1_1), (2, .int x2_2)] []
    refine V_iload_n hC dX12_on_4 2 rfl ?_
    refine V_aload_n hC dX12_on_5 0 rfl ?_
    refine U_getI hC fl_X12_108 dX12_on_6 hq (fun v3 hq => ?_)
    refine V_icmp_ge (tgt := 36) hC dX12_on_9 (by decide) (fun hc => ?_) (fun hc => ?_)
    · have hq := hq.1 hc
      refine V_iload_n hC dX12_on_36 1 rfl ?_
      exact V_iret hC hQ rfl rfl ⟨by decide, by decide⟩ dX12_on_37 ⟨_, rfl, rfl, hq⟩
    · have hq := hq.2 hc
      refine V_iload_n hC dX12_on_12 1 rfl ?_
      refine V_aload_n hC dX12_on_13 0 rfl ?_
      refine U_getR hC fl_X12_39 dX12_on_14 hq (fun v4 hq => ?_)
      refine V_iload_n hC dX12_on_17 2 rfl ?_
      refine U_ldI hC dX12_on_18 hq (fun v5 hq => ?_)
      refine V_iconst (v := (-1)) hC dX12_on_19 (by decide) ?_
      have hq := hq (fun (t6 : Int32) (t7 : Int32) => V G Γ 3 0 0 h0 28 [(0, .ref p0), (2, .int x2_2)] [.int t7, .int t6]) (by
        intro t6 t7 hq
        show V G Γ 3 0 0 h0 28 [(0, .ref p0), (2, .int x2_2)] [.int t7, .int t6]
        refine V_iadd hC dX12_on_28 ?_
        refine V_istore_n (L' := [(0, .ref p0), (1, .int (t6 + t7)), (2, .int x2_2)]) hC dX12_on_29 rfl (by decide) [1, 0, 2] rfl ?_
        refine V_iinc (j := 2) (v := (x2_2 + 1)) (L' := [(0, .ref p0), (1, .int (t6 + t7)), (2, .int (x2_2 + 1))]) hC dX12_on_30 rfl rfl (by decide) [1, 2, 0] rfl ?_
        refine V_goto (tgt := 4) hC dX12_on_33 (by decide) ?_
        exact hq)
      refine V_icmp_ne (tgt := 27) hC dX12_on_20 (by decide) (fun hc => ?_) (fun hc => ?_)
      · have hq := hq.1 hc
        refine V_iconst (v := 1) hC dX12_on_27 (by decide) ?_
        refine V_sub [0, 2] rfl ?_
        exact hq
      · have hq := hq.2 hc
        refine V_iconst (v := 0) hC dX12_on_23 (by decide) ?_
        refine V_goto (tgt := 28) hC dX12_on_24 (by decide) ?_
        refine V_sub [0, 2] rfl ?_
        exact hq)
  exact hq
theorem clV_X12_on {G : Gx} (hG : GOK G) {Γ : Cx} {own : String} {cc : ByteArray} {nL fr lo mc ms cells slots pc : Nat} {hh : List (Nat × Nat × Nat × Nat)} {h : hw} {L : List (Nat × Value)} {rest : List Value} (hC : COK G Γ own cc nL fr lo mc ms hh) {idx : Nat} (hs : SV own idx yX12_on cX12_on 3 (some .int) 0) {p0 : Nat} (hR : 1 + 1 ≤ fr ∧ 8 + (3 + 11) + 30 ≤ lo) (hw8 : (rest.map fun v => v.category).sum ≤ 8) (hcs : cells + 0 ≤ mc ∧ slots + 0 ≤ ms) (hdg : decode cc pc = .ok (.invokevirtual idx, 3)) (ho : isO h p0 12) {post : Int32 → Prop} (hq : wp_X12_on G p0 h post) (kk : ∀ (r : Int32) , post r → V G Γ nL (cells + 0) (slots + 0) h (pc + 3) L (.int r :: rest)) : V G Γ nL cells slots h pc L (.ref p0 :: rest) :=
  V_callV (As := []) (r9 := (RX12, TX12, 36)) hC (ct_X12_on hG p0 h post hq) hs ho rfl rfl rfl hR hw8 hcs hdg (fun E h1 z => z.elim) (fun v h1 z => by obtain ⟨r, rfl, rfl, hz⟩ := z; exact kk r hz)
set_option maxRecDepth 100000 in
set_option maxHeartbeats 4000000 in
theorem ct_X12_onShare {G : Gx} (hG : GOK G) (p0 : Nat) (h0 : hw) (post : UInt32 → hw → Prop) (hq : wp_X12_onShare G p0 h0 post) : CT G yX12_onShare cX12_onShare 1 (some .float) 2 52 0 0 [.ref p0] h0 (fun v h1 => ∃ r : UInt32, v = some (.float r) ∧ post r h1) (fun E h1 => False) := by
  refine CT_of hG (by decide) (Nat.le_of_ble_eq_true rfl) (fun Γ hC hQ hN => ?_)
  have hC : COK G Γ "BandplanModel" cX12_onShare 1 2 52 0 0 [] := hC
  unfold wp_X12_onShare at hq
  show V G Γ 1 0 0 h0 0 [(0, .ref p0)] []
  refine V_aload_n hC dX12_onShare_0 0 rfl ?_
  refine V_iconst (v := 0) hC dX12_onShare_1 (by decide) ?_
  refine U_putO hC (by decide) fl_X12_98 fin_X12_0 rfl rfl dX12_onShare_2 hq (fun h1 hq => ?_)
  refine V_aload_n hC dX12_onShare_5 0 rfl ?_
  refine V_aload_n hC dX12_onShare_6 0 rfl ?_
  refine U_getI hC fl_X12_108 dX12_onShare_7 hq (fun v2 hq => ?_)
  have hq := hq (fun (t3 : Nat) (t4 : Int32) => V G Γ 1 0 0 h1 18 [(0, .ref p0)] [.int t4, .ref t3]) (by
    intro t3 t4 hq
    show V G Γ 1 0 0 h1 18 [(0, .ref p0)] [.int t4, .ref t3]
    refine V_iconst (v := 1) hC dX12_onShare_18 (by decide) ?_
    obtain ⟨hz, hq⟩ := hq
    refine clV_X12_fails hG hC sv_X12_115 ⟨by decide, by decide⟩ (Nat.le_of_ble_eq_true rfl) ⟨by decide, by decide⟩ dX12_onShare_19 hz hq (fun r5 h6 hq => ?_)
    show V G Γ 1 0 0 h6 22 [(0, .ref p0)] [.int r5]
    refine V_if_eq (tgt := 29) hC dX12_onShare_22 (by decide) (fun hc => ?_) (fun hc => ?_)
    · have hq := hq.1 hc
      refine V_aload_n hC dX12_onShare_29 0 rfl ?_
      obtain ⟨hz, hq⟩ := hq
      refine clV_X12_on hG hC sv_X12_266 ⟨by decide, by decide⟩ (Nat.le_of_ble_eq_true rfl) ⟨by decide, by decide⟩ dX12_onShare_30 hz hq (fun r7 hq => ?_)
      show V G Γ 1 0 0 h6 33 [(0, .ref p0)] [.int r7]
      refine V_i2f hC dX12_onShare_33 ?_
      refine V_aload_n hC dX12_onShare_34 0 rfl ?_
      refine U_getI hC fl_X12_108 dX12_onShare_35 hq (fun v8 hq => ?_)
      refine V_i2f hC dX12_onShare_38 ?_
      obtain ⟨hz, hq⟩ := hq
      refine V_fdiv hC dX12_onShare_39 hz ?_
      exact V_fret hC hQ ⟨by decide, by decide⟩ dX12_onShare_40 ⟨_, rfl, hq⟩
    · have hq := hq.2 hc
      refine V_fconst0 hC dX12_onShare_25 ?_
      refine V_goto (tgt := 40) hC dX12_onShare_26 (by decide) ?_
      exact V_fret hC hQ ⟨by decide, by decide⟩ dX12_onShare_40 ⟨_, rfl, hq⟩)
  refine V_if_ne (tgt := 17) hC dX12_onShare_10 (by decide) (fun hc => ?_) (fun hc => ?_)
  · have hq := hq.1 hc
    refine V_iconst (v := 0) hC dX12_onShare_17 (by decide) ?_
    exact hq
  · have hq := hq.2 hc
    refine V_iconst (v := 1) hC dX12_onShare_13 (by decide) ?_
    refine V_goto (tgt := 18) hC dX12_onShare_14 (by decide) ?_
    exact hq
theorem clV_X12_onShare {G : Gx} (hG : GOK G) {Γ : Cx} {own : String} {cc : ByteArray} {nL fr lo mc ms cells slots pc : Nat} {hh : List (Nat × Nat × Nat × Nat)} {h : hw} {L : List (Nat × Value)} {rest : List Value} (hC : COK G Γ own cc nL fr lo mc ms hh) {idx : Nat} (hs : SV own idx yX12_onShare cX12_onShare 1 (some .float) 0) {p0 : Nat} (hR : 2 + 1 ≤ fr ∧ 8 + (1 + 11) + 52 ≤ lo) (hw8 : (rest.map fun v => v.category).sum ≤ 8) (hcs : cells + 0 ≤ mc ∧ slots + 0 ≤ ms) (hdg : decode cc pc = .ok (.invokevirtual idx, 3)) (ho : isO h p0 12) {post : UInt32 → hw → Prop} (hq : wp_X12_onShare G p0 h post) (kk : ∀ (r : UInt32) (h1 : hw) , post r h1 → V G Γ nL (cells + 0) (slots + 0) h1 (pc + 3) L (.float r :: rest)) : V G Γ nL cells slots h pc L (.ref p0 :: rest) :=
  V_callV (As := []) (r9 := (RX12, TX12, 36)) hC (ct_X12_onShare hG p0 h post hq) hs ho rfl rfl rfl hR hw8 hcs hdg (fun E h1 z => z.elim) (fun v h1 z => by obtain ⟨r, rfl, hz⟩ := z; exact kk r h1 hz)
