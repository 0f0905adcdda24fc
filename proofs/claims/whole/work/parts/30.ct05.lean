set_option maxRecDepth 100000 in
set_option maxHeartbeats 4000000 in
theorem ct_X12_addSite {G : Gx} (hG : GOK G) (p0 : Nat) (p1 : Int32) (p2 : Int32) (p3 : Int32) (h0 : hw) (post : Int32 → hw → Prop) (hq : wp_X12_addSite G p0 p1 p2 p3 h0 post) : CT G yX12_addSite cX12_addSite 4 (some .int) 3 73 0 0 [.ref p0, .int p1, .int p2, .int p3] h0 (fun v h1 => ∃ r : Int32, v = some (.int r) ∧ post r h1) (fun E h1 => False) := by
  refine CT_of hG (by decide) (Nat.le_of_ble_eq_true rfl) (fun Γ hC hQ hN => ?_)
  have hC : COK G Γ "BandplanModel" cX12_addSite 4 3 73 0 0 [] := hC
  unfold wp_X12_addSite at hq
  show V G Γ 4 0 0 h0 0 [(0, .ref p0), (1, .int p1), (2, .int p2), (3, .int p3)] []
  refine V_aload_n hC dX12_addSite_0 0 rfl ?_
  refine V_iconst (v := 0) hC dX12_addSite_1 (by decide) ?_
  refine U_putO hC (by decide) fl_X12_98 fin_X12_0 rfl rfl dX12_addSite_2 hq (fun h1 hq => ?_)
  refine V_aload_n hC dX12_addSite_5 0 rfl ?_
  refine V_iload_n hC dX12_addSite_6 1 rfl ?_
  refine V_iload_n hC dX12_addSite_7 2 rfl ?_
  refine clS_X12_noCell hG hC ss_X12_111 ⟨by decide, by decide⟩ (Nat.le_of_ble_eq_true rfl) ⟨by decide, by decide⟩ dX12_addSite_8 hq (fun r2 hq => ?_)
  show V G Γ 4 0 0 h1 11 [(0, .ref p0), (1, .int p1), (2, .int p2), (3, .int p3)] [.int r2, .ref p0]
  refine V_iconst (v := 1) hC dX12_addSite_11 (by decide) ?_
  obtain ⟨hz, hq⟩ := hq
  refine clV_X12_fails hG hC sv_X12_115 ⟨by decide, by decide⟩ (Nat.le_of_ble_eq_true rfl) ⟨by decide, by decide⟩ dX12_addSite_12 hz hq (fun r3 h4 hq => ?_)
  show V G Γ 4 0 0 h4 15 [(0, .ref p0), (1, .int p1), (2, .int p2), (3, .int p3)] [.int r3]
  refine V_if_ne (tgt := 63) hC dX12_addSite_15 (by decide) (fun hc => ?_) (fun hc => ?_)
  · have hq := hq.1 hc
    refine V_iconst (v := 0) hC dX12_addSite_63 (by decide) ?_
    exact V_iret hC hQ rfl rfl ⟨by decide, by decide⟩ dX12_addSite_64 ⟨_, rfl, hq⟩
  · have hq := hq.2 hc
    refine V_aload_n hC dX12_addSite_18 0 rfl ?_
    refine V_iload_n hC dX12_addSite_19 3 rfl ?_
    refine V_iconst (v := 0) hC dX12_addSite_20 (by decide) ?_
    refine V_bipush (v := 99) hC dX12_addSite_21 (by decide) ?_
    refine clS_X12_in hG hC ss_X12_101 ⟨by decide, by decide⟩ (Nat.le_of_ble_eq_true rfl) ⟨by decide, by decide⟩ dX12_addSite_23 hq (fun r5 hq => ?_)
    show V G Γ 4 0 0 h4 26 [(0, .ref p0), (1, .int p1), (2, .int p2), (3, .int p3)] [.int r5, .ref p0]
    have hq := hq (fun (t6 : Nat) (t7 : Int32) => V G Γ 4 0 0 h4 34 [(0, .ref p0), (1, .int p1), (2, .int p2), (3, .int p3)] [.int t7, .ref t6]) (by
      intro t6 t7 hq
      show V G Γ 4 0 0 h4 34 [(0, .ref p0), (1, .int p1), (2, .int p2), (3, .int p3)] [.int t7, .ref t6]
      refine V_iconst (v := 2) hC dX12_addSite_34 (by decide) ?_
      obtain ⟨hz, hq⟩ := hq
      refine clV_X12_fails hG hC sv_X12_115 ⟨by decide, by decide⟩ (Nat.le_of_ble_eq_true rfl) ⟨by decide, by decide⟩ dX12_addSite_35 hz hq (fun r8 h9 hq => ?_)
      show V G Γ 4 0 0 h9 38 [(0, .ref p0), (1, .int p1), (2, .int p2), (3, .int p3)] [.int r8]
      refine V_if_ne (tgt := 63) hC dX12_addSite_38 (by decide) (fun hc => ?_) (fun hc => ?_)
      · have hq := hq.1 hc
        refine V_iconst (v := 0) hC dX12_addSite_63 (by decide) ?_
        exact V_iret hC hQ rfl rfl ⟨by decide, by decide⟩ dX12_addSite_64 ⟨_, rfl, hq⟩
      · have hq := hq.2 hc
        refine V_aload_n hC dX12_addSite_41 0 rfl ?_
        refine V_aload_n hC dX12_addSite_42 0 rfl ?_
        refine U_getI hC fl_X12_105 dX12_addSite_43 hq (fun v10 hq => ?_)
        refine V_bipush (v := 10) hC dX12_addSite_46 (by decide) ?_
        have hq := hq (fun (t11 : Nat) (t12 : Int32) => V G Γ 4 0 0 h9 56 [(0, .ref p0), (1, .int p1), (2, .int p2), (3, .int p3)] [.int t12, .ref t11]) (by
          intro t11 t12 hq
          show V G Γ 4 0 0 h9 56 [(0, .ref p0), (1, .int p1), (2, .int p2), (3, .int p3)] [.int t12, .ref t11]
          refine V_iconst (v := 3) hC dX12_addSite_56 (by decide) ?_
          obtain ⟨hz, hq⟩ := hq
          refine clV_X12_fails hG hC sv_X12_115 ⟨by decide, by decide⟩ (Nat.le_of_ble_eq_true rfl) ⟨by decide, by decide⟩ dX12_addSite_57 hz hq (fun r13 h14 hq => ?_)
          show V G Γ 4 0 0 h14 60 [(0, .ref p0), (1, .int p1), (2, .int p2), (3, .int p3)] [.int r13]
          refine V_if_eq (tgt := 65) hC dX12_addSite_60 (by decide) (fun hc => ?_) (fun hc => ?_)
          · have hq := hq.1 hc
            refine V_aload_n hC dX12_addSite_65 0 rfl ?_
            refine U_getR hC fl_X12_17 dX12_addSite_66 hq (fun v15 hq => ?_)
            refine V_aload_n hC dX12_addSite_69 0 rfl ?_
            refine U_getI hC fl_X12_105 dX12_addSite_70 hq (fun v16 hq => ?_)
            refine V_iload_n hC dX12_addSite_73 1 rfl ?_
            refine U_stI hC dX12_addSite_74 hq (fun h17 hq => ?_)
            refine V_aload_n hC dX12_addSite_75 0 rfl ?_
            refine U_getR hC fl_X12_20 dX12_addSite_76 hq (fun v18 hq => ?_)
            refine V_aload_n hC dX12_addSite_79 0 rfl ?_
            refine U_getI hC fl_X12_105 dX12_addSite_80 hq (fun v19 hq => ?_)
            refine V_iload_n hC dX12_addSite_83 2 rfl ?_
            refine U_stI hC dX12_addSite_84 hq (fun h20 hq => ?_)
            refine V_aload_n hC dX12_addSite_85 0 rfl ?_
            refine U_getR hC fl_X12_23 dX12_addSite_86 hq (fun v21 hq => ?_)
            refine V_aload_n hC dX12_addSite_89 0 rfl ?_
            refine U_getI hC fl_X12_105 dX12_addSite_90 hq (fun v22 hq => ?_)
            refine V_iload_n hC dX12_addSite_93 3 rfl ?_
            refine U_stI hC dX12_addSite_94 hq (fun h23 hq => ?_)
            refine V_aload_n hC dX12_addSite_95 0 rfl ?_
            refine V_dup hC dX12_addSite_96 rfl ?_
            refine U_getI hC fl_X12_105 dX12_addSite_97 hq (fun v24 hq => ?_)
            refine V_iconst (v := 1) hC dX12_addSite_100 (by decide) ?_
            refine V_iadd hC dX12_addSite_101 ?_
            refine U_putO hC (by decide) fl_X12_105 fin_X12_3 rfl rfl dX12_addSite_102 hq (fun h25 hq => ?_)
            refine V_aload_n hC dX12_addSite_105 0 rfl ?_
            refine U_getI hC fl_X12_105 dX12_addSite_106 hq (fun v26 hq => ?_)
            refine V_iconst (v := 1) hC dX12_addSite_109 (by decide) ?_
            refine V_isub hC dX12_addSite_110 ?_
            exact V_iret hC hQ rfl rfl ⟨by decide, by decide⟩ dX12_addSite_111 ⟨_, rfl, hq⟩
          · have hq := hq.2 hc
            refine V_iconst (v := 0) hC dX12_addSite_63 (by decide) ?_
            exact V_iret hC hQ rfl rfl ⟨by decide, by decide⟩ dX12_addSite_64 ⟨_, rfl, hq⟩)
        refine V_icmp_ne (tgt := 55) hC dX12_addSite_48 (by decide) (fun hc => ?_) (fun hc => ?_)
        · have hq := hq.1 hc
          refine V_iconst (v := 0) hC dX12_addSite_55 (by decide) ?_
          exact hq
        · have hq := hq.2 hc
          refine V_iconst (v := 1) hC dX12_addSite_51 (by decide) ?_
          refine V_goto (tgt := 56) hC dX12_addSite_52 (by decide) ?_
          exact hq)
    refine V_if_ne (tgt := 33) hC dX12_addSite_26 (by decide) (fun hc => ?_) (fun hc => ?_)
    · have hq := hq.1 hc
      refine V_iconst (v := 0) hC dX12_addSite_33 (by decide) ?_
      exact hq
    · have hq := hq.2 hc
      refine V_iconst (v := 1) hC dX12_addSite_29 (by decide) ?_
      refine V_goto (tgt := 34) hC dX12_addSite_30 (by decide) ?_
      exact hq
theorem clV_X12_addSite {G : Gx} (hG : GOK G) {Γ : Cx} {own : String} {cc : ByteArray} {nL fr lo mc ms cells slots pc : Nat} {hh : List (Nat × Nat × Nat × Nat)} {h : hw} {L : List (Nat × Value)} {rest : List Value} (hC : COK G Γ own cc nL fr lo mc ms hh) {idx : Nat} (hs : SV own idx yX12_addSite cX12_addSite 4 (some .int) 3) {p0 : Nat} {p1 : Int32} {p2 : Int32} {p3 : Int32} (hR : 3 + 1 ≤ fr ∧ 8 + (4 + 11) + 73 ≤ lo) (hw8 : (rest.map fun v => v.category).sum ≤ 8) (hcs : cells + 0 ≤ mc ∧ slots + 0 ≤ ms) (hdg : decode cc pc = .ok (.invokevirtual idx, 3)) (ho : isO h p0 12) {post : Int32 → hw → Prop} (hq : wp_X12_addSite G p0 p1 p2 p3 h post) (kk : ∀ (r : Int32) (h1 : hw) , post r h1 → V G Γ nL (cells + 0) (slots + 0) h1 (pc + 3) L (.int r :: rest)) : V G Γ nL cells slots h pc L (.int p3 :: .int p2 :: .int p1 :: .ref p0 :: rest) :=
  V_callV (As := [.int p1, .int p2, .int p3]) (r9 := (RX12, TX12, 36)) hC (ct_X12_addSite hG p0 p1 p2 p3 h post hq) hs ho rfl rfl rfl hR hw8 hcs hdg (fun E h1 z => z.elim) (fun v h1 z => by obtain ⟨r, rfl, hz⟩ := z; exact kk r h1 hz)
set_option maxRecDepth 100000 in
set_option maxHeartbeats 4000000 in
theorem ct_X12_topOf {G : Gx} (hG : GOK G) (p0 : Nat) (p1 : Int32) (h0 : hw) (post : Int32 → Prop) (hq : wp_X12_topOf G p0 p1 h0 post) : CT G yX12_topOf cX12_topOf 2 (some .int) 1 30 0 0 [.ref p0, .int p1] h0 (fun v h1 => ∃ r : Int32, v = some (.int r) ∧ h1 = h0 ∧ post r) (fun E h1 => False) := by
  refine CT_of hG (by decide) (Nat.le_of_ble_eq_true rfl) (fun Γ hC hQ hN => ?_)
  have hC : COK G Γ "BandplanModel" cX12_topOf 2 1 30 0 0 [] := hC
  unfold wp_X12_topOf at hq
  show V G Γ 2 0 0 h0 0 [(0, .ref p0), (1, .int p1)] []
  refine V_aload_n hC dX12_topOf_0 0 rfl ?_
  refine U_getR hC fl_X12_23 dX12_topOf_1 hq (fun v1 hq => ?_)
  refine V_iload_n hC dX12_topOf_4 1 rfl ?_
  refine U_ldI hC dX12_topOf_5 hq (fun v2 hq => ?_)
  refine V_aload_n hC dX12_topOf_6 0 rfl ?_
  refine U_getR hC fl_X12_13 dX12_topOf_7 hq (fun v3 hq => ?_)
  refine V_bipush (v := 20) hC dX12_topOf_10 (by decide) ?_
  refine V_aload_n hC dX12_topOf_12 0 rfl ?_
  refine U_getR hC fl_X12_20 dX12_topOf_13 hq (fun v4 hq => ?_)
  refine V_iload_n hC dX12_topOf_16 1 rfl ?_
  refine U_ldI hC dX12_topOf_17 hq (fun v5 hq => ?_)
  refine V_imul hC dX12_topOf_18 ?_
  refine V_aload_n hC dX12_topOf_19 0 rfl ?_
  refine U_getR hC fl_X12_17 dX12_topOf_20 hq (fun v6 hq => ?_)
  refine V_iload_n hC dX12_topOf_23 1 rfl ?_
  refine U_ldI hC dX12_topOf_24 hq (fun v7 hq => ?_)
  refine V_iadd hC dX12_topOf_25 ?_
  refine U_ldI hC dX12_topOf_26 hq (fun v8 hq => ?_)
  refine V_iadd hC dX12_topOf_27 ?_
  exact V_iret hC hQ rfl rfl ⟨by decide, by decide⟩ dX12_topOf_28 ⟨_, rfl, rfl, hq⟩
theorem clV_X12_topOf {G : Gx} (hG : GOK G) {Γ : Cx} {own : String} {cc : ByteArray} {nL fr lo mc ms cells slots pc : Nat} {hh : List (Nat × Nat × Nat × Nat)} {h : hw} {L : List (Nat × Value)} {rest : List Value} (hC : COK G Γ own cc nL fr lo mc ms hh) {idx : Nat} (hs : SV own idx yX12_topOf cX12_topOf 2 (some .int) 1) {p0 : Nat} {p1 : Int32} (hR : 1 + 1 ≤ fr ∧ 8 + (2 + 11) + 30 ≤ lo) (hw8 : (rest.map fun v => v.category).sum ≤ 8) (hcs : cells + 0 ≤ mc ∧ slots + 0 ≤ ms) (hdg : decode cc pc = .ok (.invokevirtual idx, 3)) (ho : isO h p0 12) {post : Int32 → Prop} (hq : wp_X12_topOf G p0 p1 h post) (kk : ∀ (r : Int32) , post r → V G Γ nL (cells + 0) (slots + 0) h (pc + 3) L (.int r :: rest)) : V G Γ nL cells slots h pc L (.int p1 :: .ref p0 :: rest) :=
  V_callV (As := [.int p1]) (r9 := (RX12, TX12, 36)) hC (ct_X12_topOf hG p0 p1 h post hq) hs ho rfl rfl rfl hR hw8 hcs hdg (fun E h1 z => z.elim) (fun v h1 z => by obtain ⟨r, rfl, rfl, hz⟩ := z; exact kk r hz)
set_option maxRecDepth 100000 in
set_option maxHeartbeats 4000000 in
theorem ct_X12_lossOf {G : Gx} (hG : GOK G) (p0 : Nat) (p1 : Int32) (p2 : Int32) (h0 : hw) (post : Int32 → Prop) (hq : wp_X12_lossOf G p0 p1 p2 h0 post) : CT G yX12_lossOf cX12_lossOf 15 (some .int) 2 60 0 0 [.ref p0, .int p1, .int p2] h0 (fun v h1 => ∃ r : Int32, v = some (.int r) ∧ h1 = h0 ∧ post r) (fun E h1 => False) := by
  refine CT_of hG (by decide) (Nat.le_of_ble_eq_true rfl) (fun Γ hC hQ hN => ?_)
  have hC : COK G Γ "BandplanModel" cX12_lossOf 15 2 60 0 0 [] := hC
  unfold wp_X12_lossOf at hq
  show V G Γ 15 0 0 h0 0 [(0, .ref p0), (1, .int p1), (2, .int p2)] []
  refine V_iload_n hC dX12_lossOf_0 1 rfl ?_
  refine V_iload_n hC dX12_lossOf_1 2 rfl ?_
  refine V_icmp_ne (tgt := 7) hC dX12_lossOf_2 (by decide) (fun hc => ?_) (fun hc => ?_)
  · have hq := hq.1 hc
    refine V_iload_n hC dX12_lossOf_7 1 rfl ?_
    refine V_iload_n hC dX12_lossOf_8 2 rfl ?_
    refine V_min hC sm_X12_123 (by decide) (Nat.le_of_ble_eq_true rfl) (by decide) (by decide) dX12_lossOf_9 ?_
    refine V_istore_n (L' := [(0, .ref p0), (1, .int p1), (2, .int p2), (3, .int (jmin p1 p2))]) hC dX12_lossOf_12 rfl (by decide) [1, 2, 3, 0] rfl ?_
    refine V_iload_n hC dX12_lossOf_13 1 rfl ?_
    refine V_iload_n hC dX12_lossOf_14 2 rfl ?_
    refine V_max hC sm_X12_129 (by decide) (Nat.le_of_ble_eq_true rfl) (by decide) (by decide) dX12_lossOf_15 ?_
    refine V_istore (L' := [(0, .ref p0), (1, .int p1), (2, .int p2), (3, .int (jmin p1 p2)), (4, .int (jmax p1 p2))]) hC dX12_lossOf_18 (by decide) [1, 2, 3, 4, 0] rfl ?_
    refine V_aload_n hC dX12_lossOf_20 0 rfl ?_
    refine U_getR hC fl_X12_17 dX12_lossOf_21 hq (fun v1 hq => ?_)
    refine V_iload hC dX12_lossOf_24 4 rfl ?_
    refine U_ldI hC dX12_lossOf_26 hq (fun v2 hq => ?_)
    refine V_aload_n hC dX12_lossOf_27 0 rfl ?_
    refine U_getR hC fl_X12_17 dX12_lossOf_28 hq (fun v3 hq => ?_)
    refine V_iload_n hC dX12_lossOf_31 3 rfl ?_
    refine U_ldI hC dX12_lossOf_32 hq (fun v4 hq => ?_)
    refine V_isub hC dX12_lossOf_33 ?_
    refine V_istore (L' := [(0, .ref p0), (1, .int p1), (2, .int p2), (3, .int (jmin p1 p2)), (4, .int (jmax p1 p2)), (5, .int (v2 - v4))]) hC dX12_lossOf_34 (by decide) [1, 2, 3, 4, 5, 0] rfl ?_
    refine V_aload_n hC dX12_lossOf_36 0 rfl ?_
    refine U_getR hC fl_X12_20 dX12_lossOf_37 hq (fun v5 hq => ?_)
    refine V_iload hC dX12_lossOf_40 4 rfl ?_
    refine U_ldI hC dX12_lossOf_42 hq (fun v6 hq => ?_)
    refine V_aload_n hC dX12_lossOf_43 0 rfl ?_
    refine U_getR hC fl_X12_20 dX12_lossOf_44 hq (fun v7 hq => ?_)
    refine V_iload_n hC dX12_lossOf_47 3 rfl ?_
    refine U_ldI hC dX12_lossOf_48 hq (fun v8 hq => ?_)
    refine V_isub hC dX12_lossOf_49 ?_
    refine V_istore (L' := [(0, .ref p0), (1, .int p1), (2, .int p2), (3, .int (jmin p1 p2)), (4, .int (jmax p1 p2)), (5, .int (v2 - v4)), (6, .int (v6 - v8))]) hC dX12_lossOf_50 (by decide) [1, 2, 3, 4, 5, 6, 0] rfl ?_
    refine V_iload hC dX12_lossOf_52 5 rfl ?_
    refine V_abs hC sm_X12_132 (by decide) (Nat.le_of_ble_eq_true rfl) (by decide) (by decide) dX12_lossOf_54 ?_
    refine V_iload hC dX12_lossOf_57 6 rfl ?_
    refine V_abs hC sm_X12_132 (by decide) (Nat.le_of_ble_eq_true rfl) (by decide) (by decide) dX12_lossOf_59 ?_
    refine V_max hC sm_X12_129 (by decide) (Nat.le_of_ble_eq_true rfl) (by decide) (by decide) dX12_lossOf_62 ?_
    refine V_istore (L' := [(0, .ref p0), (1, .int p1), (2, .int p2), (3, .int (jmin p1 p2)), (4, .int (jmax p1 p2)), (5, .int (v2 - v4)), (6, .int (v6 - v8)), (7, .int (jmax (jabs (v2 - v4)) (jabs (v6 - v8))))]) hC dX12_lossOf_65 (by decide) [1, 2, 3, 4, 5, 6, 7, 0] rfl ?_
    refine V_bipush (v := 100) hC dX12_lossOf_67 (by decide) ?_
    refine V_iload hC dX12_lossOf_69 5 rfl ?_
    refine V_iload hC dX12_lossOf_71 5 rfl ?_
    refine V_imul hC dX12_lossOf_73 ?_
    refine V_iload hC dX12_lossOf_74 6 rfl ?_
    refine V_iload hC dX12_lossOf_76 6 rfl ?_
    refine V_imul hC dX12_lossOf_78 ?_
    refine V_iadd hC dX12_lossOf_79 ?_
    refine V_imul hC dX12_lossOf_80 ?_
    refine V_istore (L' := [(0, .ref p0), (1, .int p1), (2, .int p2), (3, .int (jmin p1 p2)), (4, .int (jmax p1 p2)), (5, .int (v2 - v4)), (6, .int (v6 - v8)), (7, .int (jmax (jabs (v2 - v4)) (jabs (v6 - v8)))), (8, .int (100 * (((v2 - v4) * (v2 - v4)) + ((v6 - v8) * (v6 - v8)))))]) hC dX12_lossOf_81 (by decide) [1, 2, 3, 4, 5, 6, 7, 8, 0] rfl ?_
    refine V_iconst (v := 0) hC dX12_lossOf_83 (by decide) ?_
    refine V_istore (L' := [(0, .ref p0), (1, .int p1), (2, .int p2), (3, .int (jmin p1 p2)), (4, .int (jmax p1 p2)), (5, .int (v2 - v4)), (6, .int (v6 - v8)), (7, .int (jmax (jabs (v2 - v4)) (jabs (v6 - v8)))), (8, .int (100 * (((v2 - v4) * (v2 - v4)) + ((v6 - v8) * (v6 - v8))))), (9, .int 0)]) hC dX12_lossOf_84 (by decide) [1, 2, 3, 4, 5, 6, 7, 8, 9, 0] rfl ?_
    have hq := hq (fun (x9_9 : Int32) => V G Γ 15 0 0 h0 86 [(0, .ref p0), (3, .int (jmin p1 p2)), (4, .int (jmax p1 p2)), (5, .int (v2 - v4)), (6, .int (v6 - v8)), (7, .int (jmax (jabs (v2 - v4)) (jabs (v6 - v8)))), (8, .int (100 * (((v2 - v4) * (v2 - v4)) + ((v6 - v8) * (v6 - v8))))), (9, .int x9_9)] []) (by
      intro x9_9 hq
      show V G Γ 15 0 0 h0 86 [(0, .ref p0), (3, .int (jmin p1 p2)), (4, .int (jmax p1 p2)), (5, .int (v2 - v4)), (6, .int (v6 - v8)), (7, .int (jmax (jabs (v2 - v4)) (jabs (v6 - v8)))), (8, .int (100 * (((v2 - v4) * (v2 - v4)) + ((v6 - v8) * (v6 - v8))))), (9, .int x9_9)] []
      refine V_iload hC dX12_lossOf_86 7 rfl ?_
      refine V_iconst (v := 1) hC dX12_lossOf_88 (by decide) ?_
      refine V_iadd hC dX12_lossOf_89 ?_
      refine V_iload hC dX12_lossOf_90 7 rfl ?_
      refine V_iconst (v := 1) hC dX12_lossOf_92 (by decide) ?_
      refine V_iadd hC dX12_lossOf_93 ?_
      refine V_imul hC dX12_lossOf_94 ?_
      refine V_iload hC dX12_lossOf_95 6 rfl ?_
      refine V_icmp_gt (tgt := 106) hC dX12_lossOf_97 (by decide) (fun hc => ?_) (fun hc => ?_)
      · have hq := hq.1 hc
        refine V_iconst (v := 0) hC dX12_lossOf_106 (by decide) ?_
        refine V_istore (L' := [(0, .ref p0), (3, .int (jmin p1 p2)), (4, .int (jmax p1 p2)), (5, .int (v2 - v4)), (6, .int (v6 - v8)), (7, .int (jmax (jabs (v2 - v4)) (jabs (v6 - v8)))), (8, .int (100 * (((v2 - v4) * (v2 - v4)) + ((v6 - v8) * (v6 - v8))))), (9, .int x9_9), (10, .int 0)]) hC dX12_lossOf_107 (by decide) [1, 2, 3, 4, 5, 6, 7, 8, 0] rfl ?_
        refine V_iconst (v := 1) hC dX12_lossOf_109 (by decide) ?_
        refine V_istore (L' := [(0, .ref p0), (3, .int (jmin p1 p2)), (4, .int (jmax p1 p2)), (5, .int (v2 - v4)), (6, .int (v6 - v8)), (7, .int (jmax (jabs (v2 - v4)) (jabs (v6 - v8)))), (8, .int (100 * (((v2 - v4) * (v2 - v4)) + ((v6 - v8) * (v6 - v8))))), (9, .int x9_9), (10, .int 0), (11, .int 1)]) hC dX12_lossOf_110 (by decide) [1, 2, 3, 4, 5, 6, 7, 8, 9, 0] rfl ?_
        have hq := hq (fun (x10_10 : Int32) (x11_11 : Int32) => V G Γ 15 0 0 h0 112 [(0, .ref p0), (3, .int (jmin p1 p2)), (4, .int (jmax p1 p2)), (5, .int (v2 - v4)), (6, .int (v6 - v8)), (7, .int (jmax (jabs (v2 - v4)) (jabs (v6 - v8)))), (9, .int x9_9), (10, .int x10_10), (11, .int x11_11)] []) (by
          intro x10_10 x11_11 hq
          show V G Γ 15 0 0 h0 112 [(0, .ref p0), (3, .int (jmin p1 p2)), (4, .int (jmax p1 p2)), (5, .int (v2 - v4)), (6, .int (v6 - v8)), (7, .int (jmax (jabs (v2 - v4)) (jabs (v6 - v8)))), (9, .int x9_9), (10, .int x10_10), (11, .int x11_11)] []
          refine V_iload hC dX12_lossOf_112 8 rfl ?_
          refine V_iload hC dX12_lossOf_114 5 rfl ?_
          refine V_icmp_ge (tgt := 217) hC dX12_lossOf_116 (by decide) (fun hc => ?_) (fun hc => ?_)
          · have hq := hq.1 hc
            refine V_sipush (v := 200) hC dX12_lossOf_217 (by decide) ?_
            refine V_bipush (v := 8) hC dX12_lossOf_220 (by decide) ?_
            refine V_iload hC dX12_lossOf_222 6 rfl ?_
            refine V_imul hC dX12_lossOf_224 ?_
            refine V_iadd hC dX12_lossOf_225 ?_
            refine V_bipush (v := 60) hC dX12_lossOf_226 (by decide) ?_
            refine V_iload hC dX12_lossOf_228 7 rfl ?_
            refine V_imul hC dX12_lossOf_230 ?_
            refine V_iadd hC dX12_lossOf_231 ?_
            exact V_iret hC hQ rfl rfl ⟨by decide, by decide⟩ dX12_lossOf_232 ⟨_, rfl, rfl, hq⟩
          · have hq := hq.2 hc
            refine V_aload_n hC dX12_lossOf_119 0 rfl ?_
            refine U_getR hC fl_X12_17 dX12_lossOf_120 hq (fun v12 hq => ?_)
            refine V_iload_n hC dX12_lossOf_123 1 rfl ?_
            refine U_ldI hC dX12_lossOf_124 hq (fun v13 hq => ?_)
            refine V_iload hC dX12_lossOf_125 8 rfl ?_
            refine V_iload hC dX12_lossOf_127 3 rfl ?_
            refine V_imul hC dX12_lossOf_129 ?_
            refine V_iload hC dX12_lossOf_130 5 rfl ?_
            refine clS_J9_floorDiv_7cf53 hG hC ss_X12_136 ⟨by decide, by decide⟩ (Nat.le_of_ble_eq_true rfl) ⟨by decide, by decide⟩ dX12_lossOf_132 hq (fun r14 hq => ?_)
            show V G Γ 15 0 0 h0 135 [(0, .ref p0), (3, .int (jmin p1 p2)), (4, .int (jmax p1 p2)), (5, .int (v2 - v4)), (6, .int (v6 - v8)), (7, .int (jmax (jabs (v2 - v4)) (jabs (v6 - v8)))), (9, .int x9_9), (10, .int x10_10), (11, .int x11_11)] [.int r14, .int v13]
            refine V_iadd hC dX12_lossOf_135 ?_
            refine V_istore (L' := [(0, .ref p0), (3, .int (jmin p1 p2)), (4, .int (jmax p1 p2)), (5, .int (v2 - v4)), (6, .int (v6 - v8)), (7, .int (jmax (jabs (v2 - v4)) (jabs (v6 - v8)))), (9, .int x9_9), (10, .int x10_10), (11, .int x11_11), (12, .int (v13 + r14))]) hC dX12_lossOf_136 (by decide) [1, 2, 3, 4, 5, 6, 7, 8, 9, 0] rfl ?_
            refine V_aload_n hC dX12_lossOf_138 0 rfl ?_
            refine U_getR hC fl_X12_20 dX12_lossOf_139 hq (fun v15 hq => ?_)
            refine V_iload_n hC dX12_lossOf_142 1 rfl ?_
            refine U_ldI hC dX12_lossOf_143 hq (fun v16 hq => ?_)
            refine V_iload hC dX12_lossOf_144 8 rfl ?_
            refine V_iload hC dX12_lossOf_146 4 rfl ?_
            refine V_imul hC dX12_lossOf_148 ?_
            refine V_iload hC dX12_lossOf_149 5 rfl ?_
            refine clS_J9_floorDiv_7cf53 hG hC ss_X12_136 ⟨by decide, by decide⟩ (Nat.le_of_ble_eq_true rfl) ⟨by decide, by decide⟩ dX12_lossOf_151 hq (fun r17 hq => ?_)
            show V G Γ 15 0 0 h0 154 [(0, .ref p0), (3, .int (jmin p1 p2)), (4, .int (jmax p1 p2)), (5, .int (v2 - v4)), (6, .int (v6 - v8)), (7, .int (jmax (jabs (v2 - v4)) (jabs (v6 - v8)))), (9, .int x9_9), (10, .int x10_10), (11, .int x11_11), (12, .int (v13 + r14))] [.int r17, .int v16]
            refine V_iadd hC dX12_lossOf_154 ?_
            refine V_istore (L' := [(0, .ref p0), (3, .int (jmin p1 p2)), (4, .int (jmax p1 p2)), (5, .int (v2 - v4)), (6, .int (v6 - v8)), (7, .int (jmax (jabs (v2 - v4)) (jabs (v6 - v8)))), (9, .int x9_9), (10, .int x10_10), (11, .int x11_11), (12, .int (v13 + r14)), (13, .int (v16 + r17))]) hC dX12_lossOf_155 (by decide) [1, 2, 3, 4, 5, 6, 7, 8, 9, 10, 0] rfl ?_
            refine V_aload_n hC dX12_lossOf_157 0 rfl ?_
            refine V_iload_n hC dX12_lossOf_158 1 rfl ?_
            obtain ⟨hz, hq⟩ := hq
            refine clV_X12_topOf hG hC sv_X12_139 ⟨by decide, by decide⟩ (Nat.le_of_ble_eq_true rfl) ⟨by decide, by decide⟩ dX12_lossOf_159 hz hq (fun r18 hq => ?_)
            show V G Γ 15 0 0 h0 162 [(0, .ref p0), (3, .int (jmin p1 p2)), (4, .int (jmax p1 p2)), (5, .int (v2 - v4)), (6, .int (v6 - v8)), (7, .int (jmax (jabs (v2 - v4)) (jabs (v6 - v8)))), (9, .int x9_9), (10, .int x10_10), (11, .int x11_11), (12, .int (v13 + r14)), (13, .int (v16 + r17))] [.int r18]
            refine V_iload hC dX12_lossOf_162 5 rfl ?_
            refine V_iload hC dX12_lossOf_164 8 rfl ?_
            refine V_isub hC dX12_lossOf_166 ?_
            refine V_imul hC dX12_lossOf_167 ?_
            refine V_aload_n hC dX12_lossOf_168 0 rfl ?_
            refine V_iload hC dX12_lossOf_169 2 rfl ?_
            obtain ⟨hz, hq⟩ := hq
            refine clV_X12_topOf hG hC sv_X12_139 ⟨by decide, by decide⟩ (Nat.le_of_ble_eq_true rfl) ⟨by decide, by decide⟩ dX12_lossOf_171 hz hq (fun r19 hq => ?_)
            show V G Γ 15 0 0 h0 174 [(0, .ref p0), (3, .int (jmin p1 p2)), (4, .int (jmax p1 p2)), (5, .int (v2 - v4)), (6, .int (v6 - v8)), (7, .int (jmax (jabs (v2 - v4)) (jabs (v6 - v8)))), (9, .int x9_9), (10, .int x10_10), (11, .int x11_11), (12, .int (v13 + r14)), (13, .int (v16 + r17))] [.int r19, .int (r18 * ((jmax (jabs (v2 - v4)) (jabs (v6 - v8))) - x11_11))]
            refine V_iload hC dX12_lossOf_174 8 rfl ?_
            refine V_imul hC dX12_lossOf_176 ?_
            refine V_iadd hC dX12_lossOf_177 ?_
            refine V_iload hC dX12_lossOf_178 5 rfl ?_
            obtain ⟨hz, hq⟩ := hq
            refine V_idiv hC dX12_lossOf_180 hz ?_
            refine V_istore (L' := [(0, .ref p0), (3, .int (jmin p1 p2)), (4, .int (jmax p1 p2)), (5, .int (v2 - v4)), (6, .int (v6 - v8)), (7, .int (jmax (jabs (v2 - v4)) (jabs (v6 - v8)))), (9, .int x9_9), (10, .int x10_10), (11, .int x11_11), (12, .int (v13 + r14)), (13, .int (v16 + r17)), (14, .int (((r18 * ((jmax (jabs (v2 - v4)) (jabs (v6 - v8))) - x11_11)) + (r19 * x11_11)) / (jmax (jabs (v2 - v4)) (jabs (v6 - v8)))))]) hC dX12_lossOf_181 (by decide) [1, 2, 3, 4, 5, 6, 7, 8, 9, 10, 11, 0] rfl ?_
            refine V_iload hC dX12_lossOf_183 7 rfl ?_
            refine V_aload_n hC dX12_lossOf_185 0 rfl ?_
            refine U_getR hC fl_X12_13 dX12_lossOf_186 hq (fun v20 hq => ?_)
            refine V_bipush (v := 20) hC dX12_lossOf_189 (by decide) ?_
            refine V_iload hC dX12_lossOf_191 10 rfl ?_
            refine V_imul hC dX12_lossOf_193 ?_
            refine V_iload hC dX12_lossOf_194 9 rfl ?_
            refine V_iadd hC dX12_lossOf_196 ?_
            refine U_ldI hC dX12_lossOf_197 hq (fun v21 hq => ?_)
            refine V_iload hC dX12_lossOf_198 11 rfl ?_
            have hq := hq (fun (t22 : Int32) (t23 : Int32) => V G Γ 15 0 0 h0 208 [(0, .ref p0), (3, .int (jmin p1 p2)), (4, .int (jmax p1 p2)), (5, .int (v2 - v4)), (6, .int (v6 - v8)), (7, .int (jmax (jabs (v2 - v4)) (jabs (v6 - v8)))), (9, .int x9_9), (11, .int x11_11)] [.int t23, .int t22]) (by
              intro t22 t23 hq
              show V G Γ 15 0 0 h0 208 [(0, .ref p0), (3, .int (jmin p1 p2)), (4, .int (jmax p1 p2)), (5, .int (v2 - v4)), (6, .int (v6 - v8)), (7, .int (jmax (jabs (v2 - v4)) (jabs (v6 - v8)))), (9, .int x9_9), (11, .int x11_11)] [.int t23, .int t22]
              refine V_iadd hC dX12_lossOf_208 ?_
              refine V_istore (L' := [(0, .ref p0), (3, .int (jmin p1 p2)), (4, .int (jmax p1 p2)), (5, .int (v2 - v4)), (6, .int (v6 - v8)), (7, .int (jmax (jabs (v2 - v4)) (jabs (v6 - v8)))), (9, .int x9_9), (10, .int (t22 + t23)), (11, .int x11_11)]) hC dX12_lossOf_209 (by decide) [1, 2, 3, 4, 5, 6, 7, 0, 8] rfl ?_
              refine V_iinc (j := 8) (v := (x11_11 + 1)) (L' := [(0, .ref p0), (3, .int (jmin p1 p2)), (4, .int (jmax p1 p2)), (5, .int (v2 - v4)), (6, .int (v6 - v8)), (7, .int (jmax (jabs (v2 - v4)) (jabs (v6 - v8)))), (9, .int x9_9), (10, .int (t22 + t23)), (11, .int (x11_11 + 1))]) hC dX12_lossOf_211 rfl rfl (by decide) [1, 2, 3, 4, 5, 6, 7, 8, 0] rfl ?_
              refine V_goto (tgt := 112) hC dX12_lossOf_214 (by decide) ?_
              exact hq)
            refine V_icmp_le (tgt := 207) hC dX12_lossOf_200 (by decide) (fun hc => ?_) (fun hc => ?_)
            · have hq := hq.1 hc
              refine V_iconst (v := 0) hC dX12_lossOf_207 (by decide) ?_
              refine V_sub [0, 1, 2, 3, 4, 5, 6, 8] rfl ?_
              exact hq
            · have hq := hq.2 hc
              refine V_iconst (v := 1) hC dX12_lossOf_203 (by decide) ?_
              refine V_goto (tgt := 208) hC dX12_lossOf_204 (by decide) ?_
              refine V_sub [0, 1, 2, 3, 4, 5, 6, 8] rfl ?_
              exact hq)
        refine V_sub [0, 1, 2, 3, 4, 5, 7, 8, 9] rfl ?_
        exact hq
      · have hq := hq.2 hc
        refine V_iinc (j := 7) (v := (x9_9 + 1)) (L' := [(0, .ref p0), (3, .int (jmin p1 p2)), (4, .int (jmax p1 p2)), (5, .int (v2 - v4)), (6, .int (v6 - v8)), (7, .int (jmax (jabs (v2 - v4)) (jabs (v6 - v8)))), (8, .int (100 * (((v2 - v4) * (v2 - v4)) + ((v6 - v8) * (v6 - v8))))), (9, .int (x9_9 + 1))]) hC dX12_lossOf_100 rfl rfl (by decide) [1, 2, 3, 4, 5, 6, 7, 0] rfl ?_
        refine V_goto (tgt := 86) hC dX12_lossOf_103 (by decide) ?_
        exact hq)
    refine V_sub [0, 3, 4, 5, 6, 7, 8, 9] rfl ?_
    exact hq
  · have hq := hq.2 hc
    refine V_iconst (v := 0) hC dX12_lossOf_5 (by decide) ?_
    exact V_iret hC hQ rfl rfl ⟨by decide, by decide⟩ dX12_lossOf_6 ⟨_, rfl, rfl, hq⟩
theorem clV_X12_lossOf {G : Gx} (hG : GOK G) {Γ : Cx} {own : String} {cc : ByteArray} {nL fr lo mc ms cells slots pc : Nat} {hh : List (Nat × Nat × Nat × Nat)} {h : hw} {L : List (Nat × Value)} {rest : List Value} (hC : COK G Γ own cc nL fr lo mc ms hh) {idx : Nat} (hs : SV own idx yX12_lossOf cX12_lossOf 15 (some .int) 2) {p0 : Nat} {p1 : Int32} {p2 : Int32} (hR : 2 + 1 ≤ fr ∧ 8 + (15 + 11) + 60 ≤ lo) (hw8 : (rest.map fun v => v.category).sum ≤ 8) (hcs : cells + 0 ≤ mc ∧ slots + 0 ≤ ms) (hdg : decode cc pc = .ok (.invokevirtual idx, 3)) (ho : isO h p0 12) {post : Int32 → Prop} (hq : wp_X12_lossOf G p0 p1 p2 h post) (kk : ∀ (r : Int32) , post r → V G Γ nL (cells + 0) (slots + 0) h (pc + 3) L (.int r :: rest)) : V G Γ nL cells slots h pc L (.int p2 :: .int p1 :: .ref p0 :: rest) :=
  V_callV (As := [.int p1, .int p2]) (r9 := (RX12, TX12, 36)) hC (ct_X12_lossOf hG p0 p1 p2 h post hq) hs ho rfl rfl rfl hR hw8 hcs hdg (fun E h1 z => z.elim) (fun v h1 z => by obtain ⟨r, rfl, rfl, hz⟩ := z; exact kk r hz)
set_option maxRecDepth 100000 in
set_option maxHeartbeats 4000000 in
theorem ct_X12_loss {G : Gx} (hG : GOK G) (p0 : Nat) (p1 : Int32) (p2 : Int32) (h0 : hw) (post : Int32 → hw → Prop) (hq : wp_X12_loss G p0 p1 p2 h0 post) : CT G yX12_loss cX12_loss 3 (some .int) 3 94 0 0 [.ref p0, .int p1, .int p2] h0 (fun v h1 => ∃ r : Int32, v = some (.int r) ∧ post r h1) (fun E h1 => False) := by
  refine CT_of hG (by decide) (Nat.le_of_ble_eq_true rfl) (fun Γ hC hQ hN => ?_)
  have hC : COK G Γ "BandplanModel" cX12_loss 3 3 94 0 0 [] := hC
  unfold wp_X12_loss at hq
  show V G Γ 3 0 0 h0 0 [(0, .ref p0), (1, .int p1), (2, .int p2)] []
  refine V_aload_n hC dX12_loss_0 0 rfl ?_
  refine V_iconst (v := 0) hC dX12_loss_1 (by decide) ?_
  refine U_putO hC (by decide) fl_X12_98 fin_X12_0 rfl rfl dX12_loss_2 hq (fun h1 hq => ?_)
  refine V_aload_n hC dX12_loss_5 0 rfl ?_
  refine V_aload_n hC dX12_loss_6 0 rfl ?_
  refine V_iload_n hC dX12_loss_7 1 rfl ?_
  obtain ⟨hz, hq⟩ := hq
  refine clV_X12_noSite hG hC sv_X12_142 ⟨by decide, by decide⟩ (Nat.le_of_ble_eq_true rfl) ⟨by decide, by decide⟩ dX12_loss_8 hz hq (fun r2 hq => ?_)
  show V G Γ 3 0 0 h1 11 [(0, .ref p0), (1, .int p1), (2, .int p2)] [.int r2, .ref p0]
  have hq := hq (fun (t3 : Nat) (t4 : Int32) => V G Γ 3 0 0 h1 27 [(0, .ref p0), (1, .int p1), (2, .int p2)] [.int t4, .ref t3]) (by
    intro t3 t4 hq
    show V G Γ 3 0 0 h1 27 [(0, .ref p0), (1, .int p1), (2, .int p2)] [.int t4, .ref t3]
    refine V_iconst (v := 1) hC dX12_loss_27 (by decide) ?_
    obtain ⟨hz, hq⟩ := hq
    refine clV_X12_fails hG hC sv_X12_115 ⟨by decide, by decide⟩ (Nat.le_of_ble_eq_true rfl) ⟨by decide, by decide⟩ dX12_loss_28 hz hq (fun r5 h6 hq => ?_)
    show V G Γ 3 0 0 h6 31 [(0, .ref p0), (1, .int p1), (2, .int p2)] [.int r5]
    refine V_if_eq (tgt := 38) hC dX12_loss_31 (by decide) (fun hc => ?_) (fun hc => ?_)
    · have hq := hq.1 hc
      refine V_aload_n hC dX12_loss_38 0 rfl ?_
      refine V_iload_n hC dX12_loss_39 1 rfl ?_
      refine V_iload_n hC dX12_loss_40 2 rfl ?_
      obtain ⟨hz, hq⟩ := hq
      refine clV_X12_lossOf hG hC sv_X12_146 ⟨by decide, by decide⟩ (Nat.le_of_ble_eq_true rfl) ⟨by decide, by decide⟩ dX12_loss_41 hz hq (fun r7 hq => ?_)
      show V G Γ 3 0 0 h6 44 [(0, .ref p0), (1, .int p1), (2, .int p2)] [.int r7]
      exact V_iret hC hQ rfl rfl ⟨by decide, by decide⟩ dX12_loss_44 ⟨_, rfl, hq⟩
    · have hq := hq.2 hc
      refine V_iconst (v := 0) hC dX12_loss_34 (by decide) ?_
      refine V_goto (tgt := 44) hC dX12_loss_35 (by decide) ?_
      exact V_iret hC hQ rfl rfl ⟨by decide, by decide⟩ dX12_loss_44 ⟨_, rfl, hq⟩)
  have hq := hq (fun (t8 : Nat) => V G Γ 3 0 0 h1 22 [(0, .ref p0), (1, .int p1), (2, .int p2)] [.ref t8]) (by
    intro t8 hq
    show V G Γ 3 0 0 h1 22 [(0, .ref p0), (1, .int p1), (2, .int p2)] [.ref t8]
    refine V_iconst (v := 1) hC dX12_loss_22 (by decide) ?_
    refine V_goto (tgt := 27) hC dX12_loss_23 (by decide) ?_
    exact hq)
  refine V_if_ne (tgt := 22) hC dX12_loss_11 (by decide) (fun hc => ?_) (fun hc => ?_)
  · have hq := hq.1 hc
    exact hq
  · have hq := hq.2 hc
    refine V_aload_n hC dX12_loss_14 0 rfl ?_
    refine V_iload_n hC dX12_loss_15 2 rfl ?_
    obtain ⟨hz, hq⟩ := hq
    refine clV_X12_noSite hG hC sv_X12_142 ⟨by decide, by decide⟩ (Nat.le_of_ble_eq_true rfl) ⟨by decide, by decide⟩ dX12_loss_16 hz hq (fun r9 hq => ?_)
    show V G Γ 3 0 0 h1 19 [(0, .ref p0), (1, .int p1), (2, .int p2)] [.int r9, .ref p0]
    refine V_if_eq (tgt := 26) hC dX12_loss_19 (by decide) (fun hc => ?_) (fun hc => ?_)
    · have hq := hq.1 hc
      refine V_iconst (v := 0) hC dX12_loss_26 (by decide) ?_
      exact hq
    · have hq := hq.2 hc
      exact hq
theorem clV_X12_loss {G : Gx} (hG : GOK G) {Γ : Cx} {own : String} {cc : ByteArray} {nL fr lo mc ms cells slots pc : Nat} {hh : List (Nat × Nat × Nat × Nat)} {h : hw} {L : List (Nat × Value)} {rest : List Value} (hC : COK G Γ own cc nL fr lo mc ms hh) {idx : Nat} (hs : SV own idx yX12_loss cX12_loss 3 (some .int) 2) {p0 : Nat} {p1 : Int32} {p2 : Int32} (hR : 3 + 1 ≤ fr ∧ 8 + (3 + 11) + 94 ≤ lo) (hw8 : (rest.map fun v => v.category).sum ≤ 8) (hcs : cells + 0 ≤ mc ∧ slots + 0 ≤ ms) (hdg : decode cc pc = .ok (.invokevirtual idx, 3)) (ho : isO h p0 12) {post : Int32 → hw → Prop} (hq : wp_X12_loss G p0 p1 p2 h post) (kk : ∀ (r : Int32) (h1 : hw) , post r h1 → V G Γ nL (cells + 0) (slots + 0) h1 (pc + 3) L (.int r :: rest)) : V G Γ nL cells slots h pc L (.int p2 :: .int p1 :: .ref p0 :: rest) :=
  V_callV (As := [.int p1, .int p2]) (r9 := (RX12, TX12, 36)) hC (ct_X12_loss hG p0 p1 p2 h post hq) hs ho rfl rfl rfl hR hw8 hcs hdg (fun E h1 z => z.elim) (fun v h1 z => by obtain ⟨r, rfl, hz⟩ := z; exact kk r h1 hz)
set_option maxRecDepth 100000 in
set_option maxHeartbeats 4000000 in
theorem ct_X12_addStation {G : Gx} (hG : GOK G) (p0 : Nat) (p1 : Int32) (p2 : Int32) (p3 : Int32) (p4 : Int32) (h0 : hw) (post : Int32 → hw → Prop) (hq : wp_X12_addStation G p0 p1 p2 p3 p4 h0 post) : CT G yX12_addStation cX12_addStation 5 (some .int) 8 191 2 13 [.ref p0, .int p1, .int p2, .int p3, .int p4] h0 (fun v h1 => ∃ r : Int32, v = some (.int r) ∧ post r h1) (fun E h1 => False) := by
  refine CT_of hG (by decide) (Nat.le_of_ble_eq_true rfl) (fun Γ hC hQ hN => ?_)
  have hC : COK G Γ "BandplanModel" cX12_addStation 5 8 191 2 13 [] := hC
  unfold wp_X12_addStation at hq
  show V G Γ 5 0 0 h0 0 [(0, .ref p0), (1, .int p1), (2, .int p2), (3, .int p3), (4, .int p4)] []
  refine V_aload_n hC dX12_addStation_0 0 rfl ?_
  refine V_iconst (v := 0) hC dX12_addStation_1 (by decide) ?_
  refine U_putO hC (by decide) fl_X12_98 fin_X12_0 rfl rfl dX12_addStation_2 hq (fun h1 hq => ?_)
  refine V_aload_n hC dX12_addStation_5 0 rfl ?_
  refine V_aload_n hC dX12_addStation_6 0 rfl ?_
  refine V_iload_n hC dX12_addStation_7 1 rfl ?_
  obtain ⟨hz, hq⟩ := hq
  refine clV_X12_noSite hG hC sv_X12_142 ⟨by decide, by decide⟩ (Nat.le_of_ble_eq_true rfl) ⟨by decide, by decide⟩ dX12_addStation_8 hz hq (fun r2 hq => ?_)
  show V G Γ 5 0 0 h1 11 [(0, .ref p0), (1, .int p1), (2, .int p2), (3, .int p3), (4, .int p4)] [.int r2, .ref p0]
  have hq := hq (fun (t3 : Nat) (t4 : Int32) => V G Γ 5 0 0 h1 27 [(0, .ref p0), (1, .int p1), (2, .int p2), (3, .int p3), (4, .int p4)] [.int t4, .ref t3]) (by
    intro t3 t4 hq
    show V G Γ 5 0 0 h1 27 [(0, .ref p0), (1, .int p1), (2, .int p2), (3, .int p3), (4, .int p4)] [.int t4, .ref t3]
    refine V_iconst (v := 1) hC dX12_addStation_27 (by decide) ?_
    obtain ⟨hz, hq⟩ := hq
    refine clV_X12_fails hG hC sv_X12_115 ⟨by decide, by decide⟩ (Nat.le_of_ble_eq_true rfl) ⟨by decide, by decide⟩ dX12_addStation_28 hz hq (fun r5 h6 hq => ?_)
    show V G Γ 5 0 0 h6 31 [(0, .ref p0), (1, .int p1), (2, .int p2), (3, .int p3), (4, .int p4)] [.int r5]
    refine V_if_ne (tgt := 85) hC dX12_addStation_31 (by decide) (fun hc => ?_) (fun hc => ?_)
    · have hq := hq.1 hc
      refine V_iconst (v := 0) hC dX12_addStation_85 (by decide) ?_
      exact V_iret hC hQ rfl rfl ⟨by decide, by decide⟩ dX12_addStation_86 ⟨_, rfl, hq⟩
    · have hq := hq.2 hc
      refine V_aload_n hC dX12_addStation_34 0 rfl ?_
      refine V_iload_n hC dX12_addStation_35 1 rfl ?_
      refine V_iload_n hC dX12_addStation_36 2 rfl ?_
      have hq := hq (fun (t7 : Nat) (t8 : Int32) => V G Γ 5 0 0 h6 56 [(0, .ref p0), (1, .int p1), (2, .int p2), (3, .int p3), (4, .int p4)] [.int t8, .ref t7]) (by
        intro t7 t8 hq
        show V G Γ 5 0 0 h6 56 [(0, .ref p0), (1, .int p1), (2, .int p2), (3, .int p3), (4, .int p4)] [.int t8, .ref t7]
        refine V_iconst (v := 2) hC dX12_addStation_56 (by decide) ?_
        obtain ⟨hz, hq⟩ := hq
        refine clV_X12_fails hG hC sv_X12_115 ⟨by decide, by decide⟩ (Nat.le_of_ble_eq_true rfl) ⟨by decide, by decide⟩ dX12_addStation_57 hz hq (fun r9 h10 hq => ?_)
        show V G Γ 5 0 0 h10 60 [(0, .ref p0), (1, .int p1), (2, .int p2), (3, .int p3), (4, .int p4)] [.int r9]
        refine V_if_ne (tgt := 85) hC dX12_addStation_60 (by decide) (fun hc => ?_) (fun hc => ?_)
        · have hq := hq.1 hc
          refine V_iconst (v := 0) hC dX12_addStation_85 (by decide) ?_
          exact V_iret hC hQ rfl rfl ⟨by decide, by decide⟩ dX12_addStation_86 ⟨_, rfl, hq⟩
        · have hq := hq.2 hc
          refine V_aload_n hC dX12_addStation_63 0 rfl ?_
          refine V_aload_n hC dX12_addStation_64 0 rfl ?_
          refine U_getI hC fl_X12_108 dX12_addStation_65 hq (fun v11 hq => ?_)
          refine V_bipush (v := 8) hC dX12_addStation_68 (by decide) ?_
          have hq := hq (fun (t12 : Nat) (t13 : Int32) => V G Γ 5 0 0 h10 78 [(0, .ref p0), (1, .int p1), (2, .int p2), (3, .int p3), (4, .int p4)] [.int t13, .ref t12]) (by
            intro t12 t13 hq
            show V G Γ 5 0 0 h10 78 [(0, .ref p0), (1, .int p1), (2, .int p2), (3, .int p3), (4, .int p4)] [.int t13, .ref t12]
            refine V_iconst (v := 3) hC dX12_addStation_78 (by decide) ?_
            obtain ⟨hz, hq⟩ := hq
            refine clV_X12_fails hG hC sv_X12_115 ⟨by decide, by decide⟩ (Nat.le_of_ble_eq_true rfl) ⟨by decide, by decide⟩ dX12_addStation_79 hz hq (fun r14 h15 hq => ?_)
            show V G Γ 5 0 0 h15 82 [(0, .ref p0), (1, .int p1), (2, .int p2), (3, .int p3), (4, .int p4)] [.int r14]
            refine V_if_eq (tgt := 87) hC dX12_addStation_82 (by decide) (fun hc => ?_) (fun hc => ?_)
            · have hq := hq.1 hc
              refine V_aload_n hC dX12_addStation_87 0 rfl ?_
              refine U_getR hC fl_X12_26 dX12_addStation_88 hq (fun v16 hq => ?_)
              refine V_aload_n hC dX12_addStation_91 0 rfl ?_
              refine U_getI hC fl_X12_108 dX12_addStation_92 hq (fun v17 hq => ?_)
              refine V_iload_n hC dX12_addStation_95 1 rfl ?_
              refine U_stI hC dX12_addStation_96 hq (fun h18 hq => ?_)
              refine V_aload_n hC dX12_addStation_97 0 rfl ?_
              refine U_getR hC fl_X12_29 dX12_addStation_98 hq (fun v19 hq => ?_)
              refine V_aload_n hC dX12_addStation_101 0 rfl ?_
              refine U_getI hC fl_X12_108 dX12_addStation_102 hq (fun v20 hq => ?_)
              refine V_iload_n hC dX12_addStation_105 2 rfl ?_
              refine U_stI hC dX12_addStation_106 hq (fun h21 hq => ?_)
              refine V_aload_n hC dX12_addStation_107 0 rfl ?_
              refine U_getR hC fl_X12_32 dX12_addStation_108 hq (fun v22 hq => ?_)
              refine V_aload_n hC dX12_addStation_111 0 rfl ?_
              refine U_getI hC fl_X12_108 dX12_addStation_112 hq (fun v23 hq => ?_)
              refine V_iload_n hC dX12_addStation_115 3 rfl ?_
              refine U_stI hC dX12_addStation_116 hq (fun h24 hq => ?_)
              refine V_aload_n hC dX12_addStation_117 0 rfl ?_
              refine U_getR hC fl_X12_35 dX12_addStation_118 hq (fun v25 hq => ?_)
              refine V_aload_n hC dX12_addStation_121 0 rfl ?_
              refine U_getI hC fl_X12_108 dX12_addStation_122 hq (fun v26 hq => ?_)
              refine V_iload hC dX12_addStation_125 4 rfl ?_
              refine U_stZ hC dX12_addStation_127 hq (fun h27 hq => ?_)
              refine V_aload_n hC dX12_addStation_128 0 rfl ?_
              refine U_getR hC fl_X12_48 dX12_addStation_129 hq (fun v28 hq => ?_)
              refine U_new hC no_X12_45 ⟨by decide, by decide⟩ dX12_addStation_132 hq (fun a29 h30 hq => ?_)
              refine V_dup hC dX12_addStation_135 rfl ?_
              refine clI_Jx4a65c_init_da8c8 hG hC si_X12_47 ⟨by decide, by decide⟩ (Nat.le_of_ble_eq_true rfl) ⟨by decide, by decide⟩ dX12_addStation_136 hq (fun h31 hq => ?_)
              show V G Γ 5 1 3 h31 139 [(0, .ref p0), (1, .int p1), (2, .int p2), (3, .int p3), (4, .int p4)] [.ref a29, .ref v28]
              obtain ⟨hz, hq⟩ := hq
              refine clV_Jx4a65c_add_9ea2d hG hC sv_X12_149 ⟨by decide, by decide⟩ (Nat.le_of_ble_eq_true rfl) ⟨by decide, by decide⟩ dX12_addStation_139 hz hq (fun r32 h33 hq => ?_)
              show V G Γ 5 2 13 h33 142 [(0, .ref p0), (1, .int p1), (2, .int p2), (3, .int p3), (4, .int p4)] [.int r32]
              refine V_pop hC dX12_addStation_142 rfl ?_
              refine V_aload_n hC dX12_addStation_143 0 rfl ?_
              refine V_dup hC dX12_addStation_144 rfl ?_
              refine U_getI hC fl_X12_108 dX12_addStation_145 hq (fun v34 hq => ?_)
              refine V_iconst (v := 1) hC dX12_addStation_148 (by decide) ?_
              refine V_iadd hC dX12_addStation_149 ?_
              refine U_putO hC (by decide) fl_X12_108 fin_X12_4 rfl rfl dX12_addStation_150 hq (fun h35 hq => ?_)
              refine V_aload_n hC dX12_addStation_153 0 rfl ?_
              refine U_getI hC fl_X12_108 dX12_addStation_154 hq (fun v36 hq => ?_)
              refine V_iconst (v := 1) hC dX12_addStation_157 (by decide) ?_
              refine V_isub hC dX12_addStation_158 ?_
              exact V_iret hC hQ rfl rfl ⟨by decide, by decide⟩ dX12_addStation_159 ⟨_, rfl, hq⟩
            · have hq := hq.2 hc
              refine V_iconst (v := 0) hC dX12_addStation_85 (by decide) ?_
              exact V_iret hC hQ rfl rfl ⟨by decide, by decide⟩ dX12_addStation_86 ⟨_, rfl, hq⟩)
          refine V_icmp_ne (tgt := 77) hC dX12_addStation_70 (by decide) (fun hc => ?_) (fun hc => ?_)
          · have hq := hq.1 hc
            refine V_iconst (v := 0) hC dX12_addStation_77 (by decide) ?_
            exact hq
          · have hq := hq.2 hc
            refine V_iconst (v := 1) hC dX12_addStation_73 (by decide) ?_
            refine V_goto (tgt := 78) hC dX12_addStation_74 (by decide) ?_
            exact hq)
      have hq := hq (fun (t37 : Nat) => V G Γ 5 0 0 h6 51 [(0, .ref p0), (1, .int p1), (2, .int p2), (3, .int p3), (4, .int p4)] [.ref t37]) (by
        intro t37 hq
        show V G Γ 5 0 0 h6 51 [(0, .ref p0), (1, .int p1), (2, .int p2), (3, .int p3), (4, .int p4)] [.ref t37]
        refine V_iconst (v := 1) hC dX12_addStation_51 (by decide) ?_
        refine V_goto (tgt := 56) hC dX12_addStation_52 (by decide) ?_
        exact hq)
      refine V_icmp_eq (tgt := 51) hC dX12_addStation_37 (by decide) (fun hc => ?_) (fun hc => ?_)
      · have hq := hq.1 hc
        exact hq
      · have hq := hq.2 hc
        refine V_iload_n hC dX12_addStation_40 3 rfl ?_
        refine V_iconst (v := 0) hC dX12_addStation_41 (by decide) ?_
        refine V_sipush (v := 500) hC dX12_addStation_42 (by decide) ?_
        refine clS_X12_in hG hC ss_X12_101 ⟨by decide, by decide⟩ (Nat.le_of_ble_eq_true rfl) ⟨by decide, by decide⟩ dX12_addStation_45 hq (fun r38 hq => ?_)
        show V G Γ 5 0 0 h6 48 [(0, .ref p0), (1, .int p1), (2, .int p2), (3, .int p3), (4, .int p4)] [.int r38, .ref p0]
        refine V_if_ne (tgt := 55) hC dX12_addStation_48 (by decide) (fun hc => ?_) (fun hc => ?_)
        · have hq := hq.1 hc
          refine V_iconst (v := 0) hC dX12_addStation_55 (by decide) ?_
          exact hq
        · have hq := hq.2 hc
          exact hq)
  have hq := hq (fun (t39 : Nat) => V G Γ 5 0 0 h1 22 [(0, .ref p0), (1, .int p1), (2, .int p2), (3, .int p3), (4, .int p4)] [.ref t39]) (by
    intro t39 hq
    show V G Γ 5 0 0 h1 22 [(0, .ref p0), (1, .int p1), (2, .int p2), (3, .int p3), (4, .int p4)] [.ref t39]
    refine V_iconst (v := 1) hC dX12_addStation_22 (by decide) ?_
    refine V_goto (tgt := 27) hC dX12_addStation_23 (by decide) ?_
    exact hq)
  refine V_if_ne (tgt := 22) hC dX12_addStation_11 (by decide) (fun hc => ?_) (fun hc => ?_)
  · have hq := hq.1 hc
    exact hq
  · have hq := hq.2 hc
    refine V_aload_n hC dX12_addStation_14 0 rfl ?_
    refine V_iload_n hC dX12_addStation_15 2 rfl ?_
    obtain ⟨hz, hq⟩ := hq
    refine clV_X12_noSite hG hC sv_X12_142 ⟨by decide, by decide⟩ (Nat.le_of_ble_eq_true rfl) ⟨by decide, by decide⟩ dX12_addStation_16 hz hq (fun r40 hq => ?_)
    show V G Γ 5 0 0 h1 19 [(0, .ref p0), (1, .int p1), (2, .int p2), (3, .int p3), (4, .int p4)] [.int r40, .ref p0]
    refine V_if_eq (tgt := 26) hC dX12_addStation_19 (by decide) (fun hc => ?_) (fun hc => ?_)
    · have hq := hq.1 hc
      refine V_iconst (v := 0) hC dX12_addStation_26 (by decide) ?_
      exact hq
    · have hq := hq.2 hc
      exact hq
theorem clV_X12_addStation {G : Gx} (hG : GOK G) {Γ : Cx} {own : String} {cc : ByteArray} {nL fr lo mc ms cells slots pc : Nat} {hh : List (Nat × Nat × Nat × Nat)} {h : hw} {L : List (Nat × Value)} {rest : List Value} (hC : COK G Γ own cc nL fr lo mc ms hh) {idx : Nat} (hs : SV own idx yX12_addStation cX12_addStation 5 (some .int) 4) {p0 : Nat} {p1 : Int32} {p2 : Int32} {p3 : Int32} {p4 : Int32} (hR : 8 + 1 ≤ fr ∧ 8 + (5 + 11) + 191 ≤ lo) (hw8 : (rest.map fun v => v.category).sum ≤ 8) (hcs : cells + 2 ≤ mc ∧ slots + 13 ≤ ms) (hdg : decode cc pc = .ok (.invokevirtual idx, 3)) (ho : isO h p0 12) {post : Int32 → hw → Prop} (hq : wp_X12_addStation G p0 p1 p2 p3 p4 h post) (kk : ∀ (r : Int32) (h1 : hw) , post r h1 → V G Γ nL (cells + 2) (slots + 13) h1 (pc + 3) L (.int r :: rest)) : V G Γ nL cells slots h pc L (.int p4 :: .int p3 :: .int p2 :: .int p1 :: .ref p0 :: rest) :=
  V_callV (As := [.int p1, .int p2, .int p3, .int p4]) (r9 := (RX12, TX12, 36)) hC (ct_X12_addStation hG p0 p1 p2 p3 p4 h post hq) hs ho rfl rfl rfl hR hw8 hcs hdg (fun E h1 z => z.elim) (fun v h1 z => by obtain ⟨r, rfl, hz⟩ := z; exact kk r h1 hz)
set_option maxRecDepth 100000 in
set_option maxHeartbeats 4000000 in
theorem ct_X12_setRatio {G : Gx} (hG : GOK G) (p0 : Nat) (p1 : Int32) (h0 : hw) (post : Int32 → hw → Prop) (hq : wp_X12_setRatio G p0 p1 h0 post) : CT G yX12_setRatio cX12_setRatio 3 (some .int) 2 52 0 0 [.ref p0, .int p1] h0 (fun v h1 => ∃ r : Int32, v = some (.int r) ∧ post r h1) (fun E h1 => False) := by
  refine CT_of hG (by decide) (Nat.le_of_ble_eq_true rfl) (fun Γ hC hQ hN => ?_)
  have hC : COK G Γ "BandplanModel" cX12_setRatio 3 2 52 0 0 [] := hC
  unfold wp_X12_setRatio at hq
  show V G Γ 3 0 0 h0 0 [(0, .ref p0), (1, .int p1)] []
  refine V_aload_n hC dX12_setRatio_0 0 rfl ?_
  refine V_iconst (v := 0) hC dX12_setRatio_1 (by decide) ?_
  refine U_putO hC (by decide) fl_X12_98 fin_X12_0 rfl rfl dX12_setRatio_2 hq (fun h1 hq => ?_)
  refine V_aload_n hC dX12_setRatio_5 0 rfl ?_
  refine V_iload_n hC dX12_setRatio_6 1 rfl ?_
  refine V_iconst (v := 0) hC dX12_setRatio_7 (by decide) ?_
  refine V_sipush (v := 500) hC dX12_setRatio_8 (by decide) ?_
  refine clS_X12_in hG hC ss_X12_101 ⟨by decide, by decide⟩ (Nat.le_of_ble_eq_true rfl) ⟨by decide, by decide⟩ dX12_setRatio_11 hq (fun r2 hq => ?_)
  show V G Γ 3 0 0 h1 14 [(0, .ref p0), (1, .int p1)] [.int r2, .ref p0]
  have hq := hq (fun (t3 : Nat) (t4 : Int32) => V G Γ 3 0 0 h1 22 [(0, .ref p0), (1, .int p1)] [.int t4, .ref t3]) (by
    intro t3 t4 hq
    show V G Γ 3 0 0 h1 22 [(0, .ref p0), (1, .int p1)] [.int t4, .ref t3]
    refine V_iconst (v := 1) hC dX12_setRatio_22 (by decide) ?_
    obtain ⟨hz, hq⟩ := hq
    refine clV_X12_fails hG hC sv_X12_115 ⟨by decide, by decide⟩ (Nat.le_of_ble_eq_true rfl) ⟨by decide, by decide⟩ dX12_setRatio_23 hz hq (fun r5 h6 hq => ?_)
    show V G Γ 3 0 0 h6 26 [(0, .ref p0), (1, .int p1)] [.int r5]
    refine V_if_ne (tgt := 41) hC dX12_setRatio_26 (by decide) (fun hc => ?_) (fun hc => ?_)
    · have hq := hq.1 hc
      refine V_iconst (v := 0) hC dX12_setRatio_41 (by decide) ?_
      exact V_iret hC hQ rfl rfl ⟨by decide, by decide⟩ dX12_setRatio_42 ⟨_, rfl, hq⟩
    · have hq := hq.2 hc
      refine V_aload_n hC dX12_setRatio_29 0 rfl ?_
      refine V_aload_n hC dX12_setRatio_30 0 rfl ?_
      obtain ⟨hz, hq⟩ := hq
      refine clV_X12_isAnyOn hG hC sv_X12_119 ⟨by decide, by decide⟩ (Nat.le_of_ble_eq_true rfl) ⟨by decide, by decide⟩ dX12_setRatio_31 hz hq (fun r7 hq => ?_)
      show V G Γ 3 0 0 h6 34 [(0, .ref p0), (1, .int p1)] [.int r7, .ref p0]
      refine V_iconst (v := 2) hC dX12_setRatio_34 (by decide) ?_
      obtain ⟨hz, hq⟩ := hq
      refine clV_X12_fails hG hC sv_X12_115 ⟨by decide, by decide⟩ (Nat.le_of_ble_eq_true rfl) ⟨by decide, by decide⟩ dX12_setRatio_35 hz hq (fun r8 h9 hq => ?_)
      show V G Γ 3 0 0 h9 38 [(0, .ref p0), (1, .int p1)] [.int r8]
      refine V_if_eq (tgt := 43) hC dX12_setRatio_38 (by decide) (fun hc => ?_) (fun hc => ?_)
      · have hq := hq.1 hc
        refine V_aload_n hC dX12_setRatio_43 0 rfl ?_
        refine U_getI hC fl_X12_7 dX12_setRatio_44 hq (fun v10 hq => ?_)
        refine V_istore_n (L' := [(0, .ref p0), (1, .int p1), (2, .int v10)]) hC dX12_setRatio_47 rfl (by decide) [1, 2, 0] rfl ?_
        refine V_aload_n hC dX12_setRatio_48 0 rfl ?_
        refine V_iload_n hC dX12_setRatio_49 1 rfl ?_
        refine U_putO hC (by decide) fl_X12_7 fin_X12_2 rfl rfl dX12_setRatio_50 hq (fun h11 hq => ?_)
        refine V_iload_n hC dX12_setRatio_53 2 rfl ?_
        exact V_iret hC hQ rfl rfl ⟨by decide, by decide⟩ dX12_setRatio_54 ⟨_, rfl, hq⟩
      · have hq := hq.2 hc
        refine V_iconst (v := 0) hC dX12_setRatio_41 (by decide) ?_
        exact V_iret hC hQ rfl rfl ⟨by decide, by decide⟩ dX12_setRatio_42 ⟨_, rfl, hq⟩)
  refine V_if_ne (tgt := 21) hC dX12_setRatio_14 (by decide) (fun hc => ?_) (fun hc => ?_)
  · have hq := hq.1 hc
    refine V_iconst (v := 0) hC dX12_setRatio_21 (by decide) ?_
    exact hq
  · have hq := hq.2 hc
    refine V_iconst (v := 1) hC dX12_setRatio_17 (by decide) ?_
    refine V_goto (tgt := 22) hC dX12_setRatio_18 (by decide) ?_
    exact hq
theorem clV_X12_setRatio {G : Gx} (hG : GOK G) {Γ : Cx} {own : String} {cc : ByteArray} {nL fr lo mc ms cells slots pc : Nat} {hh : List (Nat × Nat × Nat × Nat)} {h : hw} {L : List (Nat × Value)} {rest : List Value} (hC : COK G Γ own cc nL fr lo mc ms hh) {idx : Nat} (hs : SV own idx yX12_setRatio cX12_setRatio 3 (some .int) 1) {p0 : Nat} {p1 : Int32} (hR : 2 + 1 ≤ fr ∧ 8 + (3 + 11) + 52 ≤ lo) (hw8 : (rest.map fun v => v.category).sum ≤ 8) (hcs : cells + 0 ≤ mc ∧ slots + 0 ≤ ms) (hdg : decode cc pc = .ok (.invokevirtual idx, 3)) (ho : isO h p0 12) {post : Int32 → hw → Prop} (hq : wp_X12_setRatio G p0 p1 h post) (kk : ∀ (r : Int32) (h1 : hw) , post r h1 → V G Γ nL (cells + 0) (slots + 0) h1 (pc + 3) L (.int r :: rest)) : V G Γ nL cells slots h pc L (.int p1 :: .ref p0 :: rest) :=
  V_callV (As := [.int p1]) (r9 := (RX12, TX12, 36)) hC (ct_X12_setRatio hG p0 p1 h post hq) hs ho rfl rfl rfl hR hw8 hcs hdg (fun E h1 z => z.elim) (fun v h1 z => by obtain ⟨r, rfl, hz⟩ := z; exact kk r h1 hz)
set_option maxRecDepth 100000 in
set_option maxHeartbeats 4000000 in
theorem ct_X12_levelOf {G : Gx} (hG : GOK G) (p0 : Nat) (p1 : Int32) (h0 : hw) (post : Int32 → Prop) (hq : wp_X12_levelOf G p0 p1 h0 post) : CT G yX12_levelOf cX12_levelOf 2 (some .int) 3 94 0 0 [.ref p0, .int p1] h0 (fun v h1 => ∃ r : Int32, v = some (.int r) ∧ h1 = h0 ∧ post r) (fun E h1 => False) := by
  refine CT_of hG (by decide) (Nat.le_of_ble_eq_true rfl) (fun Γ hC hQ hN => ?_)
  have hC : COK G Γ "BandplanModel" cX12_levelOf 2 3 94 0 0 [] := hC
  unfold wp_X12_levelOf at hq
  show V G Γ 2 0 0 h0 0 [(0, .ref p0), (1, .int p1)] []
  refine V_aload_n hC dX12_levelOf_0 0 rfl ?_
  refine U_getR hC fl_X12_32 dX12_levelOf_1 hq (fun v1 hq => ?_)
  refine V_iload_n hC dX12_levelOf_4 1 rfl ?_
  refine U_ldI hC dX12_levelOf_5 hq (fun v2 hq => ?_)
  refine V_aload_n hC dX12_levelOf_6 0 rfl ?_
  refine V_aload_n hC dX12_levelOf_7 0 rfl ?_
  refine U_getR hC fl_X12_26 dX12_levelOf_8 hq (fun v3 hq => ?_)
  refine V_iload_n hC dX12_levelOf_11 1 rfl ?_
  refine U_ldI hC dX12_levelOf_12 hq (fun v4 hq => ?_)
  refine V_aload_n hC dX12_levelOf_13 0 rfl ?_
  refine U_getR hC fl_X12_29 dX12_levelOf_14 hq (fun v5 hq => ?_)
  refine V_iload_n hC dX12_levelOf_17 1 rfl ?_
  refine U_ldI hC dX12_levelOf_18 hq (fun v6 hq => ?_)
  obtain ⟨hz, hq⟩ := hq
  refine clV_X12_lossOf hG hC sv_X12_146 ⟨by decide, by decide⟩ (Nat.le_of_ble_eq_true rfl) ⟨by decide, by decide⟩ dX12_levelOf_19 hz hq (fun r7 hq => ?_)
  show V G Γ 2 0 0 h0 22 [(0, .ref p0), (1, .int p1)] [.int r7, .int v2]
  refine V_isub hC dX12_levelOf_22 ?_
  exact V_iret hC hQ rfl rfl ⟨by decide, by decide⟩ dX12_levelOf_23 ⟨_, rfl, rfl, hq⟩
theorem clV_X12_levelOf {G : Gx} (hG : GOK G) {Γ : Cx} {own : String} {cc : ByteArray} {nL fr lo mc ms cells slots pc : Nat} {hh : List (Nat × Nat × Nat × Nat)} {h : hw} {L : List (Nat × Value)} {rest : List Value} (hC : COK G Γ own cc nL fr lo mc ms hh) {idx : Nat} (hs : SV own idx yX12_levelOf cX12_levelOf 2 (some .int) 1) {p0 : Nat} {p1 : Int32} (hR : 3 + 1 ≤ fr ∧ 8 + (2 + 11) + 94 ≤ lo) (hw8 : (rest.map fun v => v.category).sum ≤ 8) (hcs : cells + 0 ≤ mc ∧ slots + 0 ≤ ms) (hdg : decode cc pc = .ok (.invokevirtual idx, 3)) (ho : isO h p0 12) {post : Int32 → Prop} (hq : wp_X12_levelOf G p0 p1 h post) (kk : ∀ (r : Int32) , post r → V G Γ nL (cells + 0) (slots + 0) h (pc + 3) L (.int r :: rest)) : V G Γ nL cells slots h pc L (.int p1 :: .ref p0 :: rest) :=
  V_callV (As := [.int p1]) (r9 := (RX12, TX12, 36)) hC (ct_X12_levelOf hG p0 p1 h post hq) hs ho rfl rfl rfl hR hw8 hcs hdg (fun E h1 z => z.elim) (fun v h1 z => by obtain ⟨r, rfl, rfl, hz⟩ := z; exact kk r hz)
set_option maxRecDepth 100000 in
set_option maxHeartbeats 4000000 in
theorem ct_X12_level {G : Gx} (hG : GOK G) (p0 : Nat) (p1 : Int32) (h0 : hw) (post : Int32 → hw → Prop) (hq : wp_X12_level G p0 p1 h0 post) : CT G yX12_level cX12_level 2 (some .int) 4 115 0 0 [.ref p0, .int p1] h0 (fun v h1 => ∃ r : Int32, v = some (.int r) ∧ post r h1) (fun E h1 => False) := by
  refine CT_of hG (by decide) (Nat.le_of_ble_eq_true rfl) (fun Γ hC hQ hN => ?_)
  have hC : COK G Γ "BandplanModel" cX12_level 2 4 115 0 0 [] := hC
  unfold wp_X12_level at hq
  show V G Γ 2 0 0 h0 0 [(0, .ref p0), (1, .int p1)] []
  refine V_aload_n hC dX12_level_0 0 rfl ?_
  refine V_iconst (v := 0) hC dX12_level_1 (by decide) ?_
  refine U_putO hC (by decide) fl_X12_98 fin_X12_0 rfl rfl dX12_level_2 hq (fun h1 hq => ?_)
  refine V_aload_n hC dX12_level_5 0 rfl ?_
  refine V_aload_n hC dX12_level_6 0 rfl ?_
  refine V_iload_n hC dX12_level_7 1 rfl ?_
  obtain ⟨hz, hq⟩ := hq
  refine clV_X12_no hG hC sv_X12_153 ⟨by decide, by decide⟩ (Nat.le_of_ble_eq_true rfl) ⟨by decide, by decide⟩ dX12_level_8 hz hq (fun r2 hq => ?_)
  show V G Γ 2 0 0 h1 11 [(0, .ref p0), (1, .int p1)] [.int r2, .ref p0]
  refine V_iconst (v := 1) hC dX12_level_11 (by decide) ?_
  obtain ⟨hz, hq⟩ := hq
  refine clV_X12_fails hG hC sv_X12_115 ⟨by decide, by decide⟩ (Nat.le_of_ble_eq_true rfl) ⟨by decide, by decide⟩ dX12_level_12 hz hq (fun r3 h4 hq => ?_)
  show V G Γ 2 0 0 h4 15 [(0, .ref p0), (1, .int p1)] [.int r3]
  refine V_if_eq (tgt := 22) hC dX12_level_15 (by decide) (fun hc => ?_) (fun hc => ?_)
  · have hq := hq.1 hc
    refine V_aload_n hC dX12_level_22 0 rfl ?_
    refine V_iload_n hC dX12_level_23 1 rfl ?_
    obtain ⟨hz, hq⟩ := hq
    refine clV_X12_levelOf hG hC sv_X12_156 ⟨by decide, by decide⟩ (Nat.le_of_ble_eq_true rfl) ⟨by decide, by decide⟩ dX12_level_24 hz hq (fun r5 hq => ?_)
    show V G Γ 2 0 0 h4 27 [(0, .ref p0), (1, .int p1)] [.int r5]
    exact V_iret hC hQ rfl rfl ⟨by decide, by decide⟩ dX12_level_27 ⟨_, rfl, hq⟩
  · have hq := hq.2 hc
    refine V_iconst (v := 0) hC dX12_level_18 (by decide) ?_
    refine V_goto (tgt := 27) hC dX12_level_19 (by decide) ?_
    exact V_iret hC hQ rfl rfl ⟨by decide, by decide⟩ dX12_level_27 ⟨_, rfl, hq⟩
theorem clV_X12_level {G : Gx} (hG : GOK G) {Γ : Cx} {own : String} {cc : ByteArray} {nL fr lo mc ms cells slots pc : Nat} {hh : List (Nat × Nat × Nat × Nat)} {h : hw} {L : List (Nat × Value)} {rest : List Value} (hC : COK G Γ own cc nL fr lo mc ms hh) {idx : Nat} (hs : SV own idx yX12_level cX12_level 2 (some .int) 1) {p0 : Nat} {p1 : Int32} (hR : 4 + 1 ≤ fr ∧ 8 + (2 + 11) + 115 ≤ lo) (hw8 : (rest.map fun v => v.category).sum ≤ 8) (hcs : cells + 0 ≤ mc ∧ slots + 0 ≤ ms) (hdg : decode cc pc = .ok (.invokevirtual idx, 3)) (ho : isO h p0 12) {post : Int32 → hw → Prop} (hq : wp_X12_level G p0 p1 h post) (kk : ∀ (r : Int32) (h1 : hw) , post r h1 → V G Γ nL (cells + 0) (slots + 0) h1 (pc + 3) L (.int r :: rest)) : V G Γ nL cells slots h pc L (.int p1 :: .ref p0 :: rest) :=
  V_callV (As := [.int p1]) (r9 := (RX12, TX12, 36)) hC (ct_X12_level hG p0 p1 h post hq) hs ho rfl rfl rfl hR hw8 hcs hdg (fun E h1 z => z.elim) (fun v h1 z => by obtain ⟨r, rfl, hz⟩ := z; exact kk r h1 hz)
set_option maxRecDepth 100000 in
set_option maxHeartbeats 4000000 in
theorem ct_X12_harmBy {G : Gx} (hG : GOK G) (p0 : Nat) (p1 : Int32) (p2 : Int32) (p3 : Int32) (h0 : hw) (post : Int32 → Prop) (hq : wp_X12_harmBy G p0 p1 p2 p3 h0 post) : CT G yX12_harmBy cX12_harmBy 4 (some .int) 3 94 0 0 [.ref p0, .int p1, .int p2, .int p3] h0 (fun v h1 => ∃ r : Int32, v = some (.int r) ∧ h1 = h0 ∧ post r) (fun E h1 => False) := by
  refine CT_of hG (by decide) (Nat.le_of_ble_eq_true rfl) (fun Γ hC hQ hN => ?_)
  have hC : COK G Γ "BandplanModel" cX12_harmBy 4 3 94 0 0 [] := hC
  unfold wp_X12_harmBy at hq
  show V G Γ 4 0 0 h0 0 [(0, .ref p0), (1, .int p1), (2, .int p2), (3, .int p3)] []
  refine V_aload_n hC dX12_harmBy_0 0 rfl ?_
  refine U_getR hC fl_X12_32 dX12_harmBy_1 hq (fun v1 hq => ?_)
  refine V_iload_n hC dX12_harmBy_4 1 rfl ?_
  refine U_ldI hC dX12_harmBy_5 hq (fun v2 hq => ?_)
  refine V_aload_n hC dX12_harmBy_6 0 rfl ?_
  refine V_aload_n hC dX12_harmBy_7 0 rfl ?_
  refine U_getR hC fl_X12_26 dX12_harmBy_8 hq (fun v3 hq => ?_)
  refine V_iload_n hC dX12_harmBy_11 1 rfl ?_
  refine U_ldI hC dX12_harmBy_12 hq (fun v4 hq => ?_)
  refine V_aload_n hC dX12_harmBy_13 0 rfl ?_
  refine U_getR hC fl_X12_29 dX12_harmBy_14 hq (fun v5 hq => ?_)
  refine V_iload_n hC dX12_harmBy_17 2 rfl ?_
  refine U_ldI hC dX12_harmBy_18 hq (fun v6 hq => ?_)
  obtain ⟨hz, hq⟩ := hq
  refine clV_X12_lossOf hG hC sv_X12_146 ⟨by decide, by decide⟩ (Nat.le_of_ble_eq_true rfl) ⟨by decide, by decide⟩ dX12_harmBy_19 hz hq (fun r7 hq => ?_)
  show V G Γ 4 0 0 h0 22 [(0, .ref p0), (1, .int p1), (2, .int p2), (3, .int p3)] [.int r7, .int v2]
  refine V_isub hC dX12_harmBy_22 ?_
  refine V_iload_n hC dX12_harmBy_23 3 rfl ?_
  refine V_if_ne (tgt := 31) hC dX12_harmBy_24 (by decide) (fun hc => ?_) (fun hc => ?_)
  · have hq := hq.1 hc
    refine V_iload_n hC dX12_harmBy_31 3 rfl ?_
    refine V_iconst (v := 1) hC dX12_harmBy_32 (by decide) ?_
    refine V_icmp_ne (tgt := 42) hC dX12_harmBy_33 (by decide) (fun hc => ?_) (fun hc => ?_)
    · have hq := hq.1 hc
      refine V_sipush (v := 500) hC dX12_harmBy_42 (by decide) ?_
      refine V_isub hC dX12_harmBy_45 ?_
      exact V_iret hC hQ rfl rfl ⟨by decide, by decide⟩ dX12_harmBy_46 ⟨_, rfl, rfl, hq⟩
    · have hq := hq.2 hc
      refine V_sipush (v := 300) hC dX12_harmBy_36 (by decide) ?_
      refine V_goto (tgt := 45) hC dX12_harmBy_39 (by decide) ?_
      refine V_isub hC dX12_harmBy_45 ?_
      exact V_iret hC hQ rfl rfl ⟨by decide, by decide⟩ dX12_harmBy_46 ⟨_, rfl, rfl, hq⟩
  · have hq := hq.2 hc
    refine V_iconst (v := 0) hC dX12_harmBy_27 (by decide) ?_
    refine V_goto (tgt := 45) hC dX12_harmBy_28 (by decide) ?_
    refine V_isub hC dX12_harmBy_45 ?_
    exact V_iret hC hQ rfl rfl ⟨by decide, by decide⟩ dX12_harmBy_46 ⟨_, rfl, rfl, hq⟩
theorem clV_X12_harmBy {G : Gx} (hG : GOK G) {Γ : Cx} {own : String} {cc : ByteArray} {nL fr lo mc ms cells slots pc : Nat} {hh : List (Nat × Nat × Nat × Nat)} {h : hw} {L : List (Nat × Value)} {rest : List Value} (hC : COK G Γ own cc nL fr lo mc ms hh) {idx : Nat} (hs : SV own idx yX12_harmBy cX12_harmBy 4 (some .int) 3) {p0 : Nat} {p1 : Int32} {p2 : Int32} {p3 : Int32} (hR : 3 + 1 ≤ fr ∧ 8 + (4 + 11) + 94 ≤ lo) (hw8 : (rest.map fun v => v.category).sum ≤ 8) (hcs : cells + 0 ≤ mc ∧ slots + 0 ≤ ms) (hdg : decode cc pc = .ok (.invokevirtual idx, 3)) (ho : isO h p0 12) {post : Int32 → Prop} (hq : wp_X12_harmBy G p0 p1 p2 p3 h post) (kk : ∀ (r : Int32) , post r → V G Γ nL (cells + 0) (slots + 0) h (pc + 3) L (.int r :: rest)) : V G Γ nL cells slots h pc L (.int p3 :: .int p2 :: .int p1 :: .ref p0 :: rest) :=
  V_callV (As := [.int p1, .int p2, .int p3]) (r9 := (RX12, TX12, 36)) hC (ct_X12_harmBy hG p0 p1 p2 p3 h post hq) hs ho rfl rfl rfl hR hw8 hcs hdg (fun E h1 z => z.elim) (fun v h1 z => by obtain ⟨r, rfl, rfl, hz⟩ := z; exact kk r hz)
set_option maxRecDepth 100000 in
set_option maxHeartbeats 4000000 in
theorem ct_X12_harms {G : Gx} (hG : GOK G) (p0 : Nat) (p1 : Int32) (p2 : Int32) (h0 : hw) (post : Int32 → Prop) (hq : wp_X12_harms G p0 p1 p2 h0 post) : CT G yX12_harms cX12_harms 3 (some .boolean) 2 60 0 0 [.ref p0, .int p1, .int p2] h0 (fun v h1 => ∃ r : Int32, v = some (.int r) ∧ h1 = h0 ∧ post r) (fun E h1 => False) := by
  refine CT_of hG (by decide) (Nat.le_of_ble_eq_true rfl) (fun Γ hC hQ hN => ?_)
  have hC : COK G Γ "BandplanModel" cX12_harms 3 2 60 0 0 [] := hC
  unfold wp_X12_harms at hq
  show V G Γ 3 0 0 h0 0 [(0, .ref p0), (1, .int p1), (2, .int p2)] []
  refine V_iload_n hC dX12_harms_0 1 rfl ?_
  refine V_iload_n hC dX12_harms_1 2 rfl ?_
  have hq := hq (V G Γ 3 0 0 h0 39 [] []) (by
    intro hq
    show V G Γ 3 0 0 h0 39 [] []
    refine V_iconst (v := 0) hC dX12_harms_39 (by decide) ?_
    exact V_iret hC hQ rfl rfl ⟨by decide, by decide⟩ dX12_harms_40 ⟨_, rfl, rfl, hq⟩)
  refine V_icmp_eq (tgt := 39) hC dX12_harms_2 (by decide) (fun hc => ?_) (fun hc => ?_)
  · have hq := hq.1 hc
    refine V_sub [] rfl ?_
    exact hq
  · have hq := hq.2 hc
    refine V_aload_n hC dX12_harms_5 0 rfl ?_
    refine U_getR hC fl_X12_39 dX12_harms_6 hq (fun v1 hq => ?_)
    refine V_iload_n hC dX12_harms_9 1 rfl ?_
    refine U_ldI hC dX12_harms_10 hq (fun v2 hq => ?_)
    refine V_iconst (v := (-1)) hC dX12_harms_11 (by decide) ?_
    refine V_icmp_eq (tgt := 39) hC dX12_harms_12 (by decide) (fun hc => ?_) (fun hc => ?_)
    · have hq := hq.1 hc
      refine V_sub [] rfl ?_
      exact hq
    · have hq := hq.2 hc
      refine V_aload_n hC dX12_harms_15 0 rfl ?_
      refine U_getR hC fl_X12_39 dX12_harms_16 hq (fun v3 hq => ?_)
      refine V_iload_n hC dX12_harms_19 1 rfl ?_
      refine U_ldI hC dX12_harms_20 hq (fun v4 hq => ?_)
      refine V_aload_n hC dX12_harms_21 0 rfl ?_
      refine U_getR hC fl_X12_39 dX12_harms_22 hq (fun v5 hq => ?_)
      refine V_iload_n hC dX12_harms_25 2 rfl ?_
      refine U_ldI hC dX12_harms_26 hq (fun v6 hq => ?_)
      refine V_isub hC dX12_harms_27 ?_
      refine V_abs hC sm_X12_132 (by decide) (Nat.le_of_ble_eq_true rfl) (by decide) (by decide) dX12_harms_28 ?_
      refine V_iconst (v := 2) hC dX12_harms_31 (by decide) ?_
      refine V_icmp_gt (tgt := 39) hC dX12_harms_32 (by decide) (fun hc => ?_) (fun hc => ?_)
      · have hq := hq.1 hc
        refine V_sub [] rfl ?_
        exact hq
      · have hq := hq.2 hc
        refine V_iconst (v := 1) hC dX12_harms_35 (by decide) ?_
        refine V_goto (tgt := 40) hC dX12_harms_36 (by decide) ?_
        exact V_iret hC hQ rfl rfl ⟨by decide, by decide⟩ dX12_harms_40 ⟨_, rfl, rfl, hq⟩
theorem clV_X12_harms {G : Gx} (hG : GOK G) {Γ : Cx} {own : String} {cc : ByteArray} {nL fr lo mc ms cells slots pc : Nat} {hh : List (Nat × Nat × Nat × Nat)} {h : hw} {L : List (Nat × Value)} {rest : List Value} (hC : COK G Γ own cc nL fr lo mc ms hh) {idx : Nat} (hs : SV own idx yX12_harms cX12_harms 3 (some .boolean) 2) {p0 : Nat} {p1 : Int32} {p2 : Int32} (hR : 2 + 1 ≤ fr ∧ 8 + (3 + 11) + 60 ≤ lo) (hw8 : (rest.map fun v => v.category).sum ≤ 8) (hcs : cells + 0 ≤ mc ∧ slots + 0 ≤ ms) (hdg : decode cc pc = .ok (.invokevirtual idx, 3)) (ho : isO h p0 12) {post : Int32 → Prop} (hq : wp_X12_harms G p0 p1 p2 h post) (kk : ∀ (r : Int32) , post r → V G Γ nL (cells + 0) (slots + 0) h (pc + 3) L (.int r :: rest)) : V G Γ nL cells slots h pc L (.int p2 :: .int p1 :: .ref p0 :: rest) :=
  V_callV (As := [.int p1, .int p2]) (r9 := (RX12, TX12, 36)) hC (ct_X12_harms hG p0 p1 p2 h post hq) hs ho rfl rfl rfl hR hw8 hcs hdg (fun E h1 z => z.elim) (fun v h1 z => by obtain ⟨r, rfl, rfl, hz⟩ := z; exact kk r hz)
set_option maxRecDepth 100000 in
set_option maxHeartbeats 4000000 in
theorem ct_X12_isHarmed {G : Gx} (hG : GOK G) (p0 : Nat) (p1 : Int32) (h0 : hw) (post : Int32 → Prop) (hq : wp_X12_isHarmed G p0 p1 h0 post) : CT G yX12_isHarmed cX12_isHarmed 4 (some .boolean) 3 82 0 0 [.ref p0, .int p1] h0 (fun v h1 => ∃ r : Int32, v = some (.int r) ∧ h1 = h0 ∧ post r) (fun E h1 => False) := by
  refine CT_of hG (by decide) (Nat.le_of_ble_eq_true rfl) (fun Γ hC hQ hN => ?_)
  have hC : COK G Γ "BandplanModel" cX12_isHarmed 4 3 82 0 0 [] := hC
  unfold wp_X12_isHarmed at hq
  show V G Γ 4 0 0 h0 0 [(0, .ref p0), (1, .int p1)] []
  refine V_iconst (v := 0) hC dX12_isHarmed_0 (by decide) ?_
  refine V_istore_n (L' := [(0, .ref p0), (1, .int p1), (2, .int 0)]) hC dX12_isHarmed_1 rfl (by decide) [1, 2, 0] rfl ?_
  refine V_iconst (v := 0) hC dX12_isHarmed_2 (by decide) ?_
  refine V_istore_n (L' := [(0, .ref p0), (1, .int p1), (2, .int 0), (3, .int 0)]) hC dX12_isHarmed_3 rfl (by decide) [1, 2, 3, 0] rfl ?_
  have hq := hq (fun (x2_1 : Int32) (x3_2 : Int32) => V G Γ 4 0 0 h0 4 [(0, .ref p0), (1, .int p1), (2, .int x2_1), (3, .int x3_2)] []) (by
    intro x2_1 x3_2 hq
    show V G Γ 4 0 0 h0 4 [(0, .ref p0), (1, .int p1), (2, .int x2_1), (3, .int x3_2)] []
    refine V_iload_n hC dX12_isHarmed_4 3 rfl ?_
    refine V_aload_n hC dX12_isHarmed_5 0 rfl ?_
    refine U_getI hC fl_X12_108 dX12_isHarmed_6 hq (fun v3 hq => ?_)
    refine V_icmp_ge (tgt := 37) hC dX12_isHarmed_9 (by decide) (fun hc => ?_) (fun hc => ?_)
    · have hq := hq.1 hc
      refine V_iload_n hC dX12_isHarmed_37 2 rfl ?_
      obtain ⟨hz, hq⟩ := hq
      exact V_iret hC hQ rfl (nar_b hz) ⟨by decide, by decide⟩ dX12_isHarmed_38 ⟨_, rfl, rfl, hq⟩
    · have hq := hq.2 hc
      refine V_iload_n hC dX12_isHarmed_12 2 rfl ?_
      have hq := hq (fun (t4 : Int32) => V G Γ 4 0 0 h0 30 [(0, .ref p0), (1, .int p1), (3, .int x3_2)] [.int t4]) (by
        intro t4 hq
        show V G Γ 4 0 0 h0 30 [(0, .ref p0), (1, .int p1), (3, .int x3_2)] [.int t4]
        refine V_istore_n (L' := [(0, .ref p0), (1, .int p1), (2, .int t4), (3, .int x3_2)]) hC dX12_isHarmed_30 rfl (by decide) [1, 2, 0, 3] rfl ?_
        refine V_iinc (j := 3) (v := (x3_2 + 1)) (L' := [(0, .ref p0), (1, .int p1), (2, .int t4), (3, .int (x3_2 + 1))]) hC dX12_isHarmed_31 rfl rfl (by decide) [1, 2, 3, 0] rfl ?_
        refine V_goto (tgt := 4) hC dX12_isHarmed_34 (by decide) ?_
        exact hq)
      have hq := hq (V G Γ 4 0 0 h0 25 [(0, .ref p0), (1, .int p1), (3, .int x3_2)] []) (by
        intro hq
        show V G Γ 4 0 0 h0 25 [(0, .ref p0), (1, .int p1), (3, .int x3_2)] []
        refine V_iconst (v := 1) hC dX12_isHarmed_25 (by decide) ?_
        refine V_goto (tgt := 30) hC dX12_isHarmed_26 (by decide) ?_
        exact hq)
      refine V_if_ne (tgt := 25) hC dX12_isHarmed_13 (by decide) (fun hc => ?_) (fun hc => ?_)
      · have hq := hq.1 hc
        refine V_sub [0, 1, 3] rfl ?_
        exact hq
      · have hq := hq.2 hc
        refine V_aload_n hC dX12_isHarmed_16 0 rfl ?_
        refine V_iload_n hC dX12_isHarmed_17 3 rfl ?_
        refine V_iload_n hC dX12_isHarmed_18 1 rfl ?_
        obtain ⟨hz, hq⟩ := hq
        refine clV_X12_harms hG hC sv_X12_159 ⟨by decide, by decide⟩ (Nat.le_of_ble_eq_true rfl) ⟨by decide, by decide⟩ dX12_isHarmed_19 hz hq (fun r5 hq => ?_)
        show V G Γ 4 0 0 h0 22 [(0, .ref p0), (1, .int p1), (2, .int x2_1), (3, .int x3_2)] [.int r5]
        refine V_if_eq (tgt := 29) hC dX12_isHarmed_22 (by decide) (fun hc => ?_) (fun hc => ?_)
        · have hq := hq.1 hc
          refine V_iconst (v := 0) hC dX12_isHarmed_29 (by decide) ?_
          refine V_sub [0, 1, 3] rfl ?_
          exact hq
        · have hq := hq.2 hc
          refine V_sub [0, 1, 3] rfl ?_
          exact hq)
  exact hq
theorem clV_X12_isHarmed {G : Gx} (hG : GOK G) {Γ : Cx} {own : String} {cc : ByteArray} {nL fr lo mc ms cells slots pc : Nat} {hh : List (Nat × Nat × Nat × Nat)} {h : hw} {L : List (Nat × Value)} {rest : List Value} (hC : COK G Γ own cc nL fr lo mc ms hh) {idx : Nat} (hs : SV own idx yX12_isHarmed cX12_isHarmed 4 (some .boolean) 1) {p0 : Nat} {p1 : Int32} (hR : 3 + 1 ≤ fr ∧ 8 + (4 + 11) + 82 ≤ lo) (hw8 : (rest.map fun v => v.category).sum ≤ 8) (hcs : cells + 0 ≤ mc ∧ slots + 0 ≤ ms) (hdg : decode cc pc = .ok (.invokevirtual idx, 3)) (ho : isO h p0 12) {post : Int32 → Prop} (hq : wp_X12_isHarmed G p0 p1 h post) (kk : ∀ (r : Int32) , post r → V G Γ nL (cells + 0) (slots + 0) h (pc + 3) L (.int r :: rest)) : V G Γ nL cells slots h pc L (.int p1 :: .ref p0 :: rest) :=
  V_callV (As := [.int p1]) (r9 := (RX12, TX12, 36)) hC (ct_X12_isHarmed hG p0 p1 h post hq) hs ho rfl rfl rfl hR hw8 hcs hdg (fun E h1 z => z.elim) (fun v h1 z => by obtain ⟨r, rfl, rfl, hz⟩ := z; exact kk r hz)
set_option maxRecDepth 100000 in
set_option maxHeartbeats 4000000 in
theorem ct_X12_harmOf {G : Gx} (hG : GOK G) (p0 : Nat) (p1 : Int32) (h0 : hw) (post : Int32 → Prop) (hq : wp_X12_harmOf G p0 p1 h0 post) : CT G yX12_harmOf cX12_harmOf 6 (some .int) 4 117 0 0 [.ref p0, .int p1] h0 (fun v h1 => ∃ r : Int32, v = some (.int r) ∧ h1 = h0 ∧ post r) (fun E h1 => False) := by
  refine CT_of hG (by decide) (Nat.le_of_ble_eq_true rfl) (fun Γ hC hQ hN => ?_)
  have hC : COK G Γ "BandplanModel" cX12_harmOf 6 4 117 0 0 [] := hC
  unfold wp_X12_harmOf at hq
  show V G Γ 6 0 0 h0 0 [(0, .ref p0), (1, .int p1)] []
  refine V_iconst (v := 1) hC dX12_harmOf_0 (by decide) ?_
  refine V_istore_n (L' := [(0, .ref p0), (1, .int p1), (2, .int 1)]) hC dX12_harmOf_1 rfl (by decide) [1, 2, 0] rfl ?_
  refine V_iconst (v := 0) hC dX12_harmOf_2 (by decide) ?_
  refine V_istore_n (L' := [(0, .ref p0), (1, .int p1), (2, .int 1), (3, .int 0)]) hC dX12_harmOf_3 rfl (by decide) [1, 2, 3, 0] rfl ?_
  refine V_iconst (v := 0) hC dX12_harmOf_4 (by decide) ?_
  refine V_istore (L' := [(0, .ref p0), (1, .int p1), (2, .int 1), (3, .int 0), (4, .int 0)]) hC dX12_harmOf_5 (by decide) [1, 2, 3, 4, 0] rfl ?_
  have hq := hq (fun (x2_1 : Int32) (x3_2 : Int32) (x4_3 : Int32) => V G Γ 6 0 0 h0 7 [(0, .ref p0), (1, .int p1), (2, .int x2_1), (3, .int x3_2), (4, .int x4_3)] []) (by
    intro x2_1 x3_2 x4_3 hq
    show V G Γ 6 0 0 h0 7 [(0, .ref p0), (1, .int p1), (2, .int x2_1), (3, .int x3_2), (4, .int x4_3)] []
    refine V_iload hC dX12_harmOf_7 4 rfl ?_
    refine V_aload_n hC dX12_harmOf_9 0 rfl ?_
    refine U_getI hC fl_X12_108 dX12_harmOf_10 hq (fun v4 hq => ?_)
    refine V_icmp_ge (tgt := 93) hC dX12_harmOf_13 (by decide) (fun hc => ?_) (fun hc => ?_)
    · have hq := hq.1 hc
      refine V_iload_n hC dX12_harmOf_93 3 rfl ?_
      exact V_iret hC hQ rfl rfl ⟨by decide, by decide⟩ dX12_harmOf_94 ⟨_, rfl, rfl, hq⟩
    · have hq := hq.2 hc
      refine V_aload_n hC dX12_harmOf_16 0 rfl ?_
      refine V_iload hC dX12_harmOf_17 4 rfl ?_
      refine V_iload_n hC dX12_harmOf_19 1 rfl ?_
      obtain ⟨hz, hq⟩ := hq
      refine clV_X12_harms hG hC sv_X12_159 ⟨by decide, by decide⟩ (Nat.le_of_ble_eq_true rfl) ⟨by decide, by decide⟩ dX12_harmOf_20 hz hq (fun r5 hq => ?_)
      show V G Γ 6 0 0 h0 23 [(0, .ref p0), (1, .int p1), (2, .int x2_1), (3, .int x3_2), (4, .int x4_3)] [.int r5]
      have hq := hq (fun (x2_6 : Int32) (x3_7 : Int32) => V G Γ 6 0 0 h0 87 [(0, .ref p0), (1, .int p1), (2, .int x2_6), (3, .int x3_7), (4, .int x4_3)] []) (by
        intro x2_6 x3_7 hq
        show V G Γ 6 0 0 h0 87 [(0, .ref p0), (1, .int p1), (2, .int x2_6), (3, .int x3_7), (4, .int x4_3)] []
        refine V_iinc (j := 4) (v := (x4_3 + 1)) (L' := [(0, .ref p0), (1, .int p1), (2, .int x2_6), (3, .int x3_7), (4, .int (x4_3 + 1))]) hC dX12_harmOf_87 rfl rfl (by decide) [1, 2, 3, 4, 0] rfl ?_
        refine V_goto (tgt := 7) hC dX12_harmOf_90 (by decide) ?_
        exact hq)
      refine V_if_eq (tgt := 87) hC dX12_harmOf_23 (by decide) (fun hc => ?_) (fun hc => ?_)
      · have hq := hq.1 hc
        exact hq
      · have hq := hq.2 hc
        refine V_aload_n hC dX12_harmOf_26 0 rfl ?_
        refine V_iload hC dX12_harmOf_27 4 rfl ?_
        refine V_iload_n hC dX12_harmOf_29 1 rfl ?_
        refine V_aload_n hC dX12_harmOf_30 0 rfl ?_
        refine U_getR hC fl_X12_39 dX12_harmOf_31 hq (fun v8 hq => ?_)
        refine V_iload hC dX12_harmOf_34 4 rfl ?_
        refine U_ldI hC dX12_harmOf_36 hq (fun v9 hq => ?_)
        refine V_aload_n hC dX12_harmOf_37 0 rfl ?_
        refine U_getR hC fl_X12_39 dX12_harmOf_38 hq (fun v10 hq => ?_)
        refine V_iload_n hC dX12_harmOf_41 1 rfl ?_
        refine U_ldI hC dX12_harmOf_42 hq (fun v11 hq => ?_)
        refine V_isub hC dX12_harmOf_43 ?_
        refine V_abs hC sm_X12_132 (by decide) (Nat.le_of_ble_eq_true rfl) (by decide) (by decide) dX12_harmOf_44 ?_
        obtain ⟨hz, hq⟩ := hq
        refine clV_X12_harmBy hG hC sv_X12_162 ⟨by decide, by decide⟩ (Nat.le_of_ble_eq_true rfl) ⟨by decide, by decide⟩ dX12_harmOf_47 hz hq (fun r12 hq => ?_)
        show V G Γ 6 0 0 h0 50 [(0, .ref p0), (1, .int p1), (2, .int x2_1), (3, .int x3_2), (4, .int x4_3)] [.int r12]
        refine V_istore (L' := [(0, .ref p0), (1, .int p1), (2, .int x2_1), (3, .int x3_2), (4, .int x4_3), (5, .int r12)]) hC dX12_harmOf_50 (by decide) [1, 2, 3, 4, 5, 0] rfl ?_
        refine V_iload_n hC dX12_harmOf_52 2 rfl ?_
        have hq := hq (fun (t13 : Int32) => V G Γ 6 0 0 h0 84 [(0, .ref p0), (1, .int p1), (4, .int x4_3)] [.int t13]) (by
          intro t13 hq
          show V G Γ 6 0 0 h0 84 [(0, .ref p0), (1, .int p1), (4, .int x4_3)] [.int t13]
          refine V_istore_n (L' := [(0, .ref p0), (1, .int p1), (3, .int t13), (4, .int x4_3)]) hC dX12_harmOf_84 rfl (by decide) [1, 2, 0, 3] rfl ?_
          refine V_iconst (v := 0) hC dX12_harmOf_85 (by decide) ?_
          refine V_istore_n (L' := [(0, .ref p0), (1, .int p1), (2, .int 0), (3, .int t13), (4, .int x4_3)]) hC dX12_harmOf_86 rfl (by decide) [1, 2, 0, 3, 4] rfl ?_
          exact hq)
        refine V_if_eq (tgt := 61) hC dX12_harmOf_53 (by decide) (fun hc => ?_) (fun hc => ?_)
        · have hq := hq.1 hc
          refine V_iload_n hC dX12_harmOf_61 3 rfl ?_
          refine V_iload hC dX12_harmOf_62 5 rfl ?_
          refine V_max hC sm_X12_129 (by decide) (Nat.le_of_ble_eq_true rfl) (by decide) (by decide) dX12_harmOf_64 ?_
          refine V_iconst (v := 0) hC dX12_harmOf_67 (by decide) ?_
          refine V_bipush (v := 30) hC dX12_harmOf_68 (by decide) ?_
          refine V_iload_n hC dX12_harmOf_70 3 rfl ?_
          refine V_iload hC dX12_harmOf_71 5 rfl ?_
          refine V_isub hC dX12_harmOf_73 ?_
          refine V_abs hC sm_X12_132 (by decide) (Nat.le_of_ble_eq_true rfl) (by decide) (by decide) dX12_harmOf_74 ?_
          refine V_iconst (v := 4) hC dX12_harmOf_77 (by decide) ?_
          obtain ⟨hz, hq⟩ := hq
          refine V_idiv hC dX12_harmOf_78 hz ?_
          refine V_isub hC dX12_harmOf_79 ?_
          refine V_max hC sm_X12_129 (by decide) (Nat.le_of_ble_eq_true rfl) (by decide) (by decide) dX12_harmOf_80 ?_
          refine V_iadd hC dX12_harmOf_83 ?_
          refine V_sub [0, 1, 4] rfl ?_
          exact hq
        · have hq := hq.2 hc
          refine V_iload hC dX12_harmOf_56 5 rfl ?_
          refine V_goto (tgt := 84) hC dX12_harmOf_58 (by decide) ?_
          refine V_sub [0, 1, 4] rfl ?_
          exact hq)
  exact hq
theorem clV_X12_harmOf {G : Gx} (hG : GOK G) {Γ : Cx} {own : String} {cc : ByteArray} {nL fr lo mc ms cells slots pc : Nat} {hh : List (Nat × Nat × Nat × Nat)} {h : hw} {L : List (Nat × Value)} {rest : List Value} (hC : COK G Γ own cc nL fr lo mc ms hh) {idx : Nat} (hs : SV own idx yX12_harmOf cX12_harmOf 6 (some .int) 1) {p0 : Nat} {p1 : Int32} (hR : 4 + 1 ≤ fr ∧ 8 + (6 + 11) + 117 ≤ lo) (hw8 : (rest.map fun v => v.category).sum ≤ 8) (hcs : cells + 0 ≤ mc ∧ slots + 0 ≤ ms) (hdg : decode cc pc = .ok (.invokevirtual idx, 3)) (ho : isO h p0 12) {post : Int32 → Prop} (hq : wp_X12_harmOf G p0 p1 h post) (kk : ∀ (r : Int32) , post r → V G Γ nL (cells + 0) (slots + 0) h (pc + 3) L (.int r :: rest)) : V G Γ nL cells slots h pc L (.int p1 :: .ref p0 :: rest) :=
  V_callV (As := [.int p1]) (r9 := (RX12, TX12, 36)) hC (ct_X12_harmOf hG p0 p1 h post hq) hs ho rfl rfl rfl hR hw8 hcs hdg (fun E h1 z => z.elim) (fun v h1 z => by obtain ⟨r, rfl, rfl, hz⟩ := z; exact kk r hz)
set_option maxRecDepth 100000 in
set_option maxHeartbeats 4000000 in
theorem ct_X12_keepsLevel {G : Gx} (hG : GOK G) (p0 : Nat) (p1 : Int32) (h0 : hw) (post : Int32 → Prop) (hq : wp_X12_keepsLevel G p0 p1 h0 post) : CT G yX12_keepsLevel cX12_keepsLevel 2 (some .boolean) 5 142 0 0 [.ref p0, .int p1] h0 (fun v h1 => ∃ r : Int32, v = some (.int r) ∧ h1 = h0 ∧ post r) (fun E h1 => False) := by
  refine CT_of hG (by decide) (Nat.le_of_ble_eq_true rfl) (fun Γ hC hQ hN => ?_)
  have hC : COK G Γ "BandplanModel" cX12_keepsLevel 2 5 142 0 0 [] := hC
  unfold wp_X12_keepsLevel at hq
  show V G Γ 2 0 0 h0 0 [(0, .ref p0), (1, .int p1)] []
  refine V_aload_n hC dX12_keepsLevel_0 0 rfl ?_
  refine V_iload_n hC dX12_keepsLevel_1 1 rfl ?_
  obtain ⟨hz, hq⟩ := hq
  refine clV_X12_isHarmed hG hC sv_X12_166 ⟨by decide, by decide⟩ (Nat.le_of_ble_eq_true rfl) ⟨by decide, by decide⟩ dX12_keepsLevel_2 hz hq (fun r1 hq => ?_)
  show V G Γ 2 0 0 h0 5 [(0, .ref p0), (1, .int p1)] [.int r1]
  have hq := hq (V G Γ 2 0 0 h0 26 [] []) (by
    intro hq
    show V G Γ 2 0 0 h0 26 [] []
    refine V_iconst (v := 1) hC dX12_keepsLevel_26 (by decide) ?_
    refine V_goto (tgt := 31) hC dX12_keepsLevel_27 (by decide) ?_
    exact V_iret hC hQ rfl rfl ⟨by decide, by decide⟩ dX12_keepsLevel_31 ⟨_, rfl, rfl, hq⟩)
  refine V_if_eq (tgt := 26) hC dX12_keepsLevel_5 (by decide) (fun hc => ?_) (fun hc => ?_)
  · have hq := hq.1 hc
    refine V_sub [] rfl ?_
    exact hq
  · have hq := hq.2 hc
    refine V_aload_n hC dX12_keepsLevel_8 0 rfl ?_
    refine V_iload_n hC dX12_keepsLevel_9 1 rfl ?_
    obtain ⟨hz, hq⟩ := hq
    refine clV_X12_levelOf hG hC sv_X12_156 ⟨by decide, by decide⟩ (Nat.le_of_ble_eq_true rfl) ⟨by decide, by decide⟩ dX12_keepsLevel_10 hz hq (fun r2 hq => ?_)
    show V G Γ 2 0 0 h0 13 [(0, .ref p0), (1, .int p1)] [.int r2]
    refine V_aload_n hC dX12_keepsLevel_13 0 rfl ?_
    refine V_iload_n hC dX12_keepsLevel_14 1 rfl ?_
    obtain ⟨hz, hq⟩ := hq
    refine clV_X12_harmOf hG hC sv_X12_169 ⟨by decide, by decide⟩ (Nat.le_of_ble_eq_true rfl) ⟨by decide, by decide⟩ dX12_keepsLevel_15 hz hq (fun r3 hq => ?_)
    show V G Γ 2 0 0 h0 18 [(0, .ref p0), (1, .int p1)] [.int r3, .int r2]
    refine V_isub hC dX12_keepsLevel_18 ?_
    refine V_aload_n hC dX12_keepsLevel_19 0 rfl ?_
    refine U_getI hC fl_X12_7 dX12_keepsLevel_20 hq (fun v4 hq => ?_)
    refine V_icmp_lt (tgt := 30) hC dX12_keepsLevel_23 (by decide) (fun hc => ?_) (fun hc => ?_)
    · have hq := hq.1 hc
      refine V_iconst (v := 0) hC dX12_keepsLevel_30 (by decide) ?_
      exact V_iret hC hQ rfl rfl ⟨by decide, by decide⟩ dX12_keepsLevel_31 ⟨_, rfl, rfl, hq⟩
    · have hq := hq.2 hc
      refine V_sub [] rfl ?_
      exact hq
theorem clV_X12_keepsLevel {G : Gx} (hG : GOK G) {Γ : Cx} {own : String} {cc : ByteArray} {nL fr lo mc ms cells slots pc : Nat} {hh : List (Nat × Nat × Nat × Nat)} {h : hw} {L : List (Nat × Value)} {rest : List Value} (hC : COK G Γ own cc nL fr lo mc ms hh) {idx : Nat} (hs : SV own idx yX12_keepsLevel cX12_keepsLevel 2 (some .boolean) 1) {p0 : Nat} {p1 : Int32} (hR : 5 + 1 ≤ fr ∧ 8 + (2 + 11) + 142 ≤ lo) (hw8 : (rest.map fun v => v.category).sum ≤ 8) (hcs : cells + 0 ≤ mc ∧ slots + 0 ≤ ms) (hdg : decode cc pc = .ok (.invokevirtual idx, 3)) (ho : isO h p0 12) {post : Int32 → Prop} (hq : wp_X12_keepsLevel G p0 p1 h post) (kk : ∀ (r : Int32) , post r → V G Γ nL (cells + 0) (slots + 0) h (pc + 3) L (.int r :: rest)) : V G Γ nL cells slots h pc L (.int p1 :: .ref p0 :: rest) :=
  V_callV (As := [.int p1]) (r9 := (RX12, TX12, 36)) hC (ct_X12_keepsLevel hG p0 p1 h post hq) hs ho rfl rfl rfl hR hw8 hcs hdg (fun E h1 z => z.elim) (fun v h1 z => by obtain ⟨r, rfl, rfl, hz⟩ := z; exact kk r hz)
set_option maxRecDepth 100000 in
set_option maxHeartbeats 4000000 in
theorem ct_X12_harm {G : Gx} (hG : GOK G) (p0 : Nat) (p1 : Int32) (h0 : hw) (post : Int32 → hw → Prop) (hq : wp_X12_harm G p0 p1 h0 post) : CT G yX12_harm cX12_harm 2 (some .int) 5 142 0 0 [.ref p0, .int p1] h0 (fun v h1 => ∃ r : Int32, v = some (.int r) ∧ post r h1) (fun E h1 => False) := by
  refine CT_of hG (by decide) (Nat.le_of_ble_eq_true rfl) (fun Γ hC hQ hN => ?_)
  have hC : COK G Γ "BandplanModel" cX12_harm 2 5 142 0 0 [] := hC
  unfold wp_X12_harm at hq
  show V G Γ 2 0 0 h0 0 [(0, .ref p0), (1, .int p1)] []
  refine V_aload_n hC dX12_harm_0 0 rfl ?_
  refine V_iconst (v := 0) hC dX12_harm_1 (by decide) ?_
  refine U_putO hC (by decide) fl_X12_98 fin_X12_0 rfl rfl dX12_harm_2 hq (fun h1 hq => ?_)
  refine V_aload_n hC dX12_harm_5 0 rfl ?_
  refine V_aload_n hC dX12_harm_6 0 rfl ?_
  refine V_iload_n hC dX12_harm_7 1 rfl ?_
  obtain ⟨hz, hq⟩ := hq
  refine clV_X12_no hG hC sv_X12_153 ⟨by decide, by decide⟩ (Nat.le_of_ble_eq_true rfl) ⟨by decide, by decide⟩ dX12_harm_8 hz hq (fun r2 hq => ?_)
  show V G Γ 2 0 0 h1 11 [(0, .ref p0), (1, .int p1)] [.int r2, .ref p0]
  refine V_iconst (v := 1) hC dX12_harm_11 (by decide) ?_
  obtain ⟨hz, hq⟩ := hq
  refine clV_X12_fails hG hC sv_X12_115 ⟨by decide, by decide⟩ (Nat.le_of_ble_eq_true rfl) ⟨by decide, by decide⟩ dX12_harm_12 hz hq (fun r3 h4 hq => ?_)
  show V G Γ 2 0 0 h4 15 [(0, .ref p0), (1, .int p1)] [.int r3]
  have hq := hq (fun (h5 : hw) => V G Γ 2 0 0 h5 62 [] []) (by
    intro h5 hq
    show V G Γ 2 0 0 h5 62 [] []
    refine V_iconst (v := 0) hC dX12_harm_62 (by decide) ?_
    refine V_goto (tgt := 71) hC dX12_harm_63 (by decide) ?_
    exact V_iret hC hQ rfl rfl ⟨by decide, by decide⟩ dX12_harm_71 ⟨_, rfl, hq⟩)
  refine V_if_ne (tgt := 62) hC dX12_harm_15 (by decide) (fun hc => ?_) (fun hc => ?_)
  · have hq := hq.1 hc
    refine V_sub [] rfl ?_
    exact hq
  · have hq := hq.2 hc
    refine V_aload_n hC dX12_harm_18 0 rfl ?_
    refine V_aload_n hC dX12_harm_19 0 rfl ?_
    refine U_getR hC fl_X12_39 dX12_harm_20 hq (fun v6 hq => ?_)
    refine V_iload_n hC dX12_harm_23 1 rfl ?_
    refine U_ldI hC dX12_harm_24 hq (fun v7 hq => ?_)
    refine V_iconst (v := (-1)) hC dX12_harm_25 (by decide) ?_
    have hq := hq (fun (t8 : Nat) (t9 : Int32) => V G Γ 2 0 0 h4 34 [(0, .ref p0), (1, .int p1)] [.int t9, .ref t8]) (by
      intro t8 t9 hq
      show V G Γ 2 0 0 h4 34 [(0, .ref p0), (1, .int p1)] [.int t9, .ref t8]
      refine V_iconst (v := 2) hC dX12_harm_34 (by decide) ?_
      obtain ⟨hz, hq⟩ := hq
      refine clV_X12_fails hG hC sv_X12_115 ⟨by decide, by decide⟩ (Nat.le_of_ble_eq_true rfl) ⟨by decide, by decide⟩ dX12_harm_35 hz hq (fun r10 h11 hq => ?_)
      show V G Γ 2 0 0 h11 38 [(0, .ref p0), (1, .int p1)] [.int r10]
      refine V_if_ne (tgt := 62) hC dX12_harm_38 (by decide) (fun hc => ?_) (fun hc => ?_)
      · have hq := hq.1 hc
        refine V_sub [] rfl ?_
        exact hq
      · have hq := hq.2 hc
        refine V_aload_n hC dX12_harm_41 0 rfl ?_
        refine V_aload_n hC dX12_harm_42 0 rfl ?_
        refine V_iload_n hC dX12_harm_43 1 rfl ?_
        obtain ⟨hz, hq⟩ := hq
        refine clV_X12_isHarmed hG hC sv_X12_166 ⟨by decide, by decide⟩ (Nat.le_of_ble_eq_true rfl) ⟨by decide, by decide⟩ dX12_harm_44 hz hq (fun r12 hq => ?_)
        show V G Γ 2 0 0 h11 47 [(0, .ref p0), (1, .int p1)] [.int r12, .ref p0]
        have hq := hq (fun (t13 : Nat) (t14 : Int32) => V G Γ 2 0 0 h11 55 [(0, .ref p0), (1, .int p1)] [.int t14, .ref t13]) (by
          intro t13 t14 hq
          show V G Γ 2 0 0 h11 55 [(0, .ref p0), (1, .int p1)] [.int t14, .ref t13]
          refine V_iconst (v := 3) hC dX12_harm_55 (by decide) ?_
          obtain ⟨hz, hq⟩ := hq
          refine clV_X12_fails hG hC sv_X12_115 ⟨by decide, by decide⟩ (Nat.le_of_ble_eq_true rfl) ⟨by decide, by decide⟩ dX12_harm_56 hz hq (fun r15 h16 hq => ?_)
          show V G Γ 2 0 0 h16 59 [(0, .ref p0), (1, .int p1)] [.int r15]
          refine V_if_eq (tgt := 66) hC dX12_harm_59 (by decide) (fun hc => ?_) (fun hc => ?_)
          · have hq := hq.1 hc
            refine V_aload_n hC dX12_harm_66 0 rfl ?_
            refine V_iload_n hC dX12_harm_67 1 rfl ?_
            obtain ⟨hz, hq⟩ := hq
            refine clV_X12_harmOf hG hC sv_X12_169 ⟨by decide, by decide⟩ (Nat.le_of_ble_eq_true rfl) ⟨by decide, by decide⟩ dX12_harm_68 hz hq (fun r17 hq => ?_)
            show V G Γ 2 0 0 h16 71 [(0, .ref p0), (1, .int p1)] [.int r17]
            exact V_iret hC hQ rfl rfl ⟨by decide, by decide⟩ dX12_harm_71 ⟨_, rfl, hq⟩
          · have hq := hq.2 hc
            refine V_sub [] rfl ?_
            exact hq)
        refine V_if_ne (tgt := 54) hC dX12_harm_47 (by decide) (fun hc => ?_) (fun hc => ?_)
        · have hq := hq.1 hc
          refine V_iconst (v := 0) hC dX12_harm_54 (by decide) ?_
          exact hq
        · have hq := hq.2 hc
          refine V_iconst (v := 1) hC dX12_harm_50 (by decide) ?_
          refine V_goto (tgt := 55) hC dX12_harm_51 (by decide) ?_
          exact hq)
    refine V_icmp_ne (tgt := 33) hC dX12_harm_26 (by decide) (fun hc => ?_) (fun hc => ?_)
    · have hq := hq.1 hc
      refine V_iconst (v := 0) hC dX12_harm_33 (by decide) ?_
      exact hq
    · have hq := hq.2 hc
      refine V_iconst (v := 1) hC dX12_harm_29 (by decide) ?_
      refine V_goto (tgt := 34) hC dX12_harm_30 (by decide) ?_
      exact hq
theorem clV_X12_harm {G : Gx} (hG : GOK G) {Γ : Cx} {own : String} {cc : ByteArray} {nL fr lo mc ms cells slots pc : Nat} {hh : List (Nat × Nat × Nat × Nat)} {h : hw} {L : List (Nat × Value)} {rest : List Value} (hC : COK G Γ own cc nL fr lo mc ms hh) {idx : Nat} (hs : SV own idx yX12_harm cX12_harm 2 (some .int) 1) {p0 : Nat} {p1 : Int32} (hR : 5 + 1 ≤ fr ∧ 8 + (2 + 11) + 142 ≤ lo) (hw8 : (rest.map fun v => v.category).sum ≤ 8) (hcs : cells + 0 ≤ mc ∧ slots + 0 ≤ ms) (hdg : decode cc pc = .ok (.invokevirtual idx, 3)) (ho : isO h p0 12) {post : Int32 → hw → Prop} (hq : wp_X12_harm G p0 p1 h post) (kk : ∀ (r : Int32) (h1 : hw) , post r h1 → V G Γ nL (cells + 0) (slots + 0) h1 (pc + 3) L (.int r :: rest)) : V G Γ nL cells slots h pc L (.int p1 :: .ref p0 :: rest) :=
  V_callV (As := [.int p1]) (r9 := (RX12, TX12, 36)) hC (ct_X12_harm hG p0 p1 h post hq) hs ho rfl rfl rfl hR hw8 hcs hdg (fun E h1 z => z.elim) (fun v h1 z => by obtain ⟨r, rfl, hz⟩ := z; exact kk r h1 hz)
set_option maxRecDepth 100000 in
set_option maxHeartbeats 4000000 in
theorem ct_X12_keeps {G : Gx} (hG : GOK G) (p0 : Nat) (p1 : Int32) (h0 : hw) (post : Int32 → hw → Prop) (hq : wp_X12_keeps G p0 p1 h0 post) : CT G yX12_keeps cX12_keeps 2 (some .boolean) 6 163 0 0 [.ref p0, .int p1] h0 (fun v h1 => ∃ r : Int32, v = some (.int r) ∧ post r h1) (fun E h1 => False) := by
  refine CT_of hG (by decide) (Nat.le_of_ble_eq_true rfl) (fun Γ hC hQ hN => ?_)
  have hC : COK G Γ "BandplanModel" cX12_keeps 2 6 163 0 0 [] := hC
  unfold wp_X12_keeps at hq
  show V G Γ 2 0 0 h0 0 [(0, .ref p0), (1, .int p1)] []
  refine V_aload_n hC dX12_keeps_0 0 rfl ?_
  refine V_iconst (v := 0) hC dX12_keeps_1 (by decide) ?_
  refine U_putO hC (by decide) fl_X12_98 fin_X12_0 rfl rfl dX12_keeps_2 hq (fun h1 hq => ?_)
  refine V_aload_n hC dX12_keeps_5 0 rfl ?_
  refine V_aload_n hC dX12_keeps_6 0 rfl ?_
  refine V_iload_n hC dX12_keeps_7 1 rfl ?_
  obtain ⟨hz, hq⟩ := hq
  refine clV_X12_no hG hC sv_X12_153 ⟨by decide, by decide⟩ (Nat.le_of_ble_eq_true rfl) ⟨by decide, by decide⟩ dX12_keeps_8 hz hq (fun r2 hq => ?_)
  show V G Γ 2 0 0 h1 11 [(0, .ref p0), (1, .int p1)] [.int r2, .ref p0]
  refine V_iconst (v := 1) hC dX12_keeps_11 (by decide) ?_
  obtain ⟨hz, hq⟩ := hq
  refine clV_X12_fails hG hC sv_X12_115 ⟨by decide, by decide⟩ (Nat.le_of_ble_eq_true rfl) ⟨by decide, by decide⟩ dX12_keeps_12 hz hq (fun r3 h4 hq => ?_)
  show V G Γ 2 0 0 h4 15 [(0, .ref p0), (1, .int p1)] [.int r3]
  have hq := hq (fun (h5 : hw) => V G Γ 2 0 0 h5 53 [] []) (by
    intro h5 hq
    show V G Γ 2 0 0 h5 53 [] []
    refine V_iconst (v := 0) hC dX12_keeps_53 (by decide) ?_
    exact V_iret hC hQ rfl rfl ⟨by decide, by decide⟩ dX12_keeps_54 ⟨_, rfl, hq⟩)
  refine V_if_ne (tgt := 53) hC dX12_keeps_15 (by decide) (fun hc => ?_) (fun hc => ?_)
  · have hq := hq.1 hc
    refine V_sub [] rfl ?_
    exact hq
  · have hq := hq.2 hc
    refine V_aload_n hC dX12_keeps_18 0 rfl ?_
    refine V_aload_n hC dX12_keeps_19 0 rfl ?_
    refine U_getR hC fl_X12_39 dX12_keeps_20 hq (fun v6 hq => ?_)
    refine V_iload_n hC dX12_keeps_23 1 rfl ?_
    refine U_ldI hC dX12_keeps_24 hq (fun v7 hq => ?_)
    refine V_iconst (v := (-1)) hC dX12_keeps_25 (by decide) ?_
    have hq := hq (fun (t8 : Nat) (t9 : Int32) => V G Γ 2 0 0 h4 34 [(0, .ref p0), (1, .int p1)] [.int t9, .ref t8]) (by
      intro t8 t9 hq
      show V G Γ 2 0 0 h4 34 [(0, .ref p0), (1, .int p1)] [.int t9, .ref t8]
      refine V_iconst (v := 2) hC dX12_keeps_34 (by decide) ?_
      obtain ⟨hz, hq⟩ := hq
      refine clV_X12_fails hG hC sv_X12_115 ⟨by decide, by decide⟩ (Nat.le_of_ble_eq_true rfl) ⟨by decide, by decide⟩ dX12_keeps_35 hz hq (fun r10 h11 hq => ?_)
      show V G Γ 2 0 0 h11 38 [(0, .ref p0), (1, .int p1)] [.int r10]
      refine V_if_ne (tgt := 53) hC dX12_keeps_38 (by decide) (fun hc => ?_) (fun hc => ?_)
      · have hq := hq.1 hc
        refine V_sub [] rfl ?_
        exact hq
      · have hq := hq.2 hc
        refine V_aload_n hC dX12_keeps_41 0 rfl ?_
        refine V_iload_n hC dX12_keeps_42 1 rfl ?_
        obtain ⟨hz, hq⟩ := hq
        refine clV_X12_keepsLevel hG hC sv_X12_172 ⟨by decide, by decide⟩ (Nat.le_of_ble_eq_true rfl) ⟨by decide, by decide⟩ dX12_keeps_43 hz hq (fun r12 hq => ?_)
        show V G Γ 2 0 0 h11 46 [(0, .ref p0), (1, .int p1)] [.int r12]
        refine V_if_eq (tgt := 53) hC dX12_keeps_46 (by decide) (fun hc => ?_) (fun hc => ?_)
        · have hq := hq.1 hc
          refine V_sub [] rfl ?_
          exact hq
        · have hq := hq.2 hc
          refine V_iconst (v := 1) hC dX12_keeps_49 (by decide) ?_
          refine V_goto (tgt := 54) hC dX12_keeps_50 (by decide) ?_
          exact V_iret hC hQ rfl rfl ⟨by decide, by decide⟩ dX12_keeps_54 ⟨_, rfl, hq⟩)
    refine V_icmp_ne (tgt := 33) hC dX12_keeps_26 (by decide) (fun hc => ?_) (fun hc => ?_)
    · have hq := hq.1 hc
      refine V_iconst (v := 0) hC dX12_keeps_33 (by decide) ?_
      exact hq
    · have hq := hq.2 hc
      refine V_iconst (v := 1) hC dX12_keeps_29 (by decide) ?_
      refine V_goto (tgt := 34) hC dX12_keeps_30 (by decide) ?_
      exact hq
theorem clV_X12_keeps {G : Gx} (hG : GOK G) {Γ : Cx} {own : String} {cc : ByteArray} {nL fr lo mc ms cells slots pc : Nat} {hh : List (Nat × Nat × Nat × Nat)} {h : hw} {L : List (Nat × Value)} {rest : List Value} (hC : COK G Γ own cc nL fr lo mc ms hh) {idx : Nat} (hs : SV own idx yX12_keeps cX12_keeps 2 (some .boolean) 1) {p0 : Nat} {p1 : Int32} (hR : 6 + 1 ≤ fr ∧ 8 + (2 + 11) + 163 ≤ lo) (hw8 : (rest.map fun v => v.category).sum ≤ 8) (hcs : cells + 0 ≤ mc ∧ slots + 0 ≤ ms) (hdg : decode cc pc = .ok (.invokevirtual idx, 3)) (ho : isO h p0 12) {post : Int32 → hw → Prop} (hq : wp_X12_keeps G p0 p1 h post) (kk : ∀ (r : Int32) (h1 : hw) , post r h1 → V G Γ nL (cells + 0) (slots + 0) h1 (pc + 3) L (.int r :: rest)) : V G Γ nL cells slots h pc L (.int p1 :: .ref p0 :: rest) :=
  V_callV (As := [.int p1]) (r9 := (RX12, TX12, 36)) hC (ct_X12_keeps hG p0 p1 h post hq) hs ho rfl rfl rfl hR hw8 hcs hdg (fun E h1 z => z.elim) (fun v h1 z => by obtain ⟨r, rfl, hz⟩ := z; exact kk r h1 hz)
set_option maxRecDepth 100000 in
set_option maxHeartbeats 4000000 in
theorem ct_X12_areBarred {G : Gx} (hG : GOK G) (p0 : Nat) (p1 : Int32) (p2 : Int32) (p3 : Int32) (p4 : Int32) (h0 : hw) (post : Int32 → Prop) (hq : wp_X12_areBarred G p0 p1 p2 p3 p4 h0 post) : CT G yX12_areBarred cX12_areBarred 7 (some .boolean) 4 117 0 0 [.ref p0, .int p1, .int p2, .int p3, .int p4] h0 (fun v h1 => ∃ r : Int32, v = some (.int r) ∧ h1 = h0 ∧ post r) (fun E h1 => False) := by
  refine CT_of hG (by decide) (Nat.le_of_ble_eq_true rfl) (fun Γ hC hQ hN => ?_)
  have hC : COK G Γ "BandplanModel" cX12_areBarred 7 4 117 0 0 [] := hC
  unfold wp_X12_areBarred at hq
  show V G Γ 7 0 0 h0 0 [(0, .ref p0), (1, .int p1), (2, .int p2), (3, .int p3), (4, .int p4)] []
  refine V_iload_n hC dX12_areBarred_0 2 rfl ?_
  refine V_iload hC dX12_areBarred_1 4 rfl ?_
  refine V_isub hC dX12_areBarred_3 ?_
  refine V_abs hC sm_X12_132 (by decide) (Nat.le_of_ble_eq_true rfl) (by decide) (by decide) dX12_areBarred_4 ?_
  refine V_istore (L' := [(0, .ref p0), (1, .int p1), (2, .int p2), (3, .int p3), (4, .int p4), (5, .int (jabs (p2 - p4)))]) hC dX12_areBarred_7 (by decide) [1, 2, 3, 4, 5, 0] rfl ?_
  refine V_aload_n hC dX12_areBarred_9 0 rfl ?_
  refine U_getR hC fl_X12_35 dX12_areBarred_10 hq (fun v1 hq => ?_)
  refine V_iload_n hC dX12_areBarred_13 1 rfl ?_
  refine U_ldZ hC dX12_areBarred_14 hq (fun v2 hq => ?_)
  have hq := hq (fun (t3 : Int32) => V G Γ 7 0 0 h0 44 [(0, .ref p0), (1, .int p1), (3, .int p3), (5, .int (jabs (p2 - p4)))] [.int t3]) (by
    intro t3 hq
    show V G Γ 7 0 0 h0 44 [(0, .ref p0), (1, .int p1), (3, .int p3), (5, .int (jabs (p2 - p4)))] [.int t3]
    refine V_istore (L' := [(0, .ref p0), (1, .int p1), (3, .int p3), (5, .int (jabs (p2 - p4))), (6, .int t3)]) hC dX12_areBarred_44 (by decide) [1, 2, 3, 4, 0] rfl ?_
    refine V_iload hC dX12_areBarred_46 3 rfl ?_
    refine V_iconst (v := 2) hC dX12_areBarred_48 (by decide) ?_
    have hq := hq (V G Γ 7 0 0 h0 91 [] []) (by
      intro hq
      show V G Γ 7 0 0 h0 91 [] []
      refine V_iconst (v := 0) hC dX12_areBarred_91 (by decide) ?_
      exact V_iret hC hQ rfl rfl ⟨by decide, by decide⟩ dX12_areBarred_92 ⟨_, rfl, rfl, hq⟩)
    refine V_icmp_gt (tgt := 91) hC dX12_areBarred_49 (by decide) (fun hc => ?_) (fun hc => ?_)
    · have hq := hq.1 hc
      refine V_sub [] rfl ?_
      exact hq
    · have hq := hq.2 hc
      refine V_iload hC dX12_areBarred_52 4 rfl ?_
      have hq := hq (V G Γ 7 0 0 h0 87 [] []) (by
        intro hq
        show V G Γ 7 0 0 h0 87 [] []
        refine V_iconst (v := 1) hC dX12_areBarred_87 (by decide) ?_
        refine V_goto (tgt := 92) hC dX12_areBarred_88 (by decide) ?_
        exact V_iret hC hQ rfl rfl ⟨by decide, by decide⟩ dX12_areBarred_92 ⟨_, rfl, rfl, hq⟩)
      refine V_if_ne (tgt := 87) hC dX12_areBarred_54 (by decide) (fun hc => ?_) (fun hc => ?_)
      · have hq := hq.1 hc
        refine V_sub [] rfl ?_
        exact hq
      · have hq := hq.2 hc
        refine V_aload_n hC dX12_areBarred_57 0 rfl ?_
        refine U_getR hC fl_X12_35 dX12_areBarred_58 hq (fun v4 hq => ?_)
        refine V_iload_n hC dX12_areBarred_61 2 rfl ?_
        refine U_ldZ hC dX12_areBarred_62 hq (fun v5 hq => ?_)
        refine V_if_eq (tgt := 91) hC dX12_areBarred_63 (by decide) (fun hc => ?_) (fun hc => ?_)
        · have hq := hq.1 hc
          refine V_sub [] rfl ?_
          exact hq
        · have hq := hq.2 hc
          refine V_aload_n hC dX12_areBarred_66 0 rfl ?_
          refine V_iload_n hC dX12_areBarred_67 2 rfl ?_
          obtain ⟨hz, hq⟩ := hq
          refine clV_X12_levelOf hG hC sv_X12_156 ⟨by decide, by decide⟩ (Nat.le_of_ble_eq_true rfl) ⟨by decide, by decide⟩ dX12_areBarred_68 hz hq (fun r6 hq => ?_)
          show V G Γ 7 0 0 h0 71 [(0, .ref p0), (1, .int p1), (3, .int p3), (5, .int (jabs (p2 - p4))), (6, .int t3)] [.int r6]
          refine V_aload_n hC dX12_areBarred_71 0 rfl ?_
          refine V_iload_n hC dX12_areBarred_72 1 rfl ?_
          refine V_iload_n hC dX12_areBarred_73 2 rfl ?_
          refine V_iload hC dX12_areBarred_74 3 rfl ?_
          obtain ⟨hz, hq⟩ := hq
          refine clV_X12_harmBy hG hC sv_X12_162 ⟨by decide, by decide⟩ (Nat.le_of_ble_eq_true rfl) ⟨by decide, by decide⟩ dX12_areBarred_76 hz hq (fun r7 hq => ?_)
          show V G Γ 7 0 0 h0 79 [(0, .ref p0), (1, .int p1), (3, .int p3), (5, .int (jabs (p2 - p4))), (6, .int t3)] [.int r7, .int r6]
          refine V_isub hC dX12_areBarred_79 ?_
          refine V_aload_n hC dX12_areBarred_80 0 rfl ?_
          refine U_getI hC fl_X12_7 dX12_areBarred_81 hq (fun v8 hq => ?_)
          refine V_icmp_ge (tgt := 91) hC dX12_areBarred_84 (by decide) (fun hc => ?_) (fun hc => ?_)
          · have hq := hq.1 hc
            refine V_sub [] rfl ?_
            exact hq
          · have hq := hq.2 hc
            refine V_sub [] rfl ?_
            exact hq)
  have hq := hq (V G Γ 7 0 0 h0 43 [(0, .ref p0), (1, .int p1), (3, .int p3), (5, .int (jabs (p2 - p4)))] []) (by
    intro hq
    show V G Γ 7 0 0 h0 43 [(0, .ref p0), (1, .int p1), (3, .int p3), (5, .int (jabs (p2 - p4)))] []
    refine V_iconst (v := 0) hC dX12_areBarred_43 (by decide) ?_
    exact hq)
  refine V_if_eq (tgt := 43) hC dX12_areBarred_15 (by decide) (fun hc => ?_) (fun hc => ?_)
  · have hq := hq.1 hc
    refine V_sub [0, 1, 3, 5] rfl ?_
    exact hq
  · have hq := hq.2 hc
    refine V_aload_n hC dX12_areBarred_18 0 rfl ?_
    refine V_iload_n hC dX12_areBarred_19 1 rfl ?_
    obtain ⟨hz, hq⟩ := hq
    refine clV_X12_levelOf hG hC sv_X12_156 ⟨by decide, by decide⟩ (Nat.le_of_ble_eq_true rfl) ⟨by decide, by decide⟩ dX12_areBarred_20 hz hq (fun r9 hq => ?_)
    show V G Γ 7 0 0 h0 23 [(0, .ref p0), (1, .int p1), (2, .int p2), (3, .int p3), (4, .int p4), (5, .int (jabs (p2 - p4)))] [.int r9]
    refine V_aload_n hC dX12_areBarred_23 0 rfl ?_
    refine V_iload_n hC dX12_areBarred_24 3 rfl ?_
    refine V_iload_n hC dX12_areBarred_25 1 rfl ?_
    refine V_iload hC dX12_areBarred_26 5 rfl ?_
    obtain ⟨hz, hq⟩ := hq
    refine clV_X12_harmBy hG hC sv_X12_162 ⟨by decide, by decide⟩ (Nat.le_of_ble_eq_true rfl) ⟨by decide, by decide⟩ dX12_areBarred_28 hz hq (fun r10 hq => ?_)
    show V G Γ 7 0 0 h0 31 [(0, .ref p0), (1, .int p1), (2, .int p2), (3, .int p3), (4, .int p4), (5, .int (jabs (p2 - p4)))] [.int r10, .int r9]
    refine V_isub hC dX12_areBarred_31 ?_
    refine V_aload_n hC dX12_areBarred_32 0 rfl ?_
    refine U_getI hC fl_X12_7 dX12_areBarred_33 hq (fun v11 hq => ?_)
    refine V_icmp_ge (tgt := 43) hC dX12_areBarred_36 (by decide) (fun hc => ?_) (fun hc => ?_)
    · have hq := hq.1 hc
      refine V_sub [0, 1, 3, 5] rfl ?_
      exact hq
    · have hq := hq.2 hc
      refine V_iconst (v := 1) hC dX12_areBarred_39 (by decide) ?_
      refine V_goto (tgt := 44) hC dX12_areBarred_40 (by decide) ?_
      refine V_sub [0, 1, 3, 5] rfl ?_
      exact hq
theorem clV_X12_areBarred {G : Gx} (hG : GOK G) {Γ : Cx} {own : String} {cc : ByteArray} {nL fr lo mc ms cells slots pc : Nat} {hh : List (Nat × Nat × Nat × Nat)} {h : hw} {L : List (Nat × Value)} {rest : List Value} (hC : COK G Γ own cc nL fr lo mc ms hh) {idx : Nat} (hs : SV own idx yX12_areBarred cX12_areBarred 7 (some .boolean) 4) {p0 : Nat} {p1 : Int32} {p2 : Int32} {p3 : Int32} {p4 : Int32} (hR : 4 + 1 ≤ fr ∧ 8 + (7 + 11) + 117 ≤ lo) (hw8 : (rest.map fun v => v.category).sum ≤ 8) (hcs : cells + 0 ≤ mc ∧ slots + 0 ≤ ms) (hdg : decode cc pc = .ok (.invokevirtual idx, 3)) (ho : isO h p0 12) {post : Int32 → Prop} (hq : wp_X12_areBarred G p0 p1 p2 p3 p4 h post) (kk : ∀ (r : Int32) , post r → V G Γ nL (cells + 0) (slots + 0) h (pc + 3) L (.int r :: rest)) : V G Γ nL cells slots h pc L (.int p4 :: .int p3 :: .int p2 :: .int p1 :: .ref p0 :: rest) :=
  V_callV (As := [.int p1, .int p2, .int p3, .int p4]) (r9 := (RX12, TX12, 36)) hC (ct_X12_areBarred hG p0 p1 p2 p3 p4 h post hq) hs ho rfl rfl rfl hR hw8 hcs hdg (fun E h1 z => z.elim) (fun v h1 z => by obtain ⟨r, rfl, rfl, hz⟩ := z; exact kk r hz)
set_option maxRecDepth 100000 in
set_option maxHeartbeats 4000000 in
theorem ct_X12_bars {G : Gx} (hG : GOK G) (p0 : Nat) (p1 : Int32) (p2 : Int32) (p3 : Int32) (p4 : Int32) (h0 : hw) (post : Int32 → hw → Prop) (hq : wp_X12_bars G p0 p1 p2 p3 p4 h0 post) : CT G yX12_bars cX12_bars 5 (some .boolean) 5 143 0 0 [.ref p0, .int p1, .int p2, .int p3, .int p4] h0 (fun v h1 => ∃ r : Int32, v = some (.int r) ∧ post r h1) (fun E h1 => False) := by
  refine CT_of hG (by decide) (Nat.le_of_ble_eq_true rfl) (fun Γ hC hQ hN => ?_)
  have hC : COK G Γ "BandplanModel" cX12_bars 5 5 143 0 0 [] := hC
  unfold wp_X12_bars at hq
  show V G Γ 5 0 0 h0 0 [(0, .ref p0), (1, .int p1), (2, .int p2), (3, .int p3), (4, .int p4)] []
  refine V_aload_n hC dX12_bars_0 0 rfl ?_
  refine V_iconst (v := 0) hC dX12_bars_1 (by decide) ?_
  refine U_putO hC (by decide) fl_X12_98 fin_X12_0 rfl rfl dX12_bars_2 hq (fun h1 hq => ?_)
  refine V_aload_n hC dX12_bars_5 0 rfl ?_
  refine V_aload_n hC dX12_bars_6 0 rfl ?_
  refine V_iload_n hC dX12_bars_7 1 rfl ?_
  obtain ⟨hz, hq⟩ := hq
  refine clV_X12_no hG hC sv_X12_153 ⟨by decide, by decide⟩ (Nat.le_of_ble_eq_true rfl) ⟨by decide, by decide⟩ dX12_bars_8 hz hq (fun r2 hq => ?_)
  show V G Γ 5 0 0 h1 11 [(0, .ref p0), (1, .int p1), (2, .int p2), (3, .int p3), (4, .int p4)] [.int r2, .ref p0]
  have hq := hq (fun (t3 : Nat) (t4 : Int32) => V G Γ 5 0 0 h1 27 [(0, .ref p0), (1, .int p1), (2, .int p2), (3, .int p3), (4, .int p4)] [.int t4, .ref t3]) (by
    intro t3 t4 hq
    show V G Γ 5 0 0 h1 27 [(0, .ref p0), (1, .int p1), (2, .int p2), (3, .int p3), (4, .int p4)] [.int t4, .ref t3]
    refine V_iconst (v := 1) hC dX12_bars_27 (by decide) ?_
    obtain ⟨hz, hq⟩ := hq
    refine clV_X12_fails hG hC sv_X12_115 ⟨by decide, by decide⟩ (Nat.le_of_ble_eq_true rfl) ⟨by decide, by decide⟩ dX12_bars_28 hz hq (fun r5 h6 hq => ?_)
    show V G Γ 5 0 0 h6 31 [(0, .ref p0), (1, .int p1), (2, .int p2), (3, .int p3), (4, .int p4)] [.int r5]
    refine V_if_ne (tgt := 67) hC dX12_bars_31 (by decide) (fun hc => ?_) (fun hc => ?_)
    · have hq := hq.1 hc
      refine V_iconst (v := 0) hC dX12_bars_67 (by decide) ?_
      exact V_iret hC hQ rfl rfl ⟨by decide, by decide⟩ dX12_bars_68 ⟨_, rfl, hq⟩
    · have hq := hq.2 hc
      refine V_aload_n hC dX12_bars_34 0 rfl ?_
      refine V_iload_n hC dX12_bars_35 1 rfl ?_
      refine V_iload_n hC dX12_bars_36 3 rfl ?_
      have hq := hq (fun (t7 : Nat) (t8 : Int32) => V G Γ 5 0 0 h6 60 [(0, .ref p0), (1, .int p1), (2, .int p2), (3, .int p3), (4, .int p4)] [.int t8, .ref t7]) (by
        intro t7 t8 hq
        show V G Γ 5 0 0 h6 60 [(0, .ref p0), (1, .int p1), (2, .int p2), (3, .int p3), (4, .int p4)] [.int t8, .ref t7]
        refine V_iconst (v := 2) hC dX12_bars_60 (by decide) ?_
        obtain ⟨hz, hq⟩ := hq
        refine clV_X12_fails hG hC sv_X12_115 ⟨by decide, by decide⟩ (Nat.le_of_ble_eq_true rfl) ⟨by decide, by decide⟩ dX12_bars_61 hz hq (fun r9 h10 hq => ?_)
        show V G Γ 5 0 0 h10 64 [(0, .ref p0), (1, .int p1), (2, .int p2), (3, .int p3), (4, .int p4)] [.int r9]
        refine V_if_eq (tgt := 69) hC dX12_bars_64 (by decide) (fun hc => ?_) (fun hc => ?_)
        · have hq := hq.1 hc
          refine V_aload_n hC dX12_bars_69 0 rfl ?_
          refine V_iload_n hC dX12_bars_70 1 rfl ?_
          refine V_iload_n hC dX12_bars_71 2 rfl ?_
          refine V_iload_n hC dX12_bars_72 3 rfl ?_
          refine V_iload hC dX12_bars_73 4 rfl ?_
          obtain ⟨hz, hq⟩ := hq
          refine clV_X12_areBarred hG hC sv_X12_178 ⟨by decide, by decide⟩ (Nat.le_of_ble_eq_true rfl) ⟨by decide, by decide⟩ dX12_bars_75 hz hq (fun r11 hq => ?_)
          show V G Γ 5 0 0 h10 78 [(0, .ref p0), (1, .int p1), (2, .int p2), (3, .int p3), (4, .int p4)] [.int r11]
          obtain ⟨hz, hq⟩ := hq
          exact V_iret hC hQ rfl (nar_b hz) ⟨by decide, by decide⟩ dX12_bars_78 ⟨_, rfl, hq⟩
        · have hq := hq.2 hc
          refine V_iconst (v := 0) hC dX12_bars_67 (by decide) ?_
          exact V_iret hC hQ rfl rfl ⟨by decide, by decide⟩ dX12_bars_68 ⟨_, rfl, hq⟩)
      have hq := hq (fun (t12 : Nat) => V G Γ 5 0 0 h6 55 [(0, .ref p0), (1, .int p1), (2, .int p2), (3, .int p3), (4, .int p4)] [.ref t12]) (by
        intro t12 hq
        show V G Γ 5 0 0 h6 55 [(0, .ref p0), (1, .int p1), (2, .int p2), (3, .int p3), (4, .int p4)] [.ref t12]
        refine V_iconst (v := 1) hC dX12_bars_55 (by decide) ?_
        refine V_goto (tgt := 60) hC dX12_bars_56 (by decide) ?_
        exact hq)
      refine V_icmp_eq (tgt := 55) hC dX12_bars_37 (by decide) (fun hc => ?_) (fun hc => ?_)
      · have hq := hq.1 hc
        exact hq
      · have hq := hq.2 hc
        refine V_iload_n hC dX12_bars_40 2 rfl ?_
        refine clS_X12_noChannel hG hC ss_X12_175 ⟨by decide, by decide⟩ (Nat.le_of_ble_eq_true rfl) ⟨by decide, by decide⟩ dX12_bars_41 hq (fun r13 hq => ?_)
        show V G Γ 5 0 0 h6 44 [(0, .ref p0), (1, .int p1), (2, .int p2), (3, .int p3), (4, .int p4)] [.int r13, .ref p0]
        refine V_if_ne (tgt := 55) hC dX12_bars_44 (by decide) (fun hc => ?_) (fun hc => ?_)
        · have hq := hq.1 hc
          exact hq
        · have hq := hq.2 hc
          refine V_iload hC dX12_bars_47 4 rfl ?_
          refine clS_X12_noChannel hG hC ss_X12_175 ⟨by decide, by decide⟩ (Nat.le_of_ble_eq_true rfl) ⟨by decide, by decide⟩ dX12_bars_49 hq (fun r14 hq => ?_)
          show V G Γ 5 0 0 h6 52 [(0, .ref p0), (1, .int p1), (2, .int p2), (3, .int p3), (4, .int p4)] [.int r14, .ref p0]
          refine V_if_eq (tgt := 59) hC dX12_bars_52 (by decide) (fun hc => ?_) (fun hc => ?_)
          · have hq := hq.1 hc
            refine V_iconst (v := 0) hC dX12_bars_59 (by decide) ?_
            exact hq
          · have hq := hq.2 hc
            exact hq)
  have hq := hq (fun (t15 : Nat) => V G Γ 5 0 0 h1 22 [(0, .ref p0), (1, .int p1), (2, .int p2), (3, .int p3), (4, .int p4)] [.ref t15]) (by
    intro t15 hq
    show V G Γ 5 0 0 h1 22 [(0, .ref p0), (1, .int p1), (2, .int p2), (3, .int p3), (4, .int p4)] [.ref t15]
    refine V_iconst (v := 1) hC dX12_bars_22 (by decide) ?_
    refine V_goto (tgt := 27) hC dX12_bars_23 (by decide) ?_
    exact hq)
  refine V_if_ne (tgt := 22) hC dX12_bars_11 (by decide) (fun hc => ?_) (fun hc => ?_)
  · have hq := hq.1 hc
    exact hq
  · have hq := hq.2 hc
    refine V_aload_n hC dX12_bars_14 0 rfl ?_
    refine V_iload_n hC dX12_bars_15 3 rfl ?_
    obtain ⟨hz, hq⟩ := hq
    refine clV_X12_no hG hC sv_X12_153 ⟨by decide, by decide⟩ (Nat.le_of_ble_eq_true rfl) ⟨by decide, by decide⟩ dX12_bars_16 hz hq (fun r16 hq => ?_)
    show V G Γ 5 0 0 h1 19 [(0, .ref p0), (1, .int p1), (2, .int p2), (3, .int p3), (4, .int p4)] [.int r16, .ref p0]
    refine V_if_eq (tgt := 26) hC dX12_bars_19 (by decide) (fun hc => ?_) (fun hc => ?_)
    · have hq := hq.1 hc
      refine V_iconst (v := 0) hC dX12_bars_26 (by decide) ?_
      exact hq
    · have hq := hq.2 hc
      exact hq
theorem clV_X12_bars {G : Gx} (hG : GOK G) {Γ : Cx} {own : String} {cc : ByteArray} {nL fr lo mc ms cells slots pc : Nat} {hh : List (Nat × Nat × Nat × Nat)} {h : hw} {L : List (Nat × Value)} {rest : List Value} (hC : COK G Γ own cc nL fr lo mc ms hh) {idx : Nat} (hs : SV own idx yX12_bars cX12_bars 5 (some .boolean) 4) {p0 : Nat} {p1 : Int32} {p2 : Int32} {p3 : Int32} {p4 : Int32} (hR : 5 + 1 ≤ fr ∧ 8 + (5 + 11) + 143 ≤ lo) (hw8 : (rest.map fun v => v.category).sum ≤ 8) (hcs : cells + 0 ≤ mc ∧ slots + 0 ≤ ms) (hdg : decode cc pc = .ok (.invokevirtual idx, 3)) (ho : isO h p0 12) {post : Int32 → hw → Prop} (hq : wp_X12_bars G p0 p1 p2 p3 p4 h post) (kk : ∀ (r : Int32) (h1 : hw) , post r h1 → V G Γ nL (cells + 0) (slots + 0) h1 (pc + 3) L (.int r :: rest)) : V G Γ nL cells slots h pc L (.int p4 :: .int p3 :: .int p2 :: .int p1 :: .ref p0 :: rest) :=
  V_callV (As := [.int p1, .int p2, .int p3, .int p4]) (r9 := (RX12, TX12, 36)) hC (ct_X12_bars hG p0 p1 p2 p3 p4 h post hq) hs ho rfl rfl rfl hR hw8 hcs hdg (fun E h1 z => z.elim) (fun v h1 z => by obtain ⟨r, rfl, hz⟩ := z; exact kk r h1 hz)
set_option maxRecDepth 100000 in
set_option maxHeartbeats 4000000 in
theorem ct_X12_set {G : Gx} (hG : GOK G) (p0 : Nat) (p1 : Int32) (p2 : Int32) (h0 : hw) (bc bs : Nat) (post : hw → Prop) (hq : wp_X12_set G p0 p1 p2 h0 bc bs post) : CT G yX12_set cX12_set 3 none 8 191 bc bs [.ref p0, .int p1, .int p2] h0 (fun v h1 => v = none ∧ post h1) (fun E h1 => False) := by
  refine CT_of hG (by decide) (Nat.le_of_ble_eq_true rfl) (fun Γ hC hQ hN => ?_)
  have hC : COK G Γ "BandplanModel" cX12_set 3 8 191 bc bs [] := hC
  unfold wp_X12_set at hq
  show V G Γ 3 0 0 h0 0 [(0, .ref p0), (1, .int p1), (2, .int p2)] []
  refine V_aload_n hC dX12_set_0 0 rfl ?_
  refine U_getR hC fl_X12_39 dX12_set_1 hq (fun v1 hq => ?_)
  refine V_iload_n hC dX12_set_4 1 rfl ?_
  refine V_iload_n hC dX12_set_5 2 rfl ?_
  refine U_stI hC dX12_set_6 hq (fun h2 hq => ?_)
  refine V_aload_n hC dX12_set_7 0 rfl ?_
  refine U_getR hC fl_X12_48 dX12_set_8 hq (fun v3 hq => ?_)
  refine V_iload_n hC dX12_set_11 1 rfl ?_
  obtain ⟨hz, hq⟩ := hq
  refine clV_Jx4a65c_get_915e3 hG hC sv_X12_182 ⟨by decide, by decide⟩ (Nat.le_of_ble_eq_true rfl) ⟨by omega, by omega⟩ dX12_set_12 hz hq (fun r4 hq => ?_)
  show V G Γ 3 0 0 h2 15 [(0, .ref p0), (1, .int p1), (2, .int p2)] [.ref r4]
  obtain ⟨hz, hq⟩ := hq
  refine V_cast (r9 := (RJx4a65c, TJx4a65c, 3)) hC aw_6_17 rfl hz dX12_set_15 ?_
  refine V_aload_n hC dX12_set_18 0 rfl ?_
  refine U_getI hC fl_X12_186 dX12_set_19 hq (fun v5 hq => ?_)
  obtain ⟨hz1, hz2, hq⟩ := hq
  refine clS_J6_valueOf_2dffe hG hC ss_X12_189 ⟨by decide, by decide⟩ (Nat.le_of_ble_eq_true rfl) ⟨hz1, hz2⟩ dX12_set_22 hq (fun r6 h7 hq => ?_)
  show V G Γ 3 (0 + 1) (0 + 1) h7 25 [(0, .ref p0), (1, .int p1), (2, .int p2)] [.ref r6, .ref r4]
  obtain ⟨bc8, bs9, hz1, hz2, hq⟩ := hq
  obtain ⟨hz, hq⟩ := hq
  refine clV_Jx4a65c_add_9ea2d hG hC sv_X12_149 ⟨by decide, by decide⟩ (Nat.le_of_ble_eq_true rfl) ⟨hz1, hz2⟩ dX12_set_25 hz hq (fun r10 h11 hq => ?_)
  show V G Γ 3 ((0 + 1) + bc8) ((0 + 1) + bs9) h11 28 [(0, .ref p0), (1, .int p1), (2, .int p2)] [.int r10]
  refine V_pop hC dX12_set_28 rfl ?_
  refine V_aload_n hC dX12_set_29 0 rfl ?_
  refine U_getR hC fl_X12_48 dX12_set_30 hq (fun v12 hq => ?_)
  refine V_iload_n hC dX12_set_33 1 rfl ?_
  obtain ⟨hz, hq⟩ := hq
  refine clV_Jx4a65c_get_915e3 hG hC sv_X12_182 ⟨by decide, by decide⟩ (Nat.le_of_ble_eq_true rfl) ⟨by omega, by omega⟩ dX12_set_34 hz hq (fun r13 hq => ?_)
  show V G Γ 3 ((0 + 1) + bc8) ((0 + 1) + bs9) h11 37 [(0, .ref p0), (1, .int p1), (2, .int p2)] [.ref r13]
  obtain ⟨hz, hq⟩ := hq
  refine V_cast (r9 := (RJx4a65c, TJx4a65c, 3)) hC aw_6_17 rfl hz dX12_set_37 ?_
  refine V_iload_n hC dX12_set_40 2 rfl ?_
  obtain ⟨hz1, hz2, hq⟩ := hq
  refine clS_J6_valueOf_2dffe hG hC ss_X12_189 ⟨by decide, by decide⟩ (Nat.le_of_ble_eq_true rfl) ⟨hz1, hz2⟩ dX12_set_41 hq (fun r14 h15 hq => ?_)
  show V G Γ 3 (((0 + 1) + bc8) + 1) (((0 + 1) + bs9) + 1) h15 44 [(0, .ref p0), (1, .int p1), (2, .int p2)] [.ref r14, .ref r13]
  obtain ⟨bc16, bs17, hz1, hz2, hq⟩ := hq
  obtain ⟨hz, hq⟩ := hq
  refine clV_Jx4a65c_add_9ea2d hG hC sv_X12_149 ⟨by decide, by decide⟩ (Nat.le_of_ble_eq_true rfl) ⟨hz1, hz2⟩ dX12_set_44 hz hq (fun r18 h19 hq => ?_)
  show V G Γ 3 ((((0 + 1) + bc8) + 1) + bc16) ((((0 + 1) + bs9) + 1) + bs17) h19 47 [(0, .ref p0), (1, .int p1), (2, .int p2)] [.int r18]
  refine V_pop hC dX12_set_47 rfl ?_
  obtain ⟨hz1, hz2, hq⟩ := hq
  exact V_vret hC hQ ⟨hz1, hz2⟩ dX12_set_48 ⟨rfl, hq⟩
theorem clV_X12_set {G : Gx} (hG : GOK G) {Γ : Cx} {own : String} {cc : ByteArray} {nL fr lo mc ms cells slots pc : Nat} {hh : List (Nat × Nat × Nat × Nat)} {h : hw} {L : List (Nat × Value)} {rest : List Value} (hC : COK G Γ own cc nL fr lo mc ms hh) {idx : Nat} (hs : SV own idx yX12_set cX12_set 3 none 2) {bc bs : Nat} {p0 : Nat} {p1 : Int32} {p2 : Int32} (hR : 8 + 1 ≤ fr ∧ 8 + (3 + 11) + 191 ≤ lo) (hw8 : (rest.map fun v => v.category).sum ≤ 8) (hcs : cells + bc ≤ mc ∧ slots + bs ≤ ms) (hdg : decode cc pc = .ok (.invokevirtual idx, 3)) (ho : isO h p0 12) {post : hw → Prop} (hq : wp_X12_set G p0 p1 p2 h bc bs post) (kk : ∀ (h1 : hw) , post h1 → V G Γ nL (cells + bc) (slots + bs) h1 (pc + 3) L (rest)) : V G Γ nL cells slots h pc L (.int p2 :: .int p1 :: .ref p0 :: rest) :=
  V_callV (As := [.int p1, .int p2]) (r9 := (RX12, TX12, 36)) hC (ct_X12_set hG p0 p1 p2 h bc bs post hq) hs ho rfl rfl rfl hR hw8 hcs hdg (fun E h1 z => z.elim) (fun v h1 z => by obtain ⟨rfl, hz⟩ := z; exact kk h1 hz)
set_option maxRecDepth 100000 in
set_option maxHeartbeats 4000000 in
theorem ct_X12_hasYesFor {G : Gx} (hG : GOK G) (p0 : Nat) (p1 : Int32) (p2 : Int32) (h0 : hw) (post : Int32 → Prop) (hq : wp_X12_hasYesFor G p0 p1 p2 h0 post) : CT G yX12_hasYesFor cX12_hasYesFor 4 (some .boolean) 1 30 0 0 [.ref p0, .int p1, .int p2] h0 (fun v h1 => ∃ r : Int32, v = some (.int r) ∧ h1 = h0 ∧ post r) (fun E h1 => False) := by
  refine CT_of hG (by decide) (Nat.le_of_ble_eq_true rfl) (fun Γ hC hQ hN => ?_)
  have hC : COK G Γ "BandplanModel" cX12_hasYesFor 4 1 30 0 0 [] := hC
  unfold wp_X12_hasYesFor at hq
  show V G Γ 4 0 0 h0 0 [(0, .ref p0), (1, .int p1), (2, .int p2)] []
  refine V_bipush (v := 8) hC dX12_hasYesFor_0 (by decide) ?_
  refine V_iload_n hC dX12_hasYesFor_2 1 rfl ?_
  refine V_imul hC dX12_hasYesFor_3 ?_
  refine V_iload_n hC dX12_hasYesFor_4 2 rfl ?_
  refine V_iadd hC dX12_hasYesFor_5 ?_
  refine V_istore_n (L' := [(0, .ref p0), (1, .int p1), (2, .int p2), (3, .int ((8 * p1) + p2))]) hC dX12_hasYesFor_6 rfl (by decide) [1, 2, 3, 0] rfl ?_
  refine V_aload_n hC dX12_hasYesFor_7 0 rfl ?_
  refine U_getR hC fl_X12_55 dX12_hasYesFor_8 hq (fun v1 hq => ?_)
  refine V_iload_n hC dX12_hasYesFor_11 3 rfl ?_
  refine U_ldI hC dX12_hasYesFor_12 hq (fun v2 hq => ?_)
  refine V_iconst (v := (-1)) hC dX12_hasYesFor_13 (by decide) ?_
  have hq := hq (V G Γ 4 0 0 h0 45 [] []) (by
    intro hq
    show V G Γ 4 0 0 h0 45 [] []
    refine V_iconst (v := 0) hC dX12_hasYesFor_45 (by decide) ?_
    exact V_iret hC hQ rfl rfl ⟨by decide, by decide⟩ dX12_hasYesFor_46 ⟨_, rfl, rfl, hq⟩)
  refine V_icmp_eq (tgt := 45) hC dX12_hasYesFor_14 (by decide) (fun hc => ?_) (fun hc => ?_)
  · have hq := hq.1 hc
    refine V_sub [] rfl ?_
    exact hq
  · have hq := hq.2 hc
    refine V_aload_n hC dX12_hasYesFor_17 0 rfl ?_
    refine U_getR hC fl_X12_58 dX12_hasYesFor_18 hq (fun v3 hq => ?_)
    refine V_iload_n hC dX12_hasYesFor_21 3 rfl ?_
    refine U_ldZ hC dX12_hasYesFor_22 hq (fun v4 hq => ?_)
    refine V_if_ne (tgt := 45) hC dX12_hasYesFor_23 (by decide) (fun hc => ?_) (fun hc => ?_)
    · have hq := hq.1 hc
      refine V_sub [] rfl ?_
      exact hq
    · have hq := hq.2 hc
      refine V_aload_n hC dX12_hasYesFor_26 0 rfl ?_
      refine U_getI hC fl_X12_186 dX12_hasYesFor_27 hq (fun v5 hq => ?_)
      refine V_aload_n hC dX12_hasYesFor_30 0 rfl ?_
      refine U_getR hC fl_X12_55 dX12_hasYesFor_31 hq (fun v6 hq => ?_)
      refine V_iload_n hC dX12_hasYesFor_34 3 rfl ?_
      refine U_ldI hC dX12_hasYesFor_35 hq (fun v7 hq => ?_)
      refine V_iconst (v := 3) hC dX12_hasYesFor_36 (by decide) ?_
      refine V_iadd hC dX12_hasYesFor_37 ?_
      refine V_icmp_lt (tgt := 45) hC dX12_hasYesFor_38 (by decide) (fun hc => ?_) (fun hc => ?_)
      · have hq := hq.1 hc
        refine V_sub [] rfl ?_
        exact hq
      · have hq := hq.2 hc
        refine V_iconst (v := 1) hC dX12_hasYesFor_41 (by decide) ?_
        refine V_goto (tgt := 46) hC dX12_hasYesFor_42 (by decide) ?_
        exact V_iret hC hQ rfl rfl ⟨by decide, by decide⟩ dX12_hasYesFor_46 ⟨_, rfl, rfl, hq⟩
theorem clV_X12_hasYesFor {G : Gx} (hG : GOK G) {Γ : Cx} {own : String} {cc : ByteArray} {nL fr lo mc ms cells slots pc : Nat} {hh : List (Nat × Nat × Nat × Nat)} {h : hw} {L : List (Nat × Value)} {rest : List Value} (hC : COK G Γ own cc nL fr lo mc ms hh) {idx : Nat} (hs : SV own idx yX12_hasYesFor cX12_hasYesFor 4 (some .boolean) 2) {p0 : Nat} {p1 : Int32} {p2 : Int32} (hR : 1 + 1 ≤ fr ∧ 8 + (4 + 11) + 30 ≤ lo) (hw8 : (rest.map fun v => v.category).sum ≤ 8) (hcs : cells + 0 ≤ mc ∧ slots + 0 ≤ ms) (hdg : decode cc pc = .ok (.invokevirtual idx, 3)) (ho : isO h p0 12) {post : Int32 → Prop} (hq : wp_X12_hasYesFor G p0 p1 p2 h post) (kk : ∀ (r : Int32) , post r → V G Γ nL (cells + 0) (slots + 0) h (pc + 3) L (.int r :: rest)) : V G Γ nL cells slots h pc L (.int p2 :: .int p1 :: .ref p0 :: rest) :=
  V_callV (As := [.int p1, .int p2]) (r9 := (RX12, TX12, 36)) hC (ct_X12_hasYesFor hG p0 p1 p2 h post hq) hs ho rfl rfl rfl hR hw8 hcs hdg (fun E h1 z => z.elim) (fun v h1 z => by obtain ⟨r, rfl, rfl, hz⟩ := z; exact kk r hz)
set_option maxRecDepth 100000 in
set_option maxHeartbeats 4000000 in
theorem ct_X12_needsYes {G : Gx} (hG : GOK G) (p0 : Nat) (p1 : Int32) (p2 : Int32) (h0 : hw) (post : Int32 → Prop) (hq : wp_X12_needsYes G p0 p1 p2 h0 post) : CT G yX12_needsYes cX12_needsYes 3 (some .boolean) 1 30 0 0 [.ref p0, .int p1, .int p2] h0 (fun v h1 => ∃ r : Int32, v = some (.int r) ∧ h1 = h0 ∧ post r) (fun E h1 => False) := by
  refine CT_of hG (by decide) (Nat.le_of_ble_eq_true rfl) (fun Γ hC hQ hN => ?_)
  have hC : COK G Γ "BandplanModel" cX12_needsYes 3 1 30 0 0 [] := hC
  unfold wp_X12_needsYes at hq
  show V G Γ 3 0 0 h0 0 [(0, .ref p0), (1, .int p1), (2, .int p2)] []
  refine V_aload_n hC dX12_needsYes_0 0 rfl ?_
  refine U_getR hC fl_X12_52 dX12_needsYes_1 hq (fun v1 hq => ?_)
  refine V_iload_n hC dX12_needsYes_4 2 rfl ?_
  refine U_ldZ hC dX12_needsYes_5 hq (fun v2 hq => ?_)
  have hq := hq (V G Γ 3 0 0 h0 45 [] []) (by
    intro hq
    show V G Γ 3 0 0 h0 45 [] []
    refine V_iconst (v := 0) hC dX12_needsYes_45 (by decide) ?_
    exact V_iret hC hQ rfl rfl ⟨by decide, by decide⟩ dX12_needsYes_46 ⟨_, rfl, rfl, hq⟩)
  refine V_if_eq (tgt := 45) hC dX12_needsYes_6 (by decide) (fun hc => ?_) (fun hc => ?_)
  · have hq := hq.1 hc
    refine V_sub [] rfl ?_
    exact hq
  · have hq := hq.2 hc
    refine V_aload_n hC dX12_needsYes_9 0 rfl ?_
    refine U_getR hC fl_X12_17 dX12_needsYes_10 hq (fun v3 hq => ?_)
    refine V_aload_n hC dX12_needsYes_13 0 rfl ?_
    refine U_getR hC fl_X12_26 dX12_needsYes_14 hq (fun v4 hq => ?_)
    refine V_iload_n hC dX12_needsYes_17 1 rfl ?_
    refine U_ldI hC dX12_needsYes_18 hq (fun v5 hq => ?_)
    refine U_ldI hC dX12_needsYes_19 hq (fun v6 hq => ?_)
    refine V_bipush (v := 15) hC dX12_needsYes_20 (by decide) ?_
    have hq := hq (V G Γ 3 0 0 h0 41 [] []) (by
      intro hq
      show V G Γ 3 0 0 h0 41 [] []
      refine V_iconst (v := 1) hC dX12_needsYes_41 (by decide) ?_
      refine V_goto (tgt := 46) hC dX12_needsYes_42 (by decide) ?_
      exact V_iret hC hQ rfl rfl ⟨by decide, by decide⟩ dX12_needsYes_46 ⟨_, rfl, rfl, hq⟩)
    refine V_icmp_ge (tgt := 41) hC dX12_needsYes_22 (by decide) (fun hc => ?_) (fun hc => ?_)
    · have hq := hq.1 hc
      refine V_sub [] rfl ?_
      exact hq
    · have hq := hq.2 hc
      refine V_aload_n hC dX12_needsYes_25 0 rfl ?_
      refine U_getR hC fl_X12_17 dX12_needsYes_26 hq (fun v7 hq => ?_)
      refine V_aload_n hC dX12_needsYes_29 0 rfl ?_
      refine U_getR hC fl_X12_29 dX12_needsYes_30 hq (fun v8 hq => ?_)
      refine V_iload_n hC dX12_needsYes_33 1 rfl ?_
      refine U_ldI hC dX12_needsYes_34 hq (fun v9 hq => ?_)
      refine U_ldI hC dX12_needsYes_35 hq (fun v10 hq => ?_)
      refine V_bipush (v := 15) hC dX12_needsYes_36 (by decide) ?_
      refine V_icmp_lt (tgt := 45) hC dX12_needsYes_38 (by decide) (fun hc => ?_) (fun hc => ?_)
      · have hq := hq.1 hc
        refine V_sub [] rfl ?_
        exact hq
      · have hq := hq.2 hc
        refine V_sub [] rfl ?_
        exact hq
theorem clV_X12_needsYes {G : Gx} (hG : GOK G) {Γ : Cx} {own : String} {cc : ByteArray} {nL fr lo mc ms cells slots pc : Nat} {hh : List (Nat × Nat × Nat × Nat)} {h : hw} {L : List (Nat × Value)} {rest : List Value} (hC : COK G Γ own cc nL fr lo mc ms hh) {idx : Nat} (hs : SV own idx yX12_needsYes cX12_needsYes 3 (some .boolean) 2) {p0 : Nat} {p1 : Int32} {p2 : Int32} (hR : 1 + 1 ≤ fr ∧ 8 + (3 + 11) + 30 ≤ lo) (hw8 : (rest.map fun v => v.category).sum ≤ 8) (hcs : cells + 0 ≤ mc ∧ slots + 0 ≤ ms) (hdg : decode cc pc = .ok (.invokevirtual idx, 3)) (ho : isO h p0 12) {post : Int32 → Prop} (hq : wp_X12_needsYes G p0 p1 p2 h post) (kk : ∀ (r : Int32) , post r → V G Γ nL (cells + 0) (slots + 0) h (pc + 3) L (.int r :: rest)) : V G Γ nL cells slots h pc L (.int p2 :: .int p1 :: .ref p0 :: rest) :=
  V_callV (As := [.int p1, .int p2]) (r9 := (RX12, TX12, 36)) hC (ct_X12_needsYes hG p0 p1 p2 h post hq) hs ho rfl rfl rfl hR hw8 hcs hdg (fun E h1 z => z.elim) (fun v h1 z => by obtain ⟨r, rfl, rfl, hz⟩ := z; exact kk r hz)
