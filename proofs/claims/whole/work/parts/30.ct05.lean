set_option maxRecDepth 100000 in
set_option maxHeartbeats 4000000 in
theorem ct_X12_object {G : Gx} (hG : GOK G) (p0 : Nat) (p1 : Int32) (p2 : Int32) (h0 : hw) (post : Int32 → hw → Prop) (hq : wp_X12_object G p0 p1 p2 h0 post) : CT G yX12_object cX12_object 4 (some .boolean) 3 73 0 0 [.ref p0, .int p1, .int p2] h0 (fun v h1 => ∃ r : Int32, v = some (.int r) ∧ post r h1) (fun E h1 => False) := by
  refine CT_of hG (by decide) (Nat.le_of_ble_eq_true rfl) (fun Γ hC hQ hN => ?_)
  have hC : COK G Γ "BandplanModel" cX12_object 4 3 73 0 0 [] := hC
  unfold wp_X12_object at hq
  show V G Γ 4 0 0 h0 0 [(0, .ref p0), (1, .int p1), (2, .int p2)] []
  refine V_aload_n hC dX12_object_0 0 rfl ?_
  refine V_iconst (v := 0) hC dX12_object_1 (by decide) ?_
  refine U_put hC fl_X12_98 fin_X12_0 rfl rfl dX12_object_2 hq (fun h1 hq => ?_)
  refine V_aload_n hC dX12_object_5 0 rfl ?_
  refine V_aload_n hC dX12_object_6 0 rfl ?_
  refine V_iload_n hC dX12_object_7 1 rfl ?_
  obtain ⟨hz, hq⟩ := hq
  refine clV_X12_no hG hC sv_X12_153 ⟨by decide, by decide⟩ (Nat.le_of_ble_eq_true rfl) ⟨by decide, by decide⟩ dX12_object_8 hz hq (fun r2 hq => ?_)
  show V G Γ 4 0 0 h1 11 [(0, .ref p0), (1, .int p1), (2, .int p2)] [.int r2, .ref p0]
  refine V_iconst (v := 1) hC dX12_object_11 (by decide) ?_
  obtain ⟨hz, hq⟩ := hq
  refine clV_X12_fails hG hC sv_X12_115 ⟨by decide, by decide⟩ (Nat.le_of_ble_eq_true rfl) ⟨by decide, by decide⟩ dX12_object_12 hz hq (fun r3 h4 hq => ?_)
  show V G Γ 4 0 0 h4 15 [(0, .ref p0), (1, .int p1), (2, .int p2)] [.int r3]
  refine V_if_ne (tgt := 30) hC dX12_object_15 (by decide) (fun hc => ?_) (fun hc => ?_)
  · have hq := hq.1 hc
    refine V_iconst (v := 0) hC dX12_object_30 (by decide) ?_
    exact V_iret hC hQ rfl rfl ⟨by decide, by decide⟩ dX12_object_31 ⟨_, rfl, hq⟩
  · have hq := hq.2 hc
    refine V_aload_n hC dX12_object_18 0 rfl ?_
    refine V_iload_n hC dX12_object_19 2 rfl ?_
    refine clS_X12_noChannel hG hC ss_X12_175 ⟨by decide, by decide⟩ (Nat.le_of_ble_eq_true rfl) ⟨by decide, by decide⟩ dX12_object_20 hq (fun r5 hq => ?_)
    show V G Γ 4 0 0 h4 23 [(0, .ref p0), (1, .int p1), (2, .int p2)] [.int r5, .ref p0]
    refine V_iconst (v := 2) hC dX12_object_23 (by decide) ?_
    obtain ⟨hz, hq⟩ := hq
    refine clV_X12_fails hG hC sv_X12_115 ⟨by decide, by decide⟩ (Nat.le_of_ble_eq_true rfl) ⟨by decide, by decide⟩ dX12_object_24 hz hq (fun r6 h7 hq => ?_)
    show V G Γ 4 0 0 h7 27 [(0, .ref p0), (1, .int p1), (2, .int p2)] [.int r6]
    refine V_if_eq (tgt := 32) hC dX12_object_27 (by decide) (fun hc => ?_) (fun hc => ?_)
    · have hq := hq.1 hc
      refine V_bipush (v := 8) hC dX12_object_32 (by decide) ?_
      refine V_iload_n hC dX12_object_34 1 rfl ?_
      refine V_imul hC dX12_object_35 ?_
      refine V_iload_n hC dX12_object_36 2 rfl ?_
      refine V_iadd hC dX12_object_37 ?_
      refine V_istore_n (L' := [(0, .ref p0), (1, .int p1), (2, .int p2), (3, .int ((8 * p1) + p2))]) hC dX12_object_38 rfl (by decide) [1, 2, 3, 0] rfl ?_
      refine V_aload_n hC dX12_object_39 0 rfl ?_
      refine V_aload_n hC dX12_object_40 0 rfl ?_
      refine U_getR hC fl_X12_55 dX12_object_41 hq (fun v8 hq => ?_)
      refine V_iload_n hC dX12_object_44 3 rfl ?_
      refine U_ldI hC dX12_object_45 hq (fun v9 hq => ?_)
      refine V_iconst (v := (-1)) hC dX12_object_46 (by decide) ?_
      have hq := hq (fun (t10 : Nat) (t11 : Int32) => V G Γ 4 0 0 h7 55 [(0, .ref p0), (3, .int ((8 * p1) + p2))] [.int t11, .ref t10]) (by
        intro t10 t11 hq
        show V G Γ 4 0 0 h7 55 [(0, .ref p0), (3, .int ((8 * p1) + p2))] [.int t11, .ref t10]
        refine V_iconst (v := 3) hC dX12_object_55 (by decide) ?_
        obtain ⟨hz, hq⟩ := hq
        refine clV_X12_fails hG hC sv_X12_115 ⟨by decide, by decide⟩ (Nat.le_of_ble_eq_true rfl) ⟨by decide, by decide⟩ dX12_object_56 hz hq (fun r12 h13 hq => ?_)
        show V G Γ 4 0 0 h13 59 [(0, .ref p0), (3, .int ((8 * p1) + p2))] [.int r12]
        refine V_if_ne (tgt := 77) hC dX12_object_59 (by decide) (fun hc => ?_) (fun hc => ?_)
        · have hq := hq.1 hc
          refine V_iconst (v := 0) hC dX12_object_77 (by decide) ?_
          exact V_iret hC hQ rfl rfl ⟨by decide, by decide⟩ dX12_object_78 ⟨_, rfl, hq⟩
        · have hq := hq.2 hc
          refine V_aload_n hC dX12_object_62 0 rfl ?_
          refine U_getI hC fl_X12_186 dX12_object_63 hq (fun v14 hq => ?_)
          refine V_aload_n hC dX12_object_66 0 rfl ?_
          refine U_getR hC fl_X12_55 dX12_object_67 hq (fun v15 hq => ?_)
          refine V_iload_n hC dX12_object_70 1 rfl ?_
          refine U_ldI hC dX12_object_71 hq (fun v16 hq => ?_)
          refine V_iconst (v := 2) hC dX12_object_72 (by decide) ?_
          refine V_iadd hC dX12_object_73 ?_
          refine V_icmp_le (tgt := 79) hC dX12_object_74 (by decide) (fun hc => ?_) (fun hc => ?_)
          · have hq := hq.1 hc
            refine V_aload_n hC dX12_object_79 0 rfl ?_
            refine U_getR hC fl_X12_58 dX12_object_80 hq (fun v17 hq => ?_)
            refine V_iload_n hC dX12_object_83 1 rfl ?_
            refine V_iconst (v := 1) hC dX12_object_84 (by decide) ?_
            refine U_stZ hC dX12_object_85 hq (fun h18 hq => ?_)
            refine V_iconst (v := 1) hC dX12_object_86 (by decide) ?_
            exact V_iret hC hQ rfl rfl ⟨by decide, by decide⟩ dX12_object_87 ⟨_, rfl, hq⟩
          · have hq := hq.2 hc
            refine V_iconst (v := 0) hC dX12_object_77 (by decide) ?_
            exact V_iret hC hQ rfl rfl ⟨by decide, by decide⟩ dX12_object_78 ⟨_, rfl, hq⟩)
      refine V_icmp_ne (tgt := 54) hC dX12_object_47 (by decide) (fun hc => ?_) (fun hc => ?_)
      · have hq := hq.1 hc
        refine V_iconst (v := 0) hC dX12_object_54 (by decide) ?_
        refine V_sub [0, 3] rfl ?_
        exact hq
      · have hq := hq.2 hc
        refine V_iconst (v := 1) hC dX12_object_50 (by decide) ?_
        refine V_goto (tgt := 55) hC dX12_object_51 (by decide) ?_
        refine V_sub [0, 3] rfl ?_
        exact hq
    · have hq := hq.2 hc
      refine V_iconst (v := 0) hC dX12_object_30 (by decide) ?_
      exact V_iret hC hQ rfl rfl ⟨by decide, by decide⟩ dX12_object_31 ⟨_, rfl, hq⟩
set_option maxRecDepth 100000 in
set_option maxHeartbeats 4000000 in
theorem ct_X12_hasYes {G : Gx} (hG : GOK G) (p0 : Nat) (p1 : Int32) (p2 : Int32) (h0 : hw) (post : Int32 → hw → Prop) (hq : wp_X12_hasYes G p0 p1 p2 h0 post) : CT G yX12_hasYes cX12_hasYes 3 (some .boolean) 3 73 0 0 [.ref p0, .int p1, .int p2] h0 (fun v h1 => ∃ r : Int32, v = some (.int r) ∧ post r h1) (fun E h1 => False) := by
  refine CT_of hG (by decide) (Nat.le_of_ble_eq_true rfl) (fun Γ hC hQ hN => ?_)
  have hC : COK G Γ "BandplanModel" cX12_hasYes 3 3 73 0 0 [] := hC
  unfold wp_X12_hasYes at hq
  show V G Γ 3 0 0 h0 0 [(0, .ref p0), (1, .int p1), (2, .int p2)] []
  refine V_aload_n hC dX12_hasYes_0 0 rfl ?_
  refine V_iconst (v := 0) hC dX12_hasYes_1 (by decide) ?_
  refine U_put hC fl_X12_98 fin_X12_0 rfl rfl dX12_hasYes_2 hq (fun h1 hq => ?_)
  refine V_aload_n hC dX12_hasYes_5 0 rfl ?_
  refine V_aload_n hC dX12_hasYes_6 0 rfl ?_
  refine V_iload_n hC dX12_hasYes_7 1 rfl ?_
  obtain ⟨hz, hq⟩ := hq
  refine clV_X12_no hG hC sv_X12_153 ⟨by decide, by decide⟩ (Nat.le_of_ble_eq_true rfl) ⟨by decide, by decide⟩ dX12_hasYes_8 hz hq (fun r2 hq => ?_)
  show V G Γ 3 0 0 h1 11 [(0, .ref p0), (1, .int p1), (2, .int p2)] [.int r2, .ref p0]
  refine V_iconst (v := 1) hC dX12_hasYes_11 (by decide) ?_
  obtain ⟨hz, hq⟩ := hq
  refine clV_X12_fails hG hC sv_X12_115 ⟨by decide, by decide⟩ (Nat.le_of_ble_eq_true rfl) ⟨by decide, by decide⟩ dX12_hasYes_12 hz hq (fun r3 h4 hq => ?_)
  show V G Γ 3 0 0 h4 15 [(0, .ref p0), (1, .int p1), (2, .int p2)] [.int r3]
  have hq := hq (fun (h5 : hw) => V G Γ 3 0 0 h5 43 [] []) (by
    intro h5 hq
    show V G Γ 3 0 0 h5 43 [] []
    refine V_iconst (v := 0) hC dX12_hasYes_43 (by decide) ?_
    exact V_iret hC hQ rfl rfl ⟨by decide, by decide⟩ dX12_hasYes_44 ⟨_, rfl, hq⟩)
  refine V_if_ne (tgt := 43) hC dX12_hasYes_15 (by decide) (fun hc => ?_) (fun hc => ?_)
  · have hq := hq.1 hc
    refine V_sub [] rfl ?_
    exact hq
  · have hq := hq.2 hc
    refine V_aload_n hC dX12_hasYes_18 0 rfl ?_
    refine V_iload_n hC dX12_hasYes_19 2 rfl ?_
    refine clS_X12_noChannel hG hC ss_X12_175 ⟨by decide, by decide⟩ (Nat.le_of_ble_eq_true rfl) ⟨by decide, by decide⟩ dX12_hasYes_20 hq (fun r6 hq => ?_)
    show V G Γ 3 0 0 h4 23 [(0, .ref p0), (1, .int p1), (2, .int p2)] [.int r6, .ref p0]
    refine V_iconst (v := 2) hC dX12_hasYes_23 (by decide) ?_
    obtain ⟨hz, hq⟩ := hq
    refine clV_X12_fails hG hC sv_X12_115 ⟨by decide, by decide⟩ (Nat.le_of_ble_eq_true rfl) ⟨by decide, by decide⟩ dX12_hasYes_24 hz hq (fun r7 h8 hq => ?_)
    show V G Γ 3 0 0 h8 27 [(0, .ref p0), (1, .int p1), (2, .int p2)] [.int r7]
    refine V_if_ne (tgt := 43) hC dX12_hasYes_27 (by decide) (fun hc => ?_) (fun hc => ?_)
    · have hq := hq.1 hc
      refine V_sub [] rfl ?_
      exact hq
    · have hq := hq.2 hc
      refine V_aload_n hC dX12_hasYes_30 0 rfl ?_
      refine V_iload_n hC dX12_hasYes_31 1 rfl ?_
      refine V_iload_n hC dX12_hasYes_32 2 rfl ?_
      obtain ⟨hz, hq⟩ := hq
      refine clV_X12_hasYesFor hG hC sv_X12_198 ⟨by decide, by decide⟩ (Nat.le_of_ble_eq_true rfl) ⟨by decide, by decide⟩ dX12_hasYes_33 hz hq (fun r9 hq => ?_)
      show V G Γ 3 0 0 h8 36 [(0, .ref p0), (1, .int p1), (2, .int p2)] [.int r9]
      refine V_if_eq (tgt := 43) hC dX12_hasYes_36 (by decide) (fun hc => ?_) (fun hc => ?_)
      · have hq := hq.1 hc
        refine V_sub [] rfl ?_
        exact hq
      · have hq := hq.2 hc
        refine V_iconst (v := 1) hC dX12_hasYes_39 (by decide) ?_
        refine V_goto (tgt := 44) hC dX12_hasYes_40 (by decide) ?_
        exact V_iret hC hQ rfl rfl ⟨by decide, by decide⟩ dX12_hasYes_44 ⟨_, rfl, hq⟩
set_option maxRecDepth 100000 in
set_option maxHeartbeats 4000000 in
theorem ct_X12_goOn {G : Gx} (hG : GOK G) (p0 : Nat) (p1 : Int32) (h0 : hw) (post : Int32 → hw → Prop) (hq : wp_X12_goOn G p0 p1 h0 post) : CT G yX12_goOn cX12_goOn 2 (some .int) 2 52 0 0 [.ref p0, .int p1] h0 (fun v h1 => ∃ r : Int32, v = some (.int r) ∧ post r h1) (fun E h1 => False) := by
  refine CT_of hG (by decide) (Nat.le_of_ble_eq_true rfl) (fun Γ hC hQ hN => ?_)
  have hC : COK G Γ "BandplanModel" cX12_goOn 2 2 52 0 0 [] := hC
  unfold wp_X12_goOn at hq
  show V G Γ 2 0 0 h0 0 [(0, .ref p0), (1, .int p1)] []
  refine V_aload_n hC dX12_goOn_0 0 rfl ?_
  refine V_iconst (v := 0) hC dX12_goOn_1 (by decide) ?_
  refine U_put hC fl_X12_98 fin_X12_0 rfl rfl dX12_goOn_2 hq (fun h1 hq => ?_)
  refine V_aload_n hC dX12_goOn_5 0 rfl ?_
  refine V_iload_n hC dX12_goOn_6 1 rfl ?_
  refine V_iconst (v := 1) hC dX12_goOn_7 (by decide) ?_
  refine V_bipush (v := 99) hC dX12_goOn_8 (by decide) ?_
  refine clS_X12_in hG hC ss_X12_101 ⟨by decide, by decide⟩ (Nat.le_of_ble_eq_true rfl) ⟨by decide, by decide⟩ dX12_goOn_10 hq (fun r2 hq => ?_)
  show V G Γ 2 0 0 h1 13 [(0, .ref p0), (1, .int p1)] [.int r2, .ref p0]
  have hq := hq (fun (t3 : Nat) (t4 : Int32) => V G Γ 2 0 0 h1 21 [(0, .ref p0), (1, .int p1)] [.int t4, .ref t3]) (by
    intro t3 t4 hq
    show V G Γ 2 0 0 h1 21 [(0, .ref p0), (1, .int p1)] [.int t4, .ref t3]
    refine V_iconst (v := 1) hC dX12_goOn_21 (by decide) ?_
    obtain ⟨hz, hq⟩ := hq
    refine clV_X12_fails hG hC sv_X12_115 ⟨by decide, by decide⟩ (Nat.le_of_ble_eq_true rfl) ⟨by decide, by decide⟩ dX12_goOn_22 hz hq (fun r5 h6 hq => ?_)
    show V G Γ 2 0 0 h6 25 [(0, .ref p0), (1, .int p1)] [.int r5]
    refine V_if_eq (tgt := 30) hC dX12_goOn_25 (by decide) (fun hc => ?_) (fun hc => ?_)
    · have hq := hq.1 hc
      refine V_aload_n hC dX12_goOn_30 0 rfl ?_
      refine V_dup hC dX12_goOn_31 rfl ?_
      refine U_getI hC fl_X12_186 dX12_goOn_32 hq (fun v7 hq => ?_)
      refine V_iload_n hC dX12_goOn_35 1 rfl ?_
      refine V_iadd hC dX12_goOn_36 ?_
      refine U_put hC fl_X12_186 fin_X12_1 rfl rfl dX12_goOn_37 hq (fun h8 hq => ?_)
      refine V_aload_n hC dX12_goOn_40 0 rfl ?_
      refine U_getI hC fl_X12_186 dX12_goOn_41 hq (fun v9 hq => ?_)
      exact V_iret hC hQ rfl rfl ⟨by decide, by decide⟩ dX12_goOn_44 ⟨_, rfl, hq⟩
    · have hq := hq.2 hc
      refine V_iconst (v := 0) hC dX12_goOn_28 (by decide) ?_
      exact V_iret hC hQ rfl rfl ⟨by decide, by decide⟩ dX12_goOn_29 ⟨_, rfl, hq⟩)
  refine V_if_ne (tgt := 20) hC dX12_goOn_13 (by decide) (fun hc => ?_) (fun hc => ?_)
  · have hq := hq.1 hc
    refine V_iconst (v := 0) hC dX12_goOn_20 (by decide) ?_
    exact hq
  · have hq := hq.2 hc
    refine V_iconst (v := 1) hC dX12_goOn_16 (by decide) ?_
    refine V_goto (tgt := 21) hC dX12_goOn_17 (by decide) ?_
    exact hq
set_option maxRecDepth 100000 in
set_option maxHeartbeats 4000000 in
theorem ct_X12_fits {G : Gx} (hG : GOK G) (p0 : Nat) (p1 : Int32) (h0 : hw) (post : Int32 → Prop) (hq : wp_X12_fits G p0 p1 h0 post) : CT G yX12_fits cX12_fits 4 (some .boolean) 5 135 0 0 [.ref p0, .int p1] h0 (fun v h1 => ∃ r : Int32, v = some (.int r) ∧ h1 = h0 ∧ post r) (fun E h1 => False) := by
  refine CT_of hG (by decide) (Nat.le_of_ble_eq_true rfl) (fun Γ hC hQ hN => ?_)
  have hC : COK G Γ "BandplanModel" cX12_fits 4 5 135 0 0 [] := hC
  unfold wp_X12_fits at hq
  show V G Γ 4 0 0 h0 0 [(0, .ref p0), (1, .int p1)] []
  refine V_iconst (v := 1) hC dX12_fits_0 (by decide) ?_
  refine V_istore_n (L' := [(0, .ref p0), (1, .int p1), (2, .int 1)]) hC dX12_fits_1 rfl (by decide) [1, 2, 0] rfl ?_
  refine V_iconst (v := 0) hC dX12_fits_2 (by decide) ?_
  refine V_istore_n (L' := [(0, .ref p0), (1, .int p1), (2, .int 1), (3, .int 0)]) hC dX12_fits_3 rfl (by decide) [1, 2, 3, 0] rfl ?_
  have hq := hq (fun (x2_1 : Int32) (x3_2 : Int32) => V G Γ 4 0 0 h0 4 [(0, .ref p0), (1, .int p1), (2, .int x2_1), (3, .int x3_2)] []) (by
    intro x2_1 x3_2 hq
    show V G Γ 4 0 0 h0 4 [(0, .ref p0), (1, .int p1), (2, .int x2_1), (3, .int x3_2)] []
    refine V_iload_n hC dX12_fits_4 3 rfl ?_
    refine V_iload_n hC dX12_fits_5 1 rfl ?_
    refine V_icmp_ge (tgt := 55) hC dX12_fits_6 (by decide) (fun hc => ?_) (fun hc => ?_)
    · have hq := hq.1 hc
      refine V_iload_n hC dX12_fits_55 2 rfl ?_
      obtain ⟨hz, hq⟩ := hq
      exact V_iret hC hQ rfl (nar_b hz) ⟨by decide, by decide⟩ dX12_fits_56 ⟨_, rfl, rfl, hq⟩
    · have hq := hq.2 hc
      refine V_iload_n hC dX12_fits_9 2 rfl ?_
      have hq := hq (fun (t3 : Int32) => V G Γ 4 0 0 h0 48 [(0, .ref p0), (1, .int p1), (3, .int x3_2)] [.int t3]) (by
        intro t3 hq
        show V G Γ 4 0 0 h0 48 [(0, .ref p0), (1, .int p1), (3, .int x3_2)] [.int t3]
        refine V_istore_n (L' := [(0, .ref p0), (1, .int p1), (2, .int t3), (3, .int x3_2)]) hC dX12_fits_48 rfl (by decide) [1, 2, 0, 3] rfl ?_
        refine V_iinc (j := 3) (v := (x3_2 + 1)) (L' := [(0, .ref p0), (1, .int p1), (2, .int t3), (3, .int (x3_2 + 1))]) hC dX12_fits_49 rfl rfl (by decide) [1, 2, 3, 0] rfl ?_
        refine V_goto (tgt := 4) hC dX12_fits_52 (by decide) ?_
        exact hq)
      have hq := hq (V G Γ 4 0 0 h0 47 [(0, .ref p0), (1, .int p1), (3, .int x3_2)] []) (by
        intro hq
        show V G Γ 4 0 0 h0 47 [(0, .ref p0), (1, .int p1), (3, .int x3_2)] []
        refine V_iconst (v := 0) hC dX12_fits_47 (by decide) ?_
        exact hq)
      refine V_if_eq (tgt := 47) hC dX12_fits_10 (by decide) (fun hc => ?_) (fun hc => ?_)
      · have hq := hq.1 hc
        refine V_sub [0, 1, 3] rfl ?_
        exact hq
      · have hq := hq.2 hc
        refine V_aload_n hC dX12_fits_13 0 rfl ?_
        refine U_getR hC fl_X12_80 dX12_fits_14 hq (fun v4 hq => ?_)
        refine V_iload_n hC dX12_fits_17 3 rfl ?_
        refine U_ldZ hC dX12_fits_18 hq (fun v5 hq => ?_)
        have hq := hq (V G Γ 4 0 0 h0 43 [(0, .ref p0), (1, .int p1), (3, .int x3_2)] []) (by
          intro hq
          show V G Γ 4 0 0 h0 43 [(0, .ref p0), (1, .int p1), (3, .int x3_2)] []
          refine V_iconst (v := 1) hC dX12_fits_43 (by decide) ?_
          refine V_goto (tgt := 48) hC dX12_fits_44 (by decide) ?_
          exact hq)
        refine V_if_eq (tgt := 43) hC dX12_fits_19 (by decide) (fun hc => ?_) (fun hc => ?_)
        · have hq := hq.1 hc
          refine V_sub [0, 1, 3] rfl ?_
          exact hq
        · have hq := hq.2 hc
          refine V_aload_n hC dX12_fits_22 0 rfl ?_
          refine V_iload_n hC dX12_fits_23 3 rfl ?_
          refine V_aload_n hC dX12_fits_24 0 rfl ?_
          refine U_getR hC fl_X12_83 dX12_fits_25 hq (fun v6 hq => ?_)
          refine V_iload_n hC dX12_fits_28 3 rfl ?_
          refine U_ldI hC dX12_fits_29 hq (fun v7 hq => ?_)
          refine V_iload_n hC dX12_fits_30 1 rfl ?_
          refine V_aload_n hC dX12_fits_31 0 rfl ?_
          refine U_getR hC fl_X12_83 dX12_fits_32 hq (fun v8 hq => ?_)
          refine V_iload_n hC dX12_fits_35 1 rfl ?_
          refine U_ldI hC dX12_fits_36 hq (fun v9 hq => ?_)
          obtain ⟨hz, hq⟩ := hq
          refine clV_X12_areBarred hG hC sv_X12_178 ⟨by decide, by decide⟩ (Nat.le_of_ble_eq_true rfl) ⟨by decide, by decide⟩ dX12_fits_37 hz hq (fun r10 hq => ?_)
          show V G Γ 4 0 0 h0 40 [(0, .ref p0), (1, .int p1), (2, .int x2_1), (3, .int x3_2)] [.int r10]
          refine V_if_ne (tgt := 47) hC dX12_fits_40 (by decide) (fun hc => ?_) (fun hc => ?_)
          · have hq := hq.1 hc
            refine V_sub [0, 1, 3] rfl ?_
            exact hq
          · have hq := hq.2 hc
            refine V_sub [0, 1, 3] rfl ?_
            exact hq)
  exact hq
theorem clV_X12_fits {G : Gx} (hG : GOK G) {Γ : Cx} {own : String} {cc : ByteArray} {nL fr lo mc ms cells slots pc : Nat} {hh : List (Nat × Nat × Nat × Nat)} {h : hw} {L : List (Nat × Value)} {rest : List Value} (hC : COK G Γ own cc nL fr lo mc ms hh) {idx : Nat} (hs : SV own idx yX12_fits cX12_fits 4 (some .boolean) 1) {p0 : Nat} {p1 : Int32} (hR : 5 + 1 ≤ fr ∧ 8 + (4 + 11) + 135 ≤ lo) (hw8 : (rest.map fun v => v.category).sum ≤ 8) (hcs : cells + 0 ≤ mc ∧ slots + 0 ≤ ms) (hdg : decode cc pc = .ok (.invokevirtual idx, 3)) (ho : isO h p0 12) {post : Int32 → Prop} (hq : wp_X12_fits G p0 p1 h post) (kk : ∀ (r : Int32) , post r → V G Γ nL (cells + 0) (slots + 0) h (pc + 3) L (.int r :: rest)) : V G Γ nL cells slots h pc L (.int p1 :: .ref p0 :: rest) :=
  V_callV (As := [.int p1]) (r9 := (RX12, TX12, 36)) hC (ct_X12_fits hG p0 p1 h post hq) hs ho rfl rfl rfl hR hw8 hcs hdg (fun E h1 z => z.elim) (fun v h1 z => by obtain ⟨r, rfl, rfl, hz⟩ := z; exact kk r hz)
set_option maxRecDepth 100000 in
set_option maxHeartbeats 4000000 in
theorem ct_X12_packs {G : Gx} (hG : GOK G) : ∀ (d : Nat) (p0 : Nat) (p1 : Int32) (p2 : Int32) (h0 : hw) (post : Int32 → hw → Prop) (hq : wp_X12_packs G d p0 p1 p2 h0 post), CT G yX12_packs cX12_packs 4 (some .boolean) (6 + d) (158 + d * 23) 0 0 [.ref p0, .int p1, .int p2] h0 (fun v h1 => ∃ r : Int32, v = some (.int r) ∧ post r h1) (fun E h1 => False) := by
  intro d
  induction d with
  | zero => intro p0 p1 p2 h0 post hq; exact hq.elim
  | succ d ih =>
    intro p0 p1 p2 h0 post hq
    refine CT_of hG (by decide) (Nat.le_of_ble_eq_true rfl) (fun Γ hC hQ hN => ?_)
    have hC : COK G Γ "BandplanModel" cX12_packs 4 (6 + (d + 1)) (158 + (d + 1) * 23) 0 0 [] := hC
    simp only [wp_X12_packs] at hq
    show V G Γ 4 0 0 h0 0 [(0, .ref p0), (1, .int p1), (2, .int p2)] []
    refine V_iload_n hC dX12_packs_0 1 rfl ?_
    refine V_aload_n hC dX12_packs_1 0 rfl ?_
    refine U_getI hC fl_X12_108 dX12_packs_2 hq (fun v1 hq => ?_)
    refine V_icmp_ne (tgt := 10) hC dX12_packs_5 (by decide) (fun hc => ?_) (fun hc => ?_)
    · have hq := hq.1 hc
      refine V_aload_n hC dX12_packs_10 0 rfl ?_
      refine U_getR hC fl_X12_80 dX12_packs_11 hq (fun v2 hq => ?_)
      refine V_iload_n hC dX12_packs_14 1 rfl ?_
      refine U_ldZ hC dX12_packs_15 hq (fun v3 hq => ?_)
      refine V_if_ne (tgt := 28) hC dX12_packs_16 (by decide) (fun hc => ?_) (fun hc => ?_)
      · have hq := hq.1 hc
        refine V_iconst (v := 0) hC dX12_packs_28 (by decide) ?_
        refine V_istore_n (L' := [(0, .ref p0), (1, .int p1), (2, .int p2), (3, .int 0)]) hC dX12_packs_29 rfl (by decide) [1, 2, 3, 0] rfl ?_
        have hq := hq (fun (x3_4 : Int32) (h5 : hw) => V G Γ 4 0 0 h5 30 [(0, .ref p0), (1, .int p1), (2, .int p2), (3, .int x3_4)] []) (by
          intro x3_4 h5 hq
          show V G Γ 4 0 0 h5 30 [(0, .ref p0), (1, .int p1), (2, .int p2), (3, .int x3_4)] []
          refine V_iload_n hC dX12_packs_30 3 rfl ?_
          refine V_iload_n hC dX12_packs_31 2 rfl ?_
          refine V_icmp_ge (tgt := 69) hC dX12_packs_32 (by decide) (fun hc => ?_) (fun hc => ?_)
          · have hq := hq.1 hc
            refine V_iconst (v := 0) hC dX12_packs_69 (by decide) ?_
            exact V_iret hC hQ rfl rfl ⟨by decide, by decide⟩ dX12_packs_70 ⟨_, rfl, hq⟩
          · have hq := hq.2 hc
            refine V_aload_n hC dX12_packs_35 0 rfl ?_
            refine U_getR hC fl_X12_83 dX12_packs_36 hq (fun v6 hq => ?_)
            refine V_iload_n hC dX12_packs_39 1 rfl ?_
            refine V_iload_n hC dX12_packs_40 3 rfl ?_
            refine U_stI hC dX12_packs_41 hq (fun h7 hq => ?_)
            refine V_aload_n hC dX12_packs_42 0 rfl ?_
            refine V_iload_n hC dX12_packs_43 1 rfl ?_
            obtain ⟨hz, hq⟩ := hq
            refine clV_X12_fits hG hC sv_X12_221 ⟨by omega, by omega⟩ (Nat.le_of_ble_eq_true rfl) ⟨by decide, by decide⟩ dX12_packs_44 hz hq (fun r8 hq => ?_)
            show V G Γ 4 0 0 h7 47 [(0, .ref p0), (1, .int p1), (2, .int p2), (3, .int x3_4)] [.int r8]
            have hq := hq (fun (h9 : hw) => V G Γ 4 0 0 h9 63 [(0, .ref p0), (1, .int p1), (2, .int p2), (3, .int x3_4)] []) (by
              intro h9 hq
              show V G Γ 4 0 0 h9 63 [(0, .ref p0), (1, .int p1), (2, .int p2), (3, .int x3_4)] []
              refine V_iinc (j := 3) (v := (x3_4 + 1)) (L' := [(0, .ref p0), (1, .int p1), (2, .int p2), (3, .int (x3_4 + 1))]) hC dX12_packs_63 rfl rfl (by decide) [1, 2, 3, 0] rfl ?_
              refine V_goto (tgt := 30) hC dX12_packs_66 (by decide) ?_
              exact hq)
            refine V_if_eq (tgt := 63) hC dX12_packs_47 (by decide) (fun hc => ?_) (fun hc => ?_)
            · have hq := hq.1 hc
              exact hq
            · have hq := hq.2 hc
              refine V_aload_n hC dX12_packs_50 0 rfl ?_
              refine V_iload_n hC dX12_packs_51 1 rfl ?_
              refine V_iconst (v := 1) hC dX12_packs_52 (by decide) ?_
              refine V_iadd hC dX12_packs_53 ?_
              refine V_iload_n hC dX12_packs_54 2 rfl ?_
              obtain ⟨hz, hq⟩ := hq
              refine V_callV (As := [.int (p1 + 1), .int p2]) (r9 := (RX12, TX12, 36)) hC (ih _ _ _ _ _ hq) sv_X12_218 hz rfl rfl rfl ⟨by omega, by omega⟩ (Nat.le_of_ble_eq_true rfl) ⟨by decide, by decide⟩ dX12_packs_55 (fun E h1 z => z.elim) (fun v h11 z => ?_)
              obtain ⟨r10, rfl, hq⟩ := z
              show V G Γ 4 0 0 h11 58 [(0, .ref p0), (1, .int p1), (2, .int p2), (3, .int x3_4)] [.int r10]
              refine V_if_eq (tgt := 63) hC dX12_packs_58 (by decide) (fun hc => ?_) (fun hc => ?_)
              · have hq := hq.1 hc
                exact hq
              · have hq := hq.2 hc
                refine V_iconst (v := 1) hC dX12_packs_61 (by decide) ?_
                exact V_iret hC hQ rfl rfl ⟨by decide, by decide⟩ dX12_packs_62 ⟨_, rfl, hq⟩)
        exact hq
      · have hq := hq.2 hc
        refine V_aload_n hC dX12_packs_19 0 rfl ?_
        refine V_iload_n hC dX12_packs_20 1 rfl ?_
        refine V_iconst (v := 1) hC dX12_packs_21 (by decide) ?_
        refine V_iadd hC dX12_packs_22 ?_
        refine V_iload_n hC dX12_packs_23 2 rfl ?_
        obtain ⟨hz, hq⟩ := hq
        refine V_callV (As := [.int (p1 + 1), .int p2]) (r9 := (RX12, TX12, 36)) hC (ih _ _ _ _ _ hq) sv_X12_218 hz rfl rfl rfl ⟨by omega, by omega⟩ (Nat.le_of_ble_eq_true rfl) ⟨by decide, by decide⟩ dX12_packs_24 (fun E h1 z => z.elim) (fun v h13 z => ?_)
        obtain ⟨r12, rfl, hq⟩ := z
        show V G Γ 4 0 0 h13 27 [(0, .ref p0), (1, .int p1), (2, .int p2)] [.int r12]
        obtain ⟨hz, hq⟩ := hq
        exact V_iret hC hQ rfl (nar_b hz) ⟨by decide, by decide⟩ dX12_packs_27 ⟨_, rfl, hq⟩
    · have hq := hq.2 hc
      refine V_iconst (v := 1) hC dX12_packs_8 (by decide) ?_
      exact V_iret hC hQ rfl rfl ⟨by decide, by decide⟩ dX12_packs_9 ⟨_, rfl, hq⟩
theorem clV_X12_packs {G : Gx} (hG : GOK G) {Γ : Cx} {own : String} {cc : ByteArray} {nL fr lo mc ms cells slots pc : Nat} {hh : List (Nat × Nat × Nat × Nat)} {h : hw} {L : List (Nat × Value)} {rest : List Value} (hC : COK G Γ own cc nL fr lo mc ms hh) {idx : Nat} (hs : SV own idx yX12_packs cX12_packs 4 (some .boolean) 2) {p0 : Nat} {p1 : Int32} {p2 : Int32} (hR : 16 + 1 ≤ fr ∧ 8 + (4 + 11) + 388 ≤ lo) (hw8 : (rest.map fun v => v.category).sum ≤ 8) (hcs : cells + 0 ≤ mc ∧ slots + 0 ≤ ms) (hdg : decode cc pc = .ok (.invokevirtual idx, 3)) (ho : isO h p0 12) {post : Int32 → hw → Prop} (hq : wp_X12_packs G 10 p0 p1 p2 h post) (kk : ∀ (r : Int32) (h1 : hw) , post r h1 → V G Γ nL (cells + 0) (slots + 0) h1 (pc + 3) L (.int r :: rest)) : V G Γ nL cells slots h pc L (.int p2 :: .int p1 :: .ref p0 :: rest) :=
  V_callV (As := [.int p1, .int p2]) (r9 := (RX12, TX12, 36)) hC (ct_X12_packs hG 10 p0 p1 p2 h post hq) hs ho rfl rfl rfl hR hw8 hcs hdg (fun E h1 z => z.elim) (fun v h1 z => by obtain ⟨r, rfl, hz⟩ := z; exact kk r h1 hz)
set_option maxRecDepth 100000 in
set_option maxHeartbeats 4000000 in
theorem ct_X12_packsAll {G : Gx} (hG : GOK G) (p0 : Nat) (p1 : Int32) (h0 : hw) (post : Int32 → hw → Prop) (hq : wp_X12_packsAll G p0 p1 h0 post) : CT G yX12_packsAll cX12_packsAll 3 (some .boolean) 17 411 0 0 [.ref p0, .int p1] h0 (fun v h1 => ∃ r : Int32, v = some (.int r) ∧ post r h1) (fun E h1 => False) := by
  refine CT_of hG (by decide) (Nat.le_of_ble_eq_true rfl) (fun Γ hC hQ hN => ?_)
  have hC : COK G Γ "BandplanModel" cX12_packsAll 3 17 411 0 0 [] := hC
  unfold wp_X12_packsAll at hq
  show V G Γ 3 0 0 h0 0 [(0, .ref p0), (1, .int p1)] []
  refine V_iconst (v := 0) hC dX12_packsAll_0 (by decide) ?_
  refine V_istore_n (L' := [(0, .ref p0), (1, .int p1), (2, .int 0)]) hC dX12_packsAll_1 rfl (by decide) [1, 2, 0] rfl ?_
  have hq := hq (fun (x2_1 : Int32) (h2 : hw) => V G Γ 3 0 0 h2 2 [(0, .ref p0), (1, .int p1), (2, .int x2_1)] []) (by
    intro x2_1 h2 hq
    show V G Γ 3 0 0 h2 2 [(0, .ref p0), (1, .int p1), (2, .int x2_1)] []
    refine V_iload_n hC dX12_packsAll_2 2 rfl ?_
    refine V_aload_n hC dX12_packsAll_3 0 rfl ?_
    refine U_getI hC fl_X12_108 dX12_packsAll_4 hq (fun v3 hq => ?_)
    refine V_icmp_ge (tgt := 28) hC dX12_packsAll_7 (by decide) (fun hc => ?_) (fun hc => ?_)
    · have hq := hq.1 hc
      refine V_aload_n hC dX12_packsAll_28 0 rfl ?_
      refine V_iconst (v := 0) hC dX12_packsAll_29 (by decide) ?_
      refine V_iload_n hC dX12_packsAll_30 1 rfl ?_
      obtain ⟨hz, hq⟩ := hq
      refine clV_X12_packs hG hC sv_X12_218 ⟨by decide, by decide⟩ (Nat.le_of_ble_eq_true rfl) ⟨by decide, by decide⟩ dX12_packsAll_31 hz hq (fun r4 h5 hq => ?_)
      show V G Γ 3 0 0 h5 34 [(0, .ref p0), (1, .int p1), (2, .int x2_1)] [.int r4]
      obtain ⟨hz, hq⟩ := hq
      exact V_iret hC hQ rfl (nar_b hz) ⟨by decide, by decide⟩ dX12_packsAll_34 ⟨_, rfl, hq⟩
    · have hq := hq.2 hc
      refine V_aload_n hC dX12_packsAll_10 0 rfl ?_
      refine U_getR hC fl_X12_80 dX12_packsAll_11 hq (fun v6 hq => ?_)
      refine V_iload_n hC dX12_packsAll_14 2 rfl ?_
      refine V_aload_n hC dX12_packsAll_15 0 rfl ?_
      refine U_getR hC fl_X12_35 dX12_packsAll_16 hq (fun v7 hq => ?_)
      refine V_iload_n hC dX12_packsAll_19 2 rfl ?_
      refine U_ldZ hC dX12_packsAll_20 hq (fun v8 hq => ?_)
      refine U_stZ hC dX12_packsAll_21 hq (fun h9 hq => ?_)
      refine V_iinc (j := 2) (v := (x2_1 + 1)) (L' := [(0, .ref p0), (1, .int p1), (2, .int (x2_1 + 1))]) hC dX12_packsAll_22 rfl rfl (by decide) [1, 2, 0] rfl ?_
      refine V_goto (tgt := 2) hC dX12_packsAll_25 (by decide) ?_
      exact hq)
  exact hq
theorem clV_X12_packsAll {G : Gx} (hG : GOK G) {Γ : Cx} {own : String} {cc : ByteArray} {nL fr lo mc ms cells slots pc : Nat} {hh : List (Nat × Nat × Nat × Nat)} {h : hw} {L : List (Nat × Value)} {rest : List Value} (hC : COK G Γ own cc nL fr lo mc ms hh) {idx : Nat} (hs : SV own idx yX12_packsAll cX12_packsAll 3 (some .boolean) 1) {p0 : Nat} {p1 : Int32} (hR : 17 + 1 ≤ fr ∧ 8 + (3 + 11) + 411 ≤ lo) (hw8 : (rest.map fun v => v.category).sum ≤ 8) (hcs : cells + 0 ≤ mc ∧ slots + 0 ≤ ms) (hdg : decode cc pc = .ok (.invokevirtual idx, 3)) (ho : isO h p0 12) {post : Int32 → hw → Prop} (hq : wp_X12_packsAll G p0 p1 h post) (kk : ∀ (r : Int32) (h1 : hw) , post r h1 → V G Γ nL (cells + 0) (slots + 0) h1 (pc + 3) L (.int r :: rest)) : V G Γ nL cells slots h pc L (.int p1 :: .ref p0 :: rest) :=
  V_callV (As := [.int p1]) (r9 := (RX12, TX12, 36)) hC (ct_X12_packsAll hG p0 p1 h post hq) hs ho rfl rfl rfl hR hw8 hcs hdg (fun E h1 z => z.elim) (fun v h1 z => by obtain ⟨r, rfl, hz⟩ := z; exact kk r h1 hz)
set_option maxRecDepth 100000 in
set_option maxHeartbeats 4000000 in
theorem ct_X12_canPack {G : Gx} (hG : GOK G) (p0 : Nat) (p1 : Int32) (h0 : hw) (post : Int32 → hw → Prop) (hq : wp_X12_canPack G p0 p1 h0 post) : CT G yX12_canPack cX12_canPack 2 (some .boolean) 18 433 0 0 [.ref p0, .int p1] h0 (fun v h1 => ∃ r : Int32, v = some (.int r) ∧ post r h1) (fun E h1 => False) := by
  refine CT_of hG (by decide) (Nat.le_of_ble_eq_true rfl) (fun Γ hC hQ hN => ?_)
  have hC : COK G Γ "BandplanModel" cX12_canPack 2 18 433 0 0 [] := hC
  unfold wp_X12_canPack at hq
  show V G Γ 2 0 0 h0 0 [(0, .ref p0), (1, .int p1)] []
  refine V_aload_n hC dX12_canPack_0 0 rfl ?_
  refine V_iconst (v := 0) hC dX12_canPack_1 (by decide) ?_
  refine U_put hC fl_X12_98 fin_X12_0 rfl rfl dX12_canPack_2 hq (fun h1 hq => ?_)
  refine V_aload_n hC dX12_canPack_5 0 rfl ?_
  refine V_iload_n hC dX12_canPack_6 1 rfl ?_
  refine V_iconst (v := 1) hC dX12_canPack_7 (by decide) ?_
  refine V_bipush (v := 8) hC dX12_canPack_8 (by decide) ?_
  refine clS_X12_in hG hC ss_X12_101 ⟨by decide, by decide⟩ (Nat.le_of_ble_eq_true rfl) ⟨by decide, by decide⟩ dX12_canPack_10 hq (fun r2 hq => ?_)
  show V G Γ 2 0 0 h1 13 [(0, .ref p0), (1, .int p1)] [.int r2, .ref p0]
  have hq := hq (fun (t3 : Nat) (t4 : Int32) => V G Γ 2 0 0 h1 21 [(0, .ref p0), (1, .int p1)] [.int t4, .ref t3]) (by
    intro t3 t4 hq
    show V G Γ 2 0 0 h1 21 [(0, .ref p0), (1, .int p1)] [.int t4, .ref t3]
    refine V_iconst (v := 1) hC dX12_canPack_21 (by decide) ?_
    obtain ⟨hz, hq⟩ := hq
    refine clV_X12_fails hG hC sv_X12_115 ⟨by decide, by decide⟩ (Nat.le_of_ble_eq_true rfl) ⟨by decide, by decide⟩ dX12_canPack_22 hz hq (fun r5 h6 hq => ?_)
    show V G Γ 2 0 0 h6 25 [(0, .ref p0), (1, .int p1)] [.int r5]
    have hq := hq (fun (h7 : hw) => V G Γ 2 0 0 h7 40 [] []) (by
      intro h7 hq
      show V G Γ 2 0 0 h7 40 [] []
      refine V_iconst (v := 0) hC dX12_canPack_40 (by decide) ?_
      exact V_iret hC hQ rfl rfl ⟨by decide, by decide⟩ dX12_canPack_41 ⟨_, rfl, hq⟩)
    refine V_if_ne (tgt := 40) hC dX12_canPack_25 (by decide) (fun hc => ?_) (fun hc => ?_)
    · have hq := hq.1 hc
      refine V_sub [] rfl ?_
      exact hq
    · have hq := hq.2 hc
      refine V_aload_n hC dX12_canPack_28 0 rfl ?_
      refine V_iload_n hC dX12_canPack_29 1 rfl ?_
      obtain ⟨hz, hq⟩ := hq
      refine clV_X12_packsAll hG hC sv_X12_224 ⟨by decide, by decide⟩ (Nat.le_of_ble_eq_true rfl) ⟨by decide, by decide⟩ dX12_canPack_30 hz hq (fun r8 h9 hq => ?_)
      show V G Γ 2 0 0 h9 33 [(0, .ref p0), (1, .int p1)] [.int r8]
      refine V_if_eq (tgt := 40) hC dX12_canPack_33 (by decide) (fun hc => ?_) (fun hc => ?_)
      · have hq := hq.1 hc
        refine V_sub [] rfl ?_
        exact hq
      · have hq := hq.2 hc
        refine V_iconst (v := 1) hC dX12_canPack_36 (by decide) ?_
        refine V_goto (tgt := 41) hC dX12_canPack_37 (by decide) ?_
        exact V_iret hC hQ rfl rfl ⟨by decide, by decide⟩ dX12_canPack_41 ⟨_, rfl, hq⟩)
  refine V_if_ne (tgt := 20) hC dX12_canPack_13 (by decide) (fun hc => ?_) (fun hc => ?_)
  · have hq := hq.1 hc
    refine V_iconst (v := 0) hC dX12_canPack_20 (by decide) ?_
    exact hq
  · have hq := hq.2 hc
    refine V_iconst (v := 1) hC dX12_canPack_16 (by decide) ?_
    refine V_goto (tgt := 21) hC dX12_canPack_17 (by decide) ?_
    exact hq
set_option maxRecDepth 100000 in
set_option maxHeartbeats 4000000 in
theorem ct_X12_packed {G : Gx} (hG : GOK G) (p0 : Nat) (p1 : Int32) (p2 : Int32) (h0 : hw) (post : Int32 → hw → Prop) (hq : wp_X12_packed G p0 p1 p2 h0 post) : CT G yX12_packed cX12_packed 3 (some .int) 18 433 0 0 [.ref p0, .int p1, .int p2] h0 (fun v h1 => ∃ r : Int32, v = some (.int r) ∧ post r h1) (fun E h1 => False) := by
  refine CT_of hG (by decide) (Nat.le_of_ble_eq_true rfl) (fun Γ hC hQ hN => ?_)
  have hC : COK G Γ "BandplanModel" cX12_packed 3 18 433 0 0 [] := hC
  unfold wp_X12_packed at hq
  show V G Γ 3 0 0 h0 0 [(0, .ref p0), (1, .int p1), (2, .int p2)] []
  refine V_aload_n hC dX12_packed_0 0 rfl ?_
  refine V_iconst (v := 0) hC dX12_packed_1 (by decide) ?_
  refine U_put hC fl_X12_98 fin_X12_0 rfl rfl dX12_packed_2 hq (fun h1 hq => ?_)
  refine V_aload_n hC dX12_packed_5 0 rfl ?_
  refine V_iload_n hC dX12_packed_6 1 rfl ?_
  refine V_iconst (v := 1) hC dX12_packed_7 (by decide) ?_
  refine V_bipush (v := 8) hC dX12_packed_8 (by decide) ?_
  refine clS_X12_in hG hC ss_X12_101 ⟨by decide, by decide⟩ (Nat.le_of_ble_eq_true rfl) ⟨by decide, by decide⟩ dX12_packed_10 hq (fun r2 hq => ?_)
  show V G Γ 3 0 0 h1 13 [(0, .ref p0), (1, .int p1), (2, .int p2)] [.int r2, .ref p0]
  have hq := hq (fun (t3 : Nat) (t4 : Int32) => V G Γ 3 0 0 h1 21 [(0, .ref p0), (1, .int p1), (2, .int p2)] [.int t4, .ref t3]) (by
    intro t3 t4 hq
    show V G Γ 3 0 0 h1 21 [(0, .ref p0), (1, .int p1), (2, .int p2)] [.int t4, .ref t3]
    refine V_iconst (v := 1) hC dX12_packed_21 (by decide) ?_
    obtain ⟨hz, hq⟩ := hq
    refine clV_X12_fails hG hC sv_X12_115 ⟨by decide, by decide⟩ (Nat.le_of_ble_eq_true rfl) ⟨by decide, by decide⟩ dX12_packed_22 hz hq (fun r5 h6 hq => ?_)
    show V G Γ 3 0 0 h6 25 [(0, .ref p0), (1, .int p1), (2, .int p2)] [.int r5]
    refine V_if_ne (tgt := 63) hC dX12_packed_25 (by decide) (fun hc => ?_) (fun hc => ?_)
    · have hq := hq.1 hc
      refine V_iconst (v := 0) hC dX12_packed_63 (by decide) ?_
      exact V_iret hC hQ rfl rfl ⟨by decide, by decide⟩ dX12_packed_64 ⟨_, rfl, hq⟩
    · have hq := hq.2 hc
      refine V_aload_n hC dX12_packed_28 0 rfl ?_
      refine V_aload_n hC dX12_packed_29 0 rfl ?_
      refine V_iload_n hC dX12_packed_30 2 rfl ?_
      obtain ⟨hz, hq⟩ := hq
      refine clV_X12_no hG hC sv_X12_153 ⟨by decide, by decide⟩ (Nat.le_of_ble_eq_true rfl) ⟨by decide, by decide⟩ dX12_packed_31 hz hq (fun r7 hq => ?_)
      show V G Γ 3 0 0 h6 34 [(0, .ref p0), (1, .int p1), (2, .int p2)] [.int r7, .ref p0]
      refine V_iconst (v := 2) hC dX12_packed_34 (by decide) ?_
      obtain ⟨hz, hq⟩ := hq
      refine clV_X12_fails hG hC sv_X12_115 ⟨by decide, by decide⟩ (Nat.le_of_ble_eq_true rfl) ⟨by decide, by decide⟩ dX12_packed_35 hz hq (fun r8 h9 hq => ?_)
      show V G Γ 3 0 0 h9 38 [(0, .ref p0), (1, .int p1), (2, .int p2)] [.int r8]
      refine V_if_ne (tgt := 63) hC dX12_packed_38 (by decide) (fun hc => ?_) (fun hc => ?_)
      · have hq := hq.1 hc
        refine V_iconst (v := 0) hC dX12_packed_63 (by decide) ?_
        exact V_iret hC hQ rfl rfl ⟨by decide, by decide⟩ dX12_packed_64 ⟨_, rfl, hq⟩
      · have hq := hq.2 hc
        refine V_aload_n hC dX12_packed_41 0 rfl ?_
        refine V_aload_n hC dX12_packed_42 0 rfl ?_
        refine U_getR hC fl_X12_35 dX12_packed_43 hq (fun v10 hq => ?_)
        refine V_iload_n hC dX12_packed_46 2 rfl ?_
        refine U_ldZ hC dX12_packed_47 hq (fun v11 hq => ?_)
        have hq := hq (fun (t12 : Nat) (t13 : Int32) => V G Γ 3 0 0 h9 56 [(0, .ref p0), (1, .int p1), (2, .int p2)] [.int t13, .ref t12]) (by
          intro t12 t13 hq
          show V G Γ 3 0 0 h9 56 [(0, .ref p0), (1, .int p1), (2, .int p2)] [.int t13, .ref t12]
          refine V_iconst (v := 3) hC dX12_packed_56 (by decide) ?_
          obtain ⟨hz, hq⟩ := hq
          refine clV_X12_fails hG hC sv_X12_115 ⟨by decide, by decide⟩ (Nat.le_of_ble_eq_true rfl) ⟨by decide, by decide⟩ dX12_packed_57 hz hq (fun r14 h15 hq => ?_)
          show V G Γ 3 0 0 h15 60 [(0, .ref p0), (1, .int p1), (2, .int p2)] [.int r14]
          refine V_if_eq (tgt := 65) hC dX12_packed_60 (by decide) (fun hc => ?_) (fun hc => ?_)
          · have hq := hq.1 hc
            refine V_aload_n hC dX12_packed_65 0 rfl ?_
            refine V_aload_n hC dX12_packed_66 0 rfl ?_
            refine V_iload_n hC dX12_packed_67 1 rfl ?_
            obtain ⟨hz, hq⟩ := hq
            refine clV_X12_packsAll hG hC sv_X12_224 ⟨by decide, by decide⟩ (Nat.le_of_ble_eq_true rfl) ⟨by decide, by decide⟩ dX12_packed_68 hz hq (fun r16 h17 hq => ?_)
            show V G Γ 3 0 0 h17 71 [(0, .ref p0), (1, .int p1), (2, .int p2)] [.int r16, .ref p0]
            have hq := hq (fun (t18 : Nat) (t19 : Int32) => V G Γ 3 0 0 h17 79 [(0, .ref p0), (2, .int p2)] [.int t19, .ref t18]) (by
              intro t18 t19 hq
              show V G Γ 3 0 0 h17 79 [(0, .ref p0), (2, .int p2)] [.int t19, .ref t18]
              refine V_iconst (v := 4) hC dX12_packed_79 (by decide) ?_
              obtain ⟨hz, hq⟩ := hq
              refine clV_X12_fails hG hC sv_X12_115 ⟨by decide, by decide⟩ (Nat.le_of_ble_eq_true rfl) ⟨by decide, by decide⟩ dX12_packed_80 hz hq (fun r20 h21 hq => ?_)
              show V G Γ 3 0 0 h21 83 [(0, .ref p0), (2, .int p2)] [.int r20]
              refine V_if_eq (tgt := 90) hC dX12_packed_83 (by decide) (fun hc => ?_) (fun hc => ?_)
              · have hq := hq.1 hc
                refine V_aload_n hC dX12_packed_90 0 rfl ?_
                refine U_getR hC fl_X12_83 dX12_packed_91 hq (fun v22 hq => ?_)
                refine V_iload_n hC dX12_packed_94 1 rfl ?_
                refine U_ldI hC dX12_packed_95 hq (fun v23 hq => ?_)
                exact V_iret hC hQ rfl rfl ⟨by decide, by decide⟩ dX12_packed_96 ⟨_, rfl, hq⟩
              · have hq := hq.2 hc
                refine V_iconst (v := 0) hC dX12_packed_86 (by decide) ?_
                refine V_goto (tgt := 96) hC dX12_packed_87 (by decide) ?_
                exact V_iret hC hQ rfl rfl ⟨by decide, by decide⟩ dX12_packed_96 ⟨_, rfl, hq⟩)
            refine V_if_ne (tgt := 78) hC dX12_packed_71 (by decide) (fun hc => ?_) (fun hc => ?_)
            · have hq := hq.1 hc
              refine V_iconst (v := 0) hC dX12_packed_78 (by decide) ?_
              refine V_sub [0, 2] rfl ?_
              exact hq
            · have hq := hq.2 hc
              refine V_iconst (v := 1) hC dX12_packed_74 (by decide) ?_
              refine V_goto (tgt := 79) hC dX12_packed_75 (by decide) ?_
              refine V_sub [0, 2] rfl ?_
              exact hq
          · have hq := hq.2 hc
            refine V_iconst (v := 0) hC dX12_packed_63 (by decide) ?_
            exact V_iret hC hQ rfl rfl ⟨by decide, by decide⟩ dX12_packed_64 ⟨_, rfl, hq⟩)
        refine V_if_ne (tgt := 55) hC dX12_packed_48 (by decide) (fun hc => ?_) (fun hc => ?_)
        · have hq := hq.1 hc
          refine V_iconst (v := 0) hC dX12_packed_55 (by decide) ?_
          exact hq
        · have hq := hq.2 hc
          refine V_iconst (v := 1) hC dX12_packed_51 (by decide) ?_
          refine V_goto (tgt := 56) hC dX12_packed_52 (by decide) ?_
          exact hq)
  refine V_if_ne (tgt := 20) hC dX12_packed_13 (by decide) (fun hc => ?_) (fun hc => ?_)
  · have hq := hq.1 hc
    refine V_iconst (v := 0) hC dX12_packed_20 (by decide) ?_
    exact hq
  · have hq := hq.2 hc
    refine V_iconst (v := 1) hC dX12_packed_16 (by decide) ?_
    refine V_goto (tgt := 21) hC dX12_packed_17 (by decide) ?_
    exact hq
set_option maxRecDepth 100000 in
set_option maxHeartbeats 4000000 in
theorem ct_X12_setAsked {G : Gx} (hG : GOK G) (p0 : Nat) (p1 : Int32) (p2 : Int32) (h0 : hw) (post : Int32 → hw → Prop) (hq : wp_X12_setAsked G p0 p1 p2 h0 post) : CT G yX12_setAsked cX12_setAsked 4 (some .int) 3 73 0 0 [.ref p0, .int p1, .int p2] h0 (fun v h1 => ∃ r : Int32, v = some (.int r) ∧ post r h1) (fun E h1 => False) := by
  refine CT_of hG (by decide) (Nat.le_of_ble_eq_true rfl) (fun Γ hC hQ hN => ?_)
  have hC : COK G Γ "BandplanModel" cX12_setAsked 4 3 73 0 0 [] := hC
  unfold wp_X12_setAsked at hq
  show V G Γ 4 0 0 h0 0 [(0, .ref p0), (1, .int p1), (2, .int p2)] []
  refine V_aload_n hC dX12_setAsked_0 0 rfl ?_
  refine V_iconst (v := 0) hC dX12_setAsked_1 (by decide) ?_
  refine U_put hC fl_X12_98 fin_X12_0 rfl rfl dX12_setAsked_2 hq (fun h1 hq => ?_)
  refine V_aload_n hC dX12_setAsked_5 0 rfl ?_
  refine V_aload_n hC dX12_setAsked_6 0 rfl ?_
  refine V_iload_n hC dX12_setAsked_7 1 rfl ?_
  obtain ⟨hz, hq⟩ := hq
  refine clV_X12_no hG hC sv_X12_153 ⟨by decide, by decide⟩ (Nat.le_of_ble_eq_true rfl) ⟨by decide, by decide⟩ dX12_setAsked_8 hz hq (fun r2 hq => ?_)
  show V G Γ 4 0 0 h1 11 [(0, .ref p0), (1, .int p1), (2, .int p2)] [.int r2, .ref p0]
  refine V_iconst (v := 1) hC dX12_setAsked_11 (by decide) ?_
  obtain ⟨hz, hq⟩ := hq
  refine clV_X12_fails hG hC sv_X12_115 ⟨by decide, by decide⟩ (Nat.le_of_ble_eq_true rfl) ⟨by decide, by decide⟩ dX12_setAsked_12 hz hq (fun r3 h4 hq => ?_)
  show V G Γ 4 0 0 h4 15 [(0, .ref p0), (1, .int p1), (2, .int p2)] [.int r3]
  refine V_if_ne (tgt := 42) hC dX12_setAsked_15 (by decide) (fun hc => ?_) (fun hc => ?_)
  · have hq := hq.1 hc
    refine V_iconst (v := 0) hC dX12_setAsked_42 (by decide) ?_
    exact V_iret hC hQ rfl rfl ⟨by decide, by decide⟩ dX12_setAsked_43 ⟨_, rfl, hq⟩
  · have hq := hq.2 hc
    refine V_aload_n hC dX12_setAsked_18 0 rfl ?_
    refine V_iload_n hC dX12_setAsked_19 2 rfl ?_
    refine V_iconst (v := 0) hC dX12_setAsked_20 (by decide) ?_
    refine V_sipush (v := 9999) hC dX12_setAsked_21 (by decide) ?_
    refine clS_X12_in hG hC ss_X12_101 ⟨by decide, by decide⟩ (Nat.le_of_ble_eq_true rfl) ⟨by decide, by decide⟩ dX12_setAsked_24 hq (fun r5 hq => ?_)
    show V G Γ 4 0 0 h4 27 [(0, .ref p0), (1, .int p1), (2, .int p2)] [.int r5, .ref p0]
    have hq := hq (fun (t6 : Nat) (t7 : Int32) => V G Γ 4 0 0 h4 35 [(0, .ref p0), (1, .int p1), (2, .int p2)] [.int t7, .ref t6]) (by
      intro t6 t7 hq
      show V G Γ 4 0 0 h4 35 [(0, .ref p0), (1, .int p1), (2, .int p2)] [.int t7, .ref t6]
      refine V_iconst (v := 2) hC dX12_setAsked_35 (by decide) ?_
      obtain ⟨hz, hq⟩ := hq
      refine clV_X12_fails hG hC sv_X12_115 ⟨by decide, by decide⟩ (Nat.le_of_ble_eq_true rfl) ⟨by decide, by decide⟩ dX12_setAsked_36 hz hq (fun r8 h9 hq => ?_)
      show V G Γ 4 0 0 h9 39 [(0, .ref p0), (1, .int p1), (2, .int p2)] [.int r8]
      refine V_if_eq (tgt := 44) hC dX12_setAsked_39 (by decide) (fun hc => ?_) (fun hc => ?_)
      · have hq := hq.1 hc
        refine V_aload_n hC dX12_setAsked_44 0 rfl ?_
        refine U_getR hC fl_X12_42 dX12_setAsked_45 hq (fun v10 hq => ?_)
        refine V_iload_n hC dX12_setAsked_48 1 rfl ?_
        refine U_ldI hC dX12_setAsked_49 hq (fun v11 hq => ?_)
        refine V_istore_n (L' := [(0, .ref p0), (1, .int p1), (2, .int p2), (3, .int v11)]) hC dX12_setAsked_50 rfl (by decide) [1, 2, 3, 0] rfl ?_
        refine V_aload_n hC dX12_setAsked_51 0 rfl ?_
        refine U_getR hC fl_X12_42 dX12_setAsked_52 hq (fun v12 hq => ?_)
        refine V_iload_n hC dX12_setAsked_55 1 rfl ?_
        refine V_iload_n hC dX12_setAsked_56 2 rfl ?_
        refine U_stI hC dX12_setAsked_57 hq (fun h13 hq => ?_)
        refine V_iload_n hC dX12_setAsked_58 3 rfl ?_
        exact V_iret hC hQ rfl rfl ⟨by decide, by decide⟩ dX12_setAsked_59 ⟨_, rfl, hq⟩
      · have hq := hq.2 hc
        refine V_iconst (v := 0) hC dX12_setAsked_42 (by decide) ?_
        exact V_iret hC hQ rfl rfl ⟨by decide, by decide⟩ dX12_setAsked_43 ⟨_, rfl, hq⟩)
    refine V_if_ne (tgt := 34) hC dX12_setAsked_27 (by decide) (fun hc => ?_) (fun hc => ?_)
    · have hq := hq.1 hc
      refine V_iconst (v := 0) hC dX12_setAsked_34 (by decide) ?_
      exact hq
    · have hq := hq.2 hc
      refine V_iconst (v := 1) hC dX12_setAsked_30 (by decide) ?_
      refine V_goto (tgt := 35) hC dX12_setAsked_31 (by decide) ?_
      exact hq
set_option maxRecDepth 100000 in
set_option maxHeartbeats 4000000 in
theorem ct_X12_canStay {G : Gx} (hG : GOK G) (p0 : Nat) (p1 : Int32) (p2 : Int32) (h0 : hw) (post : Int32 → hw → Prop) (hq : wp_X12_canStay G p0 p1 p2 h0 post) : CT G yX12_canStay cX12_canStay 4 (some .boolean) 17 411 0 0 [.ref p0, .int p1, .int p2] h0 (fun v h1 => ∃ r : Int32, v = some (.int r) ∧ post r h1) (fun E h1 => False) := by
  refine CT_of hG (by decide) (Nat.le_of_ble_eq_true rfl) (fun Γ hC hQ hN => ?_)
  have hC : COK G Γ "BandplanModel" cX12_canStay 4 17 411 0 0 [] := hC
  unfold wp_X12_canStay at hq
  show V G Γ 4 0 0 h0 0 [(0, .ref p0), (1, .int p1), (2, .int p2)] []
  refine V_iconst (v := 0) hC dX12_canStay_0 (by decide) ?_
  refine V_istore_n (L' := [(0, .ref p0), (1, .int p1), (2, .int p2), (3, .int 0)]) hC dX12_canStay_1 rfl (by decide) [1, 2, 3, 0] rfl ?_
  have hq := hq (fun (x3_1 : Int32) (h2 : hw) => V G Γ 4 0 0 h2 2 [(0, .ref p0), (1, .int p1), (2, .int p2), (3, .int x3_1)] []) (by
    intro x3_1 h2 hq
    show V G Γ 4 0 0 h2 2 [(0, .ref p0), (1, .int p1), (2, .int p2), (3, .int x3_1)] []
    refine V_iload_n hC dX12_canStay_2 3 rfl ?_
    refine V_aload_n hC dX12_canStay_3 0 rfl ?_
    refine U_getI hC fl_X12_108 dX12_canStay_4 hq (fun v3 hq => ?_)
    refine V_icmp_ge (tgt := 56) hC dX12_canStay_7 (by decide) (fun hc => ?_) (fun hc => ?_)
    · have hq := hq.1 hc
      refine V_aload_n hC dX12_canStay_56 0 rfl ?_
      refine V_iconst (v := 0) hC dX12_canStay_57 (by decide) ?_
      refine V_iload_n hC dX12_canStay_58 2 rfl ?_
      obtain ⟨hz, hq⟩ := hq
      refine clV_X12_packs hG hC sv_X12_218 ⟨by decide, by decide⟩ (Nat.le_of_ble_eq_true rfl) ⟨by decide, by decide⟩ dX12_canStay_59 hz hq (fun r4 h5 hq => ?_)
      show V G Γ 4 0 0 h5 62 [(0, .ref p0), (1, .int p1), (2, .int p2), (3, .int x3_1)] [.int r4]
      obtain ⟨hz, hq⟩ := hq
      exact V_iret hC hQ rfl (nar_b hz) ⟨by decide, by decide⟩ dX12_canStay_62 ⟨_, rfl, hq⟩
    · have hq := hq.2 hc
      refine V_aload_n hC dX12_canStay_10 0 rfl ?_
      refine U_getR hC fl_X12_80 dX12_canStay_11 hq (fun v6 hq => ?_)
      refine V_iload_n hC dX12_canStay_14 3 rfl ?_
      refine V_aload_n hC dX12_canStay_15 0 rfl ?_
      refine U_getR hC fl_X12_35 dX12_canStay_16 hq (fun v7 hq => ?_)
      refine V_iload_n hC dX12_canStay_19 3 rfl ?_
      refine U_ldZ hC dX12_canStay_20 hq (fun v8 hq => ?_)
      have hq := hq (fun (t9 : Nat) (t10 : Int32) (t11 : Int32) => V G Γ 4 0 0 h2 49 [(0, .ref p0), (1, .int p1), (2, .int p2), (3, .int x3_1)] [.int t11, .int t10, .ref t9]) (by
        intro t9 t10 t11 hq
        show V G Γ 4 0 0 h2 49 [(0, .ref p0), (1, .int p1), (2, .int p2), (3, .int x3_1)] [.int t11, .int t10, .ref t9]
        refine U_stZ hC dX12_canStay_49 hq (fun h12 hq => ?_)
        refine V_iinc (j := 3) (v := (x3_1 + 1)) (L' := [(0, .ref p0), (1, .int p1), (2, .int p2), (3, .int (x3_1 + 1))]) hC dX12_canStay_50 rfl rfl (by decide) [1, 2, 3, 0] rfl ?_
        refine V_goto (tgt := 2) hC dX12_canStay_53 (by decide) ?_
        exact hq)
      have hq := hq (fun (t13 : Nat) (t14 : Int32) => V G Γ 4 0 0 h2 48 [(0, .ref p0), (1, .int p1), (2, .int p2), (3, .int x3_1)] [.int t14, .ref t13]) (by
        intro t13 t14 hq
        show V G Γ 4 0 0 h2 48 [(0, .ref p0), (1, .int p1), (2, .int p2), (3, .int x3_1)] [.int t14, .ref t13]
        refine V_iconst (v := 0) hC dX12_canStay_48 (by decide) ?_
        exact hq)
      refine V_if_eq (tgt := 48) hC dX12_canStay_21 (by decide) (fun hc => ?_) (fun hc => ?_)
      · have hq := hq.1 hc
        exact hq
      · have hq := hq.2 hc
        refine V_aload_n hC dX12_canStay_24 0 rfl ?_
        refine U_getR hC fl_X12_39 dX12_canStay_25 hq (fun v15 hq => ?_)
        refine V_iload_n hC dX12_canStay_28 3 rfl ?_
        refine U_ldI hC dX12_canStay_29 hq (fun v16 hq => ?_)
        refine V_iconst (v := (-1)) hC dX12_canStay_30 (by decide) ?_
        refine V_icmp_eq (tgt := 48) hC dX12_canStay_31 (by decide) (fun hc => ?_) (fun hc => ?_)
        · have hq := hq.1 hc
          exact hq
        · have hq := hq.2 hc
          refine V_aload_n hC dX12_canStay_34 0 rfl ?_
          refine U_getR hC fl_X12_42 dX12_canStay_35 hq (fun v17 hq => ?_)
          refine V_iload_n hC dX12_canStay_38 3 rfl ?_
          refine U_ldI hC dX12_canStay_39 hq (fun v18 hq => ?_)
          refine V_iload_n hC dX12_canStay_40 1 rfl ?_
          refine V_icmp_le (tgt := 48) hC dX12_canStay_41 (by decide) (fun hc => ?_) (fun hc => ?_)
          · have hq := hq.1 hc
            exact hq
          · have hq := hq.2 hc
            refine V_iconst (v := 1) hC dX12_canStay_44 (by decide) ?_
            refine V_goto (tgt := 49) hC dX12_canStay_45 (by decide) ?_
            exact hq)
  exact hq
set_option maxRecDepth 100000 in
set_option maxHeartbeats 4000000 in
theorem ct_X12_canStayToo {G : Gx} (hG : GOK G) (p0 : Nat) (p1 : Int32) (p2 : Int32) (h0 : hw) (post : Int32 → hw → Prop) (hq : wp_X12_canStayToo G p0 p1 p2 h0 post) : CT G yX12_canStayToo cX12_canStayToo 4 (some .boolean) 17 411 0 0 [.ref p0, .int p1, .int p2] h0 (fun v h1 => ∃ r : Int32, v = some (.int r) ∧ post r h1) (fun E h1 => False) := by
  refine CT_of hG (by decide) (Nat.le_of_ble_eq_true rfl) (fun Γ hC hQ hN => ?_)
  have hC : COK G Γ "BandplanModel" cX12_canStayToo 4 17 411 0 0 [] := hC
  unfold wp_X12_canStayToo at hq
  show V G Γ 4 0 0 h0 0 [(0, .ref p0), (1, .int p1), (2, .int p2)] []
  refine V_iconst (v := 0) hC dX12_canStayToo_0 (by decide) ?_
  refine V_istore_n (L' := [(0, .ref p0), (1, .int p1), (2, .int p2), (3, .int 0)]) hC dX12_canStayToo_1 rfl (by decide) [1, 2, 3, 0] rfl ?_
  have hq := hq (fun (x3_1 : Int32) (h2 : hw) => V G Γ 4 0 0 h2 2 [(0, .ref p0), (1, .int p1), (2, .int p2), (3, .int x3_1)] []) (by
    intro x3_1 h2 hq
    show V G Γ 4 0 0 h2 2 [(0, .ref p0), (1, .int p1), (2, .int p2), (3, .int x3_1)] []
    refine V_iload_n hC dX12_canStayToo_2 3 rfl ?_
    refine V_aload_n hC dX12_canStayToo_3 0 rfl ?_
    refine U_getI hC fl_X12_108 dX12_canStayToo_4 hq (fun v3 hq => ?_)
    refine V_icmp_ge (tgt := 41) hC dX12_canStayToo_7 (by decide) (fun hc => ?_) (fun hc => ?_)
    · have hq := hq.1 hc
      refine V_aload_n hC dX12_canStayToo_41 0 rfl ?_
      refine V_iconst (v := 0) hC dX12_canStayToo_42 (by decide) ?_
      refine V_iload_n hC dX12_canStayToo_43 2 rfl ?_
      obtain ⟨hz, hq⟩ := hq
      refine clV_X12_packs hG hC sv_X12_218 ⟨by decide, by decide⟩ (Nat.le_of_ble_eq_true rfl) ⟨by decide, by decide⟩ dX12_canStayToo_44 hz hq (fun r4 h5 hq => ?_)
      show V G Γ 4 0 0 h5 47 [(0, .ref p0), (1, .int p1), (2, .int p2), (3, .int x3_1)] [.int r4]
      obtain ⟨hz, hq⟩ := hq
      exact V_iret hC hQ rfl (nar_b hz) ⟨by decide, by decide⟩ dX12_canStayToo_47 ⟨_, rfl, hq⟩
    · have hq := hq.2 hc
      refine V_aload_n hC dX12_canStayToo_10 0 rfl ?_
      refine U_getR hC fl_X12_80 dX12_canStayToo_11 hq (fun v6 hq => ?_)
      refine V_iload_n hC dX12_canStayToo_14 3 rfl ?_
      refine V_iload_n hC dX12_canStayToo_15 3 rfl ?_
      refine V_iload_n hC dX12_canStayToo_16 1 rfl ?_
      have hq := hq (fun (t7 : Nat) (t8 : Int32) (t9 : Int32) => V G Γ 4 0 0 h2 34 [(0, .ref p0), (1, .int p1), (2, .int p2), (3, .int x3_1)] [.int t9, .int t8, .ref t7]) (by
        intro t7 t8 t9 hq
        show V G Γ 4 0 0 h2 34 [(0, .ref p0), (1, .int p1), (2, .int p2), (3, .int x3_1)] [.int t9, .int t8, .ref t7]
        refine U_stZ hC dX12_canStayToo_34 hq (fun h10 hq => ?_)
        refine V_iinc (j := 3) (v := (x3_1 + 1)) (L' := [(0, .ref p0), (1, .int p1), (2, .int p2), (3, .int (x3_1 + 1))]) hC dX12_canStayToo_35 rfl rfl (by decide) [1, 2, 3, 0] rfl ?_
        refine V_goto (tgt := 2) hC dX12_canStayToo_38 (by decide) ?_
        exact hq)
      have hq := hq (fun (t11 : Nat) (t12 : Int32) => V G Γ 4 0 0 h2 29 [(0, .ref p0), (1, .int p1), (2, .int p2), (3, .int x3_1)] [.int t12, .ref t11]) (by
        intro t11 t12 hq
        show V G Γ 4 0 0 h2 29 [(0, .ref p0), (1, .int p1), (2, .int p2), (3, .int x3_1)] [.int t12, .ref t11]
        refine V_iconst (v := 1) hC dX12_canStayToo_29 (by decide) ?_
        refine V_goto (tgt := 34) hC dX12_canStayToo_30 (by decide) ?_
        exact hq)
      refine V_icmp_eq (tgt := 29) hC dX12_canStayToo_17 (by decide) (fun hc => ?_) (fun hc => ?_)
      · have hq := hq.1 hc
        exact hq
      · have hq := hq.2 hc
        refine V_aload_n hC dX12_canStayToo_20 0 rfl ?_
        refine U_getR hC fl_X12_64 dX12_canStayToo_21 hq (fun v13 hq => ?_)
        refine V_iload_n hC dX12_canStayToo_24 3 rfl ?_
        refine U_ldZ hC dX12_canStayToo_25 hq (fun v14 hq => ?_)
        refine V_if_eq (tgt := 33) hC dX12_canStayToo_26 (by decide) (fun hc => ?_) (fun hc => ?_)
        · have hq := hq.1 hc
          refine V_iconst (v := 0) hC dX12_canStayToo_33 (by decide) ?_
          exact hq
        · have hq := hq.2 hc
          exact hq)
  exact hq
set_option maxRecDepth 100000 in
set_option maxHeartbeats 4000000 in
theorem ct_X12_priceOf {G : Gx} (hG : GOK G) (p0 : Nat) (p1 : Int32) (h0 : hw) (post : Int32 → hw → Prop) (hq : wp_X12_priceOf G p0 p1 h0 post) : CT G yX12_priceOf cX12_priceOf 2 (some .int) 3 73 0 0 [.ref p0, .int p1] h0 (fun v h1 => ∃ r : Int32, v = some (.int r) ∧ post r h1) (fun E h1 => False) := by
  refine CT_of hG (by decide) (Nat.le_of_ble_eq_true rfl) (fun Γ hC hQ hN => ?_)
  have hC : COK G Γ "BandplanModel" cX12_priceOf 2 3 73 0 0 [] := hC
  unfold wp_X12_priceOf at hq
  show V G Γ 2 0 0 h0 0 [(0, .ref p0), (1, .int p1)] []
  refine V_aload_n hC dX12_priceOf_0 0 rfl ?_
  refine V_iconst (v := 0) hC dX12_priceOf_1 (by decide) ?_
  refine U_put hC fl_X12_98 fin_X12_0 rfl rfl dX12_priceOf_2 hq (fun h1 hq => ?_)
  refine V_aload_n hC dX12_priceOf_5 0 rfl ?_
  refine V_aload_n hC dX12_priceOf_6 0 rfl ?_
  refine V_iload_n hC dX12_priceOf_7 1 rfl ?_
  obtain ⟨hz, hq⟩ := hq
  refine clV_X12_no hG hC sv_X12_153 ⟨by decide, by decide⟩ (Nat.le_of_ble_eq_true rfl) ⟨by decide, by decide⟩ dX12_priceOf_8 hz hq (fun r2 hq => ?_)
  show V G Γ 2 0 0 h1 11 [(0, .ref p0), (1, .int p1)] [.int r2, .ref p0]
  refine V_iconst (v := 1) hC dX12_priceOf_11 (by decide) ?_
  obtain ⟨hz, hq⟩ := hq
  refine clV_X12_fails hG hC sv_X12_115 ⟨by decide, by decide⟩ (Nat.le_of_ble_eq_true rfl) ⟨by decide, by decide⟩ dX12_priceOf_12 hz hq (fun r3 h4 hq => ?_)
  show V G Γ 2 0 0 h4 15 [(0, .ref p0), (1, .int p1)] [.int r3]
  have hq := hq (fun (h5 : hw) => V G Γ 2 0 0 h5 41 [] []) (by
    intro h5 hq
    show V G Γ 2 0 0 h5 41 [] []
    refine V_iconst (v := 0) hC dX12_priceOf_41 (by decide) ?_
    refine V_goto (tgt := 51) hC dX12_priceOf_42 (by decide) ?_
    exact V_iret hC hQ rfl rfl ⟨by decide, by decide⟩ dX12_priceOf_51 ⟨_, rfl, hq⟩)
  refine V_if_ne (tgt := 41) hC dX12_priceOf_15 (by decide) (fun hc => ?_) (fun hc => ?_)
  · have hq := hq.1 hc
    refine V_sub [] rfl ?_
    exact hq
  · have hq := hq.2 hc
    refine V_aload_n hC dX12_priceOf_18 0 rfl ?_
    refine V_aload_n hC dX12_priceOf_19 0 rfl ?_
    refine U_getR hC fl_X12_61 dX12_priceOf_20 hq (fun v6 hq => ?_)
    refine V_iload_n hC dX12_priceOf_23 1 rfl ?_
    refine U_ldI hC dX12_priceOf_24 hq (fun v7 hq => ?_)
    refine V_iconst (v := (-1)) hC dX12_priceOf_25 (by decide) ?_
    have hq := hq (fun (t8 : Nat) (t9 : Int32) => V G Γ 2 0 0 h4 34 [(0, .ref p0), (1, .int p1)] [.int t9, .ref t8]) (by
      intro t8 t9 hq
      show V G Γ 2 0 0 h4 34 [(0, .ref p0), (1, .int p1)] [.int t9, .ref t8]
      refine V_iconst (v := 2) hC dX12_priceOf_34 (by decide) ?_
      obtain ⟨hz, hq⟩ := hq
      refine clV_X12_fails hG hC sv_X12_115 ⟨by decide, by decide⟩ (Nat.le_of_ble_eq_true rfl) ⟨by decide, by decide⟩ dX12_priceOf_35 hz hq (fun r10 h11 hq => ?_)
      show V G Γ 2 0 0 h11 38 [(0, .ref p0), (1, .int p1)] [.int r10]
      refine V_if_eq (tgt := 45) hC dX12_priceOf_38 (by decide) (fun hc => ?_) (fun hc => ?_)
      · have hq := hq.1 hc
        refine V_aload_n hC dX12_priceOf_45 0 rfl ?_
        refine U_getR hC fl_X12_61 dX12_priceOf_46 hq (fun v12 hq => ?_)
        refine V_iload_n hC dX12_priceOf_49 1 rfl ?_
        refine U_ldI hC dX12_priceOf_50 hq (fun v13 hq => ?_)
        exact V_iret hC hQ rfl rfl ⟨by decide, by decide⟩ dX12_priceOf_51 ⟨_, rfl, hq⟩
      · have hq := hq.2 hc
        refine V_sub [] rfl ?_
        exact hq)
    refine V_icmp_ne (tgt := 33) hC dX12_priceOf_26 (by decide) (fun hc => ?_) (fun hc => ?_)
    · have hq := hq.1 hc
      refine V_iconst (v := 0) hC dX12_priceOf_33 (by decide) ?_
      exact hq
    · have hq := hq.2 hc
      refine V_iconst (v := 1) hC dX12_priceOf_29 (by decide) ?_
      refine V_goto (tgt := 34) hC dX12_priceOf_30 (by decide) ?_
      exact hq
set_option maxRecDepth 100000 in
set_option maxHeartbeats 4000000 in
theorem ct_X12_rounds {G : Gx} (hG : GOK G) (p0 : Nat) (h0 : hw) (post : Int32 → hw → Prop) (hq : wp_X12_rounds G p0 h0 post) : CT G yX12_rounds cX12_rounds 1 (some .int) 1 30 0 0 [.ref p0] h0 (fun v h1 => ∃ r : Int32, v = some (.int r) ∧ post r h1) (fun E h1 => False) := by
  refine CT_of hG (by decide) (Nat.le_of_ble_eq_true rfl) (fun Γ hC hQ hN => ?_)
  have hC : COK G Γ "BandplanModel" cX12_rounds 1 1 30 0 0 [] := hC
  unfold wp_X12_rounds at hq
  show V G Γ 1 0 0 h0 0 [(0, .ref p0)] []
  refine V_aload_n hC dX12_rounds_0 0 rfl ?_
  refine V_iconst (v := 0) hC dX12_rounds_1 (by decide) ?_
  refine U_put hC fl_X12_98 fin_X12_0 rfl rfl dX12_rounds_2 hq (fun h1 hq => ?_)
  refine V_aload_n hC dX12_rounds_5 0 rfl ?_
  refine U_getI hC fl_X12_237 dX12_rounds_6 hq (fun v2 hq => ?_)
  exact V_iret hC hQ rfl rfl ⟨by decide, by decide⟩ dX12_rounds_9 ⟨_, rfl, hq⟩
set_option maxRecDepth 100000 in
set_option maxHeartbeats 4000000 in
theorem ct_X12_addBidder {G : Gx} (hG : GOK G) (p0 : Nat) (p1 : Int32) (p2 : Int32) (p3 : Int32) (h0 : hw) (post : Int32 → hw → Prop) (hq : wp_X12_addBidder G p0 p1 p2 p3 h0 post) : CT G yX12_addBidder cX12_addBidder 5 (some .int) 2 52 0 0 [.ref p0, .int p1, .int p2, .int p3] h0 (fun v h1 => ∃ r : Int32, v = some (.int r) ∧ post r h1) (fun E h1 => False) := by
  refine CT_of hG (by decide) (Nat.le_of_ble_eq_true rfl) (fun Γ hC hQ hN => ?_)
  have hC : COK G Γ "BandplanModel" cX12_addBidder 5 2 52 0 0 [] := hC
  unfold wp_X12_addBidder at hq
  show V G Γ 5 0 0 h0 0 [(0, .ref p0), (1, .int p1), (2, .int p2), (3, .int p3)] []
  refine V_aload_n hC dX12_addBidder_0 0 rfl ?_
  refine V_iconst (v := 0) hC dX12_addBidder_1 (by decide) ?_
  refine U_put hC fl_X12_98 fin_X12_0 rfl rfl dX12_addBidder_2 hq (fun h1 hq => ?_)
  refine V_iload_n hC dX12_addBidder_5 1 rfl ?_
  refine V_iconst (v := 0) hC dX12_addBidder_6 (by decide) ?_
  refine V_sipush (v := 9999) hC dX12_addBidder_7 (by decide) ?_
  refine clS_X12_in hG hC ss_X12_101 ⟨by decide, by decide⟩ (Nat.le_of_ble_eq_true rfl) ⟨by decide, by decide⟩ dX12_addBidder_10 hq (fun r2 hq => ?_)
  show V G Γ 5 0 0 h1 13 [(0, .ref p0), (1, .int p1), (2, .int p2), (3, .int p3)] [.int r2]
  have hq := hq (fun (t3 : Int32) => V G Γ 5 0 0 h1 39 [(0, .ref p0), (1, .int p1), (2, .int p2), (3, .int p3)] [.int t3]) (by
    intro t3 hq
    show V G Γ 5 0 0 h1 39 [(0, .ref p0), (1, .int p1), (2, .int p2), (3, .int p3)] [.int t3]
    refine V_istore (L' := [(0, .ref p0), (1, .int p1), (2, .int p2), (3, .int p3), (4, .int t3)]) hC dX12_addBidder_39 (by decide) [1, 2, 3, 4, 0] rfl ?_
    refine V_aload_n hC dX12_addBidder_41 0 rfl ?_
    refine V_iload hC dX12_addBidder_42 4 rfl ?_
    have hq := hq (fun (t4 : Nat) (t5 : Int32) => V G Γ 5 0 0 h1 52 [(0, .ref p0), (1, .int p1), (2, .int p2), (3, .int p3)] [.int t5, .ref t4]) (by
      intro t4 t5 hq
      show V G Γ 5 0 0 h1 52 [(0, .ref p0), (1, .int p1), (2, .int p2), (3, .int p3)] [.int t5, .ref t4]
      refine V_iconst (v := 1) hC dX12_addBidder_52 (by decide) ?_
      obtain ⟨hz, hq⟩ := hq
      refine clV_X12_fails hG hC sv_X12_115 ⟨by decide, by decide⟩ (Nat.le_of_ble_eq_true rfl) ⟨by decide, by decide⟩ dX12_addBidder_53 hz hq (fun r6 h7 hq => ?_)
      show V G Γ 5 0 0 h7 56 [(0, .ref p0), (1, .int p1), (2, .int p2), (3, .int p3)] [.int r6]
      refine V_if_ne (tgt := 80) hC dX12_addBidder_56 (by decide) (fun hc => ?_) (fun hc => ?_)
      · have hq := hq.1 hc
        refine V_iconst (v := 0) hC dX12_addBidder_80 (by decide) ?_
        exact V_iret hC hQ rfl rfl ⟨by decide, by decide⟩ dX12_addBidder_81 ⟨_, rfl, hq⟩
      · have hq := hq.2 hc
        refine V_aload_n hC dX12_addBidder_59 0 rfl ?_
        refine V_aload_n hC dX12_addBidder_60 0 rfl ?_
        refine U_getI hC fl_X12_243 dX12_addBidder_61 hq (fun v8 hq => ?_)
        refine V_iconst (v := 4) hC dX12_addBidder_64 (by decide) ?_
        have hq := hq (fun (t9 : Nat) (t10 : Int32) => V G Γ 5 0 0 h7 73 [(0, .ref p0), (1, .int p1), (2, .int p2), (3, .int p3)] [.int t10, .ref t9]) (by
          intro t9 t10 hq
          show V G Γ 5 0 0 h7 73 [(0, .ref p0), (1, .int p1), (2, .int p2), (3, .int p3)] [.int t10, .ref t9]
          refine V_iconst (v := 2) hC dX12_addBidder_73 (by decide) ?_
          obtain ⟨hz, hq⟩ := hq
          refine clV_X12_fails hG hC sv_X12_115 ⟨by decide, by decide⟩ (Nat.le_of_ble_eq_true rfl) ⟨by decide, by decide⟩ dX12_addBidder_74 hz hq (fun r11 h12 hq => ?_)
          show V G Γ 5 0 0 h12 77 [(0, .ref p0), (1, .int p1), (2, .int p2), (3, .int p3)] [.int r11]
          refine V_if_eq (tgt := 82) hC dX12_addBidder_77 (by decide) (fun hc => ?_) (fun hc => ?_)
          · have hq := hq.1 hc
            refine V_aload_n hC dX12_addBidder_82 0 rfl ?_
            refine U_getR hC fl_X12_67 dX12_addBidder_83 hq (fun v13 hq => ?_)
            refine V_iconst (v := 3) hC dX12_addBidder_86 (by decide) ?_
            refine V_aload_n hC dX12_addBidder_87 0 rfl ?_
            refine U_getI hC fl_X12_243 dX12_addBidder_88 hq (fun v14 hq => ?_)
            refine V_imul hC dX12_addBidder_91 ?_
            refine V_iload_n hC dX12_addBidder_92 1 rfl ?_
            refine U_stI hC dX12_addBidder_93 hq (fun h15 hq => ?_)
            refine V_aload_n hC dX12_addBidder_94 0 rfl ?_
            refine U_getR hC fl_X12_67 dX12_addBidder_95 hq (fun v16 hq => ?_)
            refine V_iconst (v := 3) hC dX12_addBidder_98 (by decide) ?_
            refine V_aload_n hC dX12_addBidder_99 0 rfl ?_
            refine U_getI hC fl_X12_243 dX12_addBidder_100 hq (fun v17 hq => ?_)
            refine V_imul hC dX12_addBidder_103 ?_
            refine V_iconst (v := 1) hC dX12_addBidder_104 (by decide) ?_
            refine V_iadd hC dX12_addBidder_105 ?_
            refine V_iload_n hC dX12_addBidder_106 2 rfl ?_
            refine U_stI hC dX12_addBidder_107 hq (fun h18 hq => ?_)
            refine V_aload_n hC dX12_addBidder_108 0 rfl ?_
            refine U_getR hC fl_X12_67 dX12_addBidder_109 hq (fun v19 hq => ?_)
            refine V_iconst (v := 3) hC dX12_addBidder_112 (by decide) ?_
            refine V_aload_n hC dX12_addBidder_113 0 rfl ?_
            refine U_getI hC fl_X12_243 dX12_addBidder_114 hq (fun v20 hq => ?_)
            refine V_imul hC dX12_addBidder_117 ?_
            refine V_iconst (v := 2) hC dX12_addBidder_118 (by decide) ?_
            refine V_iadd hC dX12_addBidder_119 ?_
            refine V_iload_n hC dX12_addBidder_120 3 rfl ?_
            refine U_stI hC dX12_addBidder_121 hq (fun h21 hq => ?_)
            refine V_aload_n hC dX12_addBidder_122 0 rfl ?_
            refine V_dup hC dX12_addBidder_123 rfl ?_
            refine U_getI hC fl_X12_243 dX12_addBidder_124 hq (fun v22 hq => ?_)
            refine V_iconst (v := 1) hC dX12_addBidder_127 (by decide) ?_
            refine V_iadd hC dX12_addBidder_128 ?_
            refine U_put hC fl_X12_243 fin_X12_24 rfl rfl dX12_addBidder_129 hq (fun h23 hq => ?_)
            refine V_aload_n hC dX12_addBidder_132 0 rfl ?_
            refine U_getI hC fl_X12_243 dX12_addBidder_133 hq (fun v24 hq => ?_)
            refine V_iconst (v := 1) hC dX12_addBidder_136 (by decide) ?_
            refine V_isub hC dX12_addBidder_137 ?_
            exact V_iret hC hQ rfl rfl ⟨by decide, by decide⟩ dX12_addBidder_138 ⟨_, rfl, hq⟩
          · have hq := hq.2 hc
            refine V_iconst (v := 0) hC dX12_addBidder_80 (by decide) ?_
            exact V_iret hC hQ rfl rfl ⟨by decide, by decide⟩ dX12_addBidder_81 ⟨_, rfl, hq⟩)
        refine V_icmp_ne (tgt := 72) hC dX12_addBidder_65 (by decide) (fun hc => ?_) (fun hc => ?_)
        · have hq := hq.1 hc
          refine V_iconst (v := 0) hC dX12_addBidder_72 (by decide) ?_
          exact hq
        · have hq := hq.2 hc
          refine V_iconst (v := 1) hC dX12_addBidder_68 (by decide) ?_
          refine V_goto (tgt := 73) hC dX12_addBidder_69 (by decide) ?_
          exact hq)
    refine V_if_ne (tgt := 51) hC dX12_addBidder_44 (by decide) (fun hc => ?_) (fun hc => ?_)
    · have hq := hq.1 hc
      refine V_iconst (v := 0) hC dX12_addBidder_51 (by decide) ?_
      refine V_sub [0, 1, 2, 3] rfl ?_
      exact hq
    · have hq := hq.2 hc
      refine V_iconst (v := 1) hC dX12_addBidder_47 (by decide) ?_
      refine V_goto (tgt := 52) hC dX12_addBidder_48 (by decide) ?_
      refine V_sub [0, 1, 2, 3] rfl ?_
      exact hq)
  have hq := hq (V G Γ 5 0 0 h1 38 [(0, .ref p0), (1, .int p1), (2, .int p2), (3, .int p3)] []) (by
    intro hq
    show V G Γ 5 0 0 h1 38 [(0, .ref p0), (1, .int p1), (2, .int p2), (3, .int p3)] []
    refine V_iconst (v := 0) hC dX12_addBidder_38 (by decide) ?_
    exact hq)
  refine V_if_eq (tgt := 38) hC dX12_addBidder_13 (by decide) (fun hc => ?_) (fun hc => ?_)
  · have hq := hq.1 hc
    exact hq
  · have hq := hq.2 hc
    refine V_iload_n hC dX12_addBidder_16 2 rfl ?_
    refine V_iconst (v := 0) hC dX12_addBidder_17 (by decide) ?_
    refine V_iload_n hC dX12_addBidder_18 1 rfl ?_
    refine clS_X12_in hG hC ss_X12_101 ⟨by decide, by decide⟩ (Nat.le_of_ble_eq_true rfl) ⟨by decide, by decide⟩ dX12_addBidder_19 hq (fun r25 hq => ?_)
    show V G Γ 5 0 0 h1 22 [(0, .ref p0), (1, .int p1), (2, .int p2), (3, .int p3)] [.int r25]
    refine V_if_eq (tgt := 38) hC dX12_addBidder_22 (by decide) (fun hc => ?_) (fun hc => ?_)
    · have hq := hq.1 hc
      exact hq
    · have hq := hq.2 hc
      refine V_iload_n hC dX12_addBidder_25 3 rfl ?_
      refine V_iconst (v := 0) hC dX12_addBidder_26 (by decide) ?_
      refine V_iload_n hC dX12_addBidder_27 2 rfl ?_
      refine clS_X12_in hG hC ss_X12_101 ⟨by decide, by decide⟩ (Nat.le_of_ble_eq_true rfl) ⟨by decide, by decide⟩ dX12_addBidder_28 hq (fun r26 hq => ?_)
      show V G Γ 5 0 0 h1 31 [(0, .ref p0), (1, .int p1), (2, .int p2), (3, .int p3)] [.int r26]
      refine V_if_eq (tgt := 38) hC dX12_addBidder_31 (by decide) (fun hc => ?_) (fun hc => ?_)
      · have hq := hq.1 hc
        exact hq
      · have hq := hq.2 hc
        refine V_iconst (v := 1) hC dX12_addBidder_34 (by decide) ?_
        refine V_goto (tgt := 39) hC dX12_addBidder_35 (by decide) ?_
        exact hq
set_option maxRecDepth 100000 in
set_option maxHeartbeats 4000000 in
theorem ct_X12_handOut {G : Gx} (hG : GOK G) (p0 : Nat) (p1 : Int32) (p2 : Int32) (h0 : hw) (post : Int64 → hw → Prop) (hq : wp_X12_handOut G p0 p1 p2 h0 post) : CT G yX12_handOut cX12_handOut 10 (some .long) 2 30 0 0 [.ref p0, .int p1, .int p2] h0 (fun v h1 => ∃ r : Int64, v = some (.long r) ∧ post r h1) (fun E h1 => False) := by
  refine CT_of hG (by decide) (Nat.le_of_ble_eq_true rfl) (fun Γ hC hQ hN => ?_)
  have hC : COK G Γ "BandplanModel" cX12_handOut 10 2 30 0 0 [] := hC
  unfold wp_X12_handOut at hq
  show V G Γ 10 0 0 h0 0 [(0, .ref p0), (1, .int p1), (2, .int p2)] []
  refine V_iconst (v := 0) hC dX12_handOut_0 (by decide) ?_
  refine V_istore_n (L' := [(0, .ref p0), (1, .int p1), (2, .int p2), (3, .int 0)]) hC dX12_handOut_1 rfl (by decide) [1, 2, 3, 0] rfl ?_
  have hq := hq (fun (x3_1 : Int32) (h2 : hw) => V G Γ 10 0 0 h2 2 [(0, .ref p0), (1, .int p1), (2, .int p2), (3, .int x3_1)] []) (by
    intro x3_1 h2 hq
    show V G Γ 10 0 0 h2 2 [(0, .ref p0), (1, .int p1), (2, .int p2), (3, .int x3_1)] []
    refine V_iload_n hC dX12_handOut_2 3 rfl ?_
    refine V_aload_n hC dX12_handOut_3 0 rfl ?_
    refine U_getI hC fl_X12_243 dX12_handOut_4 hq (fun v3 hq => ?_)
    refine V_icmp_ge (tgt := 23) hC dX12_handOut_7 (by decide) (fun hc => ?_) (fun hc => ?_)
    · have hq := hq.1 hc
      refine V_lconst (v := 0) hC dX12_handOut_23 (by decide) ?_
      refine V_lstore_n (L' := [(0, .ref p0), (1, .int p1), (2, .int p2), (3, .long 0)]) hC dX12_handOut_24 rfl (by decide) [1, 2, 3, 0] rfl ?_
      refine V_iconst (v := 0) hC dX12_handOut_25 (by decide) ?_
      refine V_istore (L' := [(0, .ref p0), (1, .int p1), (2, .int p2), (3, .long 0), (5, .int 0)]) hC dX12_handOut_26 (by decide) [1, 2, 3, 4, 0] rfl ?_
      have hq := hq (fun (x3_4 : Int64) (x5_5 : Int32) (h6 : hw) => V G Γ 10 0 0 h6 28 [(0, .ref p0), (1, .int p1), (2, .int p2), (3, .long x3_4), (5, .int x5_5)] []) (by
        intro x3_4 x5_5 h6 hq
        show V G Γ 10 0 0 h6 28 [(0, .ref p0), (1, .int p1), (2, .int p2), (3, .long x3_4), (5, .int x5_5)] []
        refine V_iload hC dX12_handOut_28 4 rfl ?_
        refine V_iload_n hC dX12_handOut_30 1 rfl ?_
        refine V_icmp_ge (tgt := 152) hC dX12_handOut_31 (by decide) (fun hc => ?_) (fun hc => ?_)
        · have hq := hq.1 hc
          refine V_lload_n hC dX12_handOut_152 3 rfl ?_
          exact V_lret hC hQ ⟨by decide, by decide⟩ dX12_handOut_153 ⟨_, rfl, hq⟩
        · have hq := hq.2 hc
          refine V_iconst (v := (-1)) hC dX12_handOut_34 (by decide) ?_
          refine V_istore (L' := [(0, .ref p0), (1, .int p1), (2, .int p2), (3, .long x3_4), (5, .int x5_5), (6, .int (-1))]) hC dX12_handOut_35 (by decide) [1, 2, 3, 4, 5, 0] rfl ?_
          refine V_iconst (v := 0) hC dX12_handOut_37 (by decide) ?_
          refine V_istore (L' := [(0, .ref p0), (1, .int p1), (2, .int p2), (3, .long x3_4), (5, .int x5_5), (6, .int (-1)), (7, .int 0)]) hC dX12_handOut_38 (by decide) [1, 2, 3, 4, 5, 6, 0] rfl ?_
          refine V_iconst (v := 0) hC dX12_handOut_40 (by decide) ?_
          refine V_istore (L' := [(0, .ref p0), (1, .int p1), (2, .int p2), (3, .long x3_4), (5, .int x5_5), (6, .int (-1)), (7, .int 0), (8, .int 0)]) hC dX12_handOut_41 (by decide) [1, 2, 3, 4, 5, 6, 7, 0] rfl ?_
          have hq := hq (fun (x6_7 : Int32) (x7_8 : Int32) (x8_9 : Int32) => V G Γ 10 0 0 h6 43 [(0, .ref p0), (1, .int p1), (2, .int p2), (3, .long x3_4), (5, .int x5_5), (6, .int x6_7), (7, .int x7_8), (8, .int x8_9)] []) (by
            intro x6_7 x7_8 x8_9 hq
            show V G Γ 10 0 0 h6 43 [(0, .ref p0), (1, .int p1), (2, .int p2), (3, .long x3_4), (5, .int x5_5), (6, .int x6_7), (7, .int x7_8), (8, .int x8_9)] []
            refine V_iload hC dX12_handOut_43 7 rfl ?_
            refine V_aload_n hC dX12_handOut_45 0 rfl ?_
            refine U_getI hC fl_X12_243 dX12_handOut_46 hq (fun v10 hq => ?_)
            refine V_icmp_ge (tgt := 123) hC dX12_handOut_49 (by decide) (fun hc => ?_) (fun hc => ?_)
            · have hq := hq.1 hc
              refine V_iload hC dX12_handOut_123 5 rfl ?_
              refine V_iconst (v := (-1)) hC dX12_handOut_125 (by decide) ?_
              have hq := hq (fun (x3_11 : Int64) (h12 : hw) => V G Γ 10 0 0 h12 146 [(0, .ref p0), (1, .int p1), (2, .int p2), (3, .long x3_11), (5, .int x5_5)] []) (by
                intro x3_11 h12 hq
                show V G Γ 10 0 0 h12 146 [(0, .ref p0), (1, .int p1), (2, .int p2), (3, .long x3_11), (5, .int x5_5)] []
                refine V_iinc (j := 4) (v := (x5_5 + 1)) (L' := [(0, .ref p0), (1, .int p1), (2, .int p2), (3, .long x3_11), (5, .int (x5_5 + 1))]) hC dX12_handOut_146 rfl rfl (by decide) [1, 2, 3, 4, 0] rfl ?_
                refine V_goto (tgt := 28) hC dX12_handOut_149 (by decide) ?_
                exact hq)
              refine V_icmp_eq (tgt := 146) hC dX12_handOut_126 (by decide) (fun hc => ?_) (fun hc => ?_)
              · have hq := hq.1 hc
                refine V_sub [0, 1, 2, 3, 4] rfl ?_
                exact hq
              · have hq := hq.2 hc
                refine V_aload_n hC dX12_handOut_129 0 rfl ?_
                refine U_getR hC fl_X12_83 dX12_handOut_130 hq (fun v13 hq => ?_)
                refine V_iload hC dX12_handOut_133 5 rfl ?_
                refine V_dup2 hC dX12_handOut_135 rfl rfl ?_
                refine U_ldI hC dX12_handOut_136 hq (fun v14 hq => ?_)
                refine V_iconst (v := 1) hC dX12_handOut_137 (by decide) ?_
                refine V_iadd hC dX12_handOut_138 ?_
                refine U_stI hC dX12_handOut_139 hq (fun h15 hq => ?_)
                refine V_lload_n hC dX12_handOut_140 3 rfl ?_
                refine V_iload hC dX12_handOut_141 6 rfl ?_
                refine V_i2l hC dX12_handOut_143 ?_
                refine V_ladd hC dX12_handOut_144 ?_
                refine V_lstore_n (L' := [(0, .ref p0), (1, .int p1), (2, .int p2), (3, .long (x3_4 + (Int32.toInt64 x7_8))), (5, .int x5_5), (6, .int x6_7), (7, .int x7_8), (8, .int x8_9)]) hC dX12_handOut_145 rfl (by decide) [1, 2, 3, 0, 4, 5, 6, 7] rfl ?_
                refine V_sub [0, 1, 2, 3, 4] rfl ?_
                exact hq
            · have hq := hq.2 hc
              refine V_iload hC dX12_handOut_52 7 rfl ?_
              refine V_iload_n hC dX12_handOut_54 2 rfl ?_
              have hq := hq (fun (t16 : Int32) => V G Γ 10 0 0 h6 90 [(0, .ref p0), (1, .int p1), (2, .int p2), (3, .long x3_4), (5, .int x5_5), (6, .int x6_7), (7, .int x7_8), (8, .int x8_9)] [.int t16]) (by
                intro t16 hq
                show V G Γ 10 0 0 h6 90 [(0, .ref p0), (1, .int p1), (2, .int p2), (3, .long x3_4), (5, .int x5_5), (6, .int x6_7), (7, .int x7_8), (8, .int x8_9)] [.int t16]
                refine V_istore (L' := [(0, .ref p0), (1, .int p1), (2, .int p2), (3, .long x3_4), (5, .int x5_5), (6, .int x6_7), (7, .int x7_8), (8, .int x8_9), (9, .int t16)]) hC dX12_handOut_90 (by decide) [1, 2, 3, 4, 5, 6, 7, 8, 0] rfl ?_
                refine V_iload hC dX12_handOut_92 8 rfl ?_
                refine V_iload hC dX12_handOut_94 6 rfl ?_
                have hq := hq (fun (t17 : Int32) => V G Γ 10 0 0 h6 106 [(0, .ref p0), (1, .int p1), (2, .int p2), (3, .long x3_4), (5, .int x5_5), (7, .int x7_8), (8, .int x8_9), (9, .int t16)] [.int t17]) (by
                  intro t17 hq
                  show V G Γ 10 0 0 h6 106 [(0, .ref p0), (1, .int p1), (2, .int p2), (3, .long x3_4), (5, .int x5_5), (7, .int x7_8), (8, .int x8_9), (9, .int t16)] [.int t17]
                  refine V_istore (L' := [(0, .ref p0), (1, .int p1), (2, .int p2), (3, .long x3_4), (5, .int x5_5), (6, .int t17), (7, .int x7_8), (8, .int x8_9), (9, .int t16)]) hC dX12_handOut_106 (by decide) [1, 2, 3, 4, 5, 0, 6, 7, 8] rfl ?_
                  refine V_iload hC dX12_handOut_108 6 rfl ?_
                  refine V_iload hC dX12_handOut_110 8 rfl ?_
                  refine V_max hC sm_X12_129 (by decide) (Nat.le_of_ble_eq_true rfl) (by decide) (by decide) dX12_handOut_112 ?_
                  refine V_istore (L' := [(0, .ref p0), (1, .int p1), (2, .int p2), (3, .long x3_4), (5, .int x5_5), (6, .int t17), (7, .int (jmax x7_8 t16)), (8, .int x8_9), (9, .int t16)]) hC dX12_handOut_115 (by decide) [1, 2, 3, 4, 5, 6, 0, 7, 8] rfl ?_
                  refine V_iinc (j := 7) (v := (x8_9 + 1)) (L' := [(0, .ref p0), (1, .int p1), (2, .int p2), (3, .long x3_4), (5, .int x5_5), (6, .int t17), (7, .int (jmax x7_8 t16)), (8, .int (x8_9 + 1)), (9, .int t16)]) hC dX12_handOut_117 rfl rfl (by decide) [1, 2, 3, 4, 5, 6, 7, 0, 8] rfl ?_
                  refine V_goto (tgt := 43) hC dX12_handOut_120 (by decide) ?_
                  refine V_sub [0, 1, 2, 3, 4, 5, 6, 7] rfl ?_
                  exact hq)
                refine V_icmp_le (tgt := 104) hC dX12_handOut_96 (by decide) (fun hc => ?_) (fun hc => ?_)
                · have hq := hq.1 hc
                  refine V_iload hC dX12_handOut_104 5 rfl ?_
                  refine V_sub [0, 1, 2, 3, 4, 6, 7, 8] rfl ?_
                  exact hq
                · have hq := hq.2 hc
                  refine V_iload hC dX12_handOut_99 7 rfl ?_
                  refine V_goto (tgt := 106) hC dX12_handOut_101 (by decide) ?_
                  refine V_sub [0, 1, 2, 3, 4, 6, 7, 8] rfl ?_
                  exact hq)
              have hq := hq (V G Γ 10 0 0 h6 69 [(0, .ref p0), (1, .int p1), (2, .int p2), (3, .long x3_4), (5, .int x5_5), (6, .int x6_7), (7, .int x7_8), (8, .int x8_9)] []) (by
                intro hq
                show V G Γ 10 0 0 h6 69 [(0, .ref p0), (1, .int p1), (2, .int p2), (3, .long x3_4), (5, .int x5_5), (6, .int x6_7), (7, .int x7_8), (8, .int x8_9)] []
                refine V_iconst (v := 0) hC dX12_handOut_69 (by decide) ?_
                refine V_goto (tgt := 90) hC dX12_handOut_70 (by decide) ?_
                exact hq)
              refine V_icmp_eq (tgt := 69) hC dX12_handOut_55 (by decide) (fun hc => ?_) (fun hc => ?_)
              · have hq := hq.1 hc
                exact hq
              · have hq := hq.2 hc
                refine V_aload_n hC dX12_handOut_58 0 rfl ?_
                refine U_getR hC fl_X12_83 dX12_handOut_59 hq (fun v18 hq => ?_)
                refine V_iload hC dX12_handOut_62 7 rfl ?_
                refine U_ldI hC dX12_handOut_64 hq (fun v19 hq => ?_)
                refine V_iconst (v := 3) hC dX12_handOut_65 (by decide) ?_
                refine V_icmp_ne (tgt := 73) hC dX12_handOut_66 (by decide) (fun hc => ?_) (fun hc => ?_)
                · have hq := hq.1 hc
                  refine V_aload_n hC dX12_handOut_73 0 rfl ?_
                  refine U_getR hC fl_X12_67 dX12_handOut_74 hq (fun v20 hq => ?_)
                  refine V_iconst (v := 3) hC dX12_handOut_77 (by decide) ?_
                  refine V_iload hC dX12_handOut_78 7 rfl ?_
                  refine V_imul hC dX12_handOut_80 ?_
                  refine V_aload_n hC dX12_handOut_81 0 rfl ?_
                  refine U_getR hC fl_X12_83 dX12_handOut_82 hq (fun v21 hq => ?_)
                  refine V_iload hC dX12_handOut_85 7 rfl ?_
                  refine U_ldI hC dX12_handOut_87 hq (fun v22 hq => ?_)
                  refine V_iadd hC dX12_handOut_88 ?_
                  refine U_ldI hC dX12_handOut_89 hq (fun v23 hq => ?_)
                  exact hq
                · have hq := hq.2 hc
                  exact hq)
          exact hq)
      exact hq
    · have hq := hq.2 hc
      refine V_aload_n hC dX12_handOut_10 0 rfl ?_
      refine U_getR hC fl_X12_83 dX12_handOut_11 hq (fun v24 hq => ?_)
      refine V_iload_n hC dX12_handOut_14 3 rfl ?_
      refine V_iconst (v := 0) hC dX12_handOut_15 (by decide) ?_
      refine U_stI hC dX12_handOut_16 hq (fun h25 hq => ?_)
      refine V_iinc (j := 3) (v := (x3_1 + 1)) (L' := [(0, .ref p0), (1, .int p1), (2, .int p2), (3, .int (x3_1 + 1))]) hC dX12_handOut_17 rfl rfl (by decide) [1, 2, 3, 0] rfl ?_
      refine V_goto (tgt := 2) hC dX12_handOut_20 (by decide) ?_
      exact hq)
  exact hq
theorem clV_X12_handOut {G : Gx} (hG : GOK G) {Γ : Cx} {own : String} {cc : ByteArray} {nL fr lo mc ms cells slots pc : Nat} {hh : List (Nat × Nat × Nat × Nat)} {h : hw} {L : List (Nat × Value)} {rest : List Value} (hC : COK G Γ own cc nL fr lo mc ms hh) {idx : Nat} (hs : SV own idx yX12_handOut cX12_handOut 10 (some .long) 2) {p0 : Nat} {p1 : Int32} {p2 : Int32} (hR : 2 + 1 ≤ fr ∧ 8 + (10 + 11) + 30 ≤ lo) (hw8 : (rest.map fun v => v.category).sum ≤ 8) (hcs : cells + 0 ≤ mc ∧ slots + 0 ≤ ms) (hdg : decode cc pc = .ok (.invokevirtual idx, 3)) (ho : isO h p0 12) {post : Int64 → hw → Prop} (hq : wp_X12_handOut G p0 p1 p2 h post) (kk : ∀ (r : Int64) (h1 : hw) , post r h1 → V G Γ nL (cells + 0) (slots + 0) h1 (pc + 3) L (.long r :: rest)) : V G Γ nL cells slots h pc L (.int p2 :: .int p1 :: .ref p0 :: rest) :=
  V_callV (As := [.int p1, .int p2]) (r9 := (RX12, TX12, 36)) hC (ct_X12_handOut hG p0 p1 p2 h post hq) hs ho rfl rfl rfl hR hw8 hcs hdg (fun E h1 z => z.elim) (fun v h1 z => by obtain ⟨r, rfl, hz⟩ := z; exact kk r h1 hz)
set_option maxRecDepth 100000 in
set_option maxHeartbeats 4000000 in
theorem ct_X12_buy {G : Gx} (hG : GOK G) (p0 : Nat) (p1 : Int32) (h0 : hw) (post : Int32 → hw → Prop) (hq : wp_X12_buy G p0 p1 h0 post) : CT G yX12_buy cX12_buy 9 (some .int) 3 59 0 0 [.ref p0, .int p1] h0 (fun v h1 => ∃ r : Int32, v = some (.int r) ∧ post r h1) (fun E h1 => False) := by
  refine CT_of hG (by decide) (Nat.le_of_ble_eq_true rfl) (fun Γ hC hQ hN => ?_)
  have hC : COK G Γ "BandplanModel" cX12_buy 9 3 59 0 0 [] := hC
  unfold wp_X12_buy at hq
  show V G Γ 9 0 0 h0 0 [(0, .ref p0), (1, .int p1)] []
  refine V_aload_n hC dX12_buy_0 0 rfl ?_
  refine V_iconst (v := 0) hC dX12_buy_1 (by decide) ?_
  refine U_put hC fl_X12_98 fin_X12_0 rfl rfl dX12_buy_2 hq (fun h1 hq => ?_)
  refine V_aload_n hC dX12_buy_5 0 rfl ?_
  refine V_iload_n hC dX12_buy_6 1 rfl ?_
  refine V_iconst (v := 0) hC dX12_buy_7 (by decide) ?_
  refine V_bipush (v := 8) hC dX12_buy_8 (by decide) ?_
  refine clS_X12_in hG hC ss_X12_101 ⟨by decide, by decide⟩ (Nat.le_of_ble_eq_true rfl) ⟨by decide, by decide⟩ dX12_buy_10 hq (fun r2 hq => ?_)
  show V G Γ 9 0 0 h1 13 [(0, .ref p0), (1, .int p1)] [.int r2, .ref p0]
  have hq := hq (fun (t3 : Nat) (t4 : Int32) => V G Γ 9 0 0 h1 21 [(0, .ref p0), (1, .int p1)] [.int t4, .ref t3]) (by
    intro t3 t4 hq
    show V G Γ 9 0 0 h1 21 [(0, .ref p0), (1, .int p1)] [.int t4, .ref t3]
    refine V_iconst (v := 1) hC dX12_buy_21 (by decide) ?_
    obtain ⟨hz, hq⟩ := hq
    refine clV_X12_fails hG hC sv_X12_115 ⟨by decide, by decide⟩ (Nat.le_of_ble_eq_true rfl) ⟨by decide, by decide⟩ dX12_buy_22 hz hq (fun r5 h6 hq => ?_)
    show V G Γ 9 0 0 h6 25 [(0, .ref p0), (1, .int p1)] [.int r5]
    refine V_if_eq (tgt := 30) hC dX12_buy_25 (by decide) (fun hc => ?_) (fun hc => ?_)
    · have hq := hq.1 hc
      refine V_aload_n hC dX12_buy_30 0 rfl ?_
      refine V_iload_n hC dX12_buy_31 1 rfl ?_
      refine V_iconst (v := (-1)) hC dX12_buy_32 (by decide) ?_
      obtain ⟨hz, hq⟩ := hq
      refine clV_X12_handOut hG hC sv_X12_246 ⟨by decide, by decide⟩ (Nat.le_of_ble_eq_true rfl) ⟨by decide, by decide⟩ dX12_buy_33 hz hq (fun r7 h8 hq => ?_)
      show V G Γ 9 0 0 h8 36 [(0, .ref p0), (1, .int p1)] [.long r7]
      refine V_lstore_n (L' := [(0, .ref p0), (1, .int p1), (2, .long r7)]) hC dX12_buy_36 rfl (by decide) [1, 2, 0] rfl ?_
      refine V_iconst (v := 0) hC dX12_buy_37 (by decide) ?_
      refine V_istore (L' := [(0, .ref p0), (1, .int p1), (2, .long r7), (4, .int 0)]) hC dX12_buy_38 (by decide) [1, 2, 3, 0] rfl ?_
      refine V_iconst (v := 0) hC dX12_buy_40 (by decide) ?_
      refine V_istore (L' := [(0, .ref p0), (1, .int p1), (2, .long r7), (4, .int 0), (5, .int 0)]) hC dX12_buy_41 (by decide) [1, 2, 3, 4, 0] rfl ?_
      have hq := hq (fun (x4_9 : Int32) (x5_10 : Int32) (h11 : hw) => V G Γ 9 0 0 h11 43 [(0, .ref p0), (1, .int p1), (2, .long r7), (4, .int x4_9), (5, .int x5_10)] []) (by
        intro x4_9 x5_10 h11 hq
        show V G Γ 9 0 0 h11 43 [(0, .ref p0), (1, .int p1), (2, .long r7), (4, .int x4_9), (5, .int x5_10)] []
        refine V_iload hC dX12_buy_43 4 rfl ?_
        refine V_aload_n hC dX12_buy_45 0 rfl ?_
        refine U_getI hC fl_X12_243 dX12_buy_46 hq (fun v12 hq => ?_)
        refine V_icmp_ge (tgt := 84) hC dX12_buy_49 (by decide) (fun hc => ?_) (fun hc => ?_)
        · have hq := hq.1 hc
          refine V_iconst (v := 0) hC dX12_buy_84 (by decide) ?_
          refine V_istore (L' := [(0, .ref p0), (1, .int p1), (2, .long r7), (4, .int x4_9), (5, .int 0)]) hC dX12_buy_85 (by decide) [1, 2, 3, 4, 0] rfl ?_
          have hq := hq (fun (x5_13 : Int32) (h14 : hw) => V G Γ 9 0 0 h14 87 [(0, .ref p0), (1, .int p1), (2, .long r7), (4, .int x4_9), (5, .int x5_13)] []) (by
            intro x5_13 h14 hq
            show V G Γ 9 0 0 h14 87 [(0, .ref p0), (1, .int p1), (2, .long r7), (4, .int x4_9), (5, .int x5_13)] []
            refine V_iload hC dX12_buy_87 4 rfl ?_
            refine V_aload_n hC dX12_buy_89 0 rfl ?_
            refine U_getI hC fl_X12_243 dX12_buy_90 hq (fun v15 hq => ?_)
            refine V_icmp_ge (tgt := 163) hC dX12_buy_93 (by decide) (fun hc => ?_) (fun hc => ?_)
            · have hq := hq.1 hc
              refine V_iload hC dX12_buy_163 3 rfl ?_
              exact V_iret hC hQ rfl rfl ⟨by decide, by decide⟩ dX12_buy_165 ⟨_, rfl, hq⟩
            · have hq := hq.2 hc
              refine V_lconst (v := 0) hC dX12_buy_96 (by decide) ?_
              refine V_lstore (L' := [(0, .ref p0), (1, .int p1), (2, .long r7), (4, .int x4_9), (5, .int x5_13), (6, .long 0)]) hC dX12_buy_97 (by decide) [1, 2, 3, 4, 5, 0] rfl ?_
              refine V_iconst (v := 0) hC dX12_buy_99 (by decide) ?_
              refine V_istore (L' := [(0, .ref p0), (1, .int p1), (2, .long r7), (4, .int x4_9), (5, .int x5_13), (6, .long 0), (8, .int 0)]) hC dX12_buy_100 (by decide) [1, 2, 3, 4, 5, 6, 0] rfl ?_
              have hq := hq (fun (x6_16 : Int64) (x8_17 : Int32) => V G Γ 9 0 0 h14 102 [(0, .ref p0), (1, .int p1), (2, .long r7), (4, .int x4_9), (5, .int x5_13), (6, .long x6_16), (8, .int x8_17)] []) (by
                intro x6_16 x8_17 hq
                show V G Γ 9 0 0 h14 102 [(0, .ref p0), (1, .int p1), (2, .long r7), (4, .int x4_9), (5, .int x5_13), (6, .long x6_16), (8, .int x8_17)] []
                refine V_iload hC dX12_buy_102 6 rfl ?_
                refine V_aload_n hC dX12_buy_104 0 rfl ?_
                refine U_getR hC fl_X12_70 dX12_buy_105 hq (fun v18 hq => ?_)
                refine V_iload hC dX12_buy_108 4 rfl ?_
                refine U_ldI hC dX12_buy_110 hq (fun v19 hq => ?_)
                refine V_icmp_ge (tgt := 138) hC dX12_buy_111 (by decide) (fun hc => ?_) (fun hc => ?_)
                · have hq := hq.1 hc
                  refine V_aload_n hC dX12_buy_138 0 rfl ?_
                  refine U_getR hC fl_X12_73 dX12_buy_139 hq (fun v20 hq => ?_)
                  refine V_iload hC dX12_buy_142 4 rfl ?_
                  refine V_aload_n hC dX12_buy_144 0 rfl ?_
                  refine V_iload_n hC dX12_buy_145 1 rfl ?_
                  refine V_iload hC dX12_buy_146 4 rfl ?_
                  obtain ⟨hz, hq⟩ := hq
                  refine clV_X12_handOut hG hC sv_X12_246 ⟨by decide, by decide⟩ (Nat.le_of_ble_eq_true rfl) ⟨by decide, by decide⟩ dX12_buy_148 hz hq (fun r21 h22 hq => ?_)
                  show V G Γ 9 0 0 h22 151 [(0, .ref p0), (1, .int p1), (2, .long r7), (4, .int x4_9), (5, .int x5_13), (6, .long x6_16), (8, .int x8_17)] [.long r21, .int x5_13, .ref v20]
                  refine V_lload_n hC dX12_buy_151 2 rfl ?_
                  refine V_lload hC dX12_buy_152 5 rfl ?_
                  refine V_lsub hC dX12_buy_154 ?_
                  refine V_lsub hC dX12_buy_155 ?_
                  refine U_stJ hC dX12_buy_156 hq (fun h23 hq => ?_)
                  refine V_iinc (j := 4) (v := (x5_13 + 1)) (L' := [(0, .ref p0), (1, .int p1), (2, .long r7), (4, .int x4_9), (5, .int (x5_13 + 1)), (6, .long x6_16), (8, .int x8_17)]) hC dX12_buy_157 rfl rfl (by decide) [1, 2, 3, 4, 0, 5, 6] rfl ?_
                  refine V_goto (tgt := 87) hC dX12_buy_160 (by decide) ?_
                  refine V_sub [0, 1, 2, 3, 4] rfl ?_
                  exact hq
                · have hq := hq.2 hc
                  refine V_lload hC dX12_buy_114 5 rfl ?_
                  refine V_aload_n hC dX12_buy_116 0 rfl ?_
                  refine U_getR hC fl_X12_67 dX12_buy_117 hq (fun v24 hq => ?_)
                  refine V_iconst (v := 3) hC dX12_buy_120 (by decide) ?_
                  refine V_iload hC dX12_buy_121 4 rfl ?_
                  refine V_imul hC dX12_buy_123 ?_
                  refine V_iload hC dX12_buy_124 6 rfl ?_
                  refine V_iadd hC dX12_buy_126 ?_
                  refine U_ldI hC dX12_buy_127 hq (fun v25 hq => ?_)
                  refine V_i2l hC dX12_buy_128 ?_
                  refine V_ladd hC dX12_buy_129 ?_
                  refine V_lstore (L' := [(0, .ref p0), (1, .int p1), (2, .long r7), (4, .int x4_9), (5, .int x5_13), (6, .long (x6_16 + (Int32.toInt64 v25))), (8, .int x8_17)]) hC dX12_buy_130 (by decide) [1, 2, 3, 4, 5, 0, 6] rfl ?_
                  refine V_iinc (j := 6) (v := (x8_17 + 1)) (L' := [(0, .ref p0), (1, .int p1), (2, .long r7), (4, .int x4_9), (5, .int x5_13), (6, .long (x6_16 + (Int32.toInt64 v25))), (8, .int (x8_17 + 1))]) hC dX12_buy_132 rfl rfl (by decide) [1, 2, 3, 4, 5, 6, 0] rfl ?_
                  refine V_goto (tgt := 102) hC dX12_buy_135 (by decide) ?_
                  exact hq)
              exact hq)
          exact hq
        · have hq := hq.2 hc
          refine V_aload_n hC dX12_buy_52 0 rfl ?_
          refine U_getR hC fl_X12_70 dX12_buy_53 hq (fun v26 hq => ?_)
          refine V_iload hC dX12_buy_56 4 rfl ?_
          refine V_aload_n hC dX12_buy_58 0 rfl ?_
          refine U_getR hC fl_X12_83 dX12_buy_59 hq (fun v27 hq => ?_)
          refine V_iload hC dX12_buy_62 4 rfl ?_
          refine U_ldI hC dX12_buy_64 hq (fun v28 hq => ?_)
          refine U_stI hC dX12_buy_65 hq (fun h29 hq => ?_)
          refine V_iload hC dX12_buy_66 3 rfl ?_
          refine V_aload_n hC dX12_buy_68 0 rfl ?_
          refine U_getR hC fl_X12_70 dX12_buy_69 hq (fun v30 hq => ?_)
          refine V_iload hC dX12_buy_72 4 rfl ?_
          refine U_ldI hC dX12_buy_74 hq (fun v31 hq => ?_)
          refine V_iadd hC dX12_buy_75 ?_
          refine V_istore (L' := [(0, .ref p0), (1, .int p1), (2, .long r7), (4, .int (x4_9 + v31)), (5, .int x5_10)]) hC dX12_buy_76 (by decide) [1, 2, 3, 0, 4] rfl ?_
          refine V_iinc (j := 4) (v := (x5_10 + 1)) (L' := [(0, .ref p0), (1, .int p1), (2, .long r7), (4, .int (x4_9 + v31)), (5, .int (x5_10 + 1))]) hC dX12_buy_78 rfl rfl (by decide) [1, 2, 3, 4, 0] rfl ?_
          refine V_goto (tgt := 43) hC dX12_buy_81 (by decide) ?_
          exact hq)
      exact hq
    · have hq := hq.2 hc
      refine V_iconst (v := 0) hC dX12_buy_28 (by decide) ?_
      exact V_iret hC hQ rfl rfl ⟨by decide, by decide⟩ dX12_buy_29 ⟨_, rfl, hq⟩)
  refine V_if_ne (tgt := 20) hC dX12_buy_13 (by decide) (fun hc => ?_) (fun hc => ?_)
  · have hq := hq.1 hc
    refine V_iconst (v := 0) hC dX12_buy_20 (by decide) ?_
    exact hq
  · have hq := hq.2 hc
    refine V_iconst (v := 1) hC dX12_buy_16 (by decide) ?_
    refine V_goto (tgt := 21) hC dX12_buy_17 (by decide) ?_
    exact hq
set_option maxRecDepth 100000 in
set_option maxHeartbeats 4000000 in
theorem ct_X12_noBidder {G : Gx} (hG : GOK G) (p0 : Nat) (p1 : Int32) (h0 : hw) (post : Int32 → Prop) (hq : wp_X12_noBidder G p0 p1 h0 post) : CT G yX12_noBidder cX12_noBidder 2 (some .boolean) 2 52 0 0 [.ref p0, .int p1] h0 (fun v h1 => ∃ r : Int32, v = some (.int r) ∧ h1 = h0 ∧ post r) (fun E h1 => False) := by
  refine CT_of hG (by decide) (Nat.le_of_ble_eq_true rfl) (fun Γ hC hQ hN => ?_)
  have hC : COK G Γ "BandplanModel" cX12_noBidder 2 2 52 0 0 [] := hC
  unfold wp_X12_noBidder at hq
  show V G Γ 2 0 0 h0 0 [(0, .ref p0), (1, .int p1)] []
  refine V_iload_n hC dX12_noBidder_0 1 rfl ?_
  refine V_iconst (v := 0) hC dX12_noBidder_1 (by decide) ?_
  refine V_aload_n hC dX12_noBidder_2 0 rfl ?_
  refine U_getI hC fl_X12_243 dX12_noBidder_3 hq (fun v1 hq => ?_)
  refine V_iconst (v := 1) hC dX12_noBidder_6 (by decide) ?_
  refine V_isub hC dX12_noBidder_7 ?_
  refine clS_X12_in hG hC ss_X12_101 ⟨by decide, by decide⟩ (Nat.le_of_ble_eq_true rfl) ⟨by decide, by decide⟩ dX12_noBidder_8 hq (fun r2 hq => ?_)
  show V G Γ 2 0 0 h0 11 [(0, .ref p0), (1, .int p1)] [.int r2]
  refine V_if_ne (tgt := 18) hC dX12_noBidder_11 (by decide) (fun hc => ?_) (fun hc => ?_)
  · have hq := hq.1 hc
    refine V_iconst (v := 0) hC dX12_noBidder_18 (by decide) ?_
    exact V_iret hC hQ rfl rfl ⟨by decide, by decide⟩ dX12_noBidder_19 ⟨_, rfl, rfl, hq⟩
  · have hq := hq.2 hc
    refine V_iconst (v := 1) hC dX12_noBidder_14 (by decide) ?_
    refine V_goto (tgt := 19) hC dX12_noBidder_15 (by decide) ?_
    exact V_iret hC hQ rfl rfl ⟨by decide, by decide⟩ dX12_noBidder_19 ⟨_, rfl, rfl, hq⟩
theorem clV_X12_noBidder {G : Gx} (hG : GOK G) {Γ : Cx} {own : String} {cc : ByteArray} {nL fr lo mc ms cells slots pc : Nat} {hh : List (Nat × Nat × Nat × Nat)} {h : hw} {L : List (Nat × Value)} {rest : List Value} (hC : COK G Γ own cc nL fr lo mc ms hh) {idx : Nat} (hs : SV own idx yX12_noBidder cX12_noBidder 2 (some .boolean) 1) {p0 : Nat} {p1 : Int32} (hR : 2 + 1 ≤ fr ∧ 8 + (2 + 11) + 52 ≤ lo) (hw8 : (rest.map fun v => v.category).sum ≤ 8) (hcs : cells + 0 ≤ mc ∧ slots + 0 ≤ ms) (hdg : decode cc pc = .ok (.invokevirtual idx, 3)) (ho : isO h p0 12) {post : Int32 → Prop} (hq : wp_X12_noBidder G p0 p1 h post) (kk : ∀ (r : Int32) , post r → V G Γ nL (cells + 0) (slots + 0) h (pc + 3) L (.int r :: rest)) : V G Γ nL cells slots h pc L (.int p1 :: .ref p0 :: rest) :=
  V_callV (As := [.int p1]) (r9 := (RX12, TX12, 36)) hC (ct_X12_noBidder hG p0 p1 h post hq) hs ho rfl rfl rfl hR hw8 hcs hdg (fun E h1 z => z.elim) (fun v h1 z => by obtain ⟨r, rfl, rfl, hz⟩ := z; exact kk r hz)
set_option maxRecDepth 100000 in
set_option maxHeartbeats 4000000 in
theorem ct_X12_bought {G : Gx} (hG : GOK G) (p0 : Nat) (p1 : Int32) (h0 : hw) (post : Int32 → hw → Prop) (hq : wp_X12_bought G p0 p1 h0 post) : CT G yX12_bought cX12_bought 2 (some .int) 3 73 0 0 [.ref p0, .int p1] h0 (fun v h1 => ∃ r : Int32, v = some (.int r) ∧ post r h1) (fun E h1 => False) := by
  refine CT_of hG (by decide) (Nat.le_of_ble_eq_true rfl) (fun Γ hC hQ hN => ?_)
  have hC : COK G Γ "BandplanModel" cX12_bought 2 3 73 0 0 [] := hC
  unfold wp_X12_bought at hq
  show V G Γ 2 0 0 h0 0 [(0, .ref p0), (1, .int p1)] []
  refine V_aload_n hC dX12_bought_0 0 rfl ?_
  refine V_iconst (v := 0) hC dX12_bought_1 (by decide) ?_
  refine U_put hC fl_X12_98 fin_X12_0 rfl rfl dX12_bought_2 hq (fun h1 hq => ?_)
  refine V_aload_n hC dX12_bought_5 0 rfl ?_
  refine V_aload_n hC dX12_bought_6 0 rfl ?_
  refine V_iload_n hC dX12_bought_7 1 rfl ?_
  obtain ⟨hz, hq⟩ := hq
  refine clV_X12_noBidder hG hC sv_X12_250 ⟨by decide, by decide⟩ (Nat.le_of_ble_eq_true rfl) ⟨by decide, by decide⟩ dX12_bought_8 hz hq (fun r2 hq => ?_)
  show V G Γ 2 0 0 h1 11 [(0, .ref p0), (1, .int p1)] [.int r2, .ref p0]
  refine V_iconst (v := 1) hC dX12_bought_11 (by decide) ?_
  obtain ⟨hz, hq⟩ := hq
  refine clV_X12_fails hG hC sv_X12_115 ⟨by decide, by decide⟩ (Nat.le_of_ble_eq_true rfl) ⟨by decide, by decide⟩ dX12_bought_12 hz hq (fun r3 h4 hq => ?_)
  show V G Γ 2 0 0 h4 15 [(0, .ref p0), (1, .int p1)] [.int r3]
  refine V_if_eq (tgt := 22) hC dX12_bought_15 (by decide) (fun hc => ?_) (fun hc => ?_)
  · have hq := hq.1 hc
    refine V_aload_n hC dX12_bought_22 0 rfl ?_
    refine U_getR hC fl_X12_70 dX12_bought_23 hq (fun v5 hq => ?_)
    refine V_iload_n hC dX12_bought_26 1 rfl ?_
    refine U_ldI hC dX12_bought_27 hq (fun v6 hq => ?_)
    exact V_iret hC hQ rfl rfl ⟨by decide, by decide⟩ dX12_bought_28 ⟨_, rfl, hq⟩
  · have hq := hq.2 hc
    refine V_iconst (v := 0) hC dX12_bought_18 (by decide) ?_
    refine V_goto (tgt := 28) hC dX12_bought_19 (by decide) ?_
    exact V_iret hC hQ rfl rfl ⟨by decide, by decide⟩ dX12_bought_28 ⟨_, rfl, hq⟩
set_option maxRecDepth 100000 in
set_option maxHeartbeats 4000000 in
theorem ct_X12_pays {G : Gx} (hG : GOK G) (p0 : Nat) (p1 : Int32) (h0 : hw) (post : Int64 → hw → Prop) (hq : wp_X12_pays G p0 p1 h0 post) : CT G yX12_pays cX12_pays 2 (some .long) 3 73 0 0 [.ref p0, .int p1] h0 (fun v h1 => ∃ r : Int64, v = some (.long r) ∧ post r h1) (fun E h1 => False) := by
  refine CT_of hG (by decide) (Nat.le_of_ble_eq_true rfl) (fun Γ hC hQ hN => ?_)
  have hC : COK G Γ "BandplanModel" cX12_pays 2 3 73 0 0 [] := hC
  unfold wp_X12_pays at hq
  show V G Γ 2 0 0 h0 0 [(0, .ref p0), (1, .int p1)] []
  refine V_aload_n hC dX12_pays_0 0 rfl ?_
  refine V_iconst (v := 0) hC dX12_pays_1 (by decide) ?_
  refine U_put hC fl_X12_98 fin_X12_0 rfl rfl dX12_pays_2 hq (fun h1 hq => ?_)
  refine V_aload_n hC dX12_pays_5 0 rfl ?_
  refine V_aload_n hC dX12_pays_6 0 rfl ?_
  refine V_iload_n hC dX12_pays_7 1 rfl ?_
  obtain ⟨hz, hq⟩ := hq
  refine clV_X12_noBidder hG hC sv_X12_250 ⟨by decide, by decide⟩ (Nat.le_of_ble_eq_true rfl) ⟨by decide, by decide⟩ dX12_pays_8 hz hq (fun r2 hq => ?_)
  show V G Γ 2 0 0 h1 11 [(0, .ref p0), (1, .int p1)] [.int r2, .ref p0]
  refine V_iconst (v := 1) hC dX12_pays_11 (by decide) ?_
  obtain ⟨hz, hq⟩ := hq
  refine clV_X12_fails hG hC sv_X12_115 ⟨by decide, by decide⟩ (Nat.le_of_ble_eq_true rfl) ⟨by decide, by decide⟩ dX12_pays_12 hz hq (fun r3 h4 hq => ?_)
  show V G Γ 2 0 0 h4 15 [(0, .ref p0), (1, .int p1)] [.int r3]
  refine V_if_eq (tgt := 22) hC dX12_pays_15 (by decide) (fun hc => ?_) (fun hc => ?_)
  · have hq := hq.1 hc
    refine V_aload_n hC dX12_pays_22 0 rfl ?_
    refine U_getR hC fl_X12_73 dX12_pays_23 hq (fun v5 hq => ?_)
    refine V_iload_n hC dX12_pays_26 1 rfl ?_
    refine U_ldJ hC dX12_pays_27 hq (fun v6 hq => ?_)
    exact V_lret hC hQ ⟨by decide, by decide⟩ dX12_pays_28 ⟨_, rfl, hq⟩
  · have hq := hq.2 hc
    refine V_lconst (v := 0) hC dX12_pays_18 (by decide) ?_
    refine V_goto (tgt := 28) hC dX12_pays_19 (by decide) ?_
    exact V_lret hC hQ ⟨by decide, by decide⟩ dX12_pays_28 ⟨_, rfl, hq⟩
set_option maxRecDepth 100000 in
set_option maxHeartbeats 4000000 in
theorem ct_X12_isBarredAt {G : Gx} (hG : GOK G) (p0 : Nat) (p1 : Int32) (p2 : Int32) (h0 : hw) (post : Int32 → Prop) (hq : wp_X12_isBarredAt G p0 p1 p2 h0 post) : CT G yX12_isBarredAt cX12_isBarredAt 5 (some .boolean) 5 135 0 0 [.ref p0, .int p1, .int p2] h0 (fun v h1 => ∃ r : Int32, v = some (.int r) ∧ h1 = h0 ∧ post r) (fun E h1 => False) := by
  refine CT_of hG (by decide) (Nat.le_of_ble_eq_true rfl) (fun Γ hC hQ hN => ?_)
  have hC : COK G Γ "BandplanModel" cX12_isBarredAt 5 5 135 0 0 [] := hC
  unfold wp_X12_isBarredAt at hq
  show V G Γ 5 0 0 h0 0 [(0, .ref p0), (1, .int p1), (2, .int p2)] []
  refine V_iconst (v := 0) hC dX12_isBarredAt_0 (by decide) ?_
  refine V_istore_n (L' := [(0, .ref p0), (1, .int p1), (2, .int p2), (3, .int 0)]) hC dX12_isBarredAt_1 rfl (by decide) [1, 2, 3, 0] rfl ?_
  refine V_iconst (v := 0) hC dX12_isBarredAt_2 (by decide) ?_
  refine V_istore (L' := [(0, .ref p0), (1, .int p1), (2, .int p2), (3, .int 0), (4, .int 0)]) hC dX12_isBarredAt_3 (by decide) [1, 2, 3, 4, 0] rfl ?_
  have hq := hq (fun (x3_1 : Int32) (x4_2 : Int32) => V G Γ 5 0 0 h0 5 [(0, .ref p0), (1, .int p1), (2, .int p2), (3, .int x3_1), (4, .int x4_2)] []) (by
    intro x3_1 x4_2 hq
    show V G Γ 5 0 0 h0 5 [(0, .ref p0), (1, .int p1), (2, .int p2), (3, .int x3_1), (4, .int x4_2)] []
    refine V_iload hC dX12_isBarredAt_5 4 rfl ?_
    refine V_aload_n hC dX12_isBarredAt_7 0 rfl ?_
    refine U_getI hC fl_X12_108 dX12_isBarredAt_8 hq (fun v3 hq => ?_)
    refine V_icmp_ge (tgt := 75) hC dX12_isBarredAt_11 (by decide) (fun hc => ?_) (fun hc => ?_)
    · have hq := hq.1 hc
      refine V_iload_n hC dX12_isBarredAt_75 3 rfl ?_
      obtain ⟨hz, hq⟩ := hq
      exact V_iret hC hQ rfl (nar_b hz) ⟨by decide, by decide⟩ dX12_isBarredAt_76 ⟨_, rfl, rfl, hq⟩
    · have hq := hq.2 hc
      refine V_iload_n hC dX12_isBarredAt_14 3 rfl ?_
      have hq := hq (fun (t4 : Int32) => V G Γ 5 0 0 h0 68 [(0, .ref p0), (1, .int p1), (2, .int p2), (4, .int x4_2)] [.int t4]) (by
        intro t4 hq
        show V G Γ 5 0 0 h0 68 [(0, .ref p0), (1, .int p1), (2, .int p2), (4, .int x4_2)] [.int t4]
        refine V_istore_n (L' := [(0, .ref p0), (1, .int p1), (2, .int p2), (3, .int t4), (4, .int x4_2)]) hC dX12_isBarredAt_68 rfl (by decide) [1, 2, 3, 0, 4] rfl ?_
        refine V_iinc (j := 4) (v := (x4_2 + 1)) (L' := [(0, .ref p0), (1, .int p1), (2, .int p2), (3, .int t4), (4, .int (x4_2 + 1))]) hC dX12_isBarredAt_69 rfl rfl (by decide) [1, 2, 3, 4, 0] rfl ?_
        refine V_goto (tgt := 5) hC dX12_isBarredAt_72 (by decide) ?_
        exact hq)
      have hq := hq (V G Γ 5 0 0 h0 63 [(0, .ref p0), (1, .int p1), (2, .int p2), (4, .int x4_2)] []) (by
        intro hq
        show V G Γ 5 0 0 h0 63 [(0, .ref p0), (1, .int p1), (2, .int p2), (4, .int x4_2)] []
        refine V_iconst (v := 1) hC dX12_isBarredAt_63 (by decide) ?_
        refine V_goto (tgt := 68) hC dX12_isBarredAt_64 (by decide) ?_
        exact hq)
      refine V_if_ne (tgt := 63) hC dX12_isBarredAt_15 (by decide) (fun hc => ?_) (fun hc => ?_)
      · have hq := hq.1 hc
        refine V_sub [0, 1, 2, 4] rfl ?_
        exact hq
      · have hq := hq.2 hc
        refine V_iload hC dX12_isBarredAt_18 4 rfl ?_
        refine V_iload_n hC dX12_isBarredAt_20 1 rfl ?_
        have hq := hq (V G Γ 5 0 0 h0 67 [(0, .ref p0), (1, .int p1), (2, .int p2), (4, .int x4_2)] []) (by
          intro hq
          show V G Γ 5 0 0 h0 67 [(0, .ref p0), (1, .int p1), (2, .int p2), (4, .int x4_2)] []
          refine V_iconst (v := 0) hC dX12_isBarredAt_67 (by decide) ?_
          exact hq)
        refine V_icmp_eq (tgt := 67) hC dX12_isBarredAt_21 (by decide) (fun hc => ?_) (fun hc => ?_)
        · have hq := hq.1 hc
          refine V_sub [0, 1, 2, 4] rfl ?_
          exact hq
        · have hq := hq.2 hc
          refine V_aload_n hC dX12_isBarredAt_24 0 rfl ?_
          refine U_getR hC fl_X12_35 dX12_isBarredAt_25 hq (fun v5 hq => ?_)
          refine V_iload hC dX12_isBarredAt_28 4 rfl ?_
          refine U_ldZ hC dX12_isBarredAt_30 hq (fun v6 hq => ?_)
          refine V_if_eq (tgt := 67) hC dX12_isBarredAt_31 (by decide) (fun hc => ?_) (fun hc => ?_)
          · have hq := hq.1 hc
            refine V_sub [0, 1, 2, 4] rfl ?_
            exact hq
          · have hq := hq.2 hc
            refine V_aload_n hC dX12_isBarredAt_34 0 rfl ?_
            refine U_getR hC fl_X12_39 dX12_isBarredAt_35 hq (fun v7 hq => ?_)
            refine V_iload hC dX12_isBarredAt_38 4 rfl ?_
            refine U_ldI hC dX12_isBarredAt_40 hq (fun v8 hq => ?_)
            refine V_iconst (v := (-1)) hC dX12_isBarredAt_41 (by decide) ?_
            refine V_icmp_eq (tgt := 67) hC dX12_isBarredAt_42 (by decide) (fun hc => ?_) (fun hc => ?_)
            · have hq := hq.1 hc
              refine V_sub [0, 1, 2, 4] rfl ?_
              exact hq
            · have hq := hq.2 hc
              refine V_aload_n hC dX12_isBarredAt_45 0 rfl ?_
              refine V_iload_n hC dX12_isBarredAt_46 1 rfl ?_
              refine V_iload_n hC dX12_isBarredAt_47 2 rfl ?_
              refine V_iload hC dX12_isBarredAt_48 4 rfl ?_
              refine V_aload_n hC dX12_isBarredAt_50 0 rfl ?_
              refine U_getR hC fl_X12_39 dX12_isBarredAt_51 hq (fun v9 hq => ?_)
              refine V_iload hC dX12_isBarredAt_54 4 rfl ?_
              refine U_ldI hC dX12_isBarredAt_56 hq (fun v10 hq => ?_)
              obtain ⟨hz, hq⟩ := hq
              refine clV_X12_areBarred hG hC sv_X12_178 ⟨by decide, by decide⟩ (Nat.le_of_ble_eq_true rfl) ⟨by decide, by decide⟩ dX12_isBarredAt_57 hz hq (fun r11 hq => ?_)
              show V G Γ 5 0 0 h0 60 [(0, .ref p0), (1, .int p1), (2, .int p2), (3, .int x3_1), (4, .int x4_2)] [.int r11]
              refine V_if_eq (tgt := 67) hC dX12_isBarredAt_60 (by decide) (fun hc => ?_) (fun hc => ?_)
              · have hq := hq.1 hc
                refine V_sub [0, 1, 2, 4] rfl ?_
                exact hq
              · have hq := hq.2 hc
                refine V_sub [0, 1, 2, 4] rfl ?_
                exact hq)
  exact hq
set_option maxRecDepth 100000 in
set_option maxHeartbeats 4000000 in
theorem ct_X12_lowestOn {G : Gx} (hG : GOK G) (p0 : Nat) (h0 : hw) (post : Int32 → Prop) (hq : wp_X12_lowestOn G p0 h0 post) : CT G yX12_lowestOn cX12_lowestOn 3 (some .int) 1 30 0 0 [.ref p0] h0 (fun v h1 => ∃ r : Int32, v = some (.int r) ∧ h1 = h0 ∧ post r) (fun E h1 => False) := by
  refine CT_of hG (by decide) (Nat.le_of_ble_eq_true rfl) (fun Γ hC hQ hN => ?_)
  have hC : COK G Γ "BandplanModel" cX12_lowestOn 3 1 30 0 0 [] := hC
  unfold wp_X12_lowestOn at hq
  show V G Γ 3 0 0 h0 0 [(0, .ref p0)] []
  refine V_iconst (v := (-1)) hC dX12_lowestOn_0 (by decide) ?_
  refine V_istore_n (L' := [(0, .ref p0), (1, .int (-1))]) hC dX12_lowestOn_1 rfl (by decide) [1, 0] rfl ?_
  refine V_aload_n hC dX12_lowestOn_2 0 rfl ?_
  refine U_getI hC fl_X12_108 dX12_lowestOn_3 hq (fun v1 hq => ?_)
  refine V_iconst (v := 1) hC dX12_lowestOn_6 (by decide) ?_
  refine V_isub hC dX12_lowestOn_7 ?_
  refine V_istore_n (L' := [(0, .ref p0), (1, .int (-1)), (2, .int (v1 - 1))]) hC dX12_lowestOn_8 rfl (by decide) [1, 2, 0] rfl ?_
  have hq := hq (fun (x1_2 : Int32) (x2_3 : Int32) => V G Γ 3 0 0 h0 9 [(0, .ref p0), (1, .int x1_2), (2, .int x2_3)] []) (by
    intro x1_2 x2_3 hq
    show V G Γ 3 0 0 h0 9 [(0, .ref p0), (1, .int x1_2), (2, .int x2_3)] []
    refine V_iload_n hC dX12_lowestOn_9 2 rfl ?_
    refine V_if_lt (tgt := 55) hC dX12_lowestOn_10 (by decide) (fun hc => ?_) (fun hc => ?_)
    · have hq := hq.1 hc
      refine V_iload_n hC dX12_lowestOn_55 1 rfl ?_
      exact V_iret hC hQ rfl rfl ⟨by decide, by decide⟩ dX12_lowestOn_56 ⟨_, rfl, rfl, hq⟩
    · have hq := hq.2 hc
      refine V_aload_n hC dX12_lowestOn_13 0 rfl ?_
      refine U_getR hC fl_X12_95 dX12_lowestOn_14 hq (fun v4 hq => ?_)
      refine V_iload_n hC dX12_lowestOn_17 2 rfl ?_
      refine U_ldI hC dX12_lowestOn_18 hq (fun v5 hq => ?_)
      refine V_iconst (v := (-1)) hC dX12_lowestOn_19 (by decide) ?_
      have hq := hq (fun (t6 : Int32) => V G Γ 3 0 0 h0 48 [(0, .ref p0), (2, .int x2_3)] [.int t6]) (by
        intro t6 hq
        show V G Γ 3 0 0 h0 48 [(0, .ref p0), (2, .int x2_3)] [.int t6]
        refine V_istore_n (L' := [(0, .ref p0), (1, .int t6), (2, .int x2_3)]) hC dX12_lowestOn_48 rfl (by decide) [1, 0, 2] rfl ?_
        refine V_iinc (j := 2) (v := (x2_3 + (-1))) (L' := [(0, .ref p0), (1, .int t6), (2, .int (x2_3 + (-1)))]) hC dX12_lowestOn_49 rfl rfl (by decide) [1, 2, 0] rfl ?_
        refine V_goto (tgt := 9) hC dX12_lowestOn_52 (by decide) ?_
        exact hq)
      have hq := hq (V G Γ 3 0 0 h0 47 [(0, .ref p0), (1, .int x1_2), (2, .int x2_3)] []) (by
        intro hq
        show V G Γ 3 0 0 h0 47 [(0, .ref p0), (1, .int x1_2), (2, .int x2_3)] []
        refine V_iload_n hC dX12_lowestOn_47 1 rfl ?_
        refine V_sub [0, 2] rfl ?_
        exact hq)
      refine V_icmp_eq (tgt := 47) hC dX12_lowestOn_20 (by decide) (fun hc => ?_) (fun hc => ?_)
      · have hq := hq.1 hc
        exact hq
      · have hq := hq.2 hc
        refine V_aload_n hC dX12_lowestOn_23 0 rfl ?_
        refine U_getR hC fl_X12_77 dX12_lowestOn_24 hq (fun v7 hq => ?_)
        refine V_iload_n hC dX12_lowestOn_27 2 rfl ?_
        refine U_ldI hC dX12_lowestOn_28 hq (fun v8 hq => ?_)
        refine V_iconst (v := (-1)) hC dX12_lowestOn_29 (by decide) ?_
        refine V_icmp_ne (tgt := 47) hC dX12_lowestOn_30 (by decide) (fun hc => ?_) (fun hc => ?_)
        · have hq := hq.1 hc
          exact hq
        · have hq := hq.2 hc
          refine V_aload_n hC dX12_lowestOn_33 0 rfl ?_
          refine U_getR hC fl_X12_39 dX12_lowestOn_34 hq (fun v9 hq => ?_)
          refine V_iload_n hC dX12_lowestOn_37 2 rfl ?_
          refine U_ldI hC dX12_lowestOn_38 hq (fun v10 hq => ?_)
          refine V_iconst (v := (-1)) hC dX12_lowestOn_39 (by decide) ?_
          refine V_icmp_eq (tgt := 47) hC dX12_lowestOn_40 (by decide) (fun hc => ?_) (fun hc => ?_)
          · have hq := hq.1 hc
            exact hq
          · have hq := hq.2 hc
            refine V_iload_n hC dX12_lowestOn_43 2 rfl ?_
            refine V_goto (tgt := 48) hC dX12_lowestOn_44 (by decide) ?_
            refine V_sub [0, 2] rfl ?_
            exact hq)
  exact hq
set_option maxRecDepth 100000 in
set_option maxHeartbeats 4000000 in
theorem ct_X12_phaseOf {G : Gx} (hG : GOK G) (p0 : Nat) (p1 : Int32) (h0 : hw) (post : Int32 → hw → Prop) (hq : wp_X12_phaseOf G p0 p1 h0 post) : CT G yX12_phaseOf cX12_phaseOf 2 (some .int) 3 73 0 0 [.ref p0, .int p1] h0 (fun v h1 => ∃ r : Int32, v = some (.int r) ∧ post r h1) (fun E h1 => False) := by
  refine CT_of hG (by decide) (Nat.le_of_ble_eq_true rfl) (fun Γ hC hQ hN => ?_)
  have hC : COK G Γ "BandplanModel" cX12_phaseOf 2 3 73 0 0 [] := hC
  unfold wp_X12_phaseOf at hq
  show V G Γ 2 0 0 h0 0 [(0, .ref p0), (1, .int p1)] []
  refine V_aload_n hC dX12_phaseOf_0 0 rfl ?_
  refine V_iconst (v := 0) hC dX12_phaseOf_1 (by decide) ?_
  refine U_put hC fl_X12_98 fin_X12_0 rfl rfl dX12_phaseOf_2 hq (fun h1 hq => ?_)
  refine V_aload_n hC dX12_phaseOf_5 0 rfl ?_
  refine V_aload_n hC dX12_phaseOf_6 0 rfl ?_
  refine V_iload_n hC dX12_phaseOf_7 1 rfl ?_
  obtain ⟨hz, hq⟩ := hq
  refine clV_X12_no hG hC sv_X12_153 ⟨by decide, by decide⟩ (Nat.le_of_ble_eq_true rfl) ⟨by decide, by decide⟩ dX12_phaseOf_8 hz hq (fun r2 hq => ?_)
  show V G Γ 2 0 0 h1 11 [(0, .ref p0), (1, .int p1)] [.int r2, .ref p0]
  refine V_iconst (v := 1) hC dX12_phaseOf_11 (by decide) ?_
  obtain ⟨hz, hq⟩ := hq
  refine clV_X12_fails hG hC sv_X12_115 ⟨by decide, by decide⟩ (Nat.le_of_ble_eq_true rfl) ⟨by decide, by decide⟩ dX12_phaseOf_12 hz hq (fun r3 h4 hq => ?_)
  show V G Γ 2 0 0 h4 15 [(0, .ref p0), (1, .int p1)] [.int r3]
  have hq := hq (fun (h5 : hw) => V G Γ 2 0 0 h5 41 [] []) (by
    intro h5 hq
    show V G Γ 2 0 0 h5 41 [] []
    refine V_iconst (v := 0) hC dX12_phaseOf_41 (by decide) ?_
    refine V_goto (tgt := 51) hC dX12_phaseOf_42 (by decide) ?_
    exact V_iret hC hQ rfl rfl ⟨by decide, by decide⟩ dX12_phaseOf_51 ⟨_, rfl, hq⟩)
  refine V_if_ne (tgt := 41) hC dX12_phaseOf_15 (by decide) (fun hc => ?_) (fun hc => ?_)
  · have hq := hq.1 hc
    refine V_sub [] rfl ?_
    exact hq
  · have hq := hq.2 hc
    refine V_aload_n hC dX12_phaseOf_18 0 rfl ?_
    refine V_aload_n hC dX12_phaseOf_19 0 rfl ?_
    refine U_getR hC fl_X12_77 dX12_phaseOf_20 hq (fun v6 hq => ?_)
    refine V_iload_n hC dX12_phaseOf_23 1 rfl ?_
    refine U_ldI hC dX12_phaseOf_24 hq (fun v7 hq => ?_)
    refine V_iconst (v := (-1)) hC dX12_phaseOf_25 (by decide) ?_
    have hq := hq (fun (t8 : Nat) (t9 : Int32) => V G Γ 2 0 0 h4 34 [(0, .ref p0), (1, .int p1)] [.int t9, .ref t8]) (by
      intro t8 t9 hq
      show V G Γ 2 0 0 h4 34 [(0, .ref p0), (1, .int p1)] [.int t9, .ref t8]
      refine V_iconst (v := 2) hC dX12_phaseOf_34 (by decide) ?_
      obtain ⟨hz, hq⟩ := hq
      refine clV_X12_fails hG hC sv_X12_115 ⟨by decide, by decide⟩ (Nat.le_of_ble_eq_true rfl) ⟨by decide, by decide⟩ dX12_phaseOf_35 hz hq (fun r10 h11 hq => ?_)
      show V G Γ 2 0 0 h11 38 [(0, .ref p0), (1, .int p1)] [.int r10]
      refine V_if_eq (tgt := 45) hC dX12_phaseOf_38 (by decide) (fun hc => ?_) (fun hc => ?_)
      · have hq := hq.1 hc
        refine V_aload_n hC dX12_phaseOf_45 0 rfl ?_
        refine U_getR hC fl_X12_77 dX12_phaseOf_46 hq (fun v12 hq => ?_)
        refine V_iload_n hC dX12_phaseOf_49 1 rfl ?_
        refine U_ldI hC dX12_phaseOf_50 hq (fun v13 hq => ?_)
        exact V_iret hC hQ rfl rfl ⟨by decide, by decide⟩ dX12_phaseOf_51 ⟨_, rfl, hq⟩
      · have hq := hq.2 hc
        refine V_sub [] rfl ?_
        exact hq)
    refine V_icmp_ne (tgt := 33) hC dX12_phaseOf_26 (by decide) (fun hc => ?_) (fun hc => ?_)
    · have hq := hq.1 hc
      refine V_iconst (v := 0) hC dX12_phaseOf_33 (by decide) ?_
      exact hq
    · have hq := hq.2 hc
      refine V_iconst (v := 1) hC dX12_phaseOf_29 (by decide) ?_
      refine V_goto (tgt := 34) hC dX12_phaseOf_30 (by decide) ?_
      exact hq
set_option maxRecDepth 100000 in
set_option maxHeartbeats 4000000 in
theorem ct_X12_dark {G : Gx} (hG : GOK G) (p0 : Nat) (h0 : hw) (post : Int32 → hw → Prop) (hq : wp_X12_dark G p0 h0 post) : CT G yX12_dark cX12_dark 1 (some .int) 1 30 0 0 [.ref p0] h0 (fun v h1 => ∃ r : Int32, v = some (.int r) ∧ post r h1) (fun E h1 => False) := by
  refine CT_of hG (by decide) (Nat.le_of_ble_eq_true rfl) (fun Γ hC hQ hN => ?_)
  have hC : COK G Γ "BandplanModel" cX12_dark 1 1 30 0 0 [] := hC
  unfold wp_X12_dark at hq
  show V G Γ 1 0 0 h0 0 [(0, .ref p0)] []
  refine V_aload_n hC dX12_dark_0 0 rfl ?_
  refine V_iconst (v := 0) hC dX12_dark_1 (by decide) ?_
  refine U_put hC fl_X12_98 fin_X12_0 rfl rfl dX12_dark_2 hq (fun h1 hq => ?_)
  refine V_aload_n hC dX12_dark_5 0 rfl ?_
  refine U_getI hC fl_X12_253 dX12_dark_6 hq (fun v2 hq => ?_)
  exact V_iret hC hQ rfl rfl ⟨by decide, by decide⟩ dX12_dark_9 ⟨_, rfl, hq⟩
set_option maxRecDepth 100000 in
set_option maxHeartbeats 4000000 in
theorem ct_X12_on {G : Gx} (hG : GOK G) (p0 : Nat) (h0 : hw) (post : Int32 → Prop) (hq : wp_X12_on G p0 h0 post) : CT G yX12_on cX12_on 3 (some .int) 1 30 0 0 [.ref p0] h0 (fun v h1 => ∃ r : Int32, v = some (.int r) ∧ h1 = h0 ∧ post r) (fun E h1 => False) := by
  refine CT_of hG (by decide) (Nat.le_of_ble_eq_true rfl) (fun Γ hC hQ hN => ?_)
  have hC : COK G Γ "BandplanModel" cX12_on 3 1 30 0 0 [] := hC
  unfold wp_X12_on at hq
  show V G Γ 3 0 0 h0 0 [(0, .ref p0)] []
  refine V_iconst (v := 0) hC dX12_on_0 (by decide) ?_
  refine V_istore_n (L' := [(0, .ref p0), (1, .int 0)]) hC dX12_on_1 rfl (by decide) [1, 0] rfl ?_
  refine V_iconst (v := 0) hC dX12_on_2 (by decide) ?_
  refine V_istore_n (L' := [(0, .ref p0), (1, .int 0), (2, .int 0)]) hC dX12_on_3 rfl (by decide) [1, 2, 0] rfl ?_
  have hq := hq (fun (x1_1 : Int32) (x2_2 : Int32) => V G Γ 3 0 0 h0 4 [(0, .ref p0), (1, .int x1_1), (2, .int x2_2)] []) (by
    intro x1_1 x2_2 hq
    show V G Γ 3 0 0 h0 4 [(0, .ref p0), (1, .int x1_1), (2, .int x2_2)] []
    refine V_iload_n hC dX12_on_4 2 rfl ?_
    refine V_aload_n hC dX12_on_5 0 rfl ?_
    refine U_getI hC fl_X12_108 dX12_on_6 hq (fun v3 hq => ?_)
    refine V_icmp_ge (tgt := 36) hC dX12_on_9 (by decide) (fun hc => ?_) (fun hc => ?_)
    · have hq := hq.1 hc
      refine V_iload_n hC dX12_on_36 1 rfl ?_
      exact V_iret hC hQ rfl rfl ⟨by decide, by decide⟩ dX12_on_37 ⟨_, rfl, rfl, hq⟩
    · have hq := hq.2 hc
      refine V_iload_n hC dX12_on_12 1 rfl ?_
      refine V_aload_n hC dX12_on_13 0 rfl ?_
      refine U_getR hC fl_X12_39 dX12_on_14 hq (fun v4 hq => ?_)
      refine V_iload_n hC dX12_on_17 2 rfl ?_
      refine U_ldI hC dX12_on_18 hq (fun v5 hq => ?_)
      refine V_iconst (v := (-1)) hC dX12_on_19 (by decide) ?_
      have hq := hq (fun (t6 : Int32) (t7 : Int32) => V G Γ 3 0 0 h0 28 [(0, .ref p0), (2, .int x2_2)] [.int t7, .int t6]) (by
        intro t6 t7 hq
        show V G Γ 3 0 0 h0 28 [(0, .ref p0), (2, .int x2_2)] [.int t7, .int t6]
        refine V_iadd hC dX12_on_28 ?_
        refine V_istore_n (L' := [(0, .ref p0), (1, .int (t6 + t7)), (2, .int x2_2)]) hC dX12_on_29 rfl (by decide) [1, 0, 2] rfl ?_
        refine V_iinc (j := 2) (v := (x2_2 + 1)) (L' := [(0, .ref p0), (1, .int (t6 + t7)), (2, .int (x2_2 + 1))]) hC dX12_on_30 rfl rfl (by decide) [1, 2, 0] rfl ?_
        refine V_goto (tgt := 4) hC dX12_on_33 (by decide) ?_
        exact hq)
      refine V_icmp_ne (tgt := 27) hC dX12_on_20 (by decide) (fun hc => ?_) (fun hc => ?_)
      · have hq := hq.1 hc
        refine V_iconst (v := 1) hC dX12_on_27 (by decide) ?_
        refine V_sub [0, 2] rfl ?_
        exact hq
      · have hq := hq.2 hc
        refine V_iconst (v := 0) hC dX12_on_23 (by decide) ?_
        refine V_goto (tgt := 28) hC dX12_on_24 (by decide) ?_
        refine V_sub [0, 2] rfl ?_
        exact hq)
  exact hq
theorem clV_X12_on {G : Gx} (hG : GOK G) {Γ : Cx} {own : String} {cc : ByteArray} {nL fr lo mc ms cells slots pc : Nat} {hh : List (Nat × Nat × Nat × Nat)} {h : hw} {L : List (Nat × Value)} {rest : List Value} (hC : COK G Γ own cc nL fr lo mc ms hh) {idx : Nat} (hs : SV own idx yX12_on cX12_on 3 (some .int) 0) {p0 : Nat} (hR : 1 + 1 ≤ fr ∧ 8 + (3 + 11) + 30 ≤ lo) (hw8 : (rest.map fun v => v.category).sum ≤ 8) (hcs : cells + 0 ≤ mc ∧ slots + 0 ≤ ms) (hdg : decode cc pc = .ok (.invokevirtual idx, 3)) (ho : isO h p0 12) {post : Int32 → Prop} (hq : wp_X12_on G p0 h post) (kk : ∀ (r : Int32) , post r → V G Γ nL (cells + 0) (slots + 0) h (pc + 3) L (.int r :: rest)) : V G Γ nL cells slots h pc L (.ref p0 :: rest) :=
  V_callV (As := []) (r9 := (RX12, TX12, 36)) hC (ct_X12_on hG p0 h post hq) hs ho rfl rfl rfl hR hw8 hcs hdg (fun E h1 z => z.elim) (fun v h1 z => by obtain ⟨r, rfl, rfl, hz⟩ := z; exact kk r hz)
set_option maxRecDepth 100000 in
set_option maxHeartbeats 4000000 in
theorem ct_X12_onShare {G : Gx} (hG : GOK G) (p0 : Nat) (h0 : hw) (post : UInt32 → hw → Prop) (hq : wp_X12_onShare G p0 h0 post) : CT G yX12_onShare cX12_onShare 1 (some .float) 2 52 0 0 [.ref p0] h0 (fun v h1 => ∃ r : UInt32, v = some (.float r) ∧ post r h1) (fun E h1 => False) := by
  refine CT_of hG (by decide) (Nat.le_of_ble_eq_true rfl) (fun Γ hC hQ hN => ?_)
  have hC : COK G Γ "BandplanModel" cX12_onShare 1 2 52 0 0 [] := hC
  unfold wp_X12_onShare at hq
  show V G Γ 1 0 0 h0 0 [(0, .ref p0)] []
  refine V_aload_n hC dX12_onShare_0 0 rfl ?_
  refine V_iconst (v := 0) hC dX12_onShare_1 (by decide) ?_
  refine U_put hC fl_X12_98 fin_X12_0 rfl rfl dX12_onShare_2 hq (fun h1 hq => ?_)
  refine V_aload_n hC dX12_onShare_5 0 rfl ?_
  refine V_aload_n hC dX12_onShare_6 0 rfl ?_
  refine U_getI hC fl_X12_108 dX12_onShare_7 hq (fun v2 hq => ?_)
  have hq := hq (fun (t3 : Nat) (t4 : Int32) => V G Γ 1 0 0 h1 18 [(0, .ref p0)] [.int t4, .ref t3]) (by
    intro t3 t4 hq
    show V G Γ 1 0 0 h1 18 [(0, .ref p0)] [.int t4, .ref t3]
    refine V_iconst (v := 1) hC dX12_onShare_18 (by decide) ?_
    obtain ⟨hz, hq⟩ := hq
    refine clV_X12_fails hG hC sv_X12_115 ⟨by decide, by decide⟩ (Nat.le_of_ble_eq_true rfl) ⟨by decide, by decide⟩ dX12_onShare_19 hz hq (fun r5 h6 hq => ?_)
    show V G Γ 1 0 0 h6 22 [(0, .ref p0)] [.int r5]
    refine V_if_eq (tgt := 29) hC dX12_onShare_22 (by decide) (fun hc => ?_) (fun hc => ?_)
    · have hq := hq.1 hc
      refine V_aload_n hC dX12_onShare_29 0 rfl ?_
      obtain ⟨hz, hq⟩ := hq
      refine clV_X12_on hG hC sv_X12_266 ⟨by decide, by decide⟩ (Nat.le_of_ble_eq_true rfl) ⟨by decide, by decide⟩ dX12_onShare_30 hz hq (fun r7 hq => ?_)
      show V G Γ 1 0 0 h6 33 [(0, .ref p0)] [.int r7]
      refine V_i2f hC dX12_onShare_33 ?_
      refine V_aload_n hC dX12_onShare_34 0 rfl ?_
      refine U_getI hC fl_X12_108 dX12_onShare_35 hq (fun v8 hq => ?_)
      refine V_i2f hC dX12_onShare_38 ?_
      obtain ⟨hz, hq⟩ := hq
      refine V_fdiv hC dX12_onShare_39 hz ?_
      exact V_fret hC hQ ⟨by decide, by decide⟩ dX12_onShare_40 ⟨_, rfl, hq⟩
    · have hq := hq.2 hc
      refine V_fconst0 hC dX12_onShare_25 ?_
      refine V_goto (tgt := 40) hC dX12_onShare_26 (by decide) ?_
      exact V_fret hC hQ ⟨by decide, by decide⟩ dX12_onShare_40 ⟨_, rfl, hq⟩)
  refine V_if_ne (tgt := 17) hC dX12_onShare_10 (by decide) (fun hc => ?_) (fun hc => ?_)
  · have hq := hq.1 hc
    refine V_iconst (v := 0) hC dX12_onShare_17 (by decide) ?_
    exact hq
  · have hq := hq.2 hc
    refine V_iconst (v := 1) hC dX12_onShare_13 (by decide) ?_
    refine V_goto (tgt := 18) hC dX12_onShare_14 (by decide) ?_
    exact hq
set_option maxRecDepth 100000 in
set_option maxHeartbeats 4000000 in
theorem ct_X12_meanLevel {G : Gx} (hG : GOK G) (p0 : Nat) (h0 : hw) (post : UInt64 → hw → Prop) (hq : wp_X12_meanLevel G p0 h0 post) : CT G yX12_meanLevel cX12_meanLevel 3 (some .double) 4 107 0 0 [.ref p0] h0 (fun v h1 => ∃ r : UInt64, v = some (.double r) ∧ post r h1) (fun E h1 => False) := by
  refine CT_of hG (by decide) (Nat.le_of_ble_eq_true rfl) (fun Γ hC hQ hN => ?_)
  have hC : COK G Γ "BandplanModel" cX12_meanLevel 3 4 107 0 0 [] := hC
  unfold wp_X12_meanLevel at hq
  show V G Γ 3 0 0 h0 0 [(0, .ref p0)] []
  refine V_aload_n hC dX12_meanLevel_0 0 rfl ?_
  refine V_iconst (v := 0) hC dX12_meanLevel_1 (by decide) ?_
  refine U_put hC fl_X12_98 fin_X12_0 rfl rfl dX12_meanLevel_2 hq (fun h1 hq => ?_)
  refine V_iconst (v := 0) hC dX12_meanLevel_5 (by decide) ?_
  refine V_istore_n (L' := [(0, .ref p0), (1, .int 0)]) hC dX12_meanLevel_6 rfl (by decide) [1, 0] rfl ?_
  refine V_iconst (v := 0) hC dX12_meanLevel_7 (by decide) ?_
  refine V_istore_n (L' := [(0, .ref p0), (1, .int 0), (2, .int 0)]) hC dX12_meanLevel_8 rfl (by decide) [1, 2, 0] rfl ?_
  have hq := hq (fun (x1_2 : Int32) (x2_3 : Int32) => V G Γ 3 0 0 h1 9 [(0, .ref p0), (1, .int x1_2), (2, .int x2_3)] []) (by
    intro x1_2 x2_3 hq
    show V G Γ 3 0 0 h1 9 [(0, .ref p0), (1, .int x1_2), (2, .int x2_3)] []
    refine V_iload_n hC dX12_meanLevel_9 2 rfl ?_
    refine V_aload_n hC dX12_meanLevel_10 0 rfl ?_
    refine U_getI hC fl_X12_108 dX12_meanLevel_11 hq (fun v4 hq => ?_)
    refine V_icmp_ge (tgt := 45) hC dX12_meanLevel_14 (by decide) (fun hc => ?_) (fun hc => ?_)
    · have hq := hq.1 hc
      refine V_aload_n hC dX12_meanLevel_45 0 rfl ?_
      refine V_aload_n hC dX12_meanLevel_46 0 rfl ?_
      obtain ⟨hz, hq⟩ := hq
      refine clV_X12_on hG hC sv_X12_266 ⟨by decide, by decide⟩ (Nat.le_of_ble_eq_true rfl) ⟨by decide, by decide⟩ dX12_meanLevel_47 hz hq (fun r5 hq => ?_)
      show V G Γ 3 0 0 h1 50 [(0, .ref p0), (1, .int x1_2), (2, .int x2_3)] [.int r5, .ref p0]
      have hq := hq (fun (t6 : Nat) (t7 : Int32) => V G Γ 3 0 0 h1 58 [(0, .ref p0), (1, .int x1_2)] [.int t7, .ref t6]) (by
        intro t6 t7 hq
        show V G Γ 3 0 0 h1 58 [(0, .ref p0), (1, .int x1_2)] [.int t7, .ref t6]
        refine V_iconst (v := 1) hC dX12_meanLevel_58 (by decide) ?_
        obtain ⟨hz, hq⟩ := hq
        refine clV_X12_fails hG hC sv_X12_115 ⟨by decide, by decide⟩ (Nat.le_of_ble_eq_true rfl) ⟨by decide, by decide⟩ dX12_meanLevel_59 hz hq (fun r8 h9 hq => ?_)
        show V G Γ 3 0 0 h9 62 [(0, .ref p0), (1, .int x1_2)] [.int r8]
        refine V_if_eq (tgt := 69) hC dX12_meanLevel_62 (by decide) (fun hc => ?_) (fun hc => ?_)
        · have hq := hq.1 hc
          refine V_iload_n hC dX12_meanLevel_69 1 rfl ?_
          refine V_i2d hC dX12_meanLevel_70 ?_
          refine V_aload_n hC dX12_meanLevel_71 0 rfl ?_
          obtain ⟨hz, hq⟩ := hq
          refine clV_X12_on hG hC sv_X12_266 ⟨by decide, by decide⟩ (Nat.le_of_ble_eq_true rfl) ⟨by decide, by decide⟩ dX12_meanLevel_72 hz hq (fun r10 hq => ?_)
          show V G Γ 3 0 0 h9 75 [(0, .ref p0), (1, .int x1_2)] [.int r10, .double (FP.i2d x1_2)]
          refine V_i2d hC dX12_meanLevel_75 ?_
          obtain ⟨hz, hq⟩ := hq
          refine V_ddiv hC dX12_meanLevel_76 hz ?_
          exact V_dret hC hQ ⟨by decide, by decide⟩ dX12_meanLevel_77 ⟨_, rfl, hq⟩
        · have hq := hq.2 hc
          refine V_dconst0 hC dX12_meanLevel_65 ?_
          refine V_goto (tgt := 77) hC dX12_meanLevel_66 (by decide) ?_
          exact V_dret hC hQ ⟨by decide, by decide⟩ dX12_meanLevel_77 ⟨_, rfl, hq⟩)
      refine V_if_ne (tgt := 57) hC dX12_meanLevel_50 (by decide) (fun hc => ?_) (fun hc => ?_)
      · have hq := hq.1 hc
        refine V_iconst (v := 0) hC dX12_meanLevel_57 (by decide) ?_
        refine V_sub [0, 1] rfl ?_
        exact hq
      · have hq := hq.2 hc
        refine V_iconst (v := 1) hC dX12_meanLevel_53 (by decide) ?_
        refine V_goto (tgt := 58) hC dX12_meanLevel_54 (by decide) ?_
        refine V_sub [0, 1] rfl ?_
        exact hq
    · have hq := hq.2 hc
      refine V_iload_n hC dX12_meanLevel_17 1 rfl ?_
      refine V_aload_n hC dX12_meanLevel_18 0 rfl ?_
      refine U_getR hC fl_X12_39 dX12_meanLevel_19 hq (fun v11 hq => ?_)
      refine V_iload_n hC dX12_meanLevel_22 2 rfl ?_
      refine U_ldI hC dX12_meanLevel_23 hq (fun v12 hq => ?_)
      refine V_iconst (v := (-1)) hC dX12_meanLevel_24 (by decide) ?_
      have hq := hq (fun (t13 : Int32) (t14 : Int32) => V G Γ 3 0 0 h1 37 [(0, .ref p0), (2, .int x2_3)] [.int t14, .int t13]) (by
        intro t13 t14 hq
        show V G Γ 3 0 0 h1 37 [(0, .ref p0), (2, .int x2_3)] [.int t14, .int t13]
        refine V_iadd hC dX12_meanLevel_37 ?_
        refine V_istore_n (L' := [(0, .ref p0), (1, .int (t13 + t14)), (2, .int x2_3)]) hC dX12_meanLevel_38 rfl (by decide) [1, 0, 2] rfl ?_
        refine V_iinc (j := 2) (v := (x2_3 + 1)) (L' := [(0, .ref p0), (1, .int (t13 + t14)), (2, .int (x2_3 + 1))]) hC dX12_meanLevel_39 rfl rfl (by decide) [1, 2, 0] rfl ?_
        refine V_goto (tgt := 9) hC dX12_meanLevel_42 (by decide) ?_
        exact hq)
      refine V_icmp_ne (tgt := 32) hC dX12_meanLevel_25 (by decide) (fun hc => ?_) (fun hc => ?_)
      · have hq := hq.1 hc
        refine V_aload_n hC dX12_meanLevel_32 0 rfl ?_
        refine V_iload_n hC dX12_meanLevel_33 2 rfl ?_
        obtain ⟨hz, hq⟩ := hq
        refine clV_X12_levelOf hG hC sv_X12_156 ⟨by decide, by decide⟩ (Nat.le_of_ble_eq_true rfl) ⟨by decide, by decide⟩ dX12_meanLevel_34 hz hq (fun r15 hq => ?_)
        show V G Γ 3 0 0 h1 37 [(0, .ref p0), (1, .int x1_2), (2, .int x2_3)] [.int r15, .int x1_2]
        refine V_sub [0, 2] rfl ?_
        exact hq
      · have hq := hq.2 hc
        refine V_iconst (v := 0) hC dX12_meanLevel_28 (by decide) ?_
        refine V_goto (tgt := 37) hC dX12_meanLevel_29 (by decide) ?_
        refine V_sub [0, 2] rfl ?_
        exact hq)
  exact hq
