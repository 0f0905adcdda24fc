set_option maxRecDepth 100000 in
set_option maxHeartbeats 4000000 in
theorem ct_X5_leastSpacing {G : Gx} (hG : GOK G) (p0 : Nat) (p1 : Nat) (p2 : Nat) (h0 : hw) (post : Int32 → Prop) (hq : wp_X5_leastSpacing G p0 p1 p2 h0 post) : CT G yX5_leastSpacing cX5_leastSpacing 4 (some .int) 6 143 0 0 [.ref p0, .ref p1, .ref p2] h0 (fun v h1 => ∃ r : Int32, v = some (.int r) ∧ h1 = h0 ∧ post r) (fun E h1 => False) := by
  refine CT_of hG (by decide) (Nat.le_of_ble_eq_true rfl) (fun Γ hC hQ hN => ?_)
  have hC : COK G Γ "Bandplan$Packer" cX5_leastSpacing 4 6 143 0 0 [] := hC
  unfold wp_X5_leastSpacing at hq
  show V G Γ 4 0 0 h0 0 [(0, .ref p0), (1, .ref p1), (2, .ref p2)] []
  refine V_iconst (v := 0) hC dX5_leastSpacing_0 (by decide) ?_
  refine V_istore_n (L' := [(0, .ref p0), (1, .ref p1), (2, .ref p2), (3, .int 0)]) hC dX5_leastSpacing_1 rfl (by decide) [1, 2, 3, 0] rfl ?_
  have hq := hq (fun (x3_1 : Int32) => V G Γ 4 0 0 h0 2 [(0, .ref p0), (1, .ref p1), (2, .ref p2), (3, .int x3_1)] []) (by
    intro x3_1 hq
    show V G Γ 4 0 0 h0 2 [(0, .ref p0), (1, .ref p1), (2, .ref p2), (3, .int x3_1)] []
    refine V_iload_n hC dX5_leastSpacing_2 3 rfl ?_
    refine V_iconst (v := 3) hC dX5_leastSpacing_3 (by decide) ?_
    refine V_icmp_ge (tgt := 23) hC dX5_leastSpacing_4 (by decide) (fun hc => ?_) (fun hc => ?_)
    · have hq := hq.1 hc
      refine V_iload_n hC dX5_leastSpacing_23 3 rfl ?_
      exact V_iret hC hQ rfl rfl ⟨by decide, by decide⟩ dX5_leastSpacing_24 ⟨_, rfl, rfl, hq⟩
    · have hq := hq.2 hc
      refine V_aload_n hC dX5_leastSpacing_7 0 rfl ?_
      refine V_aload_n hC dX5_leastSpacing_8 1 rfl ?_
      refine V_aload_n hC dX5_leastSpacing_9 2 rfl ?_
      refine V_iload_n hC dX5_leastSpacing_10 3 rfl ?_
      obtain ⟨hz, hq⟩ := hq
      refine clV_X0_barEachOther hG hC sv_X5_91 ⟨by decide, by decide⟩ (Nat.le_of_ble_eq_true rfl) ⟨by decide, by decide⟩ dX5_leastSpacing_11 hz hq (fun r2 hq => ?_)
      show V G Γ 4 0 0 h0 14 [(0, .ref p0), (1, .ref p1), (2, .ref p2), (3, .int x3_1)] [.int r2]
      refine V_if_eq (tgt := 23) hC dX5_leastSpacing_14 (by decide) (fun hc => ?_) (fun hc => ?_)
      · have hq := hq.1 hc
        refine V_iload_n hC dX5_leastSpacing_23 3 rfl ?_
        exact V_iret hC hQ rfl rfl ⟨by decide, by decide⟩ dX5_leastSpacing_24 ⟨_, rfl, rfl, hq⟩
      · have hq := hq.2 hc
        refine V_iinc (j := 3) (v := (x3_1 + 1)) (L' := [(0, .ref p0), (1, .ref p1), (2, .ref p2), (3, .int (x3_1 + 1))]) hC dX5_leastSpacing_17 rfl rfl (by decide) [1, 2, 3, 0] rfl ?_
        refine V_goto (tgt := 2) hC dX5_leastSpacing_20 (by decide) ?_
        exact hq)
  exact hq
theorem clS_X5_leastSpacing {G : Gx} (hG : GOK G) {Γ : Cx} {own : String} {cc : ByteArray} {nL fr lo mc ms cells slots pc : Nat} {hh : List (Nat × Nat × Nat × Nat)} {h : hw} {L : List (Nat × Value)} {rest : List Value} (hC : COK G Γ own cc nL fr lo mc ms hh) {idx : Nat} (hs : SS own idx yX5_leastSpacing cX5_leastSpacing 4 (some .int) 3) {p0 : Nat} {p1 : Nat} {p2 : Nat} (hR : 6 + 1 ≤ fr ∧ 8 + (4 + 11) + 143 ≤ lo) (hw8 : (rest.map fun v => v.category).sum ≤ 8) (hcs : cells + 0 ≤ mc ∧ slots + 0 ≤ ms) (hdg : decode cc pc = .ok (.invokestatic idx, 3)) {post : Int32 → Prop} (hq : wp_X5_leastSpacing G p0 p1 p2 h post) (kk : ∀ (r : Int32) , post r → V G Γ nL (cells + 0) (slots + 0) h (pc + 3) L (.int r :: rest)) : V G Γ nL cells slots h pc L (.ref p2 :: .ref p1 :: .ref p0 :: rest) :=
  V_callS (As := [.ref p0, .ref p1, .ref p2]) hC (ct_X5_leastSpacing hG p0 p1 p2 h post hq) hs rfl hR hw8 hcs hdg (fun E h1 z => z.elim) (fun v h1 z => by obtain ⟨r, rfl, rfl, hz⟩ := z; exact kk r hz)
set_option maxRecDepth 100000 in
set_option maxHeartbeats 4000000 in
theorem ct_X5_prepare {G : Gx} (hG : GOK G) (p0 : Nat) (p1 : Nat) (p2 : Int32) (h0 : hw) (post : hw → Prop) (hq : wp_X5_prepare G p0 p1 p2 h0 post) : CT G yX5_prepare cX5_prepare 6 none 7 166 0 0 [.ref p0, .ref p1, .int p2] h0 (fun v h1 => v = none ∧ post h1) (fun E h1 => False) := by
  refine CT_of hG (by decide) (Nat.le_of_ble_eq_true rfl) (fun Γ hC hQ hN => ?_)
  have hC : COK G Γ "Bandplan$Packer" cX5_prepare 6 7 166 0 0 [] := hC
  unfold wp_X5_prepare at hq
  show V G Γ 6 0 0 h0 0 [(0, .ref p0), (1, .ref p1), (2, .int p2)] []
  refine V_aload_n hC dX5_prepare_0 0 rfl ?_
  refine V_iload_n hC dX5_prepare_1 2 rfl ?_
  refine U_put hC fl_X5_26 fin_X5_3 rfl rfl dX5_prepare_2 hq (fun h1 hq => ?_)
  refine V_aload_n hC dX5_prepare_5 0 rfl ?_
  refine U_getR hC fl_X5_23 dX5_prepare_6 hq (fun v2 hq => ?_)
  refine V_iconst (v := 0) hC dX5_prepare_9 (by decide) ?_
  obtain ⟨hz, hq⟩ := hq
  refine clV_X7_fillWith hG hC sv_X5_30 ⟨by decide, by decide⟩ (Nat.le_of_ble_eq_true rfl) ⟨by decide, by decide⟩ dX5_prepare_10 hz hq (fun h3 hq => ?_)
  show V G Γ 6 0 0 h3 13 [(0, .ref p0), (1, .ref p1), (2, .int p2)] []
  refine V_iconst (v := 0) hC dX5_prepare_13 (by decide) ?_
  refine V_istore_n (L' := [(0, .ref p0), (1, .ref p1), (2, .int p2), (3, .int 0)]) hC dX5_prepare_14 rfl (by decide) [1, 2, 3, 0] rfl ?_
  have hq := hq (fun (x3_4 : Int32) (h5 : hw) => V G Γ 6 0 0 h5 15 [(0, .ref p0), (1, .ref p1), (3, .int x3_4)] []) (by
    intro x3_4 h5 hq
    show V G Γ 6 0 0 h5 15 [(0, .ref p0), (1, .ref p1), (3, .int x3_4)] []
    refine V_iload_n hC dX5_prepare_15 2 rfl ?_
    refine V_aload_n hC dX5_prepare_16 1 rfl ?_
    refine U_getR hC fl_X5_34 dX5_prepare_17 hq (fun v6 hq => ?_)
    obtain ⟨hz, hq⟩ := hq
    refine clV_Jx4a65c_size_8abf5 hG hC sv_X5_40 ⟨by decide, by decide⟩ (Nat.le_of_ble_eq_true rfl) ⟨by decide, by decide⟩ dX5_prepare_20 hz hq (fun r7 hq => ?_)
    show V G Γ 6 0 0 h5 23 [(0, .ref p0), (1, .ref p1), (3, .int x3_4)] [.int r7, .int x3_4]
    refine V_icmp_ge (tgt := 108) hC dX5_prepare_23 (by decide) (fun hc => ?_) (fun hc => ?_)
    · have hq := hq.1 hc
      exact V_vret hC hQ ⟨by decide, by decide⟩ dX5_prepare_108 ⟨rfl, hq⟩
    · have hq := hq.2 hc
      refine V_iconst (v := 0) hC dX5_prepare_26 (by decide) ?_
      refine V_istore (L' := [(0, .ref p0), (1, .ref p1), (3, .int x3_4), (4, .int 0)]) hC dX5_prepare_27 (by decide) [1, 2, 3, 0] rfl ?_
      have hq := hq (fun (x4_8 : Int32) (h9 : hw) => V G Γ 6 0 0 h9 29 [(0, .ref p0), (1, .ref p1), (3, .int x3_4), (4, .int x4_8)] []) (by
        intro x4_8 h9 hq
        show V G Γ 6 0 0 h9 29 [(0, .ref p0), (1, .ref p1), (3, .int x3_4), (4, .int x4_8)] []
        refine V_iload hC dX5_prepare_29 3 rfl ?_
        refine V_iload_n hC dX5_prepare_31 2 rfl ?_
        refine V_icmp_ge (tgt := 102) hC dX5_prepare_32 (by decide) (fun hc => ?_) (fun hc => ?_)
        · have hq := hq.1 hc
          refine V_iinc (j := 2) (v := (x3_4 + 1)) (L' := [(0, .ref p0), (1, .ref p1), (3, .int (x3_4 + 1)), (4, .int x4_8)]) hC dX5_prepare_102 rfl rfl (by decide) [1, 2, 0, 3] rfl ?_
          refine V_goto (tgt := 15) hC dX5_prepare_105 (by decide) ?_
          refine V_sub [0, 1, 2] rfl ?_
          exact hq
        · have hq := hq.2 hc
          refine V_aload_n hC dX5_prepare_35 1 rfl ?_
          refine V_aload_n hC dX5_prepare_36 1 rfl ?_
          refine U_getR hC fl_X5_34 dX5_prepare_37 hq (fun v10 hq => ?_)
          refine V_iload_n hC dX5_prepare_40 2 rfl ?_
          obtain ⟨hz, hq⟩ := hq
          refine clV_Jx4a65c_get_915e3 hG hC sv_X5_46 ⟨by decide, by decide⟩ (Nat.le_of_ble_eq_true rfl) ⟨by decide, by decide⟩ dX5_prepare_41 hz hq (fun r11 hq => ?_)
          show V G Γ 6 0 0 h9 44 [(0, .ref p0), (1, .ref p1), (3, .int x3_4), (4, .int x4_8)] [.ref r11, .ref p1]
          obtain ⟨hz, hq⟩ := hq
          refine V_cast (r9 := (RX10, TX10, 6)) hC aw_5_15 rfl hz dX5_prepare_44 ?_
          refine V_aload_n hC dX5_prepare_47 1 rfl ?_
          refine U_getR hC fl_X5_34 dX5_prepare_48 hq (fun v12 hq => ?_)
          refine V_iload hC dX5_prepare_51 3 rfl ?_
          obtain ⟨hz, hq⟩ := hq
          refine clV_Jx4a65c_get_915e3 hG hC sv_X5_46 ⟨by decide, by decide⟩ (Nat.le_of_ble_eq_true rfl) ⟨by decide, by decide⟩ dX5_prepare_53 hz hq (fun r13 hq => ?_)
          show V G Γ 6 0 0 h9 56 [(0, .ref p0), (1, .ref p1), (3, .int x3_4), (4, .int x4_8)] [.ref r13, .ref r11, .ref p1]
          obtain ⟨hz, hq⟩ := hq
          refine V_cast (r9 := (RX10, TX10, 6)) hC aw_5_15 rfl hz dX5_prepare_56 ?_
          refine clS_X5_leastSpacing hG hC ss_X5_52 ⟨by decide, by decide⟩ (Nat.le_of_ble_eq_true rfl) ⟨by decide, by decide⟩ dX5_prepare_59 hq (fun r14 hq => ?_)
          show V G Γ 6 0 0 h9 62 [(0, .ref p0), (1, .ref p1), (3, .int x3_4), (4, .int x4_8)] [.int r14]
          refine V_istore (L' := [(0, .ref p0), (1, .ref p1), (3, .int x3_4), (4, .int x4_8), (5, .int r14)]) hC dX5_prepare_62 (by decide) [1, 2, 3, 4, 0] rfl ?_
          refine V_aload_n hC dX5_prepare_64 0 rfl ?_
          refine U_getR hC fl_X5_20 dX5_prepare_65 hq (fun v15 hq => ?_)
          refine V_iload_n hC dX5_prepare_68 2 rfl ?_
          refine V_bipush (v := 8) hC dX5_prepare_69 (by decide) ?_
          refine V_imul hC dX5_prepare_71 ?_
          refine V_iload hC dX5_prepare_72 3 rfl ?_
          refine V_iadd hC dX5_prepare_74 ?_
          refine V_iload hC dX5_prepare_75 4 rfl ?_
          obtain ⟨hz, hq⟩ := hq
          refine clV_X7_put hG hC sv_X5_56 ⟨by decide, by decide⟩ (Nat.le_of_ble_eq_true rfl) ⟨by decide, by decide⟩ dX5_prepare_77 hz hq (fun h16 hq => ?_)
          show V G Γ 6 0 0 h16 80 [(0, .ref p0), (1, .ref p1), (3, .int x3_4), (4, .int x4_8), (5, .int r14)] []
          refine V_aload_n hC dX5_prepare_80 0 rfl ?_
          refine U_getR hC fl_X5_20 dX5_prepare_81 hq (fun v17 hq => ?_)
          refine V_iload hC dX5_prepare_84 3 rfl ?_
          refine V_bipush (v := 8) hC dX5_prepare_86 (by decide) ?_
          refine V_imul hC dX5_prepare_88 ?_
          refine V_iload_n hC dX5_prepare_89 2 rfl ?_
          refine V_iadd hC dX5_prepare_90 ?_
          refine V_iload hC dX5_prepare_91 4 rfl ?_
          obtain ⟨hz, hq⟩ := hq
          refine clV_X7_put hG hC sv_X5_56 ⟨by decide, by decide⟩ (Nat.le_of_ble_eq_true rfl) ⟨by decide, by decide⟩ dX5_prepare_93 hz hq (fun h18 hq => ?_)
          show V G Γ 6 0 0 h18 96 [(0, .ref p0), (1, .ref p1), (3, .int x3_4), (4, .int x4_8), (5, .int r14)] []
          refine V_iinc (j := 3) (v := (x4_8 + 1)) (L' := [(0, .ref p0), (1, .ref p1), (3, .int x3_4), (4, .int (x4_8 + 1)), (5, .int r14)]) hC dX5_prepare_96 rfl rfl (by decide) [1, 2, 3, 0, 4] rfl ?_
          refine V_goto (tgt := 29) hC dX5_prepare_99 (by decide) ?_
          refine V_sub [0, 1, 2, 3] rfl ?_
          exact hq)
      exact hq)
  refine V_sub [0, 1, 3] rfl ?_
  exact hq
theorem clV_X5_prepare {G : Gx} (hG : GOK G) {Γ : Cx} {own : String} {cc : ByteArray} {nL fr lo mc ms cells slots pc : Nat} {hh : List (Nat × Nat × Nat × Nat)} {h : hw} {L : List (Nat × Value)} {rest : List Value} (hC : COK G Γ own cc nL fr lo mc ms hh) {idx : Nat} (hs : SV own idx yX5_prepare cX5_prepare 6 none 2) {p0 : Nat} {p1 : Nat} {p2 : Int32} (hR : 7 + 1 ≤ fr ∧ 8 + (6 + 11) + 166 ≤ lo) (hw8 : (rest.map fun v => v.category).sum ≤ 8) (hcs : cells + 0 ≤ mc ∧ slots + 0 ≤ ms) (hdg : decode cc pc = .ok (.invokevirtual idx, 3)) (ho : isO h p0 5) {post : hw → Prop} (hq : wp_X5_prepare G p0 p1 p2 h post) (kk : ∀ (h1 : hw) , post h1 → V G Γ nL (cells + 0) (slots + 0) h1 (pc + 3) L (rest)) : V G Γ nL cells slots h pc L (.int p2 :: .ref p1 :: .ref p0 :: rest) :=
  V_callV (As := [.ref p1, .int p2]) (r9 := (RX5, TX5, 5)) hC (ct_X5_prepare hG p0 p1 p2 h post hq) hs ho rfl rfl rfl hR hw8 hcs hdg (fun E h1 z => z.elim) (fun v h1 z => by obtain ⟨rfl, hz⟩ := z; exact kk h1 hz)
set_option maxRecDepth 100000 in
set_option maxHeartbeats 4000000 in
theorem ct_X5_lowerTooNear {G : Gx} (hG : GOK G) (p0 : Nat) (p1 : Int32) (p2 : Int32) (h0 : hw) (post : Int32 → Prop) (hq : wp_X5_lowerTooNear G p0 p1 p2 h0 post) : CT G yX5_lowerTooNear cX5_lowerTooNear 4 (some .int) 3 75 0 0 [.ref p0, .int p1, .int p2] h0 (fun v h1 => ∃ r : Int32, v = some (.int r) ∧ h1 = h0 ∧ post r) (fun E h1 => False) := by
  refine CT_of hG (by decide) (Nat.le_of_ble_eq_true rfl) (fun Γ hC hQ hN => ?_)
  have hC : COK G Γ "Bandplan$Packer" cX5_lowerTooNear 4 3 75 0 0 [] := hC
  unfold wp_X5_lowerTooNear at hq
  show V G Γ 4 0 0 h0 0 [(0, .ref p0), (1, .int p1), (2, .int p2)] []
  refine V_iconst (v := 0) hC dX5_lowerTooNear_0 (by decide) ?_
  refine V_istore_n (L' := [(0, .ref p0), (1, .int p1), (2, .int p2), (3, .int 0)]) hC dX5_lowerTooNear_1 rfl (by decide) [1, 2, 3, 0] rfl ?_
  have hq := hq (fun (x3_1 : Int32) => V G Γ 4 0 0 h0 2 [(0, .ref p0), (1, .int p1), (2, .int p2), (3, .int x3_1)] []) (by
    intro x3_1 hq
    show V G Γ 4 0 0 h0 2 [(0, .ref p0), (1, .int p1), (2, .int p2), (3, .int x3_1)] []
    refine V_iload_n hC dX5_lowerTooNear_2 3 rfl ?_
    refine V_iload_n hC dX5_lowerTooNear_3 1 rfl ?_
    refine V_icmp_ge (tgt := 44) hC dX5_lowerTooNear_4 (by decide) (fun hc => ?_) (fun hc => ?_)
    · have hq := hq.1 hc
      refine V_iconst (v := (-1)) hC dX5_lowerTooNear_44 (by decide) ?_
      exact V_iret hC hQ rfl rfl ⟨by decide, by decide⟩ dX5_lowerTooNear_45 ⟨_, rfl, rfl, hq⟩
    · have hq := hq.2 hc
      refine V_iload_n hC dX5_lowerTooNear_7 3 rfl ?_
      refine V_aload_n hC dX5_lowerTooNear_8 0 rfl ?_
      refine U_getI hC fl_X5_72 dX5_lowerTooNear_9 hq (fun v2 hq => ?_)
      refine clSN_X11_isIn hG hC ssn_X5_79 ⟨by decide, by decide⟩ (Nat.le_of_ble_eq_true rfl) ⟨by decide, by decide⟩ dX5_lowerTooNear_12 hq (fun r3 hq => ?_)
      show V G Γ 4 0 0 h0 15 [(0, .ref p0), (1, .int p1), (2, .int p2), (3, .int x3_1)] [.int r3]
      have hq := hq (V G Γ 4 0 0 h0 38 [(0, .ref p0), (1, .int p1), (2, .int p2), (3, .int x3_1)] []) (by
        intro hq
        show V G Γ 4 0 0 h0 38 [(0, .ref p0), (1, .int p1), (2, .int p2), (3, .int x3_1)] []
        refine V_iinc (j := 3) (v := (x3_1 + 1)) (L' := [(0, .ref p0), (1, .int p1), (2, .int p2), (3, .int (x3_1 + 1))]) hC dX5_lowerTooNear_38 rfl rfl (by decide) [1, 2, 3, 0] rfl ?_
        refine V_goto (tgt := 2) hC dX5_lowerTooNear_41 (by decide) ?_
        exact hq)
      refine V_if_eq (tgt := 38) hC dX5_lowerTooNear_15 (by decide) (fun hc => ?_) (fun hc => ?_)
      · have hq := hq.1 hc
        exact hq
      · have hq := hq.2 hc
        refine V_aload_n hC dX5_lowerTooNear_18 0 rfl ?_
        refine V_iload_n hC dX5_lowerTooNear_19 1 rfl ?_
        refine V_iload_n hC dX5_lowerTooNear_20 2 rfl ?_
        refine V_iload_n hC dX5_lowerTooNear_21 3 rfl ?_
        refine V_aload_n hC dX5_lowerTooNear_22 0 rfl ?_
        refine U_getR hC fl_X5_14 dX5_lowerTooNear_23 hq (fun v4 hq => ?_)
        refine V_iload_n hC dX5_lowerTooNear_26 3 rfl ?_
        obtain ⟨hz, hq⟩ := hq
        refine clV_X7_at hG hC sv_X5_65 ⟨by decide, by decide⟩ (Nat.le_of_ble_eq_true rfl) ⟨by decide, by decide⟩ dX5_lowerTooNear_27 hz hq (fun r5 hq => ?_)
        show V G Γ 4 0 0 h0 30 [(0, .ref p0), (1, .int p1), (2, .int p2), (3, .int x3_1)] [.int r5, .int x3_1, .int p2, .int p1, .ref p0]
        obtain ⟨hz, hq⟩ := hq
        refine clV_X5_areTooNear hG hC sv_X5_87 ⟨by decide, by decide⟩ (Nat.le_of_ble_eq_true rfl) ⟨by decide, by decide⟩ dX5_lowerTooNear_30 hz hq (fun r6 hq => ?_)
        show V G Γ 4 0 0 h0 33 [(0, .ref p0), (1, .int p1), (2, .int p2), (3, .int x3_1)] [.int r6]
        refine V_if_eq (tgt := 38) hC dX5_lowerTooNear_33 (by decide) (fun hc => ?_) (fun hc => ?_)
        · have hq := hq.1 hc
          exact hq
        · have hq := hq.2 hc
          refine V_iload_n hC dX5_lowerTooNear_36 3 rfl ?_
          exact V_iret hC hQ rfl rfl ⟨by decide, by decide⟩ dX5_lowerTooNear_37 ⟨_, rfl, rfl, hq⟩)
  exact hq
theorem clV_X5_lowerTooNear {G : Gx} (hG : GOK G) {Γ : Cx} {own : String} {cc : ByteArray} {nL fr lo mc ms cells slots pc : Nat} {hh : List (Nat × Nat × Nat × Nat)} {h : hw} {L : List (Nat × Value)} {rest : List Value} (hC : COK G Γ own cc nL fr lo mc ms hh) {idx : Nat} (hs : SV own idx yX5_lowerTooNear cX5_lowerTooNear 4 (some .int) 2) {p0 : Nat} {p1 : Int32} {p2 : Int32} (hR : 3 + 1 ≤ fr ∧ 8 + (4 + 11) + 75 ≤ lo) (hw8 : (rest.map fun v => v.category).sum ≤ 8) (hcs : cells + 0 ≤ mc ∧ slots + 0 ≤ ms) (hdg : decode cc pc = .ok (.invokevirtual idx, 3)) (ho : isO h p0 5) {post : Int32 → Prop} (hq : wp_X5_lowerTooNear G p0 p1 p2 h post) (kk : ∀ (r : Int32) , post r → V G Γ nL (cells + 0) (slots + 0) h (pc + 3) L (.int r :: rest)) : V G Γ nL cells slots h pc L (.int p2 :: .int p1 :: .ref p0 :: rest) :=
  V_callV (As := [.int p1, .int p2]) (r9 := (RX5, TX5, 5)) hC (ct_X5_lowerTooNear hG p0 p1 p2 h post hq) hs ho rfl rfl rfl hR hw8 hcs hdg (fun E h1 z => z.elim) (fun v h1 z => by obtain ⟨r, rfl, rfl, hz⟩ := z; exact kk r hz)
set_option maxRecDepth 100000 in
set_option maxHeartbeats 4000000 in
theorem ct_X5_place {G : Gx} (hG : GOK G) : ∀ (d : Nat) (p0 : Nat) (p1 : Int32) (h0 : hw) (post : Int32 → hw → Prop) (hq : wp_X5_place G d p0 p1 h0 post), CT G yX5_place cX5_place 6 (some .int) (4 + d) (98 + d * 25) 0 0 [.ref p0, .int p1] h0 (fun v h1 => ∃ r : Int32, v = some (.int r) ∧ post r h1) (fun E h1 => False) := by
  intro d
  induction d with
  | zero => intro p0 p1 h0 post hq; exact hq.elim
  | succ d ih =>
    intro p0 p1 h0 post hq
    refine CT_of hG (by decide) (Nat.le_of_ble_eq_true rfl) (fun Γ hC hQ hN => ?_)
    have hC : COK G Γ "Bandplan$Packer" cX5_place 6 (4 + (d + 1)) (98 + (d + 1) * 25) 0 0 [] := hC
    simp only [wp_X5_place] at hq
    show V G Γ 6 0 0 h0 0 [(0, .ref p0), (1, .int p1)] []
    refine V_iload_n hC dX5_place_0 1 rfl ?_
    refine V_bipush (v := 8) hC dX5_place_1 (by decide) ?_
    refine V_icmp_lt (tgt := 8) hC dX5_place_3 (by decide) (fun hc => ?_) (fun hc => ?_)
    · have hq := hq.1 hc
      refine V_iload_n hC dX5_place_8 1 rfl ?_
      refine V_aload_n hC dX5_place_9 0 rfl ?_
      refine U_getI hC fl_X5_72 dX5_place_10 hq (fun v1 hq => ?_)
      refine clSN_X11_isIn hG hC ssn_X5_79 ⟨by omega, by omega⟩ (Nat.le_of_ble_eq_true rfl) ⟨by decide, by decide⟩ dX5_place_13 hq (fun r2 hq => ?_)
      show V G Γ 6 0 0 h0 16 [(0, .ref p0), (1, .int p1)] [.int r2]
      refine V_if_ne (tgt := 27) hC dX5_place_16 (by decide) (fun hc => ?_) (fun hc => ?_)
      · have hq := hq.1 hc
        refine V_iconst (v := 0) hC dX5_place_27 (by decide) ?_
        refine V_istore_n (L' := [(0, .ref p0), (1, .int p1), (2, .int 0)]) hC dX5_place_28 rfl (by decide) [1, 2, 0] rfl ?_
        refine V_iconst (v := 0) hC dX5_place_29 (by decide) ?_
        refine V_istore_n (L' := [(0, .ref p0), (1, .int p1), (2, .int 0), (3, .int 0)]) hC dX5_place_30 rfl (by decide) [1, 2, 3, 0] rfl ?_
        have hq := hq (fun (x2_3 : Int32) (x3_4 : Int32) (h5 : hw) => V G Γ 6 0 0 h5 31 [(0, .ref p0), (1, .int p1), (2, .int x2_3), (3, .int x3_4)] []) (by
          intro x2_3 x3_4 h5 hq
          show V G Γ 6 0 0 h5 31 [(0, .ref p0), (1, .int p1), (2, .int x2_3), (3, .int x3_4)] []
          refine V_iload_n hC dX5_place_31 3 rfl ?_
          refine V_aload_n hC dX5_place_32 0 rfl ?_
          refine U_getI hC fl_X5_26 dX5_place_33 hq (fun v6 hq => ?_)
          refine V_icmp_ge (tgt := 116) hC dX5_place_36 (by decide) (fun hc => ?_) (fun hc => ?_)
          · have hq := hq.1 hc
            refine V_iload_n hC dX5_place_116 2 rfl ?_
            exact V_iret hC hQ rfl rfl ⟨by decide, by decide⟩ dX5_place_117 ⟨_, rfl, hq⟩
          · have hq := hq.2 hc
            refine V_aload_n hC dX5_place_39 0 rfl ?_
            refine V_iload_n hC dX5_place_40 1 rfl ?_
            refine V_iload_n hC dX5_place_41 3 rfl ?_
            obtain ⟨hz, hq⟩ := hq
            refine clV_X5_lowerTooNear hG hC sv_X5_83 ⟨by omega, by omega⟩ (Nat.le_of_ble_eq_true rfl) ⟨by decide, by decide⟩ dX5_place_42 hz hq (fun r7 hq => ?_)
            show V G Γ 6 0 0 h5 45 [(0, .ref p0), (1, .int p1), (2, .int x2_3), (3, .int x3_4)] [.int r7]
            refine V_istore (L' := [(0, .ref p0), (1, .int p1), (2, .int x2_3), (3, .int x3_4), (4, .int r7)]) hC dX5_place_45 (by decide) [1, 2, 3, 4, 0] rfl ?_
            refine V_iload hC dX5_place_47 4 rfl ?_
            refine V_iconst (v := (-1)) hC dX5_place_49 (by decide) ?_
            have hq := hq (fun (x2_8 : Int32) (h9 : hw) => V G Γ 6 0 0 h9 110 [(0, .ref p0), (1, .int p1), (2, .int x2_8), (3, .int x3_4)] []) (by
              intro x2_8 h9 hq
              show V G Γ 6 0 0 h9 110 [(0, .ref p0), (1, .int p1), (2, .int x2_8), (3, .int x3_4)] []
              refine V_iinc (j := 3) (v := (x3_4 + 1)) (L' := [(0, .ref p0), (1, .int p1), (2, .int x2_8), (3, .int (x3_4 + 1))]) hC dX5_place_110 rfl rfl (by decide) [1, 2, 3, 0] rfl ?_
              refine V_goto (tgt := 31) hC dX5_place_113 (by decide) ?_
              exact hq)
            refine V_icmp_eq (tgt := 63) hC dX5_place_50 (by decide) (fun hc => ?_) (fun hc => ?_)
            · have hq := hq.1 hc
              refine V_aload_n hC dX5_place_63 0 rfl ?_
              refine U_getR hC fl_X5_14 dX5_place_64 hq (fun v10 hq => ?_)
              refine V_iload_n hC dX5_place_67 1 rfl ?_
              refine V_iload_n hC dX5_place_68 3 rfl ?_
              obtain ⟨hz, hq⟩ := hq
              refine clV_X7_put hG hC sv_X5_56 ⟨by omega, by omega⟩ (Nat.le_of_ble_eq_true rfl) ⟨by decide, by decide⟩ dX5_place_69 hz hq (fun h11 hq => ?_)
              show V G Γ 6 0 0 h11 72 [(0, .ref p0), (1, .int p1), (2, .int x2_3), (3, .int x3_4), (4, .int r7)] []
              refine V_aload_n hC dX5_place_72 0 rfl ?_
              refine V_iload_n hC dX5_place_73 1 rfl ?_
              refine V_iconst (v := 1) hC dX5_place_74 (by decide) ?_
              refine V_iadd hC dX5_place_75 ?_
              refine V_callS (As := [.ref p0, .int (p1 + 1)]) hC (ih _ _ _ _ hq) ss_X5_75 rfl ⟨by omega, by omega⟩ (Nat.le_of_ble_eq_true rfl) ⟨by decide, by decide⟩ dX5_place_76 (fun E h1 z => z.elim) (fun v h13 z => ?_)
              obtain ⟨r12, rfl, hq⟩ := z
              show V G Γ 6 0 0 h13 79 [(0, .ref p0), (1, .int p1), (2, .int x2_3), (3, .int x3_4), (4, .int r7)] [.int r12]
              refine V_istore (L' := [(0, .ref p0), (1, .int p1), (2, .int x2_3), (3, .int x3_4), (4, .int r7), (5, .int r12)]) hC dX5_place_79 (by decide) [1, 2, 3, 4, 5, 0] rfl ?_
              refine V_iload hC dX5_place_81 5 rfl ?_
              refine V_iconst (v := (-1)) hC dX5_place_83 (by decide) ?_
              refine V_icmp_eq (tgt := 96) hC dX5_place_84 (by decide) (fun hc => ?_) (fun hc => ?_)
              · have hq := hq.1 hc
                refine V_iload hC dX5_place_96 5 rfl ?_
                exact V_iret hC hQ rfl rfl ⟨by decide, by decide⟩ dX5_place_98 ⟨_, rfl, hq⟩
              · have hq := hq.2 hc
                refine V_iload_n hC dX5_place_87 1 rfl ?_
                refine V_iload hC dX5_place_88 5 rfl ?_
                refine clSN_X11_isIn hG hC ssn_X5_79 ⟨by omega, by omega⟩ (Nat.le_of_ble_eq_true rfl) ⟨by decide, by decide⟩ dX5_place_90 hq (fun r14 hq => ?_)
                show V G Γ 6 0 0 h13 93 [(0, .ref p0), (1, .int p1), (2, .int x2_3), (3, .int x3_4), (4, .int r7), (5, .int r12)] [.int r14]
                refine V_if_ne (tgt := 99) hC dX5_place_93 (by decide) (fun hc => ?_) (fun hc => ?_)
                · have hq := hq.1 hc
                  refine V_iload_n hC dX5_place_99 2 rfl ?_
                  refine V_iload hC dX5_place_100 5 rfl ?_
                  refine V_iconst (v := 1) hC dX5_place_102 (by decide) ?_
                  refine V_iload_n hC dX5_place_103 1 rfl ?_
                  refine V_ishl hC dX5_place_104 ?_
                  refine V_iconst (v := (-1)) hC dX5_place_105 (by decide) ?_
                  refine V_ixor hC dX5_place_106 ?_
                  refine V_iand hC dX5_place_107 ?_
                  refine V_ior hC dX5_place_108 ?_
                  refine V_istore_n (L' := [(0, .ref p0), (1, .int p1), (2, .int (x2_3 ||| (r12 &&& ((1 <<< (p1 &&& 31)) ^^^ (-1))))), (3, .int x3_4), (4, .int r7), (5, .int r12)]) hC dX5_place_109 rfl (by decide) [1, 2, 0, 3, 4, 5] rfl ?_
                  refine V_sub [0, 1, 2, 3] rfl ?_
                  exact hq
                · have hq := hq.2 hc
                  refine V_iload hC dX5_place_96 5 rfl ?_
                  exact V_iret hC hQ rfl rfl ⟨by decide, by decide⟩ dX5_place_98 ⟨_, rfl, hq⟩
            · have hq := hq.2 hc
              refine V_iload_n hC dX5_place_53 2 rfl ?_
              refine V_iconst (v := 1) hC dX5_place_54 (by decide) ?_
              refine V_iload hC dX5_place_55 4 rfl ?_
              refine V_ishl hC dX5_place_57 ?_
              refine V_ior hC dX5_place_58 ?_
              refine V_istore_n (L' := [(0, .ref p0), (1, .int p1), (2, .int (x2_3 ||| (1 <<< (r7 &&& 31)))), (3, .int x3_4), (4, .int r7)]) hC dX5_place_59 rfl (by decide) [1, 2, 0, 3, 4] rfl ?_
              refine V_goto (tgt := 110) hC dX5_place_60 (by decide) ?_
              refine V_sub [0, 1, 2, 3] rfl ?_
              exact hq)
        exact hq
      · have hq := hq.2 hc
        refine V_aload_n hC dX5_place_19 0 rfl ?_
        refine V_iload_n hC dX5_place_20 1 rfl ?_
        refine V_iconst (v := 1) hC dX5_place_21 (by decide) ?_
        refine V_iadd hC dX5_place_22 ?_
        refine V_callS (As := [.ref p0, .int (p1 + 1)]) hC (ih _ _ _ _ hq) ss_X5_75 rfl ⟨by omega, by omega⟩ (Nat.le_of_ble_eq_true rfl) ⟨by decide, by decide⟩ dX5_place_23 (fun E h1 z => z.elim) (fun v h16 z => ?_)
        obtain ⟨r15, rfl, hq⟩ := z
        show V G Γ 6 0 0 h16 26 [(0, .ref p0), (1, .int p1)] [.int r15]
        exact V_iret hC hQ rfl rfl ⟨by decide, by decide⟩ dX5_place_26 ⟨_, rfl, hq⟩
    · have hq := hq.2 hc
      refine V_iconst (v := (-1)) hC dX5_place_6 (by decide) ?_
      exact V_iret hC hQ rfl rfl ⟨by decide, by decide⟩ dX5_place_7 ⟨_, rfl, hq⟩
theorem clS_X5_place {G : Gx} (hG : GOK G) {Γ : Cx} {own : String} {cc : ByteArray} {nL fr lo mc ms cells slots pc : Nat} {hh : List (Nat × Nat × Nat × Nat)} {h : hw} {L : List (Nat × Value)} {rest : List Value} (hC : COK G Γ own cc nL fr lo mc ms hh) {idx : Nat} (hs : SS own idx yX5_place cX5_place 6 (some .int) 2) {p0 : Nat} {p1 : Int32} (hR : 14 + 1 ≤ fr ∧ 8 + (6 + 11) + 348 ≤ lo) (hw8 : (rest.map fun v => v.category).sum ≤ 8) (hcs : cells + 0 ≤ mc ∧ slots + 0 ≤ ms) (hdg : decode cc pc = .ok (.invokestatic idx, 3)) {post : Int32 → hw → Prop} (hq : wp_X5_place G 10 p0 p1 h post) (kk : ∀ (r : Int32) (h1 : hw) , post r h1 → V G Γ nL (cells + 0) (slots + 0) h1 (pc + 3) L (.int r :: rest)) : V G Γ nL cells slots h pc L (.int p1 :: .ref p0 :: rest) :=
  V_callS (As := [.ref p0, .int p1]) hC (ct_X5_place hG 10 p0 p1 h post hq) hs rfl hR hw8 hcs hdg (fun E h1 z => z.elim) (fun v h1 z => by obtain ⟨r, rfl, hz⟩ := z; exact kk r h1 hz)
set_option maxRecDepth 100000 in
set_option maxHeartbeats 4000000 in
theorem ct_X5_findFirst {G : Gx} (hG : GOK G) (p0 : Nat) (p1 : Int32) (h0 : hw) (post : Int32 → hw → Prop) (hq : wp_X5_findFirst G p0 p1 h0 post) : CT G yX5_findFirst cX5_findFirst 2 (some .boolean) 15 373 0 0 [.ref p0, .int p1] h0 (fun v h1 => ∃ r : Int32, v = some (.int r) ∧ post r h1) (fun E h1 => False) := by
  refine CT_of hG (by decide) (Nat.le_of_ble_eq_true rfl) (fun Γ hC hQ hN => ?_)
  have hC : COK G Γ "Bandplan$Packer" cX5_findFirst 2 15 373 0 0 [] := hC
  unfold wp_X5_findFirst at hq
  show V G Γ 2 0 0 h0 0 [(0, .ref p0), (1, .int p1)] []
  refine V_aload_n hC dX5_findFirst_0 0 rfl ?_
  refine V_iload_n hC dX5_findFirst_1 1 rfl ?_
  refine U_put hC fl_X5_72 fin_X5_4 rfl rfl dX5_findFirst_2 hq (fun h1 hq => ?_)
  refine V_aload_n hC dX5_findFirst_5 0 rfl ?_
  refine U_getR hC fl_X5_14 dX5_findFirst_6 hq (fun v2 hq => ?_)
  refine V_iconst (v := (-1)) hC dX5_findFirst_9 (by decide) ?_
  obtain ⟨hz, hq⟩ := hq
  refine clV_X7_fillWith hG hC sv_X5_30 ⟨by decide, by decide⟩ (Nat.le_of_ble_eq_true rfl) ⟨by decide, by decide⟩ dX5_findFirst_10 hz hq (fun h3 hq => ?_)
  show V G Γ 2 0 0 h3 13 [(0, .ref p0), (1, .int p1)] []
  refine V_aload_n hC dX5_findFirst_13 0 rfl ?_
  refine V_iconst (v := 0) hC dX5_findFirst_14 (by decide) ?_
  refine clS_X5_place hG hC ss_X5_75 ⟨by decide, by decide⟩ (Nat.le_of_ble_eq_true rfl) ⟨by decide, by decide⟩ dX5_findFirst_15 hq (fun r4 h5 hq => ?_)
  show V G Γ 2 0 0 h5 18 [(0, .ref p0), (1, .int p1)] [.int r4]
  refine V_iconst (v := (-1)) hC dX5_findFirst_18 (by decide) ?_
  refine V_icmp_ne (tgt := 26) hC dX5_findFirst_19 (by decide) (fun hc => ?_) (fun hc => ?_)
  · have hq := hq.1 hc
    refine V_iconst (v := 0) hC dX5_findFirst_26 (by decide) ?_
    exact V_iret hC hQ rfl rfl ⟨by decide, by decide⟩ dX5_findFirst_27 ⟨_, rfl, hq⟩
  · have hq := hq.2 hc
    refine V_iconst (v := 1) hC dX5_findFirst_22 (by decide) ?_
    refine V_goto (tgt := 27) hC dX5_findFirst_23 (by decide) ?_
    exact V_iret hC hQ rfl rfl ⟨by decide, by decide⟩ dX5_findFirst_27 ⟨_, rfl, hq⟩
theorem clV_X5_findFirst {G : Gx} (hG : GOK G) {Γ : Cx} {own : String} {cc : ByteArray} {nL fr lo mc ms cells slots pc : Nat} {hh : List (Nat × Nat × Nat × Nat)} {h : hw} {L : List (Nat × Value)} {rest : List Value} (hC : COK G Γ own cc nL fr lo mc ms hh) {idx : Nat} (hs : SV own idx yX5_findFirst cX5_findFirst 2 (some .boolean) 1) {p0 : Nat} {p1 : Int32} (hR : 15 + 1 ≤ fr ∧ 8 + (2 + 11) + 373 ≤ lo) (hw8 : (rest.map fun v => v.category).sum ≤ 8) (hcs : cells + 0 ≤ mc ∧ slots + 0 ≤ ms) (hdg : decode cc pc = .ok (.invokevirtual idx, 3)) (ho : isO h p0 5) {post : Int32 → hw → Prop} (hq : wp_X5_findFirst G p0 p1 h post) (kk : ∀ (r : Int32) (h1 : hw) , post r h1 → V G Γ nL (cells + 0) (slots + 0) h1 (pc + 3) L (.int r :: rest)) : V G Γ nL cells slots h pc L (.int p1 :: .ref p0 :: rest) :=
  V_callV (As := [.int p1]) (r9 := (RX5, TX5, 5)) hC (ct_X5_findFirst hG p0 p1 h post hq) hs ho rfl rfl rfl hR hw8 hcs hdg (fun E h1 z => z.elim) (fun v h1 z => by obtain ⟨r, rfl, hz⟩ := z; exact kk r h1 hz)
set_option maxRecDepth 100000 in
set_option maxHeartbeats 4000000 in
theorem ct_X5_fits {G : Gx} (hG : GOK G) (p0 : Nat) (p1 : Int32) (h0 : hw) (post : Int32 → hw → Prop) (hq : wp_X5_fits G p0 p1 h0 post) : CT G yX5_fits cX5_fits 2 (some .boolean) 16 394 0 0 [.ref p0, .int p1] h0 (fun v h1 => ∃ r : Int32, v = some (.int r) ∧ post r h1) (fun E h1 => False) := by
  refine CT_of hG (by decide) (Nat.le_of_ble_eq_true rfl) (fun Γ hC hQ hN => ?_)
  have hC : COK G Γ "Bandplan$Packer" cX5_fits 2 16 394 0 0 [] := hC
  unfold wp_X5_fits at hq
  show V G Γ 2 0 0 h0 0 [(0, .ref p0), (1, .int p1)] []
  refine V_aload_n hC dX5_fits_0 0 rfl ?_
  refine U_getR hC fl_X5_23 dX5_fits_1 hq (fun v1 hq => ?_)
  refine V_iload_n hC dX5_fits_4 1 rfl ?_
  obtain ⟨hz, hq⟩ := hq
  refine clV_X7_at hG hC sv_X5_65 ⟨by decide, by decide⟩ (Nat.le_of_ble_eq_true rfl) ⟨by decide, by decide⟩ dX5_fits_5 hz hq (fun r2 hq => ?_)
  show V G Γ 2 0 0 h0 8 [(0, .ref p0), (1, .int p1)] [.int r2]
  have hq := hq (fun (h3 : hw) => V G Γ 2 0 0 h3 32 [(0, .ref p0), (1, .int p1)] []) (by
    intro h3 hq
    show V G Γ 2 0 0 h3 32 [(0, .ref p0), (1, .int p1)] []
    refine V_aload_n hC dX5_fits_32 0 rfl ?_
    refine U_getR hC fl_X5_23 dX5_fits_33 hq (fun v4 hq => ?_)
    refine V_iload_n hC dX5_fits_36 1 rfl ?_
    obtain ⟨hz, hq⟩ := hq
    refine clV_X7_at hG hC sv_X5_65 ⟨by decide, by decide⟩ (Nat.le_of_ble_eq_true rfl) ⟨by decide, by decide⟩ dX5_fits_37 hz hq (fun r5 hq => ?_)
    show V G Γ 2 0 0 h3 40 [(0, .ref p0), (1, .int p1)] [.int r5]
    refine V_iconst (v := 1) hC dX5_fits_40 (by decide) ?_
    refine V_icmp_ne (tgt := 48) hC dX5_fits_41 (by decide) (fun hc => ?_) (fun hc => ?_)
    · have hq := hq.1 hc
      refine V_iconst (v := 0) hC dX5_fits_48 (by decide) ?_
      exact V_iret hC hQ rfl rfl ⟨by decide, by decide⟩ dX5_fits_49 ⟨_, rfl, hq⟩
    · have hq := hq.2 hc
      refine V_iconst (v := 1) hC dX5_fits_44 (by decide) ?_
      refine V_goto (tgt := 49) hC dX5_fits_45 (by decide) ?_
      exact V_iret hC hQ rfl rfl ⟨by decide, by decide⟩ dX5_fits_49 ⟨_, rfl, hq⟩)
  refine V_if_ne (tgt := 32) hC dX5_fits_8 (by decide) (fun hc => ?_) (fun hc => ?_)
  · have hq := hq.1 hc
    exact hq
  · have hq := hq.2 hc
    refine V_aload_n hC dX5_fits_11 0 rfl ?_
    refine U_getR hC fl_X5_23 dX5_fits_12 hq (fun v6 hq => ?_)
    refine V_iload_n hC dX5_fits_15 1 rfl ?_
    refine V_aload_n hC dX5_fits_16 0 rfl ?_
    refine V_iload_n hC dX5_fits_17 1 rfl ?_
    obtain ⟨hz, hq⟩ := hq
    refine clV_X5_findFirst hG hC sv_X5_68 ⟨by decide, by decide⟩ (Nat.le_of_ble_eq_true rfl) ⟨by decide, by decide⟩ dX5_fits_18 hz hq (fun r7 h8 hq => ?_)
    show V G Γ 2 0 0 h8 21 [(0, .ref p0), (1, .int p1)] [.int r7, .int p1, .ref v6]
    have hq := hq (fun (t9 : Nat) (t10 : Int32) (t11 : Int32) => V G Γ 2 0 0 h8 29 [(0, .ref p0), (1, .int p1)] [.int t11, .int t10, .ref t9]) (by
      intro t9 t10 t11 hq
      show V G Γ 2 0 0 h8 29 [(0, .ref p0), (1, .int p1)] [.int t11, .int t10, .ref t9]
      obtain ⟨hz, hq⟩ := hq
      refine clV_X7_put hG hC sv_X5_56 ⟨by decide, by decide⟩ (Nat.le_of_ble_eq_true rfl) ⟨by decide, by decide⟩ dX5_fits_29 hz hq (fun h12 hq => ?_)
      show V G Γ 2 0 0 h12 32 [(0, .ref p0), (1, .int p1)] []
      exact hq)
    refine V_if_eq (tgt := 28) hC dX5_fits_21 (by decide) (fun hc => ?_) (fun hc => ?_)
    · have hq := hq.1 hc
      refine V_iconst (v := 2) hC dX5_fits_28 (by decide) ?_
      exact hq
    · have hq := hq.2 hc
      refine V_iconst (v := 1) hC dX5_fits_24 (by decide) ?_
      refine V_goto (tgt := 29) hC dX5_fits_25 (by decide) ?_
      exact hq
theorem clV_X5_fits {G : Gx} (hG : GOK G) {Γ : Cx} {own : String} {cc : ByteArray} {nL fr lo mc ms cells slots pc : Nat} {hh : List (Nat × Nat × Nat × Nat)} {h : hw} {L : List (Nat × Value)} {rest : List Value} (hC : COK G Γ own cc nL fr lo mc ms hh) {idx : Nat} (hs : SV own idx yX5_fits cX5_fits 2 (some .boolean) 1) {p0 : Nat} {p1 : Int32} (hR : 16 + 1 ≤ fr ∧ 8 + (2 + 11) + 394 ≤ lo) (hw8 : (rest.map fun v => v.category).sum ≤ 8) (hcs : cells + 0 ≤ mc ∧ slots + 0 ≤ ms) (hdg : decode cc pc = .ok (.invokevirtual idx, 3)) (ho : isO h p0 5) {post : Int32 → hw → Prop} (hq : wp_X5_fits G p0 p1 h post) (kk : ∀ (r : Int32) (h1 : hw) , post r h1 → V G Γ nL (cells + 0) (slots + 0) h1 (pc + 3) L (.int r :: rest)) : V G Γ nL cells slots h pc L (.int p1 :: .ref p0 :: rest) :=
  V_callV (As := [.int p1]) (r9 := (RX5, TX5, 5)) hC (ct_X5_fits hG p0 p1 h post hq) hs ho rfl rfl rfl hR hw8 hcs hdg (fun E h1 z => z.elim) (fun v h1 z => by obtain ⟨r, rfl, hz⟩ := z; exact kk r h1 hz)
set_option maxRecDepth 100000 in
set_option maxHeartbeats 4000000 in
theorem ct_X6_init {G : Gx} (hG : GOK G) (p0 : Nat) (h0 : hw) (post : hw → Prop) (hq : wp_X6_init G p0 h0 post) : CT G yX6_init cX6_init 1 none 3 53 8 4116 [.ref p0] h0 (fun v h1 => v = none ∧ post h1) (fun E h1 => False) := by
  refine CT_of hG (by decide) (Nat.le_of_ble_eq_true rfl) (fun Γ hC hQ hN => ?_)
  have hC : COK G Γ "Bandplan$Register" cX6_init 1 3 53 8 4116 [] := hC
  have hin := HIN hN rfl
  unfold wp_X6_init at hq
  show V G Γ 1 0 0 h0 0 [(0, .ref p0)] []
  refine V_aload_n hC dX6_init_0 0 rfl ?_
  refine V_objInit hC so_X6_3 (by decide) (Nat.le_of_ble_eq_true rfl) dX6_init_1 ?_
  refine V_aload_n hC dX6_init_4 0 rfl ?_
  refine U_new hC no_X6_9 ⟨by decide, by decide⟩ dX6_init_5 hq (fun a1 h2 hq => ?_)
  refine V_dup hC dX6_init_8 rfl ?_
  refine V_bipush (v := 8) hC dX6_init_9 (by decide) ?_
  refine V_iconst (v := (-1)) hC dX6_init_11 (by decide) ?_
  refine clI_X7_init hG hC si_X6_11 ⟨by decide, by decide⟩ (Nat.le_of_ble_eq_true rfl) ⟨by decide, by decide⟩ dX6_init_12 hq (fun h3 hq => ?_)
  show V G Γ 1 2 9 h3 15 [(0, .ref p0)] [.ref a1, .ref p0]
  refine U_putF hC fl_X6_14 fin_X6_0 hin rfl rfl dX6_init_15 hq (fun h4 hq => ?_)
  refine V_aload_n hC dX6_init_18 0 rfl ?_
  refine U_new hC no_X6_9 ⟨by decide, by decide⟩ dX6_init_19 hq (fun a5 h6 hq => ?_)
  refine V_dup hC dX6_init_22 rfl ?_
  refine V_bipush (v := 8) hC dX6_init_23 (by decide) ?_
  refine V_iconst (v := 0) hC dX6_init_25 (by decide) ?_
  refine clI_X7_init hG hC si_X6_11 ⟨by decide, by decide⟩ (Nat.le_of_ble_eq_true rfl) ⟨by decide, by decide⟩ dX6_init_26 hq (fun h7 hq => ?_)
  show V G Γ 1 4 18 h7 29 [(0, .ref p0)] [.ref a5, .ref p0]
  refine U_putF hC fl_X6_20 fin_X6_2 hin rfl rfl dX6_init_29 hq (fun h8 hq => ?_)
  refine V_aload_n hC dX6_init_32 0 rfl ?_
  refine U_new hC no_X6_9 ⟨by decide, by decide⟩ dX6_init_33 hq (fun a9 h10 hq => ?_)
  refine V_dup hC dX6_init_36 rfl ?_
  refine V_sipush (v := 2048) hC dX6_init_37 (by decide) ?_
  refine V_iconst (v := 0) hC dX6_init_40 (by decide) ?_
  refine clI_X7_init hG hC si_X6_11 ⟨by decide, by decide⟩ (Nat.le_of_ble_eq_true rfl) ⟨by decide, by decide⟩ dX6_init_41 hq (fun h11 hq => ?_)
  show V G Γ 1 6 2067 h11 44 [(0, .ref p0)] [.ref a9, .ref p0]
  refine U_putF hC fl_X6_23 fin_X6_3 hin rfl rfl dX6_init_44 hq (fun h12 hq => ?_)
  refine V_aload_n hC dX6_init_47 0 rfl ?_
  refine U_new hC no_X6_9 ⟨by decide, by decide⟩ dX6_init_48 hq (fun a13 h14 hq => ?_)
  refine V_dup hC dX6_init_51 rfl ?_
  refine V_sipush (v := 2048) hC dX6_init_52 (by decide) ?_
  refine V_iconst (v := (-1)) hC dX6_init_55 (by decide) ?_
  refine clI_X7_init hG hC si_X6_11 ⟨by decide, by decide⟩ (Nat.le_of_ble_eq_true rfl) ⟨by decide, by decide⟩ dX6_init_56 hq (fun h15 hq => ?_)
  show V G Γ 1 8 4116 h15 59 [(0, .ref p0)] [.ref a13, .ref p0]
  refine U_putF hC fl_X6_26 fin_X6_4 hin rfl rfl dX6_init_59 hq (fun h16 hq => ?_)
  exact V_vret hC hQ ⟨by decide, by decide⟩ dX6_init_62 ⟨rfl, hq⟩
set_option maxRecDepth 100000 in
set_option maxHeartbeats 4000000 in
theorem ct_X6_channelAt {G : Gx} (hG : GOK G) (p0 : Nat) (p1 : Int32) (p2 : Int32) (h0 : hw) (post : Int32 → Prop) (hq : wp_X6_channelAt G p0 p1 p2 h0 post) : CT G yX6_channelAt cX6_channelAt 4 (some .int) 2 51 0 0 [.ref p0, .int p1, .int p2] h0 (fun v h1 => ∃ r : Int32, v = some (.int r) ∧ h1 = h0 ∧ post r) (fun E h1 => False) := by
  refine CT_of hG (by decide) (Nat.le_of_ble_eq_true rfl) (fun Γ hC hQ hN => ?_)
  have hC : COK G Γ "Bandplan$Register" cX6_channelAt 4 2 51 0 0 [] := hC
  unfold wp_X6_channelAt at hq
  show V G Γ 4 0 0 h0 0 [(0, .ref p0), (1, .int p1), (2, .int p2)] []
  refine V_aload_n hC dX6_channelAt_0 0 rfl ?_
  refine U_getR hC fl_X6_20 dX6_channelAt_1 hq (fun v1 hq => ?_)
  refine V_iload_n hC dX6_channelAt_4 1 rfl ?_
  obtain ⟨hz, hq⟩ := hq
  refine clV_X7_at hG hC sv_X6_29 ⟨by decide, by decide⟩ (Nat.le_of_ble_eq_true rfl) ⟨by decide, by decide⟩ dX6_channelAt_5 hz hq (fun r2 hq => ?_)
  show V G Γ 4 0 0 h0 8 [(0, .ref p0), (1, .int p1), (2, .int p2)] [.int r2]
  refine V_iconst (v := 1) hC dX6_channelAt_8 (by decide) ?_
  refine V_isub hC dX6_channelAt_9 ?_
  refine V_istore_n (L' := [(0, .ref p0), (1, .int p1), (2, .int p2), (3, .int (r2 - 1))]) hC dX6_channelAt_10 rfl (by decide) [1, 2, 3, 0] rfl ?_
  have hq := hq (fun (x3_3 : Int32) => V G Γ 4 0 0 h0 11 [(0, .ref p0), (1, .int p1), (2, .int p2), (3, .int x3_3)] []) (by
    intro x3_3 hq
    show V G Γ 4 0 0 h0 11 [(0, .ref p0), (1, .int p1), (2, .int p2), (3, .int x3_3)] []
    refine V_iload_n hC dX6_channelAt_11 3 rfl ?_
    refine V_if_lt (tgt := 50) hC dX6_channelAt_12 (by decide) (fun hc => ?_) (fun hc => ?_)
    · have hq := hq.1 hc
      refine V_iconst (v := (-1)) hC dX6_channelAt_50 (by decide) ?_
      exact V_iret hC hQ rfl rfl ⟨by decide, by decide⟩ dX6_channelAt_51 ⟨_, rfl, rfl, hq⟩
    · have hq := hq.2 hc
      refine V_aload_n hC dX6_channelAt_15 0 rfl ?_
      refine U_getR hC fl_X6_23 dX6_channelAt_16 hq (fun v4 hq => ?_)
      refine V_iload_n hC dX6_channelAt_19 1 rfl ?_
      refine V_iload_n hC dX6_channelAt_20 3 rfl ?_
      refine clS_X6_lineOf hG hC ss_X6_39 ⟨by decide, by decide⟩ (Nat.le_of_ble_eq_true rfl) ⟨by decide, by decide⟩ dX6_channelAt_21 hq (fun r5 hq => ?_)
      show V G Γ 4 0 0 h0 24 [(0, .ref p0), (1, .int p1), (2, .int p2), (3, .int x3_3)] [.int r5, .ref v4]
      obtain ⟨hz, hq⟩ := hq
      refine clV_X7_at hG hC sv_X6_29 ⟨by decide, by decide⟩ (Nat.le_of_ble_eq_true rfl) ⟨by decide, by decide⟩ dX6_channelAt_24 hz hq (fun r6 hq => ?_)
      show V G Γ 4 0 0 h0 27 [(0, .ref p0), (1, .int p1), (2, .int p2), (3, .int x3_3)] [.int r6]
      refine V_iload_n hC dX6_channelAt_27 2 rfl ?_
      refine V_icmp_gt (tgt := 44) hC dX6_channelAt_28 (by decide) (fun hc => ?_) (fun hc => ?_)
      · have hq := hq.1 hc
        refine V_iinc (j := 3) (v := (x3_3 + (-1))) (L' := [(0, .ref p0), (1, .int p1), (2, .int p2), (3, .int (x3_3 + (-1)))]) hC dX6_channelAt_44 rfl rfl (by decide) [1, 2, 3, 0] rfl ?_
        refine V_goto (tgt := 11) hC dX6_channelAt_47 (by decide) ?_
        exact hq
      · have hq := hq.2 hc
        refine V_aload_n hC dX6_channelAt_31 0 rfl ?_
        refine U_getR hC fl_X6_26 dX6_channelAt_32 hq (fun v7 hq => ?_)
        refine V_iload_n hC dX6_channelAt_35 1 rfl ?_
        refine V_iload_n hC dX6_channelAt_36 3 rfl ?_
        refine clS_X6_lineOf hG hC ss_X6_39 ⟨by decide, by decide⟩ (Nat.le_of_ble_eq_true rfl) ⟨by decide, by decide⟩ dX6_channelAt_37 hq (fun r8 hq => ?_)
        show V G Γ 4 0 0 h0 40 [(0, .ref p0), (1, .int p1), (2, .int p2), (3, .int x3_3)] [.int r8, .ref v7]
        obtain ⟨hz, hq⟩ := hq
        refine clV_X7_at hG hC sv_X6_29 ⟨by decide, by decide⟩ (Nat.le_of_ble_eq_true rfl) ⟨by decide, by decide⟩ dX6_channelAt_40 hz hq (fun r9 hq => ?_)
        show V G Γ 4 0 0 h0 43 [(0, .ref p0), (1, .int p1), (2, .int p2), (3, .int x3_3)] [.int r9]
        exact V_iret hC hQ rfl rfl ⟨by decide, by decide⟩ dX6_channelAt_43 ⟨_, rfl, rfl, hq⟩)
  exact hq
theorem clV_X6_channelAt {G : Gx} (hG : GOK G) {Γ : Cx} {own : String} {cc : ByteArray} {nL fr lo mc ms cells slots pc : Nat} {hh : List (Nat × Nat × Nat × Nat)} {h : hw} {L : List (Nat × Value)} {rest : List Value} (hC : COK G Γ own cc nL fr lo mc ms hh) {idx : Nat} (hs : SV own idx yX6_channelAt cX6_channelAt 4 (some .int) 2) {p0 : Nat} {p1 : Int32} {p2 : Int32} (hR : 2 + 1 ≤ fr ∧ 8 + (4 + 11) + 51 ≤ lo) (hw8 : (rest.map fun v => v.category).sum ≤ 8) (hcs : cells + 0 ≤ mc ∧ slots + 0 ≤ ms) (hdg : decode cc pc = .ok (.invokevirtual idx, 3)) (ho : isO h p0 6) {post : Int32 → Prop} (hq : wp_X6_channelAt G p0 p1 p2 h post) (kk : ∀ (r : Int32) , post r → V G Γ nL (cells + 0) (slots + 0) h (pc + 3) L (.int r :: rest)) : V G Γ nL cells slots h pc L (.int p2 :: .int p1 :: .ref p0 :: rest) :=
  V_callV (As := [.int p1, .int p2]) (r9 := (RX6, TX6, 5)) hC (ct_X6_channelAt hG p0 p1 p2 h post hq) hs ho rfl rfl rfl hR hw8 hcs hdg (fun E h1 z => z.elim) (fun v h1 z => by obtain ⟨r, rfl, rfl, hz⟩ := z; exact kk r hz)
set_option maxRecDepth 100000 in
set_option maxHeartbeats 4000000 in
theorem ct_X6_onesOn {G : Gx} (hG : GOK G) (p0 : Nat) (h0 : hw) (post : Int32 → Prop) (hq : wp_X6_onesOn G p0 h0 post) : CT G yX6_onesOn cX6_onesOn 3 (some .int) 2 51 0 0 [.ref p0] h0 (fun v h1 => ∃ r : Int32, v = some (.int r) ∧ h1 = h0 ∧ post r) (fun E h1 => False) := by
  refine CT_of hG (by decide) (Nat.le_of_ble_eq_true rfl) (fun Γ hC hQ hN => ?_)
  have hC : COK G Γ "Bandplan$Register" cX6_onesOn 3 2 51 0 0 [] := hC
  unfold wp_X6_onesOn at hq
  show V G Γ 3 0 0 h0 0 [(0, .ref p0)] []
  refine V_iconst (v := 0) hC dX6_onesOn_0 (by decide) ?_
  refine V_istore_n (L' := [(0, .ref p0), (1, .int 0)]) hC dX6_onesOn_1 rfl (by decide) [1, 0] rfl ?_
  refine V_iconst (v := 0) hC dX6_onesOn_2 (by decide) ?_
  refine V_istore_n (L' := [(0, .ref p0), (1, .int 0), (2, .int 0)]) hC dX6_onesOn_3 rfl (by decide) [1, 2, 0] rfl ?_
  have hq := hq (fun (x1_1 : Int32) (x2_2 : Int32) => V G Γ 3 0 0 h0 4 [(0, .ref p0), (1, .int x1_1), (2, .int x2_2)] []) (by
    intro x1_1 x2_2 hq
    show V G Γ 3 0 0 h0 4 [(0, .ref p0), (1, .int x1_1), (2, .int x2_2)] []
    refine V_iload_n hC dX6_onesOn_4 2 rfl ?_
    refine V_bipush (v := 8) hC dX6_onesOn_5 (by decide) ?_
    refine V_icmp_ge (tgt := 34) hC dX6_onesOn_7 (by decide) (fun hc => ?_) (fun hc => ?_)
    · have hq := hq.1 hc
      refine V_iload_n hC dX6_onesOn_34 1 rfl ?_
      exact V_iret hC hQ rfl rfl ⟨by decide, by decide⟩ dX6_onesOn_35 ⟨_, rfl, rfl, hq⟩
    · have hq := hq.2 hc
      refine V_aload_n hC dX6_onesOn_10 0 rfl ?_
      refine U_getR hC fl_X6_14 dX6_onesOn_11 hq (fun v3 hq => ?_)
      refine V_iload_n hC dX6_onesOn_14 2 rfl ?_
      obtain ⟨hz, hq⟩ := hq
      refine clV_X7_at hG hC sv_X6_29 ⟨by decide, by decide⟩ (Nat.le_of_ble_eq_true rfl) ⟨by decide, by decide⟩ dX6_onesOn_15 hz hq (fun r4 hq => ?_)
      show V G Γ 3 0 0 h0 18 [(0, .ref p0), (1, .int x1_1), (2, .int x2_2)] [.int r4]
      refine V_iconst (v := (-1)) hC dX6_onesOn_18 (by decide) ?_
      have hq := hq (fun (x1_5 : Int32) => V G Γ 3 0 0 h0 28 [(0, .ref p0), (1, .int x1_5), (2, .int x2_2)] []) (by
        intro x1_5 hq
        show V G Γ 3 0 0 h0 28 [(0, .ref p0), (1, .int x1_5), (2, .int x2_2)] []
        refine V_iinc (j := 2) (v := (x2_2 + 1)) (L' := [(0, .ref p0), (1, .int x1_5), (2, .int (x2_2 + 1))]) hC dX6_onesOn_28 rfl rfl (by decide) [1, 2, 0] rfl ?_
        refine V_goto (tgt := 4) hC dX6_onesOn_31 (by decide) ?_
        exact hq)
      refine V_icmp_eq (tgt := 28) hC dX6_onesOn_19 (by decide) (fun hc => ?_) (fun hc => ?_)
      · have hq := hq.1 hc
        exact hq
      · have hq := hq.2 hc
        refine V_iload_n hC dX6_onesOn_22 1 rfl ?_
        refine V_iconst (v := 1) hC dX6_onesOn_23 (by decide) ?_
        refine V_iload_n hC dX6_onesOn_24 2 rfl ?_
        refine V_ishl hC dX6_onesOn_25 ?_
        refine V_ior hC dX6_onesOn_26 ?_
        refine V_istore_n (L' := [(0, .ref p0), (1, .int (x1_1 ||| (1 <<< (x2_2 &&& 31)))), (2, .int x2_2)]) hC dX6_onesOn_27 rfl (by decide) [1, 0, 2] rfl ?_
        exact hq)
  exact hq
theorem clV_X6_onesOn {G : Gx} (hG : GOK G) {Γ : Cx} {own : String} {cc : ByteArray} {nL fr lo mc ms cells slots pc : Nat} {hh : List (Nat × Nat × Nat × Nat)} {h : hw} {L : List (Nat × Value)} {rest : List Value} (hC : COK G Γ own cc nL fr lo mc ms hh) {idx : Nat} (hs : SV own idx yX6_onesOn cX6_onesOn 3 (some .int) 0) {p0 : Nat} (hR : 2 + 1 ≤ fr ∧ 8 + (3 + 11) + 51 ≤ lo) (hw8 : (rest.map fun v => v.category).sum ≤ 8) (hcs : cells + 0 ≤ mc ∧ slots + 0 ≤ ms) (hdg : decode cc pc = .ok (.invokevirtual idx, 3)) (ho : isO h p0 6) {post : Int32 → Prop} (hq : wp_X6_onesOn G p0 h post) (kk : ∀ (r : Int32) , post r → V G Γ nL (cells + 0) (slots + 0) h (pc + 3) L (.int r :: rest)) : V G Γ nL cells slots h pc L (.ref p0 :: rest) :=
  V_callV (As := []) (r9 := (RX6, TX6, 5)) hC (ct_X6_onesOn hG p0 h post hq) hs ho rfl rfl rfl hR hw8 hcs hdg (fun E h1 z => z.elim) (fun v h1 z => by obtain ⟨r, rfl, rfl, hz⟩ := z; exact kk r hz)
set_option maxRecDepth 100000 in
set_option maxHeartbeats 4000000 in
theorem ct_X6_holdsToday {G : Gx} (hG : GOK G) (p0 : Nat) (h0 : hw) (post : Int32 → Prop) (hq : wp_X6_holdsToday G p0 h0 post) : CT G yX6_holdsToday cX6_holdsToday 2 (some .boolean) 3 74 0 0 [.ref p0] h0 (fun v h1 => ∃ r : Int32, v = some (.int r) ∧ h1 = h0 ∧ post r) (fun E h1 => False) := by
  refine CT_of hG (by decide) (Nat.le_of_ble_eq_true rfl) (fun Γ hC hQ hN => ?_)
  have hC : COK G Γ "Bandplan$Register" cX6_holdsToday 2 3 74 0 0 [] := hC
  unfold wp_X6_holdsToday at hq
  show V G Γ 2 0 0 h0 0 [(0, .ref p0)] []
  refine V_iconst (v := 0) hC dX6_holdsToday_0 (by decide) ?_
  refine V_istore_n (L' := [(0, .ref p0), (1, .int 0)]) hC dX6_holdsToday_1 rfl (by decide) [1, 0] rfl ?_
  have hq := hq (fun (x1_1 : Int32) => V G Γ 2 0 0 h0 2 [(0, .ref p0), (1, .int x1_1)] []) (by
    intro x1_1 hq
    show V G Γ 2 0 0 h0 2 [(0, .ref p0), (1, .int x1_1)] []
    refine V_iload_n hC dX6_holdsToday_2 1 rfl ?_
    refine V_bipush (v := 8) hC dX6_holdsToday_3 (by decide) ?_
    refine V_icmp_ge (tgt := 36) hC dX6_holdsToday_5 (by decide) (fun hc => ?_) (fun hc => ?_)
    · have hq := hq.1 hc
      refine V_iconst (v := 1) hC dX6_holdsToday_36 (by decide) ?_
      exact V_iret hC hQ rfl rfl ⟨by decide, by decide⟩ dX6_holdsToday_37 ⟨_, rfl, rfl, hq⟩
    · have hq := hq.2 hc
      refine V_aload_n hC dX6_holdsToday_8 0 rfl ?_
      refine V_iload_n hC dX6_holdsToday_9 1 rfl ?_
      refine V_aload_n hC dX6_holdsToday_10 0 rfl ?_
      refine U_getI hC fl_X6_43 dX6_holdsToday_11 hq (fun v2 hq => ?_)
      obtain ⟨hz, hq⟩ := hq
      refine clV_X6_channelAt hG hC sv_X6_47 ⟨by decide, by decide⟩ (Nat.le_of_ble_eq_true rfl) ⟨by decide, by decide⟩ dX6_holdsToday_14 hz hq (fun r3 hq => ?_)
      show V G Γ 2 0 0 h0 17 [(0, .ref p0), (1, .int x1_1)] [.int r3]
      refine V_aload_n hC dX6_holdsToday_17 0 rfl ?_
      refine U_getR hC fl_X6_14 dX6_holdsToday_18 hq (fun v4 hq => ?_)
      refine V_iload_n hC dX6_holdsToday_21 1 rfl ?_
      obtain ⟨hz, hq⟩ := hq
      refine clV_X7_at hG hC sv_X6_29 ⟨by decide, by decide⟩ (Nat.le_of_ble_eq_true rfl) ⟨by decide, by decide⟩ dX6_holdsToday_22 hz hq (fun r5 hq => ?_)
      show V G Γ 2 0 0 h0 25 [(0, .ref p0), (1, .int x1_1)] [.int r5, .int r3]
      refine V_icmp_eq (tgt := 30) hC dX6_holdsToday_25 (by decide) (fun hc => ?_) (fun hc => ?_)
      · have hq := hq.1 hc
        refine V_iinc (j := 1) (v := (x1_1 + 1)) (L' := [(0, .ref p0), (1, .int (x1_1 + 1))]) hC dX6_holdsToday_30 rfl rfl (by decide) [1, 0] rfl ?_
        refine V_goto (tgt := 2) hC dX6_holdsToday_33 (by decide) ?_
        exact hq
      · have hq := hq.2 hc
        refine V_iconst (v := 0) hC dX6_holdsToday_28 (by decide) ?_
        exact V_iret hC hQ rfl rfl ⟨by decide, by decide⟩ dX6_holdsToday_29 ⟨_, rfl, rfl, hq⟩)
  exact hq
theorem clV_X6_holdsToday {G : Gx} (hG : GOK G) {Γ : Cx} {own : String} {cc : ByteArray} {nL fr lo mc ms cells slots pc : Nat} {hh : List (Nat × Nat × Nat × Nat)} {h : hw} {L : List (Nat × Value)} {rest : List Value} (hC : COK G Γ own cc nL fr lo mc ms hh) {idx : Nat} (hs : SV own idx yX6_holdsToday cX6_holdsToday 2 (some .boolean) 0) {p0 : Nat} (hR : 3 + 1 ≤ fr ∧ 8 + (2 + 11) + 74 ≤ lo) (hw8 : (rest.map fun v => v.category).sum ≤ 8) (hcs : cells + 0 ≤ mc ∧ slots + 0 ≤ ms) (hdg : decode cc pc = .ok (.invokevirtual idx, 3)) (ho : isO h p0 6) {post : Int32 → Prop} (hq : wp_X6_holdsToday G p0 h post) (kk : ∀ (r : Int32) , post r → V G Γ nL (cells + 0) (slots + 0) h (pc + 3) L (.int r :: rest)) : V G Γ nL cells slots h pc L (.ref p0 :: rest) :=
  V_callV (As := []) (r9 := (RX6, TX6, 5)) hC (ct_X6_holdsToday hG p0 h post hq) hs ho rfl rfl rfl hR hw8 hcs hdg (fun E h1 z => z.elim) (fun v h1 z => by obtain ⟨r, rfl, rfl, hz⟩ := z; exact kk r hz)
set_option maxRecDepth 100000 in
set_option maxHeartbeats 4000000 in
theorem ct_X7_copyFrom {G : Gx} (hG : GOK G) (p0 : Nat) (p1 : Nat) (h0 : hw) (post : hw → Prop) (hq : wp_X7_copyFrom G p0 p1 h0 post) : CT G yX7_copyFrom cX7_copyFrom 3 none 2 51 0 0 [.ref p0, .ref p1] h0 (fun v h1 => v = none ∧ post h1) (fun E h1 => False) := by
  refine CT_of hG (by decide) (Nat.le_of_ble_eq_true rfl) (fun Γ hC hQ hN => ?_)
  have hC : COK G Γ "Bandplan$Row" cX7_copyFrom 3 2 51 0 0 [] := hC
  unfold wp_X7_copyFrom at hq
  show V G Γ 3 0 0 h0 0 [(0, .ref p0), (1, .ref p1)] []
  refine V_iconst (v := 0) hC dX7_copyFrom_0 (by decide) ?_
  refine V_istore_n (L' := [(0, .ref p0), (1, .ref p1), (2, .int 0)]) hC dX7_copyFrom_1 rfl (by decide) [1, 2, 0] rfl ?_
  have hq := hq (fun (x2_1 : Int32) (h2 : hw) => V G Γ 3 0 0 h2 2 [(0, .ref p0), (1, .ref p1), (2, .int x2_1)] []) (by
    intro x2_1 h2 hq
    show V G Γ 3 0 0 h2 2 [(0, .ref p0), (1, .ref p1), (2, .int x2_1)] []
    refine V_iload_n hC dX7_copyFrom_2 2 rfl ?_
    refine V_aload_n hC dX7_copyFrom_3 0 rfl ?_
    refine U_getR hC fl_X7_7 dX7_copyFrom_4 hq (fun v3 hq => ?_)
    refine U_lnI hC dX7_copyFrom_7 hq (fun v4 hq => ?_)
    refine V_icmp_ge (tgt := 28) hC dX7_copyFrom_8 (by decide) (fun hc => ?_) (fun hc => ?_)
    · have hq := hq.1 hc
      exact V_vret hC hQ ⟨by decide, by decide⟩ dX7_copyFrom_28 ⟨rfl, hq⟩
    · have hq := hq.2 hc
      refine V_aload_n hC dX7_copyFrom_11 0 rfl ?_
      refine U_getR hC fl_X7_7 dX7_copyFrom_12 hq (fun v5 hq => ?_)
      refine V_iload_n hC dX7_copyFrom_15 2 rfl ?_
      refine V_aload_n hC dX7_copyFrom_16 1 rfl ?_
      refine V_iload_n hC dX7_copyFrom_17 2 rfl ?_
      obtain ⟨hz, hq⟩ := hq
      refine clV_X7_at hG hC sv_X7_13 ⟨by decide, by decide⟩ (Nat.le_of_ble_eq_true rfl) ⟨by decide, by decide⟩ dX7_copyFrom_18 hz hq (fun r6 hq => ?_)
      show V G Γ 3 0 0 h2 21 [(0, .ref p0), (1, .ref p1), (2, .int x2_1)] [.int r6, .int x2_1, .ref v5]
      refine U_stI hC dX7_copyFrom_21 hq (fun h7 hq => ?_)
      refine V_iinc (j := 2) (v := (x2_1 + 1)) (L' := [(0, .ref p0), (1, .ref p1), (2, .int (x2_1 + 1))]) hC dX7_copyFrom_22 rfl rfl (by decide) [1, 2, 0] rfl ?_
      refine V_goto (tgt := 2) hC dX7_copyFrom_25 (by decide) ?_
      exact hq)
  exact hq
theorem clV_X7_copyFrom {G : Gx} (hG : GOK G) {Γ : Cx} {own : String} {cc : ByteArray} {nL fr lo mc ms cells slots pc : Nat} {hh : List (Nat × Nat × Nat × Nat)} {h : hw} {L : List (Nat × Value)} {rest : List Value} (hC : COK G Γ own cc nL fr lo mc ms hh) {idx : Nat} (hs : SV own idx yX7_copyFrom cX7_copyFrom 3 none 1) {p0 : Nat} {p1 : Nat} (hR : 2 + 1 ≤ fr ∧ 8 + (3 + 11) + 51 ≤ lo) (hw8 : (rest.map fun v => v.category).sum ≤ 8) (hcs : cells + 0 ≤ mc ∧ slots + 0 ≤ ms) (hdg : decode cc pc = .ok (.invokevirtual idx, 3)) (ho : isO h p0 7) {post : hw → Prop} (hq : wp_X7_copyFrom G p0 p1 h post) (kk : ∀ (h1 : hw) , post h1 → V G Γ nL (cells + 0) (slots + 0) h1 (pc + 3) L (rest)) : V G Γ nL cells slots h pc L (.ref p1 :: .ref p0 :: rest) :=
  V_callV (As := [.ref p1]) (r9 := (RX7, TX7, 1)) hC (ct_X7_copyFrom hG p0 p1 h post hq) hs ho rfl rfl rfl hR hw8 hcs hdg (fun E h1 z => z.elim) (fun v h1 z => by obtain ⟨rfl, hz⟩ := z; exact kk h1 hz)
set_option maxRecDepth 100000 in
set_option maxHeartbeats 4000000 in
theorem ct_X8_init {G : Gx} (hG : GOK G) (p0 : Nat) (h0 : hw) (post : hw → Prop) (hq : wp_X8_init G p0 h0 post) : CT G yX8_init cX8_init 1 none 3 53 4 18 [.ref p0] h0 (fun v h1 => v = none ∧ post h1) (fun E h1 => False) := by
  refine CT_of hG (by decide) (Nat.le_of_ble_eq_true rfl) (fun Γ hC hQ hN => ?_)
  have hC : COK G Γ "Bandplan$Selling" cX8_init 1 3 53 4 18 [] := hC
  have hin := HIN hN rfl
  unfold wp_X8_init at hq
  show V G Γ 1 0 0 h0 0 [(0, .ref p0)] []
  refine V_aload_n hC dX8_init_0 0 rfl ?_
  refine V_objInit hC so_X8_3 (by decide) (Nat.le_of_ble_eq_true rfl) dX8_init_1 ?_
  refine V_aload_n hC dX8_init_4 0 rfl ?_
  refine U_new hC no_X8_9 ⟨by decide, by decide⟩ dX8_init_5 hq (fun a1 h2 hq => ?_)
  refine V_dup hC dX8_init_8 rfl ?_
  refine V_bipush (v := 8) hC dX8_init_9 (by decide) ?_
  refine V_iconst (v := (-1)) hC dX8_init_11 (by decide) ?_
  refine clI_X7_init hG hC si_X8_11 ⟨by decide, by decide⟩ (Nat.le_of_ble_eq_true rfl) ⟨by decide, by decide⟩ dX8_init_12 hq (fun h3 hq => ?_)
  show V G Γ 1 2 9 h3 15 [(0, .ref p0)] [.ref a1, .ref p0]
  refine U_putF hC fl_X8_14 fin_X8_0 hin rfl rfl dX8_init_15 hq (fun h4 hq => ?_)
  refine V_aload_n hC dX8_init_18 0 rfl ?_
  refine U_new hC no_X8_9 ⟨by decide, by decide⟩ dX8_init_19 hq (fun a5 h6 hq => ?_)
  refine V_dup hC dX8_init_22 rfl ?_
  refine V_bipush (v := 8) hC dX8_init_23 (by decide) ?_
  refine V_iconst (v := 0) hC dX8_init_25 (by decide) ?_
  refine clI_X7_init hG hC si_X8_11 ⟨by decide, by decide⟩ (Nat.le_of_ble_eq_true rfl) ⟨by decide, by decide⟩ dX8_init_26 hq (fun h7 hq => ?_)
  show V G Γ 1 4 18 h7 29 [(0, .ref p0)] [.ref a5, .ref p0]
  refine U_putF hC fl_X8_20 fin_X8_5 hin rfl rfl dX8_init_29 hq (fun h8 hq => ?_)
  exact V_vret hC hQ ⟨by decide, by decide⟩ dX8_init_32 ⟨rfl, hq⟩
set_option maxRecDepth 100000 in
set_option maxHeartbeats 4000000 in
theorem ct_X8_begin {G : Gx} (hG : GOK G) (p0 : Nat) (p1 : Int32) (p2 : Int32) (h0 : hw) (post : hw → Prop) (hq : wp_X8_begin G p0 p1 p2 h0 post) : CT G yX8_begin cX8_begin 3 none 2 52 0 0 [.ref p0, .int p1, .int p2] h0 (fun v h1 => v = none ∧ post h1) (fun E h1 => False) := by
  refine CT_of hG (by decide) (Nat.le_of_ble_eq_true rfl) (fun Γ hC hQ hN => ?_)
  have hC : COK G Γ "Bandplan$Selling" cX8_begin 3 2 52 0 0 [] := hC
  unfold wp_X8_begin at hq
  show V G Γ 3 0 0 h0 0 [(0, .ref p0), (1, .int p1), (2, .int p2)] []
  refine V_aload_n hC dX8_begin_0 0 rfl ?_
  refine V_iload_n hC dX8_begin_1 1 rfl ?_
  refine U_put hC fl_X8_23 fin_X8_2 rfl rfl dX8_begin_2 hq (fun h1 hq => ?_)
  refine V_aload_n hC dX8_begin_5 0 rfl ?_
  refine V_iconst (v := 1) hC dX8_begin_6 (by decide) ?_
  refine U_put hC fl_X8_27 fin_X8_1 rfl rfl dX8_begin_7 hq (fun h2 hq => ?_)
  refine V_aload_n hC dX8_begin_10 0 rfl ?_
  refine V_iload_n hC dX8_begin_11 2 rfl ?_
  refine U_put hC fl_X8_31 fin_X8_3 rfl rfl dX8_begin_12 hq (fun h3 hq => ?_)
  refine V_aload_n hC dX8_begin_15 0 rfl ?_
  refine V_iconst (v := 0) hC dX8_begin_16 (by decide) ?_
  refine U_put hC fl_X8_34 fin_X8_4 rfl rfl dX8_begin_17 hq (fun h4 hq => ?_)
  refine V_aload_n hC dX8_begin_20 0 rfl ?_
  refine U_getR hC fl_X8_14 dX8_begin_21 hq (fun v5 hq => ?_)
  refine V_iconst (v := (-1)) hC dX8_begin_24 (by decide) ?_
  obtain ⟨hz, hq⟩ := hq
  refine clV_X7_fillWith hG hC sv_X8_37 ⟨by decide, by decide⟩ (Nat.le_of_ble_eq_true rfl) ⟨by decide, by decide⟩ dX8_begin_25 hz hq (fun h6 hq => ?_)
  show V G Γ 3 0 0 h6 28 [(0, .ref p0), (1, .int p1), (2, .int p2)] []
  exact V_vret hC hQ ⟨by decide, by decide⟩ dX8_begin_28 ⟨rfl, hq⟩
theorem clV_X8_begin {G : Gx} (hG : GOK G) {Γ : Cx} {own : String} {cc : ByteArray} {nL fr lo mc ms cells slots pc : Nat} {hh : List (Nat × Nat × Nat × Nat)} {h : hw} {L : List (Nat × Value)} {rest : List Value} (hC : COK G Γ own cc nL fr lo mc ms hh) {idx : Nat} (hs : SV own idx yX8_begin cX8_begin 3 none 2) {p0 : Nat} {p1 : Int32} {p2 : Int32} (hR : 2 + 1 ≤ fr ∧ 8 + (3 + 11) + 52 ≤ lo) (hw8 : (rest.map fun v => v.category).sum ≤ 8) (hcs : cells + 0 ≤ mc ∧ slots + 0 ≤ ms) (hdg : decode cc pc = .ok (.invokevirtual idx, 3)) (ho : isO h p0 8) {post : hw → Prop} (hq : wp_X8_begin G p0 p1 p2 h post) (kk : ∀ (h1 : hw) , post h1 → V G Γ nL (cells + 0) (slots + 0) h1 (pc + 3) L (rest)) : V G Γ nL cells slots h pc L (.int p2 :: .int p1 :: .ref p0 :: rest) :=
  V_callV (As := [.int p1, .int p2]) (r9 := (RX8, TX8, 6)) hC (ct_X8_begin hG p0 p1 p2 h post hq) hs ho rfl rfl rfl hR hw8 hcs hdg (fun E h1 z => z.elim) (fun v h1 z => by obtain ⟨rfl, hz⟩ := z; exact kk h1 hz)
set_option maxRecDepth 100000 in
set_option maxHeartbeats 4000000 in
theorem ct_X8_take {G : Gx} (hG : GOK G) (p0 : Nat) (p1 : Nat) (p2 : Int32) (h0 : hw) (post : hw → Prop) (hq : wp_X8_take G p0 p1 p2 h0 post) : CT G yX8_take cX8_take 3 none 2 52 0 0 [.ref p0, .ref p1, .int p2] h0 (fun v h1 => v = none ∧ post h1) (fun E h1 => False) := by
  refine CT_of hG (by decide) (Nat.le_of_ble_eq_true rfl) (fun Γ hC hQ hN => ?_)
  have hC : COK G Γ "Bandplan$Selling" cX8_take 3 2 52 0 0 [] := hC
  unfold wp_X8_take at hq
  show V G Γ 3 0 0 h0 0 [(0, .ref p0), (1, .ref p1), (2, .int p2)] []
  refine V_aload_n hC dX8_take_0 0 rfl ?_
  refine U_getR hC fl_X8_14 dX8_take_1 hq (fun v1 hq => ?_)
  refine V_aload_n hC dX8_take_4 1 rfl ?_
  refine U_getI hC fl_X8_84 dX8_take_5 hq (fun v2 hq => ?_)
  refine V_iload_n hC dX8_take_8 2 rfl ?_
  obtain ⟨hz, hq⟩ := hq
  refine clV_X7_put hG hC sv_X8_87 ⟨by decide, by decide⟩ (Nat.le_of_ble_eq_true rfl) ⟨by decide, by decide⟩ dX8_take_9 hz hq (fun h3 hq => ?_)
  show V G Γ 3 0 0 h3 12 [(0, .ref p0), (1, .ref p1), (2, .int p2)] []
  refine V_aload_n hC dX8_take_12 0 rfl ?_
  refine U_getR hC fl_X8_20 dX8_take_13 hq (fun v4 hq => ?_)
  refine V_aload_n hC dX8_take_16 1 rfl ?_
  refine U_getI hC fl_X8_84 dX8_take_17 hq (fun v5 hq => ?_)
  refine V_aload_n hC dX8_take_20 1 rfl ?_
  refine U_getI hC fl_X8_81 dX8_take_21 hq (fun v6 hq => ?_)
  obtain ⟨hz, hq⟩ := hq
  refine clV_X7_put hG hC sv_X8_87 ⟨by decide, by decide⟩ (Nat.le_of_ble_eq_true rfl) ⟨by decide, by decide⟩ dX8_take_24 hz hq (fun h7 hq => ?_)
  show V G Γ 3 0 0 h7 27 [(0, .ref p0), (1, .ref p1), (2, .int p2)] []
  exact V_vret hC hQ ⟨by decide, by decide⟩ dX8_take_27 ⟨rfl, hq⟩
theorem clV_X8_take {G : Gx} (hG : GOK G) {Γ : Cx} {own : String} {cc : ByteArray} {nL fr lo mc ms cells slots pc : Nat} {hh : List (Nat × Nat × Nat × Nat)} {h : hw} {L : List (Nat × Value)} {rest : List Value} (hC : COK G Γ own cc nL fr lo mc ms hh) {idx : Nat} (hs : SV own idx yX8_take cX8_take 3 none 2) {p0 : Nat} {p1 : Nat} {p2 : Int32} (hR : 2 + 1 ≤ fr ∧ 8 + (3 + 11) + 52 ≤ lo) (hw8 : (rest.map fun v => v.category).sum ≤ 8) (hcs : cells + 0 ≤ mc ∧ slots + 0 ≤ ms) (hdg : decode cc pc = .ok (.invokevirtual idx, 3)) (ho : isO h p0 8) {post : hw → Prop} (hq : wp_X8_take G p0 p1 p2 h post) (kk : ∀ (h1 : hw) , post h1 → V G Γ nL (cells + 0) (slots + 0) h1 (pc + 3) L (rest)) : V G Γ nL cells slots h pc L (.int p2 :: .ref p1 :: .ref p0 :: rest) :=
  V_callV (As := [.ref p1, .int p2]) (r9 := (RX8, TX8, 6)) hC (ct_X8_take hG p0 p1 p2 h post hq) hs ho rfl rfl rfl hR hw8 hcs hdg (fun E h1 z => z.elim) (fun v h1 z => by obtain ⟨rfl, hz⟩ := z; exact kk h1 hz)
set_option maxRecDepth 100000 in
set_option maxHeartbeats 4000000 in
theorem ct_X8_holdRound {G : Gx} (hG : GOK G) (p0 : Nat) (p1 : Nat) (p2 : Nat) (p3 : Int32) (p4 : Int32) (p5 : Int32) (h0 : hw) (post : Int32 → hw → Prop) (hq : wp_X8_holdRound G p0 p1 p2 p3 p4 p5 h0 post) : CT G yX8_holdRound cX8_holdRound 10 (some .int) 17 415 0 0 [.ref p0, .ref p1, .ref p2, .int p3, .int p4, .int p5] h0 (fun v h1 => ∃ r : Int32, v = some (.int r) ∧ post r h1) (fun E h1 => False) := by
  refine CT_of hG (by decide) (Nat.le_of_ble_eq_true rfl) (fun Γ hC hQ hN => ?_)
  have hC : COK G Γ "Bandplan$Selling" cX8_holdRound 10 17 415 0 0 [] := hC
  unfold wp_X8_holdRound at hq
  show V G Γ 10 0 0 h0 0 [(0, .ref p0), (1, .ref p1), (2, .ref p2), (3, .int p3), (4, .int p4), (5, .int p5)] []
  refine V_iload_n hC dX8_holdRound_0 3 rfl ?_
  refine V_istore (L' := [(0, .ref p0), (1, .ref p1), (2, .ref p2), (3, .int p3), (4, .int p4), (5, .int p5), (6, .int p3)]) hC dX8_holdRound_1 (by decide) [1, 2, 3, 4, 5, 6, 0] rfl ?_
  refine V_iconst (v := 0) hC dX8_holdRound_3 (by decide) ?_
  refine V_istore (L' := [(0, .ref p0), (1, .ref p1), (2, .ref p2), (3, .int p3), (4, .int p4), (5, .int p5), (6, .int p3), (7, .int 0)]) hC dX8_holdRound_4 (by decide) [1, 2, 3, 4, 5, 6, 7, 0] rfl ?_
  have hq := hq (fun (x6_1 : Int32) (x7_2 : Int32) (h3 : hw) => V G Γ 10 0 0 h3 6 [(0, .ref p0), (1, .ref p1), (2, .ref p2), (3, .int p3), (4, .int p4), (5, .int p5), (6, .int x6_1), (7, .int x7_2)] []) (by
    intro x6_1 x7_2 h3 hq
    show V G Γ 10 0 0 h3 6 [(0, .ref p0), (1, .ref p1), (2, .ref p2), (3, .int p3), (4, .int p4), (5, .int p5), (6, .int x6_1), (7, .int x7_2)] []
    refine V_iload hC dX8_holdRound_6 7 rfl ?_
    refine V_aload_n hC dX8_holdRound_8 1 rfl ?_
    refine U_getR hC fl_X8_45 dX8_holdRound_9 hq (fun v4 hq => ?_)
    obtain ⟨hz, hq⟩ := hq
    refine clV_Jx4a65c_size_8abf5 hG hC sv_X8_51 ⟨by decide, by decide⟩ (Nat.le_of_ble_eq_true rfl) ⟨by decide, by decide⟩ dX8_holdRound_12 hz hq (fun r5 hq => ?_)
    show V G Γ 10 0 0 h3 15 [(0, .ref p0), (1, .ref p1), (2, .ref p2), (3, .int p3), (4, .int p4), (5, .int p5), (6, .int x6_1), (7, .int x7_2)] [.int r5, .int x7_2]
    refine V_icmp_ge (tgt := 120) hC dX8_holdRound_15 (by decide) (fun hc => ?_) (fun hc => ?_)
    · have hq := hq.1 hc
      refine V_iload hC dX8_holdRound_120 6 rfl ?_
      exact V_iret hC hQ rfl rfl ⟨by decide, by decide⟩ dX8_holdRound_122 ⟨_, rfl, hq⟩
    · have hq := hq.2 hc
      refine V_iload hC dX8_holdRound_18 7 rfl ?_
      refine V_iload_n hC dX8_holdRound_20 3 rfl ?_
      refine clSN_X11_isIn hG hC ssn_X8_57 ⟨by decide, by decide⟩ (Nat.le_of_ble_eq_true rfl) ⟨by decide, by decide⟩ dX8_holdRound_21 hq (fun r6 hq => ?_)
      show V G Γ 10 0 0 h3 24 [(0, .ref p0), (1, .ref p1), (2, .ref p2), (3, .int p3), (4, .int p4), (5, .int p5), (6, .int x6_1), (7, .int x7_2)] [.int r6]
      have hq := hq (fun (x6_7 : Int32) (h8 : hw) => V G Γ 10 0 0 h8 114 [(0, .ref p0), (1, .ref p1), (2, .ref p2), (3, .int p3), (4, .int p4), (5, .int p5), (6, .int x6_7), (7, .int x7_2)] []) (by
        intro x6_7 h8 hq
        show V G Γ 10 0 0 h8 114 [(0, .ref p0), (1, .ref p1), (2, .ref p2), (3, .int p3), (4, .int p4), (5, .int p5), (6, .int x6_7), (7, .int x7_2)] []
        refine V_iinc (j := 7) (v := (x7_2 + 1)) (L' := [(0, .ref p0), (1, .ref p1), (2, .ref p2), (3, .int p3), (4, .int p4), (5, .int p5), (6, .int x6_7), (7, .int (x7_2 + 1))]) hC dX8_holdRound_114 rfl rfl (by decide) [1, 2, 3, 4, 5, 6, 7, 0] rfl ?_
        refine V_goto (tgt := 6) hC dX8_holdRound_117 (by decide) ?_
        exact hq)
      refine V_if_ne (tgt := 30) hC dX8_holdRound_24 (by decide) (fun hc => ?_) (fun hc => ?_)
      · have hq := hq.1 hc
        refine V_aload_n hC dX8_holdRound_30 1 rfl ?_
        refine U_getR hC fl_X8_45 dX8_holdRound_31 hq (fun v9 hq => ?_)
        refine V_iload hC dX8_holdRound_34 7 rfl ?_
        obtain ⟨hz, hq⟩ := hq
        refine clV_Jx4a65c_get_915e3 hG hC sv_X8_61 ⟨by decide, by decide⟩ (Nat.le_of_ble_eq_true rfl) ⟨by decide, by decide⟩ dX8_holdRound_36 hz hq (fun r10 hq => ?_)
        show V G Γ 10 0 0 h3 39 [(0, .ref p0), (1, .ref p1), (2, .ref p2), (3, .int p3), (4, .int p4), (5, .int p5), (6, .int x6_1), (7, .int x7_2)] [.ref r10]
        obtain ⟨hz, hq⟩ := hq
        refine V_cast (r9 := (RX10, TX10, 6)) hC aw_5_95 rfl hz dX8_holdRound_39 ?_
        refine V_astore (L' := [(0, .ref p0), (1, .ref p1), (2, .ref p2), (3, .int p3), (4, .int p4), (5, .int p5), (6, .int x6_1), (7, .int x7_2), (8, .ref r10)]) hC dX8_holdRound_42 (by decide) [1, 2, 3, 4, 5, 6, 7, 8, 0] rfl ?_
        refine V_iconst (v := 1) hC dX8_holdRound_44 (by decide) ?_
        refine V_iload hC dX8_holdRound_45 7 rfl ?_
        refine V_ishl hC dX8_holdRound_47 ?_
        refine V_istore (L' := [(0, .ref p0), (1, .ref p1), (2, .ref p2), (3, .int p3), (4, .int p4), (5, .int p5), (6, .int x6_1), (7, .int x7_2), (8, .ref r10), (9, .int (1 <<< (x7_2 &&& 31)))]) hC dX8_holdRound_48 (by decide) [1, 2, 3, 4, 5, 6, 7, 8, 9, 0] rfl ?_
        refine V_aload_n hC dX8_holdRound_50 2 rfl ?_
        refine V_aload_n hC dX8_holdRound_51 0 rfl ?_
        refine U_getI hC fl_X8_31 dX8_holdRound_52 hq (fun v11 hq => ?_)
        refine V_iload hC dX8_holdRound_55 9 rfl ?_
        refine V_ior hC dX8_holdRound_57 ?_
        obtain ⟨hz, hq⟩ := hq
        refine clV_X5_fits hG hC sv_X8_75 ⟨by decide, by decide⟩ (Nat.le_of_ble_eq_true rfl) ⟨by decide, by decide⟩ dX8_holdRound_58 hz hq (fun r12 h13 hq => ?_)
        show V G Γ 10 0 0 h13 61 [(0, .ref p0), (1, .ref p1), (2, .ref p2), (3, .int p3), (4, .int p4), (5, .int p5), (6, .int x6_1), (7, .int x7_2), (8, .ref r10), (9, .int (1 <<< (x7_2 &&& 31)))] [.int r12]
        refine V_if_ne (tgt := 84) hC dX8_holdRound_61 (by decide) (fun hc => ?_) (fun hc => ?_)
        · have hq := hq.1 hc
          refine V_aload hC dX8_holdRound_84 8 rfl ?_
          refine U_getI hC fl_X8_81 dX8_holdRound_86 hq (fun v14 hq => ?_)
          refine V_iload hC dX8_holdRound_89 5 rfl ?_
          refine V_icmp_le (tgt := 114) hC dX8_holdRound_91 (by decide) (fun hc => ?_) (fun hc => ?_)
          · have hq := hq.1 hc
            refine V_sub [0, 1, 2, 3, 4, 5, 6, 7] rfl ?_
            exact hq
          · have hq := hq.2 hc
            refine V_aload_n hC dX8_holdRound_94 0 rfl ?_
            refine V_dup hC dX8_holdRound_95 rfl ?_
            refine U_getI hC fl_X8_31 dX8_holdRound_96 hq (fun v15 hq => ?_)
            refine V_iload hC dX8_holdRound_99 9 rfl ?_
            refine V_ior hC dX8_holdRound_101 ?_
            refine U_put hC fl_X8_31 fin_X8_3 rfl rfl dX8_holdRound_102 hq (fun h16 hq => ?_)
            refine V_iload hC dX8_holdRound_105 6 rfl ?_
            refine V_iload hC dX8_holdRound_107 9 rfl ?_
            refine V_iconst (v := (-1)) hC dX8_holdRound_109 (by decide) ?_
            refine V_ixor hC dX8_holdRound_110 ?_
            refine V_iand hC dX8_holdRound_111 ?_
            refine V_istore (L' := [(0, .ref p0), (1, .ref p1), (2, .ref p2), (3, .int p3), (4, .int p4), (5, .int p5), (6, .int (x6_1 &&& ((1 <<< (x7_2 &&& 31)) ^^^ (-1)))), (7, .int x7_2), (8, .ref r10), (9, .int (1 <<< (x7_2 &&& 31)))]) hC dX8_holdRound_112 (by decide) [1, 2, 3, 4, 5, 6, 0, 7, 8, 9] rfl ?_
            refine V_sub [0, 1, 2, 3, 4, 5, 6, 7] rfl ?_
            exact hq
        · have hq := hq.2 hc
          refine V_aload_n hC dX8_holdRound_64 0 rfl ?_
          refine V_aload hC dX8_holdRound_65 8 rfl ?_
          refine V_iload hC dX8_holdRound_67 4 rfl ?_
          obtain ⟨hz, hq⟩ := hq
          refine clV_X8_take hG hC sv_X8_67 ⟨by decide, by decide⟩ (Nat.le_of_ble_eq_true rfl) ⟨by decide, by decide⟩ dX8_holdRound_69 hz hq (fun h17 hq => ?_)
          show V G Γ 10 0 0 h17 72 [(0, .ref p0), (1, .ref p1), (2, .ref p2), (3, .int p3), (4, .int p4), (5, .int p5), (6, .int x6_1), (7, .int x7_2), (8, .ref r10), (9, .int (1 <<< (x7_2 &&& 31)))] []
          refine V_iload hC dX8_holdRound_72 6 rfl ?_
          refine V_iload hC dX8_holdRound_74 9 rfl ?_
          refine V_iconst (v := (-1)) hC dX8_holdRound_76 (by decide) ?_
          refine V_ixor hC dX8_holdRound_77 ?_
          refine V_iand hC dX8_holdRound_78 ?_
          refine V_istore (L' := [(0, .ref p0), (1, .ref p1), (2, .ref p2), (3, .int p3), (4, .int p4), (5, .int p5), (6, .int (x6_1 &&& ((1 <<< (x7_2 &&& 31)) ^^^ (-1)))), (7, .int x7_2), (8, .ref r10), (9, .int (1 <<< (x7_2 &&& 31)))]) hC dX8_holdRound_79 (by decide) [1, 2, 3, 4, 5, 6, 0, 7, 8, 9] rfl ?_
          refine V_goto (tgt := 114) hC dX8_holdRound_81 (by decide) ?_
          refine V_sub [0, 1, 2, 3, 4, 5, 6, 7] rfl ?_
          exact hq
      · have hq := hq.2 hc
        refine V_goto (tgt := 114) hC dX8_holdRound_27 (by decide) ?_
        exact hq)
  exact hq
theorem clV_X8_holdRound {G : Gx} (hG : GOK G) {Γ : Cx} {own : String} {cc : ByteArray} {nL fr lo mc ms cells slots pc : Nat} {hh : List (Nat × Nat × Nat × Nat)} {h : hw} {L : List (Nat × Value)} {rest : List Value} (hC : COK G Γ own cc nL fr lo mc ms hh) {idx : Nat} (hs : SV own idx yX8_holdRound cX8_holdRound 10 (some .int) 5) {p0 : Nat} {p1 : Nat} {p2 : Nat} {p3 : Int32} {p4 : Int32} {p5 : Int32} (hR : 17 + 1 ≤ fr ∧ 8 + (10 + 11) + 415 ≤ lo) (hw8 : (rest.map fun v => v.category).sum ≤ 8) (hcs : cells + 0 ≤ mc ∧ slots + 0 ≤ ms) (hdg : decode cc pc = .ok (.invokevirtual idx, 3)) (ho : isO h p0 8) {post : Int32 → hw → Prop} (hq : wp_X8_holdRound G p0 p1 p2 p3 p4 p5 h post) (kk : ∀ (r : Int32) (h1 : hw) , post r h1 → V G Γ nL (cells + 0) (slots + 0) h1 (pc + 3) L (.int r :: rest)) : V G Γ nL cells slots h pc L (.int p5 :: .int p4 :: .int p3 :: .ref p2 :: .ref p1 :: .ref p0 :: rest) :=
  V_callV (As := [.ref p1, .ref p2, .int p3, .int p4, .int p5]) (r9 := (RX8, TX8, 6)) hC (ct_X8_holdRound hG p0 p1 p2 p3 p4 p5 h post hq) hs ho rfl rfl rfl hR hw8 hcs hdg (fun E h1 z => z.elim) (fun v h1 z => by obtain ⟨r, rfl, hz⟩ := z; exact kk r h1 hz)
set_option maxRecDepth 100000 in
set_option maxHeartbeats 4000000 in
theorem ct_X8_run {G : Gx} (hG : GOK G) (p0 : Nat) (p1 : Nat) (p2 : Nat) (p3 : Int32) (p4 : Int32) (p5 : Int32) (h0 : hw) (post : Int32 → hw → Prop) (hq : wp_X8_run G p0 p1 p2 p3 p4 p5 h0 post) : CT G yX8_run cX8_run 9 (some .int) 18 444 0 0 [.ref p0, .ref p1, .ref p2, .int p3, .int p4, .int p5] h0 (fun v h1 => ∃ r : Int32, v = some (.int r) ∧ post r h1) (fun E h1 => False) := by
  refine CT_of hG (by decide) (Nat.le_of_ble_eq_true rfl) (fun Γ hC hQ hN => ?_)
  have hC : COK G Γ "Bandplan$Selling" cX8_run 9 18 444 0 0 [] := hC
  unfold wp_X8_run at hq
  show V G Γ 9 0 0 h0 0 [(0, .ref p0), (1, .ref p1), (2, .ref p2), (3, .int p3), (4, .int p4), (5, .int p5)] []
  refine V_iload_n hC dX8_run_0 3 rfl ?_
  refine V_istore (L' := [(0, .ref p0), (1, .ref p1), (2, .ref p2), (3, .int p3), (4, .int p4), (5, .int p5), (6, .int p3)]) hC dX8_run_1 (by decide) [1, 2, 3, 4, 5, 6, 0] rfl ?_
  refine V_iload hC dX8_run_3 4 rfl ?_
  refine V_istore (L' := [(0, .ref p0), (1, .ref p1), (2, .ref p2), (3, .int p3), (4, .int p4), (5, .int p5), (6, .int p3), (7, .int p4)]) hC dX8_run_5 (by decide) [1, 2, 3, 4, 5, 6, 7, 0] rfl ?_
  refine V_iconst (v := 0) hC dX8_run_7 (by decide) ?_
  refine V_istore (L' := [(0, .ref p0), (1, .ref p1), (2, .ref p2), (3, .int p3), (4, .int p4), (5, .int p5), (6, .int p3), (7, .int p4), (8, .int 0)]) hC dX8_run_8 (by decide) [1, 2, 3, 4, 5, 6, 7, 8, 0] rfl ?_
  have hq := hq (fun (x6_1 : Int32) (x7_2 : Int32) (x8_3 : Int32) (h4 : hw) => V G Γ 9 0 0 h4 10 [(0, .ref p0), (1, .ref p1), (2, .ref p2), (3, .int p3), (5, .int p5), (6, .int x6_1), (7, .int x7_2), (8, .int x8_3)] []) (by
    intro x6_1 x7_2 x8_3 h4 hq
    show V G Γ 9 0 0 h4 10 [(0, .ref p0), (1, .ref p1), (2, .ref p2), (3, .int p3), (5, .int p5), (6, .int x6_1), (7, .int x7_2), (8, .int x8_3)] []
    refine V_iload hC dX8_run_10 7 rfl ?_
    refine V_sipush (v := 9999) hC dX8_run_12 (by decide) ?_
    have hq := hq (V G Γ 9 0 0 h4 70 [(0, .ref p0), (1, .ref p1), (3, .int p3), (6, .int x6_1), (7, .int x7_2)] []) (by
      intro hq
      show V G Γ 9 0 0 h4 70 [(0, .ref p0), (1, .ref p1), (3, .int p3), (6, .int x6_1), (7, .int x7_2)] []
      refine V_iconst (v := 0) hC dX8_run_70 (by decide) ?_
      refine V_istore (L' := [(0, .ref p0), (1, .ref p1), (3, .int p3), (6, .int x6_1), (7, .int x7_2), (8, .int 0)]) hC dX8_run_71 (by decide) [1, 2, 3, 4, 5, 0] rfl ?_
      have hq := hq (fun (x8_5 : Int32) (h6 : hw) => V G Γ 9 0 0 h6 73 [(0, .ref p0), (1, .ref p1), (3, .int p3), (6, .int x6_1), (7, .int x7_2), (8, .int x8_5)] []) (by
        intro x8_5 h6 hq
        show V G Γ 9 0 0 h6 73 [(0, .ref p0), (1, .ref p1), (3, .int p3), (6, .int x6_1), (7, .int x7_2), (8, .int x8_5)] []
        refine V_iload hC dX8_run_73 5 rfl ?_
        refine V_aload_n hC dX8_run_75 1 rfl ?_
        refine U_getR hC fl_X8_45 dX8_run_76 hq (fun v7 hq => ?_)
        obtain ⟨hz, hq⟩ := hq
        refine clV_Jx4a65c_size_8abf5 hG hC sv_X8_51 ⟨by decide, by decide⟩ (Nat.le_of_ble_eq_true rfl) ⟨by decide, by decide⟩ dX8_run_79 hz hq (fun r8 hq => ?_)
        show V G Γ 9 0 0 h6 82 [(0, .ref p0), (1, .ref p1), (3, .int p3), (6, .int x6_1), (7, .int x7_2), (8, .int x8_5)] [.int r8, .int x8_5]
        refine V_icmp_ge (tgt := 119) hC dX8_run_82 (by decide) (fun hc => ?_) (fun hc => ?_)
        · have hq := hq.1 hc
          refine V_iload_n hC dX8_run_119 2 rfl ?_
          refine V_aload_n hC dX8_run_120 0 rfl ?_
          refine U_getI hC fl_X8_31 dX8_run_121 hq (fun v9 hq => ?_)
          refine V_iconst (v := (-1)) hC dX8_run_124 (by decide) ?_
          refine V_ixor hC dX8_run_125 ?_
          refine V_iand hC dX8_run_126 ?_
          exact V_iret hC hQ rfl rfl ⟨by decide, by decide⟩ dX8_run_127 ⟨_, rfl, hq⟩
        · have hq := hq.2 hc
          refine V_iload hC dX8_run_85 5 rfl ?_
          refine V_iload hC dX8_run_87 3 rfl ?_
          refine clSN_X11_isIn hG hC ssn_X8_57 ⟨by decide, by decide⟩ (Nat.le_of_ble_eq_true rfl) ⟨by decide, by decide⟩ dX8_run_89 hq (fun r10 hq => ?_)
          show V G Γ 9 0 0 h6 92 [(0, .ref p0), (1, .ref p1), (3, .int p3), (6, .int x6_1), (7, .int x7_2), (8, .int x8_5)] [.int r10]
          have hq := hq (fun (h11 : hw) => V G Γ 9 0 0 h11 113 [(0, .ref p0), (1, .ref p1), (3, .int p3), (6, .int x6_1), (7, .int x7_2), (8, .int x8_5)] []) (by
            intro h11 hq
            show V G Γ 9 0 0 h11 113 [(0, .ref p0), (1, .ref p1), (3, .int p3), (6, .int x6_1), (7, .int x7_2), (8, .int x8_5)] []
            refine V_iinc (j := 5) (v := (x8_5 + 1)) (L' := [(0, .ref p0), (1, .ref p1), (3, .int p3), (6, .int x6_1), (7, .int x7_2), (8, .int (x8_5 + 1))]) hC dX8_run_113 rfl rfl (by decide) [1, 2, 3, 4, 5, 0] rfl ?_
            refine V_goto (tgt := 73) hC dX8_run_116 (by decide) ?_
            exact hq)
          refine V_if_eq (tgt := 113) hC dX8_run_92 (by decide) (fun hc => ?_) (fun hc => ?_)
          · have hq := hq.1 hc
            exact hq
          · have hq := hq.2 hc
            refine V_aload_n hC dX8_run_95 0 rfl ?_
            refine V_aload_n hC dX8_run_96 1 rfl ?_
            refine U_getR hC fl_X8_45 dX8_run_97 hq (fun v12 hq => ?_)
            refine V_iload hC dX8_run_100 5 rfl ?_
            obtain ⟨hz, hq⟩ := hq
            refine clV_Jx4a65c_get_915e3 hG hC sv_X8_61 ⟨by decide, by decide⟩ (Nat.le_of_ble_eq_true rfl) ⟨by decide, by decide⟩ dX8_run_102 hz hq (fun r13 hq => ?_)
            show V G Γ 9 0 0 h6 105 [(0, .ref p0), (1, .ref p1), (3, .int p3), (6, .int x6_1), (7, .int x7_2), (8, .int x8_5)] [.ref r13, .ref p0]
            obtain ⟨hz, hq⟩ := hq
            refine V_cast (r9 := (RX10, TX10, 6)) hC aw_5_95 rfl hz dX8_run_105 ?_
            refine V_iload hC dX8_run_108 4 rfl ?_
            obtain ⟨hz, hq⟩ := hq
            refine clV_X8_take hG hC sv_X8_67 ⟨by decide, by decide⟩ (Nat.le_of_ble_eq_true rfl) ⟨by decide, by decide⟩ dX8_run_110 hz hq (fun h14 hq => ?_)
            show V G Γ 9 0 0 h14 113 [(0, .ref p0), (1, .ref p1), (3, .int p3), (6, .int x6_1), (7, .int x7_2), (8, .int x8_5)] []
            exact hq)
      exact hq)
    refine V_icmp_ge (tgt := 70) hC dX8_run_15 (by decide) (fun hc => ?_) (fun hc => ?_)
    · have hq := hq.1 hc
      refine V_sub [0, 1, 3, 5, 6] rfl ?_
      exact hq
    · have hq := hq.2 hc
      refine V_iload hC dX8_run_18 5 rfl ?_
      refine V_if_eq (tgt := 70) hC dX8_run_20 (by decide) (fun hc => ?_) (fun hc => ?_)
      · have hq := hq.1 hc
        refine V_sub [0, 1, 3, 5, 6] rfl ?_
        exact hq
      · have hq := hq.2 hc
        refine V_iload hC dX8_run_23 6 rfl ?_
        refine V_iload hC dX8_run_25 4 rfl ?_
        refine V_icmp_lt (tgt := 70) hC dX8_run_27 (by decide) (fun hc => ?_) (fun hc => ?_)
        · have hq := hq.1 hc
          refine V_sub [0, 1, 3, 5, 6] rfl ?_
          exact hq
        · have hq := hq.2 hc
          refine V_aload_n hC dX8_run_30 0 rfl ?_
          refine V_aload_n hC dX8_run_31 1 rfl ?_
          refine V_aload_n hC dX8_run_32 2 rfl ?_
          refine V_iload hC dX8_run_33 5 rfl ?_
          refine V_iload hC dX8_run_35 6 rfl ?_
          refine V_iload hC dX8_run_37 6 rfl ?_
          refine V_iload hC dX8_run_39 4 rfl ?_
          refine V_isub hC dX8_run_41 ?_
          obtain ⟨hz, hq⟩ := hq
          refine clV_X8_holdRound hG hC sv_X8_41 ⟨by decide, by decide⟩ (Nat.le_of_ble_eq_true rfl) ⟨by decide, by decide⟩ dX8_run_42 hz hq (fun r15 h16 hq => ?_)
          show V G Γ 9 0 0 h16 45 [(0, .ref p0), (1, .ref p1), (2, .ref p2), (3, .int p3), (5, .int p5), (6, .int x6_1), (7, .int x7_2), (8, .int x8_3)] [.int r15]
          refine V_istore (L' := [(0, .ref p0), (1, .ref p1), (2, .ref p2), (3, .int p3), (5, .int p5), (6, .int r15), (7, .int x7_2), (8, .int x8_3)]) hC dX8_run_45 (by decide) [1, 2, 3, 4, 5, 0, 6, 7] rfl ?_
          refine V_iload hC dX8_run_47 6 rfl ?_
          refine V_iload hC dX8_run_49 4 rfl ?_
          refine V_isub hC dX8_run_51 ?_
          refine V_istore (L' := [(0, .ref p0), (1, .ref p1), (2, .ref p2), (3, .int p3), (5, .int p5), (6, .int r15), (7, .int (x7_2 - p5)), (8, .int x8_3)]) hC dX8_run_52 (by decide) [1, 2, 3, 4, 5, 6, 0, 7] rfl ?_
          refine V_aload_n hC dX8_run_54 0 rfl ?_
          refine V_dup hC dX8_run_55 rfl ?_
          refine U_getI hC fl_X8_34 dX8_run_56 hq (fun v17 hq => ?_)
          refine V_iconst (v := 1) hC dX8_run_59 (by decide) ?_
          refine V_iadd hC dX8_run_60 ?_
          refine U_put hC fl_X8_34 fin_X8_4 rfl rfl dX8_run_61 hq (fun h18 hq => ?_)
          refine V_iinc (j := 7) (v := (x8_3 + 1)) (L' := [(0, .ref p0), (1, .ref p1), (2, .ref p2), (3, .int p3), (5, .int p5), (6, .int r15), (7, .int (x7_2 - p5)), (8, .int (x8_3 + 1))]) hC dX8_run_64 rfl rfl (by decide) [1, 2, 3, 4, 5, 6, 7, 0] rfl ?_
          refine V_goto (tgt := 10) hC dX8_run_67 (by decide) ?_
          exact hq)
  refine V_sub [0, 1, 2, 3, 5, 6, 7, 8] rfl ?_
  exact hq
theorem clV_X8_run {G : Gx} (hG : GOK G) {Γ : Cx} {own : String} {cc : ByteArray} {nL fr lo mc ms cells slots pc : Nat} {hh : List (Nat × Nat × Nat × Nat)} {h : hw} {L : List (Nat × Value)} {rest : List Value} (hC : COK G Γ own cc nL fr lo mc ms hh) {idx : Nat} (hs : SV own idx yX8_run cX8_run 9 (some .int) 5) {p0 : Nat} {p1 : Nat} {p2 : Nat} {p3 : Int32} {p4 : Int32} {p5 : Int32} (hR : 18 + 1 ≤ fr ∧ 8 + (9 + 11) + 444 ≤ lo) (hw8 : (rest.map fun v => v.category).sum ≤ 8) (hcs : cells + 0 ≤ mc ∧ slots + 0 ≤ ms) (hdg : decode cc pc = .ok (.invokevirtual idx, 3)) (ho : isO h p0 8) {post : Int32 → hw → Prop} (hq : wp_X8_run G p0 p1 p2 p3 p4 p5 h post) (kk : ∀ (r : Int32) (h1 : hw) , post r h1 → V G Γ nL (cells + 0) (slots + 0) h1 (pc + 3) L (.int r :: rest)) : V G Γ nL cells slots h pc L (.int p5 :: .int p4 :: .int p3 :: .ref p2 :: .ref p1 :: .ref p0 :: rest) :=
  V_callV (As := [.ref p1, .ref p2, .int p3, .int p4, .int p5]) (r9 := (RX8, TX8, 6)) hC (ct_X8_run hG p0 p1 p2 p3 p4 p5 h post hq) hs ho rfl rfl rfl hR hw8 hcs hdg (fun E h1 z => z.elim) (fun v h1 z => by obtain ⟨r, rfl, hz⟩ := z; exact kk r h1 hz)
set_option maxRecDepth 100000 in
set_option maxHeartbeats 4000000 in
theorem ct_X8_isFair {G : Gx} (hG : GOK G) (p0 : Nat) (h0 : hw) (post : Int32 → Prop) (hq : wp_X8_isFair G p0 h0 post) : CT G yX8_isFair cX8_isFair 2 (some .boolean) 2 51 0 0 [.ref p0] h0 (fun v h1 => ∃ r : Int32, v = some (.int r) ∧ h1 = h0 ∧ post r) (fun E h1 => False) := by
  refine CT_of hG (by decide) (Nat.le_of_ble_eq_true rfl) (fun Γ hC hQ hN => ?_)
  have hC : COK G Γ "Bandplan$Selling" cX8_isFair 2 2 51 0 0 [] := hC
  unfold wp_X8_isFair at hq
  show V G Γ 2 0 0 h0 0 [(0, .ref p0)] []
  refine V_iconst (v := 0) hC dX8_isFair_0 (by decide) ?_
  refine V_istore_n (L' := [(0, .ref p0), (1, .int 0)]) hC dX8_isFair_1 rfl (by decide) [1, 0] rfl ?_
  have hq := hq (fun (x1_1 : Int32) => V G Γ 2 0 0 h0 2 [(0, .ref p0), (1, .int x1_1)] []) (by
    intro x1_1 hq
    show V G Γ 2 0 0 h0 2 [(0, .ref p0), (1, .int x1_1)] []
    refine V_iload_n hC dX8_isFair_2 1 rfl ?_
    refine V_bipush (v := 8) hC dX8_isFair_3 (by decide) ?_
    refine V_icmp_ge (tgt := 47) hC dX8_isFair_5 (by decide) (fun hc => ?_) (fun hc => ?_)
    · have hq := hq.1 hc
      refine V_iconst (v := 1) hC dX8_isFair_47 (by decide) ?_
      exact V_iret hC hQ rfl rfl ⟨by decide, by decide⟩ dX8_isFair_48 ⟨_, rfl, rfl, hq⟩
    · have hq := hq.2 hc
      refine V_aload_n hC dX8_isFair_8 0 rfl ?_
      refine U_getR hC fl_X8_14 dX8_isFair_9 hq (fun v2 hq => ?_)
      refine V_iload_n hC dX8_isFair_12 1 rfl ?_
      obtain ⟨hz, hq⟩ := hq
      refine clV_X7_at hG hC sv_X8_71 ⟨by decide, by decide⟩ (Nat.le_of_ble_eq_true rfl) ⟨by decide, by decide⟩ dX8_isFair_13 hz hq (fun r3 hq => ?_)
      show V G Γ 2 0 0 h0 16 [(0, .ref p0), (1, .int x1_1)] [.int r3]
      refine V_iconst (v := (-1)) hC dX8_isFair_16 (by decide) ?_
      have hq := hq (V G Γ 2 0 0 h0 41 [(0, .ref p0), (1, .int x1_1)] []) (by
        intro hq
        show V G Γ 2 0 0 h0 41 [(0, .ref p0), (1, .int x1_1)] []
        refine V_iinc (j := 1) (v := (x1_1 + 1)) (L' := [(0, .ref p0), (1, .int (x1_1 + 1))]) hC dX8_isFair_41 rfl rfl (by decide) [1, 0] rfl ?_
        refine V_goto (tgt := 2) hC dX8_isFair_44 (by decide) ?_
        exact hq)
      refine V_icmp_eq (tgt := 41) hC dX8_isFair_17 (by decide) (fun hc => ?_) (fun hc => ?_)
      · have hq := hq.1 hc
        exact hq
      · have hq := hq.2 hc
        refine V_aload_n hC dX8_isFair_20 0 rfl ?_
        refine U_getR hC fl_X8_14 dX8_isFair_21 hq (fun v4 hq => ?_)
        refine V_iload_n hC dX8_isFair_24 1 rfl ?_
        obtain ⟨hz, hq⟩ := hq
        refine clV_X7_at hG hC sv_X8_71 ⟨by decide, by decide⟩ (Nat.le_of_ble_eq_true rfl) ⟨by decide, by decide⟩ dX8_isFair_25 hz hq (fun r5 hq => ?_)
        show V G Γ 2 0 0 h0 28 [(0, .ref p0), (1, .int x1_1)] [.int r5]
        refine V_aload_n hC dX8_isFair_28 0 rfl ?_
        refine U_getR hC fl_X8_20 dX8_isFair_29 hq (fun v6 hq => ?_)
        refine V_iload_n hC dX8_isFair_32 1 rfl ?_
        obtain ⟨hz, hq⟩ := hq
        refine clV_X7_at hG hC sv_X8_71 ⟨by decide, by decide⟩ (Nat.le_of_ble_eq_true rfl) ⟨by decide, by decide⟩ dX8_isFair_33 hz hq (fun r7 hq => ?_)
        show V G Γ 2 0 0 h0 36 [(0, .ref p0), (1, .int x1_1)] [.int r7, .int r5]
        refine V_icmp_ge (tgt := 41) hC dX8_isFair_36 (by decide) (fun hc => ?_) (fun hc => ?_)
        · have hq := hq.1 hc
          exact hq
        · have hq := hq.2 hc
          refine V_iconst (v := 0) hC dX8_isFair_39 (by decide) ?_
          exact V_iret hC hQ rfl rfl ⟨by decide, by decide⟩ dX8_isFair_40 ⟨_, rfl, rfl, hq⟩)
  exact hq
theorem clV_X8_isFair {G : Gx} (hG : GOK G) {Γ : Cx} {own : String} {cc : ByteArray} {nL fr lo mc ms cells slots pc : Nat} {hh : List (Nat × Nat × Nat × Nat)} {h : hw} {L : List (Nat × Value)} {rest : List Value} (hC : COK G Γ own cc nL fr lo mc ms hh) {idx : Nat} (hs : SV own idx yX8_isFair cX8_isFair 2 (some .boolean) 0) {p0 : Nat} (hR : 2 + 1 ≤ fr ∧ 8 + (2 + 11) + 51 ≤ lo) (hw8 : (rest.map fun v => v.category).sum ≤ 8) (hcs : cells + 0 ≤ mc ∧ slots + 0 ≤ ms) (hdg : decode cc pc = .ok (.invokevirtual idx, 3)) (ho : isO h p0 8) {post : Int32 → Prop} (hq : wp_X8_isFair G p0 h post) (kk : ∀ (r : Int32) , post r → V G Γ nL (cells + 0) (slots + 0) h (pc + 3) L (.int r :: rest)) : V G Γ nL cells slots h pc L (.ref p0 :: rest) :=
  V_callV (As := []) (r9 := (RX8, TX8, 6)) hC (ct_X8_isFair hG p0 h post hq) hs ho rfl rfl rfl hR hw8 hcs hdg (fun E h1 z => z.elim) (fun v h1 z => by obtain ⟨r, rfl, rfl, hz⟩ := z; exact kk r hz)
set_option maxRecDepth 100000 in
set_option maxHeartbeats 4000000 in
theorem ct_X9_init {G : Gx} (hG : GOK G) (p0 : Nat) (p1 : Int32) (p2 : Int32) (p3 : Int32) (h0 : hw) (post : hw → Prop) (hq : wp_X9_init G p0 p1 p2 p3 h0 post) : CT G yX9_init cX9_init 4 none 2 30 0 0 [.ref p0, .int p1, .int p2, .int p3] h0 (fun v h1 => v = none ∧ post h1) (fun E h1 => False) := by
  refine CT_of hG (by decide) (Nat.le_of_ble_eq_true rfl) (fun Γ hC hQ hN => ?_)
  have hC : COK G Γ "Bandplan$Site" cX9_init 4 2 30 0 0 [] := hC
  have hin := HIN hN rfl
  unfold wp_X9_init at hq
  show V G Γ 4 0 0 h0 0 [(0, .ref p0), (1, .int p1), (2, .int p2), (3, .int p3)] []
  refine V_aload_n hC dX9_init_0 0 rfl ?_
  refine V_objInit hC so_X9_1 (by decide) (Nat.le_of_ble_eq_true rfl) dX9_init_1 ?_
  refine V_aload_n hC dX9_init_4 0 rfl ?_
  refine V_iload_n hC dX9_init_5 1 rfl ?_
  refine U_putF hC fl_X9_7 fin_X9_0 hin rfl rfl dX9_init_6 hq (fun h1 hq => ?_)
  refine V_aload_n hC dX9_init_9 0 rfl ?_
  refine V_iload_n hC dX9_init_10 2 rfl ?_
  refine U_putF hC fl_X9_13 fin_X9_1 hin rfl rfl dX9_init_11 hq (fun h2 hq => ?_)
  refine V_aload_n hC dX9_init_14 0 rfl ?_
  refine V_iload_n hC dX9_init_15 3 rfl ?_
  refine U_putF hC fl_X9_16 fin_X9_2 hin rfl rfl dX9_init_16 hq (fun h3 hq => ?_)
  exact V_vret hC hQ ⟨by decide, by decide⟩ dX9_init_19 ⟨rfl, hq⟩
set_option maxRecDepth 100000 in
set_option maxHeartbeats 4000000 in
theorem ct_X10_init {G : Gx} (hG : GOK G) (p0 : Nat) (p1 : Int32) (p2 : Int32) (p3 : Int32) (p4 : Int32) (p5 : Int32) (h0 : hw) (post : hw → Prop) (hq : wp_X10_init G p0 p1 p2 p3 p4 p5 h0 post) : CT G yX10_init cX10_init 6 none 2 30 0 0 [.ref p0, .int p1, .int p2, .int p3, .int p4, .int p5] h0 (fun v h1 => v = none ∧ post h1) (fun E h1 => False) := by
  refine CT_of hG (by decide) (Nat.le_of_ble_eq_true rfl) (fun Γ hC hQ hN => ?_)
  have hC : COK G Γ "Bandplan$Station" cX10_init 6 2 30 0 0 [] := hC
  have hin := HIN hN rfl
  unfold wp_X10_init at hq
  show V G Γ 6 0 0 h0 0 [(0, .ref p0), (1, .int p1), (2, .int p2), (3, .int p3), (4, .int p4), (5, .int p5)] []
  refine V_aload_n hC dX10_init_0 0 rfl ?_
  refine V_objInit hC so_X10_1 (by decide) (Nat.le_of_ble_eq_true rfl) dX10_init_1 ?_
  refine V_aload_n hC dX10_init_4 0 rfl ?_
  refine V_iload_n hC dX10_init_5 1 rfl ?_
  refine U_putF hC fl_X10_7 fin_X10_0 hin rfl rfl dX10_init_6 hq (fun h1 hq => ?_)
  refine V_aload_n hC dX10_init_9 0 rfl ?_
  refine V_iload_n hC dX10_init_10 2 rfl ?_
  refine U_putF hC fl_X10_13 fin_X10_1 hin rfl rfl dX10_init_11 hq (fun h2 hq => ?_)
  refine V_aload_n hC dX10_init_14 0 rfl ?_
  refine V_iload_n hC dX10_init_15 3 rfl ?_
  refine U_putF hC fl_X10_16 fin_X10_2 hin rfl rfl dX10_init_16 hq (fun h3 hq => ?_)
  refine V_aload_n hC dX10_init_19 0 rfl ?_
  refine V_iload hC dX10_init_20 4 rfl ?_
  refine U_putF hC fl_X10_19 fin_X10_3 hin rfl rfl dX10_init_22 hq (fun h4 hq => ?_)
  refine V_aload_n hC dX10_init_25 0 rfl ?_
  refine V_iload hC dX10_init_26 5 rfl ?_
  obtain ⟨hz, hq⟩ := hq
  refine U_putF hC fl_X10_22 fin_X10_4 hin (nar_b hz) (fit_b hz) dX10_init_28 hq (fun h5 hq => ?_)
  exact V_vret hC hQ ⟨by decide, by decide⟩ dX10_init_31 ⟨rfl, hq⟩
set_option maxRecDepth 100000 in
set_option maxHeartbeats 4000000 in
theorem ct_X11_needCell {G : Gx} (hG : GOK G) (p0 : Nat) (p1 : Int32) (p2 : Int32) (h0 : hw) (post : Prop) (xp : String → Prop) (hq : wp_X11_needCell G p0 p1 p2 h0 post xp) : CT G yX11_needCell cX11_needCell 3 none 6 90 1 6 [.ref p0, .int p1, .int p2] h0 (fun v h1 => v = none ∧ h1 = h0 ∧ post) (fun E h1 => h1 = h0 ∧ xp E) := by
  refine CT_of hG (by decide) (Nat.le_of_ble_eq_true rfl) (fun Γ hC hQ hN => ?_)
  have hC : COK G Γ "Bandplan" cX11_needCell 3 6 90 1 6 [] := hC
  unfold wp_X11_needCell at hq
  show V G Γ 3 0 0 h0 0 [(0, .ref p0), (1, .int p1), (2, .int p2)] []
  refine V_iload_n hC dX11_needCell_0 1 rfl ?_
  have hq := hq (V G Γ 3 0 0 h0 20 [] []) (by
    intro hq
    show V G Γ 3 0 0 h0 20 [] []
    exact V_throwSW hC hQ hG th_376_378 ⟨by decide, by decide⟩ ⟨by decide, by decide⟩ dX11_needCell_20 dX11_needCell_23 dX11_needCell_24 dX11_needCell_27 dX11_needCell_30 ⟨rfl, hq⟩)
  refine V_if_lt (tgt := 20) hC dX11_needCell_1 (by decide) (fun hc => ?_) (fun hc => ?_)
  · have hq := hq.1 hc
    refine V_sub [] rfl ?_
    exact hq
  · have hq := hq.2 hc
    refine V_iload_n hC dX11_needCell_4 1 rfl ?_
    refine V_bipush (v := 20) hC dX11_needCell_5 (by decide) ?_
    refine V_icmp_ge (tgt := 20) hC dX11_needCell_7 (by decide) (fun hc => ?_) (fun hc => ?_)
    · have hq := hq.1 hc
      refine V_sub [] rfl ?_
      exact hq
    · have hq := hq.2 hc
      refine V_iload_n hC dX11_needCell_10 2 rfl ?_
      refine V_if_lt (tgt := 20) hC dX11_needCell_11 (by decide) (fun hc => ?_) (fun hc => ?_)
      · have hq := hq.1 hc
        refine V_sub [] rfl ?_
        exact hq
      · have hq := hq.2 hc
        refine V_iload_n hC dX11_needCell_14 2 rfl ?_
        refine V_bipush (v := 20) hC dX11_needCell_15 (by decide) ?_
        refine V_icmp_lt (tgt := 31) hC dX11_needCell_17 (by decide) (fun hc => ?_) (fun hc => ?_)
        · have hq := hq.1 hc
          exact V_vret hC hQ ⟨by decide, by decide⟩ dX11_needCell_31 ⟨rfl, rfl, hq⟩
        · have hq := hq.2 hc
          refine V_sub [] rfl ?_
          exact hq
theorem clV_X11_needCell {G : Gx} (hG : GOK G) {Γ : Cx} {own : String} {cc : ByteArray} {nL fr lo mc ms cells slots pc : Nat} {hh : List (Nat × Nat × Nat × Nat)} {h : hw} {L : List (Nat × Value)} {rest : List Value} (hC : COK G Γ own cc nL fr lo mc ms hh) {idx : Nat} (hs : SV own idx yX11_needCell cX11_needCell 3 none 2) {p0 : Nat} {p1 : Int32} {p2 : Int32} (hR : 6 + 1 ≤ fr ∧ 8 + (3 + 11) + 90 ≤ lo) (hw8 : (rest.map fun v => v.category).sum ≤ 8) (hcs : cells + 1 ≤ mc ∧ slots + 6 ≤ ms) (hdg : decode cc pc = .ok (.invokevirtual idx, 3)) (ho : isO h p0 11) {post : Prop} {xp : String → Prop} (hq : wp_X11_needCell G p0 p1 p2 h post xp) (kx : ∀ E : String, xp E → VX G Γ nL (cells + 1) (slots + 6) h pc L rest E) (kk : post → V G Γ nL (cells + 1) (slots + 6) h (pc + 3) L rest) : V G Γ nL cells slots h pc L (.int p2 :: .int p1 :: .ref p0 :: rest) :=
  V_callV (As := [.int p1, .int p2]) (r9 := (RX11, TX11, 8)) hC (ct_X11_needCell hG p0 p1 p2 h post xp hq) hs ho rfl rfl rfl hR hw8 hcs hdg (fun E h1 z => by obtain ⟨rfl, hz⟩ := z; exact kx E hz) (fun v h1 z => by obtain ⟨rfl, rfl, hz⟩ := z; exact kk hz)
set_option maxRecDepth 100000 in
set_option maxHeartbeats 4000000 in
theorem ct_X11_needRange {G : Gx} (hG : GOK G) (p0 : Nat) (p1 : Int32) (p2 : Int32) (p3 : Int32) (h0 : hw) (post : Prop) (xp : String → Prop) (hq : wp_X11_needRange G p0 p1 p2 p3 h0 post xp) : CT G yX11_needRange cX11_needRange 4 none 6 90 1 6 [.ref p0, .int p1, .int p2, .int p3] h0 (fun v h1 => v = none ∧ h1 = h0 ∧ post) (fun E h1 => h1 = h0 ∧ xp E) := by
  refine CT_of hG (by decide) (Nat.le_of_ble_eq_true rfl) (fun Γ hC hQ hN => ?_)
  have hC : COK G Γ "Bandplan" cX11_needRange 4 6 90 1 6 [] := hC
  unfold wp_X11_needRange at hq
  show V G Γ 4 0 0 h0 0 [(0, .ref p0), (1, .int p1), (2, .int p2), (3, .int p3)] []
  refine V_iload_n hC dX11_needRange_0 1 rfl ?_
  refine V_iload_n hC dX11_needRange_1 2 rfl ?_
  have hq := hq (V G Γ 4 0 0 h0 10 [] []) (by
    intro hq
    show V G Γ 4 0 0 h0 10 [] []
    exact V_throwSW hC hQ hG th_120_385 ⟨by decide, by decide⟩ ⟨by decide, by decide⟩ dX11_needRange_10 dX11_needRange_13 dX11_needRange_14 dX11_needRange_17 dX11_needRange_20 ⟨rfl, hq⟩)
  refine V_icmp_lt (tgt := 10) hC dX11_needRange_2 (by decide) (fun hc => ?_) (fun hc => ?_)
  · have hq := hq.1 hc
    refine V_sub [] rfl ?_
    exact hq
  · have hq := hq.2 hc
    refine V_iload_n hC dX11_needRange_5 1 rfl ?_
    refine V_iload_n hC dX11_needRange_6 3 rfl ?_
    refine V_icmp_le (tgt := 21) hC dX11_needRange_7 (by decide) (fun hc => ?_) (fun hc => ?_)
    · have hq := hq.1 hc
      exact V_vret hC hQ ⟨by decide, by decide⟩ dX11_needRange_21 ⟨rfl, rfl, hq⟩
    · have hq := hq.2 hc
      refine V_sub [] rfl ?_
      exact hq
theorem clV_X11_needRange {G : Gx} (hG : GOK G) {Γ : Cx} {own : String} {cc : ByteArray} {nL fr lo mc ms cells slots pc : Nat} {hh : List (Nat × Nat × Nat × Nat)} {h : hw} {L : List (Nat × Value)} {rest : List Value} (hC : COK G Γ own cc nL fr lo mc ms hh) {idx : Nat} (hs : SV own idx yX11_needRange cX11_needRange 4 none 3) {p0 : Nat} {p1 : Int32} {p2 : Int32} {p3 : Int32} (hR : 6 + 1 ≤ fr ∧ 8 + (4 + 11) + 90 ≤ lo) (hw8 : (rest.map fun v => v.category).sum ≤ 8) (hcs : cells + 1 ≤ mc ∧ slots + 6 ≤ ms) (hdg : decode cc pc = .ok (.invokevirtual idx, 3)) (ho : isO h p0 11) {post : Prop} {xp : String → Prop} (hq : wp_X11_needRange G p0 p1 p2 p3 h post xp) (kx : ∀ E : String, xp E → VX G Γ nL (cells + 1) (slots + 6) h pc L rest E) (kk : post → V G Γ nL (cells + 1) (slots + 6) h (pc + 3) L rest) : V G Γ nL cells slots h pc L (.int p3 :: .int p2 :: .int p1 :: .ref p0 :: rest) :=
  V_callV (As := [.int p1, .int p2, .int p3]) (r9 := (RX11, TX11, 8)) hC (ct_X11_needRange hG p0 p1 p2 p3 h post xp hq) hs ho rfl rfl rfl hR hw8 hcs hdg (fun E h1 z => by obtain ⟨rfl, hz⟩ := z; exact kx E hz) (fun v h1 z => by obtain ⟨rfl, rfl, hz⟩ := z; exact kk hz)
set_option maxRecDepth 100000 in
set_option maxHeartbeats 4000000 in
theorem ct_X11_needSilence {G : Gx} (hG : GOK G) (p0 : Nat) (h0 : hw) (post : Prop) (xp : String → Prop) (hq : wp_X11_needSilence G p0 h0 post xp) : CT G yX11_needSilence cX11_needSilence 1 none 6 90 1 6 [.ref p0] h0 (fun v h1 => v = none ∧ h1 = h0 ∧ post) (fun E h1 => h1 = h0 ∧ xp E) := by
  refine CT_of hG (by decide) (Nat.le_of_ble_eq_true rfl) (fun Γ hC hQ hN => ?_)
  have hC : COK G Γ "Bandplan" cX11_needSilence 1 6 90 1 6 [] := hC
  unfold wp_X11_needSilence at hq
  show V G Γ 1 0 0 h0 0 [(0, .ref p0)] []
  refine V_aload_n hC dX11_needSilence_0 0 rfl ?_
  refine U_getR hC fl_X11_19 dX11_needSilence_1 hq (fun v1 hq => ?_)
  obtain ⟨hz, hq⟩ := hq
  refine clV_X6_onesOn hG hC sv_X11_274 ⟨by decide, by decide⟩ (Nat.le_of_ble_eq_true rfl) ⟨by decide, by decide⟩ dX11_needSilence_4 hz hq (fun r2 hq => ?_)
  show V G Γ 1 0 0 h0 7 [(0, .ref p0)] [.int r2]
  refine V_if_eq (tgt := 21) hC dX11_needSilence_7 (by decide) (fun hc => ?_) (fun hc => ?_)
  · have hq := hq.1 hc
    exact V_vret hC hQ ⟨by decide, by decide⟩ dX11_needSilence_21 ⟨rfl, rfl, hq⟩
  · have hq := hq.2 hc
    exact V_throwSW hC hQ hG th_97_387 ⟨by decide, by decide⟩ ⟨by decide, by decide⟩ dX11_needSilence_10 dX11_needSilence_13 dX11_needSilence_14 dX11_needSilence_17 dX11_needSilence_20 ⟨rfl, hq⟩
theorem clV_X11_needSilence {G : Gx} (hG : GOK G) {Γ : Cx} {own : String} {cc : ByteArray} {nL fr lo mc ms cells slots pc : Nat} {hh : List (Nat × Nat × Nat × Nat)} {h : hw} {L : List (Nat × Value)} {rest : List Value} (hC : COK G Γ own cc nL fr lo mc ms hh) {idx : Nat} (hs : SV own idx yX11_needSilence cX11_needSilence 1 none 0) {p0 : Nat} (hR : 6 + 1 ≤ fr ∧ 8 + (1 + 11) + 90 ≤ lo) (hw8 : (rest.map fun v => v.category).sum ≤ 8) (hcs : cells + 1 ≤ mc ∧ slots + 6 ≤ ms) (hdg : decode cc pc = .ok (.invokevirtual idx, 3)) (ho : isO h p0 11) {post : Prop} {xp : String → Prop} (hq : wp_X11_needSilence G p0 h post xp) (kx : ∀ E : String, xp E → VX G Γ nL (cells + 1) (slots + 6) h pc L rest E) (kk : post → V G Γ nL (cells + 1) (slots + 6) h (pc + 3) L rest) : V G Γ nL cells slots h pc L (.ref p0 :: rest) :=
  V_callV (As := []) (r9 := (RX11, TX11, 8)) hC (ct_X11_needSilence hG p0 h post xp hq) hs ho rfl rfl rfl hR hw8 hcs hdg (fun E h1 z => by obtain ⟨rfl, hz⟩ := z; exact kx E hz) (fun v h1 z => by obtain ⟨rfl, rfl, hz⟩ := z; exact kk hz)
set_option maxRecDepth 100000 in
set_option maxHeartbeats 4000000 in
theorem ct_X11_setGround {G : Gx} (hG : GOK G) (p0 : Nat) (p1 : Int32) (p2 : Int32) (p3 : Int32) (h0 : hw) (post : Int32 → hw → Prop) (xp : String → hw → Prop) (hq : wp_X11_setGround G p0 p1 p2 p3 h0 post xp) : CT G yX11_setGround cX11_setGround 4 (some .int) 7 177 3 18 [.ref p0, .int p1, .int p2, .int p3] h0 (fun v h1 => ∃ r : Int32, v = some (.int r) ∧ post r h1) (fun E h1 => xp E h1) := by
  refine CT_of hG (by decide) (Nat.le_of_ble_eq_true rfl) (fun Γ hC hQ hN => ?_)
  have hC : COK G Γ "Bandplan" cX11_setGround 4 7 177 3 18 [] := hC
  unfold wp_X11_setGround at hq
  show V G Γ 4 0 0 h0 0 [(0, .ref p0), (1, .int p1), (2, .int p2), (3, .int p3)] []
  refine V_aload_n hC dX11_setGround_0 0 rfl ?_
  refine V_iload_n hC dX11_setGround_1 1 rfl ?_
  refine V_iload_n hC dX11_setGround_2 2 rfl ?_
  obtain ⟨hz, hq⟩ := hq
  refine clV_X11_needCell hG hC sv_X11_67 ⟨by decide, by decide⟩ (Nat.le_of_ble_eq_true rfl) ⟨by decide, by decide⟩ dX11_setGround_3 hz hq (fun E hx => VX_out hC hQ ⟨by decide, by decide⟩ hx) (fun hq => ?_)
  show V G Γ 4 1 6 h0 6 [(0, .ref p0), (1, .int p1), (2, .int p2), (3, .int p3)] []
  refine V_aload_n hC dX11_setGround_6 0 rfl ?_
  refine V_iload_n hC dX11_setGround_7 3 rfl ?_
  refine V_iconst (v := 0) hC dX11_setGround_8 (by decide) ?_
  refine V_bipush (v := 99) hC dX11_setGround_9 (by decide) ?_
  obtain ⟨hz, hq⟩ := hq
  refine clV_X11_needRange hG hC sv_X11_70 ⟨by decide, by decide⟩ (Nat.le_of_ble_eq_true rfl) ⟨by decide, by decide⟩ dX11_setGround_11 hz hq (fun E hx => VX_out hC hQ ⟨by decide, by decide⟩ hx) (fun hq => ?_)
  show V G Γ 4 2 12 h0 14 [(0, .ref p0), (1, .int p1), (2, .int p2), (3, .int p3)] []
  refine V_aload_n hC dX11_setGround_14 0 rfl ?_
  obtain ⟨hz, hq⟩ := hq
  refine clV_X11_needSilence hG hC sv_X11_74 ⟨by decide, by decide⟩ (Nat.le_of_ble_eq_true rfl) ⟨by decide, by decide⟩ dX11_setGround_15 hz hq (fun E hx => VX_out hC hQ ⟨by decide, by decide⟩ hx) (fun hq => ?_)
  show V G Γ 4 3 18 h0 18 [(0, .ref p0), (1, .int p1), (2, .int p2), (3, .int p3)] []
  refine V_aload_n hC dX11_setGround_18 0 rfl ?_
  refine U_getR hC fl_X11_10 dX11_setGround_19 hq (fun v1 hq => ?_)
  refine U_getR hC fl_X11_77 dX11_setGround_22 hq (fun v2 hq => ?_)
  refine V_iload_n hC dX11_setGround_25 1 rfl ?_
  refine V_iload_n hC dX11_setGround_26 2 rfl ?_
  refine V_iload_n hC dX11_setGround_27 3 rfl ?_
  obtain ⟨hz, hq⟩ := hq
  refine clV_X3_changeGround hG hC sv_X11_81 ⟨by decide, by decide⟩ (Nat.le_of_ble_eq_true rfl) ⟨by decide, by decide⟩ dX11_setGround_28 hz hq (fun r3 h4 hq => ?_)
  show V G Γ 4 3 18 h4 31 [(0, .ref p0), (1, .int p1), (2, .int p2), (3, .int p3)] [.int r3]
  exact V_iret hC hQ rfl rfl ⟨by decide, by decide⟩ dX11_setGround_31 ⟨_, rfl, hq⟩
set_option maxRecDepth 100000 in
set_option maxHeartbeats 4000000 in
theorem ct_X11_needSite {G : Gx} (hG : GOK G) (p0 : Nat) (p1 : Int32) (h0 : hw) (post : Prop) (xp : String → Prop) (hq : wp_X11_needSite G p0 p1 h0 post xp) : CT G yX11_needSite cX11_needSite 2 none 6 90 1 6 [.ref p0, .int p1] h0 (fun v h1 => v = none ∧ h1 = h0 ∧ post) (fun E h1 => h1 = h0 ∧ xp E) := by
  refine CT_of hG (by decide) (Nat.le_of_ble_eq_true rfl) (fun Γ hC hQ hN => ?_)
  have hC : COK G Γ "Bandplan" cX11_needSite 2 6 90 1 6 [] := hC
  unfold wp_X11_needSite at hq
  show V G Γ 2 0 0 h0 0 [(0, .ref p0), (1, .int p1)] []
  refine V_iload_n hC dX11_needSite_0 1 rfl ?_
  have hq := hq (V G Γ 2 0 0 h0 21 [] []) (by
    intro hq
    show V G Γ 2 0 0 h0 21 [] []
    exact V_throwSW hC hQ hG th_376_381 ⟨by decide, by decide⟩ ⟨by decide, by decide⟩ dX11_needSite_21 dX11_needSite_24 dX11_needSite_25 dX11_needSite_28 dX11_needSite_31 ⟨rfl, hq⟩)
  refine V_if_lt (tgt := 21) hC dX11_needSite_1 (by decide) (fun hc => ?_) (fun hc => ?_)
  · have hq := hq.1 hc
    refine V_sub [] rfl ?_
    exact hq
  · have hq := hq.2 hc
    refine V_iload_n hC dX11_needSite_4 1 rfl ?_
    refine V_aload_n hC dX11_needSite_5 0 rfl ?_
    refine U_getR hC fl_X11_10 dX11_needSite_6 hq (fun v1 hq => ?_)
    refine U_getR hC fl_X11_77 dX11_needSite_9 hq (fun v2 hq => ?_)
    refine U_getR hC fl_X11_87 dX11_needSite_12 hq (fun v3 hq => ?_)
    obtain ⟨hz, hq⟩ := hq
    refine clV_Jx4a65c_size_8abf5 hG hC sv_X11_91 ⟨by decide, by decide⟩ (Nat.le_of_ble_eq_true rfl) ⟨by decide, by decide⟩ dX11_needSite_15 hz hq (fun r4 hq => ?_)
    show V G Γ 2 0 0 h0 18 [(0, .ref p0), (1, .int p1)] [.int r4, .int p1]
    refine V_icmp_lt (tgt := 32) hC dX11_needSite_18 (by decide) (fun hc => ?_) (fun hc => ?_)
    · have hq := hq.1 hc
      exact V_vret hC hQ ⟨by decide, by decide⟩ dX11_needSite_32 ⟨rfl, rfl, hq⟩
    · have hq := hq.2 hc
      refine V_sub [] rfl ?_
      exact hq
theorem clV_X11_needSite {G : Gx} (hG : GOK G) {Γ : Cx} {own : String} {cc : ByteArray} {nL fr lo mc ms cells slots pc : Nat} {hh : List (Nat × Nat × Nat × Nat)} {h : hw} {L : List (Nat × Value)} {rest : List Value} (hC : COK G Γ own cc nL fr lo mc ms hh) {idx : Nat} (hs : SV own idx yX11_needSite cX11_needSite 2 none 1) {p0 : Nat} {p1 : Int32} (hR : 6 + 1 ≤ fr ∧ 8 + (2 + 11) + 90 ≤ lo) (hw8 : (rest.map fun v => v.category).sum ≤ 8) (hcs : cells + 1 ≤ mc ∧ slots + 6 ≤ ms) (hdg : decode cc pc = .ok (.invokevirtual idx, 3)) (ho : isO h p0 11) {post : Prop} {xp : String → Prop} (hq : wp_X11_needSite G p0 p1 h post xp) (kx : ∀ E : String, xp E → VX G Γ nL (cells + 1) (slots + 6) h pc L rest E) (kk : post → V G Γ nL (cells + 1) (slots + 6) h (pc + 3) L rest) : V G Γ nL cells slots h pc L (.int p1 :: .ref p0 :: rest) :=
  V_callV (As := [.int p1]) (r9 := (RX11, TX11, 8)) hC (ct_X11_needSite hG p0 p1 h post xp hq) hs ho rfl rfl rfl hR hw8 hcs hdg (fun E h1 z => by obtain ⟨rfl, hz⟩ := z; exact kx E hz) (fun v h1 z => by obtain ⟨rfl, rfl, hz⟩ := z; exact kk hz)
set_option maxRecDepth 100000 in
set_option maxHeartbeats 4000000 in
theorem ct_X11_loss {G : Gx} (hG : GOK G) (p0 : Nat) (p1 : Int32) (p2 : Int32) (h0 : hw) (post : Int32 → Prop) (xp : String → Prop) (hq : wp_X11_loss G p0 p1 p2 h0 post xp) : CT G yX11_loss cX11_loss 3 (some .int) 7 111 2 12 [.ref p0, .int p1, .int p2] h0 (fun v h1 => ∃ r : Int32, v = some (.int r) ∧ h1 = h0 ∧ post r) (fun E h1 => h1 = h0 ∧ xp E) := by
  refine CT_of hG (by decide) (Nat.le_of_ble_eq_true rfl) (fun Γ hC hQ hN => ?_)
  have hC : COK G Γ "Bandplan" cX11_loss 3 7 111 2 12 [] := hC
  unfold wp_X11_loss at hq
  show V G Γ 3 0 0 h0 0 [(0, .ref p0), (1, .int p1), (2, .int p2)] []
  refine V_aload_n hC dX11_loss_0 0 rfl ?_
  refine V_iload_n hC dX11_loss_1 1 rfl ?_
  obtain ⟨hz, hq⟩ := hq
  refine clV_X11_needSite hG hC sv_X11_112 ⟨by decide, by decide⟩ (Nat.le_of_ble_eq_true rfl) ⟨by decide, by decide⟩ dX11_loss_2 hz hq (fun E hx => VX_out hC hQ ⟨by decide, by decide⟩ ⟨rfl, hx⟩) (fun hq => ?_)
  show V G Γ 3 1 6 h0 5 [(0, .ref p0), (1, .int p1), (2, .int p2)] []
  refine V_aload_n hC dX11_loss_5 0 rfl ?_
  refine V_iload_n hC dX11_loss_6 2 rfl ?_
  obtain ⟨hz, hq⟩ := hq
  refine clV_X11_needSite hG hC sv_X11_112 ⟨by decide, by decide⟩ (Nat.le_of_ble_eq_true rfl) ⟨by decide, by decide⟩ dX11_loss_7 hz hq (fun E hx => VX_out hC hQ ⟨by decide, by decide⟩ ⟨rfl, hx⟩) (fun hq => ?_)
  show V G Γ 3 2 12 h0 10 [(0, .ref p0), (1, .int p1), (2, .int p2)] []
  refine V_aload_n hC dX11_loss_10 0 rfl ?_
  refine U_getR hC fl_X11_10 dX11_loss_11 hq (fun v1 hq => ?_)
  refine U_getR hC fl_X11_77 dX11_loss_14 hq (fun v2 hq => ?_)
  refine V_iload_n hC dX11_loss_17 1 rfl ?_
  refine V_iload_n hC dX11_loss_18 2 rfl ?_
  obtain ⟨hz, hq⟩ := hq
  refine clV_X3_lossBetween hG hC sv_X11_116 ⟨by decide, by decide⟩ (Nat.le_of_ble_eq_true rfl) ⟨by decide, by decide⟩ dX11_loss_19 hz hq (fun r3 hq => ?_)
  show V G Γ 3 2 12 h0 22 [(0, .ref p0), (1, .int p1), (2, .int p2)] [.int r3]
  exact V_iret hC hQ rfl rfl ⟨by decide, by decide⟩ dX11_loss_22 ⟨_, rfl, rfl, hq⟩
set_option maxRecDepth 100000 in
set_option maxHeartbeats 4000000 in
theorem ct_X11_setRatio {G : Gx} (hG : GOK G) (p0 : Nat) (p1 : Int32) (h0 : hw) (post : Int32 → hw → Prop) (xp : String → hw → Prop) (hq : wp_X11_setRatio G p0 p1 h0 post xp) : CT G yX11_setRatio cX11_setRatio 3 (some .int) 7 113 2 12 [.ref p0, .int p1] h0 (fun v h1 => ∃ r : Int32, v = some (.int r) ∧ post r h1) (fun E h1 => xp E h1) := by
  refine CT_of hG (by decide) (Nat.le_of_ble_eq_true rfl) (fun Γ hC hQ hN => ?_)
  have hC : COK G Γ "Bandplan" cX11_setRatio 3 7 113 2 12 [] := hC
  unfold wp_X11_setRatio at hq
  show V G Γ 3 0 0 h0 0 [(0, .ref p0), (1, .int p1)] []
  refine V_aload_n hC dX11_setRatio_0 0 rfl ?_
  refine V_iload_n hC dX11_setRatio_1 1 rfl ?_
  refine V_iconst (v := 0) hC dX11_setRatio_2 (by decide) ?_
  refine V_sipush (v := 500) hC dX11_setRatio_3 (by decide) ?_
  obtain ⟨hz, hq⟩ := hq
  refine clV_X11_needRange hG hC sv_X11_70 ⟨by decide, by decide⟩ (Nat.le_of_ble_eq_true rfl) ⟨by decide, by decide⟩ dX11_setRatio_6 hz hq (fun E hx => VX_out hC hQ ⟨by decide, by decide⟩ hx) (fun hq => ?_)
  show V G Γ 3 1 6 h0 9 [(0, .ref p0), (1, .int p1)] []
  refine V_aload_n hC dX11_setRatio_9 0 rfl ?_
  obtain ⟨hz, hq⟩ := hq
  refine clV_X11_needSilence hG hC sv_X11_74 ⟨by decide, by decide⟩ (Nat.le_of_ble_eq_true rfl) ⟨by decide, by decide⟩ dX11_setRatio_10 hz hq (fun E hx => VX_out hC hQ ⟨by decide, by decide⟩ hx) (fun hq => ?_)
  show V G Γ 3 2 12 h0 13 [(0, .ref p0), (1, .int p1)] []
  refine V_aload_n hC dX11_setRatio_13 0 rfl ?_
  refine U_getR hC fl_X11_10 dX11_setRatio_14 hq (fun v1 hq => ?_)
  refine U_getI hC fl_X11_139 dX11_setRatio_17 hq (fun v2 hq => ?_)
  refine V_istore_n (L' := [(0, .ref p0), (1, .int p1), (2, .int v2)]) hC dX11_setRatio_20 rfl (by decide) [1, 2, 0] rfl ?_
  refine V_aload_n hC dX11_setRatio_21 0 rfl ?_
  refine U_getR hC fl_X11_10 dX11_setRatio_22 hq (fun v3 hq => ?_)
  refine V_iload_n hC dX11_setRatio_25 1 rfl ?_
  refine U_putO hC fl_X11_139 fin_X0_2 rfl rfl dX11_setRatio_26 hq (fun h4 hq => ?_)
  refine V_iload_n hC dX11_setRatio_29 2 rfl ?_
  exact V_iret hC hQ rfl rfl ⟨by decide, by decide⟩ dX11_setRatio_30 ⟨_, rfl, hq⟩
set_option maxRecDepth 100000 in
set_option maxHeartbeats 4000000 in
theorem ct_X11_stationAt {G : Gx} (hG : GOK G) (p0 : Nat) (p1 : Int32) (h0 : hw) (post : Nat → Prop) (xp : String → Prop) (hq : wp_X11_stationAt G p0 p1 h0 post xp) : CT G yX11_stationAt cX11_stationAt 2 (some (.object "Bandplan$Station")) 6 94 1 6 [.ref p0, .int p1] h0 (fun v h1 => ∃ r : Nat, v = some (.ref r) ∧ h1 = h0 ∧ post r) (fun E h1 => h1 = h0 ∧ xp E) := by
  refine CT_of hG (by decide) (Nat.le_of_ble_eq_true rfl) (fun Γ hC hQ hN => ?_)
  have hC : COK G Γ "Bandplan" cX11_stationAt 2 6 94 1 6 [] := hC
  unfold wp_X11_stationAt at hq
  show V G Γ 2 0 0 h0 0 [(0, .ref p0), (1, .int p1)] []
  refine V_iload_n hC dX11_stationAt_0 1 rfl ?_
  have hq := hq (V G Γ 2 0 0 h0 18 [] []) (by
    intro hq
    show V G Γ 2 0 0 h0 18 [] []
    exact V_throwSW hC hQ hG th_376_389 ⟨by decide, by decide⟩ ⟨by decide, by decide⟩ dX11_stationAt_18 dX11_stationAt_21 dX11_stationAt_22 dX11_stationAt_25 dX11_stationAt_28 ⟨rfl, hq⟩)
  refine V_if_lt (tgt := 18) hC dX11_stationAt_1 (by decide) (fun hc => ?_) (fun hc => ?_)
  · have hq := hq.1 hc
    refine V_sub [] rfl ?_
    exact hq
  · have hq := hq.2 hc
    refine V_iload_n hC dX11_stationAt_4 1 rfl ?_
    refine V_aload_n hC dX11_stationAt_5 0 rfl ?_
    refine U_getR hC fl_X11_10 dX11_stationAt_6 hq (fun v1 hq => ?_)
    refine U_getR hC fl_X11_125 dX11_stationAt_9 hq (fun v2 hq => ?_)
    obtain ⟨hz, hq⟩ := hq
    refine clV_Jx4a65c_size_8abf5 hG hC sv_X11_91 ⟨by decide, by decide⟩ (Nat.le_of_ble_eq_true rfl) ⟨by decide, by decide⟩ dX11_stationAt_12 hz hq (fun r3 hq => ?_)
    show V G Γ 2 0 0 h0 15 [(0, .ref p0), (1, .int p1)] [.int r3, .int p1]
    refine V_icmp_lt (tgt := 29) hC dX11_stationAt_15 (by decide) (fun hc => ?_) (fun hc => ?_)
    · have hq := hq.1 hc
      refine V_aload_n hC dX11_stationAt_29 0 rfl ?_
      refine U_getR hC fl_X11_10 dX11_stationAt_30 hq (fun v4 hq => ?_)
      refine U_getR hC fl_X11_125 dX11_stationAt_33 hq (fun v5 hq => ?_)
      refine V_iload_n hC dX11_stationAt_36 1 rfl ?_
      obtain ⟨hz, hq⟩ := hq
      refine clV_Jx4a65c_get_915e3 hG hC sv_X11_361 ⟨by decide, by decide⟩ (Nat.le_of_ble_eq_true rfl) ⟨by decide, by decide⟩ dX11_stationAt_37 hz hq (fun r6 hq => ?_)
      show V G Γ 2 0 0 h0 40 [(0, .ref p0), (1, .int p1)] [.ref r6]
      obtain ⟨hz, hq⟩ := hq
      refine V_cast (r9 := (RX10, TX10, 6)) hC aw_3_228 rfl hz dX11_stationAt_40 ?_
      exact V_aret hC hQ rfl (by first | exact Or.inl ⟨_, rfl⟩ | exact Or.inr ⟨_, rfl⟩) ⟨by decide, by decide⟩ dX11_stationAt_43 ⟨_, rfl, rfl, hq⟩
    · have hq := hq.2 hc
      refine V_sub [] rfl ?_
      exact hq
theorem clV_X11_stationAt {G : Gx} (hG : GOK G) {Γ : Cx} {own : String} {cc : ByteArray} {nL fr lo mc ms cells slots pc : Nat} {hh : List (Nat × Nat × Nat × Nat)} {h : hw} {L : List (Nat × Value)} {rest : List Value} (hC : COK G Γ own cc nL fr lo mc ms hh) {idx : Nat} (hs : SV own idx yX11_stationAt cX11_stationAt 2 (some (.object "Bandplan$Station")) 1) {p0 : Nat} {p1 : Int32} (hR : 6 + 1 ≤ fr ∧ 8 + (2 + 11) + 94 ≤ lo) (hw8 : (rest.map fun v => v.category).sum ≤ 8) (hcs : cells + 1 ≤ mc ∧ slots + 6 ≤ ms) (hdg : decode cc pc = .ok (.invokevirtual idx, 3)) (ho : isO h p0 11) {post : Nat → Prop} {xp : String → Prop} (hq : wp_X11_stationAt G p0 p1 h post xp) (kx : ∀ E : String, xp E → VX G Γ nL (cells + 1) (slots + 6) h pc L rest E) (kk : ∀ (r : Nat) , post r → V G Γ nL (cells + 1) (slots + 6) h (pc + 3) L (.ref r :: rest)) : V G Γ nL cells slots h pc L (.int p1 :: .ref p0 :: rest) :=
  V_callV (As := [.int p1]) (r9 := (RX11, TX11, 8)) hC (ct_X11_stationAt hG p0 p1 h post xp hq) hs ho rfl rfl rfl hR hw8 hcs hdg (fun E h1 z => by obtain ⟨rfl, hz⟩ := z; exact kx E hz) (fun v h1 z => by obtain ⟨r, rfl, rfl, hz⟩ := z; exact kk r hz)
set_option maxRecDepth 100000 in
set_option maxHeartbeats 4000000 in
theorem ct_X11_level {G : Gx} (hG : GOK G) (p0 : Nat) (p1 : Int32) (h0 : hw) (post : Int32 → Prop) (xp : String → Prop) (hq : wp_X11_level G p0 p1 h0 post xp) : CT G yX11_level cX11_level 2 (some .int) 7 115 1 6 [.ref p0, .int p1] h0 (fun v h1 => ∃ r : Int32, v = some (.int r) ∧ h1 = h0 ∧ post r) (fun E h1 => h1 = h0 ∧ xp E) := by
  refine CT_of hG (by decide) (Nat.le_of_ble_eq_true rfl) (fun Γ hC hQ hN => ?_)
  have hC : COK G Γ "Bandplan" cX11_level 2 7 115 1 6 [] := hC
  unfold wp_X11_level at hq
  show V G Γ 2 0 0 h0 0 [(0, .ref p0), (1, .int p1)] []
  refine V_aload_n hC dX11_level_0 0 rfl ?_
  refine U_getR hC fl_X11_10 dX11_level_1 hq (fun v1 hq => ?_)
  refine V_aload_n hC dX11_level_4 0 rfl ?_
  refine V_iload_n hC dX11_level_5 1 rfl ?_
  obtain ⟨hz, hq⟩ := hq
  refine clV_X11_stationAt hG hC sv_X11_143 ⟨by decide, by decide⟩ (Nat.le_of_ble_eq_true rfl) ⟨by decide, by decide⟩ dX11_level_6 hz hq (fun E hx => VX_out hC hQ ⟨by decide, by decide⟩ ⟨rfl, hx⟩) (fun r2 hq => ?_)
  show V G Γ 2 1 6 h0 9 [(0, .ref p0), (1, .int p1)] [.ref r2, .ref v1]
  obtain ⟨hz, hq⟩ := hq
  refine clV_X0_levelOf hG hC sv_X11_147 ⟨by decide, by decide⟩ (Nat.le_of_ble_eq_true rfl) ⟨by decide, by decide⟩ dX11_level_9 hz hq (fun r3 hq => ?_)
  show V G Γ 2 1 6 h0 12 [(0, .ref p0), (1, .int p1)] [.int r3]
  exact V_iret hC hQ rfl rfl ⟨by decide, by decide⟩ dX11_level_12 ⟨_, rfl, rfl, hq⟩
set_option maxRecDepth 100000 in
set_option maxHeartbeats 4000000 in
theorem ct_X11_stationOnAir {G : Gx} (hG : GOK G) (p0 : Nat) (p1 : Int32) (h0 : hw) (post : Nat → Prop) (xp : String → Prop) (hq : wp_X11_stationOnAir G p0 p1 h0 post xp) : CT G yX11_stationOnAir cX11_stationOnAir 3 (some (.object "Bandplan$Station")) 7 115 2 12 [.ref p0, .int p1] h0 (fun v h1 => ∃ r : Nat, v = some (.ref r) ∧ h1 = h0 ∧ post r) (fun E h1 => h1 = h0 ∧ xp E) := by
  refine CT_of hG (by decide) (Nat.le_of_ble_eq_true rfl) (fun Γ hC hQ hN => ?_)
  have hC : COK G Γ "Bandplan" cX11_stationOnAir 3 7 115 2 12 [] := hC
  unfold wp_X11_stationOnAir at hq
  show V G Γ 3 0 0 h0 0 [(0, .ref p0), (1, .int p1)] []
  refine V_aload_n hC dX11_stationOnAir_0 0 rfl ?_
  refine V_iload_n hC dX11_stationOnAir_1 1 rfl ?_
  obtain ⟨hz, hq⟩ := hq
  refine clV_X11_stationAt hG hC sv_X11_143 ⟨by decide, by decide⟩ (Nat.le_of_ble_eq_true rfl) ⟨by decide, by decide⟩ dX11_stationOnAir_2 hz hq (fun E hx => VX_out hC hQ ⟨by decide, by decide⟩ ⟨rfl, hx⟩) (fun r1 hq => ?_)
  show V G Γ 3 1 6 h0 5 [(0, .ref p0), (1, .int p1)] [.ref r1]
  refine V_astore_n (L' := [(0, .ref p0), (1, .int p1), (2, .ref r1)]) hC dX11_stationOnAir_5 rfl (by decide) [1, 2, 0] rfl ?_
  refine V_aload_n hC dX11_stationOnAir_6 0 rfl ?_
  refine U_getR hC fl_X11_19 dX11_stationOnAir_7 hq (fun v2 hq => ?_)
  refine U_getR hC fl_X11_154 dX11_stationOnAir_10 hq (fun v3 hq => ?_)
  refine V_iload_n hC dX11_stationOnAir_13 1 rfl ?_
  obtain ⟨hz, hq⟩ := hq
  refine clV_X7_at hG hC sv_X11_226 ⟨by decide, by decide⟩ (Nat.le_of_ble_eq_true rfl) ⟨by decide, by decide⟩ dX11_stationOnAir_14 hz hq (fun r4 hq => ?_)
  show V G Γ 3 1 6 h0 17 [(0, .ref p0), (1, .int p1), (2, .ref r1)] [.int r4]
  refine V_iconst (v := (-1)) hC dX11_stationOnAir_17 (by decide) ?_
  refine V_icmp_ne (tgt := 32) hC dX11_stationOnAir_18 (by decide) (fun hc => ?_) (fun hc => ?_)
  · have hq := hq.1 hc
    refine V_aload_n hC dX11_stationOnAir_32 2 rfl ?_
    exact V_aret hC hQ rfl (by first | exact Or.inl ⟨_, rfl⟩ | exact Or.inr ⟨_, rfl⟩) ⟨by decide, by decide⟩ dX11_stationOnAir_33 ⟨_, rfl, rfl, hq⟩
  · have hq := hq.2 hc
    exact V_throwSW hC hQ hG th_221_391 ⟨by decide, by decide⟩ ⟨by decide, by decide⟩ dX11_stationOnAir_21 dX11_stationOnAir_24 dX11_stationOnAir_25 dX11_stationOnAir_28 dX11_stationOnAir_31 ⟨rfl, hq⟩
theorem clV_X11_stationOnAir {G : Gx} (hG : GOK G) {Γ : Cx} {own : String} {cc : ByteArray} {nL fr lo mc ms cells slots pc : Nat} {hh : List (Nat × Nat × Nat × Nat)} {h : hw} {L : List (Nat × Value)} {rest : List Value} (hC : COK G Γ own cc nL fr lo mc ms hh) {idx : Nat} (hs : SV own idx yX11_stationOnAir cX11_stationOnAir 3 (some (.object "Bandplan$Station")) 1) {p0 : Nat} {p1 : Int32} (hR : 7 + 1 ≤ fr ∧ 8 + (3 + 11) + 115 ≤ lo) (hw8 : (rest.map fun v => v.category).sum ≤ 8) (hcs : cells + 2 ≤ mc ∧ slots + 12 ≤ ms) (hdg : decode cc pc = .ok (.invokevirtual idx, 3)) (ho : isO h p0 11) {post : Nat → Prop} {xp : String → Prop} (hq : wp_X11_stationOnAir G p0 p1 h post xp) (kx : ∀ E : String, xp E → VX G Γ nL (cells + 2) (slots + 12) h pc L rest E) (kk : ∀ (r : Nat) , post r → V G Γ nL (cells + 2) (slots + 12) h (pc + 3) L (.ref r :: rest)) : V G Γ nL cells slots h pc L (.int p1 :: .ref p0 :: rest) :=
  V_callV (As := [.int p1]) (r9 := (RX11, TX11, 8)) hC (ct_X11_stationOnAir hG p0 p1 h post xp hq) hs ho rfl rfl rfl hR hw8 hcs hdg (fun E h1 z => by obtain ⟨rfl, hz⟩ := z; exact kx E hz) (fun v h1 z => by obtain ⟨r, rfl, rfl, hz⟩ := z; exact kk r hz)
set_option maxRecDepth 100000 in
set_option maxHeartbeats 4000000 in
theorem ct_X11_harm {G : Gx} (hG : GOK G) (p0 : Nat) (p1 : Int32) (h0 : hw) (post : Int32 → Prop) (xp : String → Prop) (hq : wp_X11_harm G p0 p1 h0 post xp) : CT G yX11_harm cX11_harm 3 (some .int) 8 137 3 18 [.ref p0, .int p1] h0 (fun v h1 => ∃ r : Int32, v = some (.int r) ∧ h1 = h0 ∧ post r) (fun E h1 => h1 = h0 ∧ xp E) := by
  refine CT_of hG (by decide) (Nat.le_of_ble_eq_true rfl) (fun Γ hC hQ hN => ?_)
  have hC : COK G Γ "Bandplan" cX11_harm 3 8 137 3 18 [] := hC
  unfold wp_X11_harm at hq
  show V G Γ 3 0 0 h0 0 [(0, .ref p0), (1, .int p1)] []
  refine V_aload_n hC dX11_harm_0 0 rfl ?_
  refine U_getR hC fl_X11_10 dX11_harm_1 hq (fun v1 hq => ?_)
  refine V_aload_n hC dX11_harm_4 0 rfl ?_
  refine V_iload_n hC dX11_harm_5 1 rfl ?_
  obtain ⟨hz, hq⟩ := hq
  refine clV_X11_stationOnAir hG hC sv_X11_151 ⟨by decide, by decide⟩ (Nat.le_of_ble_eq_true rfl) ⟨by decide, by decide⟩ dX11_harm_6 hz hq (fun E hx => VX_out hC hQ ⟨by decide, by decide⟩ ⟨rfl, hx⟩) (fun r2 hq => ?_)
  show V G Γ 3 2 12 h0 9 [(0, .ref p0), (1, .int p1)] [.ref r2, .ref v1]
  refine V_aload_n hC dX11_harm_9 0 rfl ?_
  refine U_getR hC fl_X11_19 dX11_harm_10 hq (fun v3 hq => ?_)
  refine U_getR hC fl_X11_154 dX11_harm_13 hq (fun v4 hq => ?_)
  obtain ⟨hz, hq⟩ := hq
  refine clV_X0_allHarm hG hC sv_X11_157 ⟨by decide, by decide⟩ (Nat.le_of_ble_eq_true rfl) ⟨by decide, by decide⟩ dX11_harm_16 hz hq (fun r5 hq => ?_)
  show V G Γ 3 2 12 h0 19 [(0, .ref p0), (1, .int p1)] [.int r5]
  refine V_istore_n (L' := [(0, .ref p0), (1, .int p1), (2, .int r5)]) hC dX11_harm_19 rfl (by decide) [1, 2, 0] rfl ?_
  refine V_iload_n hC dX11_harm_20 2 rfl ?_
  refine V_ldc (v := (-1000000)) hC aw_4_77 dX11_harm_21 ?_
  refine V_icmp_ne (tgt := 36) hC dX11_harm_23 (by decide) (fun hc => ?_) (fun hc => ?_)
  · have hq := hq.1 hc
    refine V_iload_n hC dX11_harm_36 2 rfl ?_
    exact V_iret hC hQ rfl rfl ⟨by decide, by decide⟩ dX11_harm_37 ⟨_, rfl, rfl, hq⟩
  · have hq := hq.2 hc
    exact V_throwS hC hQ hG th_162_164 ⟨by decide, by decide⟩ ⟨by decide, by decide⟩ dX11_harm_26 dX11_harm_29 dX11_harm_30 dX11_harm_32 dX11_harm_35 ⟨rfl, hq⟩
set_option maxRecDepth 100000 in
set_option maxHeartbeats 4000000 in
theorem ct_X11_keeps {G : Gx} (hG : GOK G) (p0 : Nat) (p1 : Int32) (h0 : hw) (post : Int32 → Prop) (xp : String → Prop) (hq : wp_X11_keeps G p0 p1 h0 post xp) : CT G yX11_keeps cX11_keeps 2 (some .boolean) 8 147 2 12 [.ref p0, .int p1] h0 (fun v h1 => ∃ r : Int32, v = some (.int r) ∧ h1 = h0 ∧ post r) (fun E h1 => h1 = h0 ∧ xp E) := by
  refine CT_of hG (by decide) (Nat.le_of_ble_eq_true rfl) (fun Γ hC hQ hN => ?_)
  have hC : COK G Γ "Bandplan" cX11_keeps 2 8 147 2 12 [] := hC
  unfold wp_X11_keeps at hq
  show V G Γ 2 0 0 h0 0 [(0, .ref p0), (1, .int p1)] []
  refine V_aload_n hC dX11_keeps_0 0 rfl ?_
  refine U_getR hC fl_X11_10 dX11_keeps_1 hq (fun v1 hq => ?_)
  refine V_aload_n hC dX11_keeps_4 0 rfl ?_
  refine V_iload_n hC dX11_keeps_5 1 rfl ?_
  obtain ⟨hz, hq⟩ := hq
  refine clV_X11_stationOnAir hG hC sv_X11_151 ⟨by decide, by decide⟩ (Nat.le_of_ble_eq_true rfl) ⟨by decide, by decide⟩ dX11_keeps_6 hz hq (fun E hx => VX_out hC hQ ⟨by decide, by decide⟩ ⟨rfl, hx⟩) (fun r2 hq => ?_)
  show V G Γ 2 2 12 h0 9 [(0, .ref p0), (1, .int p1)] [.ref r2, .ref v1]
  refine V_aload_n hC dX11_keeps_9 0 rfl ?_
  refine U_getR hC fl_X11_19 dX11_keeps_10 hq (fun v3 hq => ?_)
  refine U_getR hC fl_X11_154 dX11_keeps_13 hq (fun v4 hq => ?_)
  obtain ⟨hz, hq⟩ := hq
  refine clV_X0_keepsLevel hG hC sv_X11_167 ⟨by decide, by decide⟩ (Nat.le_of_ble_eq_true rfl) ⟨by decide, by decide⟩ dX11_keeps_16 hz hq (fun r5 hq => ?_)
  show V G Γ 2 2 12 h0 19 [(0, .ref p0), (1, .int p1)] [.int r5]
  obtain ⟨hz, hq⟩ := hq
  exact V_iret hC hQ rfl (nar_b hz) ⟨by decide, by decide⟩ dX11_keeps_19 ⟨_, rfl, rfl, hq⟩
set_option maxRecDepth 100000 in
set_option maxHeartbeats 4000000 in
theorem ct_X11_needChannel {G : Gx} (hG : GOK G) (p0 : Nat) (p1 : Int32) (h0 : hw) (post : Prop) (xp : String → Prop) (hq : wp_X11_needChannel G p0 p1 h0 post xp) : CT G yX11_needChannel cX11_needChannel 2 none 7 113 1 6 [.ref p0, .int p1] h0 (fun v h1 => v = none ∧ h1 = h0 ∧ post) (fun E h1 => h1 = h0 ∧ xp E) := by
  refine CT_of hG (by decide) (Nat.le_of_ble_eq_true rfl) (fun Γ hC hQ hN => ?_)
  have hC : COK G Γ "Bandplan" cX11_needChannel 2 7 113 1 6 [] := hC
  unfold wp_X11_needChannel at hq
  show V G Γ 2 0 0 h0 0 [(0, .ref p0), (1, .int p1)] []
  refine V_aload_n hC dX11_needChannel_0 0 rfl ?_
  refine V_iload_n hC dX11_needChannel_1 1 rfl ?_
  refine V_iconst (v := 0) hC dX11_needChannel_2 (by decide) ?_
  refine V_bipush (v := 7) hC dX11_needChannel_3 (by decide) ?_
  obtain ⟨hz, hq⟩ := hq
  refine clV_X11_needRange hG hC sv_X11_70 ⟨by decide, by decide⟩ (Nat.le_of_ble_eq_true rfl) ⟨by decide, by decide⟩ dX11_needChannel_5 hz hq (fun E hx => VX_out hC hQ ⟨by decide, by decide⟩ ⟨rfl, hx⟩) (fun hq => ?_)
  show V G Γ 2 1 6 h0 8 [(0, .ref p0), (1, .int p1)] []
  exact V_vret hC hQ ⟨by decide, by decide⟩ dX11_needChannel_8 ⟨rfl, rfl, hq⟩
theorem clV_X11_needChannel {G : Gx} (hG : GOK G) {Γ : Cx} {own : String} {cc : ByteArray} {nL fr lo mc ms cells slots pc : Nat} {hh : List (Nat × Nat × Nat × Nat)} {h : hw} {L : List (Nat × Value)} {rest : List Value} (hC : COK G Γ own cc nL fr lo mc ms hh) {idx : Nat} (hs : SV own idx yX11_needChannel cX11_needChannel 2 none 1) {p0 : Nat} {p1 : Int32} (hR : 7 + 1 ≤ fr ∧ 8 + (2 + 11) + 113 ≤ lo) (hw8 : (rest.map fun v => v.category).sum ≤ 8) (hcs : cells + 1 ≤ mc ∧ slots + 6 ≤ ms) (hdg : decode cc pc = .ok (.invokevirtual idx, 3)) (ho : isO h p0 11) {post : Prop} {xp : String → Prop} (hq : wp_X11_needChannel G p0 p1 h post xp) (kx : ∀ E : String, xp E → VX G Γ nL (cells + 1) (slots + 6) h pc L rest E) (kk : post → V G Γ nL (cells + 1) (slots + 6) h (pc + 3) L rest) : V G Γ nL cells slots h pc L (.int p1 :: .ref p0 :: rest) :=
  V_callV (As := [.int p1]) (r9 := (RX11, TX11, 8)) hC (ct_X11_needChannel hG p0 p1 h post xp hq) hs ho rfl rfl rfl hR hw8 hcs hdg (fun E h1 z => by obtain ⟨rfl, hz⟩ := z; exact kx E hz) (fun v h1 z => by obtain ⟨rfl, rfl, hz⟩ := z; exact kk hz)
