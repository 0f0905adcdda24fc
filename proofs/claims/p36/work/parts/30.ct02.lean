set_option maxRecDepth 100000 in
set_option maxHeartbeats 4000000 in
theorem ct_X6_write {G : Gx} (hG : GOK G) (p0 : Nat) (p1 : Int32) (p2 : Int32) (h0 : hw) (post : hw → Prop) (hq : wp_X6_write G p0 p1 p2 h0 post) : CT G yX6_write cX6_write 5 none 2 52 0 0 [.ref p0, .int p1, .int p2] h0 (fun v h1 => v = none ∧ post h1) (fun E h1 => False) := by
  refine CT_of hG (by decide) (Nat.le_of_ble_eq_true rfl) (fun Γ hC hQ hN => ?_)
  have hC : COK G Γ "Bandplan$Register" cX6_write 5 2 52 0 0 [] := hC
  unfold wp_X6_write at hq
  show V G Γ 5 0 0 h0 0 [(0, .ref p0), (1, .int p1), (2, .int p2)] []
  refine V_aload_n hC dX6_write_0 0 rfl ?_
  refine U_getR hC fl_X6_20 dX6_write_1 hq (fun v1 hq => ?_)
  refine V_iload_n hC dX6_write_4 1 rfl ?_
  obtain ⟨hz, hq⟩ := hq
  refine clV_X7_at hG hC sv_X6_29 ⟨by decide, by decide⟩ (Nat.le_of_ble_eq_true rfl) ⟨by decide, by decide⟩ dX6_write_5 hz hq (fun r2 hq => ?_)
  show V G Γ 5 0 0 h0 8 [(0, .ref p0), (1, .int p1), (2, .int p2)] [.int r2]
  refine V_istore_n (L' := [(0, .ref p0), (1, .int p1), (2, .int p2), (3, .int r2)]) hC dX6_write_8 rfl (by decide) [1, 2, 3, 0] rfl ?_
  refine V_iload_n hC dX6_write_9 3 rfl ?_
  have hq := hq (fun (t3 : Int32) => V G Γ 5 0 0 h0 39 [(0, .ref p0), (1, .int p1), (2, .int p2), (3, .int r2)] [.int t3]) (by
    intro t3 hq
    show V G Γ 5 0 0 h0 39 [(0, .ref p0), (1, .int p1), (2, .int p2), (3, .int r2)] [.int t3]
    refine V_istore (L' := [(0, .ref p0), (1, .int p1), (2, .int p2), (3, .int r2), (4, .int t3)]) hC dX6_write_39 (by decide) [1, 2, 3, 4, 0] rfl ?_
    refine V_iload hC dX6_write_41 4 rfl ?_
    have hq := hq (fun (x3_4 : Int32) (h5 : hw) => V G Γ 5 0 0 h5 65 [(0, .ref p0), (1, .int p1), (2, .int p2), (3, .int x3_4)] []) (by
      intro x3_4 h5 hq
      show V G Γ 5 0 0 h5 65 [(0, .ref p0), (1, .int p1), (2, .int p2), (3, .int x3_4)] []
      refine V_aload_n hC dX6_write_65 0 rfl ?_
      refine U_getR hC fl_X6_23 dX6_write_66 hq (fun v6 hq => ?_)
      refine V_iload_n hC dX6_write_69 1 rfl ?_
      refine V_iload_n hC dX6_write_70 3 rfl ?_
      refine V_iconst (v := 1) hC dX6_write_71 (by decide) ?_
      refine V_isub hC dX6_write_72 ?_
      refine clS_X6_lineOf hG hC ss_X6_39 ⟨by decide, by decide⟩ (Nat.le_of_ble_eq_true rfl) ⟨by decide, by decide⟩ dX6_write_73 hq (fun r7 hq => ?_)
      show V G Γ 5 0 0 h5 76 [(0, .ref p0), (1, .int p1), (2, .int p2), (3, .int x3_4)] [.int r7, .ref v6]
      refine V_aload_n hC dX6_write_76 0 rfl ?_
      refine U_getI hC fl_X6_43 dX6_write_77 hq (fun v8 hq => ?_)
      obtain ⟨hz, hq⟩ := hq
      refine clV_X7_put hG hC sv_X6_33 ⟨by decide, by decide⟩ (Nat.le_of_ble_eq_true rfl) ⟨by decide, by decide⟩ dX6_write_80 hz hq (fun h9 hq => ?_)
      show V G Γ 5 0 0 h9 83 [(0, .ref p0), (1, .int p1), (2, .int p2), (3, .int x3_4)] []
      refine V_aload_n hC dX6_write_83 0 rfl ?_
      refine U_getR hC fl_X6_26 dX6_write_84 hq (fun v10 hq => ?_)
      refine V_iload_n hC dX6_write_87 1 rfl ?_
      refine V_iload_n hC dX6_write_88 3 rfl ?_
      refine V_iconst (v := 1) hC dX6_write_89 (by decide) ?_
      refine V_isub hC dX6_write_90 ?_
      refine clS_X6_lineOf hG hC ss_X6_39 ⟨by decide, by decide⟩ (Nat.le_of_ble_eq_true rfl) ⟨by decide, by decide⟩ dX6_write_91 hq (fun r11 hq => ?_)
      show V G Γ 5 0 0 h9 94 [(0, .ref p0), (1, .int p1), (2, .int p2), (3, .int x3_4)] [.int r11, .ref v10]
      refine V_iload_n hC dX6_write_94 2 rfl ?_
      obtain ⟨hz, hq⟩ := hq
      refine clV_X7_put hG hC sv_X6_33 ⟨by decide, by decide⟩ (Nat.le_of_ble_eq_true rfl) ⟨by decide, by decide⟩ dX6_write_95 hz hq (fun h12 hq => ?_)
      show V G Γ 5 0 0 h12 98 [(0, .ref p0), (1, .int p1), (2, .int p2), (3, .int x3_4)] []
      exact V_vret hC hQ ⟨by decide, by decide⟩ dX6_write_98 ⟨rfl, hq⟩)
    refine V_if_ne (tgt := 65) hC dX6_write_43 (by decide) (fun hc => ?_) (fun hc => ?_)
    · have hq := hq.1 hc
      refine V_sub [0, 1, 2, 3] rfl ?_
      exact hq
    · have hq := hq.2 hc
      refine V_iload_n hC dX6_write_46 3 rfl ?_
      refine V_sipush (v := 256) hC dX6_write_47 (by decide) ?_
      refine V_icmp_ge (tgt := 65) hC dX6_write_50 (by decide) (fun hc => ?_) (fun hc => ?_)
      · have hq := hq.1 hc
        refine V_sub [0, 1, 2, 3] rfl ?_
        exact hq
      · have hq := hq.2 hc
        refine V_iinc (j := 3) (v := (r2 + 1)) (L' := [(0, .ref p0), (1, .int p1), (2, .int p2), (3, .int (r2 + 1)), (4, .int t3)]) hC dX6_write_53 rfl rfl (by decide) [1, 2, 3, 0, 4] rfl ?_
        refine V_aload_n hC dX6_write_56 0 rfl ?_
        refine U_getR hC fl_X6_20 dX6_write_57 hq (fun v13 hq => ?_)
        refine V_iload_n hC dX6_write_60 1 rfl ?_
        refine V_iload_n hC dX6_write_61 3 rfl ?_
        obtain ⟨hz, hq⟩ := hq
        refine clV_X7_put hG hC sv_X6_33 ⟨by decide, by decide⟩ (Nat.le_of_ble_eq_true rfl) ⟨by decide, by decide⟩ dX6_write_62 hz hq (fun h14 hq => ?_)
        show V G Γ 5 0 0 h14 65 [(0, .ref p0), (1, .int p1), (2, .int p2), (3, .int (r2 + 1)), (4, .int t3)] []
        refine V_sub [0, 1, 2, 3] rfl ?_
        exact hq)
  have hq := hq (V G Γ 5 0 0 h0 38 [(0, .ref p0), (1, .int p1), (2, .int p2), (3, .int r2)] []) (by
    intro hq
    show V G Γ 5 0 0 h0 38 [(0, .ref p0), (1, .int p1), (2, .int p2), (3, .int r2)] []
    refine V_iconst (v := 0) hC dX6_write_38 (by decide) ?_
    exact hq)
  refine V_if_le (tgt := 38) hC dX6_write_10 (by decide) (fun hc => ?_) (fun hc => ?_)
  · have hq := hq.1 hc
    exact hq
  · have hq := hq.2 hc
    refine V_aload_n hC dX6_write_13 0 rfl ?_
    refine U_getR hC fl_X6_23 dX6_write_14 hq (fun v15 hq => ?_)
    refine V_iload_n hC dX6_write_17 1 rfl ?_
    refine V_iload_n hC dX6_write_18 3 rfl ?_
    refine V_iconst (v := 1) hC dX6_write_19 (by decide) ?_
    refine V_isub hC dX6_write_20 ?_
    refine clS_X6_lineOf hG hC ss_X6_39 ⟨by decide, by decide⟩ (Nat.le_of_ble_eq_true rfl) ⟨by decide, by decide⟩ dX6_write_21 hq (fun r16 hq => ?_)
    show V G Γ 5 0 0 h0 24 [(0, .ref p0), (1, .int p1), (2, .int p2), (3, .int r2)] [.int r16, .ref v15]
    obtain ⟨hz, hq⟩ := hq
    refine clV_X7_at hG hC sv_X6_29 ⟨by decide, by decide⟩ (Nat.le_of_ble_eq_true rfl) ⟨by decide, by decide⟩ dX6_write_24 hz hq (fun r17 hq => ?_)
    show V G Γ 5 0 0 h0 27 [(0, .ref p0), (1, .int p1), (2, .int p2), (3, .int r2)] [.int r17]
    refine V_aload_n hC dX6_write_27 0 rfl ?_
    refine U_getI hC fl_X6_43 dX6_write_28 hq (fun v18 hq => ?_)
    refine V_icmp_ne (tgt := 38) hC dX6_write_31 (by decide) (fun hc => ?_) (fun hc => ?_)
    · have hq := hq.1 hc
      exact hq
    · have hq := hq.2 hc
      refine V_iconst (v := 1) hC dX6_write_34 (by decide) ?_
      refine V_goto (tgt := 39) hC dX6_write_35 (by decide) ?_
      exact hq
theorem clV_X6_write {G : Gx} (hG : GOK G) {Γ : Cx} {own : String} {cc : ByteArray} {nL fr lo mc ms cells slots pc : Nat} {hh : List (Nat × Nat × Nat × Nat)} {h : hw} {L : List (Nat × Value)} {rest : List Value} (hC : COK G Γ own cc nL fr lo mc ms hh) {idx : Nat} (hs : SV own idx yX6_write cX6_write 5 none 2) {p0 : Nat} {p1 : Int32} {p2 : Int32} (hR : 2 + 1 ≤ fr ∧ 8 + (5 + 11) + 52 ≤ lo) (hw8 : (rest.map fun v => v.category).sum ≤ 8) (hcs : cells + 0 ≤ mc ∧ slots + 0 ≤ ms) (hdg : decode cc pc = .ok (.invokevirtual idx, 3)) (ho : isO h p0 6) {post : hw → Prop} (hq : wp_X6_write G p0 p1 p2 h post) (kk : ∀ (h1 : hw) , post h1 → V G Γ nL (cells + 0) (slots + 0) h1 (pc + 3) L (rest)) : V G Γ nL cells slots h pc L (.int p2 :: .int p1 :: .ref p0 :: rest) :=
  V_callV (As := [.int p1, .int p2]) (r9 := (RX6, TX6, 5)) hC (ct_X6_write hG p0 p1 p2 h post hq) hs ho rfl rfl rfl hR hw8 hcs hdg (fun E h1 z => z.elim) (fun v h1 z => by obtain ⟨rfl, hz⟩ := z; exact kk h1 hz)
set_option maxRecDepth 100000 in
set_option maxHeartbeats 4000000 in
theorem ct_X6_change {G : Gx} (hG : GOK G) (p0 : Nat) (p1 : Int32) (p2 : Int32) (h0 : hw) (post : hw → Prop) (hq : wp_X6_change G p0 p1 p2 h0 post) : CT G yX6_change cX6_change 3 none 3 76 0 0 [.ref p0, .int p1, .int p2] h0 (fun v h1 => v = none ∧ post h1) (fun E h1 => False) := by
  refine CT_of hG (by decide) (Nat.le_of_ble_eq_true rfl) (fun Γ hC hQ hN => ?_)
  have hC : COK G Γ "Bandplan$Register" cX6_change 3 3 76 0 0 [] := hC
  unfold wp_X6_change at hq
  show V G Γ 3 0 0 h0 0 [(0, .ref p0), (1, .int p1), (2, .int p2)] []
  refine V_aload_n hC dX6_change_0 0 rfl ?_
  refine U_getR hC fl_X6_14 dX6_change_1 hq (fun v1 hq => ?_)
  refine V_iload_n hC dX6_change_4 1 rfl ?_
  obtain ⟨hz, hq⟩ := hq
  refine clV_X7_at hG hC sv_X6_29 ⟨by decide, by decide⟩ (Nat.le_of_ble_eq_true rfl) ⟨by decide, by decide⟩ dX6_change_5 hz hq (fun r2 hq => ?_)
  show V G Γ 3 0 0 h0 8 [(0, .ref p0), (1, .int p1), (2, .int p2)] [.int r2]
  refine V_iload_n hC dX6_change_8 2 rfl ?_
  refine V_icmp_eq (tgt := 27) hC dX6_change_9 (by decide) (fun hc => ?_) (fun hc => ?_)
  · have hq := hq.1 hc
    exact V_vret hC hQ ⟨by decide, by decide⟩ dX6_change_27 ⟨rfl, hq⟩
  · have hq := hq.2 hc
    refine V_aload_n hC dX6_change_12 0 rfl ?_
    refine U_getR hC fl_X6_14 dX6_change_13 hq (fun v3 hq => ?_)
    refine V_iload_n hC dX6_change_16 1 rfl ?_
    refine V_iload_n hC dX6_change_17 2 rfl ?_
    obtain ⟨hz, hq⟩ := hq
    refine clV_X7_put hG hC sv_X6_33 ⟨by decide, by decide⟩ (Nat.le_of_ble_eq_true rfl) ⟨by decide, by decide⟩ dX6_change_18 hz hq (fun h4 hq => ?_)
    show V G Γ 3 0 0 h4 21 [(0, .ref p0), (1, .int p1), (2, .int p2)] []
    refine V_aload_n hC dX6_change_21 0 rfl ?_
    refine V_iload_n hC dX6_change_22 1 rfl ?_
    refine V_iload_n hC dX6_change_23 2 rfl ?_
    obtain ⟨hz, hq⟩ := hq
    refine clV_X6_write hG hC sv_X6_36 ⟨by decide, by decide⟩ (Nat.le_of_ble_eq_true rfl) ⟨by decide, by decide⟩ dX6_change_24 hz hq (fun h5 hq => ?_)
    show V G Γ 3 0 0 h5 27 [(0, .ref p0), (1, .int p1), (2, .int p2)] []
    exact V_vret hC hQ ⟨by decide, by decide⟩ dX6_change_27 ⟨rfl, hq⟩
theorem clV_X6_change {G : Gx} (hG : GOK G) {Γ : Cx} {own : String} {cc : ByteArray} {nL fr lo mc ms cells slots pc : Nat} {hh : List (Nat × Nat × Nat × Nat)} {h : hw} {L : List (Nat × Value)} {rest : List Value} (hC : COK G Γ own cc nL fr lo mc ms hh) {idx : Nat} (hs : SV own idx yX6_change cX6_change 3 none 2) {p0 : Nat} {p1 : Int32} {p2 : Int32} (hR : 3 + 1 ≤ fr ∧ 8 + (3 + 11) + 76 ≤ lo) (hw8 : (rest.map fun v => v.category).sum ≤ 8) (hcs : cells + 0 ≤ mc ∧ slots + 0 ≤ ms) (hdg : decode cc pc = .ok (.invokevirtual idx, 3)) (ho : isO h p0 6) {post : hw → Prop} (hq : wp_X6_change G p0 p1 p2 h post) (kk : ∀ (h1 : hw) , post h1 → V G Γ nL (cells + 0) (slots + 0) h1 (pc + 3) L (rest)) : V G Γ nL cells slots h pc L (.int p2 :: .int p1 :: .ref p0 :: rest) :=
  V_callV (As := [.int p1, .int p2]) (r9 := (RX6, TX6, 5)) hC (ct_X6_change hG p0 p1 p2 h post hq) hs ho rfl rfl rfl hR hw8 hcs hdg (fun E h1 z => z.elim) (fun v h1 z => by obtain ⟨rfl, hz⟩ := z; exact kk h1 hz)
set_option maxRecDepth 100000 in
set_option maxHeartbeats 4000000 in
theorem ct_X4_silenceSecondariesNear {G : Gx} (hG : GOK G) (p0 : Int32) (p1 : Nat) (p2 : Nat) (p3 : Nat) (h0 : hw) (post : hw → Prop) (hq : wp_X4_silenceSecondariesNear G p0 p1 p2 p3 h0 post) : CT G yX4_silenceSecondariesNear cX4_silenceSecondariesNear 7 none 4 98 0 0 [.int p0, .ref p1, .ref p2, .ref p3] h0 (fun v h1 => v = none ∧ post h1) (fun E h1 => False) := by
  refine CT_of hG (by decide) (Nat.le_of_ble_eq_true rfl) (fun Γ hC hQ hN => ?_)
  have hC : COK G Γ "Bandplan$Moving" cX4_silenceSecondariesNear 7 4 98 0 0 [] := hC
  unfold wp_X4_silenceSecondariesNear at hq
  show V G Γ 7 0 0 h0 0 [(0, .int p0), (1, .ref p1), (2, .ref p2), (3, .ref p3)] []
  refine V_aload_n hC dX4_silenceSecondariesNear_0 2 rfl ?_
  refine U_getR hC fl_X4_48 dX4_silenceSecondariesNear_1 hq (fun v1 hq => ?_)
  refine V_iload_n hC dX4_silenceSecondariesNear_4 0 rfl ?_
  obtain ⟨hz, hq⟩ := hq
  refine clV_X7_at hG hC sv_X4_44 ⟨by decide, by decide⟩ (Nat.le_of_ble_eq_true rfl) ⟨by decide, by decide⟩ dX4_silenceSecondariesNear_5 hz hq (fun r2 hq => ?_)
  show V G Γ 7 0 0 h0 8 [(0, .int p0), (1, .ref p1), (2, .ref p2), (3, .ref p3)] [.int r2]
  refine V_istore (L' := [(0, .int p0), (1, .ref p1), (2, .ref p2), (3, .ref p3), (4, .int r2)]) hC dX4_silenceSecondariesNear_8 (by decide) [1, 2, 3, 4, 0] rfl ?_
  refine V_iconst (v := 0) hC dX4_silenceSecondariesNear_10 (by decide) ?_
  refine V_istore (L' := [(0, .int p0), (1, .ref p1), (2, .ref p2), (3, .ref p3), (4, .int r2), (5, .int 0)]) hC dX4_silenceSecondariesNear_11 (by decide) [1, 2, 3, 4, 5, 0] rfl ?_
  have hq := hq (fun (x5_3 : Int32) (h4 : hw) => V G Γ 7 0 0 h4 13 [(0, .int p0), (1, .ref p1), (2, .ref p2), (3, .ref p3), (4, .int r2), (5, .int x5_3)] []) (by
    intro x5_3 h4 hq
    show V G Γ 7 0 0 h4 13 [(0, .int p0), (1, .ref p1), (2, .ref p2), (3, .ref p3), (4, .int r2), (5, .int x5_3)] []
    refine V_iload hC dX4_silenceSecondariesNear_13 5 rfl ?_
    refine V_aload_n hC dX4_silenceSecondariesNear_15 1 rfl ?_
    refine U_getR hC fl_X4_67 dX4_silenceSecondariesNear_16 hq (fun v5 hq => ?_)
    obtain ⟨hz, hq⟩ := hq
    refine clV_Jx4a65c_size_8abf5 hG hC sv_X4_73 ⟨by decide, by decide⟩ (Nat.le_of_ble_eq_true rfl) ⟨by decide, by decide⟩ dX4_silenceSecondariesNear_19 hz hq (fun r6 hq => ?_)
    show V G Γ 7 0 0 h4 22 [(0, .int p0), (1, .ref p1), (2, .ref p2), (3, .ref p3), (4, .int r2), (5, .int x5_3)] [.int r6, .int x5_3]
    refine V_icmp_ge (tgt := 87) hC dX4_silenceSecondariesNear_22 (by decide) (fun hc => ?_) (fun hc => ?_)
    · have hq := hq.1 hc
      exact V_vret hC hQ ⟨by decide, by decide⟩ dX4_silenceSecondariesNear_87 ⟨rfl, hq⟩
    · have hq := hq.2 hc
      refine V_aload_n hC dX4_silenceSecondariesNear_25 3 rfl ?_
      refine U_getR hC fl_X4_39 dX4_silenceSecondariesNear_26 hq (fun v7 hq => ?_)
      refine V_iload hC dX4_silenceSecondariesNear_29 5 rfl ?_
      obtain ⟨hz, hq⟩ := hq
      refine clV_X7_at hG hC sv_X4_44 ⟨by decide, by decide⟩ (Nat.le_of_ble_eq_true rfl) ⟨by decide, by decide⟩ dX4_silenceSecondariesNear_31 hz hq (fun r8 hq => ?_)
      show V G Γ 7 0 0 h4 34 [(0, .int p0), (1, .ref p1), (2, .ref p2), (3, .ref p3), (4, .int r2), (5, .int x5_3)] [.int r8]
      refine V_istore (L' := [(0, .int p0), (1, .ref p1), (2, .ref p2), (3, .ref p3), (4, .int r2), (5, .int x5_3), (6, .int r8)]) hC dX4_silenceSecondariesNear_34 (by decide) [1, 2, 3, 4, 5, 6, 0] rfl ?_
      refine V_aload_n hC dX4_silenceSecondariesNear_36 1 rfl ?_
      refine U_getR hC fl_X4_67 dX4_silenceSecondariesNear_37 hq (fun v9 hq => ?_)
      refine V_iload hC dX4_silenceSecondariesNear_40 5 rfl ?_
      obtain ⟨hz, hq⟩ := hq
      refine clV_Jx4a65c_get_915e3 hG hC sv_X4_87 ⟨by decide, by decide⟩ (Nat.le_of_ble_eq_true rfl) ⟨by decide, by decide⟩ dX4_silenceSecondariesNear_42 hz hq (fun r10 hq => ?_)
      show V G Γ 7 0 0 h4 45 [(0, .int p0), (1, .ref p1), (2, .ref p2), (3, .ref p3), (4, .int r2), (5, .int x5_3), (6, .int r8)] [.ref r10]
      obtain ⟨hz, hq⟩ := hq
      refine V_cast (r9 := (RX10, TX10, 6)) hC aw_5_32 rfl hz dX4_silenceSecondariesNear_45 ?_
      refine U_getI hC fl_X4_93 dX4_silenceSecondariesNear_48 hq (fun v11 hq => ?_)
      have hq := hq (fun (h12 : hw) => V G Γ 7 0 0 h12 81 [(0, .int p0), (1, .ref p1), (2, .ref p2), (3, .ref p3), (4, .int r2), (5, .int x5_3)] []) (by
        intro h12 hq
        show V G Γ 7 0 0 h12 81 [(0, .int p0), (1, .ref p1), (2, .ref p2), (3, .ref p3), (4, .int r2), (5, .int x5_3)] []
        refine V_iinc (j := 5) (v := (x5_3 + 1)) (L' := [(0, .int p0), (1, .ref p1), (2, .ref p2), (3, .ref p3), (4, .int r2), (5, .int (x5_3 + 1))]) hC dX4_silenceSecondariesNear_81 rfl rfl (by decide) [1, 2, 3, 4, 5, 0] rfl ?_
        refine V_goto (tgt := 13) hC dX4_silenceSecondariesNear_84 (by decide) ?_
        exact hq)
      refine V_if_ne (tgt := 81) hC dX4_silenceSecondariesNear_51 (by decide) (fun hc => ?_) (fun hc => ?_)
      · have hq := hq.1 hc
        refine V_sub [0, 1, 2, 3, 4, 5] rfl ?_
        exact hq
      · have hq := hq.2 hc
        refine V_iload hC dX4_silenceSecondariesNear_54 6 rfl ?_
        refine V_iconst (v := (-1)) hC dX4_silenceSecondariesNear_56 (by decide) ?_
        refine V_icmp_eq (tgt := 81) hC dX4_silenceSecondariesNear_57 (by decide) (fun hc => ?_) (fun hc => ?_)
        · have hq := hq.1 hc
          refine V_sub [0, 1, 2, 3, 4, 5] rfl ?_
          exact hq
        · have hq := hq.2 hc
          refine V_aload_n hC dX4_silenceSecondariesNear_60 2 rfl ?_
          refine V_iload_n hC dX4_silenceSecondariesNear_61 0 rfl ?_
          refine V_iload hC dX4_silenceSecondariesNear_62 4 rfl ?_
          refine V_iload hC dX4_silenceSecondariesNear_64 5 rfl ?_
          refine V_iload hC dX4_silenceSecondariesNear_66 6 rfl ?_
          obtain ⟨hz, hq⟩ := hq
          refine clV_X5_areTooNear hG hC sv_X4_96 ⟨by decide, by decide⟩ (Nat.le_of_ble_eq_true rfl) ⟨by decide, by decide⟩ dX4_silenceSecondariesNear_68 hz hq (fun r13 hq => ?_)
          show V G Γ 7 0 0 h4 71 [(0, .int p0), (1, .ref p1), (2, .ref p2), (3, .ref p3), (4, .int r2), (5, .int x5_3), (6, .int r8)] [.int r13]
          refine V_if_eq (tgt := 81) hC dX4_silenceSecondariesNear_71 (by decide) (fun hc => ?_) (fun hc => ?_)
          · have hq := hq.1 hc
            refine V_sub [0, 1, 2, 3, 4, 5] rfl ?_
            exact hq
          · have hq := hq.2 hc
            refine V_aload_n hC dX4_silenceSecondariesNear_74 3 rfl ?_
            refine V_iload hC dX4_silenceSecondariesNear_75 5 rfl ?_
            refine V_iconst (v := (-1)) hC dX4_silenceSecondariesNear_77 (by decide) ?_
            obtain ⟨hz, hq⟩ := hq
            refine clV_X6_change hG hC sv_X4_64 ⟨by decide, by decide⟩ (Nat.le_of_ble_eq_true rfl) ⟨by decide, by decide⟩ dX4_silenceSecondariesNear_78 hz hq (fun h14 hq => ?_)
            show V G Γ 7 0 0 h14 81 [(0, .int p0), (1, .ref p1), (2, .ref p2), (3, .ref p3), (4, .int r2), (5, .int x5_3), (6, .int r8)] []
            refine V_sub [0, 1, 2, 3, 4, 5] rfl ?_
            exact hq)
  exact hq
theorem clS_X4_silenceSecondariesNear {G : Gx} (hG : GOK G) {Γ : Cx} {own : String} {cc : ByteArray} {nL fr lo mc ms cells slots pc : Nat} {hh : List (Nat × Nat × Nat × Nat)} {h : hw} {L : List (Nat × Value)} {rest : List Value} (hC : COK G Γ own cc nL fr lo mc ms hh) {idx : Nat} (hs : SS own idx yX4_silenceSecondariesNear cX4_silenceSecondariesNear 7 none 4) {p0 : Int32} {p1 : Nat} {p2 : Nat} {p3 : Nat} (hR : 4 + 1 ≤ fr ∧ 8 + (7 + 11) + 98 ≤ lo) (hw8 : (rest.map fun v => v.category).sum ≤ 8) (hcs : cells + 0 ≤ mc ∧ slots + 0 ≤ ms) (hdg : decode cc pc = .ok (.invokestatic idx, 3)) {post : hw → Prop} (hq : wp_X4_silenceSecondariesNear G p0 p1 p2 p3 h post) (kk : ∀ (h1 : hw) , post h1 → V G Γ nL (cells + 0) (slots + 0) h1 (pc + 3) L (rest)) : V G Γ nL cells slots h pc L (.ref p3 :: .ref p2 :: .ref p1 :: .int p0 :: rest) :=
  V_callS (As := [.int p0, .ref p1, .ref p2, .ref p3]) hC (ct_X4_silenceSecondariesNear hG p0 p1 p2 p3 h post hq) hs rfl hR hw8 hcs hdg (fun E h1 z => z.elim) (fun v h1 z => by obtain ⟨rfl, hz⟩ := z; exact kk h1 hz)
set_option maxRecDepth 100000 in
set_option maxHeartbeats 4000000 in
theorem ct_X4_holdPhase {G : Gx} (hG : GOK G) (p0 : Nat) (p1 : Nat) (p2 : Nat) (p3 : Nat) (p4 : Int32) (p5 : Int32) (h0 : hw) (post : Int32 → hw → Prop) (hq : wp_X4_holdPhase G p0 p1 p2 p3 p4 p5 h0 post) : CT G yX4_holdPhase cX4_holdPhase 8 (some .boolean) 5 124 0 0 [.ref p0, .ref p1, .ref p2, .ref p3, .int p4, .int p5] h0 (fun v h1 => ∃ r : Int32, v = some (.int r) ∧ post r h1) (fun E h1 => False) := by
  refine CT_of hG (by decide) (Nat.le_of_ble_eq_true rfl) (fun Γ hC hQ hN => ?_)
  have hC : COK G Γ "Bandplan$Moving" cX4_holdPhase 8 5 124 0 0 [] := hC
  unfold wp_X4_holdPhase at hq
  show V G Γ 8 0 0 h0 0 [(0, .ref p0), (1, .ref p1), (2, .ref p2), (3, .ref p3), (4, .int p4), (5, .int p5)] []
  refine V_iconst (v := 0) hC dX4_holdPhase_0 (by decide) ?_
  refine V_istore (L' := [(0, .ref p0), (1, .ref p1), (2, .ref p2), (3, .ref p3), (4, .int p4), (5, .int p5), (6, .int 0)]) hC dX4_holdPhase_1 (by decide) [1, 2, 3, 4, 5, 6, 0] rfl ?_
  refine V_iconst (v := 0) hC dX4_holdPhase_3 (by decide) ?_
  refine V_istore (L' := [(0, .ref p0), (1, .ref p1), (2, .ref p2), (3, .ref p3), (4, .int p4), (5, .int p5), (6, .int 0), (7, .int 0)]) hC dX4_holdPhase_4 (by decide) [1, 2, 3, 4, 5, 6, 7, 0] rfl ?_
  have hq := hq (fun (x6_1 : Int32) (x7_2 : Int32) (h3 : hw) => V G Γ 8 0 0 h3 6 [(0, .ref p0), (1, .ref p1), (2, .ref p2), (3, .ref p3), (4, .int p4), (5, .int p5), (6, .int x6_1), (7, .int x7_2)] []) (by
    intro x6_1 x7_2 h3 hq
    show V G Γ 8 0 0 h3 6 [(0, .ref p0), (1, .ref p1), (2, .ref p2), (3, .ref p3), (4, .int p4), (5, .int p5), (6, .int x6_1), (7, .int x7_2)] []
    refine V_iload hC dX4_holdPhase_6 7 rfl ?_
    refine V_aload_n hC dX4_holdPhase_8 1 rfl ?_
    refine U_getR hC fl_X4_67 dX4_holdPhase_9 hq (fun v4 hq => ?_)
    obtain ⟨hz, hq⟩ := hq
    refine clV_Jx4a65c_size_8abf5 hG hC sv_X4_73 ⟨by decide, by decide⟩ (Nat.le_of_ble_eq_true rfl) ⟨by decide, by decide⟩ dX4_holdPhase_12 hz hq (fun r5 hq => ?_)
    show V G Γ 8 0 0 h3 15 [(0, .ref p0), (1, .ref p1), (2, .ref p2), (3, .ref p3), (4, .int p4), (5, .int p5), (6, .int x6_1), (7, .int x7_2)] [.int r5, .int x7_2]
    have hq := hq (V G Γ 8 0 0 h3 106 [(6, .int x6_1)] []) (by
      intro hq
      show V G Γ 8 0 0 h3 106 [(6, .int x6_1)] []
      refine V_iload hC dX4_holdPhase_106 0 rfl ?_
      refine V_if_le (tgt := 115) hC dX4_holdPhase_108 (by decide) (fun hc => ?_) (fun hc => ?_)
      · have hq := hq.1 hc
        refine V_iconst (v := 0) hC dX4_holdPhase_115 (by decide) ?_
        exact V_iret hC hQ rfl rfl ⟨by decide, by decide⟩ dX4_holdPhase_116 ⟨_, rfl, hq⟩
      · have hq := hq.2 hc
        refine V_iconst (v := 1) hC dX4_holdPhase_111 (by decide) ?_
        refine V_goto (tgt := 116) hC dX4_holdPhase_112 (by decide) ?_
        exact V_iret hC hQ rfl rfl ⟨by decide, by decide⟩ dX4_holdPhase_116 ⟨_, rfl, hq⟩)
    refine V_icmp_ge (tgt := 106) hC dX4_holdPhase_15 (by decide) (fun hc => ?_) (fun hc => ?_)
    · have hq := hq.1 hc
      refine V_sub [6] rfl ?_
      exact hq
    · have hq := hq.2 hc
      refine V_iload hC dX4_holdPhase_18 6 rfl ?_
      refine V_iload hC dX4_holdPhase_20 4 rfl ?_
      refine V_icmp_ge (tgt := 106) hC dX4_holdPhase_22 (by decide) (fun hc => ?_) (fun hc => ?_)
      · have hq := hq.1 hc
        refine V_sub [6] rfl ?_
        exact hq
      · have hq := hq.2 hc
        refine V_iload hC dX4_holdPhase_25 7 rfl ?_
        refine V_aload_n hC dX4_holdPhase_27 0 rfl ?_
        refine U_getI hC fl_X4_28 dX4_holdPhase_28 hq (fun v6 hq => ?_)
        refine clSN_X11_isIn hG hC ssn_X4_35 ⟨by decide, by decide⟩ (Nat.le_of_ble_eq_true rfl) ⟨by decide, by decide⟩ dX4_holdPhase_31 hq (fun r7 hq => ?_)
        show V G Γ 8 0 0 h3 34 [(0, .ref p0), (1, .ref p1), (2, .ref p2), (3, .ref p3), (4, .int p4), (5, .int p5), (6, .int x6_1), (7, .int x7_2)] [.int r7]
        have hq := hq (fun (x6_8 : Int32) (h9 : hw) => V G Γ 8 0 0 h9 100 [(0, .ref p0), (1, .ref p1), (2, .ref p2), (3, .ref p3), (4, .int p4), (5, .int p5), (6, .int x6_8), (7, .int x7_2)] []) (by
          intro x6_8 h9 hq
          show V G Γ 8 0 0 h9 100 [(0, .ref p0), (1, .ref p1), (2, .ref p2), (3, .ref p3), (4, .int p4), (5, .int p5), (6, .int x6_8), (7, .int x7_2)] []
          refine V_iinc (j := 7) (v := (x7_2 + 1)) (L' := [(0, .ref p0), (1, .ref p1), (2, .ref p2), (3, .ref p3), (4, .int p4), (5, .int p5), (6, .int x6_8), (7, .int (x7_2 + 1))]) hC dX4_holdPhase_100 rfl rfl (by decide) [1, 2, 3, 4, 5, 6, 7, 0] rfl ?_
          refine V_goto (tgt := 6) hC dX4_holdPhase_103 (by decide) ?_
          exact hq)
        refine V_if_eq (tgt := 100) hC dX4_holdPhase_34 (by decide) (fun hc => ?_) (fun hc => ?_)
        · have hq := hq.1 hc
          exact hq
        · have hq := hq.2 hc
          refine V_iload hC dX4_holdPhase_37 7 rfl ?_
          refine V_aload_n hC dX4_holdPhase_39 1 rfl ?_
          refine V_aload_n hC dX4_holdPhase_40 2 rfl ?_
          refine V_aload_n hC dX4_holdPhase_41 3 rfl ?_
          refine clS_X4_isFree hG hC ss_X4_79 ⟨by decide, by decide⟩ (Nat.le_of_ble_eq_true rfl) ⟨by decide, by decide⟩ dX4_holdPhase_42 hq (fun r10 hq => ?_)
          show V G Γ 8 0 0 h3 45 [(0, .ref p0), (1, .ref p1), (2, .ref p2), (3, .ref p3), (4, .int p4), (5, .int p5), (6, .int x6_1), (7, .int x7_2)] [.int r10]
          refine V_if_eq (tgt := 100) hC dX4_holdPhase_45 (by decide) (fun hc => ?_) (fun hc => ?_)
          · have hq := hq.1 hc
            exact hq
          · have hq := hq.2 hc
            refine V_aload_n hC dX4_holdPhase_48 3 rfl ?_
            refine V_iload hC dX4_holdPhase_49 7 rfl ?_
            refine V_aload_n hC dX4_holdPhase_51 2 rfl ?_
            refine U_getR hC fl_X4_48 dX4_holdPhase_52 hq (fun v11 hq => ?_)
            refine V_iload hC dX4_holdPhase_55 7 rfl ?_
            obtain ⟨hz, hq⟩ := hq
            refine clV_X7_at hG hC sv_X4_44 ⟨by decide, by decide⟩ (Nat.le_of_ble_eq_true rfl) ⟨by decide, by decide⟩ dX4_holdPhase_57 hz hq (fun r12 hq => ?_)
            show V G Γ 8 0 0 h3 60 [(0, .ref p0), (1, .ref p1), (2, .ref p2), (3, .ref p3), (4, .int p4), (5, .int p5), (6, .int x6_1), (7, .int x7_2)] [.int r12, .int x7_2, .ref p3]
            obtain ⟨hz, hq⟩ := hq
            refine clV_X6_change hG hC sv_X4_64 ⟨by decide, by decide⟩ (Nat.le_of_ble_eq_true rfl) ⟨by decide, by decide⟩ dX4_holdPhase_60 hz hq (fun h13 hq => ?_)
            show V G Γ 8 0 0 h13 63 [(0, .ref p0), (1, .ref p1), (2, .ref p2), (3, .ref p3), (4, .int p4), (5, .int p5), (6, .int x6_1), (7, .int x7_2)] []
            refine V_iload hC dX4_holdPhase_63 7 rfl ?_
            refine V_aload_n hC dX4_holdPhase_65 1 rfl ?_
            refine V_aload_n hC dX4_holdPhase_66 2 rfl ?_
            refine V_aload_n hC dX4_holdPhase_67 3 rfl ?_
            refine clS_X4_silenceSecondariesNear hG hC ss_X4_83 ⟨by decide, by decide⟩ (Nat.le_of_ble_eq_true rfl) ⟨by decide, by decide⟩ dX4_holdPhase_68 hq (fun h14 hq => ?_)
            show V G Γ 8 0 0 h14 71 [(0, .ref p0), (1, .ref p1), (2, .ref p2), (3, .ref p3), (4, .int p4), (5, .int p5), (6, .int x6_1), (7, .int x7_2)] []
            refine V_aload_n hC dX4_holdPhase_71 0 rfl ?_
            refine U_getR hC fl_X4_14 dX4_holdPhase_72 hq (fun v15 hq => ?_)
            refine V_iload hC dX4_holdPhase_75 7 rfl ?_
            refine V_iload hC dX4_holdPhase_77 5 rfl ?_
            obtain ⟨hz, hq⟩ := hq
            refine clV_X7_put hG hC sv_X4_53 ⟨by decide, by decide⟩ (Nat.le_of_ble_eq_true rfl) ⟨by decide, by decide⟩ dX4_holdPhase_79 hz hq (fun h16 hq => ?_)
            show V G Γ 8 0 0 h16 82 [(0, .ref p0), (1, .ref p1), (2, .ref p2), (3, .ref p3), (4, .int p4), (5, .int p5), (6, .int x6_1), (7, .int x7_2)] []
            refine V_aload_n hC dX4_holdPhase_82 0 rfl ?_
            refine V_dup hC dX4_holdPhase_83 rfl ?_
            refine U_getI hC fl_X4_28 dX4_holdPhase_84 hq (fun v17 hq => ?_)
            refine V_iconst (v := 1) hC dX4_holdPhase_87 (by decide) ?_
            refine V_iload hC dX4_holdPhase_88 7 rfl ?_
            refine V_ishl hC dX4_holdPhase_90 ?_
            refine V_iconst (v := (-1)) hC dX4_holdPhase_91 (by decide) ?_
            refine V_ixor hC dX4_holdPhase_92 ?_
            refine V_iand hC dX4_holdPhase_93 ?_
            refine U_putO hC (by decide) fl_X4_28 fin_X4_3 rfl rfl dX4_holdPhase_94 hq (fun h18 hq => ?_)
            refine V_iinc (j := 6) (v := (x6_1 + 1)) (L' := [(0, .ref p0), (1, .ref p1), (2, .ref p2), (3, .ref p3), (4, .int p4), (5, .int p5), (6, .int (x6_1 + 1)), (7, .int x7_2)]) hC dX4_holdPhase_97 rfl rfl (by decide) [1, 2, 3, 4, 5, 6, 0, 7] rfl ?_
            exact hq)
  exact hq
theorem clV_X4_holdPhase {G : Gx} (hG : GOK G) {Γ : Cx} {own : String} {cc : ByteArray} {nL fr lo mc ms cells slots pc : Nat} {hh : List (Nat × Nat × Nat × Nat)} {h : hw} {L : List (Nat × Value)} {rest : List Value} (hC : COK G Γ own cc nL fr lo mc ms hh) {idx : Nat} (hs : SV own idx yX4_holdPhase cX4_holdPhase 8 (some .boolean) 5) {p0 : Nat} {p1 : Nat} {p2 : Nat} {p3 : Nat} {p4 : Int32} {p5 : Int32} (hR : 5 + 1 ≤ fr ∧ 8 + (8 + 11) + 124 ≤ lo) (hw8 : (rest.map fun v => v.category).sum ≤ 8) (hcs : cells + 0 ≤ mc ∧ slots + 0 ≤ ms) (hdg : decode cc pc = .ok (.invokevirtual idx, 3)) (ho : isO h p0 4) {post : Int32 → hw → Prop} (hq : wp_X4_holdPhase G p0 p1 p2 p3 p4 p5 h post) (kk : ∀ (r : Int32) (h1 : hw) , post r h1 → V G Γ nL (cells + 0) (slots + 0) h1 (pc + 3) L (.int r :: rest)) : V G Γ nL cells slots h pc L (.int p5 :: .int p4 :: .ref p3 :: .ref p2 :: .ref p1 :: .ref p0 :: rest) :=
  V_callV (As := [.ref p1, .ref p2, .ref p3, .int p4, .int p5]) (r9 := (RX4, TX4, 4)) hC (ct_X4_holdPhase hG p0 p1 p2 p3 p4 p5 h post hq) hs ho rfl rfl rfl hR hw8 hcs hdg (fun E h1 z => z.elim) (fun v h1 z => by obtain ⟨r, rfl, hz⟩ := z; exact kk r h1 hz)
set_option maxRecDepth 100000 in
set_option maxHeartbeats 4000000 in
theorem ct_X4_lowestWaitingOn {G : Gx} (hG : GOK G) (p0 : Nat) (p1 : Nat) (h0 : hw) (post : Int32 → Prop) (hq : wp_X4_lowestWaitingOn G p0 p1 h0 post) : CT G yX4_lowestWaitingOn cX4_lowestWaitingOn 3 (some .int) 2 51 0 0 [.ref p0, .ref p1] h0 (fun v h1 => ∃ r : Int32, v = some (.int r) ∧ h1 = h0 ∧ post r) (fun E h1 => False) := by
  refine CT_of hG (by decide) (Nat.le_of_ble_eq_true rfl) (fun Γ hC hQ hN => ?_)
  have hC : COK G Γ "Bandplan$Moving" cX4_lowestWaitingOn 3 2 51 0 0 [] := hC
  unfold wp_X4_lowestWaitingOn at hq
  show V G Γ 3 0 0 h0 0 [(0, .ref p0), (1, .ref p1)] []
  refine V_iconst (v := 0) hC dX4_lowestWaitingOn_0 (by decide) ?_
  refine V_istore_n (L' := [(0, .ref p0), (1, .ref p1), (2, .int 0)]) hC dX4_lowestWaitingOn_1 rfl (by decide) [1, 2, 0] rfl ?_
  have hq := hq (fun (x2_1 : Int32) => V G Γ 3 0 0 h0 2 [(0, .ref p0), (1, .ref p1), (2, .int x2_1)] []) (by
    intro x2_1 hq
    show V G Γ 3 0 0 h0 2 [(0, .ref p0), (1, .ref p1), (2, .int x2_1)] []
    refine V_iload_n hC dX4_lowestWaitingOn_2 2 rfl ?_
    refine V_bipush (v := 8) hC dX4_lowestWaitingOn_3 (by decide) ?_
    refine V_icmp_ge (tgt := 39) hC dX4_lowestWaitingOn_5 (by decide) (fun hc => ?_) (fun hc => ?_)
    · have hq := hq.1 hc
      refine V_iconst (v := (-1)) hC dX4_lowestWaitingOn_39 (by decide) ?_
      exact V_iret hC hQ rfl rfl ⟨by decide, by decide⟩ dX4_lowestWaitingOn_40 ⟨_, rfl, rfl, hq⟩
    · have hq := hq.2 hc
      refine V_iload_n hC dX4_lowestWaitingOn_8 2 rfl ?_
      refine V_aload_n hC dX4_lowestWaitingOn_9 0 rfl ?_
      refine U_getI hC fl_X4_28 dX4_lowestWaitingOn_10 hq (fun v2 hq => ?_)
      refine clSN_X11_isIn hG hC ssn_X4_35 ⟨by decide, by decide⟩ (Nat.le_of_ble_eq_true rfl) ⟨by decide, by decide⟩ dX4_lowestWaitingOn_13 hq (fun r3 hq => ?_)
      show V G Γ 3 0 0 h0 16 [(0, .ref p0), (1, .ref p1), (2, .int x2_1)] [.int r3]
      have hq := hq (V G Γ 3 0 0 h0 33 [(0, .ref p0), (1, .ref p1), (2, .int x2_1)] []) (by
        intro hq
        show V G Γ 3 0 0 h0 33 [(0, .ref p0), (1, .ref p1), (2, .int x2_1)] []
        refine V_iinc (j := 2) (v := (x2_1 + 1)) (L' := [(0, .ref p0), (1, .ref p1), (2, .int (x2_1 + 1))]) hC dX4_lowestWaitingOn_33 rfl rfl (by decide) [1, 2, 0] rfl ?_
        refine V_goto (tgt := 2) hC dX4_lowestWaitingOn_36 (by decide) ?_
        exact hq)
      refine V_if_eq (tgt := 33) hC dX4_lowestWaitingOn_16 (by decide) (fun hc => ?_) (fun hc => ?_)
      · have hq := hq.1 hc
        exact hq
      · have hq := hq.2 hc
        refine V_aload_n hC dX4_lowestWaitingOn_19 1 rfl ?_
        refine U_getR hC fl_X4_39 dX4_lowestWaitingOn_20 hq (fun v4 hq => ?_)
        refine V_iload_n hC dX4_lowestWaitingOn_23 2 rfl ?_
        obtain ⟨hz, hq⟩ := hq
        refine clV_X7_at hG hC sv_X4_44 ⟨by decide, by decide⟩ (Nat.le_of_ble_eq_true rfl) ⟨by decide, by decide⟩ dX4_lowestWaitingOn_24 hz hq (fun r5 hq => ?_)
        show V G Γ 3 0 0 h0 27 [(0, .ref p0), (1, .ref p1), (2, .int x2_1)] [.int r5]
        refine V_iconst (v := (-1)) hC dX4_lowestWaitingOn_27 (by decide) ?_
        refine V_icmp_eq (tgt := 33) hC dX4_lowestWaitingOn_28 (by decide) (fun hc => ?_) (fun hc => ?_)
        · have hq := hq.1 hc
          exact hq
        · have hq := hq.2 hc
          refine V_iload_n hC dX4_lowestWaitingOn_31 2 rfl ?_
          exact V_iret hC hQ rfl rfl ⟨by decide, by decide⟩ dX4_lowestWaitingOn_32 ⟨_, rfl, rfl, hq⟩)
  exact hq
theorem clV_X4_lowestWaitingOn {G : Gx} (hG : GOK G) {Γ : Cx} {own : String} {cc : ByteArray} {nL fr lo mc ms cells slots pc : Nat} {hh : List (Nat × Nat × Nat × Nat)} {h : hw} {L : List (Nat × Value)} {rest : List Value} (hC : COK G Γ own cc nL fr lo mc ms hh) {idx : Nat} (hs : SV own idx yX4_lowestWaitingOn cX4_lowestWaitingOn 3 (some .int) 1) {p0 : Nat} {p1 : Nat} (hR : 2 + 1 ≤ fr ∧ 8 + (3 + 11) + 51 ≤ lo) (hw8 : (rest.map fun v => v.category).sum ≤ 8) (hcs : cells + 0 ≤ mc ∧ slots + 0 ≤ ms) (hdg : decode cc pc = .ok (.invokevirtual idx, 3)) (ho : isO h p0 4) {post : Int32 → Prop} (hq : wp_X4_lowestWaitingOn G p0 p1 h post) (kk : ∀ (r : Int32) , post r → V G Γ nL (cells + 0) (slots + 0) h (pc + 3) L (.int r :: rest)) : V G Γ nL cells slots h pc L (.ref p1 :: .ref p0 :: rest) :=
  V_callV (As := [.ref p1]) (r9 := (RX4, TX4, 4)) hC (ct_X4_lowestWaitingOn hG p0 p1 h post hq) hs ho rfl rfl rfl hR hw8 hcs hdg (fun E h1 z => z.elim) (fun v h1 z => by obtain ⟨r, rfl, rfl, hz⟩ := z; exact kk r hz)
set_option maxRecDepth 100000 in
set_option maxHeartbeats 4000000 in
theorem ct_X4_run {G : Gx} (hG : GOK G) (p0 : Nat) (p1 : Nat) (p2 : Nat) (p3 : Nat) (p4 : Int32) (h0 : hw) (post : Int32 → hw → Prop) (hq : wp_X4_run G p0 p1 p2 p3 p4 h0 post) : CT G yX4_run cX4_run 7 (some .int) 6 151 0 0 [.ref p0, .ref p1, .ref p2, .ref p3, .int p4] h0 (fun v h1 => ∃ r : Int32, v = some (.int r) ∧ post r h1) (fun E h1 => False) := by
  refine CT_of hG (by decide) (Nat.le_of_ble_eq_true rfl) (fun Γ hC hQ hN => ?_)
  have hC : COK G Γ "Bandplan$Moving" cX4_run 7 6 151 0 0 [] := hC
  unfold wp_X4_run at hq
  show V G Γ 7 0 0 h0 0 [(0, .ref p0), (1, .ref p1), (2, .ref p2), (3, .ref p3), (4, .int p4)] []
  refine V_iconst (v := 0) hC dX4_run_0 (by decide) ?_
  refine V_istore (L' := [(0, .ref p0), (1, .ref p1), (2, .ref p2), (3, .ref p3), (4, .int p4), (5, .int 0)]) hC dX4_run_1 (by decide) [1, 2, 3, 4, 5, 0] rfl ?_
  have hq := hq (fun (x5_1 : Int32) (h2 : hw) => V G Γ 7 0 0 h2 3 [(0, .ref p0), (1, .ref p1), (2, .ref p2), (3, .ref p3), (4, .int p4), (5, .int x5_1)] []) (by
    intro x5_1 h2 hq
    show V G Γ 7 0 0 h2 3 [(0, .ref p0), (1, .ref p1), (2, .ref p2), (3, .ref p3), (4, .int p4), (5, .int x5_1)] []
    refine V_iload hC dX4_run_3 5 rfl ?_
    refine V_bipush (v := 16) hC dX4_run_5 (by decide) ?_
    refine V_icmp_ge (tgt := 72) hC dX4_run_7 (by decide) (fun hc => ?_) (fun hc => ?_)
    · have hq := hq.1 hc
      refine V_iload hC dX4_run_72 5 rfl ?_
      exact V_iret hC hQ rfl rfl ⟨by decide, by decide⟩ dX4_run_74 ⟨_, rfl, hq⟩
    · have hq := hq.2 hc
      refine V_aload_n hC dX4_run_10 0 rfl ?_
      refine U_getI hC fl_X4_28 dX4_run_11 hq (fun v3 hq => ?_)
      refine V_if_eq (tgt := 72) hC dX4_run_14 (by decide) (fun hc => ?_) (fun hc => ?_)
      · have hq := hq.1 hc
        refine V_iload hC dX4_run_72 5 rfl ?_
        exact V_iret hC hQ rfl rfl ⟨by decide, by decide⟩ dX4_run_74 ⟨_, rfl, hq⟩
      · have hq := hq.2 hc
        refine V_aload_n hC dX4_run_17 0 rfl ?_
        refine V_aload_n hC dX4_run_18 1 rfl ?_
        refine V_aload_n hC dX4_run_19 2 rfl ?_
        refine V_aload_n hC dX4_run_20 3 rfl ?_
        refine V_iload hC dX4_run_21 4 rfl ?_
        refine V_iload hC dX4_run_23 5 rfl ?_
        refine V_iconst (v := 1) hC dX4_run_25 (by decide) ?_
        refine V_iadd hC dX4_run_26 ?_
        obtain ⟨hz, hq⟩ := hq
        refine clV_X4_holdPhase hG hC sv_X4_56 ⟨by decide, by decide⟩ (Nat.le_of_ble_eq_true rfl) ⟨by decide, by decide⟩ dX4_run_27 hz hq (fun r4 h5 hq => ?_)
        show V G Γ 7 0 0 h5 30 [(0, .ref p0), (1, .ref p1), (2, .ref p2), (3, .ref p3), (4, .int p4), (5, .int x5_1)] [.int r4]
        have hq := hq (fun (h6 : hw) => V G Γ 7 0 0 h6 66 [(0, .ref p0), (1, .ref p1), (2, .ref p2), (3, .ref p3), (4, .int p4), (5, .int x5_1)] []) (by
          intro h6 hq
          show V G Γ 7 0 0 h6 66 [(0, .ref p0), (1, .ref p1), (2, .ref p2), (3, .ref p3), (4, .int p4), (5, .int x5_1)] []
          refine V_iinc (j := 5) (v := (x5_1 + 1)) (L' := [(0, .ref p0), (1, .ref p1), (2, .ref p2), (3, .ref p3), (4, .int p4), (5, .int (x5_1 + 1))]) hC dX4_run_66 rfl rfl (by decide) [1, 2, 3, 4, 5, 0] rfl ?_
          refine V_goto (tgt := 3) hC dX4_run_69 (by decide) ?_
          exact hq)
        refine V_if_ne (tgt := 66) hC dX4_run_30 (by decide) (fun hc => ?_) (fun hc => ?_)
        · have hq := hq.1 hc
          exact hq
        · have hq := hq.2 hc
          refine V_aload_n hC dX4_run_33 0 rfl ?_
          refine V_aload_n hC dX4_run_34 3 rfl ?_
          obtain ⟨hz, hq⟩ := hq
          refine clV_X4_lowestWaitingOn hG hC sv_X4_60 ⟨by decide, by decide⟩ (Nat.le_of_ble_eq_true rfl) ⟨by decide, by decide⟩ dX4_run_35 hz hq (fun r7 hq => ?_)
          show V G Γ 7 0 0 h5 38 [(0, .ref p0), (1, .ref p1), (2, .ref p2), (3, .ref p3), (4, .int p4), (5, .int x5_1)] [.int r7]
          refine V_istore (L' := [(0, .ref p0), (1, .ref p1), (2, .ref p2), (3, .ref p3), (4, .int p4), (5, .int x5_1), (6, .int r7)]) hC dX4_run_38 (by decide) [1, 2, 3, 4, 5, 6, 0] rfl ?_
          refine V_iload hC dX4_run_40 6 rfl ?_
          refine V_iconst (v := (-1)) hC dX4_run_42 (by decide) ?_
          refine V_icmp_ne (tgt := 49) hC dX4_run_43 (by decide) (fun hc => ?_) (fun hc => ?_)
          · have hq := hq.1 hc
            refine V_aload_n hC dX4_run_49 3 rfl ?_
            refine V_iload hC dX4_run_50 6 rfl ?_
            refine V_iconst (v := (-1)) hC dX4_run_52 (by decide) ?_
            obtain ⟨hz, hq⟩ := hq
            refine clV_X6_change hG hC sv_X4_64 ⟨by decide, by decide⟩ (Nat.le_of_ble_eq_true rfl) ⟨by decide, by decide⟩ dX4_run_53 hz hq (fun h8 hq => ?_)
            show V G Γ 7 0 0 h8 56 [(0, .ref p0), (1, .ref p1), (2, .ref p2), (3, .ref p3), (4, .int p4), (5, .int x5_1), (6, .int r7)] []
            refine V_aload_n hC dX4_run_56 0 rfl ?_
            refine V_dup hC dX4_run_57 rfl ?_
            refine U_getI hC fl_X4_24 dX4_run_58 hq (fun v9 hq => ?_)
            refine V_iconst (v := 1) hC dX4_run_61 (by decide) ?_
            refine V_iadd hC dX4_run_62 ?_
            refine U_putO hC (by decide) fl_X4_24 fin_X4_2 rfl rfl dX4_run_63 hq (fun h10 hq => ?_)
            refine V_sub [0, 1, 2, 3, 4, 5] rfl ?_
            exact hq
          · have hq := hq.2 hc
            refine V_iload hC dX4_run_46 5 rfl ?_
            exact V_iret hC hQ rfl rfl ⟨by decide, by decide⟩ dX4_run_48 ⟨_, rfl, hq⟩)
  exact hq
theorem clV_X4_run {G : Gx} (hG : GOK G) {Γ : Cx} {own : String} {cc : ByteArray} {nL fr lo mc ms cells slots pc : Nat} {hh : List (Nat × Nat × Nat × Nat)} {h : hw} {L : List (Nat × Value)} {rest : List Value} (hC : COK G Γ own cc nL fr lo mc ms hh) {idx : Nat} (hs : SV own idx yX4_run cX4_run 7 (some .int) 4) {p0 : Nat} {p1 : Nat} {p2 : Nat} {p3 : Nat} {p4 : Int32} (hR : 6 + 1 ≤ fr ∧ 8 + (7 + 11) + 151 ≤ lo) (hw8 : (rest.map fun v => v.category).sum ≤ 8) (hcs : cells + 0 ≤ mc ∧ slots + 0 ≤ ms) (hdg : decode cc pc = .ok (.invokevirtual idx, 3)) (ho : isO h p0 4) {post : Int32 → hw → Prop} (hq : wp_X4_run G p0 p1 p2 p3 p4 h post) (kk : ∀ (r : Int32) (h1 : hw) , post r h1 → V G Γ nL (cells + 0) (slots + 0) h1 (pc + 3) L (.int r :: rest)) : V G Γ nL cells slots h pc L (.int p4 :: .ref p3 :: .ref p2 :: .ref p1 :: .ref p0 :: rest) :=
  V_callV (As := [.ref p1, .ref p2, .ref p3, .int p4]) (r9 := (RX4, TX4, 4)) hC (ct_X4_run hG p0 p1 p2 p3 p4 h post hq) hs ho rfl rfl rfl hR hw8 hcs hdg (fun E h1 z => z.elim) (fun v h1 z => by obtain ⟨r, rfl, hz⟩ := z; exact kk r h1 hz)
set_option maxRecDepth 100000 in
set_option maxHeartbeats 4000000 in
theorem ct_X5_init {G : Gx} (hG : GOK G) (p0 : Nat) (h0 : hw) (post : hw → Prop) (hq : wp_X5_init G p0 h0 post) : CT G yX5_init cX5_init 1 none 3 83 6 331 [.ref p0] h0 (fun v h1 => v = none ∧ post h1) (fun E h1 => False) := by
  refine CT_of hG (by decide) (Nat.le_of_ble_eq_true rfl) (fun Γ hC hQ hN => ?_)
  have hC : COK G Γ "Bandplan$Packer" cX5_init 1 3 83 6 331 [] := hC
  have hin := HIN hN rfl
  unfold wp_X5_init at hq
  show V G Γ 1 0 0 h0 0 [(0, .ref p0)] []
  refine V_aload_n hC dX5_init_0 0 rfl ?_
  refine V_objInit hC so_X5_3 (by decide) (Nat.le_of_ble_eq_true rfl) dX5_init_1 ?_
  refine V_aload_n hC dX5_init_4 0 rfl ?_
  refine U_new hC no_X5_9 ⟨by decide, by decide⟩ dX5_init_5 hq (fun a1 h2 hq => ?_)
  refine V_dup hC dX5_init_8 rfl ?_
  refine V_bipush (v := 8) hC dX5_init_9 (by decide) ?_
  refine V_iconst (v := (-1)) hC dX5_init_11 (by decide) ?_
  refine clI_X7_init hG hC si_X5_11 ⟨by decide, by decide⟩ (Nat.le_of_ble_eq_true rfl) ⟨by decide, by decide⟩ dX5_init_12 hq (fun h3 hq => ?_)
  show V G Γ 1 2 9 h3 15 [(0, .ref p0)] [.ref a1, .ref p0]
  refine U_putF hC (Or.inl (by decide)) fl_X5_14 fin_X5_0 hin rfl rfl dX5_init_15 hq (fun h4 hq => ?_)
  refine V_aload_n hC dX5_init_18 0 rfl ?_
  refine U_new hC no_X5_9 ⟨by decide, by decide⟩ dX5_init_19 hq (fun a5 h6 hq => ?_)
  refine V_dup hC dX5_init_22 rfl ?_
  refine V_bipush (v := 64) hC dX5_init_23 (by decide) ?_
  refine V_iconst (v := 0) hC dX5_init_25 (by decide) ?_
  refine clI_X7_init hG hC si_X5_11 ⟨by decide, by decide⟩ (Nat.le_of_ble_eq_true rfl) ⟨by decide, by decide⟩ dX5_init_26 hq (fun h7 hq => ?_)
  show V G Γ 1 4 74 h7 29 [(0, .ref p0)] [.ref a5, .ref p0]
  refine U_putF hC (Or.inl (by decide)) fl_X5_20 fin_X5_1 hin rfl rfl dX5_init_29 hq (fun h8 hq => ?_)
  refine V_aload_n hC dX5_init_32 0 rfl ?_
  refine U_new hC no_X5_9 ⟨by decide, by decide⟩ dX5_init_33 hq (fun a9 h10 hq => ?_)
  refine V_dup hC dX5_init_36 rfl ?_
  refine V_sipush (v := 256) hC dX5_init_37 (by decide) ?_
  refine V_iconst (v := 0) hC dX5_init_40 (by decide) ?_
  refine clI_X7_init hG hC si_X5_11 ⟨by decide, by decide⟩ (Nat.le_of_ble_eq_true rfl) ⟨by decide, by decide⟩ dX5_init_41 hq (fun h11 hq => ?_)
  show V G Γ 1 6 331 h11 44 [(0, .ref p0)] [.ref a9, .ref p0]
  refine U_putF hC (Or.inl (by decide)) fl_X5_23 fin_X5_2 hin rfl rfl dX5_init_44 hq (fun h12 hq => ?_)
  exact V_vret hC hQ ⟨by decide, by decide⟩ dX5_init_47 ⟨rfl, hq⟩
theorem clIN_X5_init {G : Gx} (hG : GOK G) {Γ : Cx} {own : String} {cc : ByteArray} {nL fr lo mc ms cells slots pc : Nat} {hh : List (Nat × Nat × Nat × Nat)} {h : hw} {L : List (Nat × Value)} {rest : List Value} (hC : COK G Γ own cc nL fr lo mc ms hh) {idx : Nat} {host : String} (hs : SIN own idx yX5_init host cX5_init 1 0) {p0 : Nat} (hR : 3 + 1 ≤ fr ∧ 8 + (1 + 11) + 83 ≤ lo) (hw8 : (rest.map fun v => v.category).sum ≤ 8) (hcs : cells + 6 ≤ mc ∧ slots + 331 ≤ ms) (hdg : decode cc pc = .ok (.invokespecial idx, 3)) {post : hw → Prop} (hq : wp_X5_init G p0 h post) (kk : ∀ (h1 : hw) , post h1 → V G Γ nL (cells + 6) (slots + 331) h1 (pc + 3) L (rest)) : V G Γ nL cells slots h pc L (.ref p0 :: rest) :=
  V_callIN (As := []) hC (ct_X5_init hG p0 h post hq) hs rfl hR hw8 hcs hdg (fun E h1 z => z.elim) (fun v h1 z => by obtain ⟨rfl, hz⟩ := z; exact kk h1 hz)
set_option maxRecDepth 100000 in
set_option maxHeartbeats 4000000 in
theorem ct_X5_leastSpacing {G : Gx} (hG : GOK G) (p0 : Nat) (p1 : Nat) (p2 : Nat) (h0 : hw) (post : Int32 → Prop) (hq : wp_X5_leastSpacing G p0 p1 p2 h0 post) : CT G yX5_leastSpacing cX5_leastSpacing 4 (some .int) 6 143 0 0 [.ref p0, .ref p1, .ref p2] h0 (fun v h1 => ∃ r : Int32, v = some (.int r) ∧ h1 = h0 ∧ post r) (fun E h1 => False) := by
  refine CT_of hG (by decide) (Nat.le_of_ble_eq_true rfl) (fun Γ hC hQ hN => ?_)
  have hC : COK G Γ "Bandplan$Packer" cX5_leastSpacing 4 6 143 0 0 [] := hC
  unfold wp_X5_leastSpacing at hq
  show V G Γ 4 0 0 h0 0 [(0, .ref p0), (1, .ref p1), (2, .ref p2)] []
  refine V_iconst (v := 0) hC dX5_leastSpacing_0 (by decide) ?_
  refine V_istore_n (L' := [(0, .ref p0), (1, .ref p1), (2, .ref p2), (3, .int 0)]) hC dX5_leastSpacing_1 rfl (by decide) [1, 2, 3, 0] rfl ?_
  have hq := hq (fun (x3_1 : Int32) => V G Γ 4 0 0 h0 2 [(0, .ref p0), (1, .ref p1), (2, .ref p2), (3, .int x3_1)] []) (by
    intro x3_1 hq
    show V G Γ 4 0 0 h0 2 [(0, .ref p0), (1, .ref p1), (2, .ref p2), (3, .int x3_1)] []
    refine V_iload_n hC dX5_leastSpacing_2 3 rfl ?_
    refine V_iconst (v := 3) hC dX5_leastSpacing_3 (by decide) ?_
    refine V_icmp_ge (tgt := 23) hC dX5_leastSpacing_4 (by decide) (fun hc => ?_) (fun hc => ?_)
    · have hq := hq.1 hc
      refine V_iload_n hC dX5_leastSpacing_23 3 rfl ?_
      exact V_iret hC hQ rfl rfl ⟨by decide, by decide⟩ dX5_leastSpacing_24 ⟨_, rfl, rfl, hq⟩
    · have hq := hq.2 hc
      refine V_aload_n hC dX5_leastSpacing_7 0 rfl ?_
      refine V_aload_n hC dX5_leastSpacing_8 1 rfl ?_
      refine V_aload_n hC dX5_leastSpacing_9 2 rfl ?_
      refine V_iload_n hC dX5_leastSpacing_10 3 rfl ?_
      obtain ⟨hz, hq⟩ := hq
      refine clV_X0_barEachOther hG hC sv_X5_87 ⟨by decide, by decide⟩ (Nat.le_of_ble_eq_true rfl) ⟨by decide, by decide⟩ dX5_leastSpacing_11 hz hq (fun r2 hq => ?_)
      show V G Γ 4 0 0 h0 14 [(0, .ref p0), (1, .ref p1), (2, .ref p2), (3, .int x3_1)] [.int r2]
      refine V_if_eq (tgt := 23) hC dX5_leastSpacing_14 (by decide) (fun hc => ?_) (fun hc => ?_)
      · have hq := hq.1 hc
        refine V_iload_n hC dX5_leastSpacing_23 3 rfl ?_
        exact V_iret hC hQ rfl rfl ⟨by decide, by decide⟩ dX5_leastSpacing_24 ⟨_, rfl, rfl, hq⟩
      · have hq := hq.2 hc
        refine V_iinc (j := 3) (v := (x3_1 + 1)) (L' := [(0, .ref p0), (1, .ref p1), (2, .ref p2), (3, .int (x3_1 + 1))]) hC dX5_leastSpacing_17 rfl rfl (by decide) [1, 2, 3, 0] rfl ?_
        refine V_goto (tgt := 2) hC dX5_leastSpacing_20 (by decide) ?_
        exact hq)
  exact hq
theorem clS_X5_leastSpacing {G : Gx} (hG : GOK G) {Γ : Cx} {own : String} {cc : ByteArray} {nL fr lo mc ms cells slots pc : Nat} {hh : List (Nat × Nat × Nat × Nat)} {h : hw} {L : List (Nat × Value)} {rest : List Value} (hC : COK G Γ own cc nL fr lo mc ms hh) {idx : Nat} (hs : SS own idx yX5_leastSpacing cX5_leastSpacing 4 (some .int) 3) {p0 : Nat} {p1 : Nat} {p2 : Nat} (hR : 6 + 1 ≤ fr ∧ 8 + (4 + 11) + 143 ≤ lo) (hw8 : (rest.map fun v => v.category).sum ≤ 8) (hcs : cells + 0 ≤ mc ∧ slots + 0 ≤ ms) (hdg : decode cc pc = .ok (.invokestatic idx, 3)) {post : Int32 → Prop} (hq : wp_X5_leastSpacing G p0 p1 p2 h post) (kk : ∀ (r : Int32) , post r → V G Γ nL (cells + 0) (slots + 0) h (pc + 3) L (.int r :: rest)) : V G Γ nL cells slots h pc L (.ref p2 :: .ref p1 :: .ref p0 :: rest) :=
  V_callS (As := [.ref p0, .ref p1, .ref p2]) hC (ct_X5_leastSpacing hG p0 p1 p2 h post hq) hs rfl hR hw8 hcs hdg (fun E h1 z => z.elim) (fun v h1 z => by obtain ⟨r, rfl, rfl, hz⟩ := z; exact kk r hz)
set_option maxRecDepth 100000 in
set_option maxHeartbeats 4000000 in
theorem ct_X5_prepare {G : Gx} (hG : GOK G) (p0 : Nat) (p1 : Nat) (p2 : Int32) (h0 : hw) (post : hw → Prop) (hq : wp_X5_prepare G p0 p1 p2 h0 post) : CT G yX5_prepare cX5_prepare 6 none 7 166 0 0 [.ref p0, .ref p1, .int p2] h0 (fun v h1 => v = none ∧ post h1) (fun E h1 => False) := by
  refine CT_of hG (by decide) (Nat.le_of_ble_eq_true rfl) (fun Γ hC hQ hN => ?_)
  have hC : COK G Γ "Bandplan$Packer" cX5_prepare 6 7 166 0 0 [] := hC
  unfold wp_X5_prepare at hq
  show V G Γ 6 0 0 h0 0 [(0, .ref p0), (1, .ref p1), (2, .int p2)] []
  refine V_aload_n hC dX5_prepare_0 0 rfl ?_
  refine V_iload_n hC dX5_prepare_1 2 rfl ?_
  refine U_putO hC (by decide) fl_X5_26 fin_X5_3 rfl rfl dX5_prepare_2 hq (fun h1 hq => ?_)
  refine V_aload_n hC dX5_prepare_5 0 rfl ?_
  refine U_getR hC fl_X5_23 dX5_prepare_6 hq (fun v2 hq => ?_)
  refine V_iconst (v := 0) hC dX5_prepare_9 (by decide) ?_
  obtain ⟨hz, hq⟩ := hq
  refine clV_X7_fillWith hG hC sv_X5_30 ⟨by decide, by decide⟩ (Nat.le_of_ble_eq_true rfl) ⟨by decide, by decide⟩ dX5_prepare_10 hz hq (fun h3 hq => ?_)
  show V G Γ 6 0 0 h3 13 [(0, .ref p0), (1, .ref p1), (2, .int p2)] []
  refine V_iconst (v := 0) hC dX5_prepare_13 (by decide) ?_
  refine V_istore_n (L' := [(0, .ref p0), (1, .ref p1), (2, .int p2), (3, .int 0)]) hC dX5_prepare_14 rfl (by decide) [1, 2, 3, 0] rfl ?_
  have hq := hq (fun (x3_4 : Int32) (h5 : hw) => V G Γ 6 0 0 h5 15 [(0, .ref p0), (1, .ref p1), (3, .int x3_4)] []) (by
    intro x3_4 h5 hq
    show V G Γ 6 0 0 h5 15 [(0, .ref p0), (1, .ref p1), (3, .int x3_4)] []
    refine V_iload_n hC dX5_prepare_15 2 rfl ?_
    refine V_aload_n hC dX5_prepare_16 1 rfl ?_
    refine U_getR hC fl_X5_34 dX5_prepare_17 hq (fun v6 hq => ?_)
    obtain ⟨hz, hq⟩ := hq
    refine clV_Jx4a65c_size_8abf5 hG hC sv_X5_40 ⟨by decide, by decide⟩ (Nat.le_of_ble_eq_true rfl) ⟨by decide, by decide⟩ dX5_prepare_20 hz hq (fun r7 hq => ?_)
    show V G Γ 6 0 0 h5 23 [(0, .ref p0), (1, .ref p1), (3, .int x3_4)] [.int r7, .int x3_4]
    refine V_icmp_ge (tgt := 108) hC dX5_prepare_23 (by decide) (fun hc => ?_) (fun hc => ?_)
    · have hq := hq.1 hc
      exact V_vret hC hQ ⟨by decide, by decide⟩ dX5_prepare_108 ⟨rfl, hq⟩
    · have hq := hq.2 hc
      refine V_iconst (v := 0) hC dX5_prepare_26 (by decide) ?_
      refine V_istore (L' := [(0, .ref p0), (1, .ref p1), (3, .int x3_4), (4, .int 0)]) hC dX5_prepare_27 (by decide) [1, 2, 3, 0] rfl ?_
      have hq := hq (fun (x4_8 : Int32) (h9 : hw) => V G Γ 6 0 0 h9 29 [(0, .ref p0), (1, .ref p1), (3, .int x3_4), (4, .int x4_8)] []) (by
        intro x4_8 h9 hq
        show V G Γ 6 0 0 h9 29 [(0, .ref p0), (1, .ref p1), (3, .int x3_4), (4, .int x4_8)] []
        refine V_iload hC dX5_prepare_29 3 rfl ?_
        refine V_iload_n hC dX5_prepare_31 2 rfl ?_
        refine V_icmp_ge (tgt := 102) hC dX5_prepare_32 (by decide) (fun hc => ?_) (fun hc => ?_)
        · have hq := hq.1 hc
          refine V_iinc (j := 2) (v := (x3_4 + 1)) (L' := [(0, .ref p0), (1, .ref p1), (3, .int (x3_4 + 1)), (4, .int x4_8)]) hC dX5_prepare_102 rfl rfl (by decide) [1, 2, 0, 3] rfl ?_
          refine V_goto (tgt := 15) hC dX5_prepare_105 (by decide) ?_
          refine V_sub [0, 1, 2] rfl ?_
          exact hq
        · have hq := hq.2 hc
          refine V_aload_n hC dX5_prepare_35 1 rfl ?_
          refine V_aload_n hC dX5_prepare_36 1 rfl ?_
          refine U_getR hC fl_X5_34 dX5_prepare_37 hq (fun v10 hq => ?_)
          refine V_iload_n hC dX5_prepare_40 2 rfl ?_
          obtain ⟨hz, hq⟩ := hq
          refine clV_Jx4a65c_get_915e3 hG hC sv_X5_46 ⟨by decide, by decide⟩ (Nat.le_of_ble_eq_true rfl) ⟨by decide, by decide⟩ dX5_prepare_41 hz hq (fun r11 hq => ?_)
          show V G Γ 6 0 0 h9 44 [(0, .ref p0), (1, .ref p1), (3, .int x3_4), (4, .int x4_8)] [.ref r11, .ref p1]
          obtain ⟨hz, hq⟩ := hq
          refine V_cast (r9 := (RX10, TX10, 6)) hC aw_4_147 rfl hz dX5_prepare_44 ?_
          refine V_aload_n hC dX5_prepare_47 1 rfl ?_
          refine U_getR hC fl_X5_34 dX5_prepare_48 hq (fun v12 hq => ?_)
          refine V_iload hC dX5_prepare_51 3 rfl ?_
          obtain ⟨hz, hq⟩ := hq
          refine clV_Jx4a65c_get_915e3 hG hC sv_X5_46 ⟨by decide, by decide⟩ (Nat.le_of_ble_eq_true rfl) ⟨by decide, by decide⟩ dX5_prepare_53 hz hq (fun r13 hq => ?_)
          show V G Γ 6 0 0 h9 56 [(0, .ref p0), (1, .ref p1), (3, .int x3_4), (4, .int x4_8)] [.ref r13, .ref r11, .ref p1]
          obtain ⟨hz, hq⟩ := hq
          refine V_cast (r9 := (RX10, TX10, 6)) hC aw_4_147 rfl hz dX5_prepare_56 ?_
          refine clS_X5_leastSpacing hG hC ss_X5_52 ⟨by decide, by decide⟩ (Nat.le_of_ble_eq_true rfl) ⟨by decide, by decide⟩ dX5_prepare_59 hq (fun r14 hq => ?_)
          show V G Γ 6 0 0 h9 62 [(0, .ref p0), (1, .ref p1), (3, .int x3_4), (4, .int x4_8)] [.int r14]
          refine V_istore (L' := [(0, .ref p0), (1, .ref p1), (3, .int x3_4), (4, .int x4_8), (5, .int r14)]) hC dX5_prepare_62 (by decide) [1, 2, 3, 4, 0] rfl ?_
          refine V_aload_n hC dX5_prepare_64 0 rfl ?_
          refine U_getR hC fl_X5_20 dX5_prepare_65 hq (fun v15 hq => ?_)
          refine V_iload_n hC dX5_prepare_68 2 rfl ?_
          refine V_bipush (v := 8) hC dX5_prepare_69 (by decide) ?_
          refine V_imul hC dX5_prepare_71 ?_
          refine V_iload hC dX5_prepare_72 3 rfl ?_
          refine V_iadd hC dX5_prepare_74 ?_
          refine V_iload hC dX5_prepare_75 4 rfl ?_
          obtain ⟨hz, hq⟩ := hq
          refine clV_X7_put hG hC sv_X5_56 ⟨by decide, by decide⟩ (Nat.le_of_ble_eq_true rfl) ⟨by decide, by decide⟩ dX5_prepare_77 hz hq (fun h16 hq => ?_)
          show V G Γ 6 0 0 h16 80 [(0, .ref p0), (1, .ref p1), (3, .int x3_4), (4, .int x4_8), (5, .int r14)] []
          refine V_aload_n hC dX5_prepare_80 0 rfl ?_
          refine U_getR hC fl_X5_20 dX5_prepare_81 hq (fun v17 hq => ?_)
          refine V_iload hC dX5_prepare_84 3 rfl ?_
          refine V_bipush (v := 8) hC dX5_prepare_86 (by decide) ?_
          refine V_imul hC dX5_prepare_88 ?_
          refine V_iload_n hC dX5_prepare_89 2 rfl ?_
          refine V_iadd hC dX5_prepare_90 ?_
          refine V_iload hC dX5_prepare_91 4 rfl ?_
          obtain ⟨hz, hq⟩ := hq
          refine clV_X7_put hG hC sv_X5_56 ⟨by decide, by decide⟩ (Nat.le_of_ble_eq_true rfl) ⟨by decide, by decide⟩ dX5_prepare_93 hz hq (fun h18 hq => ?_)
          show V G Γ 6 0 0 h18 96 [(0, .ref p0), (1, .ref p1), (3, .int x3_4), (4, .int x4_8), (5, .int r14)] []
          refine V_iinc (j := 3) (v := (x4_8 + 1)) (L' := [(0, .ref p0), (1, .ref p1), (3, .int x3_4), (4, .int (x4_8 + 1)), (5, .int r14)]) hC dX5_prepare_96 rfl rfl (by decide) [1, 2, 3, 0, 4] rfl ?_
          refine V_goto (tgt := 29) hC dX5_prepare_99 (by decide) ?_
          refine V_sub [0, 1, 2, 3] rfl ?_
          exact hq)
      exact hq)
  refine V_sub [0, 1, 3] rfl ?_
  exact hq
theorem clV_X5_prepare {G : Gx} (hG : GOK G) {Γ : Cx} {own : String} {cc : ByteArray} {nL fr lo mc ms cells slots pc : Nat} {hh : List (Nat × Nat × Nat × Nat)} {h : hw} {L : List (Nat × Value)} {rest : List Value} (hC : COK G Γ own cc nL fr lo mc ms hh) {idx : Nat} (hs : SV own idx yX5_prepare cX5_prepare 6 none 2) {p0 : Nat} {p1 : Nat} {p2 : Int32} (hR : 7 + 1 ≤ fr ∧ 8 + (6 + 11) + 166 ≤ lo) (hw8 : (rest.map fun v => v.category).sum ≤ 8) (hcs : cells + 0 ≤ mc ∧ slots + 0 ≤ ms) (hdg : decode cc pc = .ok (.invokevirtual idx, 3)) (ho : isO h p0 5) {post : hw → Prop} (hq : wp_X5_prepare G p0 p1 p2 h post) (kk : ∀ (h1 : hw) , post h1 → V G Γ nL (cells + 0) (slots + 0) h1 (pc + 3) L (rest)) : V G Γ nL cells slots h pc L (.int p2 :: .ref p1 :: .ref p0 :: rest) :=
  V_callV (As := [.ref p1, .int p2]) (r9 := (RX5, TX5, 5)) hC (ct_X5_prepare hG p0 p1 p2 h post hq) hs ho rfl rfl rfl hR hw8 hcs hdg (fun E h1 z => z.elim) (fun v h1 z => by obtain ⟨rfl, hz⟩ := z; exact kk h1 hz)
set_option maxRecDepth 100000 in
set_option maxHeartbeats 4000000 in
theorem ct_X5_lowerTooNear {G : Gx} (hG : GOK G) (p0 : Nat) (p1 : Int32) (p2 : Int32) (h0 : hw) (post : Int32 → Prop) (hq : wp_X5_lowerTooNear G p0 p1 p2 h0 post) : CT G yX5_lowerTooNear cX5_lowerTooNear 5 (some .int) 2 60 0 0 [.ref p0, .int p1, .int p2] h0 (fun v h1 => ∃ r : Int32, v = some (.int r) ∧ h1 = h0 ∧ post r) (fun E h1 => False) := by
  refine CT_of hG (by decide) (Nat.le_of_ble_eq_true rfl) (fun Γ hC hQ hN => ?_)
  have hC : COK G Γ "Bandplan$Packer" cX5_lowerTooNear 5 2 60 0 0 [] := hC
  unfold wp_X5_lowerTooNear at hq
  show V G Γ 5 0 0 h0 0 [(0, .ref p0), (1, .int p1), (2, .int p2)] []
  refine V_iconst (v := 0) hC dX5_lowerTooNear_0 (by decide) ?_
  refine V_istore_n (L' := [(0, .ref p0), (1, .int p1), (2, .int p2), (3, .int 0)]) hC dX5_lowerTooNear_1 rfl (by decide) [1, 2, 3, 0] rfl ?_
  have hq := hq (fun (x3_1 : Int32) => V G Γ 5 0 0 h0 2 [(0, .ref p0), (1, .int p1), (2, .int p2), (3, .int x3_1)] []) (by
    intro x3_1 hq
    show V G Γ 5 0 0 h0 2 [(0, .ref p0), (1, .int p1), (2, .int p2), (3, .int x3_1)] []
    refine V_iload_n hC dX5_lowerTooNear_2 3 rfl ?_
    refine V_iload_n hC dX5_lowerTooNear_3 1 rfl ?_
    refine V_icmp_ge (tgt := 59) hC dX5_lowerTooNear_4 (by decide) (fun hc => ?_) (fun hc => ?_)
    · have hq := hq.1 hc
      refine V_iconst (v := (-1)) hC dX5_lowerTooNear_59 (by decide) ?_
      exact V_iret hC hQ rfl rfl ⟨by decide, by decide⟩ dX5_lowerTooNear_60 ⟨_, rfl, rfl, hq⟩
    · have hq := hq.2 hc
      refine V_iload_n hC dX5_lowerTooNear_7 2 rfl ?_
      refine V_aload_n hC dX5_lowerTooNear_8 0 rfl ?_
      refine U_getR hC fl_X5_14 dX5_lowerTooNear_9 hq (fun v2 hq => ?_)
      refine V_iload_n hC dX5_lowerTooNear_12 3 rfl ?_
      obtain ⟨hz, hq⟩ := hq
      refine clV_X7_at hG hC sv_X5_65 ⟨by decide, by decide⟩ (Nat.le_of_ble_eq_true rfl) ⟨by decide, by decide⟩ dX5_lowerTooNear_13 hz hq (fun r3 hq => ?_)
      show V G Γ 5 0 0 h0 16 [(0, .ref p0), (1, .int p1), (2, .int p2), (3, .int x3_1)] [.int r3, .int p2]
      refine V_isub hC dX5_lowerTooNear_16 ?_
      refine V_abs hC sm_X5_59 (by decide) (Nat.le_of_ble_eq_true rfl) (by decide) (by decide) dX5_lowerTooNear_17 ?_
      refine V_istore (L' := [(0, .ref p0), (1, .int p1), (2, .int p2), (3, .int x3_1), (4, .int (jabs (p2 - r3)))]) hC dX5_lowerTooNear_20 (by decide) [1, 2, 3, 4, 0] rfl ?_
      refine V_iload_n hC dX5_lowerTooNear_22 3 rfl ?_
      refine V_aload_n hC dX5_lowerTooNear_23 0 rfl ?_
      refine U_getI hC fl_X5_72 dX5_lowerTooNear_24 hq (fun v4 hq => ?_)
      refine clSN_X11_isIn hG hC ssn_X5_79 ⟨by decide, by decide⟩ (Nat.le_of_ble_eq_true rfl) ⟨by decide, by decide⟩ dX5_lowerTooNear_27 hq (fun r5 hq => ?_)
      show V G Γ 5 0 0 h0 30 [(0, .ref p0), (1, .int p1), (2, .int p2), (3, .int x3_1), (4, .int (jabs (p2 - r3)))] [.int r5]
      have hq := hq (V G Γ 5 0 0 h0 53 [(0, .ref p0), (1, .int p1), (2, .int p2), (3, .int x3_1)] []) (by
        intro hq
        show V G Γ 5 0 0 h0 53 [(0, .ref p0), (1, .int p1), (2, .int p2), (3, .int x3_1)] []
        refine V_iinc (j := 3) (v := (x3_1 + 1)) (L' := [(0, .ref p0), (1, .int p1), (2, .int p2), (3, .int (x3_1 + 1))]) hC dX5_lowerTooNear_53 rfl rfl (by decide) [1, 2, 3, 0] rfl ?_
        refine V_goto (tgt := 2) hC dX5_lowerTooNear_56 (by decide) ?_
        exact hq)
      refine V_if_eq (tgt := 53) hC dX5_lowerTooNear_30 (by decide) (fun hc => ?_) (fun hc => ?_)
      · have hq := hq.1 hc
        refine V_sub [0, 1, 2, 3] rfl ?_
        exact hq
      · have hq := hq.2 hc
        refine V_iload hC dX5_lowerTooNear_33 4 rfl ?_
        refine V_aload_n hC dX5_lowerTooNear_35 0 rfl ?_
        refine U_getR hC fl_X5_20 dX5_lowerTooNear_36 hq (fun v6 hq => ?_)
        refine V_iload_n hC dX5_lowerTooNear_39 1 rfl ?_
        refine V_bipush (v := 8) hC dX5_lowerTooNear_40 (by decide) ?_
        refine V_imul hC dX5_lowerTooNear_42 ?_
        refine V_iload_n hC dX5_lowerTooNear_43 3 rfl ?_
        refine V_iadd hC dX5_lowerTooNear_44 ?_
        obtain ⟨hz, hq⟩ := hq
        refine clV_X7_at hG hC sv_X5_65 ⟨by decide, by decide⟩ (Nat.le_of_ble_eq_true rfl) ⟨by decide, by decide⟩ dX5_lowerTooNear_45 hz hq (fun r7 hq => ?_)
        show V G Γ 5 0 0 h0 48 [(0, .ref p0), (1, .int p1), (2, .int p2), (3, .int x3_1), (4, .int (jabs (p2 - r3)))] [.int r7, .int (jabs (p2 - r3))]
        refine V_icmp_ge (tgt := 53) hC dX5_lowerTooNear_48 (by decide) (fun hc => ?_) (fun hc => ?_)
        · have hq := hq.1 hc
          refine V_sub [0, 1, 2, 3] rfl ?_
          exact hq
        · have hq := hq.2 hc
          refine V_iload_n hC dX5_lowerTooNear_51 3 rfl ?_
          exact V_iret hC hQ rfl rfl ⟨by decide, by decide⟩ dX5_lowerTooNear_52 ⟨_, rfl, rfl, hq⟩)
  exact hq
theorem clV_X5_lowerTooNear {G : Gx} (hG : GOK G) {Γ : Cx} {own : String} {cc : ByteArray} {nL fr lo mc ms cells slots pc : Nat} {hh : List (Nat × Nat × Nat × Nat)} {h : hw} {L : List (Nat × Value)} {rest : List Value} (hC : COK G Γ own cc nL fr lo mc ms hh) {idx : Nat} (hs : SV own idx yX5_lowerTooNear cX5_lowerTooNear 5 (some .int) 2) {p0 : Nat} {p1 : Int32} {p2 : Int32} (hR : 2 + 1 ≤ fr ∧ 8 + (5 + 11) + 60 ≤ lo) (hw8 : (rest.map fun v => v.category).sum ≤ 8) (hcs : cells + 0 ≤ mc ∧ slots + 0 ≤ ms) (hdg : decode cc pc = .ok (.invokevirtual idx, 3)) (ho : isO h p0 5) {post : Int32 → Prop} (hq : wp_X5_lowerTooNear G p0 p1 p2 h post) (kk : ∀ (r : Int32) , post r → V G Γ nL (cells + 0) (slots + 0) h (pc + 3) L (.int r :: rest)) : V G Γ nL cells slots h pc L (.int p2 :: .int p1 :: .ref p0 :: rest) :=
  V_callV (As := [.int p1, .int p2]) (r9 := (RX5, TX5, 5)) hC (ct_X5_lowerTooNear hG p0 p1 p2 h post hq) hs ho rfl rfl rfl hR hw8 hcs hdg (fun E h1 z => z.elim) (fun v h1 z => by obtain ⟨r, rfl, rfl, hz⟩ := z; exact kk r hz)
set_option maxRecDepth 100000 in
set_option maxHeartbeats 4000000 in
theorem ct_X5_place {G : Gx} (hG : GOK G) : ∀ (d : Nat) (p0 : Nat) (p1 : Int32) (h0 : hw) (post : Int32 → hw → Prop) (hq : wp_X5_place G d p0 p1 h0 post), CT G yX5_place cX5_place 6 (some .int) (3 + d) (84 + d * 25) 0 0 [.ref p0, .int p1] h0 (fun v h1 => ∃ r : Int32, v = some (.int r) ∧ post r h1) (fun E h1 => False) := by
  intro d
  induction d with
  | zero => intro p0 p1 h0 post hq; exact hq.elim
  | succ d ih =>
    intro p0 p1 h0 post hq
    refine CT_of hG (by decide) (Nat.le_of_ble_eq_true rfl) (fun Γ hC hQ hN => ?_)
    have hC : COK G Γ "Bandplan$Packer" cX5_place 6 (3 + (d + 1)) (84 + (d + 1) * 25) 0 0 [] := hC
    simp only [wp_X5_place] at hq
    show V G Γ 6 0 0 h0 0 [(0, .ref p0), (1, .int p1)] []
    refine V_iload_n hC dX5_place_0 1 rfl ?_
    refine V_bipush (v := 8) hC dX5_place_1 (by decide) ?_
    refine V_icmp_lt (tgt := 8) hC dX5_place_3 (by decide) (fun hc => ?_) (fun hc => ?_)
    · have hq := hq.1 hc
      refine V_iload_n hC dX5_place_8 1 rfl ?_
      refine V_aload_n hC dX5_place_9 0 rfl ?_
      refine U_getI hC fl_X5_72 dX5_place_10 hq (fun v1 hq => ?_)
      refine clSN_X11_isIn hG hC ssn_X5_79 ⟨by omega, by omega⟩ (Nat.le_of_ble_eq_true rfl) ⟨by decide, by decide⟩ dX5_place_13 hq (fun r2 hq => ?_)
      show V G Γ 6 0 0 h0 16 [(0, .ref p0), (1, .int p1)] [.int r2]
      refine V_if_ne (tgt := 27) hC dX5_place_16 (by decide) (fun hc => ?_) (fun hc => ?_)
      · have hq := hq.1 hc
        refine V_iconst (v := 0) hC dX5_place_27 (by decide) ?_
        refine V_istore_n (L' := [(0, .ref p0), (1, .int p1), (2, .int 0)]) hC dX5_place_28 rfl (by decide) [1, 2, 0] rfl ?_
        refine V_iconst (v := 0) hC dX5_place_29 (by decide) ?_
        refine V_istore_n (L' := [(0, .ref p0), (1, .int p1), (2, .int 0), (3, .int 0)]) hC dX5_place_30 rfl (by decide) [1, 2, 3, 0] rfl ?_
        have hq := hq (fun (x2_3 : Int32) (x3_4 : Int32) (h5 : hw) => V G Γ 6 0 0 h5 31 [(0, .ref p0), (1, .int p1), (2, .int x2_3), (3, .int x3_4)] []) (by
          intro x2_3 x3_4 h5 hq
          show V G Γ 6 0 0 h5 31 [(0, .ref p0), (1, .int p1), (2, .int x2_3), (3, .int x3_4)] []
          refine V_iload_n hC dX5_place_31 3 rfl ?_
          refine V_aload_n hC dX5_place_32 0 rfl ?_
          refine U_getI hC fl_X5_26 dX5_place_33 hq (fun v6 hq => ?_)
          refine V_icmp_ge (tgt := 116) hC dX5_place_36 (by decide) (fun hc => ?_) (fun hc => ?_)
          · have hq := hq.1 hc
            refine V_iload_n hC dX5_place_116 2 rfl ?_
            exact V_iret hC hQ rfl rfl ⟨by decide, by decide⟩ dX5_place_117 ⟨_, rfl, hq⟩
          · have hq := hq.2 hc
            refine V_aload_n hC dX5_place_39 0 rfl ?_
            refine V_iload_n hC dX5_place_40 1 rfl ?_
            refine V_iload_n hC dX5_place_41 3 rfl ?_
            obtain ⟨hz, hq⟩ := hq
            refine clV_X5_lowerTooNear hG hC sv_X5_83 ⟨by omega, by omega⟩ (Nat.le_of_ble_eq_true rfl) ⟨by decide, by decide⟩ dX5_place_42 hz hq (fun r7 hq => ?_)
            show V G Γ 6 0 0 h5 45 [(0, .ref p0), (1, .int p1), (2, .int x2_3), (3, .int x3_4)] [.int r7]
            refine V_istore (L' := [(0, .ref p0), (1, .int p1), (2, .int x2_3), (3, .int x3_4), (4, .int r7)]) hC dX5_place_45 (by decide) [1, 2, 3, 4, 0] rfl ?_
            refine V_iload hC dX5_place_47 4 rfl ?_
            refine V_iconst (v := (-1)) hC dX5_place_49 (by decide) ?_
            have hq := hq (fun (x2_8 : Int32) (h9 : hw) => V G Γ 6 0 0 h9 110 [(0, .ref p0), (1, .int p1), (2, .int x2_8), (3, .int x3_4)] []) (by
              intro x2_8 h9 hq
              show V G Γ 6 0 0 h9 110 [(0, .ref p0), (1, .int p1), (2, .int x2_8), (3, .int x3_4)] []
              refine V_iinc (j := 3) (v := (x3_4 + 1)) (L' := [(0, .ref p0), (1, .int p1), (2, .int x2_8), (3, .int (x3_4 + 1))]) hC dX5_place_110 rfl rfl (by decide) [1, 2, 3, 0] rfl ?_
              refine V_goto (tgt := 31) hC dX5_place_113 (by decide) ?_
              exact hq)
            refine V_icmp_eq (tgt := 63) hC dX5_place_50 (by decide) (fun hc => ?_) (fun hc => ?_)
            · have hq := hq.1 hc
              refine V_aload_n hC dX5_place_63 0 rfl ?_
              refine U_getR hC fl_X5_14 dX5_place_64 hq (fun v10 hq => ?_)
              refine V_iload_n hC dX5_place_67 1 rfl ?_
              refine V_iload_n hC dX5_place_68 3 rfl ?_
              obtain ⟨hz, hq⟩ := hq
              refine clV_X7_put hG hC sv_X5_56 ⟨by omega, by omega⟩ (Nat.le_of_ble_eq_true rfl) ⟨by decide, by decide⟩ dX5_place_69 hz hq (fun h11 hq => ?_)
              show V G Γ 6 0 0 h11 72 [(0, .ref p0), (1, .int p1), (2, .int x2_3), (3, .int x3_4), (4, .int r7)] []
              refine V_aload_n hC dX5_place_72 0 rfl ?_
              refine V_iload_n hC dX5_place_73 1 rfl ?_
              refine V_iconst (v := 1) hC dX5_place_74 (by decide) ?_
              refine V_iadd hC dX5_place_75 ?_
              refine V_callS (As := [.ref p0, .int (p1 + 1)]) hC (ih _ _ _ _ hq) ss_X5_75 rfl ⟨by omega, by omega⟩ (Nat.le_of_ble_eq_true rfl) ⟨by decide, by decide⟩ dX5_place_76 (fun E h1 z => z.elim) (fun v h13 z => ?_)
              obtain ⟨r12, rfl, hq⟩ := z
              show V G Γ 6 0 0 h13 79 [(0, .ref p0), (1, .int p1), (2, .int x2_3), (3, .int x3_4), (4, .int r7)] [.int r12]
              refine V_istore (L' := [(0, .ref p0), (1, .int p1), (2, .int x2_3), (3, .int x3_4), (4, .int r7), (5, .int r12)]) hC dX5_place_79 (by decide) [1, 2, 3, 4, 5, 0] rfl ?_
              refine V_iload hC dX5_place_81 5 rfl ?_
              refine V_iconst (v := (-1)) hC dX5_place_83 (by decide) ?_
              refine V_icmp_eq (tgt := 96) hC dX5_place_84 (by decide) (fun hc => ?_) (fun hc => ?_)
              · have hq := hq.1 hc
                refine V_iload hC dX5_place_96 5 rfl ?_
                exact V_iret hC hQ rfl rfl ⟨by decide, by decide⟩ dX5_place_98 ⟨_, rfl, hq⟩
              · have hq := hq.2 hc
                refine V_iload_n hC dX5_place_87 1 rfl ?_
                refine V_iload hC dX5_place_88 5 rfl ?_
                refine clSN_X11_isIn hG hC ssn_X5_79 ⟨by omega, by omega⟩ (Nat.le_of_ble_eq_true rfl) ⟨by decide, by decide⟩ dX5_place_90 hq (fun r14 hq => ?_)
                show V G Γ 6 0 0 h13 93 [(0, .ref p0), (1, .int p1), (2, .int x2_3), (3, .int x3_4), (4, .int r7), (5, .int r12)] [.int r14]
                refine V_if_ne (tgt := 99) hC dX5_place_93 (by decide) (fun hc => ?_) (fun hc => ?_)
                · have hq := hq.1 hc
                  refine V_iload_n hC dX5_place_99 2 rfl ?_
                  refine V_iload hC dX5_place_100 5 rfl ?_
                  refine V_iconst (v := 1) hC dX5_place_102 (by decide) ?_
                  refine V_iload_n hC dX5_place_103 1 rfl ?_
                  refine V_ishl hC dX5_place_104 ?_
                  refine V_iconst (v := (-1)) hC dX5_place_105 (by decide) ?_
                  refine V_ixor hC dX5_place_106 ?_
                  refine V_iand hC dX5_place_107 ?_
                  refine V_ior hC dX5_place_108 ?_
                  refine V_istore_n (L' := [(0, .ref p0), (1, .int p1), (2, .int (x2_3 ||| (r12 &&& (((1 : Int32) <<< (p1 &&& 31)) ^^^ (-1))))), (3, .int x3_4), (4, .int r7), (5, .int r12)]) hC dX5_place_109 rfl (by decide) [1, 2, 0, 3, 4, 5] rfl ?_
                  refine V_sub [0, 1, 2, 3] rfl ?_
                  exact hq
                · have hq := hq.2 hc
                  refine V_iload hC dX5_place_96 5 rfl ?_
                  exact V_iret hC hQ rfl rfl ⟨by decide, by decide⟩ dX5_place_98 ⟨_, rfl, hq⟩
            · have hq := hq.2 hc
              refine V_iload_n hC dX5_place_53 2 rfl ?_
              refine V_iconst (v := 1) hC dX5_place_54 (by decide) ?_
              refine V_iload hC dX5_place_55 4 rfl ?_
              refine V_ishl hC dX5_place_57 ?_
              refine V_ior hC dX5_place_58 ?_
              refine V_istore_n (L' := [(0, .ref p0), (1, .int p1), (2, .int (x2_3 ||| ((1 : Int32) <<< (r7 &&& 31)))), (3, .int x3_4), (4, .int r7)]) hC dX5_place_59 rfl (by decide) [1, 2, 0, 3, 4] rfl ?_
              refine V_goto (tgt := 110) hC dX5_place_60 (by decide) ?_
              refine V_sub [0, 1, 2, 3] rfl ?_
              exact hq)
        exact hq
      · have hq := hq.2 hc
        refine V_aload_n hC dX5_place_19 0 rfl ?_
        refine V_iload_n hC dX5_place_20 1 rfl ?_
        refine V_iconst (v := 1) hC dX5_place_21 (by decide) ?_
        refine V_iadd hC dX5_place_22 ?_
        refine V_callS (As := [.ref p0, .int (p1 + 1)]) hC (ih _ _ _ _ hq) ss_X5_75 rfl ⟨by omega, by omega⟩ (Nat.le_of_ble_eq_true rfl) ⟨by decide, by decide⟩ dX5_place_23 (fun E h1 z => z.elim) (fun v h16 z => ?_)
        obtain ⟨r15, rfl, hq⟩ := z
        show V G Γ 6 0 0 h16 26 [(0, .ref p0), (1, .int p1)] [.int r15]
        exact V_iret hC hQ rfl rfl ⟨by decide, by decide⟩ dX5_place_26 ⟨_, rfl, hq⟩
    · have hq := hq.2 hc
      refine V_iconst (v := (-1)) hC dX5_place_6 (by decide) ?_
      exact V_iret hC hQ rfl rfl ⟨by decide, by decide⟩ dX5_place_7 ⟨_, rfl, hq⟩
theorem clS_X5_place {G : Gx} (hG : GOK G) {Γ : Cx} {own : String} {cc : ByteArray} {nL fr lo mc ms cells slots pc : Nat} {hh : List (Nat × Nat × Nat × Nat)} {h : hw} {L : List (Nat × Value)} {rest : List Value} (hC : COK G Γ own cc nL fr lo mc ms hh) {idx : Nat} (hs : SS own idx yX5_place cX5_place 6 (some .int) 2) {p0 : Nat} {p1 : Int32} (hR : 13 + 1 ≤ fr ∧ 8 + (6 + 11) + 334 ≤ lo) (hw8 : (rest.map fun v => v.category).sum ≤ 8) (hcs : cells + 0 ≤ mc ∧ slots + 0 ≤ ms) (hdg : decode cc pc = .ok (.invokestatic idx, 3)) {post : Int32 → hw → Prop} (hq : wp_X5_place G 10 p0 p1 h post) (kk : ∀ (r : Int32) (h1 : hw) , post r h1 → V G Γ nL (cells + 0) (slots + 0) h1 (pc + 3) L (.int r :: rest)) : V G Γ nL cells slots h pc L (.int p1 :: .ref p0 :: rest) :=
  V_callS (As := [.ref p0, .int p1]) hC (ct_X5_place hG 10 p0 p1 h post hq) hs rfl hR hw8 hcs hdg (fun E h1 z => z.elim) (fun v h1 z => by obtain ⟨r, rfl, hz⟩ := z; exact kk r h1 hz)
set_option maxRecDepth 100000 in
set_option maxHeartbeats 4000000 in
theorem ct_X5_findFirst {G : Gx} (hG : GOK G) (p0 : Nat) (p1 : Int32) (h0 : hw) (post : Int32 → hw → Prop) (hq : wp_X5_findFirst G p0 p1 h0 post) : CT G yX5_findFirst cX5_findFirst 2 (some .boolean) 14 359 0 0 [.ref p0, .int p1] h0 (fun v h1 => ∃ r : Int32, v = some (.int r) ∧ post r h1) (fun E h1 => False) := by
  refine CT_of hG (by decide) (Nat.le_of_ble_eq_true rfl) (fun Γ hC hQ hN => ?_)
  have hC : COK G Γ "Bandplan$Packer" cX5_findFirst 2 14 359 0 0 [] := hC
  unfold wp_X5_findFirst at hq
  show V G Γ 2 0 0 h0 0 [(0, .ref p0), (1, .int p1)] []
  refine V_aload_n hC dX5_findFirst_0 0 rfl ?_
  refine V_iload_n hC dX5_findFirst_1 1 rfl ?_
  refine U_putO hC (by decide) fl_X5_72 fin_X5_4 rfl rfl dX5_findFirst_2 hq (fun h1 hq => ?_)
  refine V_aload_n hC dX5_findFirst_5 0 rfl ?_
  refine U_getR hC fl_X5_14 dX5_findFirst_6 hq (fun v2 hq => ?_)
  refine V_iconst (v := (-1)) hC dX5_findFirst_9 (by decide) ?_
  obtain ⟨hz, hq⟩ := hq
  refine clV_X7_fillWith hG hC sv_X5_30 ⟨by decide, by decide⟩ (Nat.le_of_ble_eq_true rfl) ⟨by decide, by decide⟩ dX5_findFirst_10 hz hq (fun h3 hq => ?_)
  show V G Γ 2 0 0 h3 13 [(0, .ref p0), (1, .int p1)] []
  refine V_aload_n hC dX5_findFirst_13 0 rfl ?_
  refine V_iconst (v := 0) hC dX5_findFirst_14 (by decide) ?_
  refine clS_X5_place hG hC ss_X5_75 ⟨by decide, by decide⟩ (Nat.le_of_ble_eq_true rfl) ⟨by decide, by decide⟩ dX5_findFirst_15 hq (fun r4 h5 hq => ?_)
  show V G Γ 2 0 0 h5 18 [(0, .ref p0), (1, .int p1)] [.int r4]
  refine V_iconst (v := (-1)) hC dX5_findFirst_18 (by decide) ?_
  refine V_icmp_ne (tgt := 26) hC dX5_findFirst_19 (by decide) (fun hc => ?_) (fun hc => ?_)
  · have hq := hq.1 hc
    refine V_iconst (v := 0) hC dX5_findFirst_26 (by decide) ?_
    exact V_iret hC hQ rfl rfl ⟨by decide, by decide⟩ dX5_findFirst_27 ⟨_, rfl, hq⟩
  · have hq := hq.2 hc
    refine V_iconst (v := 1) hC dX5_findFirst_22 (by decide) ?_
    refine V_goto (tgt := 27) hC dX5_findFirst_23 (by decide) ?_
    exact V_iret hC hQ rfl rfl ⟨by decide, by decide⟩ dX5_findFirst_27 ⟨_, rfl, hq⟩
theorem clV_X5_findFirst {G : Gx} (hG : GOK G) {Γ : Cx} {own : String} {cc : ByteArray} {nL fr lo mc ms cells slots pc : Nat} {hh : List (Nat × Nat × Nat × Nat)} {h : hw} {L : List (Nat × Value)} {rest : List Value} (hC : COK G Γ own cc nL fr lo mc ms hh) {idx : Nat} (hs : SV own idx yX5_findFirst cX5_findFirst 2 (some .boolean) 1) {p0 : Nat} {p1 : Int32} (hR : 14 + 1 ≤ fr ∧ 8 + (2 + 11) + 359 ≤ lo) (hw8 : (rest.map fun v => v.category).sum ≤ 8) (hcs : cells + 0 ≤ mc ∧ slots + 0 ≤ ms) (hdg : decode cc pc = .ok (.invokevirtual idx, 3)) (ho : isO h p0 5) {post : Int32 → hw → Prop} (hq : wp_X5_findFirst G p0 p1 h post) (kk : ∀ (r : Int32) (h1 : hw) , post r h1 → V G Γ nL (cells + 0) (slots + 0) h1 (pc + 3) L (.int r :: rest)) : V G Γ nL cells slots h pc L (.int p1 :: .ref p0 :: rest) :=
  V_callV (As := [.int p1]) (r9 := (RX5, TX5, 5)) hC (ct_X5_findFirst hG p0 p1 h post hq) hs ho rfl rfl rfl hR hw8 hcs hdg (fun E h1 z => z.elim) (fun v h1 z => by obtain ⟨r, rfl, hz⟩ := z; exact kk r h1 hz)
set_option maxRecDepth 100000 in
set_option maxHeartbeats 4000000 in
theorem ct_X5_fits {G : Gx} (hG : GOK G) (p0 : Nat) (p1 : Int32) (h0 : hw) (post : Int32 → hw → Prop) (hq : wp_X5_fits G p0 p1 h0 post) : CT G yX5_fits cX5_fits 2 (some .boolean) 15 380 0 0 [.ref p0, .int p1] h0 (fun v h1 => ∃ r : Int32, v = some (.int r) ∧ post r h1) (fun E h1 => False) := by
  refine CT_of hG (by decide) (Nat.le_of_ble_eq_true rfl) (fun Γ hC hQ hN => ?_)
  have hC : COK G Γ "Bandplan$Packer" cX5_fits 2 15 380 0 0 [] := hC
  unfold wp_X5_fits at hq
  show V G Γ 2 0 0 h0 0 [(0, .ref p0), (1, .int p1)] []
  refine V_aload_n hC dX5_fits_0 0 rfl ?_
  refine U_getR hC fl_X5_23 dX5_fits_1 hq (fun v1 hq => ?_)
  refine V_iload_n hC dX5_fits_4 1 rfl ?_
  obtain ⟨hz, hq⟩ := hq
  refine clV_X7_at hG hC sv_X5_65 ⟨by decide, by decide⟩ (Nat.le_of_ble_eq_true rfl) ⟨by decide, by decide⟩ dX5_fits_5 hz hq (fun r2 hq => ?_)
  show V G Γ 2 0 0 h0 8 [(0, .ref p0), (1, .int p1)] [.int r2]
  have hq := hq (fun (h3 : hw) => V G Γ 2 0 0 h3 32 [(0, .ref p0), (1, .int p1)] []) (by
    intro h3 hq
    show V G Γ 2 0 0 h3 32 [(0, .ref p0), (1, .int p1)] []
    refine V_aload_n hC dX5_fits_32 0 rfl ?_
    refine U_getR hC fl_X5_23 dX5_fits_33 hq (fun v4 hq => ?_)
    refine V_iload_n hC dX5_fits_36 1 rfl ?_
    obtain ⟨hz, hq⟩ := hq
    refine clV_X7_at hG hC sv_X5_65 ⟨by decide, by decide⟩ (Nat.le_of_ble_eq_true rfl) ⟨by decide, by decide⟩ dX5_fits_37 hz hq (fun r5 hq => ?_)
    show V G Γ 2 0 0 h3 40 [(0, .ref p0), (1, .int p1)] [.int r5]
    refine V_iconst (v := 1) hC dX5_fits_40 (by decide) ?_
    refine V_icmp_ne (tgt := 48) hC dX5_fits_41 (by decide) (fun hc => ?_) (fun hc => ?_)
    · have hq := hq.1 hc
      refine V_iconst (v := 0) hC dX5_fits_48 (by decide) ?_
      exact V_iret hC hQ rfl rfl ⟨by decide, by decide⟩ dX5_fits_49 ⟨_, rfl, hq⟩
    · have hq := hq.2 hc
      refine V_iconst (v := 1) hC dX5_fits_44 (by decide) ?_
      refine V_goto (tgt := 49) hC dX5_fits_45 (by decide) ?_
      exact V_iret hC hQ rfl rfl ⟨by decide, by decide⟩ dX5_fits_49 ⟨_, rfl, hq⟩)
  refine V_if_ne (tgt := 32) hC dX5_fits_8 (by decide) (fun hc => ?_) (fun hc => ?_)
  · have hq := hq.1 hc
    exact hq
  · have hq := hq.2 hc
    refine V_aload_n hC dX5_fits_11 0 rfl ?_
    refine U_getR hC fl_X5_23 dX5_fits_12 hq (fun v6 hq => ?_)
    refine V_iload_n hC dX5_fits_15 1 rfl ?_
    refine V_aload_n hC dX5_fits_16 0 rfl ?_
    refine V_iload_n hC dX5_fits_17 1 rfl ?_
    obtain ⟨hz, hq⟩ := hq
    refine clV_X5_findFirst hG hC sv_X5_68 ⟨by decide, by decide⟩ (Nat.le_of_ble_eq_true rfl) ⟨by decide, by decide⟩ dX5_fits_18 hz hq (fun r7 h8 hq => ?_)
    show V G Γ 2 0 0 h8 21 [(0, .ref p0), (1, .int p1)] [.int r7, .int p1, .ref v6]
    have hq := hq (fun (t9 : Nat) (t10 : Int32) (t11 : Int32) => V G Γ 2 0 0 h8 29 [(0, .ref p0), (1, .int p1)] [.int t11, .int t10, .ref t9]) (by
      intro t9 t10 t11 hq
      show V G Γ 2 0 0 h8 29 [(0, .ref p0), (1, .int p1)] [.int t11, .int t10, .ref t9]
      obtain ⟨hz, hq⟩ := hq
      refine clV_X7_put hG hC sv_X5_56 ⟨by decide, by decide⟩ (Nat.le_of_ble_eq_true rfl) ⟨by decide, by decide⟩ dX5_fits_29 hz hq (fun h12 hq => ?_)
      show V G Γ 2 0 0 h12 32 [(0, .ref p0), (1, .int p1)] []
      exact hq)
    refine V_if_eq (tgt := 28) hC dX5_fits_21 (by decide) (fun hc => ?_) (fun hc => ?_)
    · have hq := hq.1 hc
      refine V_iconst (v := 2) hC dX5_fits_28 (by decide) ?_
      exact hq
    · have hq := hq.2 hc
      refine V_iconst (v := 1) hC dX5_fits_24 (by decide) ?_
      refine V_goto (tgt := 29) hC dX5_fits_25 (by decide) ?_
      exact hq
theorem clV_X5_fits {G : Gx} (hG : GOK G) {Γ : Cx} {own : String} {cc : ByteArray} {nL fr lo mc ms cells slots pc : Nat} {hh : List (Nat × Nat × Nat × Nat)} {h : hw} {L : List (Nat × Value)} {rest : List Value} (hC : COK G Γ own cc nL fr lo mc ms hh) {idx : Nat} (hs : SV own idx yX5_fits cX5_fits 2 (some .boolean) 1) {p0 : Nat} {p1 : Int32} (hR : 15 + 1 ≤ fr ∧ 8 + (2 + 11) + 380 ≤ lo) (hw8 : (rest.map fun v => v.category).sum ≤ 8) (hcs : cells + 0 ≤ mc ∧ slots + 0 ≤ ms) (hdg : decode cc pc = .ok (.invokevirtual idx, 3)) (ho : isO h p0 5) {post : Int32 → hw → Prop} (hq : wp_X5_fits G p0 p1 h post) (kk : ∀ (r : Int32) (h1 : hw) , post r h1 → V G Γ nL (cells + 0) (slots + 0) h1 (pc + 3) L (.int r :: rest)) : V G Γ nL cells slots h pc L (.int p1 :: .ref p0 :: rest) :=
  V_callV (As := [.int p1]) (r9 := (RX5, TX5, 5)) hC (ct_X5_fits hG p0 p1 h post hq) hs ho rfl rfl rfl hR hw8 hcs hdg (fun E h1 z => z.elim) (fun v h1 z => by obtain ⟨r, rfl, hz⟩ := z; exact kk r h1 hz)
set_option maxRecDepth 100000 in
set_option maxHeartbeats 4000000 in
theorem ct_X6_init {G : Gx} (hG : GOK G) (p0 : Nat) (h0 : hw) (post : hw → Prop) (hq : wp_X6_init G p0 h0 post) : CT G yX6_init cX6_init 1 none 3 83 8 4116 [.ref p0] h0 (fun v h1 => v = none ∧ post h1) (fun E h1 => False) := by
  refine CT_of hG (by decide) (Nat.le_of_ble_eq_true rfl) (fun Γ hC hQ hN => ?_)
  have hC : COK G Γ "Bandplan$Register" cX6_init 1 3 83 8 4116 [] := hC
  have hin := HIN hN rfl
  unfold wp_X6_init at hq
  show V G Γ 1 0 0 h0 0 [(0, .ref p0)] []
  refine V_aload_n hC dX6_init_0 0 rfl ?_
  refine V_objInit hC so_X6_3 (by decide) (Nat.le_of_ble_eq_true rfl) dX6_init_1 ?_
  refine V_aload_n hC dX6_init_4 0 rfl ?_
  refine U_new hC no_X6_9 ⟨by decide, by decide⟩ dX6_init_5 hq (fun a1 h2 hq => ?_)
  refine V_dup hC dX6_init_8 rfl ?_
  refine V_bipush (v := 8) hC dX6_init_9 (by decide) ?_
  refine V_iconst (v := (-1)) hC dX6_init_11 (by decide) ?_
  refine clI_X7_init hG hC si_X6_11 ⟨by decide, by decide⟩ (Nat.le_of_ble_eq_true rfl) ⟨by decide, by decide⟩ dX6_init_12 hq (fun h3 hq => ?_)
  show V G Γ 1 2 9 h3 15 [(0, .ref p0)] [.ref a1, .ref p0]
  refine U_putF hC (Or.inl (by decide)) fl_X6_14 fin_X6_0 hin rfl rfl dX6_init_15 hq (fun h4 hq => ?_)
  refine V_aload_n hC dX6_init_18 0 rfl ?_
  refine U_new hC no_X6_9 ⟨by decide, by decide⟩ dX6_init_19 hq (fun a5 h6 hq => ?_)
  refine V_dup hC dX6_init_22 rfl ?_
  refine V_bipush (v := 8) hC dX6_init_23 (by decide) ?_
  refine V_iconst (v := 0) hC dX6_init_25 (by decide) ?_
  refine clI_X7_init hG hC si_X6_11 ⟨by decide, by decide⟩ (Nat.le_of_ble_eq_true rfl) ⟨by decide, by decide⟩ dX6_init_26 hq (fun h7 hq => ?_)
  show V G Γ 1 4 18 h7 29 [(0, .ref p0)] [.ref a5, .ref p0]
  refine U_putF hC (Or.inl (by decide)) fl_X6_20 fin_X6_2 hin rfl rfl dX6_init_29 hq (fun h8 hq => ?_)
  refine V_aload_n hC dX6_init_32 0 rfl ?_
  refine U_new hC no_X6_9 ⟨by decide, by decide⟩ dX6_init_33 hq (fun a9 h10 hq => ?_)
  refine V_dup hC dX6_init_36 rfl ?_
  refine V_sipush (v := 2048) hC dX6_init_37 (by decide) ?_
  refine V_iconst (v := 0) hC dX6_init_40 (by decide) ?_
  refine clI_X7_init hG hC si_X6_11 ⟨by decide, by decide⟩ (Nat.le_of_ble_eq_true rfl) ⟨by decide, by decide⟩ dX6_init_41 hq (fun h11 hq => ?_)
  show V G Γ 1 6 2067 h11 44 [(0, .ref p0)] [.ref a9, .ref p0]
  refine U_putF hC (Or.inl (by decide)) fl_X6_23 fin_X6_3 hin rfl rfl dX6_init_44 hq (fun h12 hq => ?_)
  refine V_aload_n hC dX6_init_47 0 rfl ?_
  refine U_new hC no_X6_9 ⟨by decide, by decide⟩ dX6_init_48 hq (fun a13 h14 hq => ?_)
  refine V_dup hC dX6_init_51 rfl ?_
  refine V_sipush (v := 2048) hC dX6_init_52 (by decide) ?_
  refine V_iconst (v := (-1)) hC dX6_init_55 (by decide) ?_
  refine clI_X7_init hG hC si_X6_11 ⟨by decide, by decide⟩ (Nat.le_of_ble_eq_true rfl) ⟨by decide, by decide⟩ dX6_init_56 hq (fun h15 hq => ?_)
  show V G Γ 1 8 4116 h15 59 [(0, .ref p0)] [.ref a13, .ref p0]
  refine U_putF hC (Or.inl (by decide)) fl_X6_26 fin_X6_4 hin rfl rfl dX6_init_59 hq (fun h16 hq => ?_)
  exact V_vret hC hQ ⟨by decide, by decide⟩ dX6_init_62 ⟨rfl, hq⟩
theorem clIN_X6_init {G : Gx} (hG : GOK G) {Γ : Cx} {own : String} {cc : ByteArray} {nL fr lo mc ms cells slots pc : Nat} {hh : List (Nat × Nat × Nat × Nat)} {h : hw} {L : List (Nat × Value)} {rest : List Value} (hC : COK G Γ own cc nL fr lo mc ms hh) {idx : Nat} {host : String} (hs : SIN own idx yX6_init host cX6_init 1 0) {p0 : Nat} (hR : 3 + 1 ≤ fr ∧ 8 + (1 + 11) + 83 ≤ lo) (hw8 : (rest.map fun v => v.category).sum ≤ 8) (hcs : cells + 8 ≤ mc ∧ slots + 4116 ≤ ms) (hdg : decode cc pc = .ok (.invokespecial idx, 3)) {post : hw → Prop} (hq : wp_X6_init G p0 h post) (kk : ∀ (h1 : hw) , post h1 → V G Γ nL (cells + 8) (slots + 4116) h1 (pc + 3) L (rest)) : V G Γ nL cells slots h pc L (.ref p0 :: rest) :=
  V_callIN (As := []) hC (ct_X6_init hG p0 h post hq) hs rfl hR hw8 hcs hdg (fun E h1 z => z.elim) (fun v h1 z => by obtain ⟨rfl, hz⟩ := z; exact kk h1 hz)
set_option maxRecDepth 100000 in
set_option maxHeartbeats 4000000 in
theorem ct_X6_channelAt {G : Gx} (hG : GOK G) (p0 : Nat) (p1 : Int32) (p2 : Int32) (h0 : hw) (post : Int32 → Prop) (hq : wp_X6_channelAt G p0 p1 p2 h0 post) : CT G yX6_channelAt cX6_channelAt 4 (some .int) 2 51 0 0 [.ref p0, .int p1, .int p2] h0 (fun v h1 => ∃ r : Int32, v = some (.int r) ∧ h1 = h0 ∧ post r) (fun E h1 => False) := by
  refine CT_of hG (by decide) (Nat.le_of_ble_eq_true rfl) (fun Γ hC hQ hN => ?_)
  have hC : COK G Γ "Bandplan$Register" cX6_channelAt 4 2 51 0 0 [] := hC
  unfold wp_X6_channelAt at hq
  show V G Γ 4 0 0 h0 0 [(0, .ref p0), (1, .int p1), (2, .int p2)] []
  refine V_aload_n hC dX6_channelAt_0 0 rfl ?_
  refine U_getR hC fl_X6_20 dX6_channelAt_1 hq (fun v1 hq => ?_)
  refine V_iload_n hC dX6_channelAt_4 1 rfl ?_
  obtain ⟨hz, hq⟩ := hq
  refine clV_X7_at hG hC sv_X6_29 ⟨by decide, by decide⟩ (Nat.le_of_ble_eq_true rfl) ⟨by decide, by decide⟩ dX6_channelAt_5 hz hq (fun r2 hq => ?_)
  show V G Γ 4 0 0 h0 8 [(0, .ref p0), (1, .int p1), (2, .int p2)] [.int r2]
  refine V_iconst (v := 1) hC dX6_channelAt_8 (by decide) ?_
  refine V_isub hC dX6_channelAt_9 ?_
  refine V_istore_n (L' := [(0, .ref p0), (1, .int p1), (2, .int p2), (3, .int (r2 - 1))]) hC dX6_channelAt_10 rfl (by decide) [1, 2, 3, 0] rfl ?_
  have hq := hq (fun (x3_3 : Int32) => V G Γ 4 0 0 h0 11 [(0, .ref p0), (1, .int p1), (2, .int p2), (3, .int x3_3)] []) (by
    intro x3_3 hq
    show V G Γ 4 0 0 h0 11 [(0, .ref p0), (1, .int p1), (2, .int p2), (3, .int x3_3)] []
    refine V_iload_n hC dX6_channelAt_11 3 rfl ?_
    refine V_if_lt (tgt := 50) hC dX6_channelAt_12 (by decide) (fun hc => ?_) (fun hc => ?_)
    · have hq := hq.1 hc
      refine V_iconst (v := (-1)) hC dX6_channelAt_50 (by decide) ?_
      exact V_iret hC hQ rfl rfl ⟨by decide, by decide⟩ dX6_channelAt_51 ⟨_, rfl, rfl, hq⟩
    · have hq := hq.2 hc
      refine V_aload_n hC dX6_channelAt_15 0 rfl ?_
      refine U_getR hC fl_X6_23 dX6_channelAt_16 hq (fun v4 hq => ?_)
      refine V_iload_n hC dX6_channelAt_19 1 rfl ?_
      refine V_iload_n hC dX6_channelAt_20 3 rfl ?_
      refine clS_X6_lineOf hG hC ss_X6_39 ⟨by decide, by decide⟩ (Nat.le_of_ble_eq_true rfl) ⟨by decide, by decide⟩ dX6_channelAt_21 hq (fun r5 hq => ?_)
      show V G Γ 4 0 0 h0 24 [(0, .ref p0), (1, .int p1), (2, .int p2), (3, .int x3_3)] [.int r5, .ref v4]
      obtain ⟨hz, hq⟩ := hq
      refine clV_X7_at hG hC sv_X6_29 ⟨by decide, by decide⟩ (Nat.le_of_ble_eq_true rfl) ⟨by decide, by decide⟩ dX6_channelAt_24 hz hq (fun r6 hq => ?_)
      show V G Γ 4 0 0 h0 27 [(0, .ref p0), (1, .int p1), (2, .int p2), (3, .int x3_3)] [.int r6]
      refine V_iload_n hC dX6_channelAt_27 2 rfl ?_
      refine V_icmp_gt (tgt := 44) hC dX6_channelAt_28 (by decide) (fun hc => ?_) (fun hc => ?_)
      · have hq := hq.1 hc
        refine V_iinc (j := 3) (v := (x3_3 + (-1))) (L' := [(0, .ref p0), (1, .int p1), (2, .int p2), (3, .int (x3_3 + (-1)))]) hC dX6_channelAt_44 rfl rfl (by decide) [1, 2, 3, 0] rfl ?_
        refine V_goto (tgt := 11) hC dX6_channelAt_47 (by decide) ?_
        exact hq
      · have hq := hq.2 hc
        refine V_aload_n hC dX6_channelAt_31 0 rfl ?_
        refine U_getR hC fl_X6_26 dX6_channelAt_32 hq (fun v7 hq => ?_)
        refine V_iload_n hC dX6_channelAt_35 1 rfl ?_
        refine V_iload_n hC dX6_channelAt_36 3 rfl ?_
        refine clS_X6_lineOf hG hC ss_X6_39 ⟨by decide, by decide⟩ (Nat.le_of_ble_eq_true rfl) ⟨by decide, by decide⟩ dX6_channelAt_37 hq (fun r8 hq => ?_)
        show V G Γ 4 0 0 h0 40 [(0, .ref p0), (1, .int p1), (2, .int p2), (3, .int x3_3)] [.int r8, .ref v7]
        obtain ⟨hz, hq⟩ := hq
        refine clV_X7_at hG hC sv_X6_29 ⟨by decide, by decide⟩ (Nat.le_of_ble_eq_true rfl) ⟨by decide, by decide⟩ dX6_channelAt_40 hz hq (fun r9 hq => ?_)
        show V G Γ 4 0 0 h0 43 [(0, .ref p0), (1, .int p1), (2, .int p2), (3, .int x3_3)] [.int r9]
        exact V_iret hC hQ rfl rfl ⟨by decide, by decide⟩ dX6_channelAt_43 ⟨_, rfl, rfl, hq⟩)
  exact hq
theorem clV_X6_channelAt {G : Gx} (hG : GOK G) {Γ : Cx} {own : String} {cc : ByteArray} {nL fr lo mc ms cells slots pc : Nat} {hh : List (Nat × Nat × Nat × Nat)} {h : hw} {L : List (Nat × Value)} {rest : List Value} (hC : COK G Γ own cc nL fr lo mc ms hh) {idx : Nat} (hs : SV own idx yX6_channelAt cX6_channelAt 4 (some .int) 2) {p0 : Nat} {p1 : Int32} {p2 : Int32} (hR : 2 + 1 ≤ fr ∧ 8 + (4 + 11) + 51 ≤ lo) (hw8 : (rest.map fun v => v.category).sum ≤ 8) (hcs : cells + 0 ≤ mc ∧ slots + 0 ≤ ms) (hdg : decode cc pc = .ok (.invokevirtual idx, 3)) (ho : isO h p0 6) {post : Int32 → Prop} (hq : wp_X6_channelAt G p0 p1 p2 h post) (kk : ∀ (r : Int32) , post r → V G Γ nL (cells + 0) (slots + 0) h (pc + 3) L (.int r :: rest)) : V G Γ nL cells slots h pc L (.int p2 :: .int p1 :: .ref p0 :: rest) :=
  V_callV (As := [.int p1, .int p2]) (r9 := (RX6, TX6, 5)) hC (ct_X6_channelAt hG p0 p1 p2 h post hq) hs ho rfl rfl rfl hR hw8 hcs hdg (fun E h1 z => z.elim) (fun v h1 z => by obtain ⟨r, rfl, rfl, hz⟩ := z; exact kk r hz)
set_option maxRecDepth 100000 in
set_option maxHeartbeats 4000000 in
theorem ct_X6_onesOn {G : Gx} (hG : GOK G) (p0 : Nat) (h0 : hw) (post : Int32 → Prop) (hq : wp_X6_onesOn G p0 h0 post) : CT G yX6_onesOn cX6_onesOn 3 (some .int) 2 51 0 0 [.ref p0] h0 (fun v h1 => ∃ r : Int32, v = some (.int r) ∧ h1 = h0 ∧ post r) (fun E h1 => False) := by
  refine CT_of hG (by decide) (Nat.le_of_ble_eq_true rfl) (fun Γ hC hQ hN => ?_)
  have hC : COK G Γ "Bandplan$Register" cX6_onesOn 3 2 51 0 0 [] := hC
  unfold wp_X6_onesOn at hq
  show V G Γ 3 0 0 h0 0 [(0, .ref p0)] []
  refine V_iconst (v := 0) hC dX6_onesOn_0 (by decide) ?_
  refine V_istore_n (L' := [(0, .ref p0), (1, .int 0)]) hC dX6_onesOn_1 rfl (by decide) [1, 0] rfl ?_
  refine V_iconst (v := 0) hC dX6_onesOn_2 (by decide) ?_
  refine V_istore_n (L' := [(0, .ref p0), (1, .int 0), (2, .int 0)]) hC dX6_onesOn_3 rfl (by decide) [1, 2, 0] rfl ?_
  have hq := hq (fun (x1_1 : Int32) (x2_2 : Int32) => V G Γ 3 0 0 h0 4 [(0, .ref p0), (1, .int x1_1), (2, .int x2_2)] []) (by
    intro x1_1 x2_2 hq
    show V G Γ 3 0 0 h0 4 [(0, .ref p0), (1, .int x1_1), (2, .int x2_2)] []
    refine V_iload_n hC dX6_onesOn_4 2 rfl ?_
    refine V_bipush (v := 8) hC dX6_onesOn_5 (by decide) ?_
    refine V_icmp_ge (tgt := 34) hC dX6_onesOn_7 (by decide) (fun hc => ?_) (fun hc => ?_)
    · have hq := hq.1 hc
      refine V_iload_n hC dX6_onesOn_34 1 rfl ?_
      exact V_iret hC hQ rfl rfl ⟨by decide, by decide⟩ dX6_onesOn_35 ⟨_, rfl, rfl, hq⟩
    · have hq := hq.2 hc
      refine V_aload_n hC dX6_onesOn_10 0 rfl ?_
      refine U_getR hC fl_X6_14 dX6_onesOn_11 hq (fun v3 hq => ?_)
      refine V_iload_n hC dX6_onesOn_14 2 rfl ?_
      obtain ⟨hz, hq⟩ := hq
      refine clV_X7_at hG hC sv_X6_29 ⟨by decide, by decide⟩ (Nat.le_of_ble_eq_true rfl) ⟨by decide, by decide⟩ dX6_onesOn_15 hz hq (fun r4 hq => ?_)
      show V G Γ 3 0 0 h0 18 [(0, .ref p0), (1, .int x1_1), (2, .int x2_2)] [.int r4]
      refine V_iconst (v := (-1)) hC dX6_onesOn_18 (by decide) ?_
      have hq := hq (fun (x1_5 : Int32) => V G Γ 3 0 0 h0 28 [(0, .ref p0), (1, .int x1_5), (2, .int x2_2)] []) (by
        intro x1_5 hq
        show V G Γ 3 0 0 h0 28 [(0, .ref p0), (1, .int x1_5), (2, .int x2_2)] []
        refine V_iinc (j := 2) (v := (x2_2 + 1)) (L' := [(0, .ref p0), (1, .int x1_5), (2, .int (x2_2 + 1))]) hC dX6_onesOn_28 rfl rfl (by decide) [1, 2, 0] rfl ?_
        refine V_goto (tgt := 4) hC dX6_onesOn_31 (by decide) ?_
        exact hq)
      refine V_icmp_eq (tgt := 28) hC dX6_onesOn_19 (by decide) (fun hc => ?_) (fun hc => ?_)
      · have hq := hq.1 hc
        exact hq
      · have hq := hq.2 hc
        refine V_iload_n hC dX6_onesOn_22 1 rfl ?_
        refine V_iconst (v := 1) hC dX6_onesOn_23 (by decide) ?_
        refine V_iload_n hC dX6_onesOn_24 2 rfl ?_
        refine V_ishl hC dX6_onesOn_25 ?_
        refine V_ior hC dX6_onesOn_26 ?_
        refine V_istore_n (L' := [(0, .ref p0), (1, .int (x1_1 ||| ((1 : Int32) <<< (x2_2 &&& 31)))), (2, .int x2_2)]) hC dX6_onesOn_27 rfl (by decide) [1, 0, 2] rfl ?_
        exact hq)
  exact hq
theorem clV_X6_onesOn {G : Gx} (hG : GOK G) {Γ : Cx} {own : String} {cc : ByteArray} {nL fr lo mc ms cells slots pc : Nat} {hh : List (Nat × Nat × Nat × Nat)} {h : hw} {L : List (Nat × Value)} {rest : List Value} (hC : COK G Γ own cc nL fr lo mc ms hh) {idx : Nat} (hs : SV own idx yX6_onesOn cX6_onesOn 3 (some .int) 0) {p0 : Nat} (hR : 2 + 1 ≤ fr ∧ 8 + (3 + 11) + 51 ≤ lo) (hw8 : (rest.map fun v => v.category).sum ≤ 8) (hcs : cells + 0 ≤ mc ∧ slots + 0 ≤ ms) (hdg : decode cc pc = .ok (.invokevirtual idx, 3)) (ho : isO h p0 6) {post : Int32 → Prop} (hq : wp_X6_onesOn G p0 h post) (kk : ∀ (r : Int32) , post r → V G Γ nL (cells + 0) (slots + 0) h (pc + 3) L (.int r :: rest)) : V G Γ nL cells slots h pc L (.ref p0 :: rest) :=
  V_callV (As := []) (r9 := (RX6, TX6, 5)) hC (ct_X6_onesOn hG p0 h post hq) hs ho rfl rfl rfl hR hw8 hcs hdg (fun E h1 z => z.elim) (fun v h1 z => by obtain ⟨r, rfl, rfl, hz⟩ := z; exact kk r hz)
set_option maxRecDepth 100000 in
set_option maxHeartbeats 4000000 in
theorem ct_X6_holdsToday {G : Gx} (hG : GOK G) (p0 : Nat) (h0 : hw) (post : Int32 → Prop) (hq : wp_X6_holdsToday G p0 h0 post) : CT G yX6_holdsToday cX6_holdsToday 2 (some .boolean) 3 74 0 0 [.ref p0] h0 (fun v h1 => ∃ r : Int32, v = some (.int r) ∧ h1 = h0 ∧ post r) (fun E h1 => False) := by
  refine CT_of hG (by decide) (Nat.le_of_ble_eq_true rfl) (fun Γ hC hQ hN => ?_)
  have hC : COK G Γ "Bandplan$Register" cX6_holdsToday 2 3 74 0 0 [] := hC
  unfold wp_X6_holdsToday at hq
  show V G Γ 2 0 0 h0 0 [(0, .ref p0)] []
  refine V_iconst (v := 0) hC dX6_holdsToday_0 (by decide) ?_
  refine V_istore_n (L' := [(0, .ref p0), (1, .int 0)]) hC dX6_holdsToday_1 rfl (by decide) [1, 0] rfl ?_
  have hq := hq (fun (x1_1 : Int32) => V G Γ 2 0 0 h0 2 [(0, .ref p0), (1, .int x1_1)] []) (by
    intro x1_1 hq
    show V G Γ 2 0 0 h0 2 [(0, .ref p0), (1, .int x1_1)] []
    refine V_iload_n hC dX6_holdsToday_2 1 rfl ?_
    refine V_bipush (v := 8) hC dX6_holdsToday_3 (by decide) ?_
    refine V_icmp_ge (tgt := 36) hC dX6_holdsToday_5 (by decide) (fun hc => ?_) (fun hc => ?_)
    · have hq := hq.1 hc
      refine V_iconst (v := 1) hC dX6_holdsToday_36 (by decide) ?_
      exact V_iret hC hQ rfl rfl ⟨by decide, by decide⟩ dX6_holdsToday_37 ⟨_, rfl, rfl, hq⟩
    · have hq := hq.2 hc
      refine V_aload_n hC dX6_holdsToday_8 0 rfl ?_
      refine V_iload_n hC dX6_holdsToday_9 1 rfl ?_
      refine V_aload_n hC dX6_holdsToday_10 0 rfl ?_
      refine U_getI hC fl_X6_43 dX6_holdsToday_11 hq (fun v2 hq => ?_)
      obtain ⟨hz, hq⟩ := hq
      refine clV_X6_channelAt hG hC sv_X6_47 ⟨by decide, by decide⟩ (Nat.le_of_ble_eq_true rfl) ⟨by decide, by decide⟩ dX6_holdsToday_14 hz hq (fun r3 hq => ?_)
      show V G Γ 2 0 0 h0 17 [(0, .ref p0), (1, .int x1_1)] [.int r3]
      refine V_aload_n hC dX6_holdsToday_17 0 rfl ?_
      refine U_getR hC fl_X6_14 dX6_holdsToday_18 hq (fun v4 hq => ?_)
      refine V_iload_n hC dX6_holdsToday_21 1 rfl ?_
      obtain ⟨hz, hq⟩ := hq
      refine clV_X7_at hG hC sv_X6_29 ⟨by decide, by decide⟩ (Nat.le_of_ble_eq_true rfl) ⟨by decide, by decide⟩ dX6_holdsToday_22 hz hq (fun r5 hq => ?_)
      show V G Γ 2 0 0 h0 25 [(0, .ref p0), (1, .int x1_1)] [.int r5, .int r3]
      refine V_icmp_eq (tgt := 30) hC dX6_holdsToday_25 (by decide) (fun hc => ?_) (fun hc => ?_)
      · have hq := hq.1 hc
        refine V_iinc (j := 1) (v := (x1_1 + 1)) (L' := [(0, .ref p0), (1, .int (x1_1 + 1))]) hC dX6_holdsToday_30 rfl rfl (by decide) [1, 0] rfl ?_
        refine V_goto (tgt := 2) hC dX6_holdsToday_33 (by decide) ?_
        exact hq
      · have hq := hq.2 hc
        refine V_iconst (v := 0) hC dX6_holdsToday_28 (by decide) ?_
        exact V_iret hC hQ rfl rfl ⟨by decide, by decide⟩ dX6_holdsToday_29 ⟨_, rfl, rfl, hq⟩)
  exact hq
theorem clV_X6_holdsToday {G : Gx} (hG : GOK G) {Γ : Cx} {own : String} {cc : ByteArray} {nL fr lo mc ms cells slots pc : Nat} {hh : List (Nat × Nat × Nat × Nat)} {h : hw} {L : List (Nat × Value)} {rest : List Value} (hC : COK G Γ own cc nL fr lo mc ms hh) {idx : Nat} (hs : SV own idx yX6_holdsToday cX6_holdsToday 2 (some .boolean) 0) {p0 : Nat} (hR : 3 + 1 ≤ fr ∧ 8 + (2 + 11) + 74 ≤ lo) (hw8 : (rest.map fun v => v.category).sum ≤ 8) (hcs : cells + 0 ≤ mc ∧ slots + 0 ≤ ms) (hdg : decode cc pc = .ok (.invokevirtual idx, 3)) (ho : isO h p0 6) {post : Int32 → Prop} (hq : wp_X6_holdsToday G p0 h post) (kk : ∀ (r : Int32) , post r → V G Γ nL (cells + 0) (slots + 0) h (pc + 3) L (.int r :: rest)) : V G Γ nL cells slots h pc L (.ref p0 :: rest) :=
  V_callV (As := []) (r9 := (RX6, TX6, 5)) hC (ct_X6_holdsToday hG p0 h post hq) hs ho rfl rfl rfl hR hw8 hcs hdg (fun E h1 z => z.elim) (fun v h1 z => by obtain ⟨r, rfl, rfl, hz⟩ := z; exact kk r hz)
set_option maxRecDepth 100000 in
set_option maxHeartbeats 4000000 in
theorem ct_X7_copyFrom {G : Gx} (hG : GOK G) (p0 : Nat) (p1 : Nat) (h0 : hw) (post : hw → Prop) (hq : wp_X7_copyFrom G p0 p1 h0 post) : CT G yX7_copyFrom cX7_copyFrom 3 none 2 51 0 0 [.ref p0, .ref p1] h0 (fun v h1 => v = none ∧ post h1) (fun E h1 => False) := by
  refine CT_of hG (by decide) (Nat.le_of_ble_eq_true rfl) (fun Γ hC hQ hN => ?_)
  have hC : COK G Γ "Bandplan$Row" cX7_copyFrom 3 2 51 0 0 [] := hC
  unfold wp_X7_copyFrom at hq
  show V G Γ 3 0 0 h0 0 [(0, .ref p0), (1, .ref p1)] []
  refine V_iconst (v := 0) hC dX7_copyFrom_0 (by decide) ?_
  refine V_istore_n (L' := [(0, .ref p0), (1, .ref p1), (2, .int 0)]) hC dX7_copyFrom_1 rfl (by decide) [1, 2, 0] rfl ?_
  have hq := hq (fun (x2_1 : Int32) (h2 : hw) => V G Γ 3 0 0 h2 2 [(0, .ref p0), (1, .ref p1), (2, .int x2_1)] []) (by
    intro x2_1 h2 hq
    show V G Γ 3 0 0 h2 2 [(0, .ref p0), (1, .ref p1), (2, .int x2_1)] []
    refine V_iload_n hC dX7_copyFrom_2 2 rfl ?_
    refine V_aload_n hC dX7_copyFrom_3 0 rfl ?_
    refine U_getR hC fl_X7_7 dX7_copyFrom_4 hq (fun v3 hq => ?_)
    refine U_lnI hC dX7_copyFrom_7 hq (fun v4 hq => ?_)
    refine V_icmp_ge (tgt := 28) hC dX7_copyFrom_8 (by decide) (fun hc => ?_) (fun hc => ?_)
    · have hq := hq.1 hc
      exact V_vret hC hQ ⟨by decide, by decide⟩ dX7_copyFrom_28 ⟨rfl, hq⟩
    · have hq := hq.2 hc
      refine V_aload_n hC dX7_copyFrom_11 0 rfl ?_
      refine U_getR hC fl_X7_7 dX7_copyFrom_12 hq (fun v5 hq => ?_)
      refine V_iload_n hC dX7_copyFrom_15 2 rfl ?_
      refine V_aload_n hC dX7_copyFrom_16 1 rfl ?_
      refine V_iload_n hC dX7_copyFrom_17 2 rfl ?_
      obtain ⟨hz, hq⟩ := hq
      refine clV_X7_at hG hC sv_X7_13 ⟨by decide, by decide⟩ (Nat.le_of_ble_eq_true rfl) ⟨by decide, by decide⟩ dX7_copyFrom_18 hz hq (fun r6 hq => ?_)
      show V G Γ 3 0 0 h2 21 [(0, .ref p0), (1, .ref p1), (2, .int x2_1)] [.int r6, .int x2_1, .ref v5]
      refine U_stI hC dX7_copyFrom_21 hq (fun h7 hq => ?_)
      refine V_iinc (j := 2) (v := (x2_1 + 1)) (L' := [(0, .ref p0), (1, .ref p1), (2, .int (x2_1 + 1))]) hC dX7_copyFrom_22 rfl rfl (by decide) [1, 2, 0] rfl ?_
      refine V_goto (tgt := 2) hC dX7_copyFrom_25 (by decide) ?_
      exact hq)
  exact hq
theorem clV_X7_copyFrom {G : Gx} (hG : GOK G) {Γ : Cx} {own : String} {cc : ByteArray} {nL fr lo mc ms cells slots pc : Nat} {hh : List (Nat × Nat × Nat × Nat)} {h : hw} {L : List (Nat × Value)} {rest : List Value} (hC : COK G Γ own cc nL fr lo mc ms hh) {idx : Nat} (hs : SV own idx yX7_copyFrom cX7_copyFrom 3 none 1) {p0 : Nat} {p1 : Nat} (hR : 2 + 1 ≤ fr ∧ 8 + (3 + 11) + 51 ≤ lo) (hw8 : (rest.map fun v => v.category).sum ≤ 8) (hcs : cells + 0 ≤ mc ∧ slots + 0 ≤ ms) (hdg : decode cc pc = .ok (.invokevirtual idx, 3)) (ho : isO h p0 7) {post : hw → Prop} (hq : wp_X7_copyFrom G p0 p1 h post) (kk : ∀ (h1 : hw) , post h1 → V G Γ nL (cells + 0) (slots + 0) h1 (pc + 3) L (rest)) : V G Γ nL cells slots h pc L (.ref p1 :: .ref p0 :: rest) :=
  V_callV (As := [.ref p1]) (r9 := (RX7, TX7, 1)) hC (ct_X7_copyFrom hG p0 p1 h post hq) hs ho rfl rfl rfl hR hw8 hcs hdg (fun E h1 z => z.elim) (fun v h1 z => by obtain ⟨rfl, hz⟩ := z; exact kk h1 hz)
set_option maxRecDepth 100000 in
set_option maxHeartbeats 4000000 in
theorem ct_X8_init {G : Gx} (hG : GOK G) (p0 : Nat) (h0 : hw) (post : hw → Prop) (hq : wp_X8_init G p0 h0 post) : CT G yX8_init cX8_init 1 none 3 83 4 18 [.ref p0] h0 (fun v h1 => v = none ∧ post h1) (fun E h1 => False) := by
  refine CT_of hG (by decide) (Nat.le_of_ble_eq_true rfl) (fun Γ hC hQ hN => ?_)
  have hC : COK G Γ "Bandplan$Selling" cX8_init 1 3 83 4 18 [] := hC
  have hin := HIN hN rfl
  unfold wp_X8_init at hq
  show V G Γ 1 0 0 h0 0 [(0, .ref p0)] []
  refine V_aload_n hC dX8_init_0 0 rfl ?_
  refine V_objInit hC so_X8_3 (by decide) (Nat.le_of_ble_eq_true rfl) dX8_init_1 ?_
  refine V_aload_n hC dX8_init_4 0 rfl ?_
  refine U_new hC no_X8_9 ⟨by decide, by decide⟩ dX8_init_5 hq (fun a1 h2 hq => ?_)
  refine V_dup hC dX8_init_8 rfl ?_
  refine V_bipush (v := 8) hC dX8_init_9 (by decide) ?_
  refine V_iconst (v := (-1)) hC dX8_init_11 (by decide) ?_
  refine clI_X7_init hG hC si_X8_11 ⟨by decide, by decide⟩ (Nat.le_of_ble_eq_true rfl) ⟨by decide, by decide⟩ dX8_init_12 hq (fun h3 hq => ?_)
  show V G Γ 1 2 9 h3 15 [(0, .ref p0)] [.ref a1, .ref p0]
  refine U_putF hC (Or.inl (by decide)) fl_X8_14 fin_X8_0 hin rfl rfl dX8_init_15 hq (fun h4 hq => ?_)
  refine V_aload_n hC dX8_init_18 0 rfl ?_
  refine U_new hC no_X8_9 ⟨by decide, by decide⟩ dX8_init_19 hq (fun a5 h6 hq => ?_)
  refine V_dup hC dX8_init_22 rfl ?_
  refine V_bipush (v := 8) hC dX8_init_23 (by decide) ?_
  refine V_iconst (v := 0) hC dX8_init_25 (by decide) ?_
  refine clI_X7_init hG hC si_X8_11 ⟨by decide, by decide⟩ (Nat.le_of_ble_eq_true rfl) ⟨by decide, by decide⟩ dX8_init_26 hq (fun h7 hq => ?_)
  show V G Γ 1 4 18 h7 29 [(0, .ref p0)] [.ref a5, .ref p0]
  refine U_putF hC (Or.inl (by decide)) fl_X8_20 fin_X8_5 hin rfl rfl dX8_init_29 hq (fun h8 hq => ?_)
  exact V_vret hC hQ ⟨by decide, by decide⟩ dX8_init_32 ⟨rfl, hq⟩
theorem clIN_X8_init {G : Gx} (hG : GOK G) {Γ : Cx} {own : String} {cc : ByteArray} {nL fr lo mc ms cells slots pc : Nat} {hh : List (Nat × Nat × Nat × Nat)} {h : hw} {L : List (Nat × Value)} {rest : List Value} (hC : COK G Γ own cc nL fr lo mc ms hh) {idx : Nat} {host : String} (hs : SIN own idx yX8_init host cX8_init 1 0) {p0 : Nat} (hR : 3 + 1 ≤ fr ∧ 8 + (1 + 11) + 83 ≤ lo) (hw8 : (rest.map fun v => v.category).sum ≤ 8) (hcs : cells + 4 ≤ mc ∧ slots + 18 ≤ ms) (hdg : decode cc pc = .ok (.invokespecial idx, 3)) {post : hw → Prop} (hq : wp_X8_init G p0 h post) (kk : ∀ (h1 : hw) , post h1 → V G Γ nL (cells + 4) (slots + 18) h1 (pc + 3) L (rest)) : V G Γ nL cells slots h pc L (.ref p0 :: rest) :=
  V_callIN (As := []) hC (ct_X8_init hG p0 h post hq) hs rfl hR hw8 hcs hdg (fun E h1 z => z.elim) (fun v h1 z => by obtain ⟨rfl, hz⟩ := z; exact kk h1 hz)
set_option maxRecDepth 100000 in
set_option maxHeartbeats 4000000 in
theorem ct_X8_begin {G : Gx} (hG : GOK G) (p0 : Nat) (p1 : Int32) (p2 : Int32) (h0 : hw) (post : hw → Prop) (hq : wp_X8_begin G p0 p1 p2 h0 post) : CT G yX8_begin cX8_begin 3 none 2 52 0 0 [.ref p0, .int p1, .int p2] h0 (fun v h1 => v = none ∧ post h1) (fun E h1 => False) := by
  refine CT_of hG (by decide) (Nat.le_of_ble_eq_true rfl) (fun Γ hC hQ hN => ?_)
  have hC : COK G Γ "Bandplan$Selling" cX8_begin 3 2 52 0 0 [] := hC
  unfold wp_X8_begin at hq
  show V G Γ 3 0 0 h0 0 [(0, .ref p0), (1, .int p1), (2, .int p2)] []
  refine V_aload_n hC dX8_begin_0 0 rfl ?_
  refine V_iload_n hC dX8_begin_1 1 rfl ?_
  refine U_putO hC (by decide) fl_X8_23 fin_X8_2 rfl rfl dX8_begin_2 hq (fun h1 hq => ?_)
  refine V_aload_n hC dX8_begin_5 0 rfl ?_
  refine V_iconst (v := 1) hC dX8_begin_6 (by decide) ?_
  refine U_putO hC (by decide) fl_X8_27 fin_X8_1 rfl rfl dX8_begin_7 hq (fun h2 hq => ?_)
  refine V_aload_n hC dX8_begin_10 0 rfl ?_
  refine V_iload_n hC dX8_begin_11 2 rfl ?_
  refine U_putO hC (by decide) fl_X8_31 fin_X8_3 rfl rfl dX8_begin_12 hq (fun h3 hq => ?_)
  refine V_aload_n hC dX8_begin_15 0 rfl ?_
  refine V_iconst (v := 0) hC dX8_begin_16 (by decide) ?_
  refine U_putO hC (by decide) fl_X8_34 fin_X8_4 rfl rfl dX8_begin_17 hq (fun h4 hq => ?_)
  refine V_aload_n hC dX8_begin_20 0 rfl ?_
  refine U_getR hC fl_X8_14 dX8_begin_21 hq (fun v5 hq => ?_)
  refine V_iconst (v := (-1)) hC dX8_begin_24 (by decide) ?_
  obtain ⟨hz, hq⟩ := hq
  refine clV_X7_fillWith hG hC sv_X8_37 ⟨by decide, by decide⟩ (Nat.le_of_ble_eq_true rfl) ⟨by decide, by decide⟩ dX8_begin_25 hz hq (fun h6 hq => ?_)
  show V G Γ 3 0 0 h6 28 [(0, .ref p0), (1, .int p1), (2, .int p2)] []
  exact V_vret hC hQ ⟨by decide, by decide⟩ dX8_begin_28 ⟨rfl, hq⟩
theorem clV_X8_begin {G : Gx} (hG : GOK G) {Γ : Cx} {own : String} {cc : ByteArray} {nL fr lo mc ms cells slots pc : Nat} {hh : List (Nat × Nat × Nat × Nat)} {h : hw} {L : List (Nat × Value)} {rest : List Value} (hC : COK G Γ own cc nL fr lo mc ms hh) {idx : Nat} (hs : SV own idx yX8_begin cX8_begin 3 none 2) {p0 : Nat} {p1 : Int32} {p2 : Int32} (hR : 2 + 1 ≤ fr ∧ 8 + (3 + 11) + 52 ≤ lo) (hw8 : (rest.map fun v => v.category).sum ≤ 8) (hcs : cells + 0 ≤ mc ∧ slots + 0 ≤ ms) (hdg : decode cc pc = .ok (.invokevirtual idx, 3)) (ho : isO h p0 8) {post : hw → Prop} (hq : wp_X8_begin G p0 p1 p2 h post) (kk : ∀ (h1 : hw) , post h1 → V G Γ nL (cells + 0) (slots + 0) h1 (pc + 3) L (rest)) : V G Γ nL cells slots h pc L (.int p2 :: .int p1 :: .ref p0 :: rest) :=
  V_callV (As := [.int p1, .int p2]) (r9 := (RX8, TX8, 6)) hC (ct_X8_begin hG p0 p1 p2 h post hq) hs ho rfl rfl rfl hR hw8 hcs hdg (fun E h1 z => z.elim) (fun v h1 z => by obtain ⟨rfl, hz⟩ := z; exact kk h1 hz)
set_option maxRecDepth 100000 in
set_option maxHeartbeats 4000000 in
theorem ct_X8_take {G : Gx} (hG : GOK G) (p0 : Nat) (p1 : Nat) (p2 : Int32) (h0 : hw) (post : hw → Prop) (hq : wp_X8_take G p0 p1 p2 h0 post) : CT G yX8_take cX8_take 3 none 2 52 0 0 [.ref p0, .ref p1, .int p2] h0 (fun v h1 => v = none ∧ post h1) (fun E h1 => False) := by
  refine CT_of hG (by decide) (Nat.le_of_ble_eq_true rfl) (fun Γ hC hQ hN => ?_)
  have hC : COK G Γ "Bandplan$Selling" cX8_take 3 2 52 0 0 [] := hC
  unfold wp_X8_take at hq
  show V G Γ 3 0 0 h0 0 [(0, .ref p0), (1, .ref p1), (2, .int p2)] []
  refine V_aload_n hC dX8_take_0 0 rfl ?_
  refine U_getR hC fl_X8_14 dX8_take_1 hq (fun v1 hq => ?_)
  refine V_aload_n hC dX8_take_4 1 rfl ?_
  refine U_getI hC fl_X8_84 dX8_take_5 hq (fun v2 hq => ?_)
  refine V_iload_n hC dX8_take_8 2 rfl ?_
  obtain ⟨hz, hq⟩ := hq
  refine clV_X7_put hG hC sv_X8_87 ⟨by decide, by decide⟩ (Nat.le_of_ble_eq_true rfl) ⟨by decide, by decide⟩ dX8_take_9 hz hq (fun h3 hq => ?_)
  show V G Γ 3 0 0 h3 12 [(0, .ref p0), (1, .ref p1), (2, .int p2)] []
  refine V_aload_n hC dX8_take_12 0 rfl ?_
  refine U_getR hC fl_X8_20 dX8_take_13 hq (fun v4 hq => ?_)
  refine V_aload_n hC dX8_take_16 1 rfl ?_
  refine U_getI hC fl_X8_84 dX8_take_17 hq (fun v5 hq => ?_)
  refine V_aload_n hC dX8_take_20 1 rfl ?_
  refine U_getI hC fl_X8_81 dX8_take_21 hq (fun v6 hq => ?_)
  obtain ⟨hz, hq⟩ := hq
  refine clV_X7_put hG hC sv_X8_87 ⟨by decide, by decide⟩ (Nat.le_of_ble_eq_true rfl) ⟨by decide, by decide⟩ dX8_take_24 hz hq (fun h7 hq => ?_)
  show V G Γ 3 0 0 h7 27 [(0, .ref p0), (1, .ref p1), (2, .int p2)] []
  exact V_vret hC hQ ⟨by decide, by decide⟩ dX8_take_27 ⟨rfl, hq⟩
theorem clV_X8_take {G : Gx} (hG : GOK G) {Γ : Cx} {own : String} {cc : ByteArray} {nL fr lo mc ms cells slots pc : Nat} {hh : List (Nat × Nat × Nat × Nat)} {h : hw} {L : List (Nat × Value)} {rest : List Value} (hC : COK G Γ own cc nL fr lo mc ms hh) {idx : Nat} (hs : SV own idx yX8_take cX8_take 3 none 2) {p0 : Nat} {p1 : Nat} {p2 : Int32} (hR : 2 + 1 ≤ fr ∧ 8 + (3 + 11) + 52 ≤ lo) (hw8 : (rest.map fun v => v.category).sum ≤ 8) (hcs : cells + 0 ≤ mc ∧ slots + 0 ≤ ms) (hdg : decode cc pc = .ok (.invokevirtual idx, 3)) (ho : isO h p0 8) {post : hw → Prop} (hq : wp_X8_take G p0 p1 p2 h post) (kk : ∀ (h1 : hw) , post h1 → V G Γ nL (cells + 0) (slots + 0) h1 (pc + 3) L (rest)) : V G Γ nL cells slots h pc L (.int p2 :: .ref p1 :: .ref p0 :: rest) :=
  V_callV (As := [.ref p1, .int p2]) (r9 := (RX8, TX8, 6)) hC (ct_X8_take hG p0 p1 p2 h post hq) hs ho rfl rfl rfl hR hw8 hcs hdg (fun E h1 z => z.elim) (fun v h1 z => by obtain ⟨rfl, hz⟩ := z; exact kk h1 hz)
set_option maxRecDepth 100000 in
set_option maxHeartbeats 4000000 in
theorem ct_X8_holdRound {G : Gx} (hG : GOK G) (p0 : Nat) (p1 : Nat) (p2 : Nat) (p3 : Int32) (p4 : Int32) (p5 : Int32) (h0 : hw) (post : Int32 → hw → Prop) (hq : wp_X8_holdRound G p0 p1 p2 p3 p4 p5 h0 post) : CT G yX8_holdRound cX8_holdRound 10 (some .int) 16 401 0 0 [.ref p0, .ref p1, .ref p2, .int p3, .int p4, .int p5] h0 (fun v h1 => ∃ r : Int32, v = some (.int r) ∧ post r h1) (fun E h1 => False) := by
  refine CT_of hG (by decide) (Nat.le_of_ble_eq_true rfl) (fun Γ hC hQ hN => ?_)
  have hC : COK G Γ "Bandplan$Selling" cX8_holdRound 10 16 401 0 0 [] := hC
  unfold wp_X8_holdRound at hq
  show V G Γ 10 0 0 h0 0 [(0, .ref p0), (1, .ref p1), (2, .ref p2), (3, .int p3), (4, .int p4), (5, .int p5)] []
  refine V_iload_n hC dX8_holdRound_0 3 rfl ?_
  refine V_istore (L' := [(0, .ref p0), (1, .ref p1), (2, .ref p2), (3, .int p3), (4, .int p4), (5, .int p5), (6, .int p3)]) hC dX8_holdRound_1 (by decide) [1, 2, 3, 4, 5, 6, 0] rfl ?_
  refine V_iconst (v := 0) hC dX8_holdRound_3 (by decide) ?_
  refine V_istore (L' := [(0, .ref p0), (1, .ref p1), (2, .ref p2), (3, .int p3), (4, .int p4), (5, .int p5), (6, .int p3), (7, .int 0)]) hC dX8_holdRound_4 (by decide) [1, 2, 3, 4, 5, 6, 7, 0] rfl ?_
  have hq := hq (fun (x6_1 : Int32) (x7_2 : Int32) (h3 : hw) => V G Γ 10 0 0 h3 6 [(0, .ref p0), (1, .ref p1), (2, .ref p2), (3, .int p3), (4, .int p4), (5, .int p5), (6, .int x6_1), (7, .int x7_2)] []) (by
    intro x6_1 x7_2 h3 hq
    show V G Γ 10 0 0 h3 6 [(0, .ref p0), (1, .ref p1), (2, .ref p2), (3, .int p3), (4, .int p4), (5, .int p5), (6, .int x6_1), (7, .int x7_2)] []
    refine V_iload hC dX8_holdRound_6 7 rfl ?_
    refine V_aload_n hC dX8_holdRound_8 1 rfl ?_
    refine U_getR hC fl_X8_45 dX8_holdRound_9 hq (fun v4 hq => ?_)
    obtain ⟨hz, hq⟩ := hq
    refine clV_Jx4a65c_size_8abf5 hG hC sv_X8_51 ⟨by decide, by decide⟩ (Nat.le_of_ble_eq_true rfl) ⟨by decide, by decide⟩ dX8_holdRound_12 hz hq (fun r5 hq => ?_)
    show V G Γ 10 0 0 h3 15 [(0, .ref p0), (1, .ref p1), (2, .ref p2), (3, .int p3), (4, .int p4), (5, .int p5), (6, .int x6_1), (7, .int x7_2)] [.int r5, .int x7_2]
    refine V_icmp_ge (tgt := 120) hC dX8_holdRound_15 (by decide) (fun hc => ?_) (fun hc => ?_)
    · have hq := hq.1 hc
      refine V_iload hC dX8_holdRound_120 6 rfl ?_
      exact V_iret hC hQ rfl rfl ⟨by decide, by decide⟩ dX8_holdRound_122 ⟨_, rfl, hq⟩
    · have hq := hq.2 hc
      refine V_iload hC dX8_holdRound_18 7 rfl ?_
      refine V_iload_n hC dX8_holdRound_20 3 rfl ?_
      refine clSN_X11_isIn hG hC ssn_X8_57 ⟨by decide, by decide⟩ (Nat.le_of_ble_eq_true rfl) ⟨by decide, by decide⟩ dX8_holdRound_21 hq (fun r6 hq => ?_)
      show V G Γ 10 0 0 h3 24 [(0, .ref p0), (1, .ref p1), (2, .ref p2), (3, .int p3), (4, .int p4), (5, .int p5), (6, .int x6_1), (7, .int x7_2)] [.int r6]
      have hq := hq (fun (x6_7 : Int32) (h8 : hw) => V G Γ 10 0 0 h8 114 [(0, .ref p0), (1, .ref p1), (2, .ref p2), (3, .int p3), (4, .int p4), (5, .int p5), (6, .int x6_7), (7, .int x7_2)] []) (by
        intro x6_7 h8 hq
        show V G Γ 10 0 0 h8 114 [(0, .ref p0), (1, .ref p1), (2, .ref p2), (3, .int p3), (4, .int p4), (5, .int p5), (6, .int x6_7), (7, .int x7_2)] []
        refine V_iinc (j := 7) (v := (x7_2 + 1)) (L' := [(0, .ref p0), (1, .ref p1), (2, .ref p2), (3, .int p3), (4, .int p4), (5, .int p5), (6, .int x6_7), (7, .int (x7_2 + 1))]) hC dX8_holdRound_114 rfl rfl (by decide) [1, 2, 3, 4, 5, 6, 7, 0] rfl ?_
        refine V_goto (tgt := 6) hC dX8_holdRound_117 (by decide) ?_
        exact hq)
      refine V_if_ne (tgt := 30) hC dX8_holdRound_24 (by decide) (fun hc => ?_) (fun hc => ?_)
      · have hq := hq.1 hc
        refine V_aload_n hC dX8_holdRound_30 1 rfl ?_
        refine U_getR hC fl_X8_45 dX8_holdRound_31 hq (fun v9 hq => ?_)
        refine V_iload hC dX8_holdRound_34 7 rfl ?_
        obtain ⟨hz, hq⟩ := hq
        refine clV_Jx4a65c_get_915e3 hG hC sv_X8_61 ⟨by decide, by decide⟩ (Nat.le_of_ble_eq_true rfl) ⟨by decide, by decide⟩ dX8_holdRound_36 hz hq (fun r10 hq => ?_)
        show V G Γ 10 0 0 h3 39 [(0, .ref p0), (1, .ref p1), (2, .ref p2), (3, .int p3), (4, .int p4), (5, .int p5), (6, .int x6_1), (7, .int x7_2)] [.ref r10]
        obtain ⟨hz, hq⟩ := hq
        refine V_cast (r9 := (RX10, TX10, 6)) hC aw_4_194 rfl hz dX8_holdRound_39 ?_
        refine V_astore (L' := [(0, .ref p0), (1, .ref p1), (2, .ref p2), (3, .int p3), (4, .int p4), (5, .int p5), (6, .int x6_1), (7, .int x7_2), (8, .ref r10)]) hC dX8_holdRound_42 (by decide) [1, 2, 3, 4, 5, 6, 7, 8, 0] rfl ?_
        refine V_iconst (v := 1) hC dX8_holdRound_44 (by decide) ?_
        refine V_iload hC dX8_holdRound_45 7 rfl ?_
        refine V_ishl hC dX8_holdRound_47 ?_
        refine V_istore (L' := [(0, .ref p0), (1, .ref p1), (2, .ref p2), (3, .int p3), (4, .int p4), (5, .int p5), (6, .int x6_1), (7, .int x7_2), (8, .ref r10), (9, .int ((1 : Int32) <<< (x7_2 &&& 31)))]) hC dX8_holdRound_48 (by decide) [1, 2, 3, 4, 5, 6, 7, 8, 9, 0] rfl ?_
        refine V_aload_n hC dX8_holdRound_50 2 rfl ?_
        refine V_aload_n hC dX8_holdRound_51 0 rfl ?_
        refine U_getI hC fl_X8_31 dX8_holdRound_52 hq (fun v11 hq => ?_)
        refine V_iload hC dX8_holdRound_55 9 rfl ?_
        refine V_ior hC dX8_holdRound_57 ?_
        obtain ⟨hz, hq⟩ := hq
        refine clV_X5_fits hG hC sv_X8_75 ⟨by decide, by decide⟩ (Nat.le_of_ble_eq_true rfl) ⟨by decide, by decide⟩ dX8_holdRound_58 hz hq (fun r12 h13 hq => ?_)
        show V G Γ 10 0 0 h13 61 [(0, .ref p0), (1, .ref p1), (2, .ref p2), (3, .int p3), (4, .int p4), (5, .int p5), (6, .int x6_1), (7, .int x7_2), (8, .ref r10), (9, .int ((1 : Int32) <<< (x7_2 &&& 31)))] [.int r12]
        refine V_if_ne (tgt := 84) hC dX8_holdRound_61 (by decide) (fun hc => ?_) (fun hc => ?_)
        · have hq := hq.1 hc
          refine V_aload hC dX8_holdRound_84 8 rfl ?_
          refine U_getI hC fl_X8_81 dX8_holdRound_86 hq (fun v14 hq => ?_)
          refine V_iload hC dX8_holdRound_89 5 rfl ?_
          refine V_icmp_le (tgt := 114) hC dX8_holdRound_91 (by decide) (fun hc => ?_) (fun hc => ?_)
          · have hq := hq.1 hc
            refine V_sub [0, 1, 2, 3, 4, 5, 6, 7] rfl ?_
            exact hq
          · have hq := hq.2 hc
            refine V_aload_n hC dX8_holdRound_94 0 rfl ?_
            refine V_dup hC dX8_holdRound_95 rfl ?_
            refine U_getI hC fl_X8_31 dX8_holdRound_96 hq (fun v15 hq => ?_)
            refine V_iload hC dX8_holdRound_99 9 rfl ?_
            refine V_ior hC dX8_holdRound_101 ?_
            refine U_putO hC (by decide) fl_X8_31 fin_X8_3 rfl rfl dX8_holdRound_102 hq (fun h16 hq => ?_)
            refine V_iload hC dX8_holdRound_105 6 rfl ?_
            refine V_iload hC dX8_holdRound_107 9 rfl ?_
            refine V_iconst (v := (-1)) hC dX8_holdRound_109 (by decide) ?_
            refine V_ixor hC dX8_holdRound_110 ?_
            refine V_iand hC dX8_holdRound_111 ?_
            refine V_istore (L' := [(0, .ref p0), (1, .ref p1), (2, .ref p2), (3, .int p3), (4, .int p4), (5, .int p5), (6, .int (x6_1 &&& (((1 : Int32) <<< (x7_2 &&& 31)) ^^^ (-1)))), (7, .int x7_2), (8, .ref r10), (9, .int ((1 : Int32) <<< (x7_2 &&& 31)))]) hC dX8_holdRound_112 (by decide) [1, 2, 3, 4, 5, 6, 0, 7, 8, 9] rfl ?_
            refine V_sub [0, 1, 2, 3, 4, 5, 6, 7] rfl ?_
            exact hq
        · have hq := hq.2 hc
          refine V_aload_n hC dX8_holdRound_64 0 rfl ?_
          refine V_aload hC dX8_holdRound_65 8 rfl ?_
          refine V_iload hC dX8_holdRound_67 4 rfl ?_
          obtain ⟨hz, hq⟩ := hq
          refine clV_X8_take hG hC sv_X8_67 ⟨by decide, by decide⟩ (Nat.le_of_ble_eq_true rfl) ⟨by decide, by decide⟩ dX8_holdRound_69 hz hq (fun h17 hq => ?_)
          show V G Γ 10 0 0 h17 72 [(0, .ref p0), (1, .ref p1), (2, .ref p2), (3, .int p3), (4, .int p4), (5, .int p5), (6, .int x6_1), (7, .int x7_2), (8, .ref r10), (9, .int ((1 : Int32) <<< (x7_2 &&& 31)))] []
          refine V_iload hC dX8_holdRound_72 6 rfl ?_
          refine V_iload hC dX8_holdRound_74 9 rfl ?_
          refine V_iconst (v := (-1)) hC dX8_holdRound_76 (by decide) ?_
          refine V_ixor hC dX8_holdRound_77 ?_
          refine V_iand hC dX8_holdRound_78 ?_
          refine V_istore (L' := [(0, .ref p0), (1, .ref p1), (2, .ref p2), (3, .int p3), (4, .int p4), (5, .int p5), (6, .int (x6_1 &&& (((1 : Int32) <<< (x7_2 &&& 31)) ^^^ (-1)))), (7, .int x7_2), (8, .ref r10), (9, .int ((1 : Int32) <<< (x7_2 &&& 31)))]) hC dX8_holdRound_79 (by decide) [1, 2, 3, 4, 5, 6, 0, 7, 8, 9] rfl ?_
          refine V_goto (tgt := 114) hC dX8_holdRound_81 (by decide) ?_
          refine V_sub [0, 1, 2, 3, 4, 5, 6, 7] rfl ?_
          exact hq
      · have hq := hq.2 hc
        refine V_goto (tgt := 114) hC dX8_holdRound_27 (by decide) ?_
        exact hq)
  exact hq
theorem clV_X8_holdRound {G : Gx} (hG : GOK G) {Γ : Cx} {own : String} {cc : ByteArray} {nL fr lo mc ms cells slots pc : Nat} {hh : List (Nat × Nat × Nat × Nat)} {h : hw} {L : List (Nat × Value)} {rest : List Value} (hC : COK G Γ own cc nL fr lo mc ms hh) {idx : Nat} (hs : SV own idx yX8_holdRound cX8_holdRound 10 (some .int) 5) {p0 : Nat} {p1 : Nat} {p2 : Nat} {p3 : Int32} {p4 : Int32} {p5 : Int32} (hR : 16 + 1 ≤ fr ∧ 8 + (10 + 11) + 401 ≤ lo) (hw8 : (rest.map fun v => v.category).sum ≤ 8) (hcs : cells + 0 ≤ mc ∧ slots + 0 ≤ ms) (hdg : decode cc pc = .ok (.invokevirtual idx, 3)) (ho : isO h p0 8) {post : Int32 → hw → Prop} (hq : wp_X8_holdRound G p0 p1 p2 p3 p4 p5 h post) (kk : ∀ (r : Int32) (h1 : hw) , post r h1 → V G Γ nL (cells + 0) (slots + 0) h1 (pc + 3) L (.int r :: rest)) : V G Γ nL cells slots h pc L (.int p5 :: .int p4 :: .int p3 :: .ref p2 :: .ref p1 :: .ref p0 :: rest) :=
  V_callV (As := [.ref p1, .ref p2, .int p3, .int p4, .int p5]) (r9 := (RX8, TX8, 6)) hC (ct_X8_holdRound hG p0 p1 p2 p3 p4 p5 h post hq) hs ho rfl rfl rfl hR hw8 hcs hdg (fun E h1 z => z.elim) (fun v h1 z => by obtain ⟨r, rfl, hz⟩ := z; exact kk r h1 hz)
set_option maxRecDepth 100000 in
set_option maxHeartbeats 4000000 in
theorem ct_X8_run {G : Gx} (hG : GOK G) (p0 : Nat) (p1 : Nat) (p2 : Nat) (p3 : Int32) (p4 : Int32) (p5 : Int32) (h0 : hw) (post : Int32 → hw → Prop) (hq : wp_X8_run G p0 p1 p2 p3 p4 p5 h0 post) : CT G yX8_run cX8_run 9 (some .int) 17 430 0 0 [.ref p0, .ref p1, .ref p2, .int p3, .int p4, .int p5] h0 (fun v h1 => ∃ r : Int32, v = some (.int r) ∧ post r h1) (fun E h1 => False) := by
  refine CT_of hG (by decide) (Nat.le_of_ble_eq_true rfl) (fun Γ hC hQ hN => ?_)
  have hC : COK G Γ "Bandplan$Selling" cX8_run 9 17 430 0 0 [] := hC
  unfold wp_X8_run at hq
  show V G Γ 9 0 0 h0 0 [(0, .ref p0), (1, .ref p1), (2, .ref p2), (3, .int p3), (4, .int p4), (5, .int p5)] []
  refine V_iload_n hC dX8_run_0 3 rfl ?_
  refine V_istore (L' := [(0, .ref p0), (1, .ref p1), (2, .ref p2), (3, .int p3), (4, .int p4), (5, .int p5), (6, .int p3)]) hC dX8_run_1 (by decide) [1, 2, 3, 4, 5, 6, 0] rfl ?_
  refine V_iload hC dX8_run_3 4 rfl ?_
  refine V_istore (L' := [(0, .ref p0), (1, .ref p1), (2, .ref p2), (3, .int p3), (4, .int p4), (5, .int p5), (6, .int p3), (7, .int p4)]) hC dX8_run_5 (by decide) [1, 2, 3, 4, 5, 6, 7, 0] rfl ?_
  refine V_iconst (v := 0) hC dX8_run_7 (by decide) ?_
  refine V_istore (L' := [(0, .ref p0), (1, .ref p1), (2, .ref p2), (3, .int p3), (4, .int p4), (5, .int p5), (6, .int p3), (7, .int p4), (8, .int 0)]) hC dX8_run_8 (by decide) [1, 2, 3, 4, 5, 6, 7, 8, 0] rfl ?_
  have hq := hq (fun (x6_1 : Int32) (x7_2 : Int32) (x8_3 : Int32) (h4 : hw) => V G Γ 9 0 0 h4 10 [(0, .ref p0), (1, .ref p1), (2, .ref p2), (3, .int p3), (5, .int p5), (6, .int x6_1), (7, .int x7_2), (8, .int x8_3)] []) (by
    intro x6_1 x7_2 x8_3 h4 hq
    show V G Γ 9 0 0 h4 10 [(0, .ref p0), (1, .ref p1), (2, .ref p2), (3, .int p3), (5, .int p5), (6, .int x6_1), (7, .int x7_2), (8, .int x8_3)] []
    refine V_iload hC dX8_run_10 7 rfl ?_
    refine V_sipush (v := 9999) hC dX8_run_12 (by decide) ?_
    have hq := hq (V G Γ 9 0 0 h4 70 [(0, .ref p0), (1, .ref p1), (3, .int p3), (6, .int x6_1), (7, .int x7_2)] []) (by
      intro hq
      show V G Γ 9 0 0 h4 70 [(0, .ref p0), (1, .ref p1), (3, .int p3), (6, .int x6_1), (7, .int x7_2)] []
      refine V_iconst (v := 0) hC dX8_run_70 (by decide) ?_
      refine V_istore (L' := [(0, .ref p0), (1, .ref p1), (3, .int p3), (6, .int x6_1), (7, .int x7_2), (8, .int 0)]) hC dX8_run_71 (by decide) [1, 2, 3, 4, 5, 0] rfl ?_
      have hq := hq (fun (x8_5 : Int32) (h6 : hw) => V G Γ 9 0 0 h6 73 [(0, .ref p0), (1, .ref p1), (3, .int p3), (6, .int x6_1), (7, .int x7_2), (8, .int x8_5)] []) (by
        intro x8_5 h6 hq
        show V G Γ 9 0 0 h6 73 [(0, .ref p0), (1, .ref p1), (3, .int p3), (6, .int x6_1), (7, .int x7_2), (8, .int x8_5)] []
        refine V_iload hC dX8_run_73 5 rfl ?_
        refine V_aload_n hC dX8_run_75 1 rfl ?_
        refine U_getR hC fl_X8_45 dX8_run_76 hq (fun v7 hq => ?_)
        obtain ⟨hz, hq⟩ := hq
        refine clV_Jx4a65c_size_8abf5 hG hC sv_X8_51 ⟨by decide, by decide⟩ (Nat.le_of_ble_eq_true rfl) ⟨by decide, by decide⟩ dX8_run_79 hz hq (fun r8 hq => ?_)
        show V G Γ 9 0 0 h6 82 [(0, .ref p0), (1, .ref p1), (3, .int p3), (6, .int x6_1), (7, .int x7_2), (8, .int x8_5)] [.int r8, .int x8_5]
        refine V_icmp_ge (tgt := 119) hC dX8_run_82 (by decide) (fun hc => ?_) (fun hc => ?_)
        · have hq := hq.1 hc
          refine V_iload_n hC dX8_run_119 2 rfl ?_
          refine V_aload_n hC dX8_run_120 0 rfl ?_
          refine U_getI hC fl_X8_31 dX8_run_121 hq (fun v9 hq => ?_)
          refine V_iconst (v := (-1)) hC dX8_run_124 (by decide) ?_
          refine V_ixor hC dX8_run_125 ?_
          refine V_iand hC dX8_run_126 ?_
          exact V_iret hC hQ rfl rfl ⟨by decide, by decide⟩ dX8_run_127 ⟨_, rfl, hq⟩
        · have hq := hq.2 hc
          refine V_iload hC dX8_run_85 5 rfl ?_
          refine V_iload hC dX8_run_87 3 rfl ?_
          refine clSN_X11_isIn hG hC ssn_X8_57 ⟨by decide, by decide⟩ (Nat.le_of_ble_eq_true rfl) ⟨by decide, by decide⟩ dX8_run_89 hq (fun r10 hq => ?_)
          show V G Γ 9 0 0 h6 92 [(0, .ref p0), (1, .ref p1), (3, .int p3), (6, .int x6_1), (7, .int x7_2), (8, .int x8_5)] [.int r10]
          have hq := hq (fun (h11 : hw) => V G Γ 9 0 0 h11 113 [(0, .ref p0), (1, .ref p1), (3, .int p3), (6, .int x6_1), (7, .int x7_2), (8, .int x8_5)] []) (by
            intro h11 hq
            show V G Γ 9 0 0 h11 113 [(0, .ref p0), (1, .ref p1), (3, .int p3), (6, .int x6_1), (7, .int x7_2), (8, .int x8_5)] []
            refine V_iinc (j := 5) (v := (x8_5 + 1)) (L' := [(0, .ref p0), (1, .ref p1), (3, .int p3), (6, .int x6_1), (7, .int x7_2), (8, .int (x8_5 + 1))]) hC dX8_run_113 rfl rfl (by decide) [1, 2, 3, 4, 5, 0] rfl ?_
            refine V_goto (tgt := 73) hC dX8_run_116 (by decide) ?_
            exact hq)
          refine V_if_eq (tgt := 113) hC dX8_run_92 (by decide) (fun hc => ?_) (fun hc => ?_)
          · have hq := hq.1 hc
            exact hq
          · have hq := hq.2 hc
            refine V_aload_n hC dX8_run_95 0 rfl ?_
            refine V_aload_n hC dX8_run_96 1 rfl ?_
            refine U_getR hC fl_X8_45 dX8_run_97 hq (fun v12 hq => ?_)
            refine V_iload hC dX8_run_100 5 rfl ?_
            obtain ⟨hz, hq⟩ := hq
            refine clV_Jx4a65c_get_915e3 hG hC sv_X8_61 ⟨by decide, by decide⟩ (Nat.le_of_ble_eq_true rfl) ⟨by decide, by decide⟩ dX8_run_102 hz hq (fun r13 hq => ?_)
            show V G Γ 9 0 0 h6 105 [(0, .ref p0), (1, .ref p1), (3, .int p3), (6, .int x6_1), (7, .int x7_2), (8, .int x8_5)] [.ref r13, .ref p0]
            obtain ⟨hz, hq⟩ := hq
            refine V_cast (r9 := (RX10, TX10, 6)) hC aw_4_194 rfl hz dX8_run_105 ?_
            refine V_iload hC dX8_run_108 4 rfl ?_
            obtain ⟨hz, hq⟩ := hq
            refine clV_X8_take hG hC sv_X8_67 ⟨by decide, by decide⟩ (Nat.le_of_ble_eq_true rfl) ⟨by decide, by decide⟩ dX8_run_110 hz hq (fun h14 hq => ?_)
            show V G Γ 9 0 0 h14 113 [(0, .ref p0), (1, .ref p1), (3, .int p3), (6, .int x6_1), (7, .int x7_2), (8, .int x8_5)] []
            exact hq)
      exact hq)
    refine V_icmp_ge (tgt := 70) hC dX8_run_15 (by decide) (fun hc => ?_) (fun hc => ?_)
    · have hq := hq.1 hc
      refine V_sub [0, 1, 3, 5, 6] rfl ?_
      exact hq
    · have hq := hq.2 hc
      refine V_iload hC dX8_run_18 5 rfl ?_
      refine V_if_eq (tgt := 70) hC dX8_run_20 (by decide) (fun hc => ?_) (fun hc => ?_)
      · have hq := hq.1 hc
        refine V_sub [0, 1, 3, 5, 6] rfl ?_
        exact hq
      · have hq := hq.2 hc
        refine V_iload hC dX8_run_23 6 rfl ?_
        refine V_iload hC dX8_run_25 4 rfl ?_
        refine V_icmp_lt (tgt := 70) hC dX8_run_27 (by decide) (fun hc => ?_) (fun hc => ?_)
        · have hq := hq.1 hc
          refine V_sub [0, 1, 3, 5, 6] rfl ?_
          exact hq
        · have hq := hq.2 hc
          refine V_aload_n hC dX8_run_30 0 rfl ?_
          refine V_aload_n hC dX8_run_31 1 rfl ?_
          refine V_aload_n hC dX8_run_32 2 rfl ?_
          refine V_iload hC dX8_run_33 5 rfl ?_
          refine V_iload hC dX8_run_35 6 rfl ?_
          refine V_iload hC dX8_run_37 6 rfl ?_
          refine V_iload hC dX8_run_39 4 rfl ?_
          refine V_isub hC dX8_run_41 ?_
          obtain ⟨hz, hq⟩ := hq
          refine clV_X8_holdRound hG hC sv_X8_41 ⟨by decide, by decide⟩ (Nat.le_of_ble_eq_true rfl) ⟨by decide, by decide⟩ dX8_run_42 hz hq (fun r15 h16 hq => ?_)
          show V G Γ 9 0 0 h16 45 [(0, .ref p0), (1, .ref p1), (2, .ref p2), (3, .int p3), (5, .int p5), (6, .int x6_1), (7, .int x7_2), (8, .int x8_3)] [.int r15]
          refine V_istore (L' := [(0, .ref p0), (1, .ref p1), (2, .ref p2), (3, .int p3), (5, .int p5), (6, .int r15), (7, .int x7_2), (8, .int x8_3)]) hC dX8_run_45 (by decide) [1, 2, 3, 4, 5, 0, 6, 7] rfl ?_
          refine V_iload hC dX8_run_47 6 rfl ?_
          refine V_iload hC dX8_run_49 4 rfl ?_
          refine V_isub hC dX8_run_51 ?_
          refine V_istore (L' := [(0, .ref p0), (1, .ref p1), (2, .ref p2), (3, .int p3), (5, .int p5), (6, .int r15), (7, .int (x7_2 - p5)), (8, .int x8_3)]) hC dX8_run_52 (by decide) [1, 2, 3, 4, 5, 6, 0, 7] rfl ?_
          refine V_aload_n hC dX8_run_54 0 rfl ?_
          refine V_dup hC dX8_run_55 rfl ?_
          refine U_getI hC fl_X8_34 dX8_run_56 hq (fun v17 hq => ?_)
          refine V_iconst (v := 1) hC dX8_run_59 (by decide) ?_
          refine V_iadd hC dX8_run_60 ?_
          refine U_putO hC (by decide) fl_X8_34 fin_X8_4 rfl rfl dX8_run_61 hq (fun h18 hq => ?_)
          refine V_iinc (j := 7) (v := (x8_3 + 1)) (L' := [(0, .ref p0), (1, .ref p1), (2, .ref p2), (3, .int p3), (5, .int p5), (6, .int r15), (7, .int (x7_2 - p5)), (8, .int (x8_3 + 1))]) hC dX8_run_64 rfl rfl (by decide) [1, 2, 3, 4, 5, 6, 7, 0] rfl ?_
          refine V_goto (tgt := 10) hC dX8_run_67 (by decide) ?_
          exact hq)
  refine V_sub [0, 1, 2, 3, 5, 6, 7, 8] rfl ?_
  exact hq
theorem clV_X8_run {G : Gx} (hG : GOK G) {Γ : Cx} {own : String} {cc : ByteArray} {nL fr lo mc ms cells slots pc : Nat} {hh : List (Nat × Nat × Nat × Nat)} {h : hw} {L : List (Nat × Value)} {rest : List Value} (hC : COK G Γ own cc nL fr lo mc ms hh) {idx : Nat} (hs : SV own idx yX8_run cX8_run 9 (some .int) 5) {p0 : Nat} {p1 : Nat} {p2 : Nat} {p3 : Int32} {p4 : Int32} {p5 : Int32} (hR : 17 + 1 ≤ fr ∧ 8 + (9 + 11) + 430 ≤ lo) (hw8 : (rest.map fun v => v.category).sum ≤ 8) (hcs : cells + 0 ≤ mc ∧ slots + 0 ≤ ms) (hdg : decode cc pc = .ok (.invokevirtual idx, 3)) (ho : isO h p0 8) {post : Int32 → hw → Prop} (hq : wp_X8_run G p0 p1 p2 p3 p4 p5 h post) (kk : ∀ (r : Int32) (h1 : hw) , post r h1 → V G Γ nL (cells + 0) (slots + 0) h1 (pc + 3) L (.int r :: rest)) : V G Γ nL cells slots h pc L (.int p5 :: .int p4 :: .int p3 :: .ref p2 :: .ref p1 :: .ref p0 :: rest) :=
  V_callV (As := [.ref p1, .ref p2, .int p3, .int p4, .int p5]) (r9 := (RX8, TX8, 6)) hC (ct_X8_run hG p0 p1 p2 p3 p4 p5 h post hq) hs ho rfl rfl rfl hR hw8 hcs hdg (fun E h1 z => z.elim) (fun v h1 z => by obtain ⟨r, rfl, hz⟩ := z; exact kk r h1 hz)
