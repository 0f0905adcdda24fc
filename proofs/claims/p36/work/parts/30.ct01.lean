set_option maxRecDepth 100000 in
set_option maxHeartbeats 4000000 in
theorem ct_X2_highestBidder {G : Gx} (hG : GOK G) (p0 : Nat) (p1 : Int32) (p2 : Nat) (h0 : hw) (post : Int32 → Prop) (hq : wp_X2_highestBidder G p0 p1 p2 h0 post) : CT G yX2_highestBidder cX2_highestBidder 7 (some .int) 2 51 0 0 [.ref p0, .int p1, .ref p2] h0 (fun v h1 => ∃ r : Int32, v = some (.int r) ∧ h1 = h0 ∧ post r) (fun E h1 => False) := by
  refine CT_of hG (by decide) (Nat.le_of_ble_eq_true rfl) (fun Γ hC hQ hN => ?_)
  have hC : COK G Γ "Bandplan$Buying" cX2_highestBidder 7 2 51 0 0 [] := hC
  unfold wp_X2_highestBidder at hq
  show V G Γ 7 0 0 h0 0 [(0, .ref p0), (1, .int p1), (2, .ref p2)] []
  refine V_iconst (v := (-1)) hC dX2_highestBidder_0 (by decide) ?_
  refine V_istore_n (L' := [(0, .ref p0), (1, .int p1), (2, .ref p2), (3, .int (-1))]) hC dX2_highestBidder_1 rfl (by decide) [1, 2, 3, 0] rfl ?_
  refine V_iconst (v := 0) hC dX2_highestBidder_2 (by decide) ?_
  refine V_istore (L' := [(0, .ref p0), (1, .int p1), (2, .ref p2), (3, .int (-1)), (4, .int 0)]) hC dX2_highestBidder_3 (by decide) [1, 2, 3, 4, 0] rfl ?_
  refine V_iconst (v := 0) hC dX2_highestBidder_5 (by decide) ?_
  refine V_istore (L' := [(0, .ref p0), (1, .int p1), (2, .ref p2), (3, .int (-1)), (4, .int 0), (5, .int 0)]) hC dX2_highestBidder_6 (by decide) [1, 2, 3, 4, 5, 0] rfl ?_
  have hq := hq (fun (x3_1 : Int32) (x4_2 : Int32) (x5_3 : Int32) => V G Γ 7 0 0 h0 8 [(0, .ref p0), (1, .int p1), (2, .ref p2), (3, .int x3_1), (4, .int x4_2), (5, .int x5_3)] []) (by
    intro x3_1 x4_2 x5_3 hq
    show V G Γ 7 0 0 h0 8 [(0, .ref p0), (1, .int p1), (2, .ref p2), (3, .int x3_1), (4, .int x4_2), (5, .int x5_3)] []
    refine V_iload hC dX2_highestBidder_8 5 rfl ?_
    refine V_aload_n hC dX2_highestBidder_10 0 rfl ?_
    refine U_getI hC fl_X2_29 dX2_highestBidder_11 hq (fun v4 hq => ?_)
    refine V_icmp_ge (tgt := 77) hC dX2_highestBidder_14 (by decide) (fun hc => ?_) (fun hc => ?_)
    · have hq := hq.1 hc
      refine V_iload_n hC dX2_highestBidder_77 3 rfl ?_
      exact V_iret hC hQ rfl rfl ⟨by decide, by decide⟩ dX2_highestBidder_78 ⟨_, rfl, rfl, hq⟩
    · have hq := hq.2 hc
      refine V_aload_n hC dX2_highestBidder_17 2 rfl ?_
      refine V_iload hC dX2_highestBidder_18 5 rfl ?_
      obtain ⟨hz, hq⟩ := hq
      refine clV_X7_at hG hC sv_X2_44 ⟨by decide, by decide⟩ (Nat.le_of_ble_eq_true rfl) ⟨by decide, by decide⟩ dX2_highestBidder_20 hz hq (fun r5 hq => ?_)
      show V G Γ 7 0 0 h0 23 [(0, .ref p0), (1, .int p1), (2, .ref p2), (3, .int x3_1), (4, .int x4_2), (5, .int x5_3)] [.int r5]
      refine V_iconst (v := 3) hC dX2_highestBidder_23 (by decide) ?_
      have hq := hq (fun (t6 : Int32) => V G Γ 7 0 0 h0 49 [(0, .ref p0), (1, .int p1), (2, .ref p2), (3, .int x3_1), (4, .int x4_2), (5, .int x5_3)] [.int t6]) (by
        intro t6 hq
        show V G Γ 7 0 0 h0 49 [(0, .ref p0), (1, .int p1), (2, .ref p2), (3, .int x3_1), (4, .int x4_2), (5, .int x5_3)] [.int t6]
        refine V_istore (L' := [(0, .ref p0), (1, .int p1), (2, .ref p2), (3, .int x3_1), (4, .int x4_2), (5, .int x5_3), (6, .int t6)]) hC dX2_highestBidder_49 (by decide) [1, 2, 3, 4, 5, 6, 0] rfl ?_
        refine V_iload hC dX2_highestBidder_51 5 rfl ?_
        refine V_iload_n hC dX2_highestBidder_53 1 rfl ?_
        have hq := hq (fun (x3_7 : Int32) (x4_8 : Int32) => V G Γ 7 0 0 h0 71 [(0, .ref p0), (1, .int p1), (2, .ref p2), (3, .int x3_7), (4, .int x4_8), (5, .int x5_3)] []) (by
          intro x3_7 x4_8 hq
          show V G Γ 7 0 0 h0 71 [(0, .ref p0), (1, .int p1), (2, .ref p2), (3, .int x3_7), (4, .int x4_8), (5, .int x5_3)] []
          refine V_iinc (j := 5) (v := (x5_3 + 1)) (L' := [(0, .ref p0), (1, .int p1), (2, .ref p2), (3, .int x3_7), (4, .int x4_8), (5, .int (x5_3 + 1))]) hC dX2_highestBidder_71 rfl rfl (by decide) [1, 2, 3, 4, 5, 0] rfl ?_
          refine V_goto (tgt := 8) hC dX2_highestBidder_74 (by decide) ?_
          exact hq)
        refine V_icmp_eq (tgt := 71) hC dX2_highestBidder_54 (by decide) (fun hc => ?_) (fun hc => ?_)
        · have hq := hq.1 hc
          refine V_sub [0, 1, 2, 3, 4, 5] rfl ?_
          exact hq
        · have hq := hq.2 hc
          refine V_iload hC dX2_highestBidder_57 6 rfl ?_
          refine V_iload hC dX2_highestBidder_59 4 rfl ?_
          refine V_icmp_le (tgt := 71) hC dX2_highestBidder_61 (by decide) (fun hc => ?_) (fun hc => ?_)
          · have hq := hq.1 hc
            refine V_sub [0, 1, 2, 3, 4, 5] rfl ?_
            exact hq
          · have hq := hq.2 hc
            refine V_iload hC dX2_highestBidder_64 5 rfl ?_
            refine V_istore_n (L' := [(0, .ref p0), (1, .int p1), (2, .ref p2), (3, .int x5_3), (4, .int x4_2), (5, .int x5_3), (6, .int t6)]) hC dX2_highestBidder_66 rfl (by decide) [1, 2, 3, 0, 4, 5, 6] rfl ?_
            refine V_iload hC dX2_highestBidder_67 6 rfl ?_
            refine V_istore (L' := [(0, .ref p0), (1, .int p1), (2, .ref p2), (3, .int x5_3), (4, .int t6), (5, .int x5_3), (6, .int t6)]) hC dX2_highestBidder_69 (by decide) [1, 2, 3, 4, 0, 5, 6] rfl ?_
            refine V_sub [0, 1, 2, 3, 4, 5] rfl ?_
            exact hq)
      refine V_icmp_ge (tgt := 48) hC dX2_highestBidder_24 (by decide) (fun hc => ?_) (fun hc => ?_)
      · have hq := hq.1 hc
        refine V_iconst (v := 0) hC dX2_highestBidder_48 (by decide) ?_
        exact hq
      · have hq := hq.2 hc
        refine V_aload_n hC dX2_highestBidder_27 0 rfl ?_
        refine U_getR hC fl_X2_23 dX2_highestBidder_28 hq (fun v9 hq => ?_)
        refine V_iload hC dX2_highestBidder_31 5 rfl ?_
        refine V_iconst (v := 3) hC dX2_highestBidder_33 (by decide) ?_
        refine V_imul hC dX2_highestBidder_34 ?_
        refine V_aload_n hC dX2_highestBidder_35 2 rfl ?_
        refine V_iload hC dX2_highestBidder_36 5 rfl ?_
        obtain ⟨hz, hq⟩ := hq
        refine clV_X7_at hG hC sv_X2_44 ⟨by decide, by decide⟩ (Nat.le_of_ble_eq_true rfl) ⟨by decide, by decide⟩ dX2_highestBidder_38 hz hq (fun r10 hq => ?_)
        show V G Γ 7 0 0 h0 41 [(0, .ref p0), (1, .int p1), (2, .ref p2), (3, .int x3_1), (4, .int x4_2), (5, .int x5_3)] [.int r10, .int (x5_3 * 3), .ref v9]
        refine V_iadd hC dX2_highestBidder_41 ?_
        obtain ⟨hz, hq⟩ := hq
        refine clV_X7_at hG hC sv_X2_44 ⟨by decide, by decide⟩ (Nat.le_of_ble_eq_true rfl) ⟨by decide, by decide⟩ dX2_highestBidder_42 hz hq (fun r11 hq => ?_)
        show V G Γ 7 0 0 h0 45 [(0, .ref p0), (1, .int p1), (2, .ref p2), (3, .int x3_1), (4, .int x4_2), (5, .int x5_3)] [.int r11]
        refine V_goto (tgt := 49) hC dX2_highestBidder_45 (by decide) ?_
        exact hq)
  exact hq
theorem clV_X2_highestBidder {G : Gx} (hG : GOK G) {Γ : Cx} {own : String} {cc : ByteArray} {nL fr lo mc ms cells slots pc : Nat} {hh : List (Nat × Nat × Nat × Nat)} {h : hw} {L : List (Nat × Value)} {rest : List Value} (hC : COK G Γ own cc nL fr lo mc ms hh) {idx : Nat} (hs : SV own idx yX2_highestBidder cX2_highestBidder 7 (some .int) 2) {p0 : Nat} {p1 : Int32} {p2 : Nat} (hR : 2 + 1 ≤ fr ∧ 8 + (7 + 11) + 51 ≤ lo) (hw8 : (rest.map fun v => v.category).sum ≤ 8) (hcs : cells + 0 ≤ mc ∧ slots + 0 ≤ ms) (hdg : decode cc pc = .ok (.invokevirtual idx, 3)) (ho : isO h p0 2) {post : Int32 → Prop} (hq : wp_X2_highestBidder G p0 p1 p2 h post) (kk : ∀ (r : Int32) , post r → V G Γ nL (cells + 0) (slots + 0) h (pc + 3) L (.int r :: rest)) : V G Γ nL cells slots h pc L (.ref p2 :: .int p1 :: .ref p0 :: rest) :=
  V_callV (As := [.int p1, .ref p2]) (r9 := (RX2, TX2, 5)) hC (ct_X2_highestBidder hG p0 p1 p2 h post hq) hs ho rfl rfl rfl hR hw8 hcs hdg (fun E h1 z => z.elim) (fun v h1 z => by obtain ⟨r, rfl, rfl, hz⟩ := z; exact kk r hz)
set_option maxRecDepth 100000 in
set_option maxHeartbeats 4000000 in
theorem ct_X2_deal {G : Gx} (hG : GOK G) (p0 : Nat) (p1 : Int32) (p2 : Int32) (p3 : Nat) (h0 : hw) (post : Int32 → hw → Prop) (hq : wp_X2_deal G p0 p1 p2 p3 h0 post) : CT G yX2_deal cX2_deal 6 (some .int) 3 77 0 0 [.ref p0, .int p1, .int p2, .ref p3] h0 (fun v h1 => ∃ r : Int32, v = some (.int r) ∧ post r h1) (fun E h1 => False) := by
  refine CT_of hG (by decide) (Nat.le_of_ble_eq_true rfl) (fun Γ hC hQ hN => ?_)
  have hC : COK G Γ "Bandplan$Buying" cX2_deal 6 3 77 0 0 [] := hC
  unfold wp_X2_deal at hq
  show V G Γ 6 0 0 h0 0 [(0, .ref p0), (1, .int p1), (2, .int p2), (3, .ref p3)] []
  refine V_aload_n hC dX2_deal_0 3 rfl ?_
  refine V_iconst (v := 0) hC dX2_deal_1 (by decide) ?_
  obtain ⟨hz, hq⟩ := hq
  refine clV_X7_fillWith hG hC sv_X2_51 ⟨by decide, by decide⟩ (Nat.le_of_ble_eq_true rfl) ⟨by decide, by decide⟩ dX2_deal_2 hz hq (fun h1 hq => ?_)
  show V G Γ 6 0 0 h1 5 [(0, .ref p0), (1, .int p1), (2, .int p2), (3, .ref p3)] []
  refine V_iconst (v := 0) hC dX2_deal_5 (by decide) ?_
  refine V_istore (L' := [(0, .ref p0), (1, .int p1), (2, .int p2), (3, .ref p3), (4, .int 0)]) hC dX2_deal_6 (by decide) [1, 2, 3, 4, 0] rfl ?_
  have hq := hq (fun (x4_2 : Int32) (h3 : hw) => V G Γ 6 0 0 h3 8 [(0, .ref p0), (1, .int p1), (2, .int p2), (3, .ref p3), (4, .int x4_2)] []) (by
    intro x4_2 h3 hq
    show V G Γ 6 0 0 h3 8 [(0, .ref p0), (1, .int p1), (2, .int p2), (3, .ref p3), (4, .int x4_2)] []
    refine V_iload hC dX2_deal_8 4 rfl ?_
    refine V_iload_n hC dX2_deal_10 1 rfl ?_
    refine V_icmp_ge (tgt := 51) hC dX2_deal_11 (by decide) (fun hc => ?_) (fun hc => ?_)
    · have hq := hq.1 hc
      refine V_iload_n hC dX2_deal_51 1 rfl ?_
      exact V_iret hC hQ rfl rfl ⟨by decide, by decide⟩ dX2_deal_52 ⟨_, rfl, hq⟩
    · have hq := hq.2 hc
      refine V_aload_n hC dX2_deal_14 0 rfl ?_
      refine V_iload_n hC dX2_deal_15 2 rfl ?_
      refine V_aload_n hC dX2_deal_16 3 rfl ?_
      obtain ⟨hz, hq⟩ := hq
      refine clV_X2_highestBidder hG hC sv_X2_55 ⟨by decide, by decide⟩ (Nat.le_of_ble_eq_true rfl) ⟨by decide, by decide⟩ dX2_deal_17 hz hq (fun r4 hq => ?_)
      show V G Γ 6 0 0 h3 20 [(0, .ref p0), (1, .int p1), (2, .int p2), (3, .ref p3), (4, .int x4_2)] [.int r4]
      refine V_istore (L' := [(0, .ref p0), (1, .int p1), (2, .int p2), (3, .ref p3), (4, .int x4_2), (5, .int r4)]) hC dX2_deal_20 (by decide) [1, 2, 3, 4, 5, 0] rfl ?_
      refine V_iload hC dX2_deal_22 5 rfl ?_
      refine V_iconst (v := (-1)) hC dX2_deal_24 (by decide) ?_
      refine V_icmp_ne (tgt := 31) hC dX2_deal_25 (by decide) (fun hc => ?_) (fun hc => ?_)
      · have hq := hq.1 hc
        refine V_aload_n hC dX2_deal_31 3 rfl ?_
        refine V_iload hC dX2_deal_32 5 rfl ?_
        refine V_aload_n hC dX2_deal_34 3 rfl ?_
        refine V_iload hC dX2_deal_35 5 rfl ?_
        obtain ⟨hz, hq⟩ := hq
        refine clV_X7_at hG hC sv_X2_44 ⟨by decide, by decide⟩ (Nat.le_of_ble_eq_true rfl) ⟨by decide, by decide⟩ dX2_deal_37 hz hq (fun r5 hq => ?_)
        show V G Γ 6 0 0 h3 40 [(0, .ref p0), (1, .int p1), (2, .int p2), (3, .ref p3), (4, .int x4_2), (5, .int r4)] [.int r5, .int r4, .ref p3]
        refine V_iconst (v := 1) hC dX2_deal_40 (by decide) ?_
        refine V_iadd hC dX2_deal_41 ?_
        obtain ⟨hz, hq⟩ := hq
        refine clV_X7_put hG hC sv_X2_33 ⟨by decide, by decide⟩ (Nat.le_of_ble_eq_true rfl) ⟨by decide, by decide⟩ dX2_deal_42 hz hq (fun h6 hq => ?_)
        show V G Γ 6 0 0 h6 45 [(0, .ref p0), (1, .int p1), (2, .int p2), (3, .ref p3), (4, .int x4_2), (5, .int r4)] []
        refine V_iinc (j := 4) (v := (x4_2 + 1)) (L' := [(0, .ref p0), (1, .int p1), (2, .int p2), (3, .ref p3), (4, .int (x4_2 + 1)), (5, .int r4)]) hC dX2_deal_45 rfl rfl (by decide) [1, 2, 3, 4, 0, 5] rfl ?_
        refine V_goto (tgt := 8) hC dX2_deal_48 (by decide) ?_
        refine V_sub [0, 1, 2, 3, 4] rfl ?_
        exact hq
      · have hq := hq.2 hc
        refine V_iload hC dX2_deal_28 4 rfl ?_
        exact V_iret hC hQ rfl rfl ⟨by decide, by decide⟩ dX2_deal_30 ⟨_, rfl, hq⟩)
  exact hq
theorem clV_X2_deal {G : Gx} (hG : GOK G) {Γ : Cx} {own : String} {cc : ByteArray} {nL fr lo mc ms cells slots pc : Nat} {hh : List (Nat × Nat × Nat × Nat)} {h : hw} {L : List (Nat × Value)} {rest : List Value} (hC : COK G Γ own cc nL fr lo mc ms hh) {idx : Nat} (hs : SV own idx yX2_deal cX2_deal 6 (some .int) 3) {p0 : Nat} {p1 : Int32} {p2 : Int32} {p3 : Nat} (hR : 3 + 1 ≤ fr ∧ 8 + (6 + 11) + 77 ≤ lo) (hw8 : (rest.map fun v => v.category).sum ≤ 8) (hcs : cells + 0 ≤ mc ∧ slots + 0 ≤ ms) (hdg : decode cc pc = .ok (.invokevirtual idx, 3)) (ho : isO h p0 2) {post : Int32 → hw → Prop} (hq : wp_X2_deal G p0 p1 p2 p3 h post) (kk : ∀ (r : Int32) (h1 : hw) , post r h1 → V G Γ nL (cells + 0) (slots + 0) h1 (pc + 3) L (.int r :: rest)) : V G Γ nL cells slots h pc L (.ref p3 :: .int p2 :: .int p1 :: .ref p0 :: rest) :=
  V_callV (As := [.int p1, .int p2, .ref p3]) (r9 := (RX2, TX2, 5)) hC (ct_X2_deal hG p0 p1 p2 p3 h post hq) hs ho rfl rfl rfl hR hw8 hcs hdg (fun E h1 z => z.elim) (fun v h1 z => by obtain ⟨r, rfl, hz⟩ := z; exact kk r h1 hz)
set_option maxRecDepth 100000 in
set_option maxHeartbeats 4000000 in
theorem ct_X2_worthOf {G : Gx} (hG : GOK G) (p0 : Nat) (p1 : Int32) (p2 : Nat) (h0 : hw) (post : Int32 → Prop) (hq : wp_X2_worthOf G p0 p1 p2 h0 post) : CT G yX2_worthOf cX2_worthOf 5 (some .int) 2 51 0 0 [.ref p0, .int p1, .ref p2] h0 (fun v h1 => ∃ r : Int32, v = some (.int r) ∧ h1 = h0 ∧ post r) (fun E h1 => False) := by
  refine CT_of hG (by decide) (Nat.le_of_ble_eq_true rfl) (fun Γ hC hQ hN => ?_)
  have hC : COK G Γ "Bandplan$Buying" cX2_worthOf 5 2 51 0 0 [] := hC
  unfold wp_X2_worthOf at hq
  show V G Γ 5 0 0 h0 0 [(0, .ref p0), (1, .int p1), (2, .ref p2)] []
  refine V_iconst (v := 0) hC dX2_worthOf_0 (by decide) ?_
  refine V_istore_n (L' := [(0, .ref p0), (1, .int p1), (2, .ref p2), (3, .int 0)]) hC dX2_worthOf_1 rfl (by decide) [1, 2, 3, 0] rfl ?_
  refine V_iconst (v := 0) hC dX2_worthOf_2 (by decide) ?_
  refine V_istore (L' := [(0, .ref p0), (1, .int p1), (2, .ref p2), (3, .int 0), (4, .int 0)]) hC dX2_worthOf_3 (by decide) [1, 2, 3, 4, 0] rfl ?_
  have hq := hq (fun (x3_1 : Int32) (x4_2 : Int32) => V G Γ 5 0 0 h0 5 [(0, .ref p0), (1, .int p1), (2, .ref p2), (3, .int x3_1), (4, .int x4_2)] []) (by
    intro x3_1 x4_2 hq
    show V G Γ 5 0 0 h0 5 [(0, .ref p0), (1, .int p1), (2, .ref p2), (3, .int x3_1), (4, .int x4_2)] []
    refine V_iload hC dX2_worthOf_5 4 rfl ?_
    refine V_iconst (v := 3) hC dX2_worthOf_7 (by decide) ?_
    refine V_icmp_ge (tgt := 43) hC dX2_worthOf_8 (by decide) (fun hc => ?_) (fun hc => ?_)
    · have hq := hq.1 hc
      refine V_iload_n hC dX2_worthOf_43 3 rfl ?_
      exact V_iret hC hQ rfl rfl ⟨by decide, by decide⟩ dX2_worthOf_44 ⟨_, rfl, rfl, hq⟩
    · have hq := hq.2 hc
      refine V_iload hC dX2_worthOf_11 4 rfl ?_
      refine V_aload_n hC dX2_worthOf_13 2 rfl ?_
      refine V_iload_n hC dX2_worthOf_14 1 rfl ?_
      obtain ⟨hz, hq⟩ := hq
      refine clV_X7_at hG hC sv_X2_44 ⟨by decide, by decide⟩ (Nat.le_of_ble_eq_true rfl) ⟨by decide, by decide⟩ dX2_worthOf_15 hz hq (fun r3 hq => ?_)
      show V G Γ 5 0 0 h0 18 [(0, .ref p0), (1, .int p1), (2, .ref p2), (3, .int x3_1), (4, .int x4_2)] [.int r3, .int x4_2]
      refine V_icmp_ge (tgt := 43) hC dX2_worthOf_18 (by decide) (fun hc => ?_) (fun hc => ?_)
      · have hq := hq.1 hc
        refine V_iload_n hC dX2_worthOf_43 3 rfl ?_
        exact V_iret hC hQ rfl rfl ⟨by decide, by decide⟩ dX2_worthOf_44 ⟨_, rfl, rfl, hq⟩
      · have hq := hq.2 hc
        refine V_iload_n hC dX2_worthOf_21 3 rfl ?_
        refine V_aload_n hC dX2_worthOf_22 0 rfl ?_
        refine U_getR hC fl_X2_23 dX2_worthOf_23 hq (fun v4 hq => ?_)
        refine V_iload_n hC dX2_worthOf_26 1 rfl ?_
        refine V_iconst (v := 3) hC dX2_worthOf_27 (by decide) ?_
        refine V_imul hC dX2_worthOf_28 ?_
        refine V_iload hC dX2_worthOf_29 4 rfl ?_
        refine V_iadd hC dX2_worthOf_31 ?_
        obtain ⟨hz, hq⟩ := hq
        refine clV_X7_at hG hC sv_X2_44 ⟨by decide, by decide⟩ (Nat.le_of_ble_eq_true rfl) ⟨by decide, by decide⟩ dX2_worthOf_32 hz hq (fun r5 hq => ?_)
        show V G Γ 5 0 0 h0 35 [(0, .ref p0), (1, .int p1), (2, .ref p2), (3, .int x3_1), (4, .int x4_2)] [.int r5, .int x3_1]
        refine V_iadd hC dX2_worthOf_35 ?_
        refine V_istore_n (L' := [(0, .ref p0), (1, .int p1), (2, .ref p2), (3, .int (x3_1 + r5)), (4, .int x4_2)]) hC dX2_worthOf_36 rfl (by decide) [1, 2, 3, 0, 4] rfl ?_
        refine V_iinc (j := 4) (v := (x4_2 + 1)) (L' := [(0, .ref p0), (1, .int p1), (2, .ref p2), (3, .int (x3_1 + r5)), (4, .int (x4_2 + 1))]) hC dX2_worthOf_37 rfl rfl (by decide) [1, 2, 3, 4, 0] rfl ?_
        refine V_goto (tgt := 5) hC dX2_worthOf_40 (by decide) ?_
        exact hq)
  exact hq
theorem clV_X2_worthOf {G : Gx} (hG : GOK G) {Γ : Cx} {own : String} {cc : ByteArray} {nL fr lo mc ms cells slots pc : Nat} {hh : List (Nat × Nat × Nat × Nat)} {h : hw} {L : List (Nat × Value)} {rest : List Value} (hC : COK G Γ own cc nL fr lo mc ms hh) {idx : Nat} (hs : SV own idx yX2_worthOf cX2_worthOf 5 (some .int) 2) {p0 : Nat} {p1 : Int32} {p2 : Nat} (hR : 2 + 1 ≤ fr ∧ 8 + (5 + 11) + 51 ≤ lo) (hw8 : (rest.map fun v => v.category).sum ≤ 8) (hcs : cells + 0 ≤ mc ∧ slots + 0 ≤ ms) (hdg : decode cc pc = .ok (.invokevirtual idx, 3)) (ho : isO h p0 2) {post : Int32 → Prop} (hq : wp_X2_worthOf G p0 p1 p2 h post) (kk : ∀ (r : Int32) , post r → V G Γ nL (cells + 0) (slots + 0) h (pc + 3) L (.int r :: rest)) : V G Γ nL cells slots h pc L (.ref p2 :: .int p1 :: .ref p0 :: rest) :=
  V_callV (As := [.int p1, .ref p2]) (r9 := (RX2, TX2, 5)) hC (ct_X2_worthOf hG p0 p1 p2 h post hq) hs ho rfl rfl rfl hR hw8 hcs hdg (fun E h1 z => z.elim) (fun v h1 z => by obtain ⟨r, rfl, rfl, hz⟩ := z; exact kk r hz)
set_option maxRecDepth 100000 in
set_option maxHeartbeats 4000000 in
theorem ct_X2_worthOfOthers {G : Gx} (hG : GOK G) (p0 : Nat) (p1 : Int32) (p2 : Nat) (h0 : hw) (post : Int32 → Prop) (hq : wp_X2_worthOfOthers G p0 p1 p2 h0 post) : CT G yX2_worthOfOthers cX2_worthOfOthers 5 (some .int) 3 75 0 0 [.ref p0, .int p1, .ref p2] h0 (fun v h1 => ∃ r : Int32, v = some (.int r) ∧ h1 = h0 ∧ post r) (fun E h1 => False) := by
  refine CT_of hG (by decide) (Nat.le_of_ble_eq_true rfl) (fun Γ hC hQ hN => ?_)
  have hC : COK G Γ "Bandplan$Buying" cX2_worthOfOthers 5 3 75 0 0 [] := hC
  unfold wp_X2_worthOfOthers at hq
  show V G Γ 5 0 0 h0 0 [(0, .ref p0), (1, .int p1), (2, .ref p2)] []
  refine V_iconst (v := 0) hC dX2_worthOfOthers_0 (by decide) ?_
  refine V_istore_n (L' := [(0, .ref p0), (1, .int p1), (2, .ref p2), (3, .int 0)]) hC dX2_worthOfOthers_1 rfl (by decide) [1, 2, 3, 0] rfl ?_
  refine V_iconst (v := 0) hC dX2_worthOfOthers_2 (by decide) ?_
  refine V_istore (L' := [(0, .ref p0), (1, .int p1), (2, .ref p2), (3, .int 0), (4, .int 0)]) hC dX2_worthOfOthers_3 (by decide) [1, 2, 3, 4, 0] rfl ?_
  have hq := hq (fun (x3_1 : Int32) (x4_2 : Int32) => V G Γ 5 0 0 h0 5 [(0, .ref p0), (1, .int p1), (2, .ref p2), (3, .int x3_1), (4, .int x4_2)] []) (by
    intro x3_1 x4_2 hq
    show V G Γ 5 0 0 h0 5 [(0, .ref p0), (1, .int p1), (2, .ref p2), (3, .int x3_1), (4, .int x4_2)] []
    refine V_iload hC dX2_worthOfOthers_5 4 rfl ?_
    refine V_aload_n hC dX2_worthOfOthers_7 0 rfl ?_
    refine U_getI hC fl_X2_29 dX2_worthOfOthers_8 hq (fun v3 hq => ?_)
    refine V_icmp_ge (tgt := 36) hC dX2_worthOfOthers_11 (by decide) (fun hc => ?_) (fun hc => ?_)
    · have hq := hq.1 hc
      refine V_iload_n hC dX2_worthOfOthers_36 3 rfl ?_
      exact V_iret hC hQ rfl rfl ⟨by decide, by decide⟩ dX2_worthOfOthers_37 ⟨_, rfl, rfl, hq⟩
    · have hq := hq.2 hc
      refine V_iload hC dX2_worthOfOthers_14 4 rfl ?_
      refine V_iload_n hC dX2_worthOfOthers_16 1 rfl ?_
      have hq := hq (fun (x3_4 : Int32) => V G Γ 5 0 0 h0 30 [(0, .ref p0), (1, .int p1), (2, .ref p2), (3, .int x3_4), (4, .int x4_2)] []) (by
        intro x3_4 hq
        show V G Γ 5 0 0 h0 30 [(0, .ref p0), (1, .int p1), (2, .ref p2), (3, .int x3_4), (4, .int x4_2)] []
        refine V_iinc (j := 4) (v := (x4_2 + 1)) (L' := [(0, .ref p0), (1, .int p1), (2, .ref p2), (3, .int x3_4), (4, .int (x4_2 + 1))]) hC dX2_worthOfOthers_30 rfl rfl (by decide) [1, 2, 3, 4, 0] rfl ?_
        refine V_goto (tgt := 5) hC dX2_worthOfOthers_33 (by decide) ?_
        exact hq)
      refine V_icmp_eq (tgt := 30) hC dX2_worthOfOthers_17 (by decide) (fun hc => ?_) (fun hc => ?_)
      · have hq := hq.1 hc
        exact hq
      · have hq := hq.2 hc
        refine V_iload_n hC dX2_worthOfOthers_20 3 rfl ?_
        refine V_aload_n hC dX2_worthOfOthers_21 0 rfl ?_
        refine V_iload hC dX2_worthOfOthers_22 4 rfl ?_
        refine V_aload_n hC dX2_worthOfOthers_24 2 rfl ?_
        obtain ⟨hz, hq⟩ := hq
        refine clV_X2_worthOf hG hC sv_X2_48 ⟨by decide, by decide⟩ (Nat.le_of_ble_eq_true rfl) ⟨by decide, by decide⟩ dX2_worthOfOthers_25 hz hq (fun r5 hq => ?_)
        show V G Γ 5 0 0 h0 28 [(0, .ref p0), (1, .int p1), (2, .ref p2), (3, .int x3_1), (4, .int x4_2)] [.int r5, .int x3_1]
        refine V_iadd hC dX2_worthOfOthers_28 ?_
        refine V_istore_n (L' := [(0, .ref p0), (1, .int p1), (2, .ref p2), (3, .int (x3_1 + r5)), (4, .int x4_2)]) hC dX2_worthOfOthers_29 rfl (by decide) [1, 2, 3, 0, 4] rfl ?_
        exact hq)
  exact hq
theorem clV_X2_worthOfOthers {G : Gx} (hG : GOK G) {Γ : Cx} {own : String} {cc : ByteArray} {nL fr lo mc ms cells slots pc : Nat} {hh : List (Nat × Nat × Nat × Nat)} {h : hw} {L : List (Nat × Value)} {rest : List Value} (hC : COK G Γ own cc nL fr lo mc ms hh) {idx : Nat} (hs : SV own idx yX2_worthOfOthers cX2_worthOfOthers 5 (some .int) 2) {p0 : Nat} {p1 : Int32} {p2 : Nat} (hR : 3 + 1 ≤ fr ∧ 8 + (5 + 11) + 75 ≤ lo) (hw8 : (rest.map fun v => v.category).sum ≤ 8) (hcs : cells + 0 ≤ mc ∧ slots + 0 ≤ ms) (hdg : decode cc pc = .ok (.invokevirtual idx, 3)) (ho : isO h p0 2) {post : Int32 → Prop} (hq : wp_X2_worthOfOthers G p0 p1 p2 h post) (kk : ∀ (r : Int32) , post r → V G Γ nL (cells + 0) (slots + 0) h (pc + 3) L (.int r :: rest)) : V G Γ nL cells slots h pc L (.ref p2 :: .int p1 :: .ref p0 :: rest) :=
  V_callV (As := [.int p1, .ref p2]) (r9 := (RX2, TX2, 5)) hC (ct_X2_worthOfOthers hG p0 p1 p2 h post hq) hs ho rfl rfl rfl hR hw8 hcs hdg (fun E h1 z => z.elim) (fun v h1 z => by obtain ⟨r, rfl, rfl, hz⟩ := z; exact kk r hz)
set_option maxRecDepth 100000 in
set_option maxHeartbeats 4000000 in
theorem ct_X2_run {G : Gx} (hG : GOK G) (p0 : Nat) (p1 : Int32) (h0 : hw) (post : Int32 → hw → Prop) (hq : wp_X2_run G p0 p1 h0 post) : CT G yX2_run cX2_run 4 (some .int) 4 102 0 0 [.ref p0, .int p1] h0 (fun v h1 => ∃ r : Int32, v = some (.int r) ∧ post r h1) (fun E h1 => False) := by
  refine CT_of hG (by decide) (Nat.le_of_ble_eq_true rfl) (fun Γ hC hQ hN => ?_)
  have hC : COK G Γ "Bandplan$Buying" cX2_run 4 4 102 0 0 [] := hC
  unfold wp_X2_run at hq
  show V G Γ 4 0 0 h0 0 [(0, .ref p0), (1, .int p1)] []
  refine V_aload_n hC dX2_run_0 0 rfl ?_
  refine V_iload_n hC dX2_run_1 1 rfl ?_
  refine V_iconst (v := (-1)) hC dX2_run_2 (by decide) ?_
  refine V_aload_n hC dX2_run_3 0 rfl ?_
  refine U_getR hC fl_X2_14 dX2_run_4 hq (fun v1 hq => ?_)
  obtain ⟨hz, hq⟩ := hq
  refine clV_X2_deal hG hC sv_X2_36 ⟨by decide, by decide⟩ (Nat.le_of_ble_eq_true rfl) ⟨by decide, by decide⟩ dX2_run_7 hz hq (fun r2 h3 hq => ?_)
  show V G Γ 4 0 0 h3 10 [(0, .ref p0), (1, .int p1)] [.int r2]
  refine V_istore_n (L' := [(0, .ref p0), (1, .int p1), (2, .int r2)]) hC dX2_run_10 rfl (by decide) [1, 2, 0] rfl ?_
  refine V_iconst (v := 0) hC dX2_run_11 (by decide) ?_
  refine V_istore_n (L' := [(0, .ref p0), (1, .int p1), (2, .int r2), (3, .int 0)]) hC dX2_run_12 rfl (by decide) [1, 2, 3, 0] rfl ?_
  have hq := hq (fun (x3_4 : Int32) (h5 : hw) => V G Γ 4 0 0 h5 13 [(0, .ref p0), (1, .int p1), (2, .int r2), (3, .int x3_4)] []) (by
    intro x3_4 h5 hq
    show V G Γ 4 0 0 h5 13 [(0, .ref p0), (1, .int p1), (2, .int r2), (3, .int x3_4)] []
    refine V_iload_n hC dX2_run_13 3 rfl ?_
    refine V_aload_n hC dX2_run_14 0 rfl ?_
    refine U_getI hC fl_X2_29 dX2_run_15 hq (fun v6 hq => ?_)
    refine V_icmp_ge (tgt := 65) hC dX2_run_18 (by decide) (fun hc => ?_) (fun hc => ?_)
    · have hq := hq.1 hc
      refine V_iload_n hC dX2_run_65 2 rfl ?_
      exact V_iret hC hQ rfl rfl ⟨by decide, by decide⟩ dX2_run_66 ⟨_, rfl, hq⟩
    · have hq := hq.2 hc
      refine V_aload_n hC dX2_run_21 0 rfl ?_
      refine V_iload_n hC dX2_run_22 1 rfl ?_
      refine V_iload_n hC dX2_run_23 3 rfl ?_
      refine V_aload_n hC dX2_run_24 0 rfl ?_
      refine U_getR hC fl_X2_26 dX2_run_25 hq (fun v7 hq => ?_)
      obtain ⟨hz, hq⟩ := hq
      refine clV_X2_deal hG hC sv_X2_36 ⟨by decide, by decide⟩ (Nat.le_of_ble_eq_true rfl) ⟨by decide, by decide⟩ dX2_run_28 hz hq (fun r8 h9 hq => ?_)
      show V G Γ 4 0 0 h9 31 [(0, .ref p0), (1, .int p1), (2, .int r2), (3, .int x3_4)] [.int r8]
      refine V_pop hC dX2_run_31 rfl ?_
      refine V_aload_n hC dX2_run_32 0 rfl ?_
      refine U_getR hC fl_X2_20 dX2_run_33 hq (fun v10 hq => ?_)
      refine V_iload_n hC dX2_run_36 3 rfl ?_
      refine V_aload_n hC dX2_run_37 0 rfl ?_
      refine V_iload_n hC dX2_run_38 3 rfl ?_
      refine V_aload_n hC dX2_run_39 0 rfl ?_
      refine U_getR hC fl_X2_26 dX2_run_40 hq (fun v11 hq => ?_)
      obtain ⟨hz, hq⟩ := hq
      refine clV_X2_worthOfOthers hG hC sv_X2_40 ⟨by decide, by decide⟩ (Nat.le_of_ble_eq_true rfl) ⟨by decide, by decide⟩ dX2_run_43 hz hq (fun r12 hq => ?_)
      show V G Γ 4 0 0 h9 46 [(0, .ref p0), (1, .int p1), (2, .int r2), (3, .int x3_4)] [.int r12, .int x3_4, .ref v10]
      refine V_aload_n hC dX2_run_46 0 rfl ?_
      refine V_iload_n hC dX2_run_47 3 rfl ?_
      refine V_aload_n hC dX2_run_48 0 rfl ?_
      refine U_getR hC fl_X2_14 dX2_run_49 hq (fun v13 hq => ?_)
      obtain ⟨hz, hq⟩ := hq
      refine clV_X2_worthOfOthers hG hC sv_X2_40 ⟨by decide, by decide⟩ (Nat.le_of_ble_eq_true rfl) ⟨by decide, by decide⟩ dX2_run_52 hz hq (fun r14 hq => ?_)
      show V G Γ 4 0 0 h9 55 [(0, .ref p0), (1, .int p1), (2, .int r2), (3, .int x3_4)] [.int r14, .int r12, .int x3_4, .ref v10]
      refine V_isub hC dX2_run_55 ?_
      obtain ⟨hz, hq⟩ := hq
      refine clV_X7_put hG hC sv_X2_33 ⟨by decide, by decide⟩ (Nat.le_of_ble_eq_true rfl) ⟨by decide, by decide⟩ dX2_run_56 hz hq (fun h15 hq => ?_)
      show V G Γ 4 0 0 h15 59 [(0, .ref p0), (1, .int p1), (2, .int r2), (3, .int x3_4)] []
      refine V_iinc (j := 3) (v := (x3_4 + 1)) (L' := [(0, .ref p0), (1, .int p1), (2, .int r2), (3, .int (x3_4 + 1))]) hC dX2_run_59 rfl rfl (by decide) [1, 2, 3, 0] rfl ?_
      refine V_goto (tgt := 13) hC dX2_run_62 (by decide) ?_
      exact hq)
  exact hq
theorem clV_X2_run {G : Gx} (hG : GOK G) {Γ : Cx} {own : String} {cc : ByteArray} {nL fr lo mc ms cells slots pc : Nat} {hh : List (Nat × Nat × Nat × Nat)} {h : hw} {L : List (Nat × Value)} {rest : List Value} (hC : COK G Γ own cc nL fr lo mc ms hh) {idx : Nat} (hs : SV own idx yX2_run cX2_run 4 (some .int) 1) {p0 : Nat} {p1 : Int32} (hR : 4 + 1 ≤ fr ∧ 8 + (4 + 11) + 102 ≤ lo) (hw8 : (rest.map fun v => v.category).sum ≤ 8) (hcs : cells + 0 ≤ mc ∧ slots + 0 ≤ ms) (hdg : decode cc pc = .ok (.invokevirtual idx, 3)) (ho : isO h p0 2) {post : Int32 → hw → Prop} (hq : wp_X2_run G p0 p1 h post) (kk : ∀ (r : Int32) (h1 : hw) , post r h1 → V G Γ nL (cells + 0) (slots + 0) h1 (pc + 3) L (.int r :: rest)) : V G Γ nL cells slots h pc L (.int p1 :: .ref p0 :: rest) :=
  V_callV (As := [.int p1]) (r9 := (RX2, TX2, 5)) hC (ct_X2_run hG p0 p1 h post hq) hs ho rfl rfl rfl hR hw8 hcs hdg (fun E h1 z => z.elim) (fun v h1 z => by obtain ⟨r, rfl, hz⟩ := z; exact kk r h1 hz)
set_option maxRecDepth 100000 in
set_option maxHeartbeats 4000000 in
theorem ct_X2_isFair {G : Gx} (hG : GOK G) (p0 : Nat) (h0 : hw) (post : Int32 → Prop) (hq : wp_X2_isFair G p0 h0 post) : CT G yX2_isFair cX2_isFair 2 (some .boolean) 3 75 0 0 [.ref p0] h0 (fun v h1 => ∃ r : Int32, v = some (.int r) ∧ h1 = h0 ∧ post r) (fun E h1 => False) := by
  refine CT_of hG (by decide) (Nat.le_of_ble_eq_true rfl) (fun Γ hC hQ hN => ?_)
  have hC : COK G Γ "Bandplan$Buying" cX2_isFair 2 3 75 0 0 [] := hC
  unfold wp_X2_isFair at hq
  show V G Γ 2 0 0 h0 0 [(0, .ref p0)] []
  refine V_iconst (v := 0) hC dX2_isFair_0 (by decide) ?_
  refine V_istore_n (L' := [(0, .ref p0), (1, .int 0)]) hC dX2_isFair_1 rfl (by decide) [1, 0] rfl ?_
  have hq := hq (fun (x1_1 : Int32) => V G Γ 2 0 0 h0 2 [(0, .ref p0), (1, .int x1_1)] []) (by
    intro x1_1 hq
    show V G Γ 2 0 0 h0 2 [(0, .ref p0), (1, .int x1_1)] []
    refine V_iload_n hC dX2_isFair_2 1 rfl ?_
    refine V_aload_n hC dX2_isFair_3 0 rfl ?_
    refine U_getI hC fl_X2_29 dX2_isFair_4 hq (fun v2 hq => ?_)
    refine V_icmp_ge (tgt := 38) hC dX2_isFair_7 (by decide) (fun hc => ?_) (fun hc => ?_)
    · have hq := hq.1 hc
      refine V_iconst (v := 1) hC dX2_isFair_38 (by decide) ?_
      exact V_iret hC hQ rfl rfl ⟨by decide, by decide⟩ dX2_isFair_39 ⟨_, rfl, rfl, hq⟩
    · have hq := hq.2 hc
      refine V_aload_n hC dX2_isFair_10 0 rfl ?_
      refine U_getR hC fl_X2_20 dX2_isFair_11 hq (fun v3 hq => ?_)
      refine V_iload_n hC dX2_isFair_14 1 rfl ?_
      obtain ⟨hz, hq⟩ := hq
      refine clV_X7_at hG hC sv_X2_44 ⟨by decide, by decide⟩ (Nat.le_of_ble_eq_true rfl) ⟨by decide, by decide⟩ dX2_isFair_15 hz hq (fun r4 hq => ?_)
      show V G Γ 2 0 0 h0 18 [(0, .ref p0), (1, .int x1_1)] [.int r4]
      refine V_aload_n hC dX2_isFair_18 0 rfl ?_
      refine V_iload_n hC dX2_isFair_19 1 rfl ?_
      refine V_aload_n hC dX2_isFair_20 0 rfl ?_
      refine U_getR hC fl_X2_14 dX2_isFair_21 hq (fun v5 hq => ?_)
      obtain ⟨hz, hq⟩ := hq
      refine clV_X2_worthOf hG hC sv_X2_48 ⟨by decide, by decide⟩ (Nat.le_of_ble_eq_true rfl) ⟨by decide, by decide⟩ dX2_isFair_24 hz hq (fun r6 hq => ?_)
      show V G Γ 2 0 0 h0 27 [(0, .ref p0), (1, .int x1_1)] [.int r6, .int r4]
      refine V_icmp_le (tgt := 32) hC dX2_isFair_27 (by decide) (fun hc => ?_) (fun hc => ?_)
      · have hq := hq.1 hc
        refine V_iinc (j := 1) (v := (x1_1 + 1)) (L' := [(0, .ref p0), (1, .int (x1_1 + 1))]) hC dX2_isFair_32 rfl rfl (by decide) [1, 0] rfl ?_
        refine V_goto (tgt := 2) hC dX2_isFair_35 (by decide) ?_
        exact hq
      · have hq := hq.2 hc
        refine V_iconst (v := 0) hC dX2_isFair_30 (by decide) ?_
        exact V_iret hC hQ rfl rfl ⟨by decide, by decide⟩ dX2_isFair_31 ⟨_, rfl, rfl, hq⟩)
  exact hq
theorem clV_X2_isFair {G : Gx} (hG : GOK G) {Γ : Cx} {own : String} {cc : ByteArray} {nL fr lo mc ms cells slots pc : Nat} {hh : List (Nat × Nat × Nat × Nat)} {h : hw} {L : List (Nat × Value)} {rest : List Value} (hC : COK G Γ own cc nL fr lo mc ms hh) {idx : Nat} (hs : SV own idx yX2_isFair cX2_isFair 2 (some .boolean) 0) {p0 : Nat} (hR : 3 + 1 ≤ fr ∧ 8 + (2 + 11) + 75 ≤ lo) (hw8 : (rest.map fun v => v.category).sum ≤ 8) (hcs : cells + 0 ≤ mc ∧ slots + 0 ≤ ms) (hdg : decode cc pc = .ok (.invokevirtual idx, 3)) (ho : isO h p0 2) {post : Int32 → Prop} (hq : wp_X2_isFair G p0 h post) (kk : ∀ (r : Int32) , post r → V G Γ nL (cells + 0) (slots + 0) h (pc + 3) L (.int r :: rest)) : V G Γ nL cells slots h pc L (.ref p0 :: rest) :=
  V_callV (As := []) (r9 := (RX2, TX2, 5)) hC (ct_X2_isFair hG p0 h post hq) hs ho rfl rfl rfl hR hw8 hcs hdg (fun E h1 z => z.elim) (fun v h1 z => by obtain ⟨r, rfl, rfl, hz⟩ := z; exact kk r hz)
set_option maxRecDepth 100000 in
set_option maxHeartbeats 4000000 in
theorem ct_X3_groundAt {G : Gx} (hG : GOK G) (p0 : Nat) (p1 : Int32) (p2 : Int32) (h0 : hw) (post : Int32 → Prop) (hq : wp_X3_groundAt G p0 p1 p2 h0 post) : CT G yX3_groundAt cX3_groundAt 3 (some .int) 2 51 0 0 [.ref p0, .int p1, .int p2] h0 (fun v h1 => ∃ r : Int32, v = some (.int r) ∧ h1 = h0 ∧ post r) (fun E h1 => False) := by
  refine CT_of hG (by decide) (Nat.le_of_ble_eq_true rfl) (fun Γ hC hQ hN => ?_)
  have hC : COK G Γ "Bandplan$Land" cX3_groundAt 3 2 51 0 0 [] := hC
  unfold wp_X3_groundAt at hq
  show V G Γ 3 0 0 h0 0 [(0, .ref p0), (1, .int p1), (2, .int p2)] []
  refine V_aload_n hC dX3_groundAt_0 0 rfl ?_
  refine U_getR hC fl_X3_23 dX3_groundAt_1 hq (fun v1 hq => ?_)
  refine V_iload_n hC dX3_groundAt_4 1 rfl ?_
  refine V_bipush (v := 20) hC dX3_groundAt_5 (by decide) ?_
  refine V_imul hC dX3_groundAt_7 ?_
  refine V_iload_n hC dX3_groundAt_8 2 rfl ?_
  refine V_iadd hC dX3_groundAt_9 ?_
  obtain ⟨hz, hq⟩ := hq
  refine clV_X7_at hG hC sv_X3_48 ⟨by decide, by decide⟩ (Nat.le_of_ble_eq_true rfl) ⟨by decide, by decide⟩ dX3_groundAt_10 hz hq (fun r2 hq => ?_)
  show V G Γ 3 0 0 h0 13 [(0, .ref p0), (1, .int p1), (2, .int p2)] [.int r2]
  exact V_iret hC hQ rfl rfl ⟨by decide, by decide⟩ dX3_groundAt_13 ⟨_, rfl, rfl, hq⟩
theorem clV_X3_groundAt {G : Gx} (hG : GOK G) {Γ : Cx} {own : String} {cc : ByteArray} {nL fr lo mc ms cells slots pc : Nat} {hh : List (Nat × Nat × Nat × Nat)} {h : hw} {L : List (Nat × Value)} {rest : List Value} (hC : COK G Γ own cc nL fr lo mc ms hh) {idx : Nat} (hs : SV own idx yX3_groundAt cX3_groundAt 3 (some .int) 2) {p0 : Nat} {p1 : Int32} {p2 : Int32} (hR : 2 + 1 ≤ fr ∧ 8 + (3 + 11) + 51 ≤ lo) (hw8 : (rest.map fun v => v.category).sum ≤ 8) (hcs : cells + 0 ≤ mc ∧ slots + 0 ≤ ms) (hdg : decode cc pc = .ok (.invokevirtual idx, 3)) (ho : isO h p0 3) {post : Int32 → Prop} (hq : wp_X3_groundAt G p0 p1 p2 h post) (kk : ∀ (r : Int32) , post r → V G Γ nL (cells + 0) (slots + 0) h (pc + 3) L (.int r :: rest)) : V G Γ nL cells slots h pc L (.int p2 :: .int p1 :: .ref p0 :: rest) :=
  V_callV (As := [.int p1, .int p2]) (r9 := (RX3, TX3, 3)) hC (ct_X3_groundAt hG p0 p1 p2 h post hq) hs ho rfl rfl rfl hR hw8 hcs hdg (fun E h1 z => z.elim) (fun v h1 z => by obtain ⟨r, rfl, rfl, hz⟩ := z; exact kk r hz)
set_option maxRecDepth 100000 in
set_option maxHeartbeats 4000000 in
theorem ct_X3_rootOf {G : Gx} (hG : GOK G) (p0 : Int32) (h0 : hw) (post : Int32 → Prop) (hq : wp_X3_rootOf G p0 h0 post) : CT G yX3_rootOf cX3_rootOf 4 (some .int) 1 30 0 0 [.int p0] h0 (fun v h1 => ∃ r : Int32, v = some (.int r) ∧ h1 = h0 ∧ post r) (fun E h1 => False) := by
  refine CT_of hG (by decide) (Nat.le_of_ble_eq_true rfl) (fun Γ hC hQ hN => ?_)
  have hC : COK G Γ "Bandplan$Land" cX3_rootOf 4 1 30 0 0 [] := hC
  unfold wp_X3_rootOf at hq
  show V G Γ 4 0 0 h0 0 [(0, .int p0)] []
  refine V_iconst (v := 0) hC dX3_rootOf_0 (by decide) ?_
  refine V_istore_n (L' := [(0, .int p0), (1, .int 0)]) hC dX3_rootOf_1 rfl (by decide) [1, 0] rfl ?_
  refine V_sipush (v := 256) hC dX3_rootOf_2 (by decide) ?_
  refine V_istore_n (L' := [(0, .int p0), (1, .int 0), (2, .int 256)]) hC dX3_rootOf_5 rfl (by decide) [1, 2, 0] rfl ?_
  have hq := hq (fun (x1_1 : Int32) (x2_2 : Int32) => V G Γ 4 0 0 h0 6 [(0, .int p0), (1, .int x1_1), (2, .int x2_2)] []) (by
    intro x1_1 x2_2 hq
    show V G Γ 4 0 0 h0 6 [(0, .int p0), (1, .int x1_1), (2, .int x2_2)] []
    refine V_iload_n hC dX3_rootOf_6 2 rfl ?_
    refine V_if_le (tgt := 30) hC dX3_rootOf_7 (by decide) (fun hc => ?_) (fun hc => ?_)
    · have hq := hq.1 hc
      refine V_iload_n hC dX3_rootOf_30 1 rfl ?_
      exact V_iret hC hQ rfl rfl ⟨by decide, by decide⟩ dX3_rootOf_31 ⟨_, rfl, rfl, hq⟩
    · have hq := hq.2 hc
      refine V_iload_n hC dX3_rootOf_10 1 rfl ?_
      refine V_iload_n hC dX3_rootOf_11 2 rfl ?_
      refine V_iadd hC dX3_rootOf_12 ?_
      refine V_istore_n (L' := [(0, .int p0), (1, .int x1_1), (2, .int x2_2), (3, .int (x1_1 + x2_2))]) hC dX3_rootOf_13 rfl (by decide) [1, 2, 3, 0] rfl ?_
      refine V_iload_n hC dX3_rootOf_14 3 rfl ?_
      refine V_iload_n hC dX3_rootOf_15 3 rfl ?_
      refine V_imul hC dX3_rootOf_16 ?_
      refine V_iload_n hC dX3_rootOf_17 0 rfl ?_
      have hq := hq (fun (x1_3 : Int32) => V G Γ 4 0 0 h0 23 [(0, .int p0), (1, .int x1_3), (2, .int x2_2)] []) (by
        intro x1_3 hq
        show V G Γ 4 0 0 h0 23 [(0, .int p0), (1, .int x1_3), (2, .int x2_2)] []
        refine V_iload_n hC dX3_rootOf_23 2 rfl ?_
        refine V_iconst (v := 1) hC dX3_rootOf_24 (by decide) ?_
        refine V_ishr hC dX3_rootOf_25 ?_
        refine V_istore_n (L' := [(0, .int p0), (1, .int x1_3), (2, .int (x2_2 >>> ((1 : Int32) &&& 31)))]) hC dX3_rootOf_26 rfl (by decide) [1, 2, 0] rfl ?_
        refine V_goto (tgt := 6) hC dX3_rootOf_27 (by decide) ?_
        exact hq)
      refine V_icmp_gt (tgt := 23) hC dX3_rootOf_18 (by decide) (fun hc => ?_) (fun hc => ?_)
      · have hq := hq.1 hc
        refine V_sub [0, 1, 2] rfl ?_
        exact hq
      · have hq := hq.2 hc
        refine V_iload_n hC dX3_rootOf_21 3 rfl ?_
        refine V_istore_n (L' := [(0, .int p0), (1, .int (x1_1 + x2_2)), (2, .int x2_2), (3, .int (x1_1 + x2_2))]) hC dX3_rootOf_22 rfl (by decide) [1, 0, 2, 3] rfl ?_
        refine V_sub [0, 1, 2] rfl ?_
        exact hq)
  exact hq
theorem clS_X3_rootOf {G : Gx} (hG : GOK G) {Γ : Cx} {own : String} {cc : ByteArray} {nL fr lo mc ms cells slots pc : Nat} {hh : List (Nat × Nat × Nat × Nat)} {h : hw} {L : List (Nat × Value)} {rest : List Value} (hC : COK G Γ own cc nL fr lo mc ms hh) {idx : Nat} (hs : SS own idx yX3_rootOf cX3_rootOf 4 (some .int) 1) {p0 : Int32} (hR : 1 + 1 ≤ fr ∧ 8 + (4 + 11) + 30 ≤ lo) (hw8 : (rest.map fun v => v.category).sum ≤ 8) (hcs : cells + 0 ≤ mc ∧ slots + 0 ≤ ms) (hdg : decode cc pc = .ok (.invokestatic idx, 3)) {post : Int32 → Prop} (hq : wp_X3_rootOf G p0 h post) (kk : ∀ (r : Int32) , post r → V G Γ nL (cells + 0) (slots + 0) h (pc + 3) L (.int r :: rest)) : V G Γ nL cells slots h pc L (.int p0 :: rest) :=
  V_callS (As := [.int p0]) hC (ct_X3_rootOf hG p0 h post hq) hs rfl hR hw8 hcs hdg (fun E h1 z => z.elim) (fun v h1 z => by obtain ⟨r, rfl, rfl, hz⟩ := z; exact kk r hz)
set_option maxRecDepth 100000 in
set_option maxHeartbeats 4000000 in
theorem ct_J9_floorDiv_7cf53 {G : Gx} (hG : GOK G) (p0 : Int32) (p1 : Int32) (h0 : hw) (post : Int32 → Prop) (hq : wp_J9_floorDiv_7cf53 G p0 p1 h0 post) : CT G yJ9_floorDiv_7cf53 cJ9_floorDiv_7cf53 3 (some .int) 1 30 0 0 [.int p0, .int p1] h0 (fun v h1 => ∃ r : Int32, v = some (.int r) ∧ h1 = h0 ∧ post r) (fun E h1 => False) := by
  refine CT_ofF hG (by decide +kernel) (Nat.le_of_ble_eq_true rfl) (fun Γ hC hQ hN => ?_)
  have hC : COK G Γ "java/lang/Math" cJ9_floorDiv_7cf53 3 1 30 0 0 [] := hC
  unfold wp_J9_floorDiv_7cf53 at hq
  show V G Γ 3 0 0 h0 0 [(0, .int p0), (1, .int p1)] []
  refine V_iload_n hC dJ9_floorDiv_7cf53_0 0 rfl ?_
  refine V_iload_n hC dJ9_floorDiv_7cf53_1 1 rfl ?_
  obtain ⟨hz, hq⟩ := hq
  refine V_idiv hC dJ9_floorDiv_7cf53_2 hz ?_
  refine V_istore_n (L' := [(0, .int p0), (1, .int p1), (2, .int (p0 / p1))]) hC dJ9_floorDiv_7cf53_3 rfl (by decide) [1, 2, 0] rfl ?_
  refine V_iload_n hC dJ9_floorDiv_7cf53_4 0 rfl ?_
  refine V_iload_n hC dJ9_floorDiv_7cf53_5 1 rfl ?_
  refine V_ixor hC dJ9_floorDiv_7cf53_6 ?_
  refine V_if_ge (tgt := 21) hC dJ9_floorDiv_7cf53_7 (by decide) (fun hc => ?_) (fun hc => ?_)
  · have hq := hq.1 hc
    refine V_iload_n hC dJ9_floorDiv_7cf53_21 2 rfl ?_
    exact V_iret hC hQ rfl rfl ⟨by decide, by decide⟩ dJ9_floorDiv_7cf53_22 ⟨_, rfl, rfl, hq⟩
  · have hq := hq.2 hc
    refine V_iload_n hC dJ9_floorDiv_7cf53_10 2 rfl ?_
    refine V_iload_n hC dJ9_floorDiv_7cf53_11 1 rfl ?_
    refine V_imul hC dJ9_floorDiv_7cf53_12 ?_
    refine V_iload_n hC dJ9_floorDiv_7cf53_13 0 rfl ?_
    refine V_icmp_eq (tgt := 21) hC dJ9_floorDiv_7cf53_14 (by decide) (fun hc => ?_) (fun hc => ?_)
    · have hq := hq.1 hc
      refine V_iload_n hC dJ9_floorDiv_7cf53_21 2 rfl ?_
      exact V_iret hC hQ rfl rfl ⟨by decide, by decide⟩ dJ9_floorDiv_7cf53_22 ⟨_, rfl, rfl, hq⟩
    · have hq := hq.2 hc
      refine V_iload_n hC dJ9_floorDiv_7cf53_17 2 rfl ?_
      refine V_iconst (v := 1) hC dJ9_floorDiv_7cf53_18 (by decide) ?_
      refine V_isub hC dJ9_floorDiv_7cf53_19 ?_
      exact V_iret hC hQ rfl rfl ⟨by decide, by decide⟩ dJ9_floorDiv_7cf53_20 ⟨_, rfl, rfl, hq⟩
theorem clS_J9_floorDiv_7cf53 {G : Gx} (hG : GOK G) {Γ : Cx} {own : String} {cc : ByteArray} {nL fr lo mc ms cells slots pc : Nat} {hh : List (Nat × Nat × Nat × Nat)} {h : hw} {L : List (Nat × Value)} {rest : List Value} (hC : COK G Γ own cc nL fr lo mc ms hh) {idx : Nat} (hs : SS own idx yJ9_floorDiv_7cf53 cJ9_floorDiv_7cf53 3 (some .int) 2) {p0 : Int32} {p1 : Int32} (hR : 1 + 1 ≤ fr ∧ 8 + (3 + 11) + 30 ≤ lo) (hw8 : (rest.map fun v => v.category).sum ≤ 8) (hcs : cells + 0 ≤ mc ∧ slots + 0 ≤ ms) (hdg : decode cc pc = .ok (.invokestatic idx, 3)) {post : Int32 → Prop} (hq : wp_J9_floorDiv_7cf53 G p0 p1 h post) (kk : ∀ (r : Int32) , post r → V G Γ nL (cells + 0) (slots + 0) h (pc + 3) L (.int r :: rest)) : V G Γ nL cells slots h pc L (.int p1 :: .int p0 :: rest) :=
  V_callS (As := [.int p0, .int p1]) hC (ct_J9_floorDiv_7cf53 hG p0 p1 h post hq) hs rfl hR hw8 hcs hdg (fun E h1 z => z.elim) (fun v h1 z => by obtain ⟨r, rfl, rfl, hz⟩ := z; exact kk r hz)
set_option maxRecDepth 100000 in
set_option maxHeartbeats 4000000 in
theorem ct_X3_blocksBetween {G : Gx} (hG : GOK G) (p0 : Nat) (p1 : Nat) (p2 : Nat) (h0 : hw) (post : Int32 → Prop) (hq : wp_X3_blocksBetween G p0 p1 p2 h0 post) : CT G yX3_blocksBetween cX3_blocksBetween 13 (some .int) 3 73 0 0 [.ref p0, .ref p1, .ref p2] h0 (fun v h1 => ∃ r : Int32, v = some (.int r) ∧ h1 = h0 ∧ post r) (fun E h1 => False) := by
  refine CT_of hG (by decide) (Nat.le_of_ble_eq_true rfl) (fun Γ hC hQ hN => ?_)
  have hC : COK G Γ "Bandplan$Land" cX3_blocksBetween 13 3 73 0 0 [] := hC
  unfold wp_X3_blocksBetween at hq
  show V G Γ 13 0 0 h0 0 [(0, .ref p0), (1, .ref p1), (2, .ref p2)] []
  refine V_aload_n hC dX3_blocksBetween_0 2 rfl ?_
  refine U_getI hC fl_X3_62 dX3_blocksBetween_1 hq (fun v1 hq => ?_)
  refine V_aload_n hC dX3_blocksBetween_4 1 rfl ?_
  refine U_getI hC fl_X3_62 dX3_blocksBetween_5 hq (fun v2 hq => ?_)
  refine V_isub hC dX3_blocksBetween_8 ?_
  refine V_istore_n (L' := [(0, .ref p0), (1, .ref p1), (2, .ref p2), (3, .int (v1 - v2))]) hC dX3_blocksBetween_9 rfl (by decide) [1, 2, 3, 0] rfl ?_
  refine V_aload_n hC dX3_blocksBetween_10 2 rfl ?_
  refine U_getI hC fl_X3_66 dX3_blocksBetween_11 hq (fun v3 hq => ?_)
  refine V_aload_n hC dX3_blocksBetween_14 1 rfl ?_
  refine U_getI hC fl_X3_66 dX3_blocksBetween_15 hq (fun v4 hq => ?_)
  refine V_isub hC dX3_blocksBetween_18 ?_
  refine V_istore (L' := [(0, .ref p0), (1, .ref p1), (2, .ref p2), (3, .int (v1 - v2)), (4, .int (v3 - v4))]) hC dX3_blocksBetween_19 (by decide) [1, 2, 3, 4, 0] rfl ?_
  refine V_iload_n hC dX3_blocksBetween_21 3 rfl ?_
  refine V_abs hC sm_X3_75 (by decide) (Nat.le_of_ble_eq_true rfl) (by decide) (by decide) dX3_blocksBetween_22 ?_
  refine V_iload hC dX3_blocksBetween_25 4 rfl ?_
  refine V_abs hC sm_X3_75 (by decide) (Nat.le_of_ble_eq_true rfl) (by decide) (by decide) dX3_blocksBetween_27 ?_
  refine V_max hC sm_X3_80 (by decide) (Nat.le_of_ble_eq_true rfl) (by decide) (by decide) dX3_blocksBetween_30 ?_
  refine V_istore (L' := [(0, .ref p0), (1, .ref p1), (2, .ref p2), (3, .int (v1 - v2)), (4, .int (v3 - v4)), (5, .int (jmax (jabs (v1 - v2)) (jabs (v3 - v4))))]) hC dX3_blocksBetween_33 (by decide) [1, 2, 3, 4, 5, 0] rfl ?_
  refine V_iload hC dX3_blocksBetween_35 5 rfl ?_
  refine V_iconst (v := 2) hC dX3_blocksBetween_37 (by decide) ?_
  refine V_icmp_ge (tgt := 43) hC dX3_blocksBetween_38 (by decide) (fun hc => ?_) (fun hc => ?_)
  · have hq := hq.1 hc
    refine V_aload_n hC dX3_blocksBetween_43 1 rfl ?_
    refine U_getI hC fl_X3_83 dX3_blocksBetween_44 hq (fun v5 hq => ?_)
    refine V_aload_n hC dX3_blocksBetween_47 0 rfl ?_
    refine V_aload_n hC dX3_blocksBetween_48 1 rfl ?_
    refine U_getI hC fl_X3_62 dX3_blocksBetween_49 hq (fun v6 hq => ?_)
    refine V_aload_n hC dX3_blocksBetween_52 1 rfl ?_
    refine U_getI hC fl_X3_66 dX3_blocksBetween_53 hq (fun v7 hq => ?_)
    obtain ⟨hz, hq⟩ := hq
    refine clV_X3_groundAt hG hC sv_X3_30 ⟨by decide, by decide⟩ (Nat.le_of_ble_eq_true rfl) ⟨by decide, by decide⟩ dX3_blocksBetween_56 hz hq (fun r8 hq => ?_)
    show V G Γ 13 0 0 h0 59 [(0, .ref p0), (1, .ref p1), (2, .ref p2), (3, .int (v1 - v2)), (4, .int (v3 - v4)), (5, .int (jmax (jabs (v1 - v2)) (jabs (v3 - v4))))] [.int r8, .int v5]
    refine V_iadd hC dX3_blocksBetween_59 ?_
    refine V_istore (L' := [(0, .ref p0), (1, .ref p1), (2, .ref p2), (3, .int (v1 - v2)), (4, .int (v3 - v4)), (5, .int (jmax (jabs (v1 - v2)) (jabs (v3 - v4)))), (6, .int (v5 + r8))]) hC dX3_blocksBetween_60 (by decide) [1, 2, 3, 4, 5, 6, 0] rfl ?_
    refine V_aload_n hC dX3_blocksBetween_62 2 rfl ?_
    refine U_getI hC fl_X3_83 dX3_blocksBetween_63 hq (fun v9 hq => ?_)
    refine V_aload_n hC dX3_blocksBetween_66 0 rfl ?_
    refine V_aload_n hC dX3_blocksBetween_67 2 rfl ?_
    refine U_getI hC fl_X3_62 dX3_blocksBetween_68 hq (fun v10 hq => ?_)
    refine V_aload_n hC dX3_blocksBetween_71 2 rfl ?_
    refine U_getI hC fl_X3_66 dX3_blocksBetween_72 hq (fun v11 hq => ?_)
    obtain ⟨hz, hq⟩ := hq
    refine clV_X3_groundAt hG hC sv_X3_30 ⟨by decide, by decide⟩ (Nat.le_of_ble_eq_true rfl) ⟨by decide, by decide⟩ dX3_blocksBetween_75 hz hq (fun r12 hq => ?_)
    show V G Γ 13 0 0 h0 78 [(0, .ref p0), (1, .ref p1), (2, .ref p2), (3, .int (v1 - v2)), (4, .int (v3 - v4)), (5, .int (jmax (jabs (v1 - v2)) (jabs (v3 - v4)))), (6, .int (v5 + r8))] [.int r12, .int v9]
    refine V_iadd hC dX3_blocksBetween_78 ?_
    refine V_istore (L' := [(0, .ref p0), (1, .ref p1), (2, .ref p2), (3, .int (v1 - v2)), (4, .int (v3 - v4)), (5, .int (jmax (jabs (v1 - v2)) (jabs (v3 - v4)))), (6, .int (v5 + r8)), (7, .int (v9 + r12))]) hC dX3_blocksBetween_79 (by decide) [1, 2, 3, 4, 5, 6, 7, 0] rfl ?_
    refine V_iconst (v := 0) hC dX3_blocksBetween_81 (by decide) ?_
    refine V_istore (L' := [(0, .ref p0), (1, .ref p1), (2, .ref p2), (3, .int (v1 - v2)), (4, .int (v3 - v4)), (5, .int (jmax (jabs (v1 - v2)) (jabs (v3 - v4)))), (6, .int (v5 + r8)), (7, .int (v9 + r12)), (8, .int 0)]) hC dX3_blocksBetween_82 (by decide) [1, 2, 3, 4, 5, 6, 7, 8, 0] rfl ?_
    refine V_iconst (v := 1) hC dX3_blocksBetween_84 (by decide) ?_
    refine V_istore (L' := [(0, .ref p0), (1, .ref p1), (2, .ref p2), (3, .int (v1 - v2)), (4, .int (v3 - v4)), (5, .int (jmax (jabs (v1 - v2)) (jabs (v3 - v4)))), (6, .int (v5 + r8)), (7, .int (v9 + r12)), (8, .int 0), (9, .int 1)]) hC dX3_blocksBetween_85 (by decide) [1, 2, 3, 4, 5, 6, 7, 8, 9, 0] rfl ?_
    have hq := hq (fun (x8_13 : Int32) (x9_14 : Int32) => V G Γ 13 0 0 h0 87 [(0, .ref p0), (1, .ref p1), (3, .int (v1 - v2)), (4, .int (v3 - v4)), (5, .int (jmax (jabs (v1 - v2)) (jabs (v3 - v4)))), (6, .int (v5 + r8)), (7, .int (v9 + r12)), (8, .int x8_13), (9, .int x9_14)] []) (by
      intro x8_13 x9_14 hq
      show V G Γ 13 0 0 h0 87 [(0, .ref p0), (1, .ref p1), (3, .int (v1 - v2)), (4, .int (v3 - v4)), (5, .int (jmax (jabs (v1 - v2)) (jabs (v3 - v4)))), (6, .int (v5 + r8)), (7, .int (v9 + r12)), (8, .int x8_13), (9, .int x9_14)] []
      refine V_iload hC dX3_blocksBetween_87 8 rfl ?_
      refine V_iload hC dX3_blocksBetween_89 4 rfl ?_
      refine V_icmp_ge (tgt := 168) hC dX3_blocksBetween_91 (by decide) (fun hc => ?_) (fun hc => ?_)
      · have hq := hq.1 hc
        refine V_iload hC dX3_blocksBetween_168 7 rfl ?_
        exact V_iret hC hQ rfl rfl ⟨by decide, by decide⟩ dX3_blocksBetween_170 ⟨_, rfl, rfl, hq⟩
      · have hq := hq.2 hc
        refine V_aload_n hC dX3_blocksBetween_94 1 rfl ?_
        refine U_getI hC fl_X3_62 dX3_blocksBetween_95 hq (fun v15 hq => ?_)
        refine V_iload hC dX3_blocksBetween_98 8 rfl ?_
        refine V_iload_n hC dX3_blocksBetween_100 2 rfl ?_
        refine V_imul hC dX3_blocksBetween_101 ?_
        refine V_iload hC dX3_blocksBetween_102 4 rfl ?_
        refine clS_J9_floorDiv_7cf53 hG hC ss_X3_86 ⟨by decide, by decide⟩ (Nat.le_of_ble_eq_true rfl) ⟨by decide, by decide⟩ dX3_blocksBetween_104 hq (fun r16 hq => ?_)
        show V G Γ 13 0 0 h0 107 [(0, .ref p0), (1, .ref p1), (3, .int (v1 - v2)), (4, .int (v3 - v4)), (5, .int (jmax (jabs (v1 - v2)) (jabs (v3 - v4)))), (6, .int (v5 + r8)), (7, .int (v9 + r12)), (8, .int x8_13), (9, .int x9_14)] [.int r16, .int v15]
        refine V_iadd hC dX3_blocksBetween_107 ?_
        refine V_istore (L' := [(0, .ref p0), (1, .ref p1), (3, .int (v1 - v2)), (4, .int (v3 - v4)), (5, .int (jmax (jabs (v1 - v2)) (jabs (v3 - v4)))), (6, .int (v5 + r8)), (7, .int (v9 + r12)), (8, .int x8_13), (9, .int x9_14), (10, .int (v15 + r16))]) hC dX3_blocksBetween_108 (by decide) [1, 2, 3, 4, 5, 6, 7, 8, 9, 0] rfl ?_
        refine V_aload_n hC dX3_blocksBetween_110 1 rfl ?_
        refine U_getI hC fl_X3_66 dX3_blocksBetween_111 hq (fun v17 hq => ?_)
        refine V_iload hC dX3_blocksBetween_114 8 rfl ?_
        refine V_iload hC dX3_blocksBetween_116 3 rfl ?_
        refine V_imul hC dX3_blocksBetween_118 ?_
        refine V_iload hC dX3_blocksBetween_119 4 rfl ?_
        refine clS_J9_floorDiv_7cf53 hG hC ss_X3_86 ⟨by decide, by decide⟩ (Nat.le_of_ble_eq_true rfl) ⟨by decide, by decide⟩ dX3_blocksBetween_121 hq (fun r18 hq => ?_)
        show V G Γ 13 0 0 h0 124 [(0, .ref p0), (1, .ref p1), (3, .int (v1 - v2)), (4, .int (v3 - v4)), (5, .int (jmax (jabs (v1 - v2)) (jabs (v3 - v4)))), (6, .int (v5 + r8)), (7, .int (v9 + r12)), (8, .int x8_13), (9, .int x9_14), (10, .int (v15 + r16))] [.int r18, .int v17]
        refine V_iadd hC dX3_blocksBetween_124 ?_
        refine V_istore (L' := [(0, .ref p0), (1, .ref p1), (3, .int (v1 - v2)), (4, .int (v3 - v4)), (5, .int (jmax (jabs (v1 - v2)) (jabs (v3 - v4)))), (6, .int (v5 + r8)), (7, .int (v9 + r12)), (8, .int x8_13), (9, .int x9_14), (10, .int (v15 + r16)), (11, .int (v17 + r18))]) hC dX3_blocksBetween_125 (by decide) [1, 2, 3, 4, 5, 6, 7, 8, 9, 10, 0] rfl ?_
        refine V_iload hC dX3_blocksBetween_127 5 rfl ?_
        refine V_iload hC dX3_blocksBetween_129 4 rfl ?_
        refine V_iload hC dX3_blocksBetween_131 8 rfl ?_
        refine V_isub hC dX3_blocksBetween_133 ?_
        refine V_imul hC dX3_blocksBetween_134 ?_
        refine V_iload hC dX3_blocksBetween_135 6 rfl ?_
        refine V_iload hC dX3_blocksBetween_137 8 rfl ?_
        refine V_imul hC dX3_blocksBetween_139 ?_
        refine V_iadd hC dX3_blocksBetween_140 ?_
        refine V_iload hC dX3_blocksBetween_141 4 rfl ?_
        obtain ⟨hz, hq⟩ := hq
        refine V_idiv hC dX3_blocksBetween_143 hz ?_
        refine V_istore (L' := [(0, .ref p0), (1, .ref p1), (3, .int (v1 - v2)), (4, .int (v3 - v4)), (5, .int (jmax (jabs (v1 - v2)) (jabs (v3 - v4)))), (6, .int (v5 + r8)), (7, .int (v9 + r12)), (8, .int x8_13), (9, .int x9_14), (10, .int (v15 + r16)), (11, .int (v17 + r18)), (12, .int ((((v5 + r8) * ((jmax (jabs (v1 - v2)) (jabs (v3 - v4))) - x9_14)) + ((v9 + r12) * x9_14)) / (jmax (jabs (v1 - v2)) (jabs (v3 - v4)))))]) hC dX3_blocksBetween_144 (by decide) [1, 2, 3, 4, 5, 6, 7, 8, 9, 10, 11, 0] rfl ?_
        refine V_aload_n hC dX3_blocksBetween_146 0 rfl ?_
        refine V_iload hC dX3_blocksBetween_147 9 rfl ?_
        refine V_iload hC dX3_blocksBetween_149 10 rfl ?_
        obtain ⟨hz, hq⟩ := hq
        refine clV_X3_groundAt hG hC sv_X3_30 ⟨by decide, by decide⟩ (Nat.le_of_ble_eq_true rfl) ⟨by decide, by decide⟩ dX3_blocksBetween_151 hz hq (fun r19 hq => ?_)
        show V G Γ 13 0 0 h0 154 [(0, .ref p0), (1, .ref p1), (3, .int (v1 - v2)), (4, .int (v3 - v4)), (5, .int (jmax (jabs (v1 - v2)) (jabs (v3 - v4)))), (6, .int (v5 + r8)), (7, .int (v9 + r12)), (8, .int x8_13), (9, .int x9_14), (10, .int (v15 + r16)), (11, .int (v17 + r18)), (12, .int ((((v5 + r8) * ((jmax (jabs (v1 - v2)) (jabs (v3 - v4))) - x9_14)) + ((v9 + r12) * x9_14)) / (jmax (jabs (v1 - v2)) (jabs (v3 - v4)))))] [.int r19]
        refine V_iload hC dX3_blocksBetween_154 11 rfl ?_
        have hq := hq (fun (x8_20 : Int32) => V G Γ 13 0 0 h0 162 [(0, .ref p0), (1, .ref p1), (3, .int (v1 - v2)), (4, .int (v3 - v4)), (5, .int (jmax (jabs (v1 - v2)) (jabs (v3 - v4)))), (6, .int (v5 + r8)), (7, .int (v9 + r12)), (8, .int x8_20), (9, .int x9_14)] []) (by
          intro x8_20 hq
          show V G Γ 13 0 0 h0 162 [(0, .ref p0), (1, .ref p1), (3, .int (v1 - v2)), (4, .int (v3 - v4)), (5, .int (jmax (jabs (v1 - v2)) (jabs (v3 - v4)))), (6, .int (v5 + r8)), (7, .int (v9 + r12)), (8, .int x8_20), (9, .int x9_14)] []
          refine V_iinc (j := 8) (v := (x9_14 + 1)) (L' := [(0, .ref p0), (1, .ref p1), (3, .int (v1 - v2)), (4, .int (v3 - v4)), (5, .int (jmax (jabs (v1 - v2)) (jabs (v3 - v4)))), (6, .int (v5 + r8)), (7, .int (v9 + r12)), (8, .int x8_20), (9, .int (x9_14 + 1))]) hC dX3_blocksBetween_162 rfl rfl (by decide) [1, 2, 3, 4, 5, 6, 7, 8, 0] rfl ?_
          refine V_goto (tgt := 87) hC dX3_blocksBetween_165 (by decide) ?_
          exact hq)
        refine V_icmp_le (tgt := 162) hC dX3_blocksBetween_156 (by decide) (fun hc => ?_) (fun hc => ?_)
        · have hq := hq.1 hc
          refine V_sub [0, 1, 2, 3, 4, 5, 6, 7, 8] rfl ?_
          exact hq
        · have hq := hq.2 hc
          refine V_iinc (j := 7) (v := (x8_13 + 1)) (L' := [(0, .ref p0), (1, .ref p1), (3, .int (v1 - v2)), (4, .int (v3 - v4)), (5, .int (jmax (jabs (v1 - v2)) (jabs (v3 - v4)))), (6, .int (v5 + r8)), (7, .int (v9 + r12)), (8, .int (x8_13 + 1)), (9, .int x9_14), (10, .int (v15 + r16)), (11, .int (v17 + r18)), (12, .int ((((v5 + r8) * ((jmax (jabs (v1 - v2)) (jabs (v3 - v4))) - x9_14)) + ((v9 + r12) * x9_14)) / (jmax (jabs (v1 - v2)) (jabs (v3 - v4)))))]) hC dX3_blocksBetween_159 rfl rfl (by decide) [1, 2, 3, 4, 5, 6, 7, 0, 8, 9, 10, 11] rfl ?_
          refine V_sub [0, 1, 2, 3, 4, 5, 6, 7, 8] rfl ?_
          exact hq)
    refine V_sub [0, 1, 3, 4, 5, 6, 7, 8, 9] rfl ?_
    exact hq
  · have hq := hq.2 hc
    refine V_iconst (v := 0) hC dX3_blocksBetween_41 (by decide) ?_
    exact V_iret hC hQ rfl rfl ⟨by decide, by decide⟩ dX3_blocksBetween_42 ⟨_, rfl, rfl, hq⟩
theorem clV_X3_blocksBetween {G : Gx} (hG : GOK G) {Γ : Cx} {own : String} {cc : ByteArray} {nL fr lo mc ms cells slots pc : Nat} {hh : List (Nat × Nat × Nat × Nat)} {h : hw} {L : List (Nat × Value)} {rest : List Value} (hC : COK G Γ own cc nL fr lo mc ms hh) {idx : Nat} (hs : SV own idx yX3_blocksBetween cX3_blocksBetween 13 (some .int) 2) {p0 : Nat} {p1 : Nat} {p2 : Nat} (hR : 3 + 1 ≤ fr ∧ 8 + (13 + 11) + 73 ≤ lo) (hw8 : (rest.map fun v => v.category).sum ≤ 8) (hcs : cells + 0 ≤ mc ∧ slots + 0 ≤ ms) (hdg : decode cc pc = .ok (.invokevirtual idx, 3)) (ho : isO h p0 3) {post : Int32 → Prop} (hq : wp_X3_blocksBetween G p0 p1 p2 h post) (kk : ∀ (r : Int32) , post r → V G Γ nL (cells + 0) (slots + 0) h (pc + 3) L (.int r :: rest)) : V G Γ nL cells slots h pc L (.ref p2 :: .ref p1 :: .ref p0 :: rest) :=
  V_callV (As := [.ref p1, .ref p2]) (r9 := (RX3, TX3, 3)) hC (ct_X3_blocksBetween hG p0 p1 p2 h post hq) hs ho rfl rfl rfl hR hw8 hcs hdg (fun E h1 z => z.elim) (fun v h1 z => by obtain ⟨r, rfl, rfl, hz⟩ := z; exact kk r hz)
set_option maxRecDepth 100000 in
set_option maxHeartbeats 4000000 in
theorem ct_X3_measure {G : Gx} (hG : GOK G) (p0 : Nat) (p1 : Nat) (p2 : Nat) (h0 : hw) (post : Int32 → Prop) (hq : wp_X3_measure G p0 p1 p2 h0 post) : CT G yX3_measure cX3_measure 6 (some .int) 4 105 0 0 [.ref p0, .ref p1, .ref p2] h0 (fun v h1 => ∃ r : Int32, v = some (.int r) ∧ h1 = h0 ∧ post r) (fun E h1 => False) := by
  refine CT_of hG (by decide) (Nat.le_of_ble_eq_true rfl) (fun Γ hC hQ hN => ?_)
  have hC : COK G Γ "Bandplan$Land" cX3_measure 6 4 105 0 0 [] := hC
  unfold wp_X3_measure at hq
  show V G Γ 6 0 0 h0 0 [(0, .ref p0), (1, .ref p1), (2, .ref p2)] []
  refine V_aload_n hC dX3_measure_0 2 rfl ?_
  refine U_getI hC fl_X3_62 dX3_measure_1 hq (fun v1 hq => ?_)
  refine V_aload_n hC dX3_measure_4 1 rfl ?_
  refine U_getI hC fl_X3_62 dX3_measure_5 hq (fun v2 hq => ?_)
  refine V_isub hC dX3_measure_8 ?_
  refine V_istore_n (L' := [(0, .ref p0), (1, .ref p1), (2, .ref p2), (3, .int (v1 - v2))]) hC dX3_measure_9 rfl (by decide) [1, 2, 3, 0] rfl ?_
  refine V_aload_n hC dX3_measure_10 2 rfl ?_
  refine U_getI hC fl_X3_66 dX3_measure_11 hq (fun v3 hq => ?_)
  refine V_aload_n hC dX3_measure_14 1 rfl ?_
  refine U_getI hC fl_X3_66 dX3_measure_15 hq (fun v4 hq => ?_)
  refine V_isub hC dX3_measure_18 ?_
  refine V_istore (L' := [(0, .ref p0), (1, .ref p1), (2, .ref p2), (3, .int (v1 - v2)), (4, .int (v3 - v4))]) hC dX3_measure_19 (by decide) [1, 2, 3, 4, 0] rfl ?_
  refine V_bipush (v := 100) hC dX3_measure_21 (by decide) ?_
  refine V_iload_n hC dX3_measure_23 3 rfl ?_
  refine V_iload_n hC dX3_measure_24 3 rfl ?_
  refine V_imul hC dX3_measure_25 ?_
  refine V_iload hC dX3_measure_26 4 rfl ?_
  refine V_iload hC dX3_measure_28 4 rfl ?_
  refine V_imul hC dX3_measure_30 ?_
  refine V_iadd hC dX3_measure_31 ?_
  refine V_imul hC dX3_measure_32 ?_
  refine clS_X3_rootOf hG hC ss_X3_69 ⟨by decide, by decide⟩ (Nat.le_of_ble_eq_true rfl) ⟨by decide, by decide⟩ dX3_measure_33 hq (fun r5 hq => ?_)
  show V G Γ 6 0 0 h0 36 [(0, .ref p0), (1, .ref p1), (2, .ref p2), (3, .int (v1 - v2)), (4, .int (v3 - v4))] [.int r5]
  refine V_istore (L' := [(0, .ref p0), (1, .ref p1), (2, .ref p2), (3, .int (v1 - v2)), (4, .int (v3 - v4)), (5, .int r5)]) hC dX3_measure_36 (by decide) [1, 2, 3, 4, 5, 0] rfl ?_
  refine V_sipush (v := 200) hC dX3_measure_38 (by decide) ?_
  refine V_bipush (v := 8) hC dX3_measure_41 (by decide) ?_
  refine V_iload hC dX3_measure_43 5 rfl ?_
  refine V_imul hC dX3_measure_45 ?_
  refine V_iadd hC dX3_measure_46 ?_
  refine V_bipush (v := 60) hC dX3_measure_47 (by decide) ?_
  refine V_aload_n hC dX3_measure_49 0 rfl ?_
  refine V_aload_n hC dX3_measure_50 1 rfl ?_
  refine V_aload_n hC dX3_measure_51 2 rfl ?_
  obtain ⟨hz, hq⟩ := hq
  refine clV_X3_blocksBetween hG hC sv_X3_72 ⟨by decide, by decide⟩ (Nat.le_of_ble_eq_true rfl) ⟨by decide, by decide⟩ dX3_measure_52 hz hq (fun r6 hq => ?_)
  show V G Γ 6 0 0 h0 55 [(0, .ref p0), (1, .ref p1), (2, .ref p2), (3, .int (v1 - v2)), (4, .int (v3 - v4)), (5, .int r5)] [.int r6, .int 60, .int (200 + (8 * r5))]
  refine V_imul hC dX3_measure_55 ?_
  refine V_iadd hC dX3_measure_56 ?_
  exact V_iret hC hQ rfl rfl ⟨by decide, by decide⟩ dX3_measure_57 ⟨_, rfl, rfl, hq⟩
theorem clV_X3_measure {G : Gx} (hG : GOK G) {Γ : Cx} {own : String} {cc : ByteArray} {nL fr lo mc ms cells slots pc : Nat} {hh : List (Nat × Nat × Nat × Nat)} {h : hw} {L : List (Nat × Value)} {rest : List Value} (hC : COK G Γ own cc nL fr lo mc ms hh) {idx : Nat} (hs : SV own idx yX3_measure cX3_measure 6 (some .int) 2) {p0 : Nat} {p1 : Nat} {p2 : Nat} (hR : 4 + 1 ≤ fr ∧ 8 + (6 + 11) + 105 ≤ lo) (hw8 : (rest.map fun v => v.category).sum ≤ 8) (hcs : cells + 0 ≤ mc ∧ slots + 0 ≤ ms) (hdg : decode cc pc = .ok (.invokevirtual idx, 3)) (ho : isO h p0 3) {post : Int32 → Prop} (hq : wp_X3_measure G p0 p1 p2 h post) (kk : ∀ (r : Int32) , post r → V G Γ nL (cells + 0) (slots + 0) h (pc + 3) L (.int r :: rest)) : V G Γ nL cells slots h pc L (.ref p2 :: .ref p1 :: .ref p0 :: rest) :=
  V_callV (As := [.ref p1, .ref p2]) (r9 := (RX3, TX3, 3)) hC (ct_X3_measure hG p0 p1 p2 h post hq) hs ho rfl rfl rfl hR hw8 hcs hdg (fun E h1 z => z.elim) (fun v h1 z => by obtain ⟨r, rfl, rfl, hz⟩ := z; exact kk r hz)
set_option maxRecDepth 100000 in
set_option maxHeartbeats 4000000 in
theorem ct_X3_measureAll {G : Gx} (hG : GOK G) (p0 : Nat) (h0 : hw) (post : hw → Prop) (hq : wp_X3_measureAll G p0 h0 post) : CT G yX3_measureAll cX3_measureAll 4 none 5 130 0 0 [.ref p0] h0 (fun v h1 => v = none ∧ post h1) (fun E h1 => False) := by
  refine CT_of hG (by decide) (Nat.le_of_ble_eq_true rfl) (fun Γ hC hQ hN => ?_)
  have hC : COK G Γ "Bandplan$Land" cX3_measureAll 4 5 130 0 0 [] := hC
  unfold wp_X3_measureAll at hq
  show V G Γ 4 0 0 h0 0 [(0, .ref p0)] []
  refine V_iconst (v := 1) hC dX3_measureAll_0 (by decide) ?_
  refine V_istore_n (L' := [(0, .ref p0), (1, .int 1)]) hC dX3_measureAll_1 rfl (by decide) [1, 0] rfl ?_
  have hq := hq (fun (x1_1 : Int32) (h2 : hw) => V G Γ 4 0 0 h2 2 [(0, .ref p0), (1, .int x1_1)] []) (by
    intro x1_1 h2 hq
    show V G Γ 4 0 0 h2 2 [(0, .ref p0), (1, .int x1_1)] []
    refine V_iload_n hC dX3_measureAll_2 1 rfl ?_
    refine V_aload_n hC dX3_measureAll_3 0 rfl ?_
    refine U_getR hC fl_X3_12 dX3_measureAll_4 hq (fun v3 hq => ?_)
    obtain ⟨hz, hq⟩ := hq
    refine clV_Jx4a65c_size_8abf5 hG hC sv_X3_44 ⟨by decide, by decide⟩ (Nat.le_of_ble_eq_true rfl) ⟨by decide, by decide⟩ dX3_measureAll_7 hz hq (fun r4 hq => ?_)
    show V G Γ 4 0 0 h2 10 [(0, .ref p0), (1, .int x1_1)] [.int r4, .int x1_1]
    refine V_icmp_ge (tgt := 87) hC dX3_measureAll_10 (by decide) (fun hc => ?_) (fun hc => ?_)
    · have hq := hq.1 hc
      exact V_vret hC hQ ⟨by decide, by decide⟩ dX3_measureAll_87 ⟨rfl, hq⟩
    · have hq := hq.2 hc
      refine V_iconst (v := 0) hC dX3_measureAll_13 (by decide) ?_
      refine V_istore_n (L' := [(0, .ref p0), (1, .int x1_1), (2, .int 0)]) hC dX3_measureAll_14 rfl (by decide) [1, 2, 0] rfl ?_
      have hq := hq (fun (x2_5 : Int32) (h6 : hw) => V G Γ 4 0 0 h6 15 [(0, .ref p0), (1, .int x1_1), (2, .int x2_5)] []) (by
        intro x2_5 h6 hq
        show V G Γ 4 0 0 h6 15 [(0, .ref p0), (1, .int x1_1), (2, .int x2_5)] []
        refine V_iload_n hC dX3_measureAll_15 2 rfl ?_
        refine V_iload_n hC dX3_measureAll_16 1 rfl ?_
        refine V_icmp_ge (tgt := 81) hC dX3_measureAll_17 (by decide) (fun hc => ?_) (fun hc => ?_)
        · have hq := hq.1 hc
          refine V_iinc (j := 1) (v := (x1_1 + 1)) (L' := [(0, .ref p0), (1, .int (x1_1 + 1)), (2, .int x2_5)]) hC dX3_measureAll_81 rfl rfl (by decide) [1, 0, 2] rfl ?_
          refine V_goto (tgt := 2) hC dX3_measureAll_84 (by decide) ?_
          refine V_sub [0, 1] rfl ?_
          exact hq
        · have hq := hq.2 hc
          refine V_aload_n hC dX3_measureAll_20 0 rfl ?_
          refine V_aload_n hC dX3_measureAll_21 0 rfl ?_
          refine U_getR hC fl_X3_12 dX3_measureAll_22 hq (fun v7 hq => ?_)
          refine V_iload_n hC dX3_measureAll_25 2 rfl ?_
          obtain ⟨hz, hq⟩ := hq
          refine clV_Jx4a65c_get_915e3 hG hC sv_X3_52 ⟨by decide, by decide⟩ (Nat.le_of_ble_eq_true rfl) ⟨by decide, by decide⟩ dX3_measureAll_26 hz hq (fun r8 hq => ?_)
          show V G Γ 4 0 0 h6 29 [(0, .ref p0), (1, .int x1_1), (2, .int x2_5)] [.ref r8, .ref p0]
          obtain ⟨hz, hq⟩ := hq
          refine V_cast (r9 := (RX9, TX9, 3)) hC aw_3_24 rfl hz dX3_measureAll_29 ?_
          refine V_aload_n hC dX3_measureAll_32 0 rfl ?_
          refine U_getR hC fl_X3_12 dX3_measureAll_33 hq (fun v9 hq => ?_)
          refine V_iload_n hC dX3_measureAll_36 1 rfl ?_
          obtain ⟨hz, hq⟩ := hq
          refine clV_Jx4a65c_get_915e3 hG hC sv_X3_52 ⟨by decide, by decide⟩ (Nat.le_of_ble_eq_true rfl) ⟨by decide, by decide⟩ dX3_measureAll_37 hz hq (fun r10 hq => ?_)
          show V G Γ 4 0 0 h6 40 [(0, .ref p0), (1, .int x1_1), (2, .int x2_5)] [.ref r10, .ref r8, .ref p0]
          obtain ⟨hz, hq⟩ := hq
          refine V_cast (r9 := (RX9, TX9, 3)) hC aw_3_24 rfl hz dX3_measureAll_40 ?_
          obtain ⟨hz, hq⟩ := hq
          refine clV_X3_measure hG hC sv_X3_58 ⟨by decide, by decide⟩ (Nat.le_of_ble_eq_true rfl) ⟨by decide, by decide⟩ dX3_measureAll_43 hz hq (fun r11 hq => ?_)
          show V G Γ 4 0 0 h6 46 [(0, .ref p0), (1, .int x1_1), (2, .int x2_5)] [.int r11]
          refine V_istore_n (L' := [(0, .ref p0), (1, .int x1_1), (2, .int x2_5), (3, .int r11)]) hC dX3_measureAll_46 rfl (by decide) [1, 2, 3, 0] rfl ?_
          refine V_aload_n hC dX3_measureAll_47 0 rfl ?_
          refine U_getR hC fl_X3_27 dX3_measureAll_48 hq (fun v12 hq => ?_)
          refine V_iload_n hC dX3_measureAll_51 2 rfl ?_
          refine V_bipush (v := 10) hC dX3_measureAll_52 (by decide) ?_
          refine V_imul hC dX3_measureAll_54 ?_
          refine V_iload_n hC dX3_measureAll_55 1 rfl ?_
          refine V_iadd hC dX3_measureAll_56 ?_
          refine V_iload_n hC dX3_measureAll_57 3 rfl ?_
          obtain ⟨hz, hq⟩ := hq
          refine clV_X7_put hG hC sv_X3_34 ⟨by decide, by decide⟩ (Nat.le_of_ble_eq_true rfl) ⟨by decide, by decide⟩ dX3_measureAll_58 hz hq (fun h13 hq => ?_)
          show V G Γ 4 0 0 h13 61 [(0, .ref p0), (1, .int x1_1), (2, .int x2_5), (3, .int r11)] []
          refine V_aload_n hC dX3_measureAll_61 0 rfl ?_
          refine U_getR hC fl_X3_27 dX3_measureAll_62 hq (fun v14 hq => ?_)
          refine V_iload_n hC dX3_measureAll_65 1 rfl ?_
          refine V_bipush (v := 10) hC dX3_measureAll_66 (by decide) ?_
          refine V_imul hC dX3_measureAll_68 ?_
          refine V_iload_n hC dX3_measureAll_69 2 rfl ?_
          refine V_iadd hC dX3_measureAll_70 ?_
          refine V_iload_n hC dX3_measureAll_71 3 rfl ?_
          obtain ⟨hz, hq⟩ := hq
          refine clV_X7_put hG hC sv_X3_34 ⟨by decide, by decide⟩ (Nat.le_of_ble_eq_true rfl) ⟨by decide, by decide⟩ dX3_measureAll_72 hz hq (fun h15 hq => ?_)
          show V G Γ 4 0 0 h15 75 [(0, .ref p0), (1, .int x1_1), (2, .int x2_5), (3, .int r11)] []
          refine V_iinc (j := 2) (v := (x2_5 + 1)) (L' := [(0, .ref p0), (1, .int x1_1), (2, .int (x2_5 + 1)), (3, .int r11)]) hC dX3_measureAll_75 rfl rfl (by decide) [1, 2, 0, 3] rfl ?_
          refine V_goto (tgt := 15) hC dX3_measureAll_78 (by decide) ?_
          refine V_sub [0, 1, 2] rfl ?_
          exact hq)
      exact hq)
  exact hq
theorem clV_X3_measureAll {G : Gx} (hG : GOK G) {Γ : Cx} {own : String} {cc : ByteArray} {nL fr lo mc ms cells slots pc : Nat} {hh : List (Nat × Nat × Nat × Nat)} {h : hw} {L : List (Nat × Value)} {rest : List Value} (hC : COK G Γ own cc nL fr lo mc ms hh) {idx : Nat} (hs : SV own idx yX3_measureAll cX3_measureAll 4 none 0) {p0 : Nat} (hR : 5 + 1 ≤ fr ∧ 8 + (4 + 11) + 130 ≤ lo) (hw8 : (rest.map fun v => v.category).sum ≤ 8) (hcs : cells + 0 ≤ mc ∧ slots + 0 ≤ ms) (hdg : decode cc pc = .ok (.invokevirtual idx, 3)) (ho : isO h p0 3) {post : hw → Prop} (hq : wp_X3_measureAll G p0 h post) (kk : ∀ (h1 : hw) , post h1 → V G Γ nL (cells + 0) (slots + 0) h1 (pc + 3) L (rest)) : V G Γ nL cells slots h pc L (.ref p0 :: rest) :=
  V_callV (As := []) (r9 := (RX3, TX3, 3)) hC (ct_X3_measureAll hG p0 h post hq) hs ho rfl rfl rfl hR hw8 hcs hdg (fun E h1 z => z.elim) (fun v h1 z => by obtain ⟨rfl, hz⟩ := z; exact kk h1 hz)
set_option maxRecDepth 100000 in
set_option maxHeartbeats 4000000 in
theorem ct_X3_changeGround {G : Gx} (hG : GOK G) (p0 : Nat) (p1 : Int32) (p2 : Int32) (p3 : Int32) (h0 : hw) (post : Int32 → hw → Prop) (hq : wp_X3_changeGround G p0 p1 p2 p3 h0 post) : CT G yX3_changeGround cX3_changeGround 5 (some .int) 6 153 0 0 [.ref p0, .int p1, .int p2, .int p3] h0 (fun v h1 => ∃ r : Int32, v = some (.int r) ∧ post r h1) (fun E h1 => False) := by
  refine CT_of hG (by decide) (Nat.le_of_ble_eq_true rfl) (fun Γ hC hQ hN => ?_)
  have hC : COK G Γ "Bandplan$Land" cX3_changeGround 5 6 153 0 0 [] := hC
  unfold wp_X3_changeGround at hq
  show V G Γ 5 0 0 h0 0 [(0, .ref p0), (1, .int p1), (2, .int p2), (3, .int p3)] []
  refine V_aload_n hC dX3_changeGround_0 0 rfl ?_
  refine V_iload_n hC dX3_changeGround_1 1 rfl ?_
  refine V_iload_n hC dX3_changeGround_2 2 rfl ?_
  obtain ⟨hz, hq⟩ := hq
  refine clV_X3_groundAt hG hC sv_X3_30 ⟨by decide, by decide⟩ (Nat.le_of_ble_eq_true rfl) ⟨by decide, by decide⟩ dX3_changeGround_3 hz hq (fun r1 hq => ?_)
  show V G Γ 5 0 0 h0 6 [(0, .ref p0), (1, .int p1), (2, .int p2), (3, .int p3)] [.int r1]
  refine V_istore (L' := [(0, .ref p0), (1, .int p1), (2, .int p2), (3, .int p3), (4, .int r1)]) hC dX3_changeGround_6 (by decide) [1, 2, 3, 4, 0] rfl ?_
  refine V_aload_n hC dX3_changeGround_8 0 rfl ?_
  refine U_getR hC fl_X3_23 dX3_changeGround_9 hq (fun v2 hq => ?_)
  refine V_iload_n hC dX3_changeGround_12 1 rfl ?_
  refine V_bipush (v := 20) hC dX3_changeGround_13 (by decide) ?_
  refine V_imul hC dX3_changeGround_15 ?_
  refine V_iload_n hC dX3_changeGround_16 2 rfl ?_
  refine V_iadd hC dX3_changeGround_17 ?_
  refine V_iload_n hC dX3_changeGround_18 3 rfl ?_
  obtain ⟨hz, hq⟩ := hq
  refine clV_X7_put hG hC sv_X3_34 ⟨by decide, by decide⟩ (Nat.le_of_ble_eq_true rfl) ⟨by decide, by decide⟩ dX3_changeGround_19 hz hq (fun h3 hq => ?_)
  show V G Γ 5 0 0 h3 22 [(0, .ref p0), (1, .int p1), (2, .int p2), (3, .int p3), (4, .int r1)] []
  refine V_aload_n hC dX3_changeGround_22 0 rfl ?_
  obtain ⟨hz, hq⟩ := hq
  refine clV_X3_measureAll hG hC sv_X3_37 ⟨by decide, by decide⟩ (Nat.le_of_ble_eq_true rfl) ⟨by decide, by decide⟩ dX3_changeGround_23 hz hq (fun h4 hq => ?_)
  show V G Γ 5 0 0 h4 26 [(0, .ref p0), (1, .int p1), (2, .int p2), (3, .int p3), (4, .int r1)] []
  refine V_iload hC dX3_changeGround_26 4 rfl ?_
  exact V_iret hC hQ rfl rfl ⟨by decide, by decide⟩ dX3_changeGround_28 ⟨_, rfl, hq⟩
theorem clV_X3_changeGround {G : Gx} (hG : GOK G) {Γ : Cx} {own : String} {cc : ByteArray} {nL fr lo mc ms cells slots pc : Nat} {hh : List (Nat × Nat × Nat × Nat)} {h : hw} {L : List (Nat × Value)} {rest : List Value} (hC : COK G Γ own cc nL fr lo mc ms hh) {idx : Nat} (hs : SV own idx yX3_changeGround cX3_changeGround 5 (some .int) 3) {p0 : Nat} {p1 : Int32} {p2 : Int32} {p3 : Int32} (hR : 6 + 1 ≤ fr ∧ 8 + (5 + 11) + 153 ≤ lo) (hw8 : (rest.map fun v => v.category).sum ≤ 8) (hcs : cells + 0 ≤ mc ∧ slots + 0 ≤ ms) (hdg : decode cc pc = .ok (.invokevirtual idx, 3)) (ho : isO h p0 3) {post : Int32 → hw → Prop} (hq : wp_X3_changeGround G p0 p1 p2 p3 h post) (kk : ∀ (r : Int32) (h1 : hw) , post r h1 → V G Γ nL (cells + 0) (slots + 0) h1 (pc + 3) L (.int r :: rest)) : V G Γ nL cells slots h pc L (.int p3 :: .int p2 :: .int p1 :: .ref p0 :: rest) :=
  V_callV (As := [.int p1, .int p2, .int p3]) (r9 := (RX3, TX3, 3)) hC (ct_X3_changeGround hG p0 p1 p2 p3 h post hq) hs ho rfl rfl rfl hR hw8 hcs hdg (fun E h1 z => z.elim) (fun v h1 z => by obtain ⟨r, rfl, hz⟩ := z; exact kk r h1 hz)
set_option maxRecDepth 100000 in
set_option maxHeartbeats 4000000 in
theorem ct_J8_newLength_cabcc {G : Gx} (hG : GOK G) (p0 : Int32) (p1 : Int32) (p2 : Int32) (h0 : hw) (post : Int32 → Prop) (hq : wp_J8_newLength_cabcc G p0 p1 p2 h0 post) : CT G yJ8_newLength_cabcc cJ8_newLength_cabcc 4 (some .int) 2 60 0 0 [.int p0, .int p1, .int p2] h0 (fun v h1 => ∃ r : Int32, v = some (.int r) ∧ h1 = h0 ∧ post r) (fun E h1 => False) := by
  refine CT_of hG (by decide) (Nat.le_of_ble_eq_true rfl) (fun Γ hC hQ hN => ?_)
  have hC : COK G Γ "jdk/internal/util/ArraysSupport" cJ8_newLength_cabcc 4 2 60 0 0 [] := hC
  unfold wp_J8_newLength_cabcc at hq
  show V G Γ 4 0 0 h0 0 [(0, .int p0), (1, .int p1), (2, .int p2)] []
  refine V_iload_n hC dJ8_newLength_cabcc_0 0 rfl ?_
  refine V_iload_n hC dJ8_newLength_cabcc_1 1 rfl ?_
  refine V_iload_n hC dJ8_newLength_cabcc_2 2 rfl ?_
  refine V_max hC sm_J8_194 (by decide) (Nat.le_of_ble_eq_true rfl) (by decide) (by decide) dJ8_newLength_cabcc_3 ?_
  refine V_iadd hC dJ8_newLength_cabcc_6 ?_
  refine V_istore_n (L' := [(0, .int p0), (1, .int p1), (2, .int p2), (3, .int (p0 + (jmax p1 p2)))]) hC dJ8_newLength_cabcc_7 rfl (by decide) [1, 2, 3, 0] rfl ?_
  refine V_iconst (v := 0) hC dJ8_newLength_cabcc_8 (by decide) ?_
  refine V_iload_n hC dJ8_newLength_cabcc_9 3 rfl ?_
  have hq := hq (V G Γ 4 0 0 h0 21 [(0, .int p0), (1, .int p1)] []) (by
    intro hq
    show V G Γ 4 0 0 h0 21 [(0, .int p0), (1, .int p1)] []
    refine V_iload_n hC dJ8_newLength_cabcc_21 0 rfl ?_
    refine V_iload_n hC dJ8_newLength_cabcc_22 1 rfl ?_
    exact hq.elim)
  refine V_icmp_ge (tgt := 21) hC dJ8_newLength_cabcc_10 (by decide) (fun hc => ?_) (fun hc => ?_)
  · have hq := hq.1 hc
    refine V_sub [0, 1] rfl ?_
    exact hq
  · have hq := hq.2 hc
    refine V_iload_n hC dJ8_newLength_cabcc_13 3 rfl ?_
    refine V_ldc (v := 2147483639) hC aw_3_95 dJ8_newLength_cabcc_14 ?_
    refine V_icmp_gt (tgt := 21) hC dJ8_newLength_cabcc_16 (by decide) (fun hc => ?_) (fun hc => ?_)
    · have hq := hq.1 hc
      refine V_sub [0, 1] rfl ?_
      exact hq
    · have hq := hq.2 hc
      refine V_iload_n hC dJ8_newLength_cabcc_19 3 rfl ?_
      exact V_iret hC hQ rfl rfl ⟨by decide, by decide⟩ dJ8_newLength_cabcc_20 ⟨_, rfl, rfl, hq⟩
theorem clS_J8_newLength_cabcc {G : Gx} (hG : GOK G) {Γ : Cx} {own : String} {cc : ByteArray} {nL fr lo mc ms cells slots pc : Nat} {hh : List (Nat × Nat × Nat × Nat)} {h : hw} {L : List (Nat × Value)} {rest : List Value} (hC : COK G Γ own cc nL fr lo mc ms hh) {idx : Nat} (hs : SS own idx yJ8_newLength_cabcc cJ8_newLength_cabcc 4 (some .int) 3) {p0 : Int32} {p1 : Int32} {p2 : Int32} (hR : 2 + 1 ≤ fr ∧ 8 + (4 + 11) + 60 ≤ lo) (hw8 : (rest.map fun v => v.category).sum ≤ 8) (hcs : cells + 0 ≤ mc ∧ slots + 0 ≤ ms) (hdg : decode cc pc = .ok (.invokestatic idx, 3)) {post : Int32 → Prop} (hq : wp_J8_newLength_cabcc G p0 p1 p2 h post) (kk : ∀ (r : Int32) , post r → V G Γ nL (cells + 0) (slots + 0) h (pc + 3) L (.int r :: rest)) : V G Γ nL cells slots h pc L (.int p2 :: .int p1 :: .int p0 :: rest) :=
  V_callS (As := [.int p0, .int p1, .int p2]) hC (ct_J8_newLength_cabcc hG p0 p1 p2 h post hq) hs rfl hR hw8 hcs hdg (fun E h1 z => z.elim) (fun v h1 z => by obtain ⟨r, rfl, rfl, hz⟩ := z; exact kk r hz)
set_option maxRecDepth 100000 in
set_option maxHeartbeats 4000000 in
theorem ct_J7_copyOf_6403c {G : Gx} (hG : GOK G) (p0 : Nat) (p1 : Int32) (p2 : Nat) (h0 : hw) (bc bs : Nat) (post : Nat → hw → Prop) (hq : wp_J7_copyOf_6403c G p0 p1 p2 h0 bc bs post) : CT G yJ7_copyOf_6403c cJ7_copyOf_6403c 4 (some (.array (.object "java/lang/Object"))) 2 60 bc bs [.ref p0, .int p1, .ref p2] h0 (fun v h1 => ∃ r : Nat, v = some (.ref r) ∧ post r h1) (fun E h1 => False) := by
  refine CT_of hG (by decide) (Nat.le_of_ble_eq_true rfl) (fun Γ hC hQ hN => ?_)
  have hC : COK G Γ "java/util/Arrays" cJ7_copyOf_6403c 4 2 60 bc bs [] := hC
  unfold wp_J7_copyOf_6403c at hq
  show V G Γ 4 0 0 h0 0 [(0, .ref p0), (1, .int p1), (2, .ref p2)] []
  refine V_aload_n hC dJ7_copyOf_6403c_0 2 rfl ?_
  refine U_ldcM hC aw_3_129 dJ7_copyOf_6403c_1 ?_
  refine U_acmp_ne (tgt := 13) hC dJ7_copyOf_6403c_3 (by decide) (fun hc => ?_) (fun hc => ?_)
  · have hq := hq.1 hc
    refine V_aload_n hC dJ7_copyOf_6403c_13 2 rfl ?_
    exact hq.elim
  · have hq := hq.2 hc
    refine V_iload_n hC dJ7_copyOf_6403c_6 1 rfl ?_
    obtain ⟨hz1, hz2, hq⟩ := hq
    refine U_newaA (room := (bs - 0)) hC aw_3_131 ⟨hz1, by omega⟩ dJ7_copyOf_6403c_7 hq (fun a1 h2 hq => ?_)
    refine V_goto (tgt := 24) hC dJ7_copyOf_6403c_10 (by decide) ?_
    refine V_astore_n (L' := [(0, .ref p0), (1, .int p1), (2, .ref p2), (3, .ref a1)]) hC dJ7_copyOf_6403c_24 rfl (by decide) [1, 2, 3, 0] rfl ?_
    refine V_aload_n hC dJ7_copyOf_6403c_25 0 rfl ?_
    refine V_iconst (v := 0) hC dJ7_copyOf_6403c_26 (by decide) ?_
    refine V_aload_n hC dJ7_copyOf_6403c_27 3 rfl ?_
    refine V_iconst (v := 0) hC dJ7_copyOf_6403c_28 (by decide) ?_
    refine V_aload_n hC dJ7_copyOf_6403c_29 0 rfl ?_
    refine U_lnA hC dJ7_copyOf_6403c_30 hq (fun v3 hq => ?_)
    refine V_iload_n hC dJ7_copyOf_6403c_31 1 rfl ?_
    refine V_min hC sm_J7_304 (by decide) (Nat.le_of_ble_eq_true rfl) (by omega) (by omega) dJ7_copyOf_6403c_32 ?_
    refine U_acpA hC ac_J7_150 (by decide) (by decide) dJ7_copyOf_6403c_35 hq (fun h4 hq => ?_)
    refine V_aload_n hC dJ7_copyOf_6403c_38 3 rfl ?_
    obtain ⟨hz1, hz2, hq⟩ := hq
    exact V_aret hC hQ rfl (by first | exact Or.inl ⟨_, rfl⟩ | exact Or.inr ⟨_, rfl⟩) ⟨hz1, hz2⟩ dJ7_copyOf_6403c_39 ⟨_, rfl, hq⟩
theorem clS_J7_copyOf_6403c {G : Gx} (hG : GOK G) {Γ : Cx} {own : String} {cc : ByteArray} {nL fr lo mc ms cells slots pc : Nat} {hh : List (Nat × Nat × Nat × Nat)} {h : hw} {L : List (Nat × Value)} {rest : List Value} (hC : COK G Γ own cc nL fr lo mc ms hh) {idx : Nat} (hs : SS own idx yJ7_copyOf_6403c cJ7_copyOf_6403c 4 (some (.array (.object "java/lang/Object"))) 3) {bc bs : Nat} {p0 : Nat} {p1 : Int32} {p2 : Nat} (hR : 2 + 1 ≤ fr ∧ 8 + (4 + 11) + 60 ≤ lo) (hw8 : (rest.map fun v => v.category).sum ≤ 8) (hcs : cells + bc ≤ mc ∧ slots + bs ≤ ms) (hdg : decode cc pc = .ok (.invokestatic idx, 3)) {post : Nat → hw → Prop} (hq : wp_J7_copyOf_6403c G p0 p1 p2 h bc bs post) (kk : ∀ (r : Nat) (h1 : hw) , post r h1 → V G Γ nL (cells + bc) (slots + bs) h1 (pc + 3) L (.ref r :: rest)) : V G Γ nL cells slots h pc L (.ref p2 :: .int p1 :: .ref p0 :: rest) :=
  V_callS (As := [.ref p0, .int p1, .ref p2]) hC (ct_J7_copyOf_6403c hG p0 p1 p2 h bc bs post hq) hs rfl hR hw8 hcs hdg (fun E h1 z => z.elim) (fun v h1 z => by obtain ⟨r, rfl, hz⟩ := z; exact kk r h1 hz)
set_option maxRecDepth 100000 in
set_option maxHeartbeats 4000000 in
theorem ct_J7_copyOf_1904c {G : Gx} (hG : GOK G) (p0 : Nat) (p1 : Int32) (h0 : hw) (bc bs : Nat) (post : Nat → hw → Prop) (hq : wp_J7_copyOf_1904c G p0 p1 h0 bc bs post) : CT G yJ7_copyOf_1904c cJ7_copyOf_1904c 2 (some (.array (.object "java/lang/Object"))) 3 83 bc bs [.ref p0, .int p1] h0 (fun v h1 => ∃ r : Nat, v = some (.ref r) ∧ post r h1) (fun E h1 => False) := by
  refine CT_of hG (by decide) (Nat.le_of_ble_eq_true rfl) (fun Γ hC hQ hN => ?_)
  have hC : COK G Γ "java/util/Arrays" cJ7_copyOf_1904c 2 3 83 bc bs [] := hC
  unfold wp_J7_copyOf_1904c at hq
  show V G Γ 2 0 0 h0 0 [(0, .ref p0), (1, .int p1)] []
  refine V_aload_n hC dJ7_copyOf_1904c_0 0 rfl ?_
  refine V_iload_n hC dJ7_copyOf_1904c_1 1 rfl ?_
  refine V_aload_n hC dJ7_copyOf_1904c_2 0 rfl ?_
  obtain ⟨hz, hq⟩ := hq
  refine U_getC hC gc_J7_86 hz (by decide) (Nat.le_of_ble_eq_true rfl) dJ7_copyOf_1904c_3 ?_
  obtain ⟨bc1, bs2, hz1, hz2, hq⟩ := hq
  refine clS_J7_copyOf_6403c hG hC ss_J7_300 ⟨by decide, by decide⟩ (Nat.le_of_ble_eq_true rfl) ⟨hz1, hz2⟩ dJ7_copyOf_1904c_6 hq (fun r3 h4 hq => ?_)
  show V G Γ 2 (0 + bc1) (0 + bs2) h4 9 [(0, .ref p0), (1, .int p1)] [.ref r3]
  obtain ⟨hz1, hz2, hq⟩ := hq
  exact V_aret hC hQ rfl (by first | exact Or.inl ⟨_, rfl⟩ | exact Or.inr ⟨_, rfl⟩) ⟨hz1, hz2⟩ dJ7_copyOf_1904c_9 ⟨_, rfl, hq⟩
theorem clS_J7_copyOf_1904c {G : Gx} (hG : GOK G) {Γ : Cx} {own : String} {cc : ByteArray} {nL fr lo mc ms cells slots pc : Nat} {hh : List (Nat × Nat × Nat × Nat)} {h : hw} {L : List (Nat × Value)} {rest : List Value} (hC : COK G Γ own cc nL fr lo mc ms hh) {idx : Nat} (hs : SS own idx yJ7_copyOf_1904c cJ7_copyOf_1904c 2 (some (.array (.object "java/lang/Object"))) 2) {bc bs : Nat} {p0 : Nat} {p1 : Int32} (hR : 3 + 1 ≤ fr ∧ 8 + (2 + 11) + 83 ≤ lo) (hw8 : (rest.map fun v => v.category).sum ≤ 8) (hcs : cells + bc ≤ mc ∧ slots + bs ≤ ms) (hdg : decode cc pc = .ok (.invokestatic idx, 3)) {post : Nat → hw → Prop} (hq : wp_J7_copyOf_1904c G p0 p1 h bc bs post) (kk : ∀ (r : Nat) (h1 : hw) , post r h1 → V G Γ nL (cells + bc) (slots + bs) h1 (pc + 3) L (.ref r :: rest)) : V G Γ nL cells slots h pc L (.int p1 :: .ref p0 :: rest) :=
  V_callS (As := [.ref p0, .int p1]) hC (ct_J7_copyOf_1904c hG p0 p1 h bc bs post hq) hs rfl hR hw8 hcs hdg (fun E h1 z => z.elim) (fun v h1 z => by obtain ⟨r, rfl, hz⟩ := z; exact kk r h1 hz)
set_option maxRecDepth 100000 in
set_option maxHeartbeats 4000000 in
theorem ct_Jx4a65c_grow_92f84 {G : Gx} (hG : GOK G) (p0 : Nat) (p1 : Int32) (h0 : hw) (bc bs : Nat) (post : Nat → hw → Prop) (hq : wp_Jx4a65c_grow_92f84 G p0 p1 h0 bc bs post) : CT G yJx4a65c_grow_92f84 cJx4a65c_grow_92f84 4 (some (.array (.object "java/lang/Object"))) 4 104 bc bs [.ref p0, .int p1] h0 (fun v h1 => ∃ r : Nat, v = some (.ref r) ∧ post r h1) (fun E h1 => False) := by
  refine CT_of hG (by decide) (Nat.le_of_ble_eq_true rfl) (fun Γ hC hQ hN => ?_)
  have hC : COK G Γ "java/util/ArrayList" cJx4a65c_grow_92f84 4 4 104 bc bs [] := hC
  unfold wp_Jx4a65c_grow_92f84 at hq
  show V G Γ 4 0 0 h0 0 [(0, .ref p0), (1, .int p1)] []
  refine V_aload_n hC dJx4a65c_grow_92f84_0 0 rfl ?_
  refine U_getR hC fl_Jx4a65c_9 dJx4a65c_grow_92f84_1 hq (fun v1 hq => ?_)
  refine U_lnA hC dJx4a65c_grow_92f84_4 hq (fun v2 hq => ?_)
  refine V_istore_n (L' := [(0, .ref p0), (1, .int p1), (2, .int v2)]) hC dJx4a65c_grow_92f84_5 rfl (by decide) [1, 2, 0] rfl ?_
  refine V_iload_n hC dJx4a65c_grow_92f84_6 2 rfl ?_
  have hq := hq (V G Γ 4 0 0 h0 20 [(0, .ref p0), (1, .int p1), (2, .int v2)] []) (by
    intro hq
    show V G Γ 4 0 0 h0 20 [(0, .ref p0), (1, .int p1), (2, .int v2)] []
    refine V_iload_n hC dJx4a65c_grow_92f84_20 2 rfl ?_
    refine V_iload_n hC dJx4a65c_grow_92f84_21 1 rfl ?_
    refine V_iload_n hC dJx4a65c_grow_92f84_22 2 rfl ?_
    refine V_isub hC dJx4a65c_grow_92f84_23 ?_
    refine V_iload_n hC dJx4a65c_grow_92f84_24 2 rfl ?_
    refine V_iconst (v := 1) hC dJx4a65c_grow_92f84_25 (by decide) ?_
    refine V_ishr hC dJx4a65c_grow_92f84_26 ?_
    refine clS_J8_newLength_cabcc hG hC ss_Jx4a65c_73 ⟨by decide, by decide⟩ (Nat.le_of_ble_eq_true rfl) ⟨by omega, by omega⟩ dJx4a65c_grow_92f84_27 hq (fun r3 hq => ?_)
    show V G Γ 4 0 0 h0 30 [(0, .ref p0), (1, .int p1), (2, .int v2)] [.int r3]
    refine V_istore_n (L' := [(0, .ref p0), (1, .int p1), (2, .int v2), (3, .int r3)]) hC dJx4a65c_grow_92f84_30 rfl (by decide) [1, 2, 3, 0] rfl ?_
    refine V_aload_n hC dJx4a65c_grow_92f84_31 0 rfl ?_
    refine V_aload_n hC dJx4a65c_grow_92f84_32 0 rfl ?_
    refine U_getR hC fl_Jx4a65c_9 dJx4a65c_grow_92f84_33 hq (fun v4 hq => ?_)
    refine V_iload_n hC dJx4a65c_grow_92f84_36 3 rfl ?_
    obtain ⟨bc5, bs6, hz1, hz2, hq⟩ := hq
    refine clS_J7_copyOf_1904c hG hC ss_Jx4a65c_66 ⟨by decide, by decide⟩ (Nat.le_of_ble_eq_true rfl) ⟨hz1, hz2⟩ dJx4a65c_grow_92f84_37 hq (fun r7 h8 hq => ?_)
    show V G Γ 4 (0 + bc5) (0 + bs6) h8 40 [(0, .ref p0), (1, .int p1), (2, .int v2), (3, .int r3)] [.ref r7, .ref p0]
    refine V_dup_x1 hC dJx4a65c_grow_92f84_40 rfl rfl ?_
    refine U_putO hC (by decide) fl_Jx4a65c_9 fin_Jx4a65c_1 rfl rfl dJx4a65c_grow_92f84_41 hq (fun h9 hq => ?_)
    obtain ⟨hz1, hz2, hq⟩ := hq
    exact V_aret hC hQ rfl (by first | exact Or.inl ⟨_, rfl⟩ | exact Or.inr ⟨_, rfl⟩) ⟨hz1, hz2⟩ dJx4a65c_grow_92f84_44 ⟨_, rfl, hq⟩)
  refine V_if_gt (tgt := 20) hC dJx4a65c_grow_92f84_7 (by decide) (fun hc => ?_) (fun hc => ?_)
  · have hq := hq.1 hc
    exact hq
  · have hq := hq.2 hc
    refine V_aload_n hC dJx4a65c_grow_92f84_10 0 rfl ?_
    refine U_getR hC fl_Jx4a65c_9 dJx4a65c_grow_92f84_11 hq (fun v10 hq => ?_)
    refine U_gst0 hC aw_1_66 dJx4a65c_grow_92f84_14 ?_
    refine U_acmp_eq (tgt := 45) hC dJx4a65c_grow_92f84_17 (by decide) (fun hc => ?_) (fun hc => ?_)
    · have hq := hq.1 hc
      refine V_aload_n hC dJx4a65c_grow_92f84_45 0 rfl ?_
      refine V_bipush (v := 10) hC dJx4a65c_grow_92f84_46 (by decide) ?_
      refine V_iload_n hC dJx4a65c_grow_92f84_48 1 rfl ?_
      refine V_max hC sm_Jx4a65c_79 (by decide) (Nat.le_of_ble_eq_true rfl) (by omega) (by omega) dJx4a65c_grow_92f84_49 ?_
      obtain ⟨hz1, hz2, hq⟩ := hq
      refine U_newaA (room := (bs - 0)) hC aw_3_139 ⟨hz1, by omega⟩ dJx4a65c_grow_92f84_52 hq (fun a11 h12 hq => ?_)
      refine V_dup_x1 hC dJx4a65c_grow_92f84_55 rfl rfl ?_
      refine U_putO hC (by decide) fl_Jx4a65c_9 fin_Jx4a65c_1 rfl rfl dJx4a65c_grow_92f84_56 hq (fun h13 hq => ?_)
      obtain ⟨hz1, hz2, hq⟩ := hq
      exact V_aret hC hQ rfl (by first | exact Or.inl ⟨_, rfl⟩ | exact Or.inr ⟨_, rfl⟩) ⟨hz1, hz2⟩ dJx4a65c_grow_92f84_59 ⟨_, rfl, hq⟩
    · have hq := hq.2 hc
      exact hq
theorem clV_Jx4a65c_grow_92f84 {G : Gx} (hG : GOK G) {Γ : Cx} {own : String} {cc : ByteArray} {nL fr lo mc ms cells slots pc : Nat} {hh : List (Nat × Nat × Nat × Nat)} {h : hw} {L : List (Nat × Value)} {rest : List Value} (hC : COK G Γ own cc nL fr lo mc ms hh) {idx : Nat} (hs : SV own idx yJx4a65c_grow_92f84 cJx4a65c_grow_92f84 4 (some (.array (.object "java/lang/Object"))) 1) {bc bs : Nat} {p0 : Nat} {p1 : Int32} (hR : 4 + 1 ≤ fr ∧ 8 + (4 + 11) + 104 ≤ lo) (hw8 : (rest.map fun v => v.category).sum ≤ 8) (hcs : cells + bc ≤ mc ∧ slots + bs ≤ ms) (hdg : decode cc pc = .ok (.invokevirtual idx, 3)) (ho : isO h p0 14) {post : Nat → hw → Prop} (hq : wp_Jx4a65c_grow_92f84 G p0 p1 h bc bs post) (kk : ∀ (r : Nat) (h1 : hw) , post r h1 → V G Γ nL (cells + bc) (slots + bs) h1 (pc + 3) L (.ref r :: rest)) : V G Γ nL cells slots h pc L (.int p1 :: .ref p0 :: rest) :=
  V_callV (As := [.int p1]) (r9 := (RJx4a65c, TJx4a65c, 3)) hC (ct_Jx4a65c_grow_92f84 hG p0 p1 h bc bs post hq) hs ho rfl rfl rfl hR hw8 hcs hdg (fun E h1 z => z.elim) (fun v h1 z => by obtain ⟨r, rfl, hz⟩ := z; exact kk r h1 hz)
set_option maxRecDepth 100000 in
set_option maxHeartbeats 4000000 in
theorem ct_Jx4a65c_grow_d5877 {G : Gx} (hG : GOK G) (p0 : Nat) (h0 : hw) (bc bs : Nat) (post : Nat → hw → Prop) (hq : wp_Jx4a65c_grow_d5877 G p0 h0 bc bs post) : CT G yJx4a65c_grow_d5877 cJx4a65c_grow_d5877 1 (some (.array (.object "java/lang/Object"))) 5 127 bc bs [.ref p0] h0 (fun v h1 => ∃ r : Nat, v = some (.ref r) ∧ post r h1) (fun E h1 => False) := by
  refine CT_of hG (by decide) (Nat.le_of_ble_eq_true rfl) (fun Γ hC hQ hN => ?_)
  have hC : COK G Γ "java/util/ArrayList" cJx4a65c_grow_d5877 1 5 127 bc bs [] := hC
  unfold wp_Jx4a65c_grow_d5877 at hq
  show V G Γ 1 0 0 h0 0 [(0, .ref p0)] []
  refine V_aload_n hC dJx4a65c_grow_d5877_0 0 rfl ?_
  refine V_aload_n hC dJx4a65c_grow_d5877_1 0 rfl ?_
  refine U_getI hC fl_Jx4a65c_48 dJx4a65c_grow_d5877_2 hq (fun v1 hq => ?_)
  refine V_iconst (v := 1) hC dJx4a65c_grow_d5877_5 (by decide) ?_
  refine V_iadd hC dJx4a65c_grow_d5877_6 ?_
  obtain ⟨bc2, bs3, hz1, hz2, hq⟩ := hq
  obtain ⟨hz, hq⟩ := hq
  refine clV_Jx4a65c_grow_92f84 hG hC sv_Jx4a65c_69 ⟨by decide, by decide⟩ (Nat.le_of_ble_eq_true rfl) ⟨hz1, hz2⟩ dJx4a65c_grow_d5877_7 hz hq (fun r4 h5 hq => ?_)
  show V G Γ 1 (0 + bc2) (0 + bs3) h5 10 [(0, .ref p0)] [.ref r4]
  obtain ⟨hz1, hz2, hq⟩ := hq
  exact V_aret hC hQ rfl (by first | exact Or.inl ⟨_, rfl⟩ | exact Or.inr ⟨_, rfl⟩) ⟨hz1, hz2⟩ dJx4a65c_grow_d5877_10 ⟨_, rfl, hq⟩
theorem clV_Jx4a65c_grow_d5877 {G : Gx} (hG : GOK G) {Γ : Cx} {own : String} {cc : ByteArray} {nL fr lo mc ms cells slots pc : Nat} {hh : List (Nat × Nat × Nat × Nat)} {h : hw} {L : List (Nat × Value)} {rest : List Value} (hC : COK G Γ own cc nL fr lo mc ms hh) {idx : Nat} (hs : SV own idx yJx4a65c_grow_d5877 cJx4a65c_grow_d5877 1 (some (.array (.object "java/lang/Object"))) 0) {bc bs : Nat} {p0 : Nat} (hR : 5 + 1 ≤ fr ∧ 8 + (1 + 11) + 127 ≤ lo) (hw8 : (rest.map fun v => v.category).sum ≤ 8) (hcs : cells + bc ≤ mc ∧ slots + bs ≤ ms) (hdg : decode cc pc = .ok (.invokevirtual idx, 3)) (ho : isO h p0 14) {post : Nat → hw → Prop} (hq : wp_Jx4a65c_grow_d5877 G p0 h bc bs post) (kk : ∀ (r : Nat) (h1 : hw) , post r h1 → V G Γ nL (cells + bc) (slots + bs) h1 (pc + 3) L (.ref r :: rest)) : V G Γ nL cells slots h pc L (.ref p0 :: rest) :=
  V_callV (As := []) (r9 := (RJx4a65c, TJx4a65c, 3)) hC (ct_Jx4a65c_grow_d5877 hG p0 h bc bs post hq) hs ho rfl rfl rfl hR hw8 hcs hdg (fun E h1 z => z.elim) (fun v h1 z => by obtain ⟨r, rfl, hz⟩ := z; exact kk r h1 hz)
set_option maxRecDepth 100000 in
set_option maxHeartbeats 4000000 in
theorem ct_Jx4a65c_add_72be8 {G : Gx} (hG : GOK G) (p0 : Nat) (p1 : Nat) (p2 : Nat) (p3 : Int32) (h0 : hw) (bc bs : Nat) (post : hw → Prop) (hq : wp_Jx4a65c_add_72be8 G p0 p1 p2 p3 h0 bc bs post) : CT G yJx4a65c_add_72be8 cJx4a65c_add_72be8 4 none 6 147 bc bs [.ref p0, .ref p1, .ref p2, .int p3] h0 (fun v h1 => v = none ∧ post h1) (fun E h1 => False) := by
  refine CT_of hG (by decide) (Nat.le_of_ble_eq_true rfl) (fun Γ hC hQ hN => ?_)
  have hC : COK G Γ "java/util/ArrayList" cJx4a65c_add_72be8 4 6 147 bc bs [] := hC
  unfold wp_Jx4a65c_add_72be8 at hq
  show V G Γ 4 0 0 h0 0 [(0, .ref p0), (1, .ref p1), (2, .ref p2), (3, .int p3)] []
  refine V_iload_n hC dJx4a65c_add_72be8_0 3 rfl ?_
  refine V_aload_n hC dJx4a65c_add_72be8_1 2 rfl ?_
  refine U_lnA hC dJx4a65c_add_72be8_2 hq (fun v1 hq => ?_)
  have hq := hq (fun (x2_2 : Nat) (h3 : hw) (uc4 : Nat) (us5 : Nat) => uc4 ≤ bc → us5 ≤ bs → V G Γ 4 uc4 us5 h3 11 [(0, .ref p0), (1, .ref p1), (2, .ref x2_2), (3, .int p3)] []) (by
    intro x2_2 h3 uc4 us5 hq hu1 hu2
    show V G Γ 4 uc4 us5 h3 11 [(0, .ref p0), (1, .ref p1), (2, .ref x2_2), (3, .int p3)] []
    refine V_aload_n hC dJx4a65c_add_72be8_11 2 rfl ?_
    refine V_iload_n hC dJx4a65c_add_72be8_12 3 rfl ?_
    refine V_aload_n hC dJx4a65c_add_72be8_13 1 rfl ?_
    refine U_stA hC dJx4a65c_add_72be8_14 hq (fun h6 hq => ?_)
    refine V_aload_n hC dJx4a65c_add_72be8_15 0 rfl ?_
    refine V_iload_n hC dJx4a65c_add_72be8_16 3 rfl ?_
    refine V_iconst (v := 1) hC dJx4a65c_add_72be8_17 (by decide) ?_
    refine V_iadd hC dJx4a65c_add_72be8_18 ?_
    refine U_putO hC (by decide) fl_Jx4a65c_48 fin_Jx4a65c_2 rfl rfl dJx4a65c_add_72be8_19 hq (fun h7 hq => ?_)
    obtain ⟨hz1, hz2, hq⟩ := hq
    exact V_vret hC hQ ⟨hz1, hz2⟩ dJx4a65c_add_72be8_22 ⟨rfl, hq⟩)
  refine V_icmp_ne (tgt := 11) hC dJx4a65c_add_72be8_3 (by decide) (fun hc => ?_) (fun hc => ?_)
  · have hq := hq.1 hc
    exact hq (by omega) (by omega)
  · have hq := hq.2 hc
    refine V_aload_n hC dJx4a65c_add_72be8_6 0 rfl ?_
    obtain ⟨bc8, bs9, hz1, hz2, hq⟩ := hq
    obtain ⟨hz, hq⟩ := hq
    refine clV_Jx4a65c_grow_d5877 hG hC sv_Jx4a65c_129 ⟨by decide, by decide⟩ (Nat.le_of_ble_eq_true rfl) ⟨hz1, hz2⟩ dJx4a65c_add_72be8_7 hz hq (fun r10 h11 hq => ?_)
    show V G Γ 4 (0 + bc8) (0 + bs9) h11 10 [(0, .ref p0), (1, .ref p1), (2, .ref p2), (3, .int p3)] [.ref r10]
    refine V_astore_n (L' := [(0, .ref p0), (1, .ref p1), (2, .ref r10), (3, .int p3)]) hC dJx4a65c_add_72be8_10 rfl (by decide) [1, 2, 0, 3] rfl ?_
    exact hq (by omega) (by omega)
theorem clV_Jx4a65c_add_72be8 {G : Gx} (hG : GOK G) {Γ : Cx} {own : String} {cc : ByteArray} {nL fr lo mc ms cells slots pc : Nat} {hh : List (Nat × Nat × Nat × Nat)} {h : hw} {L : List (Nat × Value)} {rest : List Value} (hC : COK G Γ own cc nL fr lo mc ms hh) {idx : Nat} (hs : SV own idx yJx4a65c_add_72be8 cJx4a65c_add_72be8 4 none 3) {bc bs : Nat} {p0 : Nat} {p1 : Nat} {p2 : Nat} {p3 : Int32} (hR : 6 + 1 ≤ fr ∧ 8 + (4 + 11) + 147 ≤ lo) (hw8 : (rest.map fun v => v.category).sum ≤ 8) (hcs : cells + bc ≤ mc ∧ slots + bs ≤ ms) (hdg : decode cc pc = .ok (.invokevirtual idx, 3)) (ho : isO h p0 14) {post : hw → Prop} (hq : wp_Jx4a65c_add_72be8 G p0 p1 p2 p3 h bc bs post) (kk : ∀ (h1 : hw) , post h1 → V G Γ nL (cells + bc) (slots + bs) h1 (pc + 3) L (rest)) : V G Γ nL cells slots h pc L (.int p3 :: .ref p2 :: .ref p1 :: .ref p0 :: rest) :=
  V_callV (As := [.ref p1, .ref p2, .int p3]) (r9 := (RJx4a65c, TJx4a65c, 3)) hC (ct_Jx4a65c_add_72be8 hG p0 p1 p2 p3 h bc bs post hq) hs ho rfl rfl rfl hR hw8 hcs hdg (fun E h1 z => z.elim) (fun v h1 z => by obtain ⟨rfl, hz⟩ := z; exact kk h1 hz)
set_option maxRecDepth 100000 in
set_option maxHeartbeats 4000000 in
theorem ct_Jx4a65c_add_9ea2d {G : Gx} (hG : GOK G) (p0 : Nat) (p1 : Nat) (h0 : hw) (bc bs : Nat) (post : Int32 → hw → Prop) (hq : wp_Jx4a65c_add_9ea2d G p0 p1 h0 bc bs post) : CT G yJx4a65c_add_9ea2d cJx4a65c_add_9ea2d 2 (some .boolean) 7 170 bc bs [.ref p0, .ref p1] h0 (fun v h1 => ∃ r : Int32, v = some (.int r) ∧ post r h1) (fun E h1 => False) := by
  refine CT_of hG (by decide) (Nat.le_of_ble_eq_true rfl) (fun Γ hC hQ hN => ?_)
  have hC : COK G Γ "java/util/ArrayList" cJx4a65c_add_9ea2d 2 7 170 bc bs [] := hC
  unfold wp_Jx4a65c_add_9ea2d at hq
  show V G Γ 2 0 0 h0 0 [(0, .ref p0), (1, .ref p1)] []
  refine V_aload_n hC dJx4a65c_add_9ea2d_0 0 rfl ?_
  refine V_dup hC dJx4a65c_add_9ea2d_1 rfl ?_
  refine U_getI hC fl_Jx4a65c_63 dJx4a65c_add_9ea2d_2 hq (fun v1 hq => ?_)
  refine V_iconst (v := 1) hC dJx4a65c_add_9ea2d_5 (by decide) ?_
  refine V_iadd hC dJx4a65c_add_9ea2d_6 ?_
  refine U_putO hC (by decide) fl_Jx4a65c_63 fin_Jx4a65c_0 rfl rfl dJx4a65c_add_9ea2d_7 hq (fun h2 hq => ?_)
  refine V_aload_n hC dJx4a65c_add_9ea2d_10 0 rfl ?_
  refine V_aload_n hC dJx4a65c_add_9ea2d_11 1 rfl ?_
  refine V_aload_n hC dJx4a65c_add_9ea2d_12 0 rfl ?_
  refine U_getR hC fl_Jx4a65c_9 dJx4a65c_add_9ea2d_13 hq (fun v3 hq => ?_)
  refine V_aload_n hC dJx4a65c_add_9ea2d_16 0 rfl ?_
  refine U_getI hC fl_Jx4a65c_48 dJx4a65c_add_9ea2d_17 hq (fun v4 hq => ?_)
  obtain ⟨bc5, bs6, hz1, hz2, hq⟩ := hq
  obtain ⟨hz, hq⟩ := hq
  refine clV_Jx4a65c_add_72be8 hG hC sv_Jx4a65c_131 ⟨by decide, by decide⟩ (Nat.le_of_ble_eq_true rfl) ⟨hz1, hz2⟩ dJx4a65c_add_9ea2d_20 hz hq (fun h7 hq => ?_)
  show V G Γ 2 (0 + bc5) (0 + bs6) h7 23 [(0, .ref p0), (1, .ref p1)] []
  refine V_iconst (v := 1) hC dJx4a65c_add_9ea2d_23 (by decide) ?_
  obtain ⟨hz1, hz2, hq⟩ := hq
  exact V_iret hC hQ rfl rfl ⟨hz1, hz2⟩ dJx4a65c_add_9ea2d_24 ⟨_, rfl, hq⟩
theorem clV_Jx4a65c_add_9ea2d {G : Gx} (hG : GOK G) {Γ : Cx} {own : String} {cc : ByteArray} {nL fr lo mc ms cells slots pc : Nat} {hh : List (Nat × Nat × Nat × Nat)} {h : hw} {L : List (Nat × Value)} {rest : List Value} (hC : COK G Γ own cc nL fr lo mc ms hh) {idx : Nat} (hs : SV own idx yJx4a65c_add_9ea2d cJx4a65c_add_9ea2d 2 (some .boolean) 1) {bc bs : Nat} {p0 : Nat} {p1 : Nat} (hR : 7 + 1 ≤ fr ∧ 8 + (2 + 11) + 170 ≤ lo) (hw8 : (rest.map fun v => v.category).sum ≤ 8) (hcs : cells + bc ≤ mc ∧ slots + bs ≤ ms) (hdg : decode cc pc = .ok (.invokevirtual idx, 3)) (ho : isO h p0 14) {post : Int32 → hw → Prop} (hq : wp_Jx4a65c_add_9ea2d G p0 p1 h bc bs post) (kk : ∀ (r : Int32) (h1 : hw) , post r h1 → V G Γ nL (cells + bc) (slots + bs) h1 (pc + 3) L (.int r :: rest)) : V G Γ nL cells slots h pc L (.ref p1 :: .ref p0 :: rest) :=
  V_callV (As := [.ref p1]) (r9 := (RJx4a65c, TJx4a65c, 3)) hC (ct_Jx4a65c_add_9ea2d hG p0 p1 h bc bs post hq) hs ho rfl rfl rfl hR hw8 hcs hdg (fun E h1 z => z.elim) (fun v h1 z => by obtain ⟨r, rfl, hz⟩ := z; exact kk r h1 hz)
set_option maxRecDepth 100000 in
set_option maxHeartbeats 4000000 in
theorem ct_X3_found {G : Gx} (hG : GOK G) (p0 : Nat) (p1 : Nat) (h0 : hw) (post : Int32 → hw → Prop) (hq : wp_X3_found G p0 p1 h0 post) : CT G yX3_found cX3_found 2 (some .int) 8 191 1 10 [.ref p0, .ref p1] h0 (fun v h1 => ∃ r : Int32, v = some (.int r) ∧ post r h1) (fun E h1 => False) := by
  refine CT_of hG (by decide) (Nat.le_of_ble_eq_true rfl) (fun Γ hC hQ hN => ?_)
  have hC : COK G Γ "Bandplan$Land" cX3_found 2 8 191 1 10 [] := hC
  unfold wp_X3_found at hq
  show V G Γ 2 0 0 h0 0 [(0, .ref p0), (1, .ref p1)] []
  refine V_aload_n hC dX3_found_0 0 rfl ?_
  refine U_getR hC fl_X3_12 dX3_found_1 hq (fun v1 hq => ?_)
  refine V_aload_n hC dX3_found_4 1 rfl ?_
  obtain ⟨hz, hq⟩ := hq
  refine clV_Jx4a65c_add_9ea2d hG hC sv_X3_40 ⟨by decide, by decide⟩ (Nat.le_of_ble_eq_true rfl) ⟨by decide, by decide⟩ dX3_found_5 hz hq (fun r2 h3 hq => ?_)
  show V G Γ 2 1 10 h3 8 [(0, .ref p0), (1, .ref p1)] [.int r2]
  refine V_pop hC dX3_found_8 rfl ?_
  refine V_aload_n hC dX3_found_9 0 rfl ?_
  obtain ⟨hz, hq⟩ := hq
  refine clV_X3_measureAll hG hC sv_X3_37 ⟨by decide, by decide⟩ (Nat.le_of_ble_eq_true rfl) ⟨by decide, by decide⟩ dX3_found_10 hz hq (fun h4 hq => ?_)
  show V G Γ 2 1 10 h4 13 [(0, .ref p0), (1, .ref p1)] []
  refine V_aload_n hC dX3_found_13 0 rfl ?_
  refine U_getR hC fl_X3_12 dX3_found_14 hq (fun v5 hq => ?_)
  obtain ⟨hz, hq⟩ := hq
  refine clV_Jx4a65c_size_8abf5 hG hC sv_X3_44 ⟨by decide, by decide⟩ (Nat.le_of_ble_eq_true rfl) ⟨by decide, by decide⟩ dX3_found_17 hz hq (fun r6 hq => ?_)
  show V G Γ 2 1 10 h4 20 [(0, .ref p0), (1, .ref p1)] [.int r6]
  refine V_iconst (v := 1) hC dX3_found_20 (by decide) ?_
  refine V_isub hC dX3_found_21 ?_
  exact V_iret hC hQ rfl rfl ⟨by decide, by decide⟩ dX3_found_22 ⟨_, rfl, hq⟩
theorem clV_X3_found {G : Gx} (hG : GOK G) {Γ : Cx} {own : String} {cc : ByteArray} {nL fr lo mc ms cells slots pc : Nat} {hh : List (Nat × Nat × Nat × Nat)} {h : hw} {L : List (Nat × Value)} {rest : List Value} (hC : COK G Γ own cc nL fr lo mc ms hh) {idx : Nat} (hs : SV own idx yX3_found cX3_found 2 (some .int) 1) {p0 : Nat} {p1 : Nat} (hR : 8 + 1 ≤ fr ∧ 8 + (2 + 11) + 191 ≤ lo) (hw8 : (rest.map fun v => v.category).sum ≤ 8) (hcs : cells + 1 ≤ mc ∧ slots + 10 ≤ ms) (hdg : decode cc pc = .ok (.invokevirtual idx, 3)) (ho : isO h p0 3) {post : Int32 → hw → Prop} (hq : wp_X3_found G p0 p1 h post) (kk : ∀ (r : Int32) (h1 : hw) , post r h1 → V G Γ nL (cells + 1) (slots + 10) h1 (pc + 3) L (.int r :: rest)) : V G Γ nL cells slots h pc L (.ref p1 :: .ref p0 :: rest) :=
  V_callV (As := [.ref p1]) (r9 := (RX3, TX3, 3)) hC (ct_X3_found hG p0 p1 h post hq) hs ho rfl rfl rfl hR hw8 hcs hdg (fun E h1 z => z.elim) (fun v h1 z => by obtain ⟨r, rfl, hz⟩ := z; exact kk r h1 hz)
set_option maxRecDepth 100000 in
set_option maxHeartbeats 4000000 in
theorem ct_X4_init {G : Gx} (hG : GOK G) (p0 : Nat) (h0 : hw) (post : hw → Prop) (hq : wp_X4_init G p0 h0 post) : CT G yX4_init cX4_init 1 none 3 83 2 9 [.ref p0] h0 (fun v h1 => v = none ∧ post h1) (fun E h1 => False) := by
  refine CT_of hG (by decide) (Nat.le_of_ble_eq_true rfl) (fun Γ hC hQ hN => ?_)
  have hC : COK G Γ "Bandplan$Moving" cX4_init 1 3 83 2 9 [] := hC
  have hin := HIN hN rfl
  unfold wp_X4_init at hq
  show V G Γ 1 0 0 h0 0 [(0, .ref p0)] []
  refine V_aload_n hC dX4_init_0 0 rfl ?_
  refine V_objInit hC so_X4_3 (by decide) (Nat.le_of_ble_eq_true rfl) dX4_init_1 ?_
  refine V_aload_n hC dX4_init_4 0 rfl ?_
  refine U_new hC no_X4_9 ⟨by decide, by decide⟩ dX4_init_5 hq (fun a1 h2 hq => ?_)
  refine V_dup hC dX4_init_8 rfl ?_
  refine V_bipush (v := 8) hC dX4_init_9 (by decide) ?_
  refine V_iconst (v := (-1)) hC dX4_init_11 (by decide) ?_
  refine clI_X7_init hG hC si_X4_11 ⟨by decide, by decide⟩ (Nat.le_of_ble_eq_true rfl) ⟨by decide, by decide⟩ dX4_init_12 hq (fun h3 hq => ?_)
  show V G Γ 1 2 9 h3 15 [(0, .ref p0)] [.ref a1, .ref p0]
  refine U_putF hC (Or.inl (by decide)) fl_X4_14 fin_X4_0 hin rfl rfl dX4_init_15 hq (fun h4 hq => ?_)
  exact V_vret hC hQ ⟨by decide, by decide⟩ dX4_init_18 ⟨rfl, hq⟩
theorem clIN_X4_init {G : Gx} (hG : GOK G) {Γ : Cx} {own : String} {cc : ByteArray} {nL fr lo mc ms cells slots pc : Nat} {hh : List (Nat × Nat × Nat × Nat)} {h : hw} {L : List (Nat × Value)} {rest : List Value} (hC : COK G Γ own cc nL fr lo mc ms hh) {idx : Nat} {host : String} (hs : SIN own idx yX4_init host cX4_init 1 0) {p0 : Nat} (hR : 3 + 1 ≤ fr ∧ 8 + (1 + 11) + 83 ≤ lo) (hw8 : (rest.map fun v => v.category).sum ≤ 8) (hcs : cells + 2 ≤ mc ∧ slots + 9 ≤ ms) (hdg : decode cc pc = .ok (.invokespecial idx, 3)) {post : hw → Prop} (hq : wp_X4_init G p0 h post) (kk : ∀ (h1 : hw) , post h1 → V G Γ nL (cells + 2) (slots + 9) h1 (pc + 3) L (rest)) : V G Γ nL cells slots h pc L (.ref p0 :: rest) :=
  V_callIN (As := []) hC (ct_X4_init hG p0 h post hq) hs rfl hR hw8 hcs hdg (fun E h1 z => z.elim) (fun v h1 z => by obtain ⟨rfl, hz⟩ := z; exact kk h1 hz)
set_option maxRecDepth 100000 in
set_option maxHeartbeats 4000000 in
theorem ct_X11_isIn {G : Gx} (hG : GOK G) (p0 : Int32) (p1 : Int32) (h0 : hw) (post : Int32 → Prop) (hq : wp_X11_isIn G p0 p1 h0 post) : CT G yX11_isIn cX11_isIn 2 (some .boolean) 1 30 0 0 [.int p0, .int p1] h0 (fun v h1 => ∃ r : Int32, v = some (.int r) ∧ h1 = h0 ∧ post r) (fun E h1 => False) := by
  refine CT_of hG (by decide) (Nat.le_of_ble_eq_true rfl) (fun Γ hC hQ hN => ?_)
  have hC : COK G Γ "Bandplan" cX11_isIn 2 1 30 0 0 [] := hC
  unfold wp_X11_isIn at hq
  show V G Γ 2 0 0 h0 0 [(0, .int p0), (1, .int p1)] []
  refine V_iload_n hC dX11_isIn_0 1 rfl ?_
  refine V_iload_n hC dX11_isIn_1 0 rfl ?_
  refine V_ishr hC dX11_isIn_2 ?_
  refine V_iconst (v := 1) hC dX11_isIn_3 (by decide) ?_
  refine V_iand hC dX11_isIn_4 ?_
  refine V_iconst (v := 1) hC dX11_isIn_5 (by decide) ?_
  refine V_icmp_ne (tgt := 13) hC dX11_isIn_6 (by decide) (fun hc => ?_) (fun hc => ?_)
  · have hq := hq.1 hc
    refine V_iconst (v := 0) hC dX11_isIn_13 (by decide) ?_
    exact V_iret hC hQ rfl rfl ⟨by decide, by decide⟩ dX11_isIn_14 ⟨_, rfl, rfl, hq⟩
  · have hq := hq.2 hc
    refine V_iconst (v := 1) hC dX11_isIn_9 (by decide) ?_
    refine V_goto (tgt := 14) hC dX11_isIn_10 (by decide) ?_
    exact V_iret hC hQ rfl rfl ⟨by decide, by decide⟩ dX11_isIn_14 ⟨_, rfl, rfl, hq⟩
theorem clS_X11_isIn {G : Gx} (hG : GOK G) {Γ : Cx} {own : String} {cc : ByteArray} {nL fr lo mc ms cells slots pc : Nat} {hh : List (Nat × Nat × Nat × Nat)} {h : hw} {L : List (Nat × Value)} {rest : List Value} (hC : COK G Γ own cc nL fr lo mc ms hh) {idx : Nat} (hs : SS own idx yX11_isIn cX11_isIn 2 (some .boolean) 2) {p0 : Int32} {p1 : Int32} (hR : 1 + 1 ≤ fr ∧ 8 + (2 + 11) + 30 ≤ lo) (hw8 : (rest.map fun v => v.category).sum ≤ 8) (hcs : cells + 0 ≤ mc ∧ slots + 0 ≤ ms) (hdg : decode cc pc = .ok (.invokestatic idx, 3)) {post : Int32 → Prop} (hq : wp_X11_isIn G p0 p1 h post) (kk : ∀ (r : Int32) , post r → V G Γ nL (cells + 0) (slots + 0) h (pc + 3) L (.int r :: rest)) : V G Γ nL cells slots h pc L (.int p1 :: .int p0 :: rest) :=
  V_callS (As := [.int p0, .int p1]) hC (ct_X11_isIn hG p0 p1 h post hq) hs rfl hR hw8 hcs hdg (fun E h1 z => z.elim) (fun v h1 z => by obtain ⟨r, rfl, rfl, hz⟩ := z; exact kk r hz)
theorem clSN_X11_isIn {G : Gx} (hG : GOK G) {Γ : Cx} {own : String} {cc : ByteArray} {nL fr lo mc ms cells slots pc : Nat} {hh : List (Nat × Nat × Nat × Nat)} {h : hw} {L : List (Nat × Value)} {rest : List Value} (hC : COK G Γ own cc nL fr lo mc ms hh) {idx : Nat} {host : String} (hs : SSN own idx yX11_isIn host cX11_isIn 2 (some .boolean) 2) {p0 : Int32} {p1 : Int32} (hR : 1 + 1 ≤ fr ∧ 8 + (2 + 11) + 30 ≤ lo) (hw8 : (rest.map fun v => v.category).sum ≤ 8) (hcs : cells + 0 ≤ mc ∧ slots + 0 ≤ ms) (hdg : decode cc pc = .ok (.invokestatic idx, 3)) {post : Int32 → Prop} (hq : wp_X11_isIn G p0 p1 h post) (kk : ∀ (r : Int32) , post r → V G Γ nL (cells + 0) (slots + 0) h (pc + 3) L (.int r :: rest)) : V G Γ nL cells slots h pc L (.int p1 :: .int p0 :: rest) :=
  V_callSN (As := [.int p0, .int p1]) hC (ct_X11_isIn hG p0 p1 h post hq) hs rfl hR hw8 hcs hdg (fun E h1 z => z.elim) (fun v h1 z => by obtain ⟨r, rfl, rfl, hz⟩ := z; exact kk r hz)
set_option maxRecDepth 100000 in
set_option maxHeartbeats 4000000 in
theorem ct_X4_begin {G : Gx} (hG : GOK G) (p0 : Nat) (p1 : Int32) (p2 : Nat) (p3 : Nat) (h0 : hw) (post : hw → Prop) (hq : wp_X4_begin G p0 p1 p2 p3 h0 post) : CT G yX4_begin cX4_begin 5 none 2 52 0 0 [.ref p0, .int p1, .ref p2, .ref p3] h0 (fun v h1 => v = none ∧ post h1) (fun E h1 => False) := by
  refine CT_of hG (by decide) (Nat.le_of_ble_eq_true rfl) (fun Γ hC hQ hN => ?_)
  have hC : COK G Γ "Bandplan$Moving" cX4_begin 5 2 52 0 0 [] := hC
  unfold wp_X4_begin at hq
  show V G Γ 5 0 0 h0 0 [(0, .ref p0), (1, .int p1), (2, .ref p2), (3, .ref p3)] []
  refine V_aload_n hC dX4_begin_0 0 rfl ?_
  refine V_iconst (v := 1) hC dX4_begin_1 (by decide) ?_
  refine U_putO hC (by decide) fl_X4_20 fin_X4_1 rfl rfl dX4_begin_2 hq (fun h1 hq => ?_)
  refine V_aload_n hC dX4_begin_5 0 rfl ?_
  refine V_iconst (v := 0) hC dX4_begin_6 (by decide) ?_
  refine U_putO hC (by decide) fl_X4_24 fin_X4_2 rfl rfl dX4_begin_7 hq (fun h2 hq => ?_)
  refine V_aload_n hC dX4_begin_10 0 rfl ?_
  refine V_iload_n hC dX4_begin_11 1 rfl ?_
  refine U_putO hC (by decide) fl_X4_28 fin_X4_3 rfl rfl dX4_begin_12 hq (fun h3 hq => ?_)
  refine V_aload_n hC dX4_begin_15 0 rfl ?_
  refine U_getR hC fl_X4_14 dX4_begin_16 hq (fun v4 hq => ?_)
  refine V_iconst (v := (-1)) hC dX4_begin_19 (by decide) ?_
  obtain ⟨hz, hq⟩ := hq
  refine clV_X7_fillWith hG hC sv_X4_31 ⟨by decide, by decide⟩ (Nat.le_of_ble_eq_true rfl) ⟨by decide, by decide⟩ dX4_begin_20 hz hq (fun h5 hq => ?_)
  show V G Γ 5 0 0 h5 23 [(0, .ref p0), (1, .int p1), (2, .ref p2), (3, .ref p3)] []
  refine V_iconst (v := 0) hC dX4_begin_23 (by decide) ?_
  refine V_istore (L' := [(0, .ref p0), (1, .int p1), (2, .ref p2), (3, .ref p3), (4, .int 0)]) hC dX4_begin_24 (by decide) [1, 2, 3, 4, 0] rfl ?_
  have hq := hq (fun (x4_6 : Int32) (h7 : hw) => V G Γ 5 0 0 h7 26 [(0, .ref p0), (1, .int p1), (2, .ref p2), (3, .ref p3), (4, .int x4_6)] []) (by
    intro x4_6 h7 hq
    show V G Γ 5 0 0 h7 26 [(0, .ref p0), (1, .int p1), (2, .ref p2), (3, .ref p3), (4, .int x4_6)] []
    refine V_iload hC dX4_begin_26 4 rfl ?_
    refine V_bipush (v := 8) hC dX4_begin_28 (by decide) ?_
    refine V_icmp_ge (tgt := 94) hC dX4_begin_30 (by decide) (fun hc => ?_) (fun hc => ?_)
    · have hq := hq.1 hc
      exact V_vret hC hQ ⟨by decide, by decide⟩ dX4_begin_94 ⟨rfl, hq⟩
    · have hq := hq.2 hc
      refine V_iload hC dX4_begin_33 4 rfl ?_
      refine V_iload_n hC dX4_begin_35 1 rfl ?_
      refine clSN_X11_isIn hG hC ssn_X4_35 ⟨by decide, by decide⟩ (Nat.le_of_ble_eq_true rfl) ⟨by decide, by decide⟩ dX4_begin_36 hq (fun r8 hq => ?_)
      show V G Γ 5 0 0 h7 39 [(0, .ref p0), (1, .int p1), (2, .ref p2), (3, .ref p3), (4, .int x4_6)] [.int r8]
      have hq := hq (fun (h9 : hw) => V G Γ 5 0 0 h9 88 [(0, .ref p0), (1, .int p1), (2, .ref p2), (3, .ref p3), (4, .int x4_6)] []) (by
        intro h9 hq
        show V G Γ 5 0 0 h9 88 [(0, .ref p0), (1, .int p1), (2, .ref p2), (3, .ref p3), (4, .int x4_6)] []
        refine V_iinc (j := 4) (v := (x4_6 + 1)) (L' := [(0, .ref p0), (1, .int p1), (2, .ref p2), (3, .ref p3), (4, .int (x4_6 + 1))]) hC dX4_begin_88 rfl rfl (by decide) [1, 2, 3, 4, 0] rfl ?_
        refine V_goto (tgt := 26) hC dX4_begin_91 (by decide) ?_
        exact hq)
      refine V_if_eq (tgt := 88) hC dX4_begin_39 (by decide) (fun hc => ?_) (fun hc => ?_)
      · have hq := hq.1 hc
        exact hq
      · have hq := hq.2 hc
        refine V_aload_n hC dX4_begin_42 3 rfl ?_
        refine U_getR hC fl_X4_39 dX4_begin_43 hq (fun v10 hq => ?_)
        refine V_iload hC dX4_begin_46 4 rfl ?_
        obtain ⟨hz, hq⟩ := hq
        refine clV_X7_at hG hC sv_X4_44 ⟨by decide, by decide⟩ (Nat.le_of_ble_eq_true rfl) ⟨by decide, by decide⟩ dX4_begin_48 hz hq (fun r11 hq => ?_)
        show V G Γ 5 0 0 h7 51 [(0, .ref p0), (1, .int p1), (2, .ref p2), (3, .ref p3), (4, .int x4_6)] [.int r11]
        refine V_aload_n hC dX4_begin_51 2 rfl ?_
        refine U_getR hC fl_X4_48 dX4_begin_52 hq (fun v12 hq => ?_)
        refine V_iload hC dX4_begin_55 4 rfl ?_
        obtain ⟨hz, hq⟩ := hq
        refine clV_X7_at hG hC sv_X4_44 ⟨by decide, by decide⟩ (Nat.le_of_ble_eq_true rfl) ⟨by decide, by decide⟩ dX4_begin_57 hz hq (fun r13 hq => ?_)
        show V G Γ 5 0 0 h7 60 [(0, .ref p0), (1, .int p1), (2, .ref p2), (3, .ref p3), (4, .int x4_6)] [.int r13, .int r11]
        refine V_icmp_ne (tgt := 88) hC dX4_begin_60 (by decide) (fun hc => ?_) (fun hc => ?_)
        · have hq := hq.1 hc
          exact hq
        · have hq := hq.2 hc
          refine V_aload_n hC dX4_begin_63 0 rfl ?_
          refine U_getR hC fl_X4_14 dX4_begin_64 hq (fun v14 hq => ?_)
          refine V_iload hC dX4_begin_67 4 rfl ?_
          refine V_iconst (v := 0) hC dX4_begin_69 (by decide) ?_
          obtain ⟨hz, hq⟩ := hq
          refine clV_X7_put hG hC sv_X4_53 ⟨by decide, by decide⟩ (Nat.le_of_ble_eq_true rfl) ⟨by decide, by decide⟩ dX4_begin_70 hz hq (fun h15 hq => ?_)
          show V G Γ 5 0 0 h15 73 [(0, .ref p0), (1, .int p1), (2, .ref p2), (3, .ref p3), (4, .int x4_6)] []
          refine V_aload_n hC dX4_begin_73 0 rfl ?_
          refine V_dup hC dX4_begin_74 rfl ?_
          refine U_getI hC fl_X4_28 dX4_begin_75 hq (fun v16 hq => ?_)
          refine V_iconst (v := 1) hC dX4_begin_78 (by decide) ?_
          refine V_iload hC dX4_begin_79 4 rfl ?_
          refine V_ishl hC dX4_begin_81 ?_
          refine V_iconst (v := (-1)) hC dX4_begin_82 (by decide) ?_
          refine V_ixor hC dX4_begin_83 ?_
          refine V_iand hC dX4_begin_84 ?_
          refine U_putO hC (by decide) fl_X4_28 fin_X4_3 rfl rfl dX4_begin_85 hq (fun h17 hq => ?_)
          exact hq)
  exact hq
theorem clV_X4_begin {G : Gx} (hG : GOK G) {Γ : Cx} {own : String} {cc : ByteArray} {nL fr lo mc ms cells slots pc : Nat} {hh : List (Nat × Nat × Nat × Nat)} {h : hw} {L : List (Nat × Value)} {rest : List Value} (hC : COK G Γ own cc nL fr lo mc ms hh) {idx : Nat} (hs : SV own idx yX4_begin cX4_begin 5 none 3) {p0 : Nat} {p1 : Int32} {p2 : Nat} {p3 : Nat} (hR : 2 + 1 ≤ fr ∧ 8 + (5 + 11) + 52 ≤ lo) (hw8 : (rest.map fun v => v.category).sum ≤ 8) (hcs : cells + 0 ≤ mc ∧ slots + 0 ≤ ms) (hdg : decode cc pc = .ok (.invokevirtual idx, 3)) (ho : isO h p0 4) {post : hw → Prop} (hq : wp_X4_begin G p0 p1 p2 p3 h post) (kk : ∀ (h1 : hw) , post h1 → V G Γ nL (cells + 0) (slots + 0) h1 (pc + 3) L (rest)) : V G Γ nL cells slots h pc L (.ref p3 :: .ref p2 :: .int p1 :: .ref p0 :: rest) :=
  V_callV (As := [.int p1, .ref p2, .ref p3]) (r9 := (RX4, TX4, 4)) hC (ct_X4_begin hG p0 p1 p2 p3 h post hq) hs ho rfl rfl rfl hR hw8 hcs hdg (fun E h1 z => z.elim) (fun v h1 z => by obtain ⟨rfl, hz⟩ := z; exact kk h1 hz)
set_option maxRecDepth 100000 in
set_option maxHeartbeats 4000000 in
theorem ct_X5_areTooNear {G : Gx} (hG : GOK G) (p0 : Nat) (p1 : Int32) (p2 : Int32) (p3 : Int32) (p4 : Int32) (h0 : hw) (post : Int32 → Prop) (hq : wp_X5_areTooNear G p0 p1 p2 p3 p4 h0 post) : CT G yX5_areTooNear cX5_areTooNear 5 (some .boolean) 2 60 0 0 [.ref p0, .int p1, .int p2, .int p3, .int p4] h0 (fun v h1 => ∃ r : Int32, v = some (.int r) ∧ h1 = h0 ∧ post r) (fun E h1 => False) := by
  refine CT_of hG (by decide) (Nat.le_of_ble_eq_true rfl) (fun Γ hC hQ hN => ?_)
  have hC : COK G Γ "Bandplan$Packer" cX5_areTooNear 5 2 60 0 0 [] := hC
  unfold wp_X5_areTooNear at hq
  show V G Γ 5 0 0 h0 0 [(0, .ref p0), (1, .int p1), (2, .int p2), (3, .int p3), (4, .int p4)] []
  refine V_iload_n hC dX5_areTooNear_0 2 rfl ?_
  refine V_iload hC dX5_areTooNear_1 4 rfl ?_
  refine V_isub hC dX5_areTooNear_3 ?_
  refine V_abs hC sm_X5_59 (by decide) (Nat.le_of_ble_eq_true rfl) (by decide) (by decide) dX5_areTooNear_4 ?_
  refine V_aload_n hC dX5_areTooNear_7 0 rfl ?_
  refine U_getR hC fl_X5_20 dX5_areTooNear_8 hq (fun v1 hq => ?_)
  refine V_iload_n hC dX5_areTooNear_11 1 rfl ?_
  refine V_bipush (v := 8) hC dX5_areTooNear_12 (by decide) ?_
  refine V_imul hC dX5_areTooNear_14 ?_
  refine V_iload_n hC dX5_areTooNear_15 3 rfl ?_
  refine V_iadd hC dX5_areTooNear_16 ?_
  obtain ⟨hz, hq⟩ := hq
  refine clV_X7_at hG hC sv_X5_65 ⟨by decide, by decide⟩ (Nat.le_of_ble_eq_true rfl) ⟨by decide, by decide⟩ dX5_areTooNear_17 hz hq (fun r2 hq => ?_)
  show V G Γ 5 0 0 h0 20 [(0, .ref p0), (1, .int p1), (2, .int p2), (3, .int p3), (4, .int p4)] [.int r2, .int (jabs (p2 - p4))]
  refine V_icmp_ge (tgt := 27) hC dX5_areTooNear_20 (by decide) (fun hc => ?_) (fun hc => ?_)
  · have hq := hq.1 hc
    refine V_iconst (v := 0) hC dX5_areTooNear_27 (by decide) ?_
    exact V_iret hC hQ rfl rfl ⟨by decide, by decide⟩ dX5_areTooNear_28 ⟨_, rfl, rfl, hq⟩
  · have hq := hq.2 hc
    refine V_iconst (v := 1) hC dX5_areTooNear_23 (by decide) ?_
    refine V_goto (tgt := 28) hC dX5_areTooNear_24 (by decide) ?_
    exact V_iret hC hQ rfl rfl ⟨by decide, by decide⟩ dX5_areTooNear_28 ⟨_, rfl, rfl, hq⟩
theorem clV_X5_areTooNear {G : Gx} (hG : GOK G) {Γ : Cx} {own : String} {cc : ByteArray} {nL fr lo mc ms cells slots pc : Nat} {hh : List (Nat × Nat × Nat × Nat)} {h : hw} {L : List (Nat × Value)} {rest : List Value} (hC : COK G Γ own cc nL fr lo mc ms hh) {idx : Nat} (hs : SV own idx yX5_areTooNear cX5_areTooNear 5 (some .boolean) 4) {p0 : Nat} {p1 : Int32} {p2 : Int32} {p3 : Int32} {p4 : Int32} (hR : 2 + 1 ≤ fr ∧ 8 + (5 + 11) + 60 ≤ lo) (hw8 : (rest.map fun v => v.category).sum ≤ 8) (hcs : cells + 0 ≤ mc ∧ slots + 0 ≤ ms) (hdg : decode cc pc = .ok (.invokevirtual idx, 3)) (ho : isO h p0 5) {post : Int32 → Prop} (hq : wp_X5_areTooNear G p0 p1 p2 p3 p4 h post) (kk : ∀ (r : Int32) , post r → V G Γ nL (cells + 0) (slots + 0) h (pc + 3) L (.int r :: rest)) : V G Γ nL cells slots h pc L (.int p4 :: .int p3 :: .int p2 :: .int p1 :: .ref p0 :: rest) :=
  V_callV (As := [.int p1, .int p2, .int p3, .int p4]) (r9 := (RX5, TX5, 5)) hC (ct_X5_areTooNear hG p0 p1 p2 p3 p4 h post hq) hs ho rfl rfl rfl hR hw8 hcs hdg (fun E h1 z => z.elim) (fun v h1 z => by obtain ⟨r, rfl, rfl, hz⟩ := z; exact kk r hz)
set_option maxRecDepth 100000 in
set_option maxHeartbeats 4000000 in
theorem ct_X4_isFree {G : Gx} (hG : GOK G) (p0 : Int32) (p1 : Nat) (p2 : Nat) (p3 : Nat) (h0 : hw) (post : Int32 → Prop) (hq : wp_X4_isFree G p0 p1 p2 p3 h0 post) : CT G yX4_isFree cX4_isFree 7 (some .boolean) 4 94 0 0 [.int p0, .ref p1, .ref p2, .ref p3] h0 (fun v h1 => ∃ r : Int32, v = some (.int r) ∧ h1 = h0 ∧ post r) (fun E h1 => False) := by
  refine CT_of hG (by decide) (Nat.le_of_ble_eq_true rfl) (fun Γ hC hQ hN => ?_)
  have hC : COK G Γ "Bandplan$Moving" cX4_isFree 7 4 94 0 0 [] := hC
  unfold wp_X4_isFree at hq
  show V G Γ 7 0 0 h0 0 [(0, .int p0), (1, .ref p1), (2, .ref p2), (3, .ref p3)] []
  refine V_aload_n hC dX4_isFree_0 2 rfl ?_
  refine U_getR hC fl_X4_48 dX4_isFree_1 hq (fun v1 hq => ?_)
  refine V_iload_n hC dX4_isFree_4 0 rfl ?_
  obtain ⟨hz, hq⟩ := hq
  refine clV_X7_at hG hC sv_X4_44 ⟨by decide, by decide⟩ (Nat.le_of_ble_eq_true rfl) ⟨by decide, by decide⟩ dX4_isFree_5 hz hq (fun r2 hq => ?_)
  show V G Γ 7 0 0 h0 8 [(0, .int p0), (1, .ref p1), (2, .ref p2), (3, .ref p3)] [.int r2]
  refine V_istore (L' := [(0, .int p0), (1, .ref p1), (2, .ref p2), (3, .ref p3), (4, .int r2)]) hC dX4_isFree_8 (by decide) [1, 2, 3, 4, 0] rfl ?_
  refine V_iconst (v := 0) hC dX4_isFree_10 (by decide) ?_
  refine V_istore (L' := [(0, .int p0), (1, .ref p1), (2, .ref p2), (3, .ref p3), (4, .int r2), (5, .int 0)]) hC dX4_isFree_11 (by decide) [1, 2, 3, 4, 5, 0] rfl ?_
  have hq := hq (fun (x5_3 : Int32) => V G Γ 7 0 0 h0 13 [(0, .int p0), (1, .ref p1), (2, .ref p2), (3, .ref p3), (4, .int r2), (5, .int x5_3)] []) (by
    intro x5_3 hq
    show V G Γ 7 0 0 h0 13 [(0, .int p0), (1, .ref p1), (2, .ref p2), (3, .ref p3), (4, .int r2), (5, .int x5_3)] []
    refine V_iload hC dX4_isFree_13 5 rfl ?_
    refine V_aload_n hC dX4_isFree_15 1 rfl ?_
    refine U_getR hC fl_X4_67 dX4_isFree_16 hq (fun v4 hq => ?_)
    obtain ⟨hz, hq⟩ := hq
    refine clV_Jx4a65c_size_8abf5 hG hC sv_X4_73 ⟨by decide, by decide⟩ (Nat.le_of_ble_eq_true rfl) ⟨by decide, by decide⟩ dX4_isFree_19 hz hq (fun r5 hq => ?_)
    show V G Γ 7 0 0 h0 22 [(0, .int p0), (1, .ref p1), (2, .ref p2), (3, .ref p3), (4, .int r2), (5, .int x5_3)] [.int r5, .int x5_3]
    refine V_icmp_ge (tgt := 88) hC dX4_isFree_22 (by decide) (fun hc => ?_) (fun hc => ?_)
    · have hq := hq.1 hc
      refine V_iconst (v := 1) hC dX4_isFree_88 (by decide) ?_
      exact V_iret hC hQ rfl rfl ⟨by decide, by decide⟩ dX4_isFree_89 ⟨_, rfl, rfl, hq⟩
    · have hq := hq.2 hc
      refine V_aload_n hC dX4_isFree_25 3 rfl ?_
      refine U_getR hC fl_X4_39 dX4_isFree_26 hq (fun v6 hq => ?_)
      refine V_iload hC dX4_isFree_29 5 rfl ?_
      obtain ⟨hz, hq⟩ := hq
      refine clV_X7_at hG hC sv_X4_44 ⟨by decide, by decide⟩ (Nat.le_of_ble_eq_true rfl) ⟨by decide, by decide⟩ dX4_isFree_31 hz hq (fun r7 hq => ?_)
      show V G Γ 7 0 0 h0 34 [(0, .int p0), (1, .ref p1), (2, .ref p2), (3, .ref p3), (4, .int r2), (5, .int x5_3)] [.int r7]
      refine V_istore (L' := [(0, .int p0), (1, .ref p1), (2, .ref p2), (3, .ref p3), (4, .int r2), (5, .int x5_3), (6, .int r7)]) hC dX4_isFree_34 (by decide) [1, 2, 3, 4, 5, 6, 0] rfl ?_
      refine V_iload hC dX4_isFree_36 5 rfl ?_
      refine V_iload_n hC dX4_isFree_38 0 rfl ?_
      have hq := hq (V G Γ 7 0 0 h0 82 [(0, .int p0), (1, .ref p1), (2, .ref p2), (3, .ref p3), (4, .int r2), (5, .int x5_3)] []) (by
        intro hq
        show V G Γ 7 0 0 h0 82 [(0, .int p0), (1, .ref p1), (2, .ref p2), (3, .ref p3), (4, .int r2), (5, .int x5_3)] []
        refine V_iinc (j := 5) (v := (x5_3 + 1)) (L' := [(0, .int p0), (1, .ref p1), (2, .ref p2), (3, .ref p3), (4, .int r2), (5, .int (x5_3 + 1))]) hC dX4_isFree_82 rfl rfl (by decide) [1, 2, 3, 4, 5, 0] rfl ?_
        refine V_goto (tgt := 13) hC dX4_isFree_85 (by decide) ?_
        exact hq)
      refine V_icmp_eq (tgt := 82) hC dX4_isFree_39 (by decide) (fun hc => ?_) (fun hc => ?_)
      · have hq := hq.1 hc
        refine V_sub [0, 1, 2, 3, 4, 5] rfl ?_
        exact hq
      · have hq := hq.2 hc
        refine V_aload_n hC dX4_isFree_42 1 rfl ?_
        refine U_getR hC fl_X4_67 dX4_isFree_43 hq (fun v8 hq => ?_)
        refine V_iload hC dX4_isFree_46 5 rfl ?_
        obtain ⟨hz, hq⟩ := hq
        refine clV_Jx4a65c_get_915e3 hG hC sv_X4_87 ⟨by decide, by decide⟩ (Nat.le_of_ble_eq_true rfl) ⟨by decide, by decide⟩ dX4_isFree_48 hz hq (fun r9 hq => ?_)
        show V G Γ 7 0 0 h0 51 [(0, .int p0), (1, .ref p1), (2, .ref p2), (3, .ref p3), (4, .int r2), (5, .int x5_3), (6, .int r7)] [.ref r9]
        obtain ⟨hz, hq⟩ := hq
        refine V_cast (r9 := (RX10, TX10, 6)) hC aw_5_32 rfl hz dX4_isFree_51 ?_
        refine U_getI hC fl_X4_93 dX4_isFree_54 hq (fun v10 hq => ?_)
        refine V_if_eq (tgt := 82) hC dX4_isFree_57 (by decide) (fun hc => ?_) (fun hc => ?_)
        · have hq := hq.1 hc
          refine V_sub [0, 1, 2, 3, 4, 5] rfl ?_
          exact hq
        · have hq := hq.2 hc
          refine V_iload hC dX4_isFree_60 6 rfl ?_
          refine V_iconst (v := (-1)) hC dX4_isFree_62 (by decide) ?_
          refine V_icmp_eq (tgt := 82) hC dX4_isFree_63 (by decide) (fun hc => ?_) (fun hc => ?_)
          · have hq := hq.1 hc
            refine V_sub [0, 1, 2, 3, 4, 5] rfl ?_
            exact hq
          · have hq := hq.2 hc
            refine V_aload_n hC dX4_isFree_66 2 rfl ?_
            refine V_iload_n hC dX4_isFree_67 0 rfl ?_
            refine V_iload hC dX4_isFree_68 4 rfl ?_
            refine V_iload hC dX4_isFree_70 5 rfl ?_
            refine V_iload hC dX4_isFree_72 6 rfl ?_
            obtain ⟨hz, hq⟩ := hq
            refine clV_X5_areTooNear hG hC sv_X4_96 ⟨by decide, by decide⟩ (Nat.le_of_ble_eq_true rfl) ⟨by decide, by decide⟩ dX4_isFree_74 hz hq (fun r11 hq => ?_)
            show V G Γ 7 0 0 h0 77 [(0, .int p0), (1, .ref p1), (2, .ref p2), (3, .ref p3), (4, .int r2), (5, .int x5_3), (6, .int r7)] [.int r11]
            refine V_if_eq (tgt := 82) hC dX4_isFree_77 (by decide) (fun hc => ?_) (fun hc => ?_)
            · have hq := hq.1 hc
              refine V_sub [0, 1, 2, 3, 4, 5] rfl ?_
              exact hq
            · have hq := hq.2 hc
              refine V_iconst (v := 0) hC dX4_isFree_80 (by decide) ?_
              exact V_iret hC hQ rfl rfl ⟨by decide, by decide⟩ dX4_isFree_81 ⟨_, rfl, rfl, hq⟩)
  exact hq
theorem clS_X4_isFree {G : Gx} (hG : GOK G) {Γ : Cx} {own : String} {cc : ByteArray} {nL fr lo mc ms cells slots pc : Nat} {hh : List (Nat × Nat × Nat × Nat)} {h : hw} {L : List (Nat × Value)} {rest : List Value} (hC : COK G Γ own cc nL fr lo mc ms hh) {idx : Nat} (hs : SS own idx yX4_isFree cX4_isFree 7 (some .boolean) 4) {p0 : Int32} {p1 : Nat} {p2 : Nat} {p3 : Nat} (hR : 4 + 1 ≤ fr ∧ 8 + (7 + 11) + 94 ≤ lo) (hw8 : (rest.map fun v => v.category).sum ≤ 8) (hcs : cells + 0 ≤ mc ∧ slots + 0 ≤ ms) (hdg : decode cc pc = .ok (.invokestatic idx, 3)) {post : Int32 → Prop} (hq : wp_X4_isFree G p0 p1 p2 p3 h post) (kk : ∀ (r : Int32) , post r → V G Γ nL (cells + 0) (slots + 0) h (pc + 3) L (.int r :: rest)) : V G Γ nL cells slots h pc L (.ref p3 :: .ref p2 :: .ref p1 :: .int p0 :: rest) :=
  V_callS (As := [.int p0, .ref p1, .ref p2, .ref p3]) hC (ct_X4_isFree hG p0 p1 p2 p3 h post hq) hs rfl hR hw8 hcs hdg (fun E h1 z => z.elim) (fun v h1 z => by obtain ⟨r, rfl, rfl, hz⟩ := z; exact kk r hz)
set_option maxRecDepth 100000 in
set_option maxHeartbeats 4000000 in
theorem ct_X6_lineOf {G : Gx} (hG : GOK G) (p0 : Int32) (p1 : Int32) (h0 : hw) (post : Int32 → Prop) (hq : wp_X6_lineOf G p0 p1 h0 post) : CT G yX6_lineOf cX6_lineOf 2 (some .int) 1 30 0 0 [.int p0, .int p1] h0 (fun v h1 => ∃ r : Int32, v = some (.int r) ∧ h1 = h0 ∧ post r) (fun E h1 => False) := by
  refine CT_of hG (by decide) (Nat.le_of_ble_eq_true rfl) (fun Γ hC hQ hN => ?_)
  have hC : COK G Γ "Bandplan$Register" cX6_lineOf 2 1 30 0 0 [] := hC
  unfold wp_X6_lineOf at hq
  show V G Γ 2 0 0 h0 0 [(0, .int p0), (1, .int p1)] []
  refine V_iload_n hC dX6_lineOf_0 0 rfl ?_
  refine V_sipush (v := 256) hC dX6_lineOf_1 (by decide) ?_
  refine V_imul hC dX6_lineOf_4 ?_
  refine V_iload_n hC dX6_lineOf_5 1 rfl ?_
  refine V_iadd hC dX6_lineOf_6 ?_
  exact V_iret hC hQ rfl rfl ⟨by decide, by decide⟩ dX6_lineOf_7 ⟨_, rfl, rfl, hq⟩
theorem clS_X6_lineOf {G : Gx} (hG : GOK G) {Γ : Cx} {own : String} {cc : ByteArray} {nL fr lo mc ms cells slots pc : Nat} {hh : List (Nat × Nat × Nat × Nat)} {h : hw} {L : List (Nat × Value)} {rest : List Value} (hC : COK G Γ own cc nL fr lo mc ms hh) {idx : Nat} (hs : SS own idx yX6_lineOf cX6_lineOf 2 (some .int) 2) {p0 : Int32} {p1 : Int32} (hR : 1 + 1 ≤ fr ∧ 8 + (2 + 11) + 30 ≤ lo) (hw8 : (rest.map fun v => v.category).sum ≤ 8) (hcs : cells + 0 ≤ mc ∧ slots + 0 ≤ ms) (hdg : decode cc pc = .ok (.invokestatic idx, 3)) {post : Int32 → Prop} (hq : wp_X6_lineOf G p0 p1 h post) (kk : ∀ (r : Int32) , post r → V G Γ nL (cells + 0) (slots + 0) h (pc + 3) L (.int r :: rest)) : V G Γ nL cells slots h pc L (.int p1 :: .int p0 :: rest) :=
  V_callS (As := [.int p0, .int p1]) hC (ct_X6_lineOf hG p0 p1 h post hq) hs rfl hR hw8 hcs hdg (fun E h1 z => z.elim) (fun v h1 z => by obtain ⟨r, rfl, rfl, hz⟩ := z; exact kk r hz)
