set_option maxRecDepth 100000 in
set_option maxHeartbeats 4000000 in
theorem ct_X11_packed {G : Gx} (hG : GOK G) (p0 : Nat) (p1 : Int32) (p2 : Int32) (h0 : hw) (post : Int32 → hw → Prop) (xp : String → hw → Prop) (hq : wp_X11_packed G p0 p1 p2 h0 post xp) : CT G yX11_packed cX11_packed 4 (some .int) 15 380 3 18 [.ref p0, .int p1, .int p2] h0 (fun v h1 => ∃ r : Int32, v = some (.int r) ∧ post r h1) (fun E h1 => xp E h1) := by
  refine CT_of hG (by decide) (Nat.le_of_ble_eq_true rfl) (fun Γ hC hQ hN => ?_)
  have hC : COK G Γ "Bandplan" cX11_packed 4 15 380 3 18 [] := hC
  unfold wp_X11_packed at hq
  show V G Γ 4 0 0 h0 0 [(0, .ref p0), (1, .int p1), (2, .int p2)] []
  refine V_aload_n hC dX11_packed_0 0 rfl ?_
  refine V_iload_n hC dX11_packed_1 1 rfl ?_
  refine V_iconst (v := 1) hC dX11_packed_2 (by decide) ?_
  refine V_bipush (v := 8) hC dX11_packed_3 (by decide) ?_
  obtain ⟨hz, hq⟩ := hq
  refine clV_X11_needRange hG hC sv_X11_70 ⟨by decide, by decide⟩ (Nat.le_of_ble_eq_true rfl) ⟨by decide, by decide⟩ dX11_packed_5 hz hq (fun E hx => VX_out hC hQ ⟨by decide, by decide⟩ hx) (fun hq => ?_)
  show V G Γ 4 1 6 h0 8 [(0, .ref p0), (1, .int p1), (2, .int p2)] []
  refine V_aload_n hC dX11_packed_8 0 rfl ?_
  refine V_iload_n hC dX11_packed_9 2 rfl ?_
  obtain ⟨hz, hq⟩ := hq
  refine clV_X11_stationAt hG hC sv_X11_143 ⟨by decide, by decide⟩ (Nat.le_of_ble_eq_true rfl) ⟨by decide, by decide⟩ dX11_packed_10 hz hq (fun E hx => VX_out hC hQ ⟨by decide, by decide⟩ hx) (fun r1 hq => ?_)
  show V G Γ 4 2 12 h0 13 [(0, .ref p0), (1, .int p1), (2, .int p2)] [.ref r1]
  refine V_astore_n (L' := [(0, .ref p0), (1, .int p1), (2, .int p2), (3, .ref r1)]) hC dX11_packed_13 rfl (by decide) [1, 2, 3, 0] rfl ?_
  refine V_aload_n hC dX11_packed_14 3 rfl ?_
  refine U_getI hC fl_X11_210 dX11_packed_15 hq (fun v2 hq => ?_)
  refine V_if_ne (tgt := 32) hC dX11_packed_18 (by decide) (fun hc => ?_) (fun hc => ?_)
  · have hq := hq.1 hc
    refine V_aload_n hC dX11_packed_32 0 rfl ?_
    refine U_getR hC fl_X11_33 dX11_packed_33 hq (fun v3 hq => ?_)
    refine V_aload_n hC dX11_packed_36 0 rfl ?_
    refine U_getR hC fl_X11_10 dX11_packed_37 hq (fun v4 hq => ?_)
    refine V_iload_n hC dX11_packed_40 1 rfl ?_
    obtain ⟨hz, hq⟩ := hq
    refine clV_X5_prepare hG hC sv_X11_254 ⟨by decide, by decide⟩ (Nat.le_of_ble_eq_true rfl) ⟨by decide, by decide⟩ dX11_packed_41 hz hq (fun h5 hq => ?_)
    show V G Γ 4 2 12 h5 44 [(0, .ref p0), (1, .int p1), (2, .int p2), (3, .ref r1)] []
    refine V_aload_n hC dX11_packed_44 0 rfl ?_
    refine U_getR hC fl_X11_33 dX11_packed_45 hq (fun v6 hq => ?_)
    refine V_aload_n hC dX11_packed_48 0 rfl ?_
    refine U_getR hC fl_X11_10 dX11_packed_49 hq (fun v7 hq => ?_)
    obtain ⟨hz, hq⟩ := hq
    refine clV_X0_protectedOnes hG hC sv_X11_258 ⟨by decide, by decide⟩ (Nat.le_of_ble_eq_true rfl) ⟨by decide, by decide⟩ dX11_packed_52 hz hq (fun r8 hq => ?_)
    show V G Γ 4 2 12 h5 55 [(0, .ref p0), (1, .int p1), (2, .int p2), (3, .ref r1)] [.int r8, .ref v6]
    obtain ⟨hz, hq⟩ := hq
    refine clV_X5_findFirst hG hC sv_X11_261 ⟨by decide, by decide⟩ (Nat.le_of_ble_eq_true rfl) ⟨by decide, by decide⟩ dX11_packed_55 hz hq (fun r9 h10 hq => ?_)
    show V G Γ 4 2 12 h10 58 [(0, .ref p0), (1, .int p1), (2, .int p2), (3, .ref r1)] [.int r9]
    refine V_if_ne (tgt := 72) hC dX11_packed_58 (by decide) (fun hc => ?_) (fun hc => ?_)
    · have hq := hq.1 hc
      refine V_aload_n hC dX11_packed_72 0 rfl ?_
      refine U_getR hC fl_X11_33 dX11_packed_73 hq (fun v11 hq => ?_)
      refine U_getR hC fl_X11_268 dX11_packed_76 hq (fun v12 hq => ?_)
      refine V_aload_n hC dX11_packed_79 3 rfl ?_
      refine U_getI hC fl_X11_232 dX11_packed_80 hq (fun v13 hq => ?_)
      obtain ⟨hz, hq⟩ := hq
      refine clV_X7_at hG hC sv_X11_226 ⟨by decide, by decide⟩ (Nat.le_of_ble_eq_true rfl) ⟨by decide, by decide⟩ dX11_packed_83 hz hq (fun r14 hq => ?_)
      show V G Γ 4 2 12 h10 86 [(0, .ref p0), (1, .int p1), (2, .int p2), (3, .ref r1)] [.int r14]
      exact V_iret hC hQ rfl rfl ⟨by decide, by decide⟩ dX11_packed_86 ⟨_, rfl, hq⟩
    · have hq := hq.2 hc
      exact V_throwNSW hC hQ hG th_162_266 ⟨by decide, by decide⟩ ⟨by decide, by decide⟩ dX11_packed_61 dX11_packed_64 dX11_packed_65 dX11_packed_68 dX11_packed_71 hq
  · have hq := hq.2 hc
    exact V_throwSW hC hQ hG th_221_264 ⟨by decide, by decide⟩ ⟨by decide, by decide⟩ dX11_packed_21 dX11_packed_24 dX11_packed_25 dX11_packed_28 dX11_packed_31 hq
theorem clV_X11_packed {G : Gx} (hG : GOK G) {Γ : Cx} {own : String} {cc : ByteArray} {nL fr lo mc ms cells slots pc : Nat} {hh : List (Nat × Nat × Nat × Nat)} {h : hw} {L : List (Nat × Value)} {rest : List Value} (hC : COK G Γ own cc nL fr lo mc ms hh) {idx : Nat} (hs : SV own idx yX11_packed cX11_packed 4 (some .int) 2) {p0 : Nat} {p1 : Int32} {p2 : Int32} (hR : 15 + 1 ≤ fr ∧ 8 + (4 + 11) + 380 ≤ lo) (hw8 : (rest.map fun v => v.category).sum ≤ 8) (hcs : cells + 3 ≤ mc ∧ slots + 18 ≤ ms) (hdg : decode cc pc = .ok (.invokevirtual idx, 3)) (ho : isO h p0 11) {post : Int32 → hw → Prop} {xp : String → hw → Prop} (hq : wp_X11_packed G p0 p1 p2 h post xp) (kx : ∀ (E : String) (h1 : hw), xp E h1 → VX G Γ nL (cells + 3) (slots + 18) h1 pc L rest E) (kk : ∀ (r : Int32) (h1 : hw) , post r h1 → V G Γ nL (cells + 3) (slots + 18) h1 (pc + 3) L (.int r :: rest)) : V G Γ nL cells slots h pc L (.int p2 :: .int p1 :: .ref p0 :: rest) :=
  V_callV (As := [.int p1, .int p2]) (r9 := (RX11, TX11, 8)) hC (ct_X11_packed hG p0 p1 p2 h post xp hq) hs ho rfl rfl rfl hR hw8 hcs hdg (fun E h1 z => kx E h1 z) (fun v h1 z => by obtain ⟨r, rfl, hz⟩ := z; exact kk r h1 hz)
set_option maxRecDepth 100000 in
set_option maxHeartbeats 4000000 in
theorem ct_X11_setAsked {G : Gx} (hG : GOK G) (p0 : Nat) (p1 : Int32) (p2 : Int32) (h0 : hw) (post : Int32 → hw → Prop) (xp : String → hw → Prop) (hq : wp_X11_setAsked G p0 p1 p2 h0 post xp) : CT G yX11_setAsked cX11_setAsked 5 (some .int) 7 115 2 12 [.ref p0, .int p1, .int p2] h0 (fun v h1 => ∃ r : Int32, v = some (.int r) ∧ post r h1) (fun E h1 => xp E h1) := by
  refine CT_of hG (by decide) (Nat.le_of_ble_eq_true rfl) (fun Γ hC hQ hN => ?_)
  have hC : COK G Γ "Bandplan" cX11_setAsked 5 7 115 2 12 [] := hC
  unfold wp_X11_setAsked at hq
  show V G Γ 5 0 0 h0 0 [(0, .ref p0), (1, .int p1), (2, .int p2)] []
  refine V_aload_n hC dX11_setAsked_0 0 rfl ?_
  refine V_iload_n hC dX11_setAsked_1 1 rfl ?_
  obtain ⟨hz, hq⟩ := hq
  refine clV_X11_stationAt hG hC sv_X11_143 ⟨by decide, by decide⟩ (Nat.le_of_ble_eq_true rfl) ⟨by decide, by decide⟩ dX11_setAsked_2 hz hq (fun E hx => VX_out hC hQ ⟨by decide, by decide⟩ hx) (fun r1 hq => ?_)
  show V G Γ 5 1 6 h0 5 [(0, .ref p0), (1, .int p1), (2, .int p2)] [.ref r1]
  refine V_astore_n (L' := [(0, .ref p0), (1, .int p1), (2, .int p2), (3, .ref r1)]) hC dX11_setAsked_5 rfl (by decide) [1, 2, 3, 0] rfl ?_
  refine V_aload_n hC dX11_setAsked_6 0 rfl ?_
  refine V_iload_n hC dX11_setAsked_7 2 rfl ?_
  refine V_iconst (v := 0) hC dX11_setAsked_8 (by decide) ?_
  refine V_sipush (v := 9999) hC dX11_setAsked_9 (by decide) ?_
  obtain ⟨hz, hq⟩ := hq
  refine clV_X11_needRange hG hC sv_X11_70 ⟨by decide, by decide⟩ (Nat.le_of_ble_eq_true rfl) ⟨by decide, by decide⟩ dX11_setAsked_12 hz hq (fun E hx => VX_out hC hQ ⟨by decide, by decide⟩ hx) (fun hq => ?_)
  show V G Γ 5 2 12 h0 15 [(0, .ref p0), (1, .int p1), (2, .int p2), (3, .ref r1)] []
  refine V_aload_n hC dX11_setAsked_15 3 rfl ?_
  refine U_getI hC fl_X11_271 dX11_setAsked_16 hq (fun v2 hq => ?_)
  refine V_istore (L' := [(0, .ref p0), (1, .int p1), (2, .int p2), (3, .ref r1), (4, .int v2)]) hC dX11_setAsked_19 (by decide) [1, 2, 3, 4, 0] rfl ?_
  refine V_aload_n hC dX11_setAsked_21 3 rfl ?_
  refine V_iload_n hC dX11_setAsked_22 2 rfl ?_
  refine U_putO hC (by decide) fl_X11_271 fin_X10_5 rfl rfl dX11_setAsked_23 hq (fun h3 hq => ?_)
  refine V_iload hC dX11_setAsked_26 4 rfl ?_
  exact V_iret hC hQ rfl rfl ⟨by decide, by decide⟩ dX11_setAsked_28 ⟨_, rfl, hq⟩
theorem clV_X11_setAsked {G : Gx} (hG : GOK G) {Γ : Cx} {own : String} {cc : ByteArray} {nL fr lo mc ms cells slots pc : Nat} {hh : List (Nat × Nat × Nat × Nat)} {h : hw} {L : List (Nat × Value)} {rest : List Value} (hC : COK G Γ own cc nL fr lo mc ms hh) {idx : Nat} (hs : SV own idx yX11_setAsked cX11_setAsked 5 (some .int) 2) {p0 : Nat} {p1 : Int32} {p2 : Int32} (hR : 7 + 1 ≤ fr ∧ 8 + (5 + 11) + 115 ≤ lo) (hw8 : (rest.map fun v => v.category).sum ≤ 8) (hcs : cells + 2 ≤ mc ∧ slots + 12 ≤ ms) (hdg : decode cc pc = .ok (.invokevirtual idx, 3)) (ho : isO h p0 11) {post : Int32 → hw → Prop} {xp : String → hw → Prop} (hq : wp_X11_setAsked G p0 p1 p2 h post xp) (kx : ∀ (E : String) (h1 : hw), xp E h1 → VX G Γ nL (cells + 2) (slots + 12) h1 pc L rest E) (kk : ∀ (r : Int32) (h1 : hw) , post r h1 → V G Γ nL (cells + 2) (slots + 12) h1 (pc + 3) L (.int r :: rest)) : V G Γ nL cells slots h pc L (.int p2 :: .int p1 :: .ref p0 :: rest) :=
  V_callV (As := [.int p1, .int p2]) (r9 := (RX11, TX11, 8)) hC (ct_X11_setAsked hG p0 p1 p2 h post xp hq) hs ho rfl rfl rfl hR hw8 hcs hdg (fun E h1 z => kx E h1 z) (fun v h1 z => by obtain ⟨r, rfl, hz⟩ := z; exact kk r h1 hz)
set_option maxRecDepth 100000 in
set_option maxHeartbeats 4000000 in
theorem ct_J6_bitCount_0f7a4 {G : Gx} (hG : GOK G) (p0 : Int32) (h0 : hw) (post : Int32 → Prop) (hq : wp_J6_bitCount_0f7a4 G p0 h0 post) : CT G yJ6_bitCount_0f7a4 cJ6_bitCount_0f7a4 1 (some .int) 1 30 0 0 [.int p0] h0 (fun v h1 => ∃ r : Int32, v = some (.int r) ∧ h1 = h0 ∧ post r) (fun E h1 => False) := by
  refine CT_of hG (by decide) (Nat.le_of_ble_eq_true rfl) (fun Γ hC hQ hN => ?_)
  have hC : COK G Γ "java/lang/Integer" cJ6_bitCount_0f7a4 1 1 30 0 0 [] := hC
  unfold wp_J6_bitCount_0f7a4 at hq
  show V G Γ 1 0 0 h0 0 [(0, .int p0)] []
  refine V_iload_n hC dJ6_bitCount_0f7a4_0 0 rfl ?_
  refine V_iload_n hC dJ6_bitCount_0f7a4_1 0 rfl ?_
  refine V_iconst (v := 1) hC dJ6_bitCount_0f7a4_2 (by decide) ?_
  refine V_iushr hC dJ6_bitCount_0f7a4_3 rfl ?_
  refine V_ldcw (v := 1431655765) hC aw_5_102 dJ6_bitCount_0f7a4_4 ?_
  refine V_iand hC dJ6_bitCount_0f7a4_7 ?_
  refine V_isub hC dJ6_bitCount_0f7a4_8 ?_
  refine V_istore_n (L' := [(0, .int (p0 - (((p0).toUInt32 >>> ((1 : Int32).toUInt32 &&& Int32.toUInt32 31)).toInt32 &&& 1431655765)))]) hC dJ6_bitCount_0f7a4_9 rfl (by decide) [0] rfl ?_
  refine V_iload_n hC dJ6_bitCount_0f7a4_10 0 rfl ?_
  refine V_ldcw (v := 858993459) hC aw_5_103 dJ6_bitCount_0f7a4_11 ?_
  refine V_iand hC dJ6_bitCount_0f7a4_14 ?_
  refine V_iload_n hC dJ6_bitCount_0f7a4_15 0 rfl ?_
  refine V_iconst (v := 2) hC dJ6_bitCount_0f7a4_16 (by decide) ?_
  refine V_iushr hC dJ6_bitCount_0f7a4_17 rfl ?_
  refine V_ldcw (v := 858993459) hC aw_5_103 dJ6_bitCount_0f7a4_18 ?_
  refine V_iand hC dJ6_bitCount_0f7a4_21 ?_
  refine V_iadd hC dJ6_bitCount_0f7a4_22 ?_
  refine V_istore_n (L' := [(0, .int (((p0 - (((p0).toUInt32 >>> ((1 : Int32).toUInt32 &&& Int32.toUInt32 31)).toInt32 &&& 1431655765)) &&& 858993459) + ((((p0 - (((p0).toUInt32 >>> ((1 : Int32).toUInt32 &&& Int32.toUInt32 31)).toInt32 &&& 1431655765))).toUInt32 >>> ((2 : Int32).toUInt32 &&& Int32.toUInt32 31)).toInt32 &&& 858993459)))]) hC dJ6_bitCount_0f7a4_23 rfl (by decide) [0] rfl ?_
  refine V_iload_n hC dJ6_bitCount_0f7a4_24 0 rfl ?_
  refine V_iload_n hC dJ6_bitCount_0f7a4_25 0 rfl ?_
  refine V_iconst (v := 4) hC dJ6_bitCount_0f7a4_26 (by decide) ?_
  refine V_iushr hC dJ6_bitCount_0f7a4_27 rfl ?_
  refine V_iadd hC dJ6_bitCount_0f7a4_28 ?_
  refine V_ldcw (v := 252645135) hC aw_5_104 dJ6_bitCount_0f7a4_29 ?_
  refine V_iand hC dJ6_bitCount_0f7a4_32 ?_
  refine V_istore_n (L' := [(0, .int (((((p0 - (((p0).toUInt32 >>> ((1 : Int32).toUInt32 &&& Int32.toUInt32 31)).toInt32 &&& 1431655765)) &&& 858993459) + ((((p0 - (((p0).toUInt32 >>> ((1 : Int32).toUInt32 &&& Int32.toUInt32 31)).toInt32 &&& 1431655765))).toUInt32 >>> ((2 : Int32).toUInt32 &&& Int32.toUInt32 31)).toInt32 &&& 858993459)) + (((((p0 - (((p0).toUInt32 >>> ((1 : Int32).toUInt32 &&& Int32.toUInt32 31)).toInt32 &&& 1431655765)) &&& 858993459) + ((((p0 - (((p0).toUInt32 >>> ((1 : Int32).toUInt32 &&& Int32.toUInt32 31)).toInt32 &&& 1431655765))).toUInt32 >>> ((2 : Int32).toUInt32 &&& Int32.toUInt32 31)).toInt32 &&& 858993459))).toUInt32 >>> ((4 : Int32).toUInt32 &&& Int32.toUInt32 31)).toInt32) &&& 252645135))]) hC dJ6_bitCount_0f7a4_33 rfl (by decide) [0] rfl ?_
  refine V_iload_n hC dJ6_bitCount_0f7a4_34 0 rfl ?_
  refine V_iload_n hC dJ6_bitCount_0f7a4_35 0 rfl ?_
  refine V_bipush (v := 8) hC dJ6_bitCount_0f7a4_36 (by decide) ?_
  refine V_iushr hC dJ6_bitCount_0f7a4_38 rfl ?_
  refine V_iadd hC dJ6_bitCount_0f7a4_39 ?_
  refine V_istore_n (L' := [(0, .int ((((((p0 - (((p0).toUInt32 >>> ((1 : Int32).toUInt32 &&& Int32.toUInt32 31)).toInt32 &&& 1431655765)) &&& 858993459) + ((((p0 - (((p0).toUInt32 >>> ((1 : Int32).toUInt32 &&& Int32.toUInt32 31)).toInt32 &&& 1431655765))).toUInt32 >>> ((2 : Int32).toUInt32 &&& Int32.toUInt32 31)).toInt32 &&& 858993459)) + (((((p0 - (((p0).toUInt32 >>> ((1 : Int32).toUInt32 &&& Int32.toUInt32 31)).toInt32 &&& 1431655765)) &&& 858993459) + ((((p0 - (((p0).toUInt32 >>> ((1 : Int32).toUInt32 &&& Int32.toUInt32 31)).toInt32 &&& 1431655765))).toUInt32 >>> ((2 : Int32).toUInt32 &&& Int32.toUInt32 31)).toInt32 &&& 858993459))).toUInt32 >>> ((4 : Int32).toUInt32 &&& Int32.toUInt32 31)).toInt32) &&& 252645135) + (((((((p0 - (((p0).toUInt32 >>> ((1 : Int32).toUInt32 &&& Int32.toUInt32 31)).toInt32 &&& 1431655765)) &&& 858993459) + ((((p0 - (((p0).toUInt32 >>> ((1 : Int32).toUInt32 &&& Int32.toUInt32 31)).toInt32 &&& 1431655765))).toUInt32 >>> ((2 : Int32).toUInt32 &&& Int32.toUInt32 31)).toInt32 &&& 858993459)) + (((((p0 - (((p0).toUInt32 >>> ((1 : Int32).toUInt32 &&& Int32.toUInt32 31)).toInt32 &&& 1431655765)) &&& 858993459) + ((((p0 - (((p0).toUInt32 >>> ((1 : Int32).toUInt32 &&& Int32.toUInt32 31)).toInt32 &&& 1431655765))).toUInt32 >>> ((2 : Int32).toUInt32 &&& Int32.toUInt32 31)).toInt32 &&& 858993459))).toUInt32 >>> ((4 : Int32).toUInt32 &&& Int32.toUInt32 31)).toInt32) &&& 252645135)).toUInt32 >>> ((8 : Int32).toUInt32 &&& Int32.toUInt32 31)).toInt32))]) hC dJ6_bitCount_0f7a4_40 rfl (by decide) [0] rfl ?_
  refine V_iload_n hC dJ6_bitCount_0f7a4_41 0 rfl ?_
  refine V_iload_n hC dJ6_bitCount_0f7a4_42 0 rfl ?_
  refine V_bipush (v := 16) hC dJ6_bitCount_0f7a4_43 (by decide) ?_
  refine V_iushr hC dJ6_bitCount_0f7a4_45 rfl ?_
  refine V_iadd hC dJ6_bitCount_0f7a4_46 ?_
  refine V_istore_n (L' := [(0, .int (((((((p0 - (((p0).toUInt32 >>> ((1 : Int32).toUInt32 &&& Int32.toUInt32 31)).toInt32 &&& 1431655765)) &&& 858993459) + ((((p0 - (((p0).toUInt32 >>> ((1 : Int32).toUInt32 &&& Int32.toUInt32 31)).toInt32 &&& 1431655765))).toUInt32 >>> ((2 : Int32).toUInt32 &&& Int32.toUInt32 31)).toInt32 &&& 858993459)) + (((((p0 - (((p0).toUInt32 >>> ((1 : Int32).toUInt32 &&& Int32.toUInt32 31)).toInt32 &&& 1431655765)) &&& 858993459) + ((((p0 - (((p0).toUInt32 >>> ((1 : Int32).toUInt32 &&& Int32.toUInt32 31)).toInt32 &&& 1431655765))).toUInt32 >>> ((2 : Int32).toUInt32 &&& Int32.toUInt32 31)).toInt32 &&& 858993459))).toUInt32 >>> ((4 : Int32).toUInt32 &&& Int32.toUInt32 31)).toInt32) &&& 252645135) + (((((((p0 - (((p0).toUInt32 >>> ((1 : Int32).toUInt32 &&& Int32.toUInt32 31)).toInt32 &&& 1431655765)) &&& 858993459) + ((((p0 - (((p0).toUInt32 >>> ((1 : Int32).toUInt32 &&& Int32.toUInt32 31)).toInt32 &&& 1431655765))).toUInt32 >>> ((2 : Int32).toUInt32 &&& Int32.toUInt32 31)).toInt32 &&& 858993459)) + (((((p0 - (((p0).toUInt32 >>> ((1 : Int32).toUInt32 &&& Int32.toUInt32 31)).toInt32 &&& 1431655765)) &&& 858993459) + ((((p0 - (((p0).toUInt32 >>> ((1 : Int32).toUInt32 &&& Int32.toUInt32 31)).toInt32 &&& 1431655765))).toUInt32 >>> ((2 : Int32).toUInt32 &&& Int32.toUInt32 31)).toInt32 &&& 858993459))).toUInt32 >>> ((4 : Int32).toUInt32 &&& Int32.toUInt32 31)).toInt32) &&& 252645135)).toUInt32 >>> ((8 : Int32).toUInt32 &&& Int32.toUInt32 31)).toInt32) + ((((((((p0 - (((p0).toUInt32 >>> ((1 : Int32).toUInt32 &&& Int32.toUInt32 31)).toInt32 &&& 1431655765)) &&& 858993459) + ((((p0 - (((p0).toUInt32 >>> ((1 : Int32).toUInt32 &&& Int32.toUInt32 31)).toInt32 &&& 1431655765))).toUInt32 >>> ((2 : Int32).toUInt32 &&& Int32.toUInt32 31)).toInt32 &&& 858993459)) + (((((p0 - (((p0).toUInt32 >>> ((1 : Int32).toUInt32 &&& Int32.toUInt32 31)).toInt32 &&& 1431655765)) &&& 858993459) + ((((p0 - (((p0).toUInt32 >>> ((1 : Int32).toUInt32 &&& Int32.toUInt32 31)).toInt32 &&& 1431655765))).toUInt32 >>> ((2 : Int32).toUInt32 &&& Int32.toUInt32 31)).toInt32 &&& 858993459))).toUInt32 >>> ((4 : Int32).toUInt32 &&& Int32.toUInt32 31)).toInt32) &&& 252645135) + (((((((p0 - (((p0).toUInt32 >>> ((1 : Int32).toUInt32 &&& Int32.toUInt32 31)).toInt32 &&& 1431655765)) &&& 858993459) + ((((p0 - (((p0).toUInt32 >>> ((1 : Int32).toUInt32 &&& Int32.toUInt32 31)).toInt32 &&& 1431655765))).toUInt32 >>> ((2 : Int32).toUInt32 &&& Int32.toUInt32 31)).toInt32 &&& 858993459)) + (((((p0 - (((p0).toUInt32 >>> ((1 : Int32).toUInt32 &&& Int32.toUInt32 31)).toInt32 &&& 1431655765)) &&& 858993459) + ((((p0 - (((p0).toUInt32 >>> ((1 : Int32).toUInt32 &&& Int32.toUInt32 31)).toInt32 &&& 1431655765))).toUInt32 >>> ((2 : Int32).toUInt32 &&& Int32.toUInt32 31)).toInt32 &&& 858993459))).toUInt32 >>> ((4 : Int32).toUInt32 &&& Int32.toUInt32 31)).toInt32) &&& 252645135)).toUInt32 >>> ((8 : Int32).toUInt32 &&& Int32.toUInt32 31)).toInt32)).toUInt32 >>> ((16 : Int32).toUInt32 &&& Int32.toUInt32 31)).toInt32))]) hC dJ6_bitCount_0f7a4_47 rfl (by decide) [0] rfl ?_
  refine V_iload_n hC dJ6_bitCount_0f7a4_48 0 rfl ?_
  refine V_bipush (v := 63) hC dJ6_bitCount_0f7a4_49 (by decide) ?_
  refine V_iand hC dJ6_bitCount_0f7a4_51 ?_
  exact V_iret hC hQ rfl rfl ⟨by decide, by decide⟩ dJ6_bitCount_0f7a4_52 ⟨_, rfl, rfl, hq⟩
theorem clS_J6_bitCount_0f7a4 {G : Gx} (hG : GOK G) {Γ : Cx} {own : String} {cc : ByteArray} {nL fr lo mc ms cells slots pc : Nat} {hh : List (Nat × Nat × Nat × Nat)} {h : hw} {L : List (Nat × Value)} {rest : List Value} (hC : COK G Γ own cc nL fr lo mc ms hh) {idx : Nat} (hs : SS own idx yJ6_bitCount_0f7a4 cJ6_bitCount_0f7a4 1 (some .int) 1) {p0 : Int32} (hR : 1 + 1 ≤ fr ∧ 8 + (1 + 11) + 30 ≤ lo) (hw8 : (rest.map fun v => v.category).sum ≤ 8) (hcs : cells + 0 ≤ mc ∧ slots + 0 ≤ ms) (hdg : decode cc pc = .ok (.invokestatic idx, 3)) {post : Int32 → Prop} (hq : wp_J6_bitCount_0f7a4 G p0 h post) (kk : ∀ (r : Int32) , post r → V G Γ nL (cells + 0) (slots + 0) h (pc + 3) L (.int r :: rest)) : V G Γ nL cells slots h pc L (.int p0 :: rest) :=
  V_callS (As := [.int p0]) hC (ct_J6_bitCount_0f7a4 hG p0 h post hq) hs rfl hR hw8 hcs hdg (fun E h1 z => z.elim) (fun v h1 z => by obtain ⟨r, rfl, rfl, hz⟩ := z; exact kk r hz)
set_option maxRecDepth 100000 in
set_option maxHeartbeats 4000000 in
theorem ct_X11_sell {G : Gx} (hG : GOK G) (p0 : Nat) (p1 : Int32) (p2 : Int32) (p3 : Int32) (h0 : hw) (post : Int32 → hw → Prop) (xp : String → hw → Prop) (hq : wp_X11_sell G p0 p1 p2 p3 h0 post xp) : CT G yX11_sell cX11_sell 8 (some .int) 18 458 4 24 [.ref p0, .int p1, .int p2, .int p3] h0 (fun v h1 => ∃ r : Int32, v = some (.int r) ∧ post r h1) (fun E h1 => xp E h1) := by
  refine CT_of hG (by decide) (Nat.le_of_ble_eq_true rfl) (fun Γ hC hQ hN => ?_)
  have hC : COK G Γ "Bandplan" cX11_sell 8 18 458 4 24 [] := hC
  unfold wp_X11_sell at hq
  show V G Γ 8 0 0 h0 0 [(0, .ref p0), (1, .int p1), (2, .int p2), (3, .int p3)] []
  refine V_aload_n hC dX11_sell_0 0 rfl ?_
  refine V_iload_n hC dX11_sell_1 1 rfl ?_
  refine V_iconst (v := 1) hC dX11_sell_2 (by decide) ?_
  refine V_sipush (v := 9999) hC dX11_sell_3 (by decide) ?_
  obtain ⟨hz, hq⟩ := hq
  refine clV_X11_needRange hG hC sv_X11_70 ⟨by decide, by decide⟩ (Nat.le_of_ble_eq_true rfl) ⟨by decide, by decide⟩ dX11_sell_6 hz hq (fun E hx => VX_out hC hQ ⟨by decide, by decide⟩ hx) (fun hq => ?_)
  show V G Γ 8 1 6 h0 9 [(0, .ref p0), (1, .int p1), (2, .int p2), (3, .int p3)] []
  refine V_aload_n hC dX11_sell_9 0 rfl ?_
  refine V_iload_n hC dX11_sell_10 2 rfl ?_
  refine V_iconst (v := 1) hC dX11_sell_11 (by decide) ?_
  refine V_sipush (v := 999) hC dX11_sell_12 (by decide) ?_
  obtain ⟨hz, hq⟩ := hq
  refine clV_X11_needRange hG hC sv_X11_70 ⟨by decide, by decide⟩ (Nat.le_of_ble_eq_true rfl) ⟨by decide, by decide⟩ dX11_sell_15 hz hq (fun E hx => VX_out hC hQ ⟨by decide, by decide⟩ hx) (fun hq => ?_)
  show V G Γ 8 2 12 h0 18 [(0, .ref p0), (1, .int p1), (2, .int p2), (3, .int p3)] []
  refine V_aload_n hC dX11_sell_18 0 rfl ?_
  refine V_iload_n hC dX11_sell_19 3 rfl ?_
  refine V_iconst (v := 1) hC dX11_sell_20 (by decide) ?_
  refine V_bipush (v := 8) hC dX11_sell_21 (by decide) ?_
  obtain ⟨hz, hq⟩ := hq
  refine clV_X11_needRange hG hC sv_X11_70 ⟨by decide, by decide⟩ (Nat.le_of_ble_eq_true rfl) ⟨by decide, by decide⟩ dX11_sell_23 hz hq (fun E hx => VX_out hC hQ ⟨by decide, by decide⟩ hx) (fun hq => ?_)
  show V G Γ 8 3 18 h0 26 [(0, .ref p0), (1, .int p1), (2, .int p2), (3, .int p3)] []
  refine V_aload_n hC dX11_sell_26 0 rfl ?_
  refine U_getR hC fl_X11_10 dX11_sell_27 hq (fun v1 hq => ?_)
  obtain ⟨hz, hq⟩ := hq
  refine clV_X0_protectedOnes hG hC sv_X11_258 ⟨by decide, by decide⟩ (Nat.le_of_ble_eq_true rfl) ⟨by decide, by decide⟩ dX11_sell_30 hz hq (fun r2 hq => ?_)
  show V G Γ 8 3 18 h0 33 [(0, .ref p0), (1, .int p1), (2, .int p2), (3, .int p3)] [.int r2]
  refine V_aload_n hC dX11_sell_33 0 rfl ?_
  refine U_getR hC fl_X11_19 dX11_sell_34 hq (fun v3 hq => ?_)
  obtain ⟨hz, hq⟩ := hq
  refine clV_X6_onesOn hG hC sv_X11_274 ⟨by decide, by decide⟩ (Nat.le_of_ble_eq_true rfl) ⟨by decide, by decide⟩ dX11_sell_37 hz hq (fun r4 hq => ?_)
  show V G Γ 8 3 18 h0 40 [(0, .ref p0), (1, .int p1), (2, .int p2), (3, .int p3)] [.int r4, .int r2]
  refine V_iand hC dX11_sell_40 ?_
  refine V_istore (L' := [(0, .ref p0), (1, .int p1), (2, .int p2), (3, .int p3), (4, .int (r2 &&& r4))]) hC dX11_sell_41 (by decide) [1, 2, 3, 4, 0] rfl ?_
  refine V_iload hC dX11_sell_43 4 rfl ?_
  refine V_if_ne (tgt := 59) hC dX11_sell_45 (by decide) (fun hc => ?_) (fun hc => ?_)
  · have hq := hq.1 hc
    refine V_aload_n hC dX11_sell_59 0 rfl ?_
    refine U_getR hC fl_X11_33 dX11_sell_60 hq (fun v5 hq => ?_)
    refine V_aload_n hC dX11_sell_63 0 rfl ?_
    refine U_getR hC fl_X11_10 dX11_sell_64 hq (fun v6 hq => ?_)
    refine V_iload_n hC dX11_sell_67 3 rfl ?_
    obtain ⟨hz, hq⟩ := hq
    refine clV_X5_prepare hG hC sv_X11_254 ⟨by decide, by decide⟩ (Nat.le_of_ble_eq_true rfl) ⟨by decide, by decide⟩ dX11_sell_68 hz hq (fun h7 hq => ?_)
    show V G Γ 8 3 18 h7 71 [(0, .ref p0), (1, .int p1), (2, .int p2), (3, .int p3), (4, .int (r2 &&& r4))] []
    refine V_iload hC dX11_sell_71 4 rfl ?_
    refine V_aload_n hC dX11_sell_73 0 rfl ?_
    refine U_getR hC fl_X11_10 dX11_sell_74 hq (fun v8 hq => ?_)
    refine V_iload_n hC dX11_sell_77 1 rfl ?_
    obtain ⟨hz, hq⟩ := hq
    refine clV_X0_askingMoreThan hG hC sv_X11_279 ⟨by decide, by decide⟩ (Nat.le_of_ble_eq_true rfl) ⟨by decide, by decide⟩ dX11_sell_78 hz hq (fun r9 hq => ?_)
    show V G Γ 8 3 18 h7 81 [(0, .ref p0), (1, .int p1), (2, .int p2), (3, .int p3), (4, .int (r2 &&& r4))] [.int r9, .int (r2 &&& r4)]
    refine V_iand hC dX11_sell_81 ?_
    refine V_istore (L' := [(0, .ref p0), (1, .int p1), (2, .int p2), (3, .int p3), (4, .int (r2 &&& r4)), (5, .int ((r2 &&& r4) &&& r9))]) hC dX11_sell_82 (by decide) [1, 2, 3, 4, 5, 0] rfl ?_
    refine V_aload_n hC dX11_sell_84 0 rfl ?_
    refine U_getR hC fl_X11_33 dX11_sell_85 hq (fun v10 hq => ?_)
    refine V_iload hC dX11_sell_88 5 rfl ?_
    obtain ⟨hz, hq⟩ := hq
    refine clV_X5_fits hG hC sv_X11_282 ⟨by decide, by decide⟩ (Nat.le_of_ble_eq_true rfl) ⟨by decide, by decide⟩ dX11_sell_90 hz hq (fun r11 h12 hq => ?_)
    show V G Γ 8 3 18 h12 93 [(0, .ref p0), (1, .int p1), (2, .int p2), (3, .int p3), (4, .int (r2 &&& r4)), (5, .int ((r2 &&& r4) &&& r9))] [.int r11]
    refine V_if_ne (tgt := 107) hC dX11_sell_93 (by decide) (fun hc => ?_) (fun hc => ?_)
    · have hq := hq.1 hc
      refine V_aload_n hC dX11_sell_107 0 rfl ?_
      refine U_getR hC fl_X11_40 dX11_sell_108 hq (fun v13 hq => ?_)
      refine V_iload_n hC dX11_sell_111 3 rfl ?_
      refine V_iload hC dX11_sell_112 5 rfl ?_
      obtain ⟨hz, hq⟩ := hq
      refine clV_X8_begin hG hC sv_X11_287 ⟨by decide, by decide⟩ (Nat.le_of_ble_eq_true rfl) ⟨by decide, by decide⟩ dX11_sell_114 hz hq (fun h14 hq => ?_)
      show V G Γ 8 3 18 h14 117 [(0, .ref p0), (1, .int p1), (2, .int p2), (3, .int p3), (4, .int (r2 &&& r4)), (5, .int ((r2 &&& r4) &&& r9))] []
      refine V_aload_n hC dX11_sell_117 0 rfl ?_
      refine U_getR hC fl_X11_40 dX11_sell_118 hq (fun v15 hq => ?_)
      refine V_aload_n hC dX11_sell_121 0 rfl ?_
      refine U_getR hC fl_X11_10 dX11_sell_122 hq (fun v16 hq => ?_)
      refine V_aload_n hC dX11_sell_125 0 rfl ?_
      refine U_getR hC fl_X11_33 dX11_sell_126 hq (fun v17 hq => ?_)
      refine V_iload hC dX11_sell_129 4 rfl ?_
      refine V_iload hC dX11_sell_131 5 rfl ?_
      refine V_iconst (v := (-1)) hC dX11_sell_133 (by decide) ?_
      refine V_ixor hC dX11_sell_134 ?_
      refine V_iand hC dX11_sell_135 ?_
      refine V_iload_n hC dX11_sell_136 1 rfl ?_
      refine V_iload_n hC dX11_sell_137 2 rfl ?_
      obtain ⟨hz, hq⟩ := hq
      refine clV_X8_run hG hC sv_X11_290 ⟨by decide, by decide⟩ (Nat.le_of_ble_eq_true rfl) ⟨by decide, by decide⟩ dX11_sell_138 hz hq (fun r18 h19 hq => ?_)
      show V G Γ 8 3 18 h19 141 [(0, .ref p0), (1, .int p1), (2, .int p2), (3, .int p3), (4, .int (r2 &&& r4)), (5, .int ((r2 &&& r4) &&& r9))] [.int r18]
      refine V_istore (L' := [(0, .ref p0), (1, .int p1), (2, .int p2), (3, .int p3), (4, .int (r2 &&& r4)), (5, .int ((r2 &&& r4) &&& r9)), (6, .int r18)]) hC dX11_sell_141 (by decide) [1, 2, 3, 4, 5, 6, 0] rfl ?_
      refine V_iconst (v := 0) hC dX11_sell_143 (by decide) ?_
      refine V_istore (L' := [(0, .ref p0), (1, .int p1), (2, .int p2), (3, .int p3), (4, .int (r2 &&& r4)), (5, .int ((r2 &&& r4) &&& r9)), (6, .int r18), (7, .int 0)]) hC dX11_sell_144 (by decide) [1, 2, 3, 4, 5, 6, 7, 0] rfl ?_
      have hq := hq (fun (x7_20 : Int32) (h21 : hw) => V G Γ 8 3 18 h21 146 [(0, .ref p0), (6, .int r18), (7, .int x7_20)] []) (by
        intro x7_20 h21 hq
        show V G Γ 8 3 18 h21 146 [(0, .ref p0), (6, .int r18), (7, .int x7_20)] []
        refine V_iload hC dX11_sell_146 2 rfl ?_
        refine V_aload_n hC dX11_sell_148 0 rfl ?_
        refine U_getR hC fl_X11_10 dX11_sell_149 hq (fun v22 hq => ?_)
        refine U_getR hC fl_X11_125 dX11_sell_152 hq (fun v23 hq => ?_)
        obtain ⟨hz, hq⟩ := hq
        refine clV_Jx4a65c_size_8abf5 hG hC sv_X11_91 ⟨by decide, by decide⟩ (Nat.le_of_ble_eq_true rfl) ⟨by decide, by decide⟩ dX11_sell_155 hz hq (fun r24 hq => ?_)
        show V G Γ 8 3 18 h21 158 [(0, .ref p0), (6, .int r18), (7, .int x7_20)] [.int r24, .int x7_20]
        refine V_icmp_ge (tgt := 187) hC dX11_sell_158 (by decide) (fun hc => ?_) (fun hc => ?_)
        · have hq := hq.1 hc
          refine V_iload hC dX11_sell_187 1 rfl ?_
          refine clS_J6_bitCount_0f7a4 hG hC ss_X11_297 ⟨by decide, by decide⟩ (Nat.le_of_ble_eq_true rfl) ⟨by decide, by decide⟩ dX11_sell_189 hq (fun r25 hq => ?_)
          show V G Γ 8 3 18 h21 192 [(0, .ref p0), (6, .int r18), (7, .int x7_20)] [.int r25]
          exact V_iret hC hQ rfl rfl ⟨by decide, by decide⟩ dX11_sell_192 ⟨_, rfl, hq⟩
        · have hq := hq.2 hc
          refine V_iload hC dX11_sell_161 2 rfl ?_
          refine V_iload hC dX11_sell_163 1 rfl ?_
          refine clS_X11_isIn hG hC ss_X11_294 ⟨by decide, by decide⟩ (Nat.le_of_ble_eq_true rfl) ⟨by decide, by decide⟩ dX11_sell_165 hq (fun r26 hq => ?_)
          show V G Γ 8 3 18 h21 168 [(0, .ref p0), (6, .int r18), (7, .int x7_20)] [.int r26]
          have hq := hq (fun (h27 : hw) => V G Γ 8 3 18 h27 181 [(0, .ref p0), (6, .int r18), (7, .int x7_20)] []) (by
            intro h27 hq
            show V G Γ 8 3 18 h27 181 [(0, .ref p0), (6, .int r18), (7, .int x7_20)] []
            refine V_iinc (j := 2) (v := (x7_20 + 1)) (L' := [(0, .ref p0), (6, .int r18), (7, .int (x7_20 + 1))]) hC dX11_sell_181 rfl rfl (by decide) [1, 2, 0] rfl ?_
            refine V_goto (tgt := 146) hC dX11_sell_184 (by decide) ?_
            exact hq)
          refine V_if_eq (tgt := 181) hC dX11_sell_168 (by decide) (fun hc => ?_) (fun hc => ?_)
          · have hq := hq.1 hc
            exact hq
          · have hq := hq.2 hc
            refine V_aload_n hC dX11_sell_171 0 rfl ?_
            refine U_getR hC fl_X11_19 dX11_sell_172 hq (fun v28 hq => ?_)
            refine V_iload hC dX11_sell_175 2 rfl ?_
            refine V_iconst (v := (-1)) hC dX11_sell_177 (by decide) ?_
            obtain ⟨hz, hq⟩ := hq
            refine clV_X6_change hG hC sv_X11_229 ⟨by decide, by decide⟩ (Nat.le_of_ble_eq_true rfl) ⟨by decide, by decide⟩ dX11_sell_178 hz hq (fun h29 hq => ?_)
            show V G Γ 8 3 18 h29 181 [(0, .ref p0), (6, .int r18), (7, .int x7_20)] []
            exact hq)
      refine V_sub [0, 6, 7] rfl ?_
      exact hq
    · have hq := hq.2 hc
      exact V_throwSW hC hQ hG th_221_285 ⟨by decide, by decide⟩ ⟨by decide, by decide⟩ dX11_sell_96 dX11_sell_99 dX11_sell_100 dX11_sell_103 dX11_sell_106 hq
  · have hq := hq.2 hc
    exact V_throwSW hC hQ hG th_221_277 ⟨by decide, by decide⟩ ⟨by decide, by decide⟩ dX11_sell_48 dX11_sell_51 dX11_sell_52 dX11_sell_55 dX11_sell_58 hq
theorem clV_X11_sell {G : Gx} (hG : GOK G) {Γ : Cx} {own : String} {cc : ByteArray} {nL fr lo mc ms cells slots pc : Nat} {hh : List (Nat × Nat × Nat × Nat)} {h : hw} {L : List (Nat × Value)} {rest : List Value} (hC : COK G Γ own cc nL fr lo mc ms hh) {idx : Nat} (hs : SV own idx yX11_sell cX11_sell 8 (some .int) 3) {p0 : Nat} {p1 : Int32} {p2 : Int32} {p3 : Int32} (hR : 18 + 1 ≤ fr ∧ 8 + (8 + 11) + 458 ≤ lo) (hw8 : (rest.map fun v => v.category).sum ≤ 8) (hcs : cells + 4 ≤ mc ∧ slots + 24 ≤ ms) (hdg : decode cc pc = .ok (.invokevirtual idx, 3)) (ho : isO h p0 11) {post : Int32 → hw → Prop} {xp : String → hw → Prop} (hq : wp_X11_sell G p0 p1 p2 p3 h post xp) (kx : ∀ (E : String) (h1 : hw), xp E h1 → VX G Γ nL (cells + 4) (slots + 24) h1 pc L rest E) (kk : ∀ (r : Int32) (h1 : hw) , post r h1 → V G Γ nL (cells + 4) (slots + 24) h1 (pc + 3) L (.int r :: rest)) : V G Γ nL cells slots h pc L (.int p3 :: .int p2 :: .int p1 :: .ref p0 :: rest) :=
  V_callV (As := [.int p1, .int p2, .int p3]) (r9 := (RX11, TX11, 8)) hC (ct_X11_sell hG p0 p1 p2 p3 h post xp hq) hs ho rfl rfl rfl hR hw8 hcs hdg (fun E h1 z => kx E h1 z) (fun v h1 z => by obtain ⟨r, rfl, hz⟩ := z; exact kk r h1 hz)
set_option maxRecDepth 100000 in
set_option maxHeartbeats 4000000 in
theorem ct_X11_priceOf {G : Gx} (hG : GOK G) (p0 : Nat) (p1 : Int32) (h0 : hw) (post : Int32 → Prop) (xp : String → Prop) (hq : wp_X11_priceOf G p0 p1 h0 post xp) : CT G yX11_priceOf cX11_priceOf 4 (some .int) 7 115 2 12 [.ref p0, .int p1] h0 (fun v h1 => ∃ r : Int32, v = some (.int r) ∧ h1 = h0 ∧ post r) (fun E h1 => h1 = h0 ∧ xp E) := by
  refine CT_of hG (by decide) (Nat.le_of_ble_eq_true rfl) (fun Γ hC hQ hN => ?_)
  have hC : COK G Γ "Bandplan" cX11_priceOf 4 7 115 2 12 [] := hC
  unfold wp_X11_priceOf at hq
  show V G Γ 4 0 0 h0 0 [(0, .ref p0), (1, .int p1)] []
  refine V_aload_n hC dX11_priceOf_0 0 rfl ?_
  refine V_iload_n hC dX11_priceOf_1 1 rfl ?_
  obtain ⟨hz, hq⟩ := hq
  refine clV_X11_stationAt hG hC sv_X11_143 ⟨by decide, by decide⟩ (Nat.le_of_ble_eq_true rfl) ⟨by decide, by decide⟩ dX11_priceOf_2 hz hq (fun E hx => VX_out hC hQ ⟨by decide, by decide⟩ ⟨rfl, hx⟩) (fun r1 hq => ?_)
  show V G Γ 4 1 6 h0 5 [(0, .ref p0), (1, .int p1)] [.ref r1]
  refine V_astore_n (L' := [(0, .ref p0), (1, .int p1), (2, .ref r1)]) hC dX11_priceOf_5 rfl (by decide) [1, 2, 0] rfl ?_
  refine V_aload_n hC dX11_priceOf_6 0 rfl ?_
  refine U_getR hC fl_X11_40 dX11_priceOf_7 hq (fun v2 hq => ?_)
  refine U_getR hC fl_X11_302 dX11_priceOf_10 hq (fun v3 hq => ?_)
  refine V_aload_n hC dX11_priceOf_13 2 rfl ?_
  refine U_getI hC fl_X11_232 dX11_priceOf_14 hq (fun v4 hq => ?_)
  obtain ⟨hz, hq⟩ := hq
  refine clV_X7_at hG hC sv_X11_226 ⟨by decide, by decide⟩ (Nat.le_of_ble_eq_true rfl) ⟨by decide, by decide⟩ dX11_priceOf_17 hz hq (fun r5 hq => ?_)
  show V G Γ 4 1 6 h0 20 [(0, .ref p0), (1, .int p1), (2, .ref r1)] [.int r5]
  refine V_istore_n (L' := [(0, .ref p0), (1, .int p1), (2, .ref r1), (3, .int r5)]) hC dX11_priceOf_20 rfl (by decide) [1, 2, 3, 0] rfl ?_
  refine V_iload_n hC dX11_priceOf_21 3 rfl ?_
  refine V_iconst (v := (-1)) hC dX11_priceOf_22 (by decide) ?_
  refine V_icmp_ne (tgt := 37) hC dX11_priceOf_23 (by decide) (fun hc => ?_) (fun hc => ?_)
  · have hq := hq.1 hc
    refine V_iload_n hC dX11_priceOf_37 3 rfl ?_
    exact V_iret hC hQ rfl rfl ⟨by decide, by decide⟩ dX11_priceOf_38 ⟨_, rfl, rfl, hq⟩
  · have hq := hq.2 hc
    exact V_throwNSW hC hQ hG th_162_305 ⟨by decide, by decide⟩ ⟨by decide, by decide⟩ dX11_priceOf_26 dX11_priceOf_29 dX11_priceOf_30 dX11_priceOf_33 dX11_priceOf_36 ⟨rfl, hq⟩
theorem clV_X11_priceOf {G : Gx} (hG : GOK G) {Γ : Cx} {own : String} {cc : ByteArray} {nL fr lo mc ms cells slots pc : Nat} {hh : List (Nat × Nat × Nat × Nat)} {h : hw} {L : List (Nat × Value)} {rest : List Value} (hC : COK G Γ own cc nL fr lo mc ms hh) {idx : Nat} (hs : SV own idx yX11_priceOf cX11_priceOf 4 (some .int) 1) {p0 : Nat} {p1 : Int32} (hR : 7 + 1 ≤ fr ∧ 8 + (4 + 11) + 115 ≤ lo) (hw8 : (rest.map fun v => v.category).sum ≤ 8) (hcs : cells + 2 ≤ mc ∧ slots + 12 ≤ ms) (hdg : decode cc pc = .ok (.invokevirtual idx, 3)) (ho : isO h p0 11) {post : Int32 → Prop} {xp : String → Prop} (hq : wp_X11_priceOf G p0 p1 h post xp) (kx : ∀ E : String, xp E → VX G Γ nL (cells + 2) (slots + 12) h pc L rest E) (kk : ∀ (r : Int32) , post r → V G Γ nL (cells + 2) (slots + 12) h (pc + 3) L (.int r :: rest)) : V G Γ nL cells slots h pc L (.int p1 :: .ref p0 :: rest) :=
  V_callV (As := [.int p1]) (r9 := (RX11, TX11, 8)) hC (ct_X11_priceOf hG p0 p1 h post xp hq) hs ho rfl rfl rfl hR hw8 hcs hdg (fun E h1 z => by obtain ⟨rfl, hz⟩ := z; exact kx E hz) (fun v h1 z => by obtain ⟨r, rfl, rfl, hz⟩ := z; exact kk r hz)
set_option maxRecDepth 100000 in
set_option maxHeartbeats 4000000 in
theorem ct_X11_rounds {G : Gx} (hG : GOK G) (p0 : Nat) (h0 : hw) (post : Int32 → Prop) (hq : wp_X11_rounds G p0 h0 post) : CT G yX11_rounds cX11_rounds 1 (some .int) 1 30 0 0 [.ref p0] h0 (fun v h1 => ∃ r : Int32, v = some (.int r) ∧ h1 = h0 ∧ post r) (fun E h1 => False) := by
  refine CT_of hG (by decide) (Nat.le_of_ble_eq_true rfl) (fun Γ hC hQ hN => ?_)
  have hC : COK G Γ "Bandplan" cX11_rounds 1 1 30 0 0 [] := hC
  unfold wp_X11_rounds at hq
  show V G Γ 1 0 0 h0 0 [(0, .ref p0)] []
  refine V_aload_n hC dX11_rounds_0 0 rfl ?_
  refine U_getR hC fl_X11_40 dX11_rounds_1 hq (fun v1 hq => ?_)
  refine U_getI hC fl_X11_307 dX11_rounds_4 hq (fun v2 hq => ?_)
  exact V_iret hC hQ rfl rfl ⟨by decide, by decide⟩ dX11_rounds_7 ⟨_, rfl, rfl, hq⟩
theorem clV_X11_rounds {G : Gx} (hG : GOK G) {Γ : Cx} {own : String} {cc : ByteArray} {nL fr lo mc ms cells slots pc : Nat} {hh : List (Nat × Nat × Nat × Nat)} {h : hw} {L : List (Nat × Value)} {rest : List Value} (hC : COK G Γ own cc nL fr lo mc ms hh) {idx : Nat} (hs : SV own idx yX11_rounds cX11_rounds 1 (some .int) 0) {p0 : Nat} (hR : 1 + 1 ≤ fr ∧ 8 + (1 + 11) + 30 ≤ lo) (hw8 : (rest.map fun v => v.category).sum ≤ 8) (hcs : cells + 0 ≤ mc ∧ slots + 0 ≤ ms) (hdg : decode cc pc = .ok (.invokevirtual idx, 3)) (ho : isO h p0 11) {post : Int32 → Prop} (hq : wp_X11_rounds G p0 h post) (kk : ∀ (r : Int32) , post r → V G Γ nL (cells + 0) (slots + 0) h (pc + 3) L (.int r :: rest)) : V G Γ nL cells slots h pc L (.ref p0 :: rest) :=
  V_callV (As := []) (r9 := (RX11, TX11, 8)) hC (ct_X11_rounds hG p0 h post hq) hs ho rfl rfl rfl hR hw8 hcs hdg (fun E h1 z => z.elim) (fun v h1 z => by obtain ⟨r, rfl, rfl, hz⟩ := z; exact kk r hz)
set_option maxRecDepth 100000 in
set_option maxHeartbeats 4000000 in
theorem ct_X11_addBidder {G : Gx} (hG : GOK G) (p0 : Nat) (p1 : Int32) (p2 : Int32) (p3 : Int32) (h0 : hw) (post : Int32 → hw → Prop) (xp : String → hw → Prop) (hq : wp_X11_addBidder G p0 p1 p2 p3 h0 post xp) : CT G yX11_addBidder cX11_addBidder 4 (some .int) 7 113 4 24 [.ref p0, .int p1, .int p2, .int p3] h0 (fun v h1 => ∃ r : Int32, v = some (.int r) ∧ post r h1) (fun E h1 => xp E h1) := by
  refine CT_of hG (by decide) (Nat.le_of_ble_eq_true rfl) (fun Γ hC hQ hN => ?_)
  have hC : COK G Γ "Bandplan" cX11_addBidder 4 7 113 4 24 [] := hC
  unfold wp_X11_addBidder at hq
  show V G Γ 4 0 0 h0 0 [(0, .ref p0), (1, .int p1), (2, .int p2), (3, .int p3)] []
  refine V_aload_n hC dX11_addBidder_0 0 rfl ?_
  refine V_iload_n hC dX11_addBidder_1 1 rfl ?_
  refine V_iconst (v := 0) hC dX11_addBidder_2 (by decide) ?_
  refine V_sipush (v := 9999) hC dX11_addBidder_3 (by decide) ?_
  obtain ⟨hz, hq⟩ := hq
  refine clV_X11_needRange hG hC sv_X11_70 ⟨by decide, by decide⟩ (Nat.le_of_ble_eq_true rfl) ⟨by decide, by decide⟩ dX11_addBidder_6 hz hq (fun E hx => VX_out hC hQ ⟨by decide, by decide⟩ hx) (fun hq => ?_)
  show V G Γ 4 1 6 h0 9 [(0, .ref p0), (1, .int p1), (2, .int p2), (3, .int p3)] []
  refine V_aload_n hC dX11_addBidder_9 0 rfl ?_
  refine V_iload_n hC dX11_addBidder_10 2 rfl ?_
  refine V_iconst (v := 0) hC dX11_addBidder_11 (by decide) ?_
  refine V_iload_n hC dX11_addBidder_12 1 rfl ?_
  obtain ⟨hz, hq⟩ := hq
  refine clV_X11_needRange hG hC sv_X11_70 ⟨by decide, by decide⟩ (Nat.le_of_ble_eq_true rfl) ⟨by decide, by decide⟩ dX11_addBidder_13 hz hq (fun E hx => VX_out hC hQ ⟨by decide, by decide⟩ hx) (fun hq => ?_)
  show V G Γ 4 2 12 h0 16 [(0, .ref p0), (1, .int p1), (2, .int p2), (3, .int p3)] []
  refine V_aload_n hC dX11_addBidder_16 0 rfl ?_
  refine V_iload_n hC dX11_addBidder_17 3 rfl ?_
  refine V_iconst (v := 0) hC dX11_addBidder_18 (by decide) ?_
  refine V_iload_n hC dX11_addBidder_19 2 rfl ?_
  obtain ⟨hz, hq⟩ := hq
  refine clV_X11_needRange hG hC sv_X11_70 ⟨by decide, by decide⟩ (Nat.le_of_ble_eq_true rfl) ⟨by decide, by decide⟩ dX11_addBidder_20 hz hq (fun E hx => VX_out hC hQ ⟨by decide, by decide⟩ hx) (fun hq => ?_)
  show V G Γ 4 3 18 h0 23 [(0, .ref p0), (1, .int p1), (2, .int p2), (3, .int p3)] []
  refine V_aload_n hC dX11_addBidder_23 0 rfl ?_
  refine U_getR hC fl_X11_47 dX11_addBidder_24 hq (fun v1 hq => ?_)
  refine U_getI hC fl_X11_310 dX11_addBidder_27 hq (fun v2 hq => ?_)
  refine V_iconst (v := 4) hC dX11_addBidder_30 (by decide) ?_
  refine V_icmp_lt (tgt := 45) hC dX11_addBidder_31 (by decide) (fun hc => ?_) (fun hc => ?_)
  · have hq := hq.1 hc
    refine V_aload_n hC dX11_addBidder_45 0 rfl ?_
    refine U_getR hC fl_X11_47 dX11_addBidder_46 hq (fun v3 hq => ?_)
    refine V_iload_n hC dX11_addBidder_49 1 rfl ?_
    refine V_iload_n hC dX11_addBidder_50 2 rfl ?_
    refine V_iload_n hC dX11_addBidder_51 3 rfl ?_
    obtain ⟨hz, hq⟩ := hq
    refine clV_X2_admit hG hC sv_X11_315 ⟨by decide, by decide⟩ (Nat.le_of_ble_eq_true rfl) ⟨by decide, by decide⟩ dX11_addBidder_52 hz hq (fun r4 h5 hq => ?_)
    show V G Γ 4 3 18 h5 55 [(0, .ref p0), (1, .int p1), (2, .int p2), (3, .int p3)] [.int r4]
    exact V_iret hC hQ rfl rfl ⟨by decide, by decide⟩ dX11_addBidder_55 ⟨_, rfl, hq⟩
  · have hq := hq.2 hc
    exact V_throwSW hC hQ hG th_97_313 ⟨by decide, by decide⟩ ⟨by decide, by decide⟩ dX11_addBidder_34 dX11_addBidder_37 dX11_addBidder_38 dX11_addBidder_41 dX11_addBidder_44 hq
theorem clV_X11_addBidder {G : Gx} (hG : GOK G) {Γ : Cx} {own : String} {cc : ByteArray} {nL fr lo mc ms cells slots pc : Nat} {hh : List (Nat × Nat × Nat × Nat)} {h : hw} {L : List (Nat × Value)} {rest : List Value} (hC : COK G Γ own cc nL fr lo mc ms hh) {idx : Nat} (hs : SV own idx yX11_addBidder cX11_addBidder 4 (some .int) 3) {p0 : Nat} {p1 : Int32} {p2 : Int32} {p3 : Int32} (hR : 7 + 1 ≤ fr ∧ 8 + (4 + 11) + 113 ≤ lo) (hw8 : (rest.map fun v => v.category).sum ≤ 8) (hcs : cells + 4 ≤ mc ∧ slots + 24 ≤ ms) (hdg : decode cc pc = .ok (.invokevirtual idx, 3)) (ho : isO h p0 11) {post : Int32 → hw → Prop} {xp : String → hw → Prop} (hq : wp_X11_addBidder G p0 p1 p2 p3 h post xp) (kx : ∀ (E : String) (h1 : hw), xp E h1 → VX G Γ nL (cells + 4) (slots + 24) h1 pc L rest E) (kk : ∀ (r : Int32) (h1 : hw) , post r h1 → V G Γ nL (cells + 4) (slots + 24) h1 (pc + 3) L (.int r :: rest)) : V G Γ nL cells slots h pc L (.int p3 :: .int p2 :: .int p1 :: .ref p0 :: rest) :=
  V_callV (As := [.int p1, .int p2, .int p3]) (r9 := (RX11, TX11, 8)) hC (ct_X11_addBidder hG p0 p1 p2 p3 h post xp hq) hs ho rfl rfl rfl hR hw8 hcs hdg (fun E h1 z => kx E h1 z) (fun v h1 z => by obtain ⟨r, rfl, hz⟩ := z; exact kk r h1 hz)
set_option maxRecDepth 100000 in
set_option maxHeartbeats 4000000 in
theorem ct_X11_buy {G : Gx} (hG : GOK G) (p0 : Nat) (p1 : Int32) (h0 : hw) (post : Int32 → hw → Prop) (xp : String → hw → Prop) (hq : wp_X11_buy G p0 p1 h0 post xp) : CT G yX11_buy cX11_buy 2 (some .int) 7 125 1 6 [.ref p0, .int p1] h0 (fun v h1 => ∃ r : Int32, v = some (.int r) ∧ post r h1) (fun E h1 => xp E h1) := by
  refine CT_of hG (by decide) (Nat.le_of_ble_eq_true rfl) (fun Γ hC hQ hN => ?_)
  have hC : COK G Γ "Bandplan" cX11_buy 2 7 125 1 6 [] := hC
  unfold wp_X11_buy at hq
  show V G Γ 2 0 0 h0 0 [(0, .ref p0), (1, .int p1)] []
  refine V_aload_n hC dX11_buy_0 0 rfl ?_
  refine V_iload_n hC dX11_buy_1 1 rfl ?_
  refine V_iconst (v := 0) hC dX11_buy_2 (by decide) ?_
  refine V_bipush (v := 8) hC dX11_buy_3 (by decide) ?_
  obtain ⟨hz, hq⟩ := hq
  refine clV_X11_needRange hG hC sv_X11_70 ⟨by decide, by decide⟩ (Nat.le_of_ble_eq_true rfl) ⟨by decide, by decide⟩ dX11_buy_5 hz hq (fun E hx => VX_out hC hQ ⟨by decide, by decide⟩ hx) (fun hq => ?_)
  show V G Γ 2 1 6 h0 8 [(0, .ref p0), (1, .int p1)] []
  refine V_aload_n hC dX11_buy_8 0 rfl ?_
  refine U_getR hC fl_X11_47 dX11_buy_9 hq (fun v1 hq => ?_)
  refine V_iload_n hC dX11_buy_12 1 rfl ?_
  obtain ⟨hz, hq⟩ := hq
  refine clV_X2_run hG hC sv_X11_318 ⟨by decide, by decide⟩ (Nat.le_of_ble_eq_true rfl) ⟨by decide, by decide⟩ dX11_buy_13 hz hq (fun r2 h3 hq => ?_)
  show V G Γ 2 1 6 h3 16 [(0, .ref p0), (1, .int p1)] [.int r2]
  exact V_iret hC hQ rfl rfl ⟨by decide, by decide⟩ dX11_buy_16 ⟨_, rfl, hq⟩
theorem clV_X11_buy {G : Gx} (hG : GOK G) {Γ : Cx} {own : String} {cc : ByteArray} {nL fr lo mc ms cells slots pc : Nat} {hh : List (Nat × Nat × Nat × Nat)} {h : hw} {L : List (Nat × Value)} {rest : List Value} (hC : COK G Γ own cc nL fr lo mc ms hh) {idx : Nat} (hs : SV own idx yX11_buy cX11_buy 2 (some .int) 1) {p0 : Nat} {p1 : Int32} (hR : 7 + 1 ≤ fr ∧ 8 + (2 + 11) + 125 ≤ lo) (hw8 : (rest.map fun v => v.category).sum ≤ 8) (hcs : cells + 1 ≤ mc ∧ slots + 6 ≤ ms) (hdg : decode cc pc = .ok (.invokevirtual idx, 3)) (ho : isO h p0 11) {post : Int32 → hw → Prop} {xp : String → hw → Prop} (hq : wp_X11_buy G p0 p1 h post xp) (kx : ∀ (E : String) (h1 : hw), xp E h1 → VX G Γ nL (cells + 1) (slots + 6) h1 pc L rest E) (kk : ∀ (r : Int32) (h1 : hw) , post r h1 → V G Γ nL (cells + 1) (slots + 6) h1 (pc + 3) L (.int r :: rest)) : V G Γ nL cells slots h pc L (.int p1 :: .ref p0 :: rest) :=
  V_callV (As := [.int p1]) (r9 := (RX11, TX11, 8)) hC (ct_X11_buy hG p0 p1 h post xp hq) hs ho rfl rfl rfl hR hw8 hcs hdg (fun E h1 z => kx E h1 z) (fun v h1 z => by obtain ⟨r, rfl, hz⟩ := z; exact kk r h1 hz)
set_option maxRecDepth 100000 in
set_option maxHeartbeats 4000000 in
theorem ct_X11_needBidder {G : Gx} (hG : GOK G) (p0 : Nat) (p1 : Int32) (h0 : hw) (post : Prop) (xp : String → Prop) (hq : wp_X11_needBidder G p0 p1 h0 post xp) : CT G yX11_needBidder cX11_needBidder 2 none 6 90 1 6 [.ref p0, .int p1] h0 (fun v h1 => v = none ∧ h1 = h0 ∧ post) (fun E h1 => h1 = h0 ∧ xp E) := by
  refine CT_of hG (by decide) (Nat.le_of_ble_eq_true rfl) (fun Γ hC hQ hN => ?_)
  have hC : COK G Γ "Bandplan" cX11_needBidder 2 6 90 1 6 [] := hC
  unfold wp_X11_needBidder at hq
  show V G Γ 2 0 0 h0 0 [(0, .ref p0), (1, .int p1)] []
  refine V_iload_n hC dX11_needBidder_0 1 rfl ?_
  have hq := hq (V G Γ 2 0 0 h0 15 [] []) (by
    intro hq
    show V G Γ 2 0 0 h0 15 [] []
    exact V_throwSW hC hQ hG th_376_383 ⟨by decide, by decide⟩ ⟨by decide, by decide⟩ dX11_needBidder_15 dX11_needBidder_18 dX11_needBidder_19 dX11_needBidder_22 dX11_needBidder_25 ⟨rfl, hq⟩)
  refine V_if_lt (tgt := 15) hC dX11_needBidder_1 (by decide) (fun hc => ?_) (fun hc => ?_)
  · have hq := hq.1 hc
    refine V_sub [] rfl ?_
    exact hq
  · have hq := hq.2 hc
    refine V_iload_n hC dX11_needBidder_4 1 rfl ?_
    refine V_aload_n hC dX11_needBidder_5 0 rfl ?_
    refine U_getR hC fl_X11_47 dX11_needBidder_6 hq (fun v1 hq => ?_)
    refine U_getI hC fl_X11_310 dX11_needBidder_9 hq (fun v2 hq => ?_)
    refine V_icmp_lt (tgt := 26) hC dX11_needBidder_12 (by decide) (fun hc => ?_) (fun hc => ?_)
    · have hq := hq.1 hc
      exact V_vret hC hQ ⟨by decide, by decide⟩ dX11_needBidder_26 ⟨rfl, rfl, hq⟩
    · have hq := hq.2 hc
      refine V_sub [] rfl ?_
      exact hq
theorem clV_X11_needBidder {G : Gx} (hG : GOK G) {Γ : Cx} {own : String} {cc : ByteArray} {nL fr lo mc ms cells slots pc : Nat} {hh : List (Nat × Nat × Nat × Nat)} {h : hw} {L : List (Nat × Value)} {rest : List Value} (hC : COK G Γ own cc nL fr lo mc ms hh) {idx : Nat} (hs : SV own idx yX11_needBidder cX11_needBidder 2 none 1) {p0 : Nat} {p1 : Int32} (hR : 6 + 1 ≤ fr ∧ 8 + (2 + 11) + 90 ≤ lo) (hw8 : (rest.map fun v => v.category).sum ≤ 8) (hcs : cells + 1 ≤ mc ∧ slots + 6 ≤ ms) (hdg : decode cc pc = .ok (.invokevirtual idx, 3)) (ho : isO h p0 11) {post : Prop} {xp : String → Prop} (hq : wp_X11_needBidder G p0 p1 h post xp) (kx : ∀ E : String, xp E → VX G Γ nL (cells + 1) (slots + 6) h pc L rest E) (kk : post → V G Γ nL (cells + 1) (slots + 6) h (pc + 3) L rest) : V G Γ nL cells slots h pc L (.int p1 :: .ref p0 :: rest) :=
  V_callV (As := [.int p1]) (r9 := (RX11, TX11, 8)) hC (ct_X11_needBidder hG p0 p1 h post xp hq) hs ho rfl rfl rfl hR hw8 hcs hdg (fun E h1 z => by obtain ⟨rfl, hz⟩ := z; exact kx E hz) (fun v h1 z => by obtain ⟨rfl, rfl, hz⟩ := z; exact kk hz)
set_option maxRecDepth 100000 in
set_option maxHeartbeats 4000000 in
theorem ct_X11_bought {G : Gx} (hG : GOK G) (p0 : Nat) (p1 : Int32) (h0 : hw) (post : Int32 → Prop) (xp : String → Prop) (hq : wp_X11_bought G p0 p1 h0 post xp) : CT G yX11_bought cX11_bought 2 (some .int) 7 111 1 6 [.ref p0, .int p1] h0 (fun v h1 => ∃ r : Int32, v = some (.int r) ∧ h1 = h0 ∧ post r) (fun E h1 => h1 = h0 ∧ xp E) := by
  refine CT_of hG (by decide) (Nat.le_of_ble_eq_true rfl) (fun Γ hC hQ hN => ?_)
  have hC : COK G Γ "Bandplan" cX11_bought 2 7 111 1 6 [] := hC
  unfold wp_X11_bought at hq
  show V G Γ 2 0 0 h0 0 [(0, .ref p0), (1, .int p1)] []
  refine V_aload_n hC dX11_bought_0 0 rfl ?_
  refine V_iload_n hC dX11_bought_1 1 rfl ?_
  obtain ⟨hz, hq⟩ := hq
  refine clV_X11_needBidder hG hC sv_X11_320 ⟨by decide, by decide⟩ (Nat.le_of_ble_eq_true rfl) ⟨by decide, by decide⟩ dX11_bought_2 hz hq (fun E hx => VX_out hC hQ ⟨by decide, by decide⟩ ⟨rfl, hx⟩) (fun hq => ?_)
  show V G Γ 2 1 6 h0 5 [(0, .ref p0), (1, .int p1)] []
  refine V_aload_n hC dX11_bought_5 0 rfl ?_
  refine U_getR hC fl_X11_47 dX11_bought_6 hq (fun v1 hq => ?_)
  refine U_getR hC fl_X11_323 dX11_bought_9 hq (fun v2 hq => ?_)
  refine V_iload_n hC dX11_bought_12 1 rfl ?_
  obtain ⟨hz, hq⟩ := hq
  refine clV_X7_at hG hC sv_X11_226 ⟨by decide, by decide⟩ (Nat.le_of_ble_eq_true rfl) ⟨by decide, by decide⟩ dX11_bought_13 hz hq (fun r3 hq => ?_)
  show V G Γ 2 1 6 h0 16 [(0, .ref p0), (1, .int p1)] [.int r3]
  exact V_iret hC hQ rfl rfl ⟨by decide, by decide⟩ dX11_bought_16 ⟨_, rfl, rfl, hq⟩
theorem clV_X11_bought {G : Gx} (hG : GOK G) {Γ : Cx} {own : String} {cc : ByteArray} {nL fr lo mc ms cells slots pc : Nat} {hh : List (Nat × Nat × Nat × Nat)} {h : hw} {L : List (Nat × Value)} {rest : List Value} (hC : COK G Γ own cc nL fr lo mc ms hh) {idx : Nat} (hs : SV own idx yX11_bought cX11_bought 2 (some .int) 1) {p0 : Nat} {p1 : Int32} (hR : 7 + 1 ≤ fr ∧ 8 + (2 + 11) + 111 ≤ lo) (hw8 : (rest.map fun v => v.category).sum ≤ 8) (hcs : cells + 1 ≤ mc ∧ slots + 6 ≤ ms) (hdg : decode cc pc = .ok (.invokevirtual idx, 3)) (ho : isO h p0 11) {post : Int32 → Prop} {xp : String → Prop} (hq : wp_X11_bought G p0 p1 h post xp) (kx : ∀ E : String, xp E → VX G Γ nL (cells + 1) (slots + 6) h pc L rest E) (kk : ∀ (r : Int32) , post r → V G Γ nL (cells + 1) (slots + 6) h (pc + 3) L (.int r :: rest)) : V G Γ nL cells slots h pc L (.int p1 :: .ref p0 :: rest) :=
  V_callV (As := [.int p1]) (r9 := (RX11, TX11, 8)) hC (ct_X11_bought hG p0 p1 h post xp hq) hs ho rfl rfl rfl hR hw8 hcs hdg (fun E h1 z => by obtain ⟨rfl, hz⟩ := z; exact kx E hz) (fun v h1 z => by obtain ⟨r, rfl, rfl, hz⟩ := z; exact kk r hz)
set_option maxRecDepth 100000 in
set_option maxHeartbeats 4000000 in
theorem ct_X11_pays {G : Gx} (hG : GOK G) (p0 : Nat) (p1 : Int32) (h0 : hw) (post : Int64 → Prop) (xp : String → Prop) (hq : wp_X11_pays G p0 p1 h0 post xp) : CT G yX11_pays cX11_pays 2 (some .long) 7 111 1 6 [.ref p0, .int p1] h0 (fun v h1 => ∃ r : Int64, v = some (.long r) ∧ h1 = h0 ∧ post r) (fun E h1 => h1 = h0 ∧ xp E) := by
  refine CT_of hG (by decide) (Nat.le_of_ble_eq_true rfl) (fun Γ hC hQ hN => ?_)
  have hC : COK G Γ "Bandplan" cX11_pays 2 7 111 1 6 [] := hC
  unfold wp_X11_pays at hq
  show V G Γ 2 0 0 h0 0 [(0, .ref p0), (1, .int p1)] []
  refine V_aload_n hC dX11_pays_0 0 rfl ?_
  refine V_iload_n hC dX11_pays_1 1 rfl ?_
  obtain ⟨hz, hq⟩ := hq
  refine clV_X11_needBidder hG hC sv_X11_320 ⟨by decide, by decide⟩ (Nat.le_of_ble_eq_true rfl) ⟨by decide, by decide⟩ dX11_pays_2 hz hq (fun E hx => VX_out hC hQ ⟨by decide, by decide⟩ ⟨rfl, hx⟩) (fun hq => ?_)
  show V G Γ 2 1 6 h0 5 [(0, .ref p0), (1, .int p1)] []
  refine V_aload_n hC dX11_pays_5 0 rfl ?_
  refine U_getR hC fl_X11_47 dX11_pays_6 hq (fun v1 hq => ?_)
  refine U_getR hC fl_X11_326 dX11_pays_9 hq (fun v2 hq => ?_)
  refine V_iload_n hC dX11_pays_12 1 rfl ?_
  obtain ⟨hz, hq⟩ := hq
  refine clV_X7_at hG hC sv_X11_226 ⟨by decide, by decide⟩ (Nat.le_of_ble_eq_true rfl) ⟨by decide, by decide⟩ dX11_pays_13 hz hq (fun r3 hq => ?_)
  show V G Γ 2 1 6 h0 16 [(0, .ref p0), (1, .int p1)] [.int r3]
  refine V_i2l hC dX11_pays_16 ?_
  exact V_lret hC hQ ⟨by decide, by decide⟩ dX11_pays_17 ⟨_, rfl, rfl, hq⟩
theorem clV_X11_pays {G : Gx} (hG : GOK G) {Γ : Cx} {own : String} {cc : ByteArray} {nL fr lo mc ms cells slots pc : Nat} {hh : List (Nat × Nat × Nat × Nat)} {h : hw} {L : List (Nat × Value)} {rest : List Value} (hC : COK G Γ own cc nL fr lo mc ms hh) {idx : Nat} (hs : SV own idx yX11_pays cX11_pays 2 (some .long) 1) {p0 : Nat} {p1 : Int32} (hR : 7 + 1 ≤ fr ∧ 8 + (2 + 11) + 111 ≤ lo) (hw8 : (rest.map fun v => v.category).sum ≤ 8) (hcs : cells + 1 ≤ mc ∧ slots + 6 ≤ ms) (hdg : decode cc pc = .ok (.invokevirtual idx, 3)) (ho : isO h p0 11) {post : Int64 → Prop} {xp : String → Prop} (hq : wp_X11_pays G p0 p1 h post xp) (kx : ∀ E : String, xp E → VX G Γ nL (cells + 1) (slots + 6) h pc L rest E) (kk : ∀ (r : Int64) , post r → V G Γ nL (cells + 1) (slots + 6) h (pc + 3) L (.long r :: rest)) : V G Γ nL cells slots h pc L (.int p1 :: .ref p0 :: rest) :=
  V_callV (As := [.int p1]) (r9 := (RX11, TX11, 8)) hC (ct_X11_pays hG p0 p1 h post xp hq) hs ho rfl rfl rfl hR hw8 hcs hdg (fun E h1 z => by obtain ⟨rfl, hz⟩ := z; exact kx E hz) (fun v h1 z => by obtain ⟨r, rfl, rfl, hz⟩ := z; exact kk r hz)
set_option maxRecDepth 100000 in
set_option maxHeartbeats 4000000 in
theorem ct_X11_move {G : Gx} (hG : GOK G) (p0 : Nat) (p1 : Int32) (h0 : hw) (post : Int32 → hw → Prop) (xp : String → hw → Prop) (hq : wp_X11_move G p0 p1 h0 post xp) : CT G yX11_move cX11_move 3 (some .int) 15 380 2 12 [.ref p0, .int p1] h0 (fun v h1 => ∃ r : Int32, v = some (.int r) ∧ post r h1) (fun E h1 => xp E h1) := by
  refine CT_of hG (by decide) (Nat.le_of_ble_eq_true rfl) (fun Γ hC hQ hN => ?_)
  have hC : COK G Γ "Bandplan" cX11_move 3 15 380 2 12 [] := hC
  unfold wp_X11_move at hq
  show V G Γ 3 0 0 h0 0 [(0, .ref p0), (1, .int p1)] []
  refine V_aload_n hC dX11_move_0 0 rfl ?_
  refine V_iload_n hC dX11_move_1 1 rfl ?_
  refine V_iconst (v := 1) hC dX11_move_2 (by decide) ?_
  refine V_iconst (v := 4) hC dX11_move_3 (by decide) ?_
  obtain ⟨hz, hq⟩ := hq
  refine clV_X11_needRange hG hC sv_X11_70 ⟨by decide, by decide⟩ (Nat.le_of_ble_eq_true rfl) ⟨by decide, by decide⟩ dX11_move_4 hz hq (fun E hx => VX_out hC hQ ⟨by decide, by decide⟩ hx) (fun hq => ?_)
  show V G Γ 3 1 6 h0 7 [(0, .ref p0), (1, .int p1)] []
  refine V_aload_n hC dX11_move_7 0 rfl ?_
  refine U_getR hC fl_X11_40 dX11_move_8 hq (fun v1 hq => ?_)
  refine U_getI hC fl_X11_329 dX11_move_11 hq (fun v2 hq => ?_)
  refine V_if_ne (tgt := 28) hC dX11_move_14 (by decide) (fun hc => ?_) (fun hc => ?_)
  · have hq := hq.1 hc
    refine V_aload_n hC dX11_move_28 0 rfl ?_
    refine U_getR hC fl_X11_40 dX11_move_29 hq (fun v3 hq => ?_)
    refine U_getI hC fl_X11_334 dX11_move_32 hq (fun v4 hq => ?_)
    refine V_aload_n hC dX11_move_35 0 rfl ?_
    refine U_getR hC fl_X11_19 dX11_move_36 hq (fun v5 hq => ?_)
    obtain ⟨hz, hq⟩ := hq
    refine clV_X6_onesOn hG hC sv_X11_274 ⟨by decide, by decide⟩ (Nat.le_of_ble_eq_true rfl) ⟨by decide, by decide⟩ dX11_move_39 hz hq (fun r6 hq => ?_)
    show V G Γ 3 1 6 h0 42 [(0, .ref p0), (1, .int p1)] [.int r6, .int v4]
    refine V_iand hC dX11_move_42 ?_
    refine V_istore_n (L' := [(0, .ref p0), (1, .int p1), (2, .int (v4 &&& r6))]) hC dX11_move_43 rfl (by decide) [1, 2, 0] rfl ?_
    refine V_aload_n hC dX11_move_44 0 rfl ?_
    refine U_getR hC fl_X11_33 dX11_move_45 hq (fun v7 hq => ?_)
    refine V_aload_n hC dX11_move_48 0 rfl ?_
    refine U_getR hC fl_X11_10 dX11_move_49 hq (fun v8 hq => ?_)
    refine V_aload_n hC dX11_move_52 0 rfl ?_
    refine U_getR hC fl_X11_40 dX11_move_53 hq (fun v9 hq => ?_)
    refine U_getI hC fl_X11_337 dX11_move_56 hq (fun v10 hq => ?_)
    obtain ⟨hz, hq⟩ := hq
    refine clV_X5_prepare hG hC sv_X11_254 ⟨by decide, by decide⟩ (Nat.le_of_ble_eq_true rfl) ⟨by decide, by decide⟩ dX11_move_59 hz hq (fun h11 hq => ?_)
    show V G Γ 3 1 6 h11 62 [(0, .ref p0), (1, .int p1), (2, .int (v4 &&& r6))] []
    refine V_aload_n hC dX11_move_62 0 rfl ?_
    refine U_getR hC fl_X11_33 dX11_move_63 hq (fun v12 hq => ?_)
    refine V_iload_n hC dX11_move_66 2 rfl ?_
    obtain ⟨hz, hq⟩ := hq
    refine clV_X5_findFirst hG hC sv_X11_261 ⟨by decide, by decide⟩ (Nat.le_of_ble_eq_true rfl) ⟨by decide, by decide⟩ dX11_move_67 hz hq (fun r13 h14 hq => ?_)
    show V G Γ 3 1 6 h14 70 [(0, .ref p0), (1, .int p1), (2, .int (v4 &&& r6))] [.int r13]
    refine V_if_ne (tgt := 84) hC dX11_move_70 (by decide) (fun hc => ?_) (fun hc => ?_)
    · have hq := hq.1 hc
      refine V_aload_n hC dX11_move_84 0 rfl ?_
      refine U_getR hC fl_X11_54 dX11_move_85 hq (fun v15 hq => ?_)
      refine V_iload_n hC dX11_move_88 2 rfl ?_
      refine V_aload_n hC dX11_move_89 0 rfl ?_
      refine U_getR hC fl_X11_33 dX11_move_90 hq (fun v16 hq => ?_)
      refine V_aload_n hC dX11_move_93 0 rfl ?_
      refine U_getR hC fl_X11_19 dX11_move_94 hq (fun v17 hq => ?_)
      obtain ⟨hz, hq⟩ := hq
      refine clV_X4_begin hG hC sv_X11_340 ⟨by decide, by decide⟩ (Nat.le_of_ble_eq_true rfl) ⟨by decide, by decide⟩ dX11_move_97 hz hq (fun h18 hq => ?_)
      show V G Γ 3 1 6 h18 100 [(0, .ref p0), (1, .int p1), (2, .int (v4 &&& r6))] []
      refine V_aload_n hC dX11_move_100 0 rfl ?_
      refine U_getR hC fl_X11_54 dX11_move_101 hq (fun v19 hq => ?_)
      refine V_aload_n hC dX11_move_104 0 rfl ?_
      refine U_getR hC fl_X11_10 dX11_move_105 hq (fun v20 hq => ?_)
      refine V_aload_n hC dX11_move_108 0 rfl ?_
      refine U_getR hC fl_X11_33 dX11_move_109 hq (fun v21 hq => ?_)
      refine V_aload_n hC dX11_move_112 0 rfl ?_
      refine U_getR hC fl_X11_19 dX11_move_113 hq (fun v22 hq => ?_)
      refine V_iload_n hC dX11_move_116 1 rfl ?_
      obtain ⟨hz, hq⟩ := hq
      refine clV_X4_run hG hC sv_X11_343 ⟨by decide, by decide⟩ (Nat.le_of_ble_eq_true rfl) ⟨by decide, by decide⟩ dX11_move_117 hz hq (fun r23 h24 hq => ?_)
      show V G Γ 3 1 6 h24 120 [(0, .ref p0), (1, .int p1), (2, .int (v4 &&& r6))] [.int r23]
      exact V_iret hC hQ rfl rfl ⟨by decide, by decide⟩ dX11_move_120 ⟨_, rfl, hq⟩
    · have hq := hq.2 hc
      exact V_throwSW hC hQ hG th_221_266 ⟨by decide, by decide⟩ ⟨by decide, by decide⟩ dX11_move_73 dX11_move_76 dX11_move_77 dX11_move_80 dX11_move_83 hq
  · have hq := hq.2 hc
    exact V_throwSW hC hQ hG th_221_332 ⟨by decide, by decide⟩ ⟨by decide, by decide⟩ dX11_move_17 dX11_move_20 dX11_move_21 dX11_move_24 dX11_move_27 hq
theorem clV_X11_move {G : Gx} (hG : GOK G) {Γ : Cx} {own : String} {cc : ByteArray} {nL fr lo mc ms cells slots pc : Nat} {hh : List (Nat × Nat × Nat × Nat)} {h : hw} {L : List (Nat × Value)} {rest : List Value} (hC : COK G Γ own cc nL fr lo mc ms hh) {idx : Nat} (hs : SV own idx yX11_move cX11_move 3 (some .int) 1) {p0 : Nat} {p1 : Int32} (hR : 15 + 1 ≤ fr ∧ 8 + (3 + 11) + 380 ≤ lo) (hw8 : (rest.map fun v => v.category).sum ≤ 8) (hcs : cells + 2 ≤ mc ∧ slots + 12 ≤ ms) (hdg : decode cc pc = .ok (.invokevirtual idx, 3)) (ho : isO h p0 11) {post : Int32 → hw → Prop} {xp : String → hw → Prop} (hq : wp_X11_move G p0 p1 h post xp) (kx : ∀ (E : String) (h1 : hw), xp E h1 → VX G Γ nL (cells + 2) (slots + 12) h1 pc L rest E) (kk : ∀ (r : Int32) (h1 : hw) , post r h1 → V G Γ nL (cells + 2) (slots + 12) h1 (pc + 3) L (.int r :: rest)) : V G Γ nL cells slots h pc L (.int p1 :: .ref p0 :: rest) :=
  V_callV (As := [.int p1]) (r9 := (RX11, TX11, 8)) hC (ct_X11_move hG p0 p1 h post xp hq) hs ho rfl rfl rfl hR hw8 hcs hdg (fun E h1 z => kx E h1 z) (fun v h1 z => by obtain ⟨r, rfl, hz⟩ := z; exact kk r h1 hz)
set_option maxRecDepth 100000 in
set_option maxHeartbeats 4000000 in
theorem ct_X11_phaseOf {G : Gx} (hG : GOK G) (p0 : Nat) (p1 : Int32) (h0 : hw) (post : Int32 → Prop) (xp : String → Prop) (hq : wp_X11_phaseOf G p0 p1 h0 post xp) : CT G yX11_phaseOf cX11_phaseOf 4 (some .int) 7 115 2 12 [.ref p0, .int p1] h0 (fun v h1 => ∃ r : Int32, v = some (.int r) ∧ h1 = h0 ∧ post r) (fun E h1 => h1 = h0 ∧ xp E) := by
  refine CT_of hG (by decide) (Nat.le_of_ble_eq_true rfl) (fun Γ hC hQ hN => ?_)
  have hC : COK G Γ "Bandplan" cX11_phaseOf 4 7 115 2 12 [] := hC
  unfold wp_X11_phaseOf at hq
  show V G Γ 4 0 0 h0 0 [(0, .ref p0), (1, .int p1)] []
  refine V_aload_n hC dX11_phaseOf_0 0 rfl ?_
  refine V_iload_n hC dX11_phaseOf_1 1 rfl ?_
  obtain ⟨hz, hq⟩ := hq
  refine clV_X11_stationAt hG hC sv_X11_143 ⟨by decide, by decide⟩ (Nat.le_of_ble_eq_true rfl) ⟨by decide, by decide⟩ dX11_phaseOf_2 hz hq (fun E hx => VX_out hC hQ ⟨by decide, by decide⟩ ⟨rfl, hx⟩) (fun r1 hq => ?_)
  show V G Γ 4 1 6 h0 5 [(0, .ref p0), (1, .int p1)] [.ref r1]
  refine V_astore_n (L' := [(0, .ref p0), (1, .int p1), (2, .ref r1)]) hC dX11_phaseOf_5 rfl (by decide) [1, 2, 0] rfl ?_
  refine V_aload_n hC dX11_phaseOf_6 0 rfl ?_
  refine U_getR hC fl_X11_54 dX11_phaseOf_7 hq (fun v2 hq => ?_)
  refine U_getR hC fl_X11_346 dX11_phaseOf_10 hq (fun v3 hq => ?_)
  refine V_aload_n hC dX11_phaseOf_13 2 rfl ?_
  refine U_getI hC fl_X11_232 dX11_phaseOf_14 hq (fun v4 hq => ?_)
  obtain ⟨hz, hq⟩ := hq
  refine clV_X7_at hG hC sv_X11_226 ⟨by decide, by decide⟩ (Nat.le_of_ble_eq_true rfl) ⟨by decide, by decide⟩ dX11_phaseOf_17 hz hq (fun r5 hq => ?_)
  show V G Γ 4 1 6 h0 20 [(0, .ref p0), (1, .int p1), (2, .ref r1)] [.int r5]
  refine V_istore_n (L' := [(0, .ref p0), (1, .int p1), (2, .ref r1), (3, .int r5)]) hC dX11_phaseOf_20 rfl (by decide) [1, 2, 3, 0] rfl ?_
  refine V_iload_n hC dX11_phaseOf_21 3 rfl ?_
  refine V_iconst (v := (-1)) hC dX11_phaseOf_22 (by decide) ?_
  refine V_icmp_ne (tgt := 37) hC dX11_phaseOf_23 (by decide) (fun hc => ?_) (fun hc => ?_)
  · have hq := hq.1 hc
    refine V_iload_n hC dX11_phaseOf_37 3 rfl ?_
    exact V_iret hC hQ rfl rfl ⟨by decide, by decide⟩ dX11_phaseOf_38 ⟨_, rfl, rfl, hq⟩
  · have hq := hq.2 hc
    exact V_throwNSW hC hQ hG th_162_349 ⟨by decide, by decide⟩ ⟨by decide, by decide⟩ dX11_phaseOf_26 dX11_phaseOf_29 dX11_phaseOf_30 dX11_phaseOf_33 dX11_phaseOf_36 ⟨rfl, hq⟩
theorem clV_X11_phaseOf {G : Gx} (hG : GOK G) {Γ : Cx} {own : String} {cc : ByteArray} {nL fr lo mc ms cells slots pc : Nat} {hh : List (Nat × Nat × Nat × Nat)} {h : hw} {L : List (Nat × Value)} {rest : List Value} (hC : COK G Γ own cc nL fr lo mc ms hh) {idx : Nat} (hs : SV own idx yX11_phaseOf cX11_phaseOf 4 (some .int) 1) {p0 : Nat} {p1 : Int32} (hR : 7 + 1 ≤ fr ∧ 8 + (4 + 11) + 115 ≤ lo) (hw8 : (rest.map fun v => v.category).sum ≤ 8) (hcs : cells + 2 ≤ mc ∧ slots + 12 ≤ ms) (hdg : decode cc pc = .ok (.invokevirtual idx, 3)) (ho : isO h p0 11) {post : Int32 → Prop} {xp : String → Prop} (hq : wp_X11_phaseOf G p0 p1 h post xp) (kx : ∀ E : String, xp E → VX G Γ nL (cells + 2) (slots + 12) h pc L rest E) (kk : ∀ (r : Int32) , post r → V G Γ nL (cells + 2) (slots + 12) h (pc + 3) L (.int r :: rest)) : V G Γ nL cells slots h pc L (.int p1 :: .ref p0 :: rest) :=
  V_callV (As := [.int p1]) (r9 := (RX11, TX11, 8)) hC (ct_X11_phaseOf hG p0 p1 h post xp hq) hs ho rfl rfl rfl hR hw8 hcs hdg (fun E h1 z => by obtain ⟨rfl, hz⟩ := z; exact kx E hz) (fun v h1 z => by obtain ⟨r, rfl, rfl, hz⟩ := z; exact kk r hz)
set_option maxRecDepth 100000 in
set_option maxHeartbeats 4000000 in
theorem ct_X11_dark {G : Gx} (hG : GOK G) (p0 : Nat) (h0 : hw) (post : Int32 → Prop) (hq : wp_X11_dark G p0 h0 post) : CT G yX11_dark cX11_dark 1 (some .int) 1 30 0 0 [.ref p0] h0 (fun v h1 => ∃ r : Int32, v = some (.int r) ∧ h1 = h0 ∧ post r) (fun E h1 => False) := by
  refine CT_of hG (by decide) (Nat.le_of_ble_eq_true rfl) (fun Γ hC hQ hN => ?_)
  have hC : COK G Γ "Bandplan" cX11_dark 1 1 30 0 0 [] := hC
  unfold wp_X11_dark at hq
  show V G Γ 1 0 0 h0 0 [(0, .ref p0)] []
  refine V_aload_n hC dX11_dark_0 0 rfl ?_
  refine U_getR hC fl_X11_54 dX11_dark_1 hq (fun v1 hq => ?_)
  refine U_getI hC fl_X11_351 dX11_dark_4 hq (fun v2 hq => ?_)
  exact V_iret hC hQ rfl rfl ⟨by decide, by decide⟩ dX11_dark_7 ⟨_, rfl, rfl, hq⟩
theorem clV_X11_dark {G : Gx} (hG : GOK G) {Γ : Cx} {own : String} {cc : ByteArray} {nL fr lo mc ms cells slots pc : Nat} {hh : List (Nat × Nat × Nat × Nat)} {h : hw} {L : List (Nat × Value)} {rest : List Value} (hC : COK G Γ own cc nL fr lo mc ms hh) {idx : Nat} (hs : SV own idx yX11_dark cX11_dark 1 (some .int) 0) {p0 : Nat} (hR : 1 + 1 ≤ fr ∧ 8 + (1 + 11) + 30 ≤ lo) (hw8 : (rest.map fun v => v.category).sum ≤ 8) (hcs : cells + 0 ≤ mc ∧ slots + 0 ≤ ms) (hdg : decode cc pc = .ok (.invokevirtual idx, 3)) (ho : isO h p0 11) {post : Int32 → Prop} (hq : wp_X11_dark G p0 h post) (kk : ∀ (r : Int32) , post r → V G Γ nL (cells + 0) (slots + 0) h (pc + 3) L (.int r :: rest)) : V G Γ nL cells slots h pc L (.ref p0 :: rest) :=
  V_callV (As := []) (r9 := (RX11, TX11, 8)) hC (ct_X11_dark hG p0 h post hq) hs ho rfl rfl rfl hR hw8 hcs hdg (fun E h1 z => z.elim) (fun v h1 z => by obtain ⟨r, rfl, rfl, hz⟩ := z; exact kk r hz)
set_option maxRecDepth 100000 in
set_option maxHeartbeats 4000000 in
theorem ct_X11_onShare {G : Gx} (hG : GOK G) (p0 : Nat) (h0 : hw) (post : UInt32 → Prop) (xp : String → Prop) (hq : wp_X11_onShare G p0 h0 post xp) : CT G yX11_onShare cX11_onShare 2 (some .float) 6 90 1 6 [.ref p0] h0 (fun v h1 => ∃ r : UInt32, v = some (.float r) ∧ h1 = h0 ∧ post r) (fun E h1 => h1 = h0 ∧ xp E) := by
  refine CT_of hG (by decide) (Nat.le_of_ble_eq_true rfl) (fun Γ hC hQ hN => ?_)
  have hC : COK G Γ "Bandplan" cX11_onShare 2 6 90 1 6 [] := hC
  unfold wp_X11_onShare at hq
  show V G Γ 2 0 0 h0 0 [(0, .ref p0)] []
  refine V_aload_n hC dX11_onShare_0 0 rfl ?_
  refine U_getR hC fl_X11_10 dX11_onShare_1 hq (fun v1 hq => ?_)
  refine U_getR hC fl_X11_125 dX11_onShare_4 hq (fun v2 hq => ?_)
  obtain ⟨hz, hq⟩ := hq
  refine clV_Jx4a65c_size_8abf5 hG hC sv_X11_91 ⟨by decide, by decide⟩ (Nat.le_of_ble_eq_true rfl) ⟨by decide, by decide⟩ dX11_onShare_7 hz hq (fun r3 hq => ?_)
  show V G Γ 2 0 0 h0 10 [(0, .ref p0)] [.int r3]
  refine V_istore_n (L' := [(0, .ref p0), (1, .int r3)]) hC dX11_onShare_10 rfl (by decide) [1, 0] rfl ?_
  refine V_iload_n hC dX11_onShare_11 1 rfl ?_
  refine V_if_ne (tgt := 26) hC dX11_onShare_12 (by decide) (fun hc => ?_) (fun hc => ?_)
  · have hq := hq.1 hc
    refine V_aload_n hC dX11_onShare_26 0 rfl ?_
    refine U_getR hC fl_X11_19 dX11_onShare_27 hq (fun v4 hq => ?_)
    obtain ⟨hz, hq⟩ := hq
    refine clV_X6_onesOn hG hC sv_X11_274 ⟨by decide, by decide⟩ (Nat.le_of_ble_eq_true rfl) ⟨by decide, by decide⟩ dX11_onShare_30 hz hq (fun r5 hq => ?_)
    show V G Γ 2 0 0 h0 33 [(0, .ref p0), (1, .int r3)] [.int r5]
    refine clS_J6_bitCount_0f7a4 hG hC ss_X11_297 ⟨by decide, by decide⟩ (Nat.le_of_ble_eq_true rfl) ⟨by decide, by decide⟩ dX11_onShare_33 hq (fun r6 hq => ?_)
    show V G Γ 2 0 0 h0 36 [(0, .ref p0), (1, .int r3)] [.int r6]
    refine V_i2f hC dX11_onShare_36 ?_
    refine V_iload_n hC dX11_onShare_37 1 rfl ?_
    refine V_i2f hC dX11_onShare_38 ?_
    obtain ⟨hz, hq⟩ := hq
    refine V_fdiv hC dX11_onShare_39 hz ?_
    exact V_fret hC hQ ⟨by decide, by decide⟩ dX11_onShare_40 ⟨_, rfl, rfl, hq⟩
  · have hq := hq.2 hc
    exact V_throwSW hC hQ hG th_354_356 ⟨by decide, by decide⟩ ⟨by decide, by decide⟩ dX11_onShare_15 dX11_onShare_18 dX11_onShare_19 dX11_onShare_22 dX11_onShare_25 ⟨rfl, hq⟩
theorem clV_X11_onShare {G : Gx} (hG : GOK G) {Γ : Cx} {own : String} {cc : ByteArray} {nL fr lo mc ms cells slots pc : Nat} {hh : List (Nat × Nat × Nat × Nat)} {h : hw} {L : List (Nat × Value)} {rest : List Value} (hC : COK G Γ own cc nL fr lo mc ms hh) {idx : Nat} (hs : SV own idx yX11_onShare cX11_onShare 2 (some .float) 0) {p0 : Nat} (hR : 6 + 1 ≤ fr ∧ 8 + (2 + 11) + 90 ≤ lo) (hw8 : (rest.map fun v => v.category).sum ≤ 8) (hcs : cells + 1 ≤ mc ∧ slots + 6 ≤ ms) (hdg : decode cc pc = .ok (.invokevirtual idx, 3)) (ho : isO h p0 11) {post : UInt32 → Prop} {xp : String → Prop} (hq : wp_X11_onShare G p0 h post xp) (kx : ∀ E : String, xp E → VX G Γ nL (cells + 1) (slots + 6) h pc L rest E) (kk : ∀ (r : UInt32) , post r → V G Γ nL (cells + 1) (slots + 6) h (pc + 3) L (.float r :: rest)) : V G Γ nL cells slots h pc L (.ref p0 :: rest) :=
  V_callV (As := []) (r9 := (RX11, TX11, 8)) hC (ct_X11_onShare hG p0 h post xp hq) hs ho rfl rfl rfl hR hw8 hcs hdg (fun E h1 z => by obtain ⟨rfl, hz⟩ := z; exact kx E hz) (fun v h1 z => by obtain ⟨r, rfl, rfl, hz⟩ := z; exact kk r hz)
set_option maxRecDepth 100000 in
set_option maxHeartbeats 4000000 in
theorem ct_X11_meanLevel {G : Gx} (hG : GOK G) (p0 : Nat) (h0 : hw) (post : UInt64 → Prop) (xp : String → Prop) (hq : wp_X11_meanLevel G p0 h0 post xp) : CT G yX11_meanLevel cX11_meanLevel 4 (some .double) 6 94 1 6 [.ref p0] h0 (fun v h1 => ∃ r : UInt64, v = some (.double r) ∧ h1 = h0 ∧ post r) (fun E h1 => h1 = h0 ∧ xp E) := by
  refine CT_of hG (by decide) (Nat.le_of_ble_eq_true rfl) (fun Γ hC hQ hN => ?_)
  have hC : COK G Γ "Bandplan" cX11_meanLevel 4 6 94 1 6 [] := hC
  unfold wp_X11_meanLevel at hq
  show V G Γ 4 0 0 h0 0 [(0, .ref p0)] []
  refine V_aload_n hC dX11_meanLevel_0 0 rfl ?_
  refine U_getR hC fl_X11_19 dX11_meanLevel_1 hq (fun v1 hq => ?_)
  obtain ⟨hz, hq⟩ := hq
  refine clV_X6_onesOn hG hC sv_X11_274 ⟨by decide, by decide⟩ (Nat.le_of_ble_eq_true rfl) ⟨by decide, by decide⟩ dX11_meanLevel_4 hz hq (fun r2 hq => ?_)
  show V G Γ 4 0 0 h0 7 [(0, .ref p0)] [.int r2]
  refine clS_J6_bitCount_0f7a4 hG hC ss_X11_297 ⟨by decide, by decide⟩ (Nat.le_of_ble_eq_true rfl) ⟨by decide, by decide⟩ dX11_meanLevel_7 hq (fun r3 hq => ?_)
  show V G Γ 4 0 0 h0 10 [(0, .ref p0)] [.int r3]
  refine V_istore_n (L' := [(0, .ref p0), (1, .int r3)]) hC dX11_meanLevel_10 rfl (by decide) [1, 0] rfl ?_
  refine V_iload_n hC dX11_meanLevel_11 1 rfl ?_
  refine V_if_ne (tgt := 26) hC dX11_meanLevel_12 (by decide) (fun hc => ?_) (fun hc => ?_)
  · have hq := hq.1 hc
    refine V_iconst (v := 0) hC dX11_meanLevel_26 (by decide) ?_
    refine V_istore_n (L' := [(0, .ref p0), (1, .int r3), (2, .int 0)]) hC dX11_meanLevel_27 rfl (by decide) [1, 2, 0] rfl ?_
    refine V_iconst (v := 0) hC dX11_meanLevel_28 (by decide) ?_
    refine V_istore_n (L' := [(0, .ref p0), (1, .int r3), (2, .int 0), (3, .int 0)]) hC dX11_meanLevel_29 rfl (by decide) [1, 2, 3, 0] rfl ?_
    have hq := hq (fun (x2_4 : Int32) (x3_5 : Int32) => V G Γ 4 0 0 h0 30 [(0, .ref p0), (1, .int r3), (2, .int x2_4), (3, .int x3_5)] []) (by
      intro x2_4 x3_5 hq
      show V G Γ 4 0 0 h0 30 [(0, .ref p0), (1, .int r3), (2, .int x2_4), (3, .int x3_5)] []
      refine V_iload_n hC dX11_meanLevel_30 3 rfl ?_
      refine V_aload_n hC dX11_meanLevel_31 0 rfl ?_
      refine U_getR hC fl_X11_10 dX11_meanLevel_32 hq (fun v6 hq => ?_)
      refine U_getR hC fl_X11_125 dX11_meanLevel_35 hq (fun v7 hq => ?_)
      obtain ⟨hz, hq⟩ := hq
      refine clV_Jx4a65c_size_8abf5 hG hC sv_X11_91 ⟨by decide, by decide⟩ (Nat.le_of_ble_eq_true rfl) ⟨by decide, by decide⟩ dX11_meanLevel_38 hz hq (fun r8 hq => ?_)
      show V G Γ 4 0 0 h0 41 [(0, .ref p0), (1, .int r3), (2, .int x2_4), (3, .int x3_5)] [.int r8, .int x3_5]
      refine V_icmp_ge (tgt := 89) hC dX11_meanLevel_41 (by decide) (fun hc => ?_) (fun hc => ?_)
      · have hq := hq.1 hc
        refine V_iload_n hC dX11_meanLevel_89 2 rfl ?_
        refine V_i2d hC dX11_meanLevel_90 ?_
        refine V_iload_n hC dX11_meanLevel_91 1 rfl ?_
        refine V_i2d hC dX11_meanLevel_92 ?_
        obtain ⟨hz, hq⟩ := hq
        refine V_ddiv hC dX11_meanLevel_93 hz ?_
        exact V_dret hC hQ ⟨by decide, by decide⟩ dX11_meanLevel_94 ⟨_, rfl, rfl, hq⟩
      · have hq := hq.2 hc
        refine V_aload_n hC dX11_meanLevel_44 0 rfl ?_
        refine U_getR hC fl_X11_19 dX11_meanLevel_45 hq (fun v9 hq => ?_)
        refine U_getR hC fl_X11_154 dX11_meanLevel_48 hq (fun v10 hq => ?_)
        refine V_iload_n hC dX11_meanLevel_51 3 rfl ?_
        obtain ⟨hz, hq⟩ := hq
        refine clV_X7_at hG hC sv_X11_226 ⟨by decide, by decide⟩ (Nat.le_of_ble_eq_true rfl) ⟨by decide, by decide⟩ dX11_meanLevel_52 hz hq (fun r11 hq => ?_)
        show V G Γ 4 0 0 h0 55 [(0, .ref p0), (1, .int r3), (2, .int x2_4), (3, .int x3_5)] [.int r11]
        refine V_iconst (v := (-1)) hC dX11_meanLevel_55 (by decide) ?_
        have hq := hq (fun (x2_12 : Int32) => V G Γ 4 0 0 h0 83 [(0, .ref p0), (1, .int r3), (2, .int x2_12), (3, .int x3_5)] []) (by
          intro x2_12 hq
          show V G Γ 4 0 0 h0 83 [(0, .ref p0), (1, .int r3), (2, .int x2_12), (3, .int x3_5)] []
          refine V_iinc (j := 3) (v := (x3_5 + 1)) (L' := [(0, .ref p0), (1, .int r3), (2, .int x2_12), (3, .int (x3_5 + 1))]) hC dX11_meanLevel_83 rfl rfl (by decide) [1, 2, 3, 0] rfl ?_
          refine V_goto (tgt := 30) hC dX11_meanLevel_86 (by decide) ?_
          exact hq)
        refine V_icmp_eq (tgt := 83) hC dX11_meanLevel_56 (by decide) (fun hc => ?_) (fun hc => ?_)
        · have hq := hq.1 hc
          exact hq
        · have hq := hq.2 hc
          refine V_iload_n hC dX11_meanLevel_59 2 rfl ?_
          refine V_aload_n hC dX11_meanLevel_60 0 rfl ?_
          refine U_getR hC fl_X11_10 dX11_meanLevel_61 hq (fun v13 hq => ?_)
          refine V_aload_n hC dX11_meanLevel_64 0 rfl ?_
          refine U_getR hC fl_X11_10 dX11_meanLevel_65 hq (fun v14 hq => ?_)
          refine U_getR hC fl_X11_125 dX11_meanLevel_68 hq (fun v15 hq => ?_)
          refine V_iload_n hC dX11_meanLevel_71 3 rfl ?_
          obtain ⟨hz, hq⟩ := hq
          refine clV_Jx4a65c_get_915e3 hG hC sv_X11_361 ⟨by decide, by decide⟩ (Nat.le_of_ble_eq_true rfl) ⟨by decide, by decide⟩ dX11_meanLevel_72 hz hq (fun r16 hq => ?_)
          show V G Γ 4 0 0 h0 75 [(0, .ref p0), (1, .int r3), (2, .int x2_4), (3, .int x3_5)] [.ref r16, .ref v13, .int x2_4]
          obtain ⟨hz, hq⟩ := hq
          refine V_cast (r9 := (RX10, TX10, 6)) hC aw_3_228 rfl hz dX11_meanLevel_75 ?_
          obtain ⟨hz, hq⟩ := hq
          refine clV_X0_levelOf hG hC sv_X11_147 ⟨by decide, by decide⟩ (Nat.le_of_ble_eq_true rfl) ⟨by decide, by decide⟩ dX11_meanLevel_78 hz hq (fun r17 hq => ?_)
          show V G Γ 4 0 0 h0 81 [(0, .ref p0), (1, .int r3), (2, .int x2_4), (3, .int x3_5)] [.int r17, .int x2_4]
          refine V_iadd hC dX11_meanLevel_81 ?_
          refine V_istore_n (L' := [(0, .ref p0), (1, .int r3), (2, .int (x2_4 + r17)), (3, .int x3_5)]) hC dX11_meanLevel_82 rfl (by decide) [1, 2, 0, 3] rfl ?_
          exact hq)
    exact hq
  · have hq := hq.2 hc
    exact V_throwSW hC hQ hG th_354_359 ⟨by decide, by decide⟩ ⟨by decide, by decide⟩ dX11_meanLevel_15 dX11_meanLevel_18 dX11_meanLevel_19 dX11_meanLevel_22 dX11_meanLevel_25 ⟨rfl, hq⟩
theorem clV_X11_meanLevel {G : Gx} (hG : GOK G) {Γ : Cx} {own : String} {cc : ByteArray} {nL fr lo mc ms cells slots pc : Nat} {hh : List (Nat × Nat × Nat × Nat)} {h : hw} {L : List (Nat × Value)} {rest : List Value} (hC : COK G Γ own cc nL fr lo mc ms hh) {idx : Nat} (hs : SV own idx yX11_meanLevel cX11_meanLevel 4 (some .double) 0) {p0 : Nat} (hR : 6 + 1 ≤ fr ∧ 8 + (4 + 11) + 94 ≤ lo) (hw8 : (rest.map fun v => v.category).sum ≤ 8) (hcs : cells + 1 ≤ mc ∧ slots + 6 ≤ ms) (hdg : decode cc pc = .ok (.invokevirtual idx, 3)) (ho : isO h p0 11) {post : UInt64 → Prop} {xp : String → Prop} (hq : wp_X11_meanLevel G p0 h post xp) (kx : ∀ E : String, xp E → VX G Γ nL (cells + 1) (slots + 6) h pc L rest E) (kk : ∀ (r : UInt64) , post r → V G Γ nL (cells + 1) (slots + 6) h (pc + 3) L (.double r :: rest)) : V G Γ nL cells slots h pc L (.ref p0 :: rest) :=
  V_callV (As := []) (r9 := (RX11, TX11, 8)) hC (ct_X11_meanLevel hG p0 h post xp hq) hs ho rfl rfl rfl hR hw8 hcs hdg (fun E h1 z => by obtain ⟨rfl, hz⟩ := z; exact kx E hz) (fun v h1 z => by obtain ⟨r, rfl, rfl, hz⟩ := z; exact kk r hz)
set_option maxRecDepth 100000 in
set_option maxHeartbeats 4000000 in
theorem ct_X11_isSound {G : Gx} (hG : GOK G) (p0 : Nat) (h0 : hw) (post : Int32 → Prop) (hq : wp_X11_isSound G p0 h0 post) : CT G yX11_isSound cX11_isSound 2 (some .boolean) 7 170 0 0 [.ref p0] h0 (fun v h1 => ∃ r : Int32, v = some (.int r) ∧ h1 = h0 ∧ post r) (fun E h1 => False) := by
  refine CT_of hG (by decide) (Nat.le_of_ble_eq_true rfl) (fun Γ hC hQ hN => ?_)
  have hC : COK G Γ "Bandplan" cX11_isSound 2 7 170 0 0 [] := hC
  unfold wp_X11_isSound at hq
  show V G Γ 2 0 0 h0 0 [(0, .ref p0)] []
  refine V_aload_n hC dX11_isSound_0 0 rfl ?_
  refine U_getR hC fl_X11_54 dX11_isSound_1 hq (fun v1 hq => ?_)
  refine U_getI hC fl_X11_365 dX11_isSound_4 hq (fun v2 hq => ?_)
  have hq := hq (fun (t3 : Int32) => V G Γ 2 0 0 h0 32 [(0, .ref p0)] [.int t3]) (by
    intro t3 hq
    show V G Γ 2 0 0 h0 32 [(0, .ref p0)] [.int t3]
    refine V_istore_n (L' := [(0, .ref p0), (1, .int t3)]) hC dX11_isSound_32 rfl (by decide) [1, 0] rfl ?_
    refine V_iload_n hC dX11_isSound_33 1 rfl ?_
    have hq := hq (V G Γ 2 0 0 h0 71 [] []) (by
      intro hq
      show V G Γ 2 0 0 h0 71 [] []
      refine V_iconst (v := 0) hC dX11_isSound_71 (by decide) ?_
      exact V_iret hC hQ rfl rfl ⟨by decide, by decide⟩ dX11_isSound_72 ⟨_, rfl, rfl, hq⟩)
    refine V_if_eq (tgt := 71) hC dX11_isSound_34 (by decide) (fun hc => ?_) (fun hc => ?_)
    · have hq := hq.1 hc
      refine V_sub [] rfl ?_
      exact hq
    · have hq := hq.2 hc
      refine V_aload_n hC dX11_isSound_37 0 rfl ?_
      refine U_getR hC fl_X11_19 dX11_isSound_38 hq (fun v4 hq => ?_)
      obtain ⟨hz, hq⟩ := hq
      refine clV_X6_holdsToday hG hC sv_X11_368 ⟨by decide, by decide⟩ (Nat.le_of_ble_eq_true rfl) ⟨by decide, by decide⟩ dX11_isSound_41 hz hq (fun r5 hq => ?_)
      show V G Γ 2 0 0 h0 44 [(0, .ref p0), (1, .int t3)] [.int r5]
      refine V_if_eq (tgt := 71) hC dX11_isSound_44 (by decide) (fun hc => ?_) (fun hc => ?_)
      · have hq := hq.1 hc
        refine V_sub [] rfl ?_
        exact hq
      · have hq := hq.2 hc
        refine V_aload_n hC dX11_isSound_47 0 rfl ?_
        refine U_getR hC fl_X11_47 dX11_isSound_48 hq (fun v6 hq => ?_)
        obtain ⟨hz, hq⟩ := hq
        refine clV_X2_isFair hG hC sv_X11_372 ⟨by decide, by decide⟩ (Nat.le_of_ble_eq_true rfl) ⟨by decide, by decide⟩ dX11_isSound_51 hz hq (fun r7 hq => ?_)
        show V G Γ 2 0 0 h0 54 [(0, .ref p0), (1, .int t3)] [.int r7]
        refine V_if_eq (tgt := 71) hC dX11_isSound_54 (by decide) (fun hc => ?_) (fun hc => ?_)
        · have hq := hq.1 hc
          refine V_sub [] rfl ?_
          exact hq
        · have hq := hq.2 hc
          refine V_aload_n hC dX11_isSound_57 0 rfl ?_
          refine U_getR hC fl_X11_40 dX11_isSound_58 hq (fun v8 hq => ?_)
          obtain ⟨hz, hq⟩ := hq
          refine clV_X8_isFair hG hC sv_X11_375 ⟨by decide, by decide⟩ (Nat.le_of_ble_eq_true rfl) ⟨by decide, by decide⟩ dX11_isSound_61 hz hq (fun r9 hq => ?_)
          show V G Γ 2 0 0 h0 64 [(0, .ref p0), (1, .int t3)] [.int r9]
          refine V_if_eq (tgt := 71) hC dX11_isSound_64 (by decide) (fun hc => ?_) (fun hc => ?_)
          · have hq := hq.1 hc
            refine V_sub [] rfl ?_
            exact hq
          · have hq := hq.2 hc
            refine V_iconst (v := 1) hC dX11_isSound_67 (by decide) ?_
            refine V_goto (tgt := 72) hC dX11_isSound_68 (by decide) ?_
            exact V_iret hC hQ rfl rfl ⟨by decide, by decide⟩ dX11_isSound_72 ⟨_, rfl, rfl, hq⟩)
  have hq := hq (V G Γ 2 0 0 h0 27 [(0, .ref p0)] []) (by
    intro hq
    show V G Γ 2 0 0 h0 27 [(0, .ref p0)] []
    refine V_iconst (v := 1) hC dX11_isSound_27 (by decide) ?_
    refine V_goto (tgt := 32) hC dX11_isSound_28 (by decide) ?_
    exact hq)
  refine V_if_ne (tgt := 27) hC dX11_isSound_7 (by decide) (fun hc => ?_) (fun hc => ?_)
  · have hq := hq.1 hc
    exact hq
  · have hq := hq.2 hc
    refine V_aload_n hC dX11_isSound_10 0 rfl ?_
    refine U_getR hC fl_X11_10 dX11_isSound_11 hq (fun v10 hq => ?_)
    refine V_aload_n hC dX11_isSound_14 0 rfl ?_
    refine U_getR hC fl_X11_19 dX11_isSound_15 hq (fun v11 hq => ?_)
    refine U_getR hC fl_X11_154 dX11_isSound_18 hq (fun v12 hq => ?_)
    obtain ⟨hz, hq⟩ := hq
    refine clV_X0_allKeep hG hC sv_X11_217 ⟨by decide, by decide⟩ (Nat.le_of_ble_eq_true rfl) ⟨by decide, by decide⟩ dX11_isSound_21 hz hq (fun r13 hq => ?_)
    show V G Γ 2 0 0 h0 24 [(0, .ref p0)] [.int r13]
    refine V_if_eq (tgt := 31) hC dX11_isSound_24 (by decide) (fun hc => ?_) (fun hc => ?_)
    · have hq := hq.1 hc
      refine V_iconst (v := 0) hC dX11_isSound_31 (by decide) ?_
      exact hq
    · have hq := hq.2 hc
      exact hq
theorem clV_X11_isSound {G : Gx} (hG : GOK G) {Γ : Cx} {own : String} {cc : ByteArray} {nL fr lo mc ms cells slots pc : Nat} {hh : List (Nat × Nat × Nat × Nat)} {h : hw} {L : List (Nat × Value)} {rest : List Value} (hC : COK G Γ own cc nL fr lo mc ms hh) {idx : Nat} (hs : SV own idx yX11_isSound cX11_isSound 2 (some .boolean) 0) {p0 : Nat} (hR : 7 + 1 ≤ fr ∧ 8 + (2 + 11) + 170 ≤ lo) (hw8 : (rest.map fun v => v.category).sum ≤ 8) (hcs : cells + 0 ≤ mc ∧ slots + 0 ≤ ms) (hdg : decode cc pc = .ok (.invokevirtual idx, 3)) (ho : isO h p0 11) {post : Int32 → Prop} (hq : wp_X11_isSound G p0 h post) (kk : ∀ (r : Int32) , post r → V G Γ nL (cells + 0) (slots + 0) h (pc + 3) L (.int r :: rest)) : V G Γ nL cells slots h pc L (.ref p0 :: rest) :=
  V_callV (As := []) (r9 := (RX11, TX11, 8)) hC (ct_X11_isSound hG p0 h post hq) hs ho rfl rfl rfl hR hw8 hcs hdg (fun E h1 z => z.elim) (fun v h1 z => by obtain ⟨r, rfl, rfl, hz⟩ := z; exact kk r hz)
set_option maxRecDepth 100000 in
set_option maxHeartbeats 4000000 in
theorem ct_X12_init {G : Gx} (hG : GOK G) (p0 : Nat) (h0 : hw) (post : hw → Prop) (hq : wp_X12_init G p0 h0 post) : CT G yX12_init cX12_init 2 none 5 120 26 709 [.ref p0] h0 (fun v h1 => v = none ∧ post h1) (fun E h1 => False) := by
  refine CT_of hG (by decide) (Nat.le_of_ble_eq_true rfl) (fun Γ hC hQ hN => ?_)
  have hC : COK G Γ "BandplanModel" cX12_init 2 5 120 26 709 [] := hC
  have hin := HIN hN rfl
  unfold wp_X12_init at hq
  show V G Γ 2 0 0 h0 0 [(0, .ref p0)] []
  refine V_aload_n hC dX12_init_0 0 rfl ?_
  refine V_objInit hC so_X12_1 (by decide) (Nat.le_of_ble_eq_true rfl) dX12_init_1 ?_
  refine V_aload_n hC dX12_init_4 0 rfl ?_
  refine V_sipush (v := 170) hC dX12_init_5 (by decide) ?_
  refine U_putO hC (by decide) fl_X12_7 fin_X12_2 rfl rfl dX12_init_8 hq (fun h1 hq => ?_)
  refine V_aload_n hC dX12_init_11 0 rfl ?_
  refine V_sipush (v := 400) hC dX12_init_12 (by decide) ?_
  refine U_newaI (room := 400) hC aw_1_93 ⟨by decide, by decide⟩ dX12_init_15 hq (fun a2 h3 hq => ?_)
  refine U_putF hC (Or.inl (by decide)) fl_X12_13 fin_X12_5 hin rfl rfl dX12_init_17 hq (fun h4 hq => ?_)
  refine V_aload_n hC dX12_init_20 0 rfl ?_
  refine V_bipush (v := 10) hC dX12_init_21 (by decide) ?_
  refine U_newaI (room := 10) hC aw_1_93 ⟨by decide, by decide⟩ dX12_init_23 hq (fun a5 h6 hq => ?_)
  refine U_putF hC (Or.inl (by decide)) fl_X12_17 fin_X12_6 hin rfl rfl dX12_init_25 hq (fun h7 hq => ?_)
  refine V_aload_n hC dX12_init_28 0 rfl ?_
  refine V_bipush (v := 10) hC dX12_init_29 (by decide) ?_
  refine U_newaI (room := 10) hC aw_1_93 ⟨by decide, by decide⟩ dX12_init_31 hq (fun a8 h9 hq => ?_)
  refine U_putF hC (Or.inl (by decide)) fl_X12_20 fin_X12_7 hin rfl rfl dX12_init_33 hq (fun h10 hq => ?_)
  refine V_aload_n hC dX12_init_36 0 rfl ?_
  refine V_bipush (v := 10) hC dX12_init_37 (by decide) ?_
  refine U_newaI (room := 10) hC aw_1_93 ⟨by decide, by decide⟩ dX12_init_39 hq (fun a11 h12 hq => ?_)
  refine U_putF hC (Or.inl (by decide)) fl_X12_23 fin_X12_8 hin rfl rfl dX12_init_41 hq (fun h13 hq => ?_)
  refine V_aload_n hC dX12_init_44 0 rfl ?_
  refine V_bipush (v := 8) hC dX12_init_45 (by decide) ?_
  refine U_newaI (room := 8) hC aw_1_93 ⟨by decide, by decide⟩ dX12_init_47 hq (fun a14 h15 hq => ?_)
  refine U_putF hC (Or.inl (by decide)) fl_X12_26 fin_X12_9 hin rfl rfl dX12_init_49 hq (fun h16 hq => ?_)
  refine V_aload_n hC dX12_init_52 0 rfl ?_
  refine V_bipush (v := 8) hC dX12_init_53 (by decide) ?_
  refine U_newaI (room := 8) hC aw_1_93 ⟨by decide, by decide⟩ dX12_init_55 hq (fun a17 h18 hq => ?_)
  refine U_putF hC (Or.inl (by decide)) fl_X12_29 fin_X12_10 hin rfl rfl dX12_init_57 hq (fun h19 hq => ?_)
  refine V_aload_n hC dX12_init_60 0 rfl ?_
  refine V_bipush (v := 8) hC dX12_init_61 (by decide) ?_
  refine U_newaI (room := 8) hC aw_1_93 ⟨by decide, by decide⟩ dX12_init_63 hq (fun a20 h21 hq => ?_)
  refine U_putF hC (Or.inl (by decide)) fl_X12_32 fin_X12_11 hin rfl rfl dX12_init_65 hq (fun h22 hq => ?_)
  refine V_aload_n hC dX12_init_68 0 rfl ?_
  refine V_bipush (v := 8) hC dX12_init_69 (by decide) ?_
  refine U_newaZ (room := 8) hC aw_6_128 ⟨by decide, by decide⟩ dX12_init_71 hq (fun a23 h24 hq => ?_)
  refine U_putF hC (Or.inl (by decide)) fl_X12_35 fin_X12_12 hin rfl rfl dX12_init_73 hq (fun h25 hq => ?_)
  refine V_aload_n hC dX12_init_76 0 rfl ?_
  refine V_bipush (v := 8) hC dX12_init_77 (by decide) ?_
  refine U_newaI (room := 8) hC aw_1_93 ⟨by decide, by decide⟩ dX12_init_79 hq (fun a26 h27 hq => ?_)
  refine U_putF hC (Or.inl (by decide)) fl_X12_39 fin_X12_13 hin rfl rfl dX12_init_81 hq (fun h28 hq => ?_)
  refine V_aload_n hC dX12_init_84 0 rfl ?_
  refine V_bipush (v := 8) hC dX12_init_85 (by decide) ?_
  refine U_newaI (room := 8) hC aw_1_93 ⟨by decide, by decide⟩ dX12_init_87 hq (fun a29 h30 hq => ?_)
  refine U_putF hC (Or.inl (by decide)) fl_X12_42 fin_X12_14 hin rfl rfl dX12_init_89 hq (fun h31 hq => ?_)
  refine V_aload_n hC dX12_init_92 0 rfl ?_
  refine U_new hC no_X12_45 ⟨by decide, by decide⟩ dX12_init_93 hq (fun a32 h33 hq => ?_)
  refine V_dup hC dX12_init_96 rfl ?_
  refine clI_Jx4a65c_init_da8c8 hG hC si_X12_47 ⟨by decide, by decide⟩ (Nat.le_of_ble_eq_true rfl) ⟨by decide, by decide⟩ dX12_init_97 hq (fun h34 hq => ?_)
  show V G Γ 2 11 481 h34 100 [(0, .ref p0)] [.ref a32, .ref p0]
  refine U_putF hC (Or.inl (by decide)) fl_X12_48 fin_X12_15 hin rfl rfl dX12_init_100 hq (fun h35 hq => ?_)
  refine V_aload_n hC dX12_init_103 0 rfl ?_
  refine V_bipush (v := 8) hC dX12_init_104 (by decide) ?_
  refine U_newaZ (room := 8) hC aw_6_128 ⟨by decide, by decide⟩ dX12_init_106 hq (fun a36 h37 hq => ?_)
  refine U_putF hC (Or.inl (by decide)) fl_X12_52 fin_X12_16 hin rfl rfl dX12_init_108 hq (fun h38 hq => ?_)
  refine V_aload_n hC dX12_init_111 0 rfl ?_
  refine V_bipush (v := 64) hC dX12_init_112 (by decide) ?_
  refine U_newaI (room := 64) hC aw_1_93 ⟨by decide, by decide⟩ dX12_init_114 hq (fun a39 h40 hq => ?_)
  refine U_putF hC (Or.inl (by decide)) fl_X12_55 fin_X12_17 hin rfl rfl dX12_init_116 hq (fun h41 hq => ?_)
  refine V_aload_n hC dX12_init_119 0 rfl ?_
  refine V_bipush (v := 64) hC dX12_init_120 (by decide) ?_
  refine U_newaZ (room := 64) hC aw_6_128 ⟨by decide, by decide⟩ dX12_init_122 hq (fun a42 h43 hq => ?_)
  refine U_putF hC (Or.inl (by decide)) fl_X12_58 fin_X12_18 hin rfl rfl dX12_init_124 hq (fun h44 hq => ?_)
  refine V_aload_n hC dX12_init_127 0 rfl ?_
  refine V_bipush (v := 8) hC dX12_init_128 (by decide) ?_
  refine U_newaI (room := 8) hC aw_1_93 ⟨by decide, by decide⟩ dX12_init_130 hq (fun a45 h46 hq => ?_)
  refine U_putF hC (Or.inl (by decide)) fl_X12_61 fin_X12_22 hin rfl rfl dX12_init_132 hq (fun h47 hq => ?_)
  refine V_aload_n hC dX12_init_135 0 rfl ?_
  refine V_bipush (v := 8) hC dX12_init_136 (by decide) ?_
  refine U_newaZ (room := 8) hC aw_6_128 ⟨by decide, by decide⟩ dX12_init_138 hq (fun a48 h49 hq => ?_)
  refine U_putF hC (Or.inl (by decide)) fl_X12_64 fin_X12_23 hin rfl rfl dX12_init_140 hq (fun h50 hq => ?_)
  refine V_aload_n hC dX12_init_143 0 rfl ?_
  refine V_bipush (v := 12) hC dX12_init_144 (by decide) ?_
  refine U_newaI (room := 12) hC aw_1_93 ⟨by decide, by decide⟩ dX12_init_146 hq (fun a51 h52 hq => ?_)
  refine U_putF hC (Or.inl (by decide)) fl_X12_67 fin_X12_25 hin rfl rfl dX12_init_148 hq (fun h53 hq => ?_)
  refine V_aload_n hC dX12_init_151 0 rfl ?_
  refine V_iconst (v := 4) hC dX12_init_152 (by decide) ?_
  refine U_newaI (room := 4) hC aw_1_93 ⟨by decide, by decide⟩ dX12_init_153 hq (fun a54 h55 hq => ?_)
  refine U_putF hC (Or.inl (by decide)) fl_X12_70 fin_X12_26 hin rfl rfl dX12_init_155 hq (fun h56 hq => ?_)
  refine V_aload_n hC dX12_init_158 0 rfl ?_
  refine V_iconst (v := 4) hC dX12_init_159 (by decide) ?_
  refine U_newaJ (room := 4) hC aw_6_129 ⟨by decide, by decide⟩ dX12_init_160 hq (fun a57 h58 hq => ?_)
  refine U_putF hC (Or.inl (by decide)) fl_X12_73 fin_X12_27 hin rfl rfl dX12_init_162 hq (fun h59 hq => ?_)
  refine V_aload_n hC dX12_init_165 0 rfl ?_
  refine V_bipush (v := 8) hC dX12_init_166 (by decide) ?_
  refine U_newaI (room := 8) hC aw_1_93 ⟨by decide, by decide⟩ dX12_init_168 hq (fun a60 h61 hq => ?_)
  refine U_putF hC (Or.inl (by decide)) fl_X12_77 fin_X12_29 hin rfl rfl dX12_init_170 hq (fun h62 hq => ?_)
  refine V_aload_n hC dX12_init_173 0 rfl ?_
  refine V_bipush (v := 8) hC dX12_init_174 (by decide) ?_
  refine U_newaZ (room := 8) hC aw_6_128 ⟨by decide, by decide⟩ dX12_init_176 hq (fun a63 h64 hq => ?_)
  refine U_putF hC (Or.inl (by decide)) fl_X12_80 fin_X12_30 hin rfl rfl dX12_init_178 hq (fun h65 hq => ?_)
  refine V_aload_n hC dX12_init_181 0 rfl ?_
  refine V_bipush (v := 8) hC dX12_init_182 (by decide) ?_
  refine U_newaI (room := 8) hC aw_1_93 ⟨by decide, by decide⟩ dX12_init_184 hq (fun a66 h67 hq => ?_)
  refine U_putF hC (Or.inl (by decide)) fl_X12_83 fin_X12_31 hin rfl rfl dX12_init_186 hq (fun h68 hq => ?_)
  refine V_aload_n hC dX12_init_189 0 rfl ?_
  refine V_bipush (v := 8) hC dX12_init_190 (by decide) ?_
  refine U_newaI (room := 8) hC aw_1_93 ⟨by decide, by decide⟩ dX12_init_192 hq (fun a69 h70 hq => ?_)
  refine U_putF hC (Or.inl (by decide)) fl_X12_86 fin_X12_32 hin rfl rfl dX12_init_194 hq (fun h71 hq => ?_)
  refine V_aload_n hC dX12_init_197 0 rfl ?_
  refine V_bipush (v := 8) hC dX12_init_198 (by decide) ?_
  refine U_newaI (room := 8) hC aw_1_93 ⟨by decide, by decide⟩ dX12_init_200 hq (fun a72 h73 hq => ?_)
  refine U_putF hC (Or.inl (by decide)) fl_X12_89 fin_X12_33 hin rfl rfl dX12_init_202 hq (fun h74 hq => ?_)
  refine V_aload_n hC dX12_init_205 0 rfl ?_
  refine V_bipush (v := 8) hC dX12_init_206 (by decide) ?_
  refine U_newaZ (room := 8) hC aw_6_128 ⟨by decide, by decide⟩ dX12_init_208 hq (fun a75 h76 hq => ?_)
  refine U_putF hC (Or.inl (by decide)) fl_X12_92 fin_X12_34 hin rfl rfl dX12_init_210 hq (fun h77 hq => ?_)
  refine V_aload_n hC dX12_init_213 0 rfl ?_
  refine V_bipush (v := 8) hC dX12_init_214 (by decide) ?_
  refine U_newaI (room := 8) hC aw_1_93 ⟨by decide, by decide⟩ dX12_init_216 hq (fun a78 h79 hq => ?_)
  refine U_putF hC (Or.inl (by decide)) fl_X12_95 fin_X12_35 hin rfl rfl dX12_init_218 hq (fun h80 hq => ?_)
  refine V_iconst (v := 0) hC dX12_init_221 (by decide) ?_
  refine V_istore_n (L' := [(0, .ref p0), (1, .int 0)]) hC dX12_init_222 rfl (by decide) [1, 0] rfl ?_
  have hq := hq (fun (x1_81 : Int32) (h82 : hw) => V G Γ 2 26 709 h82 223 [(0, .ref p0), (1, .int x1_81)] []) (by
    intro x1_81 h82 hq
    show V G Γ 2 26 709 h82 223 [(0, .ref p0), (1, .int x1_81)] []
    refine V_iload_n hC dX12_init_223 1 rfl ?_
    refine V_bipush (v := 64) hC dX12_init_224 (by decide) ?_
    refine V_icmp_ge (tgt := 242) hC dX12_init_226 (by decide) (fun hc => ?_) (fun hc => ?_)
    · have hq := hq.1 hc
      refine V_iconst (v := 0) hC dX12_init_242 (by decide) ?_
      refine V_istore_n (L' := [(0, .ref p0), (1, .int 0)]) hC dX12_init_243 rfl (by decide) [1, 0] rfl ?_
      have hq := hq (fun (x1_83 : Int32) (h84 : hw) => V G Γ 2 26 709 h84 244 [(0, .ref p0), (1, .int x1_83)] []) (by
        intro x1_83 h84 hq
        show V G Γ 2 26 709 h84 244 [(0, .ref p0), (1, .int x1_83)] []
        refine V_iload_n hC dX12_init_244 1 rfl ?_
        refine V_bipush (v := 8) hC dX12_init_245 (by decide) ?_
        refine V_icmp_ge (tgt := 277) hC dX12_init_247 (by decide) (fun hc => ?_) (fun hc => ?_)
        · have hq := hq.1 hc
          exact V_vret hC hQ ⟨by decide, by decide⟩ dX12_init_277 ⟨rfl, hq⟩
        · have hq := hq.2 hc
          refine V_aload_n hC dX12_init_250 0 rfl ?_
          refine U_getR hC fl_X12_61 dX12_init_251 hq (fun v85 hq => ?_)
          refine V_iload_n hC dX12_init_254 1 rfl ?_
          refine V_iconst (v := (-1)) hC dX12_init_255 (by decide) ?_
          refine U_stI hC dX12_init_256 hq (fun h86 hq => ?_)
          refine V_aload_n hC dX12_init_257 0 rfl ?_
          refine U_getR hC fl_X12_77 dX12_init_258 hq (fun v87 hq => ?_)
          refine V_iload_n hC dX12_init_261 1 rfl ?_
          refine V_iconst (v := (-1)) hC dX12_init_262 (by decide) ?_
          refine U_stI hC dX12_init_263 hq (fun h88 hq => ?_)
          refine V_aload_n hC dX12_init_264 0 rfl ?_
          refine U_getR hC fl_X12_39 dX12_init_265 hq (fun v89 hq => ?_)
          refine V_iload_n hC dX12_init_268 1 rfl ?_
          refine V_iconst (v := (-1)) hC dX12_init_269 (by decide) ?_
          refine U_stI hC dX12_init_270 hq (fun h90 hq => ?_)
          refine V_iinc (j := 1) (v := (x1_83 + 1)) (L' := [(0, .ref p0), (1, .int (x1_83 + 1))]) hC dX12_init_271 rfl rfl (by decide) [1, 0] rfl ?_
          refine V_goto (tgt := 244) hC dX12_init_274 (by decide) ?_
          exact hq)
      exact hq
    · have hq := hq.2 hc
      refine V_aload_n hC dX12_init_229 0 rfl ?_
      refine U_getR hC fl_X12_55 dX12_init_230 hq (fun v91 hq => ?_)
      refine V_iload_n hC dX12_init_233 1 rfl ?_
      refine V_iconst (v := (-1)) hC dX12_init_234 (by decide) ?_
      refine U_stI hC dX12_init_235 hq (fun h92 hq => ?_)
      refine V_iinc (j := 1) (v := (x1_81 + 1)) (L' := [(0, .ref p0), (1, .int (x1_81 + 1))]) hC dX12_init_236 rfl rfl (by decide) [1, 0] rfl ?_
      refine V_goto (tgt := 223) hC dX12_init_239 (by decide) ?_
      exact hq)
  exact hq
theorem clI_X12_init {G : Gx} (hG : GOK G) {Γ : Cx} {own : String} {cc : ByteArray} {nL fr lo mc ms cells slots pc : Nat} {hh : List (Nat × Nat × Nat × Nat)} {h : hw} {L : List (Nat × Value)} {rest : List Value} (hC : COK G Γ own cc nL fr lo mc ms hh) {idx : Nat} (hs : SI own idx yX12_init cX12_init 2 0) {p0 : Nat} (hR : 5 + 1 ≤ fr ∧ 8 + (2 + 11) + 120 ≤ lo) (hw8 : (rest.map fun v => v.category).sum ≤ 8) (hcs : cells + 26 ≤ mc ∧ slots + 709 ≤ ms) (hdg : decode cc pc = .ok (.invokespecial idx, 3)) {post : hw → Prop} (hq : wp_X12_init G p0 h post) (kk : ∀ (h1 : hw) , post h1 → V G Γ nL (cells + 26) (slots + 709) h1 (pc + 3) L (rest)) : V G Γ nL cells slots h pc L (.ref p0 :: rest) :=
  V_callI (As := []) hC (ct_X12_init hG p0 h post hq) hs rfl hR hw8 hcs hdg (fun E h1 z => z.elim) (fun v h1 z => by obtain ⟨rfl, hz⟩ := z; exact kk h1 hz)
set_option maxRecDepth 100000 in
set_option maxHeartbeats 4000000 in
theorem ct_X12_thrown {G : Gx} (hG : GOK G) (p0 : Nat) (h0 : hw) (post : Int32 → Prop) (hq : wp_X12_thrown G p0 h0 post) : CT G yX12_thrown cX12_thrown 1 (some .int) 1 30 0 0 [.ref p0] h0 (fun v h1 => ∃ r : Int32, v = some (.int r) ∧ h1 = h0 ∧ post r) (fun E h1 => False) := by
  refine CT_of hG (by decide) (Nat.le_of_ble_eq_true rfl) (fun Γ hC hQ hN => ?_)
  have hC : COK G Γ "BandplanModel" cX12_thrown 1 1 30 0 0 [] := hC
  unfold wp_X12_thrown at hq
  show V G Γ 1 0 0 h0 0 [(0, .ref p0)] []
  refine V_aload_n hC dX12_thrown_0 0 rfl ?_
  refine U_getI hC fl_X12_98 dX12_thrown_1 hq (fun v1 hq => ?_)
  exact V_iret hC hQ rfl rfl ⟨by decide, by decide⟩ dX12_thrown_4 ⟨_, rfl, rfl, hq⟩
theorem clV_X12_thrown {G : Gx} (hG : GOK G) {Γ : Cx} {own : String} {cc : ByteArray} {nL fr lo mc ms cells slots pc : Nat} {hh : List (Nat × Nat × Nat × Nat)} {h : hw} {L : List (Nat × Value)} {rest : List Value} (hC : COK G Γ own cc nL fr lo mc ms hh) {idx : Nat} (hs : SV own idx yX12_thrown cX12_thrown 1 (some .int) 0) {p0 : Nat} (hR : 1 + 1 ≤ fr ∧ 8 + (1 + 11) + 30 ≤ lo) (hw8 : (rest.map fun v => v.category).sum ≤ 8) (hcs : cells + 0 ≤ mc ∧ slots + 0 ≤ ms) (hdg : decode cc pc = .ok (.invokevirtual idx, 3)) (ho : isO h p0 12) {post : Int32 → Prop} (hq : wp_X12_thrown G p0 h post) (kk : ∀ (r : Int32) , post r → V G Γ nL (cells + 0) (slots + 0) h (pc + 3) L (.int r :: rest)) : V G Γ nL cells slots h pc L (.ref p0 :: rest) :=
  V_callV (As := []) (r9 := (RX12, TX12, 36)) hC (ct_X12_thrown hG p0 h post hq) hs ho rfl rfl rfl hR hw8 hcs hdg (fun E h1 z => z.elim) (fun v h1 z => by obtain ⟨r, rfl, rfl, hz⟩ := z; exact kk r hz)
set_option maxRecDepth 100000 in
set_option maxHeartbeats 4000000 in
theorem ct_X12_in {G : Gx} (hG : GOK G) (p0 : Int32) (p1 : Int32) (p2 : Int32) (h0 : hw) (post : Int32 → Prop) (hq : wp_X12_in G p0 p1 p2 h0 post) : CT G yX12_in cX12_in 3 (some .boolean) 1 30 0 0 [.int p0, .int p1, .int p2] h0 (fun v h1 => ∃ r : Int32, v = some (.int r) ∧ h1 = h0 ∧ post r) (fun E h1 => False) := by
  refine CT_of hG (by decide) (Nat.le_of_ble_eq_true rfl) (fun Γ hC hQ hN => ?_)
  have hC : COK G Γ "BandplanModel" cX12_in 3 1 30 0 0 [] := hC
  unfold wp_X12_in at hq
  show V G Γ 3 0 0 h0 0 [(0, .int p0), (1, .int p1), (2, .int p2)] []
  refine V_iload_n hC dX12_in_0 0 rfl ?_
  refine V_iload_n hC dX12_in_1 1 rfl ?_
  have hq := hq (V G Γ 3 0 0 h0 14 [] []) (by
    intro hq
    show V G Γ 3 0 0 h0 14 [] []
    refine V_iconst (v := 0) hC dX12_in_14 (by decide) ?_
    exact V_iret hC hQ rfl rfl ⟨by decide, by decide⟩ dX12_in_15 ⟨_, rfl, rfl, hq⟩)
  refine V_icmp_lt (tgt := 14) hC dX12_in_2 (by decide) (fun hc => ?_) (fun hc => ?_)
  · have hq := hq.1 hc
    refine V_sub [] rfl ?_
    exact hq
  · have hq := hq.2 hc
    refine V_iload_n hC dX12_in_5 0 rfl ?_
    refine V_iload_n hC dX12_in_6 2 rfl ?_
    refine V_icmp_gt (tgt := 14) hC dX12_in_7 (by decide) (fun hc => ?_) (fun hc => ?_)
    · have hq := hq.1 hc
      refine V_sub [] rfl ?_
      exact hq
    · have hq := hq.2 hc
      refine V_iconst (v := 1) hC dX12_in_10 (by decide) ?_
      refine V_goto (tgt := 15) hC dX12_in_11 (by decide) ?_
      exact V_iret hC hQ rfl rfl ⟨by decide, by decide⟩ dX12_in_15 ⟨_, rfl, rfl, hq⟩
theorem clS_X12_in {G : Gx} (hG : GOK G) {Γ : Cx} {own : String} {cc : ByteArray} {nL fr lo mc ms cells slots pc : Nat} {hh : List (Nat × Nat × Nat × Nat)} {h : hw} {L : List (Nat × Value)} {rest : List Value} (hC : COK G Γ own cc nL fr lo mc ms hh) {idx : Nat} (hs : SS own idx yX12_in cX12_in 3 (some .boolean) 3) {p0 : Int32} {p1 : Int32} {p2 : Int32} (hR : 1 + 1 ≤ fr ∧ 8 + (3 + 11) + 30 ≤ lo) (hw8 : (rest.map fun v => v.category).sum ≤ 8) (hcs : cells + 0 ≤ mc ∧ slots + 0 ≤ ms) (hdg : decode cc pc = .ok (.invokestatic idx, 3)) {post : Int32 → Prop} (hq : wp_X12_in G p0 p1 p2 h post) (kk : ∀ (r : Int32) , post r → V G Γ nL (cells + 0) (slots + 0) h (pc + 3) L (.int r :: rest)) : V G Γ nL cells slots h pc L (.int p2 :: .int p1 :: .int p0 :: rest) :=
  V_callS (As := [.int p0, .int p1, .int p2]) hC (ct_X12_in hG p0 p1 p2 h post hq) hs rfl hR hw8 hcs hdg (fun E h1 z => z.elim) (fun v h1 z => by obtain ⟨r, rfl, rfl, hz⟩ := z; exact kk r hz)
set_option maxRecDepth 100000 in
set_option maxHeartbeats 4000000 in
theorem ct_X12_fails {G : Gx} (hG : GOK G) (p0 : Nat) (p1 : Int32) (p2 : Int32) (h0 : hw) (post : Int32 → hw → Prop) (hq : wp_X12_fails G p0 p1 p2 h0 post) : CT G yX12_fails cX12_fails 3 (some .boolean) 1 30 0 0 [.ref p0, .int p1, .int p2] h0 (fun v h1 => ∃ r : Int32, v = some (.int r) ∧ post r h1) (fun E h1 => False) := by
  refine CT_of hG (by decide) (Nat.le_of_ble_eq_true rfl) (fun Γ hC hQ hN => ?_)
  have hC : COK G Γ "BandplanModel" cX12_fails 3 1 30 0 0 [] := hC
  unfold wp_X12_fails at hq
  show V G Γ 3 0 0 h0 0 [(0, .ref p0), (1, .int p1), (2, .int p2)] []
  refine V_iload_n hC dX12_fails_0 1 rfl ?_
  have hq := hq (fun (h1 : hw) => V G Γ 3 0 0 h1 16 [(0, .ref p0)] []) (by
    intro h1 hq
    show V G Γ 3 0 0 h1 16 [(0, .ref p0)] []
    refine V_aload_n hC dX12_fails_16 0 rfl ?_
    refine U_getI hC fl_X12_98 dX12_fails_17 hq (fun v2 hq => ?_)
    refine V_if_eq (tgt := 27) hC dX12_fails_20 (by decide) (fun hc => ?_) (fun hc => ?_)
    · have hq := hq.1 hc
      refine V_iconst (v := 0) hC dX12_fails_27 (by decide) ?_
      exact V_iret hC hQ rfl rfl ⟨by decide, by decide⟩ dX12_fails_28 ⟨_, rfl, hq⟩
    · have hq := hq.2 hc
      refine V_iconst (v := 1) hC dX12_fails_23 (by decide) ?_
      refine V_goto (tgt := 28) hC dX12_fails_24 (by decide) ?_
      exact V_iret hC hQ rfl rfl ⟨by decide, by decide⟩ dX12_fails_28 ⟨_, rfl, hq⟩)
  refine V_if_eq (tgt := 16) hC dX12_fails_1 (by decide) (fun hc => ?_) (fun hc => ?_)
  · have hq := hq.1 hc
    refine V_sub [0] rfl ?_
    exact hq
  · have hq := hq.2 hc
    refine V_aload_n hC dX12_fails_4 0 rfl ?_
    refine U_getI hC fl_X12_98 dX12_fails_5 hq (fun v3 hq => ?_)
    refine V_if_ne (tgt := 16) hC dX12_fails_8 (by decide) (fun hc => ?_) (fun hc => ?_)
    · have hq := hq.1 hc
      refine V_sub [0] rfl ?_
      exact hq
    · have hq := hq.2 hc
      refine V_aload_n hC dX12_fails_11 0 rfl ?_
      refine V_iload_n hC dX12_fails_12 2 rfl ?_
      refine U_putO hC (by decide) fl_X12_98 fin_X12_0 rfl rfl dX12_fails_13 hq (fun h4 hq => ?_)
      refine V_sub [0] rfl ?_
      exact hq
theorem clV_X12_fails {G : Gx} (hG : GOK G) {Γ : Cx} {own : String} {cc : ByteArray} {nL fr lo mc ms cells slots pc : Nat} {hh : List (Nat × Nat × Nat × Nat)} {h : hw} {L : List (Nat × Value)} {rest : List Value} (hC : COK G Γ own cc nL fr lo mc ms hh) {idx : Nat} (hs : SV own idx yX12_fails cX12_fails 3 (some .boolean) 2) {p0 : Nat} {p1 : Int32} {p2 : Int32} (hR : 1 + 1 ≤ fr ∧ 8 + (3 + 11) + 30 ≤ lo) (hw8 : (rest.map fun v => v.category).sum ≤ 8) (hcs : cells + 0 ≤ mc ∧ slots + 0 ≤ ms) (hdg : decode cc pc = .ok (.invokevirtual idx, 3)) (ho : isO h p0 12) {post : Int32 → hw → Prop} (hq : wp_X12_fails G p0 p1 p2 h post) (kk : ∀ (r : Int32) (h1 : hw) , post r h1 → V G Γ nL (cells + 0) (slots + 0) h1 (pc + 3) L (.int r :: rest)) : V G Γ nL cells slots h pc L (.int p2 :: .int p1 :: .ref p0 :: rest) :=
  V_callV (As := [.int p1, .int p2]) (r9 := (RX12, TX12, 36)) hC (ct_X12_fails hG p0 p1 p2 h post hq) hs ho rfl rfl rfl hR hw8 hcs hdg (fun E h1 z => z.elim) (fun v h1 z => by obtain ⟨r, rfl, hz⟩ := z; exact kk r h1 hz)
set_option maxRecDepth 100000 in
set_option maxHeartbeats 4000000 in
theorem ct_X12_noCell {G : Gx} (hG : GOK G) (p0 : Int32) (p1 : Int32) (h0 : hw) (post : Int32 → Prop) (hq : wp_X12_noCell G p0 p1 h0 post) : CT G yX12_noCell cX12_noCell 2 (some .boolean) 2 52 0 0 [.int p0, .int p1] h0 (fun v h1 => ∃ r : Int32, v = some (.int r) ∧ h1 = h0 ∧ post r) (fun E h1 => False) := by
  refine CT_of hG (by decide) (Nat.le_of_ble_eq_true rfl) (fun Γ hC hQ hN => ?_)
  have hC : COK G Γ "BandplanModel" cX12_noCell 2 2 52 0 0 [] := hC
  unfold wp_X12_noCell at hq
  show V G Γ 2 0 0 h0 0 [(0, .int p0), (1, .int p1)] []
  refine V_iload_n hC dX12_noCell_0 0 rfl ?_
  refine V_iconst (v := 0) hC dX12_noCell_1 (by decide) ?_
  refine V_bipush (v := 19) hC dX12_noCell_2 (by decide) ?_
  refine clS_X12_in hG hC ss_X12_101 ⟨by decide, by decide⟩ (Nat.le_of_ble_eq_true rfl) ⟨by decide, by decide⟩ dX12_noCell_4 hq (fun r1 hq => ?_)
  show V G Γ 2 0 0 h0 7 [(0, .int p0), (1, .int p1)] [.int r1]
  have hq := hq (V G Γ 2 0 0 h0 20 [] []) (by
    intro hq
    show V G Γ 2 0 0 h0 20 [] []
    refine V_iconst (v := 1) hC dX12_noCell_20 (by decide) ?_
    refine V_goto (tgt := 25) hC dX12_noCell_21 (by decide) ?_
    exact V_iret hC hQ rfl rfl ⟨by decide, by decide⟩ dX12_noCell_25 ⟨_, rfl, rfl, hq⟩)
  refine V_if_eq (tgt := 20) hC dX12_noCell_7 (by decide) (fun hc => ?_) (fun hc => ?_)
  · have hq := hq.1 hc
    refine V_sub [] rfl ?_
    exact hq
  · have hq := hq.2 hc
    refine V_iload_n hC dX12_noCell_10 1 rfl ?_
    refine V_iconst (v := 0) hC dX12_noCell_11 (by decide) ?_
    refine V_bipush (v := 19) hC dX12_noCell_12 (by decide) ?_
    refine clS_X12_in hG hC ss_X12_101 ⟨by decide, by decide⟩ (Nat.le_of_ble_eq_true rfl) ⟨by decide, by decide⟩ dX12_noCell_14 hq (fun r2 hq => ?_)
    show V G Γ 2 0 0 h0 17 [(0, .int p0), (1, .int p1)] [.int r2]
    refine V_if_ne (tgt := 24) hC dX12_noCell_17 (by decide) (fun hc => ?_) (fun hc => ?_)
    · have hq := hq.1 hc
      refine V_iconst (v := 0) hC dX12_noCell_24 (by decide) ?_
      exact V_iret hC hQ rfl rfl ⟨by decide, by decide⟩ dX12_noCell_25 ⟨_, rfl, rfl, hq⟩
    · have hq := hq.2 hc
      refine V_sub [] rfl ?_
      exact hq
theorem clS_X12_noCell {G : Gx} (hG : GOK G) {Γ : Cx} {own : String} {cc : ByteArray} {nL fr lo mc ms cells slots pc : Nat} {hh : List (Nat × Nat × Nat × Nat)} {h : hw} {L : List (Nat × Value)} {rest : List Value} (hC : COK G Γ own cc nL fr lo mc ms hh) {idx : Nat} (hs : SS own idx yX12_noCell cX12_noCell 2 (some .boolean) 2) {p0 : Int32} {p1 : Int32} (hR : 2 + 1 ≤ fr ∧ 8 + (2 + 11) + 52 ≤ lo) (hw8 : (rest.map fun v => v.category).sum ≤ 8) (hcs : cells + 0 ≤ mc ∧ slots + 0 ≤ ms) (hdg : decode cc pc = .ok (.invokestatic idx, 3)) {post : Int32 → Prop} (hq : wp_X12_noCell G p0 p1 h post) (kk : ∀ (r : Int32) , post r → V G Γ nL (cells + 0) (slots + 0) h (pc + 3) L (.int r :: rest)) : V G Γ nL cells slots h pc L (.int p1 :: .int p0 :: rest) :=
  V_callS (As := [.int p0, .int p1]) hC (ct_X12_noCell hG p0 p1 h post hq) hs rfl hR hw8 hcs hdg (fun E h1 z => z.elim) (fun v h1 z => by obtain ⟨r, rfl, rfl, hz⟩ := z; exact kk r hz)
set_option maxRecDepth 100000 in
set_option maxHeartbeats 4000000 in
theorem ct_X12_noSite {G : Gx} (hG : GOK G) (p0 : Nat) (p1 : Int32) (h0 : hw) (post : Int32 → Prop) (hq : wp_X12_noSite G p0 p1 h0 post) : CT G yX12_noSite cX12_noSite 2 (some .boolean) 2 52 0 0 [.ref p0, .int p1] h0 (fun v h1 => ∃ r : Int32, v = some (.int r) ∧ h1 = h0 ∧ post r) (fun E h1 => False) := by
  refine CT_of hG (by decide) (Nat.le_of_ble_eq_true rfl) (fun Γ hC hQ hN => ?_)
  have hC : COK G Γ "BandplanModel" cX12_noSite 2 2 52 0 0 [] := hC
  unfold wp_X12_noSite at hq
  show V G Γ 2 0 0 h0 0 [(0, .ref p0), (1, .int p1)] []
  refine V_iload_n hC dX12_noSite_0 1 rfl ?_
  refine V_iconst (v := 0) hC dX12_noSite_1 (by decide) ?_
  refine V_aload_n hC dX12_noSite_2 0 rfl ?_
  refine U_getI hC fl_X12_105 dX12_noSite_3 hq (fun v1 hq => ?_)
  refine V_iconst (v := 1) hC dX12_noSite_6 (by decide) ?_
  refine V_isub hC dX12_noSite_7 ?_
  refine clS_X12_in hG hC ss_X12_101 ⟨by decide, by decide⟩ (Nat.le_of_ble_eq_true rfl) ⟨by decide, by decide⟩ dX12_noSite_8 hq (fun r2 hq => ?_)
  show V G Γ 2 0 0 h0 11 [(0, .ref p0), (1, .int p1)] [.int r2]
  refine V_if_ne (tgt := 18) hC dX12_noSite_11 (by decide) (fun hc => ?_) (fun hc => ?_)
  · have hq := hq.1 hc
    refine V_iconst (v := 0) hC dX12_noSite_18 (by decide) ?_
    exact V_iret hC hQ rfl rfl ⟨by decide, by decide⟩ dX12_noSite_19 ⟨_, rfl, rfl, hq⟩
  · have hq := hq.2 hc
    refine V_iconst (v := 1) hC dX12_noSite_14 (by decide) ?_
    refine V_goto (tgt := 19) hC dX12_noSite_15 (by decide) ?_
    exact V_iret hC hQ rfl rfl ⟨by decide, by decide⟩ dX12_noSite_19 ⟨_, rfl, rfl, hq⟩
theorem clV_X12_noSite {G : Gx} (hG : GOK G) {Γ : Cx} {own : String} {cc : ByteArray} {nL fr lo mc ms cells slots pc : Nat} {hh : List (Nat × Nat × Nat × Nat)} {h : hw} {L : List (Nat × Value)} {rest : List Value} (hC : COK G Γ own cc nL fr lo mc ms hh) {idx : Nat} (hs : SV own idx yX12_noSite cX12_noSite 2 (some .boolean) 1) {p0 : Nat} {p1 : Int32} (hR : 2 + 1 ≤ fr ∧ 8 + (2 + 11) + 52 ≤ lo) (hw8 : (rest.map fun v => v.category).sum ≤ 8) (hcs : cells + 0 ≤ mc ∧ slots + 0 ≤ ms) (hdg : decode cc pc = .ok (.invokevirtual idx, 3)) (ho : isO h p0 12) {post : Int32 → Prop} (hq : wp_X12_noSite G p0 p1 h post) (kk : ∀ (r : Int32) , post r → V G Γ nL (cells + 0) (slots + 0) h (pc + 3) L (.int r :: rest)) : V G Γ nL cells slots h pc L (.int p1 :: .ref p0 :: rest) :=
  V_callV (As := [.int p1]) (r9 := (RX12, TX12, 36)) hC (ct_X12_noSite hG p0 p1 h post hq) hs ho rfl rfl rfl hR hw8 hcs hdg (fun E h1 z => z.elim) (fun v h1 z => by obtain ⟨r, rfl, rfl, hz⟩ := z; exact kk r hz)
set_option maxRecDepth 100000 in
set_option maxHeartbeats 4000000 in
theorem ct_X12_no {G : Gx} (hG : GOK G) (p0 : Nat) (p1 : Int32) (h0 : hw) (post : Int32 → Prop) (hq : wp_X12_no G p0 p1 h0 post) : CT G yX12_no cX12_no 2 (some .boolean) 2 52 0 0 [.ref p0, .int p1] h0 (fun v h1 => ∃ r : Int32, v = some (.int r) ∧ h1 = h0 ∧ post r) (fun E h1 => False) := by
  refine CT_of hG (by decide) (Nat.le_of_ble_eq_true rfl) (fun Γ hC hQ hN => ?_)
  have hC : COK G Γ "BandplanModel" cX12_no 2 2 52 0 0 [] := hC
  unfold wp_X12_no at hq
  show V G Γ 2 0 0 h0 0 [(0, .ref p0), (1, .int p1)] []
  refine V_iload_n hC dX12_no_0 1 rfl ?_
  refine V_iconst (v := 0) hC dX12_no_1 (by decide) ?_
  refine V_aload_n hC dX12_no_2 0 rfl ?_
  refine U_getI hC fl_X12_108 dX12_no_3 hq (fun v1 hq => ?_)
  refine V_iconst (v := 1) hC dX12_no_6 (by decide) ?_
  refine V_isub hC dX12_no_7 ?_
  refine clS_X12_in hG hC ss_X12_101 ⟨by decide, by decide⟩ (Nat.le_of_ble_eq_true rfl) ⟨by decide, by decide⟩ dX12_no_8 hq (fun r2 hq => ?_)
  show V G Γ 2 0 0 h0 11 [(0, .ref p0), (1, .int p1)] [.int r2]
  refine V_if_ne (tgt := 18) hC dX12_no_11 (by decide) (fun hc => ?_) (fun hc => ?_)
  · have hq := hq.1 hc
    refine V_iconst (v := 0) hC dX12_no_18 (by decide) ?_
    exact V_iret hC hQ rfl rfl ⟨by decide, by decide⟩ dX12_no_19 ⟨_, rfl, rfl, hq⟩
  · have hq := hq.2 hc
    refine V_iconst (v := 1) hC dX12_no_14 (by decide) ?_
    refine V_goto (tgt := 19) hC dX12_no_15 (by decide) ?_
    exact V_iret hC hQ rfl rfl ⟨by decide, by decide⟩ dX12_no_19 ⟨_, rfl, rfl, hq⟩
theorem clV_X12_no {G : Gx} (hG : GOK G) {Γ : Cx} {own : String} {cc : ByteArray} {nL fr lo mc ms cells slots pc : Nat} {hh : List (Nat × Nat × Nat × Nat)} {h : hw} {L : List (Nat × Value)} {rest : List Value} (hC : COK G Γ own cc nL fr lo mc ms hh) {idx : Nat} (hs : SV own idx yX12_no cX12_no 2 (some .boolean) 1) {p0 : Nat} {p1 : Int32} (hR : 2 + 1 ≤ fr ∧ 8 + (2 + 11) + 52 ≤ lo) (hw8 : (rest.map fun v => v.category).sum ≤ 8) (hcs : cells + 0 ≤ mc ∧ slots + 0 ≤ ms) (hdg : decode cc pc = .ok (.invokevirtual idx, 3)) (ho : isO h p0 12) {post : Int32 → Prop} (hq : wp_X12_no G p0 p1 h post) (kk : ∀ (r : Int32) , post r → V G Γ nL (cells + 0) (slots + 0) h (pc + 3) L (.int r :: rest)) : V G Γ nL cells slots h pc L (.int p1 :: .ref p0 :: rest) :=
  V_callV (As := [.int p1]) (r9 := (RX12, TX12, 36)) hC (ct_X12_no hG p0 p1 h post hq) hs ho rfl rfl rfl hR hw8 hcs hdg (fun E h1 z => z.elim) (fun v h1 z => by obtain ⟨r, rfl, rfl, hz⟩ := z; exact kk r hz)
set_option maxRecDepth 100000 in
set_option maxHeartbeats 4000000 in
theorem ct_X12_noChannel {G : Gx} (hG : GOK G) (p0 : Int32) (h0 : hw) (post : Int32 → Prop) (hq : wp_X12_noChannel G p0 h0 post) : CT G yX12_noChannel cX12_noChannel 1 (some .boolean) 2 52 0 0 [.int p0] h0 (fun v h1 => ∃ r : Int32, v = some (.int r) ∧ h1 = h0 ∧ post r) (fun E h1 => False) := by
  refine CT_of hG (by decide) (Nat.le_of_ble_eq_true rfl) (fun Γ hC hQ hN => ?_)
  have hC : COK G Γ "BandplanModel" cX12_noChannel 1 2 52 0 0 [] := hC
  unfold wp_X12_noChannel at hq
  show V G Γ 1 0 0 h0 0 [(0, .int p0)] []
  refine V_iload_n hC dX12_noChannel_0 0 rfl ?_
  refine V_iconst (v := 0) hC dX12_noChannel_1 (by decide) ?_
  refine V_bipush (v := 7) hC dX12_noChannel_2 (by decide) ?_
  refine clS_X12_in hG hC ss_X12_101 ⟨by decide, by decide⟩ (Nat.le_of_ble_eq_true rfl) ⟨by decide, by decide⟩ dX12_noChannel_4 hq (fun r1 hq => ?_)
  show V G Γ 1 0 0 h0 7 [(0, .int p0)] [.int r1]
  refine V_if_ne (tgt := 14) hC dX12_noChannel_7 (by decide) (fun hc => ?_) (fun hc => ?_)
  · have hq := hq.1 hc
    refine V_iconst (v := 0) hC dX12_noChannel_14 (by decide) ?_
    exact V_iret hC hQ rfl rfl ⟨by decide, by decide⟩ dX12_noChannel_15 ⟨_, rfl, rfl, hq⟩
  · have hq := hq.2 hc
    refine V_iconst (v := 1) hC dX12_noChannel_10 (by decide) ?_
    refine V_goto (tgt := 15) hC dX12_noChannel_11 (by decide) ?_
    exact V_iret hC hQ rfl rfl ⟨by decide, by decide⟩ dX12_noChannel_15 ⟨_, rfl, rfl, hq⟩
theorem clS_X12_noChannel {G : Gx} (hG : GOK G) {Γ : Cx} {own : String} {cc : ByteArray} {nL fr lo mc ms cells slots pc : Nat} {hh : List (Nat × Nat × Nat × Nat)} {h : hw} {L : List (Nat × Value)} {rest : List Value} (hC : COK G Γ own cc nL fr lo mc ms hh) {idx : Nat} (hs : SS own idx yX12_noChannel cX12_noChannel 1 (some .boolean) 1) {p0 : Int32} (hR : 2 + 1 ≤ fr ∧ 8 + (1 + 11) + 52 ≤ lo) (hw8 : (rest.map fun v => v.category).sum ≤ 8) (hcs : cells + 0 ≤ mc ∧ slots + 0 ≤ ms) (hdg : decode cc pc = .ok (.invokestatic idx, 3)) {post : Int32 → Prop} (hq : wp_X12_noChannel G p0 h post) (kk : ∀ (r : Int32) , post r → V G Γ nL (cells + 0) (slots + 0) h (pc + 3) L (.int r :: rest)) : V G Γ nL cells slots h pc L (.int p0 :: rest) :=
  V_callS (As := [.int p0]) hC (ct_X12_noChannel hG p0 h post hq) hs rfl hR hw8 hcs hdg (fun E h1 z => z.elim) (fun v h1 z => by obtain ⟨r, rfl, rfl, hz⟩ := z; exact kk r hz)
set_option maxRecDepth 100000 in
set_option maxHeartbeats 4000000 in
theorem ct_X12_isAnyOn {G : Gx} (hG : GOK G) (p0 : Nat) (h0 : hw) (post : Int32 → Prop) (hq : wp_X12_isAnyOn G p0 h0 post) : CT G yX12_isAnyOn cX12_isAnyOn 3 (some .boolean) 1 30 0 0 [.ref p0] h0 (fun v h1 => ∃ r : Int32, v = some (.int r) ∧ h1 = h0 ∧ post r) (fun E h1 => False) := by
  refine CT_of hG (by decide) (Nat.le_of_ble_eq_true rfl) (fun Γ hC hQ hN => ?_)
  have hC : COK G Γ "BandplanModel" cX12_isAnyOn 3 1 30 0 0 [] := hC
  unfold wp_X12_isAnyOn at hq
  show V G Γ 3 0 0 h0 0 [(0, .ref p0)] []
  refine V_iconst (v := 0) hC dX12_isAnyOn_0 (by decide) ?_
  refine V_istore_n (L' := [(0, .ref p0), (1, .int 0)]) hC dX12_isAnyOn_1 rfl (by decide) [1, 0] rfl ?_
  refine V_iconst (v := 0) hC dX12_isAnyOn_2 (by decide) ?_
  refine V_istore_n (L' := [(0, .ref p0), (1, .int 0), (2, .int 0)]) hC dX12_isAnyOn_3 rfl (by decide) [1, 2, 0] rfl ?_
  have hq := hq (fun (x1_1 : Int32) (x2_2 : Int32) => V G Γ 3 0 0 h0 4 [(0, .ref p0), (1, .int x1_1), (2, .int x2_2)] []) (by
    intro x1_1 x2_2 hq
    show V G Γ 3 0 0 h0 4 [(0, .ref p0), (1, .int x1_1), (2, .int x2_2)] []
    refine V_iload_n hC dX12_isAnyOn_4 2 rfl ?_
    refine V_aload_n hC dX12_isAnyOn_5 0 rfl ?_
    refine U_getI hC fl_X12_108 dX12_isAnyOn_6 hq (fun v3 hq => ?_)
    refine V_icmp_ge (tgt := 38) hC dX12_isAnyOn_9 (by decide) (fun hc => ?_) (fun hc => ?_)
    · have hq := hq.1 hc
      refine V_iload_n hC dX12_isAnyOn_38 1 rfl ?_
      obtain ⟨hz, hq⟩ := hq
      exact V_iret hC hQ rfl (nar_b hz) ⟨by decide, by decide⟩ dX12_isAnyOn_39 ⟨_, rfl, rfl, hq⟩
    · have hq := hq.2 hc
      refine V_iload_n hC dX12_isAnyOn_12 1 rfl ?_
      have hq := hq (fun (t4 : Int32) => V G Γ 3 0 0 h0 31 [(0, .ref p0), (2, .int x2_2)] [.int t4]) (by
        intro t4 hq
        show V G Γ 3 0 0 h0 31 [(0, .ref p0), (2, .int x2_2)] [.int t4]
        refine V_istore_n (L' := [(0, .ref p0), (1, .int t4), (2, .int x2_2)]) hC dX12_isAnyOn_31 rfl (by decide) [1, 0, 2] rfl ?_
        refine V_iinc (j := 2) (v := (x2_2 + 1)) (L' := [(0, .ref p0), (1, .int t4), (2, .int (x2_2 + 1))]) hC dX12_isAnyOn_32 rfl rfl (by decide) [1, 2, 0] rfl ?_
        refine V_goto (tgt := 4) hC dX12_isAnyOn_35 (by decide) ?_
        exact hq)
      have hq := hq (V G Γ 3 0 0 h0 26 [(0, .ref p0), (2, .int x2_2)] []) (by
        intro hq
        show V G Γ 3 0 0 h0 26 [(0, .ref p0), (2, .int x2_2)] []
        refine V_iconst (v := 1) hC dX12_isAnyOn_26 (by decide) ?_
        refine V_goto (tgt := 31) hC dX12_isAnyOn_27 (by decide) ?_
        exact hq)
      refine V_if_ne (tgt := 26) hC dX12_isAnyOn_13 (by decide) (fun hc => ?_) (fun hc => ?_)
      · have hq := hq.1 hc
        refine V_sub [0, 2] rfl ?_
        exact hq
      · have hq := hq.2 hc
        refine V_aload_n hC dX12_isAnyOn_16 0 rfl ?_
        refine U_getR hC fl_X12_39 dX12_isAnyOn_17 hq (fun v5 hq => ?_)
        refine V_iload_n hC dX12_isAnyOn_20 2 rfl ?_
        refine U_ldI hC dX12_isAnyOn_21 hq (fun v6 hq => ?_)
        refine V_iconst (v := (-1)) hC dX12_isAnyOn_22 (by decide) ?_
        refine V_icmp_eq (tgt := 30) hC dX12_isAnyOn_23 (by decide) (fun hc => ?_) (fun hc => ?_)
        · have hq := hq.1 hc
          refine V_iconst (v := 0) hC dX12_isAnyOn_30 (by decide) ?_
          refine V_sub [0, 2] rfl ?_
          exact hq
        · have hq := hq.2 hc
          refine V_sub [0, 2] rfl ?_
          exact hq)
  exact hq
theorem clV_X12_isAnyOn {G : Gx} (hG : GOK G) {Γ : Cx} {own : String} {cc : ByteArray} {nL fr lo mc ms cells slots pc : Nat} {hh : List (Nat × Nat × Nat × Nat)} {h : hw} {L : List (Nat × Value)} {rest : List Value} (hC : COK G Γ own cc nL fr lo mc ms hh) {idx : Nat} (hs : SV own idx yX12_isAnyOn cX12_isAnyOn 3 (some .boolean) 0) {p0 : Nat} (hR : 1 + 1 ≤ fr ∧ 8 + (3 + 11) + 30 ≤ lo) (hw8 : (rest.map fun v => v.category).sum ≤ 8) (hcs : cells + 0 ≤ mc ∧ slots + 0 ≤ ms) (hdg : decode cc pc = .ok (.invokevirtual idx, 3)) (ho : isO h p0 12) {post : Int32 → Prop} (hq : wp_X12_isAnyOn G p0 h post) (kk : ∀ (r : Int32) , post r → V G Γ nL (cells + 0) (slots + 0) h (pc + 3) L (.int r :: rest)) : V G Γ nL cells slots h pc L (.ref p0 :: rest) :=
  V_callV (As := []) (r9 := (RX12, TX12, 36)) hC (ct_X12_isAnyOn hG p0 h post hq) hs ho rfl rfl rfl hR hw8 hcs hdg (fun E h1 z => z.elim) (fun v h1 z => by obtain ⟨r, rfl, rfl, hz⟩ := z; exact kk r hz)
set_option maxRecDepth 100000 in
set_option maxHeartbeats 4000000 in
theorem ct_X12_setGround {G : Gx} (hG : GOK G) (p0 : Nat) (p1 : Int32) (p2 : Int32) (p3 : Int32) (h0 : hw) (post : Int32 → hw → Prop) (hq : wp_X12_setGround G p0 p1 p2 p3 h0 post) : CT G yX12_setGround cX12_setGround 5 (some .int) 3 73 0 0 [.ref p0, .int p1, .int p2, .int p3] h0 (fun v h1 => ∃ r : Int32, v = some (.int r) ∧ post r h1) (fun E h1 => False) := by
  refine CT_of hG (by decide) (Nat.le_of_ble_eq_true rfl) (fun Γ hC hQ hN => ?_)
  have hC : COK G Γ "BandplanModel" cX12_setGround 5 3 73 0 0 [] := hC
  unfold wp_X12_setGround at hq
  show V G Γ 5 0 0 h0 0 [(0, .ref p0), (1, .int p1), (2, .int p2), (3, .int p3)] []
  refine V_aload_n hC dX12_setGround_0 0 rfl ?_
  refine V_iconst (v := 0) hC dX12_setGround_1 (by decide) ?_
  refine U_putO hC (by decide) fl_X12_98 fin_X12_0 rfl rfl dX12_setGround_2 hq (fun h1 hq => ?_)
  refine V_aload_n hC dX12_setGround_5 0 rfl ?_
  refine V_iload_n hC dX12_setGround_6 1 rfl ?_
  refine V_iload_n hC dX12_setGround_7 2 rfl ?_
  refine clS_X12_noCell hG hC ss_X12_111 ⟨by decide, by decide⟩ (Nat.le_of_ble_eq_true rfl) ⟨by decide, by decide⟩ dX12_setGround_8 hq (fun r2 hq => ?_)
  show V G Γ 5 0 0 h1 11 [(0, .ref p0), (1, .int p1), (2, .int p2), (3, .int p3)] [.int r2, .ref p0]
  refine V_iconst (v := 1) hC dX12_setGround_11 (by decide) ?_
  obtain ⟨hz, hq⟩ := hq
  refine clV_X12_fails hG hC sv_X12_115 ⟨by decide, by decide⟩ (Nat.le_of_ble_eq_true rfl) ⟨by decide, by decide⟩ dX12_setGround_12 hz hq (fun r3 h4 hq => ?_)
  show V G Γ 5 0 0 h4 15 [(0, .ref p0), (1, .int p1), (2, .int p2), (3, .int p3)] [.int r3]
  refine V_if_ne (tgt := 53) hC dX12_setGround_15 (by decide) (fun hc => ?_) (fun hc => ?_)
  · have hq := hq.1 hc
    refine V_iconst (v := 0) hC dX12_setGround_53 (by decide) ?_
    exact V_iret hC hQ rfl rfl ⟨by decide, by decide⟩ dX12_setGround_54 ⟨_, rfl, hq⟩
  · have hq := hq.2 hc
    refine V_aload_n hC dX12_setGround_18 0 rfl ?_
    refine V_iload_n hC dX12_setGround_19 3 rfl ?_
    refine V_iconst (v := 0) hC dX12_setGround_20 (by decide) ?_
    refine V_bipush (v := 99) hC dX12_setGround_21 (by decide) ?_
    refine clS_X12_in hG hC ss_X12_101 ⟨by decide, by decide⟩ (Nat.le_of_ble_eq_true rfl) ⟨by decide, by decide⟩ dX12_setGround_23 hq (fun r5 hq => ?_)
    show V G Γ 5 0 0 h4 26 [(0, .ref p0), (1, .int p1), (2, .int p2), (3, .int p3)] [.int r5, .ref p0]
    have hq := hq (fun (t6 : Nat) (t7 : Int32) => V G Γ 5 0 0 h4 34 [(0, .ref p0), (1, .int p1), (2, .int p2), (3, .int p3)] [.int t7, .ref t6]) (by
      intro t6 t7 hq
      show V G Γ 5 0 0 h4 34 [(0, .ref p0), (1, .int p1), (2, .int p2), (3, .int p3)] [.int t7, .ref t6]
      refine V_iconst (v := 2) hC dX12_setGround_34 (by decide) ?_
      obtain ⟨hz, hq⟩ := hq
      refine clV_X12_fails hG hC sv_X12_115 ⟨by decide, by decide⟩ (Nat.le_of_ble_eq_true rfl) ⟨by decide, by decide⟩ dX12_setGround_35 hz hq (fun r8 h9 hq => ?_)
      show V G Γ 5 0 0 h9 38 [(0, .ref p0), (1, .int p1), (2, .int p2), (3, .int p3)] [.int r8]
      refine V_if_ne (tgt := 53) hC dX12_setGround_38 (by decide) (fun hc => ?_) (fun hc => ?_)
      · have hq := hq.1 hc
        refine V_iconst (v := 0) hC dX12_setGround_53 (by decide) ?_
        exact V_iret hC hQ rfl rfl ⟨by decide, by decide⟩ dX12_setGround_54 ⟨_, rfl, hq⟩
      · have hq := hq.2 hc
        refine V_aload_n hC dX12_setGround_41 0 rfl ?_
        refine V_aload_n hC dX12_setGround_42 0 rfl ?_
        obtain ⟨hz, hq⟩ := hq
        refine clV_X12_isAnyOn hG hC sv_X12_119 ⟨by decide, by decide⟩ (Nat.le_of_ble_eq_true rfl) ⟨by decide, by decide⟩ dX12_setGround_43 hz hq (fun r10 hq => ?_)
        show V G Γ 5 0 0 h9 46 [(0, .ref p0), (1, .int p1), (2, .int p2), (3, .int p3)] [.int r10, .ref p0]
        refine V_iconst (v := 3) hC dX12_setGround_46 (by decide) ?_
        obtain ⟨hz, hq⟩ := hq
        refine clV_X12_fails hG hC sv_X12_115 ⟨by decide, by decide⟩ (Nat.le_of_ble_eq_true rfl) ⟨by decide, by decide⟩ dX12_setGround_47 hz hq (fun r11 h12 hq => ?_)
        show V G Γ 5 0 0 h12 50 [(0, .ref p0), (1, .int p1), (2, .int p2), (3, .int p3)] [.int r11]
        refine V_if_eq (tgt := 55) hC dX12_setGround_50 (by decide) (fun hc => ?_) (fun hc => ?_)
        · have hq := hq.1 hc
          refine V_aload_n hC dX12_setGround_55 0 rfl ?_
          refine U_getR hC fl_X12_13 dX12_setGround_56 hq (fun v13 hq => ?_)
          refine V_bipush (v := 20) hC dX12_setGround_59 (by decide) ?_
          refine V_iload_n hC dX12_setGround_61 2 rfl ?_
          refine V_imul hC dX12_setGround_62 ?_
          refine V_iload_n hC dX12_setGround_63 1 rfl ?_
          refine V_iadd hC dX12_setGround_64 ?_
          refine U_ldI hC dX12_setGround_65 hq (fun v14 hq => ?_)
          refine V_istore (L' := [(0, .ref p0), (1, .int p1), (2, .int p2), (3, .int p3), (4, .int v14)]) hC dX12_setGround_66 (by decide) [1, 2, 3, 4, 0] rfl ?_
          refine V_aload_n hC dX12_setGround_68 0 rfl ?_
          refine U_getR hC fl_X12_13 dX12_setGround_69 hq (fun v15 hq => ?_)
          refine V_bipush (v := 20) hC dX12_setGround_72 (by decide) ?_
          refine V_iload_n hC dX12_setGround_74 2 rfl ?_
          refine V_imul hC dX12_setGround_75 ?_
          refine V_iload_n hC dX12_setGround_76 1 rfl ?_
          refine V_iadd hC dX12_setGround_77 ?_
          refine V_iload_n hC dX12_setGround_78 3 rfl ?_
          refine U_stI hC dX12_setGround_79 hq (fun h16 hq => ?_)
          refine V_iload hC dX12_setGround_80 4 rfl ?_
          exact V_iret hC hQ rfl rfl ⟨by decide, by decide⟩ dX12_setGround_82 ⟨_, rfl, hq⟩
        · have hq := hq.2 hc
          refine V_iconst (v := 0) hC dX12_setGround_53 (by decide) ?_
          exact V_iret hC hQ rfl rfl ⟨by decide, by decide⟩ dX12_setGround_54 ⟨_, rfl, hq⟩)
    refine V_if_ne (tgt := 33) hC dX12_setGround_26 (by decide) (fun hc => ?_) (fun hc => ?_)
    · have hq := hq.1 hc
      refine V_iconst (v := 0) hC dX12_setGround_33 (by decide) ?_
      exact hq
    · have hq := hq.2 hc
      refine V_iconst (v := 1) hC dX12_setGround_29 (by decide) ?_
      refine V_goto (tgt := 34) hC dX12_setGround_30 (by decide) ?_
      exact hq
theorem clV_X12_setGround {G : Gx} (hG : GOK G) {Γ : Cx} {own : String} {cc : ByteArray} {nL fr lo mc ms cells slots pc : Nat} {hh : List (Nat × Nat × Nat × Nat)} {h : hw} {L : List (Nat × Value)} {rest : List Value} (hC : COK G Γ own cc nL fr lo mc ms hh) {idx : Nat} (hs : SV own idx yX12_setGround cX12_setGround 5 (some .int) 3) {p0 : Nat} {p1 : Int32} {p2 : Int32} {p3 : Int32} (hR : 3 + 1 ≤ fr ∧ 8 + (5 + 11) + 73 ≤ lo) (hw8 : (rest.map fun v => v.category).sum ≤ 8) (hcs : cells + 0 ≤ mc ∧ slots + 0 ≤ ms) (hdg : decode cc pc = .ok (.invokevirtual idx, 3)) (ho : isO h p0 12) {post : Int32 → hw → Prop} (hq : wp_X12_setGround G p0 p1 p2 p3 h post) (kk : ∀ (r : Int32) (h1 : hw) , post r h1 → V G Γ nL (cells + 0) (slots + 0) h1 (pc + 3) L (.int r :: rest)) : V G Γ nL cells slots h pc L (.int p3 :: .int p2 :: .int p1 :: .ref p0 :: rest) :=
  V_callV (As := [.int p1, .int p2, .int p3]) (r9 := (RX12, TX12, 36)) hC (ct_X12_setGround hG p0 p1 p2 p3 h post hq) hs ho rfl rfl rfl hR hw8 hcs hdg (fun E h1 z => z.elim) (fun v h1 z => by obtain ⟨r, rfl, hz⟩ := z; exact kk r h1 hz)
