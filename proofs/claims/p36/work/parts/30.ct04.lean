set_option maxRecDepth 100000 in
set_option maxHeartbeats 4000000 in
theorem ct_X11_packed {G : Gx} (hG : GOK G) (p0 : Nat) (p1 : Int32) (p2 : Int32) (h0 : hw) (post : Int32 → hw → Prop) (xp : String → hw → Prop) (hq : wp_X11_packed G p0 p1 p2 h0 post xp) : CT G yX11_packed cX11_packed 4 (some .int) 15 380 3 18 [.ref p0, .int p1, .int p2] h0 (fun v h1 => ∃ r : Int32, v = some (.int r) ∧ post r h1) (fun E h1 => xp E h1) := by
  refine CT_of hG (by decide) (Nat.le_of_ble_eq_true rfl) (fun Γ hC hQ hN => ?_)
  have hC : COK G Γ "Bandplan" cX11_packed 4 15 380 3 18 [] := hC
  unfold wp_X11_packed at hq
  show V G Γ 4 0 0 h0 0 [(0, .ref p0), (1, .int p1), (2, .int p2)] []
  refine V_aload_n hC dX11_packed_0 0 rfl ?_
  refine V_iload_n hC dX11_packed_1 1 rfl ?_
  refine V_iconst (v := 1) hC dX11_packed_2 (by decide) ?_
  refine V_bipush (v := 8) hC dX11_packed_3 (by decide) ?_
  obtain ⟨hz, hq⟩ := hq
  refine clV_X11_needRange hG hC sv_X11_70 ⟨by decide, by decide⟩ (Nat.le_of_ble_eq_true rfl) ⟨by decide, by decide⟩ dX11_packed_5 hz hq (fun E hx => VX_out hC hQ ⟨by decide, by decide⟩ hx) (fun hq => ?_)
  show V G Γ 4 1 6 h0 8 [(0, .ref p0), (1, .int p1), (2, .int p2)] []
  refine V_aload_n hC dX11_packed_8 0 rfl ?_
  refine V_iload_n hC dX11_packed_9 2 rfl ?_
  obtain ⟨hz, hq⟩ := hq
  refine clV_X11_stationAt hG hC sv_X11_143 ⟨by decide, by decide⟩ (Nat.le_of_ble_eq_true rfl) ⟨by decide, by decide⟩ dX11_packed_10 hz hq (fun E hx => VX_out hC hQ ⟨by decide, by decide⟩ hx) (fun r1 hq => ?_)
  show V G Γ 4 2 12 h0 13 [(0, .ref p0), (1, .int p1), (2, .int p2)] [.ref r1]
  refine V_astore_n (L' := [(0, .ref p0), (1, .int p1), (2, .int p2), (3, .ref r1)]) hC dX11_packed_13 rfl (by decide) [1, 2, 3, 0] rfl ?_
  refine V_aload_n hC dX11_packed_14 3 rfl ?_
  refine U_getI hC fl_X11_210 dX11_packed_15 hq (fun v2 hq => ?_)
  refine V_if_ne (tgt := 32) hC dX11_packed_18 (by decide) (fun hc => ?_) (fun hc => ?_)
  · have hq := hq.1 hc
    refine V_aload_n hC dX11_packed_32 0 rfl ?_
    refine U_getR hC fl_X11_33 dX11_packed_33 hq (fun v3 hq => ?_)
    refine V_aload_n hC dX11_packed_36 0 rfl ?_
    refine U_getR hC fl_X11_10 dX11_packed_37 hq (fun v4 hq => ?_)
    refine V_iload_n hC dX11_packed_40 1 rfl ?_
    obtain ⟨hz, hq⟩ := hq
    refine clV_X5_prepare hG hC sv_X11_254 ⟨by decide, by decide⟩ (Nat.le_of_ble_eq_true rfl) ⟨by decide, by decide⟩ dX11_packed_41 hz hq (fun h5 hq => ?_)
    show V G Γ 4 2 12 h5 44 [(0, .ref p0), (1, .int p1), (2, .int p2), (3, .ref r1)] []
    refine V_aload_n hC dX11_packed_44 0 rfl ?_
    refine U_getR hC fl_X11_33 dX11_packed_45 hq (fun v6 hq => ?_)
    refine V_aload_n hC dX11_packed_48 0 rfl ?_
    refine U_getR hC fl_X11_10 dX11_packed_49 hq (fun v7 hq => ?_)
    obtain ⟨hz, hq⟩ := hq
    refine clV_X0_protectedOnes hG hC sv_X11_258 ⟨by decide, by decide⟩ (Nat.le_of_ble_eq_true rfl) ⟨by decide, by decide⟩ dX11_packed_52 hz hq (fun r8 hq => ?_)
    show V G Γ 4 2 12 h5 55 [(0, .ref p0), (1, .int p1), (2, .int p2), (3, .ref r1)] [.int r8, .ref v6]
    obtain ⟨hz, hq⟩ := hq
    refine clV_X5_findFirst hG hC sv_X11_261 ⟨by decide, by decide⟩ (Nat.le_of_ble_eq_true rfl) ⟨by decide, by decide⟩ dX11_packed_55 hz hq (fun r9 h10 hq => ?_)
    show V G Γ 4 2 12 h10 58 [(0, .ref p0), (1, .int p1), (2, .int p2), (3, .ref r1)] [.int r9]
    refine V_if_ne (tgt := 72) hC dX11_packed_58 (by decide) (fun hc => ?_) (fun hc => ?_)
    · have hq := hq.1 hc
      refine V_aload_n hC dX11_packed_72 0 rfl ?_
      refine U_getR hC fl_X11_33 dX11_packed_73 hq (fun v11 hq => ?_)
      refine U_getR hC fl_X11_268 dX11_packed_76 hq (fun v12 hq => ?_)
      refine V_aload_n hC dX11_packed_79 3 rfl ?_
      refine U_getI hC fl_X11_232 dX11_packed_80 hq (fun v13 hq => ?_)
      obtain ⟨hz, hq⟩ := hq
      refine clV_X7_at hG hC sv_X11_226 ⟨by decide, by decide⟩ (Nat.le_of_ble_eq_true rfl) ⟨by decide, by decide⟩ dX11_packed_83 hz hq (fun r14 hq => ?_)
      show V G Γ 4 2 12 h10 86 [(0, .ref p0), (1, .int p1), (2, .int p2), (3, .ref r1)] [.int r14]
      exact V_iret hC hQ rfl rfl ⟨by decide, by decide⟩ dX11_packed_86 ⟨_, rfl, hq⟩
    · have hq := hq.2 hc
      exact V_throwNSW hC hQ hG th_162_266 ⟨by decide, by decide⟩ ⟨by decide, by decide⟩ dX11_packed_61 dX11_packed_64 dX11_packed_65 dX11_packed_68 dX11_packed_71 hq
  · have hq := hq.2 hc
    exact V_throwSW hC hQ hG th_221_264 ⟨by decide, by decide⟩ ⟨by decide, by decide⟩ dX11_packed_21 dX11_packed_24 dX11_packed_25 dX11_packed_28 dX11_packed_31 hq
theorem clV_X11_packed {G : Gx} (hG : GOK G) {Γ : Cx} {own : String} {cc : ByteArray} {nL fr lo mc ms cells slots pc : Nat} {hh : List (Nat × Nat × Nat × Nat)} {h : hw} {L : List (Nat × Value)} {rest : List Value} (hC : COK G Γ own cc nL fr lo mc ms hh) {idx : Nat} (hs : SV own idx yX11_packed cX11_packed 4 (some .int) 2) {p0 : Nat} {p1 : Int32} {p2 : Int32} (hR : 15 + 1 ≤ fr ∧ 8 + (4 + 11) + 380 ≤ lo) (hw8 : (rest.map fun v => v.category).sum ≤ 8) (hcs : cells + 3 ≤ mc ∧ slots + 18 ≤ ms) (hdg : decode cc pc = .ok (.invokevirtual idx, 3)) (ho : isO h p0 11) {post : Int32 → hw → Prop} {xp : String → hw → Prop} (hq : wp_X11_packed G p0 p1 p2 h post xp) (kx : ∀ (E : String) (h1 : hw), xp E h1 → VX G Γ nL (cells + 3) (slots + 18) h1 pc L rest E) (kk : ∀ (r : Int32) (h1 : hw) , post r h1 → V G Γ nL (cells + 3) (slots + 18) h1 (pc + 3) L (.int r :: rest)) : V G Γ nL cells slots h pc L (.int p2 :: .int p1 :: .ref p0 :: rest) :=
  V_callV (As := [.int p1, .int p2]) (r9 := (RX11, TX11, 8)) hC (ct_X11_packed hG p0 p1 p2 h post xp hq) hs ho rfl rfl rfl hR hw8 hcs hdg (fun E h1 z => kx E h1 z) (fun v h1 z => by obtain ⟨r, rfl, hz⟩ := z; exact kk r h1 hz)
set_option maxRecDepth 100000 in
set_option maxHeartbeats 4000000 in
theorem ct_X11_setAsked {G : Gx} (hG : GOK G) (p0 : Nat) (p1 : Int32) (p2 : Int32) (h0 : hw) (post : Int32 → hw → Prop) (xp : String → hw → Prop) (hq : wp_X11_setAsked G p0 p1 p2 h0 post xp) : CT G yX11_setAsked cX11_setAsked 5 (some .int) 7 115 2 12 [.ref p0, .int p1, .int p2] h0 (fun v h1 => ∃ r : Int32, v = some (.int r) ∧ post r h1) (fun E h1 => xp E h1) := by
  refine CT_of hG (by decide) (Nat.le_of_ble_eq_true rfl) (fun Γ hC hQ hN => ?_)
  have hC : COK G Γ "Bandplan" cX11_setAsked 5 7 115 2 12 [] := hC
  unfold wp_X11_setAsked at hq
  show V G Γ 5 0 0 h0 0 [(0, .ref p0), (1, .int p1), (2, .int p2)] []
  refine V_aload_n hC dX11_setAsked_0 0 rfl ?_
  refine V_iload_n hC dX11_setAsked_1 1 rfl ?_
  obtain ⟨hz, hq⟩ := hq
  refine clV_X11_stationAt hG hC sv_X11_143 ⟨by decide, by decide⟩ (Nat.le_of_ble_eq_true rfl) ⟨by decide, by decide⟩ dX11_setAsked_2 hz hq (fun E hx => VX_out hC hQ ⟨by decide, by decide⟩ hx) (fun r1 hq => ?_)
  show V G Γ 5 1 6 h0 5 [(0, .ref p0), (1, .int p1), (2, .int p2)] [.ref r1]
  refine V_astore_n (L' := [(0, .ref p0), (1, .int p1), (2, .int p2), (3, .ref r1)]) hC dX11_setAsked_5 rfl (by decide) [1, 2, 3, 0] rfl ?_
  refine V_aload_n hC dX11_setAsked_6 0 rfl ?_
  refine V_iload_n hC dX11_setAsked_7 2 rfl ?_
  refine V_iconst (v := 0) hC dX11_setAsked_8 (by decide) ?_
  refine V_sipush (v := 9999) hC dX11_setAsked_9 (by decide) ?_
  obtain ⟨hz, hq⟩ := hq
  refine clV_X11_needRange hG hC sv_X11_70 ⟨by decide, by decide⟩ (Nat.le_of_ble_eq_true rfl) ⟨by decide, by decide⟩ dX11_setAsked_12 hz hq (fun E hx => VX_out hC hQ ⟨by decide, by decide⟩ hx) (fun hq => ?_)
  show V G Γ 5 2 12 h0 15 [(0, .ref p0), (1, .int p1), (2, .int p2), (3, .ref r1)] []
  refine V_aload_n hC dX11_setAsked_15 3 rfl ?_
  refine U_getI hC fl_X11_271 dX11_setAsked_16 hq (fun v2 hq => ?_)
  refine V_istore (L' := [(0, .ref p0), (1, .int p1), (2, .int p2), (3, .ref r1), (4, .int v2)]) hC dX11_setAsked_19 (by decide) [1, 2, 3, 4, 0] rfl ?_
  refine V_aload_n hC dX11_setAsked_21 3 rfl ?_
  refine V_iload_n hC dX11_setAsked_22 2 rfl ?_
  refine U_putO hC (by decide) fl_X11_271 fin_X10_5 rfl rfl dX11_setAsked_23 hq (fun h3 hq => ?_)
  refine V_iload hC dX11_setAsked_26 4 rfl ?_
  exact V_iret hC hQ rfl rfl ⟨by decide, by decide⟩ dX11_setAsked_28 ⟨_, rfl, hq⟩
theorem clV_X11_setAsked {G : Gx} (hG : GOK G) {Γ : Cx} {own : String} {cc : ByteArray} {nL fr lo mc ms cells slots pc : Nat} {hh : List (Nat × Nat × Nat × Nat)} {h : hw} {L : List (Nat × Value)} {rest : List Value} (hC : COK G Γ own cc nL fr lo mc ms hh) {idx : Nat} (hs : SV own idx yX11_setAsked cX11_setAsked 5 (some .int) 2) {p0 : Nat} {p1 : Int32} {p2 : Int32} (hR : 7 + 1 ≤ fr ∧ 8 + (5 + 11) + 115 ≤ lo) (hw8 : (rest.map fun v => v.category).sum ≤ 8) (hcs : cells + 2 ≤ mc ∧ slots + 12 ≤ ms) (hdg : decode cc pc = .ok (.invokevirtual idx, 3)) (ho : isO h p0 11) {post : Int32 → hw → Prop} {xp : String → hw → Prop} (hq : wp_X11_setAsked G p0 p1 p2 h post xp) (kx : ∀ (E : String) (h1 : hw), xp E h1 → VX G Γ nL (cells + 2) (slots + 12) h1 pc L rest E) (kk : ∀ (r : Int32) (h1 : hw) , post r h1 → V G Γ nL (cells + 2) (slots + 12) h1 (pc + 3) L (.int r :: rest)) : V G Γ nL cells slots h pc L (.int p2 :: .int p1 :: .ref p0 :: rest) :=
  V_callV (As := [.int p1, .int p2]) (r9 := (RX11, TX11, 8)) hC (ct_X11_setAsked hG p0 p1 p2 h post xp hq) hs ho rfl rfl rfl hR hw8 hcs hdg (fun E h1 z => kx E h1 z) (fun v h1 z => by obtain ⟨r, rfl, hz⟩ := z; exact kk r h1 hz)
set_option maxRecDepth 100000 in
set_option maxHeartbeats 4000000 in
theorem ct_J6_bitCount_0f7a4 {G : Gx} (hG : GOK G) (p0 : Int32) (h0 : hw) (post : Int32 → Prop) (hq : wp_J6_bitCount_0f7a4 G p0 h0 post) : CT G yJ6_bitCount_0f7a4 cJ6_bitCount_0f7a4 1 (some .int) 1 30 0 0 [.int p0] h0 (fun v h1 => ∃ r : Int32, v = some (.int r) ∧ h1 = h0 ∧ post r) (fun E h1 => False) := by
  refine CT_of hG (by decide) (Nat.le_of_ble_eq_true rfl) (fun Γ hC hQ hN => ?_)
  have hC : COK G Γ "java/lang/Integer" cJ6_bitCount_0f7a4 1 1 30 0 0 [] := hC
  unfold wp_J6_bitCount_0f7a4 at hq
  show V G Γ 1 0 0 h0 0 [(0, .int p0)] []
  refine V_iload_n hC dJ6_bitCount_0f7a4_0 0 rfl ?_
  refine V_iload_n hC dJ6_bitCount_0f7a4_1 0 rfl ?_
  refine V_iconst (v := 1) hC dJ6_bitCount_0f7a4_2 (by decide) ?_
  refine V_iushr hC dJ6_bitCount_0f7a4_3 rfl ?_
  refine V_ldcw (v := 1431655765) hC aw_4_205 dJ6_bitCount_0f7a4_4 ?_
  refine V_iand hC dJ6_bitCount_0f7a4_7 ?_
  refine V_isub hC dJ6_bitCount_0f7a4_8 ?_
  refine V_istore_n (L' := [(0, .int (p0 - (((p0).toUInt32 >>> ((1 : Int32).toUInt32 &&& Int32.toUInt32 31)).toInt32 &&& 1431655765)))]) hC dJ6_bitCount_0f7a4_9 rfl (by decide) [0] rfl ?_
  refine V_iload_n hC dJ6_bitCount_0f7a4_10 0 rfl ?_
  refine V_ldcw (v := 858993459) hC aw_4_206 dJ6_bitCount_0f7a4_11 ?_
  refine V_iand hC dJ6_bitCount_0f7a4_14 ?_
  refine V_iload_n hC dJ6_bitCount_0f7a4_15 0 rfl ?_
  refine V_iconst (v := 2) hC dJ6_bitCount_0f7a4_16 (by decide) ?_
  refine V_iushr hC dJ6_bitCount_0f7a4_17 rfl ?_
  refine V_ldcw (v := 858993459) hC aw_4_206 dJ6_bitCount_0f7a4_18 ?_
  refine V_iand hC dJ6_bitCount_0f7a4_21 ?_
  refine V_iadd hC dJ6_bitCount_0f7a4_22 ?_
  refine V_istore_n (L' := [(0, .int (((p0 - (((p0).toUInt32 >>> ((1 : Int32).toUInt32 &&& Int32.toUInt32 31)).toInt32 &&& 1431655765)) &&& 858993459) + ((((p0 - (((p0).toUInt32 >>> ((1 : Int32).toUInt32 &&& Int32.toUInt32 31)).toInt32 &&& 1431655765))).toUInt32 >>> ((2 : Int32).toUInt32 &&& Int32.toUInt32 31)).toInt32 &&& 858993459)))]) hC dJ6_bitCount_0f7a4_23 rfl (by decide) [0] rfl ?_
  refine V_iload_n hC dJ6_bitCount_0f7a4_24 0 rfl ?_
  refine V_iload_n hC dJ6_bitCount_0f7a4_25 0 rfl ?_
  refine V_iconst (v := 4) hC dJ6_bitCount_0f7a4_26 (by decide) ?_
  refine V_iushr hC dJ6_bitCount_0f7a4_27 rfl ?_
  refine V_iadd hC dJ6_bitCount_0f7a4_28 ?_
  refine V_ldcw (v := 252645135) hC aw_4_207 dJ6_bitCount_0f7a4_29 ?_
  refine V_iand hC dJ6_bitCount_0f7a4_32 ?_
  refine V_istore_n (L' := [(0, .int (((((p0 - (((p0).toUInt32 >>> ((1 : Int32).toUInt32 &&& Int32.toUInt32 31)).toInt32 &&& 1431655765)) &&& 858993459) + ((((p0 - (((p0).toUInt32 >>> ((1 : Int32).toUInt32 &&& Int32.toUInt32 31)).toInt32 &&& 1431655765))).toUInt32 >>> ((2 : Int32).toUInt32 &&& Int32.toUInt32 31)).toInt32 &&& 858993459)) + (((((p0 - (((p0).toUInt32 >>> ((1 : Int32).toUInt32 &&& Int32.toUInt32 31)).toInt32 &&& 1431655765)) &&& 858993459) + ((((p0 - (((p0).toUInt32 >>> ((1 : Int32).toUInt32 &&& Int32.toUInt32 31)).toInt32 &&& 1431655765))).toUInt32 >>> ((2 : Int32).toUInt32 &&& Int32.toUInt32 31)).toInt32 &&& 858993459))).toUInt32 >>> ((4 : Int32).toUInt32 &&& Int32.toUInt32 31)).toInt32) &&& 252645135))]) hC dJ6_bitCount_0f7a4_33 rfl (by decide) [0] rfl ?_
  refine V_iload_n hC dJ6_bitCount_0f7a4_34 0 rfl ?_
  refine V_iload_n hC dJ6_bitCount_0f7a4_35 0 rfl ?_
  refine V_bipush (v := 8) hC dJ6_bitCount_0f7a4_36 (by decide) ?_
  refine V_iushr hC dJ6_bitCount_0f7a4_38 rfl ?_
  refine V_iadd hC dJ6_bitCount_0f7a4_39 ?_
  refine V_istore_n (L' := [(0, .int ((((((p0 - (((p0).toUInt32 >>> ((1 : Int32).toUInt32 &&& Int32.toUInt32 31)).toInt32 &&& 1431655765)) &&& 858993459) + ((((p0 - (((p0).toUInt32 >>> ((1 : Int32).toUInt32 &&& Int32.toUInt32 31)).toInt32 &&& 1431655765))).toUInt32 >>> ((2 : Int32).toUInt32 &&& Int32.toUInt32 31)).toInt32 &&& 858993459)) + (((((p0 - (((p0).toUInt32 >>> ((1 : Int32).toUInt32 &&& Int32.toUInt32 31)).toInt32 &&& 1431655765)) &&& 858993459) + ((((p0 - (((p0).toUInt32 >>> ((1 : Int32).toUInt32 &&& Int32.toUInt32 31)).toInt32 &&& 1431655765))).toUInt32 >>> ((2 : Int32).toUInt32 &&& Int32.toUInt32 31)).toInt32 &&& 858993459))).toUInt32 >>> ((4 : Int32).toUInt32 &&& Int32.toUInt32 31)).toInt32) &&& 252645135) + (((((((p0 - (((p0).toUInt32 >>> ((1 : Int32).toUInt32 &&& Int32.toUInt32 31)).toInt32 &&& 1431655765)) &&& 858993459) + ((((p0 - (((p0).toUInt32 >>> ((1 : Int32).toUInt32 &&& Int32.toUInt32 31)).toInt32 &&& 1431655765))).toUInt32 >>> ((2 : Int32).toUInt32 &&& Int32.toUInt32 31)).toInt32 &&& 858993459)) + (((((p0 - (((p0).toUInt32 >>> ((1 : Int32).toUInt32 &&& Int32.toUInt32 31)).toInt32 &&& 1431655765)) &&& 858993459) + ((((p0 - (((p0).toUInt32 >>> ((1 : Int32).toUInt32 &&& Int32.toUInt32 31)).toInt32 &&& 1431655765))).toUInt32 >>> ((2 : Int32).toUInt32 &&& Int32.toUInt32 31)).toInt32 &&& 858993459))).toUInt32 >>> ((4 : Int32).toUInt32 &&& Int32.toUInt32 31)).toInt32) &&& 252645135)).toUInt32 >>> ((8 : Int32).toUInt32 &&& Int32.toUInt32 31)).toInt32))]) hC dJ6_bitCount_0f7a4_40 rfl (by decide) [0] rfl ?_
  refine V_iload_n hC dJ6_bitCount_0f7a4_41 0 rfl ?_
  refine V_iload_n hC dJ6_bitCount_0f7a4_42 0 rfl ?_
  refine V_bipush (v := 16) hC dJ6_bitCount_0f7a4_43 (by decide) ?_
  refine V_iushr hC dJ6_bitCount_0f7a4_45 rfl ?_
  refine V_iadd hC dJ6_bitCount_0f7a4_46 ?_
  refine V_istore_n (L' := [(0, .int (((((((p0 - (((p0).toUInt32 >>> ((1 : Int32).toUInt32 &&& Int32.toUInt32 31)).toInt32 &&& 1431655765)) &&& 858993459) + ((((p0 - (((p0).toUInt32 >>> ((1 : Int32).toUInt32 &&& Int32.toUInt32 31)).toInt32 &&& 1431655765))).toUInt32 >>> ((2 : Int32).toUInt32 &&& Int32.toUInt32 31)).toInt32 &&& 858993459)) + (((((p0 - (((p0).toUInt32 >>> ((1 : Int32).toUInt32 &&& Int32.toUInt32 31)).toInt32 &&& 1431655765)) &&& 858993459) + ((((p0 - (((p0).toUInt32 >>> ((1 : Int32).toUInt32 &&& Int32.toUInt32 31)).toInt32 &&& 1431655765))).toUInt32 >>> ((2 : Int32).toUInt32 &&& Int32.toUInt32 31)).toInt32 &&& 858993459))).toUInt32 >>> ((4 : Int32).toUInt32 &&& Int32.toUInt32 31)).toInt32) &&& 252645135) + (((((((p0 - (((p0).toUInt32 >>> ((1 : Int32).toUInt32 &&& Int32.toUInt32 31)).toInt32 &&& 1431655765)) &&& 858993459) + ((((p0 - (((p0).toUInt32 >>> ((1 : Int32).toUInt32 &&& Int32.toUInt32 31)).toInt32 &&& 1431655765))).toUInt32 >>> ((2 : Int32).toUInt32 &&& Int32.toUInt32 31)).toInt32 &&& 858993459)) + (((((p0 - (((p0).toUInt32 >>> ((1 : Int32).toUInt32 &&& Int32.toUInt32 31)).toInt32 &&& 1431655765)) &&& 858993459) + ((((p0 - (((p0).toUInt32 >>> ((1 : Int32).toUInt32 &&& Int32.toUInt32 31)).toInt32 &&& 1431655765))).toUInt32 >>> ((2 : Int32).toUInt32 &&& Int32.toUInt32 31)).toInt32 &&& 858993459))).toUInt32 >>> ((4 : Int32).toUInt32 &&& Int32.toUInt32 31)).toInt32) &&& 252645135)).toUInt32 >>> ((8 : Int32).toUInt32 &&& Int32.toUInt32 31)).toInt32) + ((((((((p0 - (((p0).toUInt32 >>> ((1 : Int32).toUInt32 &&& Int32.toUInt32 31)).toInt32 &&& 1431655765)) &&& 858993459) + ((((p0 - (((p0).toUInt32 >>> ((1 : Int32).toUInt32 &&& Int32.toUInt32 31)).toInt32 &&& 1431655765))).toUInt32 >>> ((2 : Int32).toUInt32 &&& Int32.toUInt32 31)).toInt32 &&& 858993459)) + (((((p0 - (((p0).toUInt32 >>> ((1 : Int32).toUInt32 &&& Int32.toUInt32 31)).toInt32 &&& 1431655765)) &&& 858993459) + ((((p0 - (((p0).toUInt32 >>> ((1 : Int32).toUInt32 &&& Int32.toUInt32 31)).toInt32 &&& 1431655765))).toUInt32 >>> ((2 : Int32).toUInt32 &&& Int32.toUInt32 31)).toInt32 &&& 858993459))).toUInt32 >>> ((4 : Int32).toUInt32 &&& Int32.toUInt32 31)).toInt32) &&& 252645135) + (((((((p0 - (((p0).toUInt32 >>> ((1 : Int32).toUInt32 &&& Int32.toUInt32 31)).toInt32 &&& 1431655765)) &&& 858993459) + ((((p0 - (((p0).toUInt32 >>> ((1 : Int32).toUInt32 &&& Int32.toUInt32 31)).toInt32 &&& 1431655765))).toUInt32 >>> ((2 : Int32).toUInt32 &&& Int32.toUInt32 31)).toInt32 &&& 858993459)) + (((((p0 - (((p0).toUInt32 >>> ((1 : Int32).toUInt32 &&& Int32.toUInt32 31)).toInt32 &&& 1431655765)) &&& 858993459) + ((((p0 - (((p0).toUInt32 >>> ((1 : Int32).toUInt32 &&& Int32.toUInt32 31)).toInt32 &&& 1431655765))).toUInt32 >>> ((2 : Int32).toUInt32 &&& Int32.toUInt32 31)).toInt32 &&& 858993459))).toUInt32 >>> ((4 : Int32).toUInt32 &&& Int32.toUInt32 31)).toInt32) &&& 252645135)).toUInt32 >>> ((8 : Int32).toUInt32 &&& Int32.toUInt32 31)).toInt32)).toUInt32 >>> ((16 : Int32).toUInt32 &&& Int32.toUInt32 31)).toInt32))]) hC dJ6_bitCount_0f7a4_47 rfl (by decide) [0] rfl ?_
  refine V_iload_n hC dJ6_bitCount_0f7a4_48 0 rfl ?_
  refine V_bipush (v := 63) hC dJ6_bitCount_0f7a4_49 (by decide) ?_
  refine V_iand hC dJ6_bitCount_0f7a4_51 ?_
  exact V_iret hC hQ rfl rfl ⟨by decide, by decide⟩ dJ6_bitCount_0f7a4_52 ⟨_, rfl, rfl, hq⟩
theorem clS_J6_bitCount_0f7a4 {G : Gx} (hG : GOK G) {Γ : Cx} {own : String} {cc : ByteArray} {nL fr lo mc ms cells slots pc : Nat} {hh : List (Nat × Nat × Nat × Nat)} {h : hw} {L : List (Nat × Value)} {rest : List Value} (hC : COK G Γ own cc nL fr lo mc ms hh) {idx : Nat} (hs : SS own idx yJ6_bitCount_0f7a4 cJ6_bitCount_0f7a4 1 (some .int) 1) {p0 : Int32} (hR : 1 + 1 ≤ fr ∧ 8 + (1 + 11) + 30 ≤ lo) (hw8 : (rest.map fun v => v.category).sum ≤ 8) (hcs : cells + 0 ≤ mc ∧ slots + 0 ≤ ms) (hdg : decode cc pc = .ok (.invokestatic idx, 3)) {post : Int32 → Prop} (hq : wp_J6_bitCount_0f7a4 G p0 h post) (kk : ∀ (r : Int32) , post r → V G Γ nL (cells + 0) (slots + 0) h (pc + 3) L (.int r :: rest)) : V G Γ nL cells slots h pc L (.int p0 :: rest) :=
  V_callS (As := [.int p0]) hC (ct_J6_bitCount_0f7a4 hG p0 h post hq) hs rfl hR hw8 hcs hdg (fun E h1 z => z.elim) (fun v h1 z => by obtain ⟨r, rfl, rfl, hz⟩ := z; exact kk r hz)
set_option maxRecDepth 100000 in
set_option maxHeartbeats 4000000 in
theorem ct_X11_sell {G : Gx} (hG : GOK G) (p0 : Nat) (p1 : Int32) (p2 : Int32) (p3 : Int32) (h0 : hw) (post : Int32 → hw → Prop) (xp : String → hw → Prop) (hq : wp_X11_sell G p0 p1 p2 p3 h0 post xp) : CT G yX11_sell cX11_sell 8 (some .int) 18 458 4 24 [.ref p0, .int p1, .int p2, .int p3] h0 (fun v h1 => ∃ r : Int32, v = some (.int r) ∧ post r h1) (fun E h1 => xp E h1) := by
  refine CT_of hG (by decide) (Nat.le_of_ble_eq_true rfl) (fun Γ hC hQ hN => ?_)
  have hC : COK G Γ "Bandplan" cX11_sell 8 18 458 4 24 [] := hC
  unfold wp_X11_sell at hq
  show V G Γ 8 0 0 h0 0 [(0, .ref p0), (1, .int p1), (2, .int p2), (3, .int p3)] []
  refine V_aload_n hC dX11_sell_0 0 rfl ?_
  refine V_iload_n hC dX11_sell_1 1 rfl ?_
  refine V_iconst (v := 1) hC dX11_sell_2 (by decide) ?_
  refine V_sipush (v := 9999) hC dX11_sell_3 (by decide) ?_
  obtain ⟨hz, hq⟩ := hq
  refine clV_X11_needRange hG hC sv_X11_70 ⟨by decide, by decide⟩ (Nat.le_of_ble_eq_true rfl) ⟨by decide, by decide⟩ dX11_sell_6 hz hq (fun E hx => VX_out hC hQ ⟨by decide, by decide⟩ hx) (fun hq => ?_)
  show V G Γ 8 1 6 h0 9 [(0, .ref p0), (1, .int p1), (2, .int p2), (3, .int p3)] []
  refine V_aload_n hC dX11_sell_9 0 rfl ?_
  refine V_iload_n hC dX11_sell_10 2 rfl ?_
  refine V_iconst (v := 1) hC dX11_sell_11 (by decide) ?_
  refine V_sipush (v := 999) hC dX11_sell_12 (by decide) ?_
  obtain ⟨hz, hq⟩ := hq
  refine clV_X11_needRange hG hC sv_X11_70 ⟨by decide, by decide⟩ (Nat.le_of_ble_eq_true rfl) ⟨by decide, by decide⟩ dX11_sell_15 hz hq (fun E hx => VX_out hC hQ ⟨by decide, by decide⟩ hx) (fun hq => ?_)
  show V G Γ 8 2 12 h0 18 [(0, .ref p0), (1, .int p1), (2, .int p2), (3, .int p3)] []
  refine V_aload_n hC dX11_sell_18 0 rfl ?_
  refine V_iload_n hC dX11_sell_19 3 rfl ?_
  refine V_iconst (v := 1) hC dX11_sell_20 (by decide) ?_
  refine V_bipush (v := 8) hC dX11_sell_21 (by decide) ?_
  obtain ⟨hz, hq⟩ := hq
  refine clV_X11_needRange hG hC sv_X11_70 ⟨by decide, by decide⟩ (Nat.le_of_ble_eq_true rfl) ⟨by decide, by decide⟩ dX11_sell_23 hz hq (fun E hx => VX_out hC hQ ⟨by decide, by decide⟩ hx) (fun hq => ?_)
  show V G Γ 8 3 18 h0 26 [(0, .ref p0), (1, .int p1), (2, .int p2), (3, .int p3)] []
  refine V_aload_n hC dX11_sell_26 0 rfl ?_
  refine U_getR hC fl_X11_10 dX11_sell_27 hq (fun v1 hq => ?_)
  obtain ⟨hz, hq⟩ := hq
  refine clV_X0_protectedOnes hG hC sv_X11_258 ⟨by decide, by decide⟩ (Nat.le_of_ble_eq_true rfl) ⟨by decide, by decide⟩ dX11_sell_30 hz hq (fun r2 hq => ?_)
  show V G Γ 8 3 18 h0 33 [(0, .ref p0), (1, .int p1), (2, .int p2), (3, .int p3)] [.int r2]
  refine V_aload_n hC dX11_sell_33 0 rfl ?_
  refine U_getR hC fl_X11_19 dX11_sell_34 hq (fun v3 hq => ?_)
  obtain ⟨hz, hq⟩ := hq
  refine clV_X6_onesOn hG hC sv_X11_274 ⟨by decide, by decide⟩ (Nat.le_of_ble_eq_true rfl) ⟨by decide, by decide⟩ dX11_sell_37 hz hq (fun r4 hq => ?_)
  show V G Γ 8 3 18 h0 40 [(0, .ref p0), (1, .int p1), (2, .int p2), (3, .int p3)] [.int r4, .int r2]
  refine V_iand hC dX11_sell_40 ?_
  refine V_istore (L' := [(0, .ref p0), (1, .int p1), (2, .int p2), (3, .int p3), (4, .int (r2 &&& r4))]) hC dX11_sell_41 (by decide) [1, 2, 3, 4, 0] rfl ?_
  refine V_iload hC dX11_sell_43 4 rfl ?_
  refine V_if_ne (tgt := 59) hC dX11_sell_45 (by decide) (fun hc => ?_) (fun hc => ?_)
  · have hq := hq.1 hc
    refine V_aload_n hC dX11_sell_59 0 rfl ?_
    refine U_getR hC fl_X11_33 dX11_sell_60 hq (fun v5 hq => ?_)
    refine V_aload_n hC dX11_sell_63 0 rfl ?_
    refine U_getR hC fl_X11_10 dX11_sell_64 hq (fun v6 hq => ?_)
    refine V_iload_n hC dX11_sell_67 3 rfl ?_
    obtain ⟨hz, hq⟩ := hq
    refine clV_X5_prepare hG hC sv_X11_254 ⟨by decide, by decide⟩ (Nat.le_of_ble_eq_true rfl) ⟨by decide, by decide⟩ dX11_sell_68 hz hq (fun h7 hq => ?_)
    show V G Γ 8 3 18 h7 71 [(0, .ref p0), (1, .int p1), (2, .int p2), (3, .int p3), (4, .int (r2 &&& r4))] []
    refine V_iload hC dX11_sell_71 4 rfl ?_
    refine V_aload_n hC dX11_sell_73 0 rfl ?_
    refine U_getR hC fl_X11_10 dX11_sell_74 hq (fun v8 hq => ?_)
    refine V_iload_n hC dX11_sell_77 1 rfl ?_
    obtain ⟨hz, hq⟩ := hq
    refine clV_X0_askingMoreThan hG hC sv_X11_279 ⟨by decide, by decide⟩ (Nat.le_of_ble_eq_true rfl) ⟨by decide, by decide⟩ dX11_sell_78 hz hq (fun r9 hq => ?_)
    show V G Γ 8 3 18 h7 81 [(0, .ref p0), (1, .int p1), (2, .int p2), (3, .int p3), (4, .int (r2 &&& r4))] [.int r9, .int (r2 &&& r4)]
    refine V_iand hC dX11_sell_81 ?_
    refine V_istore (L' := [(0, .ref p0), (1, .int p1), (2, .int p2), (3, .int p3), (4, .int (r2 &&& r4)), (5, .int ((r2 &&& r4) &&& r9))]) hC dX11_sell_82 (by decide) [1, 2, 3, 4, 5, 0] rfl ?_
    refine V_aload_n hC dX11_sell_84 0 rfl ?_
    refine U_getR hC fl_X11_33 dX11_sell_85 hq (fun v10 hq => ?_)
    refine V_iload hC dX11_sell_88 5 rfl ?_
    obtain ⟨hz, hq⟩ := hq
    refine clV_X5_fits hG hC sv_X11_282 ⟨by decide, by decide⟩ (Nat.le_of_ble_eq_true rfl) ⟨by decide, by decide⟩ dX11_sell_90 hz hq (fun r11 h12 hq => ?_)
    show V G Γ 8 3 18 h12 93 [(0, .ref p0), (1, .int p1), (2, .int p2), (3, .int p3), (4, .int (r2 &&& r4)), (5, .int ((r2 &&& r4) &&& r9))] [.int r11]
    refine V_if_ne (tgt := 107) hC dX11_sell_93 (by decide) (fun hc => ?_) (fun hc => ?_)
    · have hq := hq.1 hc
      refine V_aload_n hC dX11_sell_107 0 rfl ?_
      refine U_getR hC fl_X11_40 dX11_sell_108 hq (fun v13 hq => ?_)
      refine V_iload_n hC dX11_sell_111 3 rfl ?_
      refine V_iload hC dX11_sell_112 5 rfl ?_
      obtain ⟨hz, hq⟩ := hq
      refine clV_X8_begin hG hC sv_X11_287 ⟨by decide, by decide⟩ (Nat.le_of_ble_eq_true rfl) ⟨by decide, by decide⟩ dX11_sell_114 hz hq (fun h14 hq => ?_)
      show V G Γ 8 3 18 h14 117 [(0, .ref p0), (1, .int p1), (2, .int p2), (3, .int p3), (4, .int (r2 &&& r4)), (5, .int ((r2 &&& r4) &&& r9))] []
      refine V_aload_n hC dX11_sell_117 0 rfl ?_
      refine U_getR hC fl_X11_40 dX11_sell_118 hq (fun v15 hq => ?_)
      refine V_aload_n hC dX11_sell_121 0 rfl ?_
      refine U_getR hC fl_X11_10 dX11_sell_122 hq (fun v16 hq => ?_)
      refine V_aload_n hC dX11_sell_125 0 rfl ?_
      refine U_getR hC fl_X11_33 dX11_sell_126 hq (fun v17 hq => ?_)
      refine V_iload hC dX11_sell_129 4 rfl ?_
      refine V_iload hC dX11_sell_131 5 rfl ?_
      refine V_iconst (v := (-1)) hC dX11_sell_133 (by decide) ?_
      refine V_ixor hC dX11_sell_134 ?_
      refine V_iand hC dX11_sell_135 ?_
      refine V_iload_n hC dX11_sell_136 1 rfl ?_
      refine V_iload_n hC dX11_sell_137 2 rfl ?_
      obtain ⟨hz, hq⟩ := hq
      refine clV_X8_run hG hC sv_X11_290 ⟨by decide, by decide⟩ (Nat.le_of_ble_eq_true rfl) ⟨by decide, by decide⟩ dX11_sell_138 hz hq (fun r18 h19 hq => ?_)
      show V G Γ 8 3 18 h19 141 [(0, .ref p0), (1, .int p1), (2, .int p2), (3, .int p3), (4, .int (r2 &&& r4)), (5, .int ((r2 &&& r4) &&& r9))] [.int r18]
      refine V_istore (L' := [(0, .ref p0), (1, .int p1), (2, .int p2), (3, .int p3), (4, .int (r2 &&& r4)), (5, .int ((r2 &&& r4) &&& r9)), (6, .int r18)]) hC dX11_sell_141 (by decide) [1, 2, 3, 4, 5, 6, 0] rfl ?_
      refine V_iconst (v := 0) hC dX11_sell_143 (by decide) ?_
      refine V_istore (L' := [(0, .ref p0), (1, .int p1), (2, .int p2), (3, .int p3), (4, .int (r2 &&& r4)), (5, .int ((r2 &&& r4) &&& r9)), (6, .int r18), (7, .int 0)]) hC dX11_sell_144 (by decide) [1, 2, 3, 4, 5, 6, 7, 0] rfl ?_
      have hq := hq (fun (x7_20 : Int32) (h21 : hw) => V G Γ 8 3 18 h21 146 [(0, .ref p0), (6, .int r18), (7, .int x7_20)] []) (by
        intro x7_20 h21 hq
        show V G Γ 8 3 18 h21 146 [(0, .ref p0), (6, .int r18), (7, .int x7_20)] []
        refine V_iload hC dX11_sell_146 2 rfl ?_
        refine V_aload_n hC dX11_sell_148 0 rfl ?_
        refine U_getR hC fl_X11_10 dX11_sell_149 hq (fun v22 hq => ?_)
        refine U_getR hC fl_X11_125 dX11_sell_152 hq (fun v23 hq => ?_)
        obtain ⟨hz, hq⟩ := hq
        refine clV_Jx4a65c_size_8abf5 hG hC sv_X11_91 ⟨by decide, by decide⟩ (Nat.le_of_ble_eq_true rfl) ⟨by decide, by decide⟩ dX11_sell_155 hz hq (fun r24 hq => ?_)
        show V G Γ 8 3 18 h21 158 [(0, .ref p0), (6, .int r18), (7, .int x7_20)] [.int r24, .int x7_20]
        refine V_icmp_ge (tgt := 187) hC dX11_sell_158 (by decide) (fun hc => ?_) (fun hc => ?_)
        · have hq := hq.1 hc
          refine V_iload hC dX11_sell_187 1 rfl ?_
          refine clS_J6_bitCount_0f7a4 hG hC ss_X11_297 ⟨by decide, by decide⟩ (Nat.le_of_ble_eq_true rfl) ⟨by decide, by decide⟩ dX11_sell_189 hq (fun r25 hq => ?_)
          show V G Γ 8 3 18 h21 192 [(0, .ref p0), (6, .int r18), (7, .int x7_20)] [.int r25]
          exact V_iret hC hQ rfl rfl ⟨by decide, by decide⟩ dX11_sell_192 ⟨_, rfl, hq⟩
        · have hq := hq.2 hc
          refine V_iload hC dX11_sell_161 2 rfl ?_
          refine V_iload hC dX11_sell_163 1 rfl ?_
          refine clS_X11_isIn hG hC ss_X11_294 ⟨by decide, by decide⟩ (Nat.le_of_ble_eq_true rfl) ⟨by decide, by decide⟩ dX11_sell_165 hq (fun r26 hq => ?_)
          show V G Γ 8 3 18 h21 168 [(0, .ref p0), (6, .int r18), (7, .int x7_20)] [.int r26]
          have hq := hq (fun (h27 : hw) => V G Γ 8 3 18 h27 181 [(0, .ref p0), (6, .int r18), (7, .int x7_20)] []) (by
            intro h27 hq
            show V G Γ 8 3 18 h27 181 [(0, .ref p0), (6, .int r18), (7, .int x7_20)] []
            refine V_iinc (j := 2) (v := (x7_20 + 1)) (L' := [(0, .ref p0), (6, .int r18), (7, .int (x7_20 + 1))]) hC dX11_sell_181 rfl rfl (by decide) [1, 2, 0] rfl ?_
            refine V_goto (tgt := 146) hC dX11_sell_184 (by decide) ?_
            exact hq)
          refine V_if_eq (tgt := 181) hC dX11_sell_168 (by decide) (fun hc => ?_) (fun hc => ?_)
          · have hq := hq.1 hc
            exact hq
          · have hq := hq.2 hc
            refine V_aload_n hC dX11_sell_171 0 rfl ?_
            refine U_getR hC fl_X11_19 dX11_sell_172 hq (fun v28 hq => ?_)
            refine V_iload hC dX11_sell_175 2 rfl ?_
            refine V_iconst (v := (-1)) hC dX11_sell_177 (by decide) ?_
            obtain ⟨hz, hq⟩ := hq
            refine clV_X6_change hG hC sv_X11_229 ⟨by decide, by decide⟩ (Nat.le_of_ble_eq_true rfl) ⟨by decide, by decide⟩ dX11_sell_178 hz hq (fun h29 hq => ?_)
            show V G Γ 8 3 18 h29 181 [(0, .ref p0), (6, .int r18), (7, .int x7_20)] []
            exact hq)
      refine V_sub [0, 6, 7] rfl ?_
      exact hq
    · have hq := hq.2 hc
      exact V_throwSW hC hQ hG th_221_285 ⟨by decide, by decide⟩ ⟨by decide, by decide⟩ dX11_sell_96 dX11_sell_99 dX11_sell_100 dX11_sell_103 dX11_sell_106 hq
  · have hq := hq.2 hc
    exact V_throwSW hC hQ hG th_221_277 ⟨by decide, by decide⟩ ⟨by decide, by decide⟩ dX11_sell_48 dX11_sell_51 dX11_sell_52 dX11_sell_55 dX11_sell_58 hq
theorem clV_X11_sell {G : Gx} (hG : GOK G) {Γ : Cx} {own : String} {cc : ByteArray} {nL fr lo mc ms cells slots pc : Nat} {hh : List (Nat × Nat × Nat × Nat)} {h : hw} {L : List (Nat × Value)} {rest : List Value} (hC : COK G Γ own cc nL fr lo mc ms hh) {idx : Nat} (hs : SV own idx yX11_sell cX11_sell 8 (some .int) 3) {p0 : Nat} {p1 : Int32} {p2 : Int32} {p3 : Int32} (hR : 18 + 1 ≤ fr ∧ 8 + (8 + 11) + 458 ≤ lo) (hw8 : (rest.map fun v => v.category).sum ≤ 8) (hcs : cells + 4 ≤ mc ∧ slots + 24 ≤ ms) (hdg : decode cc pc = .ok (.invokevirtual idx, 3)) (ho : isO h p0 11) {post : Int32 → hw → Prop} {xp : String → hw → Prop} (hq : wp_X11_sell G p0 p1 p2 p3 h post xp) (kx : ∀ (E : String) (h1 : hw), xp E h1 → VX G Γ nL (cells + 4) (slots + 24) h1 pc L rest E) (kk : ∀ (r : Int32) (h1 : hw) , post r h1 → V G Γ nL (cells + 4) (slots + 24) h1 (pc + 3) L (.int r :: rest)) : V G Γ nL cells slots h pc L (.int p3 :: .int p2 :: .int p1 :: .ref p0 :: rest) :=
  V_callV (As := [.int p1, .int p2, .int p3]) (r9 := (RX11, TX11, 8)) hC (ct_X11_sell hG p0 p1 p2 p3 h post xp hq) hs ho rfl rfl rfl hR hw8 hcs hdg (fun E h1 z => kx E h1 z) (fun v h1 z => by obtain ⟨r, rfl, hz⟩ := z; exact kk r h1 hz)
set_option maxRecDepth 100000 in
set_option maxHeartbeats 4000000 in
theorem ct_X11_priceOf {G : Gx} (hG : GOK G) (p0 : Nat) (p1 : Int32) (h0 : hw) (post : Int32 → Prop) (xp : String → Prop) (hq : wp_X11_priceOf G p0 p1 h0 post xp) : CT G yX11_priceOf cX11_priceOf 4 (some .int) 7 115 2 12 [.ref p0, .int p1] h0 (fun v h1 => ∃ r : Int32, v = some (.int r) ∧ h1 = h0 ∧ post r) (fun E h1 => h1 = h0 ∧ xp E) := by
  refine CT_of hG (by decide) (Nat.le_of_ble_eq_true rfl) (fun Γ hC hQ hN => ?_)
  have hC : COK G Γ "Bandplan" cX11_priceOf 4 7 115 2 12 [] := hC
  unfold wp_X11_priceOf at hq
  show V G Γ 4 0 0 h0 0 [(0, .ref p0), (1, .int p1)] []
  refine V_aload_n hC dX11_priceOf_0 0 rfl ?_
  refine V_iload_n hC dX11_priceOf_1 1 rfl ?_
  obtain ⟨hz, hq⟩ := hq
  refine clV_X11_stationAt hG hC sv_X11_143 ⟨by decide, by decide⟩ (Nat.le_of_ble_eq_true rfl) ⟨by decide, by decide⟩ dX11_priceOf_2 hz hq (fun E hx => VX_out hC hQ ⟨by decide, by decide⟩ ⟨rfl, hx⟩) (fun r1 hq => ?_)
  show V G Γ 4 1 6 h0 5 [(0, .ref p0), (1, .int p1)] [.ref r1]
  refine V_astore_n (L' := [(0, .ref p0), (1, .int p1), (2, .ref r1)]) hC dX11_priceOf_5 rfl (by decide) [1, 2, 0] rfl ?_
  refine V_aload_n hC dX11_priceOf_6 0 rfl ?_
  refine U_getR hC fl_X11_40 dX11_priceOf_7 hq (fun v2 hq => ?_)
  refine U_getR hC fl_X11_302 dX11_priceOf_10 hq (fun v3 hq => ?_)
  refine V_aload_n hC dX11_priceOf_13 2 rfl ?_
  refine U_getI hC fl_X11_232 dX11_priceOf_14 hq (fun v4 hq => ?_)
  obtain ⟨hz, hq⟩ := hq
  refine clV_X7_at hG hC sv_X11_226 ⟨by decide, by decide⟩ (Nat.le_of_ble_eq_true rfl) ⟨by decide, by decide⟩ dX11_priceOf_17 hz hq (fun r5 hq => ?_)
  show V G Γ 4 1 6 h0 20 [(0, .ref p0), (1, .int p1), (2, .ref r1)] [.int r5]
  refine V_istore_n (L' := [(0, .ref p0), (1, .int p1), (2, .ref r1), (3, .int r5)]) hC dX11_priceOf_20 rfl (by decide) [1, 2, 3, 0] rfl ?_
  refine V_iload_n hC dX11_priceOf_21 3 rfl ?_
  refine V_iconst (v := (-1)) hC dX11_priceOf_22 (by decide) ?_
  refine V_icmp_ne (tgt := 37) hC dX11_priceOf_23 (by decide) (fun hc => ?_) (fun hc => ?_)
  · have hq := hq.1 hc
    refine V_iload_n hC dX11_priceOf_37 3 rfl ?_
    exact V_iret hC hQ rfl rfl ⟨by decide, by decide⟩ dX11_priceOf_38 ⟨_, rfl, rfl, hq⟩
  · have hq := hq.2 hc
    exact V_throwNSW hC hQ hG th_162_305 ⟨by decide, by decide⟩ ⟨by decide, by decide⟩ dX11_priceOf_26 dX11_priceOf_29 dX11_priceOf_30 dX11_priceOf_33 dX11_priceOf_36 ⟨rfl, hq⟩
theorem clV_X11_priceOf {G : Gx} (hG : GOK G) {Γ : Cx} {own : String} {cc : ByteArray} {nL fr lo mc ms cells slots pc : Nat} {hh : List (Nat × Nat × Nat × Nat)} {h : hw} {L : List (Nat × Value)} {rest : List Value} (hC : COK G Γ own cc nL fr lo mc ms hh) {idx : Nat} (hs : SV own idx yX11_priceOf cX11_priceOf 4 (some .int) 1) {p0 : Nat} {p1 : Int32} (hR : 7 + 1 ≤ fr ∧ 8 + (4 + 11) + 115 ≤ lo) (hw8 : (rest.map fun v => v.category).sum ≤ 8) (hcs : cells + 2 ≤ mc ∧ slots + 12 ≤ ms) (hdg : decode cc pc = .ok (.invokevirtual idx, 3)) (ho : isO h p0 11) {post : Int32 → Prop} {xp : String → Prop} (hq : wp_X11_priceOf G p0 p1 h post xp) (kx : ∀ E : String, xp E → VX G Γ nL (cells + 2) (slots + 12) h pc L rest E) (kk : ∀ (r : Int32) , post r → V G Γ nL (cells + 2) (slots + 12) h (pc + 3) L (.int r :: rest)) : V G Γ nL cells slots h pc L (.int p1 :: .ref p0 :: rest) :=
  V_callV (As := [.int p1]) (r9 := (RX11, TX11, 8)) hC (ct_X11_priceOf hG p0 p1 h post xp hq) hs ho rfl rfl rfl hR hw8 hcs hdg (fun E h1 z => by obtain ⟨rfl, hz⟩ := z; exact kx E hz) (fun v h1 z => by obtain ⟨r, rfl, rfl, hz⟩ := z; exact kk r hz)
set_option maxRecDepth 100000 in
set_option maxHeartbeats 4000000 in
theorem ct_X11_rounds {G : Gx} (hG : GOK G) (p0 : Nat) (h0 : hw) (post : Int32 → Prop) (hq : wp_X11_rounds G p0 h0 post) : CT G yX11_rounds cX11_rounds 1 (some .int) 1 30 0 0 [.ref p0] h0 (fun v h1 => ∃ r : Int32, v = some (.int r) ∧ h1 = h0 ∧ post r) (fun E h1 => False) := by
  refine CT_of hG (by decide) (Nat.le_of_ble_eq_true rfl) (fun Γ hC hQ hN => ?_)
  have hC : COK G Γ "Bandplan" cX11_rounds 1 1 30 0 0 [] := hC
  unfold wp_X11_rounds at hq
  show V G Γ 1 0 0 h0 0 [(0, .ref p0)] []
  refine V_aload_n hC dX11_rounds_0 0 rfl ?_
  refine U_getR hC fl_X11_40 dX11_rounds_1 hq (fun v1 hq => ?_)
  refine U_getI hC fl_X11_307 dX11_rounds_4 hq (fun v2 hq => ?_)
  exact V_iret hC hQ rfl rfl ⟨by decide, by decide⟩ dX11_rounds_7 ⟨_, rfl, rfl, hq⟩
theorem clV_X11_rounds {G : Gx} (hG : GOK G) {Γ : Cx} {own : String} {cc : ByteArray} {nL fr lo mc ms cells slots pc : Nat} {hh : List (Nat × Nat × Nat × Nat)} {h : hw} {L : List (Nat × Value)} {rest : List Value} (hC : COK G Γ own cc nL fr lo mc ms hh) {idx : Nat} (hs : SV own idx yX11_rounds cX11_rounds 1 (some .int) 0) {p0 : Nat} (hR : 1 + 1 ≤ fr ∧ 8 + (1 + 11) + 30 ≤ lo) (hw8 : (rest.map fun v => v.category).sum ≤ 8) (hcs : cells + 0 ≤ mc ∧ slots + 0 ≤ ms) (hdg : decode cc pc = .ok (.invokevirtual idx, 3)) (ho : isO h p0 11) {post : Int32 → Prop} (hq : wp_X11_rounds G p0 h post) (kk : ∀ (r : Int32) , post r → V G Γ nL (cells + 0) (slots + 0) h (pc + 3) L (.int r :: rest)) : V G Γ nL cells slots h pc L (.ref p0 :: rest) :=
  V_callV (As := []) (r9 := (RX11, TX11, 8)) hC (ct_X11_rounds hG p0 h post hq) hs ho rfl rfl rfl hR hw8 hcs hdg (fun E h1 z => z.elim) (fun v h1 z => by obtain ⟨r, rfl, rfl, hz⟩ := z; exact kk r hz)
set_option maxRecDepth 100000 in
set_option maxHeartbeats 4000000 in
theorem ct_X11_addBidder {G : Gx} (hG : GOK G) (p0 : Nat) (p1 : Int32) (p2 : Int32) (p3 : Int32) (h0 : hw) (post : Int32 → hw → Prop) (xp : String → hw → Prop) (hq : wp_X11_addBidder G p0 p1 p2 p3 h0 post xp) : CT G yX11_addBidder cX11_addBidder 4 (some .int) 7 113 4 24 [.ref p0, .int p1, .int p2, .int p3] h0 (fun v h1 => ∃ r : Int32, v = some (.int r) ∧ post r h1) (fun E h1 => xp E h1) := by
  refine CT_of hG (by decide) (Nat.le_of_ble_eq_true rfl) (fun Γ hC hQ hN => ?_)
  have hC : COK G Γ "Bandplan" cX11_addBidder 4 7 113 4 24 [] := hC
  unfold wp_X11_addBidder at hq
  show V G Γ 4 0 0 h0 0 [(0, .ref p0), (1, .int p1), (2, .int p2), (3, .int p3)] []
  refine V_aload_n hC dX11_addBidder_0 0 rfl ?_
  refine V_iload_n hC dX11_addBidder_1 1 rfl ?_
  refine V_iconst (v := 0) hC dX11_addBidder_2 (by decide) ?_
  refine V_sipush (v := 9999) hC dX11_addBidder_3 (by decide) ?_
  obtain ⟨hz, hq⟩ := hq
  refine clV_X11_needRange hG hC sv_X11_70 ⟨by decide, by decide⟩ (Nat.le_of_ble_eq_true rfl) ⟨by decide, by decide⟩ dX11_addBidder_6 hz hq (fun E hx => VX_out hC hQ ⟨by decide, by decide⟩ hx) (fun hq => ?_)
  show V G Γ 4 1 6 h0 9 [(0, .ref p0), (1, .int p1), (2, .int p2), (3, .int p3)] []
  refine V_aload_n hC dX11_addBidder_9 0 rfl ?_
  refine V_iload_n hC dX11_addBidder_10 2 rfl ?_
  refine V_iconst (v := 0) hC dX11_addBidder_11 (by decide) ?_
  refine V_iload_n hC dX11_addBidder_12 1 rfl ?_
  obtain ⟨hz, hq⟩ := hq
  refine clV_X11_needRange hG hC sv_X11_70 ⟨by decide, by decide⟩ (Nat.le_of_ble_eq_true rfl) ⟨by decide, by decide⟩ dX11_addBidder_13 hz hq (fun E hx => VX_out hC hQ ⟨by decide, by decide⟩ hx) (fun hq => ?_)
  show V G Γ 4 2 12 h0 16 [(0, .ref p0), (1, .int p1), (2, .int p2), (3, .int p3)] []
  refine V_aload_n hC dX11_addBidder_16 0 rfl ?_
  refine V_iload_n hC dX11_addBidder_17 3 rfl ?_
  refine V_iconst (v := 0) hC dX11_addBidder_18 (by decide) ?_
  refine V_iload_n hC dX11_addBidder_19 2 rfl ?_
  obtain ⟨hz, hq⟩ := hq
  refine clV_X11_needRange hG hC sv_X11_70 ⟨by decide, by decide⟩ (Nat.le_of_ble_eq_true rfl) ⟨by decide, by decide⟩ dX11_addBidder_20 hz hq (fun E hx => VX_out hC hQ ⟨by decide, by decide⟩ hx) (fun hq => ?_)
  show V G Γ 4 3 18 h0 23 [(0, .ref p0), (1, .int p1), (2, .int p2), (3, .int p3)] []
  refine V_aload_n hC dX11_addBidder_23 0 rfl ?_
  refine U_getR hC fl_X11_47 dX11_addBidder_24 hq (fun v1 hq => ?_)
  refine U_getI hC fl_X11_310 dX11_addBidder_27 hq (fun v2 hq => ?_)
  refine V_iconst (v := 4) hC dX11_addBidder_30 (by decide) ?_
  refine V_icmp_lt (tgt := 45) hC dX11_addBidder_31 (by decide) (fun hc => ?_) (fun hc => ?_)
  · have hq := hq.1 hc
    refine V_aload_n hC dX11_addBidder_45 0 rfl ?_
    refine U_getR hC fl_X11_47 dX11_addBidder_46 hq (fun v3 hq => ?_)
    refine V_iload_n hC dX11_addBidder_49 1 rfl ?_
    refine V_iload_n hC dX11_addBidder_50 2 rfl ?_
    refine V_iload_n hC dX11_addBidder_51 3 rfl ?_
    obtain ⟨hz, hq⟩ := hq
    refine clV_X2_admit hG hC sv_X11_315 ⟨by decide, by decide⟩ (Nat.le_of_ble_eq_true rfl) ⟨by decide, by decide⟩ dX11_addBidder_52 hz hq (fun r4 h5 hq => ?_)
    show V G Γ 4 3 18 h5 55 [(0, .ref p0), (1, .int p1), (2, .int p2), (3, .int p3)] [.int r4]
    exact V_iret hC hQ rfl rfl ⟨by decide, by decide⟩ dX11_addBidder_55 ⟨_, rfl, hq⟩
  · have hq := hq.2 hc
    exact V_throwSW hC hQ hG th_97_313 ⟨by decide, by decide⟩ ⟨by decide, by decide⟩ dX11_addBidder_34 dX11_addBidder_37 dX11_addBidder_38 dX11_addBidder_41 dX11_addBidder_44 hq
theorem clV_X11_addBidder {G : Gx} (hG : GOK G) {Γ : Cx} {own : String} {cc : ByteArray} {nL fr lo mc ms cells slots pc : Nat} {hh : List (Nat × Nat × Nat × Nat)} {h : hw} {L : List (Nat × Value)} {rest : List Value} (hC : COK G Γ own cc nL fr lo mc ms hh) {idx : Nat} (hs : SV own idx yX11_addBidder cX11_addBidder 4 (some .int) 3) {p0 : Nat} {p1 : Int32} {p2 : Int32} {p3 : Int32} (hR : 7 + 1 ≤ fr ∧ 8 + (4 + 11) + 113 ≤ lo) (hw8 : (rest.map fun v => v.category).sum ≤ 8) (hcs : cells + 4 ≤ mc ∧ slots + 24 ≤ ms) (hdg : decode cc pc = .ok (.invokevirtual idx, 3)) (ho : isO h p0 11) {post : Int32 → hw → Prop} {xp : String → hw → Prop} (hq : wp_X11_addBidder G p0 p1 p2 p3 h post xp) (kx : ∀ (E : String) (h1 : hw), xp E h1 → VX G Γ nL (cells + 4) (slots + 24) h1 pc L rest E) (kk : ∀ (r : Int32) (h1 : hw) , post r h1 → V G Γ nL (cells + 4) (slots + 24) h1 (pc + 3) L (.int r :: rest)) : V G Γ nL cells slots h pc L (.int p3 :: .int p2 :: .int p1 :: .ref p0 :: rest) :=
  V_callV (As := [.int p1, .int p2, .int p3]) (r9 := (RX11, TX11, 8)) hC (ct_X11_addBidder hG p0 p1 p2 p3 h post xp hq) hs ho rfl rfl rfl hR hw8 hcs hdg (fun E h1 z => kx E h1 z) (fun v h1 z => by obtain ⟨r, rfl, hz⟩ := z; exact kk r h1 hz)
set_option maxRecDepth 100000 in
set_option maxHeartbeats 4000000 in
theorem ct_X11_buy {G : Gx} (hG : GOK G) (p0 : Nat) (p1 : Int32) (h0 : hw) (post : Int32 → hw → Prop) (xp : String → hw → Prop) (hq : wp_X11_buy G p0 p1 h0 post xp) : CT G yX11_buy cX11_buy 2 (some .int) 7 125 1 6 [.ref p0, .int p1] h0 (fun v h1 => ∃ r : Int32, v = some (.int r) ∧ post r h1) (fun E h1 => xp E h1) := by
  refine CT_of hG (by decide) (Nat.le_of_ble_eq_true rfl) (fun Γ hC hQ hN => ?_)
  have hC : COK G Γ "Bandplan" cX11_buy 2 7 125 1 6 [] := hC
  unfold wp_X11_buy at hq
  show V G Γ 2 0 0 h0 0 [(0, .ref p0), (1, .int p1)] []
  refine V_aload_n hC dX11_buy_0 0 rfl ?_
  refine V_iload_n hC dX11_buy_1 1 rfl ?_
  refine V_iconst (v := 0) hC dX11_buy_2 (by decide) ?_
  refine V_bipush (v := 8) hC dX11_buy_3 (by decide) ?_
  obtain ⟨hz, hq⟩ := hq
  refine clV_X11_needRange hG hC sv_X11_70 ⟨by decide, by decide⟩ (Nat.le_of_ble_eq_true rfl) ⟨by decide, by decide⟩ dX11_buy_5 hz hq (fun E hx => VX_out hC hQ ⟨by decide, by decide⟩ hx) (fun hq => ?_)
  show V G Γ 2 1 6 h0 8 [(0, .ref p0), (1, .int p1)] []
  refine V_aload_n hC dX11_buy_8 0 rfl ?_
  refine U_getR hC fl_X11_47 dX11_buy_9 hq (fun v1 hq => ?_)
  refine V_iload_n hC dX11_buy_12 1 rfl ?_
  obtain ⟨hz, hq⟩ := hq
  refine clV_X2_run hG hC sv_X11_318 ⟨by decide, by decide⟩ (Nat.le_of_ble_eq_true rfl) ⟨by decide, by decide⟩ dX11_buy_13 hz hq (fun r2 h3 hq => ?_)
  show V G Γ 2 1 6 h3 16 [(0, .ref p0), (1, .int p1)] [.int r2]
  exact V_iret hC hQ rfl rfl ⟨by decide, by decide⟩ dX11_buy_16 ⟨_, rfl, hq⟩
theorem clV_X11_buy {G : Gx} (hG : GOK G) {Γ : Cx} {own : String} {cc : ByteArray} {nL fr lo mc ms cells slots pc : Nat} {hh : List (Nat × Nat × Nat × Nat)} {h : hw} {L : List (Nat × Value)} {rest : List Value} (hC : COK G Γ own cc nL fr lo mc ms hh) {idx : Nat} (hs : SV own idx yX11_buy cX11_buy 2 (some .int) 1) {p0 : Nat} {p1 : Int32} (hR : 7 + 1 ≤ fr ∧ 8 + (2 + 11) + 125 ≤ lo) (hw8 : (rest.map fun v => v.category).sum ≤ 8) (hcs : cells + 1 ≤ mc ∧ slots + 6 ≤ ms) (hdg : decode cc pc = .ok (.invokevirtual idx, 3)) (ho : isO h p0 11) {post : Int32 → hw → Prop} {xp : String → hw → Prop} (hq : wp_X11_buy G p0 p1 h post xp) (kx : ∀ (E : String) (h1 : hw), xp E h1 → VX G Γ nL (cells + 1) (slots + 6) h1 pc L rest E) (kk : ∀ (r : Int32) (h1 : hw) , post r h1 → V G Γ nL (cells + 1) (slots + 6) h1 (pc + 3) L (.int r :: rest)) : V G Γ nL cells slots h pc L (.int p1 :: .ref p0 :: rest) :=
  V_callV (As := [.int p1]) (r9 := (RX11, TX11, 8)) hC (ct_X11_buy hG p0 p1 h post xp hq) hs ho rfl rfl rfl hR hw8 hcs hdg (fun E h1 z => kx E h1 z) (fun v h1 z => by obtain ⟨r, rfl, hz⟩ := z; exact kk r h1 hz)
set_option maxRecDepth 100000 in
set_option maxHeartbeats 4000000 in
theorem ct_X11_needBidder {G : Gx} (hG : GOK G) (p0 : Nat) (p1 : Int32) (h0 : hw) (post : Prop) (xp : String → Prop) (hq : wp_X11_needBidder G p0 p1 h0 post xp) : CT G yX11_needBidder cX11_needBidder 2 none 6 90 1 6 [.ref p0, .int p1] h0 (fun v h1 => v = none ∧ h1 = h0 ∧ post) (fun E h1 => h1 = h0 ∧ xp E) := by
  refine CT_of hG (by decide) (Nat.le_of_ble_eq_true rfl) (fun Γ hC hQ hN => ?_)
  have hC : COK G Γ "Bandplan" cX11_needBidder 2 6 90 1 6 [] := hC
  unfold wp_X11_needBidder at hq
  show V G Γ 2 0 0 h0 0 [(0, .ref p0), (1, .int p1)] []
  refine V_iload_n hC dX11_needBidder_0 1 rfl ?_
  have hq := hq (V G Γ 2 0 0 h0 15 [] []) (by
    intro hq
    show V G Γ 2 0 0 h0 15 [] []
    exact V_throwSW hC hQ hG th_376_383 ⟨by decide, by decide⟩ ⟨by decide, by decide⟩ dX11_needBidder_15 dX11_needBidder_18 dX11_needBidder_19 dX11_needBidder_22 dX11_needBidder_25 ⟨rfl, hq⟩)
  refine V_if_lt (tgt := 15) hC dX11_needBidder_1 (by decide) (fun hc => ?_) (fun hc => ?_)
  · have hq := hq.1 hc
    refine V_sub [] rfl ?_
    exact hq
  · have hq := hq.2 hc
    refine V_iload_n hC dX11_needBidder_4 1 rfl ?_
    refine V_aload_n hC dX11_needBidder_5 0 rfl ?_
    refine U_getR hC fl_X11_47 dX11_needBidder_6 hq (fun v1 hq => ?_)
    refine U_getI hC fl_X11_310 dX11_needBidder_9 hq (fun v2 hq => ?_)
    refine V_icmp_lt (tgt := 26) hC dX11_needBidder_12 (by decide) (fun hc => ?_) (fun hc => ?_)
    · have hq := hq.1 hc
      exact V_vret hC hQ ⟨by decide, by decide⟩ dX11_needBidder_26 ⟨rfl, rfl, hq⟩
    · have hq := hq.2 hc
      refine V_sub [] rfl ?_
      exact hq
theorem clV_X11_needBidder {G : Gx} (hG : GOK G) {Γ : Cx} {own : String} {cc : ByteArray} {nL fr lo mc ms cells slots pc : Nat} {hh : List (Nat × Nat × Nat × Nat)} {h : hw} {L : List (Nat × Value)} {rest : List Value} (hC : COK G Γ own cc nL fr lo mc ms hh) {idx : Nat} (hs : SV own idx yX11_needBidder cX11_needBidder 2 none 1) {p0 : Nat} {p1 : Int32} (hR : 6 + 1 ≤ fr ∧ 8 + (2 + 11) + 90 ≤ lo) (hw8 : (rest.map fun v => v.category).sum ≤ 8) (hcs : cells + 1 ≤ mc ∧ slots + 6 ≤ ms) (hdg : decode cc pc = .ok (.invokevirtual idx, 3)) (ho : isO h p0 11) {post : Prop} {xp : String → Prop} (hq : wp_X11_needBidder G p0 p1 h post xp) (kx : ∀ E : String, xp E → VX G Γ nL (cells + 1) (slots + 6) h pc L rest E) (kk : post → V G Γ nL (cells + 1) (slots + 6) h (pc + 3) L rest) : V G Γ nL cells slots h pc L (.int p1 :: .ref p0 :: rest) :=
  V_callV (As := [.int p1]) (r9 := (RX11, TX11, 8)) hC (ct_X11_needBidder hG p0 p1 h post xp hq) hs ho rfl rfl rfl hR hw8 hcs hdg (fun E h1 z => by obtain ⟨rfl, hz⟩ := z; exact kx E hz) (fun v h1 z => by obtain ⟨rfl, rfl, hz⟩ := z; exact kk hz)
set_option maxRecDepth 100000 in
set_option maxHeartbeats 4000000 in
theorem ct_X11_bought {G : Gx} (hG : GOK G) (p0 : Nat) (p1 : Int32) (h0 : hw) (post : Int32 → Prop) (xp : String → Prop) (hq : wp_X11_bought G p0 p1 h0 post xp) : CT G yX11_bought cX11_bought 2 (some .int) 7 111 1 6 [.ref p0, .int p1] h0 (fun v h1 => ∃ r : Int32, v = some (.int r) ∧ h1 = h0 ∧ post r) (fun E h1 => h1 = h0 ∧ xp E) := by
  refine CT_of hG (by decide) (Nat.le_of_ble_eq_true rfl) (fun Γ hC hQ hN => ?_)
  have hC : COK G Γ "Bandplan" cX11_bought 2 7 111 1 6 [] := hC
  unfold wp_X11_bought at hq
  show V G Γ 2 0 0 h0 0 [(0, .ref p0), (1, .int p1)] []
  refine V_aload_n hC dX11_bought_0 0 rfl ?_
  refine V_iload_n hC dX11_bought_1 1 rfl ?_
  obtain ⟨hz, hq⟩ := hq
  refine clV_X11_needBidder hG hC sv_X11_320 ⟨by decide, by decide⟩ (Nat.le_of_ble_eq_true rfl) ⟨by decide, by decide⟩ dX11_bought_2 hz hq (fun E hx => VX_out hC hQ ⟨by decide, by decide⟩ ⟨rfl, hx⟩) (fun hq => ?_)
  show V G Γ 2 1 6 h0 5 [(0, .ref p0), (1, .int p1)] []
  refine V_aload_n hC dX11_bought_5 0 rfl ?_
  refine U_getR hC fl_X11_47 dX11_bought_6 hq (fun v1 hq => ?_)
  refine U_getR hC fl_X11_323 dX11_bought_9 hq (fun v2 hq => ?_)
  refine V_iload_n hC dX11_bought_12 1 rfl ?_
  obtain ⟨hz, hq⟩ := hq
  refine clV_X7_at hG hC sv_X11_226 ⟨by decide, by decide⟩ (Nat.le_of_ble_eq_true rfl) ⟨by decide, by decide⟩ dX11_bought_13 hz hq (fun r3 hq => ?_)
  show V G Γ 2 1 6 h0 16 [(0, .ref p0), (1, .int p1)] [.int r3]
  exact V_iret hC hQ rfl rfl ⟨by decide, by decide⟩ dX11_bought_16 ⟨_, rfl, rfl, hq⟩
theorem clV_X11_bought {G : Gx} (hG : GOK G) {Γ : Cx} {own : String} {cc : ByteArray} {nL fr lo mc ms cells slots pc : Nat} {hh : List (Nat × Nat × Nat × Nat)} {h : hw} {L : List (Nat × Value)} {rest : List Value} (hC : COK G Γ own cc nL fr lo mc ms hh) {idx : Nat} (hs : SV own idx yX11_bought cX11_bought 2 (some .int) 1) {p0 : Nat} {p1 : Int32} (hR : 7 + 1 ≤ fr ∧ 8 + (2 + 11) + 111 ≤ lo) (hw8 : (rest.map fun v => v.category).sum ≤ 8) (hcs : cells + 1 ≤ mc ∧ slots + 6 ≤ ms) (hdg : decode cc pc = .ok (.invokevirtual idx, 3)) (ho : isO h p0 11) {post : Int32 → Prop} {xp : String → Prop} (hq : wp_X11_bought G p0 p1 h post xp) (kx : ∀ E : String, xp E → VX G Γ nL (cells + 1) (slots + 6) h pc L rest E) (kk : ∀ (r : Int32) , post r → V G Γ nL (cells + 1) (slots + 6) h (pc + 3) L (.int r :: rest)) : V G Γ nL cells slots h pc L (.int p1 :: .ref p0 :: rest) :=
  V_callV (As := [.int p1]) (r9 := (RX11, TX11, 8)) hC (ct_X11_bought hG p0 p1 h post xp hq) hs ho rfl rfl rfl hR hw8 hcs hdg (fun E h1 z => by obtain ⟨rfl, hz⟩ := z; exact kx E hz) (fun v h1 z => by obtain ⟨r, rfl, rfl, hz⟩ := z; exact kk r hz)
set_option maxRecDepth 100000 in
set_option maxHeartbeats 4000000 in
theorem ct_X11_pays {G : Gx} (hG : GOK G) (p0 : Nat) (p1 : Int32) (h0 : hw) (post : Int64 → Prop) (xp : String → Prop) (hq : wp_X11_pays G p0 p1 h0 post xp) : CT G yX11_pays cX11_pays 2 (some .long) 7 111 1 6 [.ref p0, .int p1] h0 (fun v h1 => ∃ r : Int64, v = some (.long r) ∧ h1 = h0 ∧ post r) (fun E h1 => h1 = h0 ∧ xp E) := by
  refine CT_of hG (by decide) (Nat.le_of_ble_eq_true rfl) (fun Γ hC hQ hN => ?_)
  have hC : COK G Γ "Bandplan" cX11_pays 2 7 111 1 6 [] := hC
  unfold wp_X11_pays at hq
  show V G Γ 2 0 0 h0 0 [(0, .ref p0), (1, .int p1)] []
  refine V_aload_n hC dX11_pays_0 0 rfl ?_
  refine V_iload_n hC dX11_pays_1 1 rfl ?_
  obtain ⟨hz, hq⟩ := hq
  refine clV_X11_needBidder hG hC sv_X11_320 ⟨by decide, by decide⟩ (Nat.le_of_ble_eq_true rfl) ⟨by decide, by decide⟩ dX11_pays_2 hz hq (fun E hx => VX_out hC hQ ⟨by decide, by decide⟩ ⟨rfl, hx⟩) (fun hq => ?_)
  show V G Γ 2 1 6 h0 5 [(0, .ref p0), (1, .int p1)] []
  refine V_aload_n hC dX11_pays_5 0 rfl ?_
  refine U_getR hC fl_X11_47 dX11_pays_6 hq (fun v1 hq => ?_)
  refine U_getR hC fl_X11_326 dX11_pays_9 hq (fun v2 hq => ?_)
  refine V_iload_n hC dX11_pays_12 1 rfl ?_
  obtain ⟨hz, hq⟩ := hq
  refine clV_X7_at hG hC sv_X11_226 ⟨by decide, by decide⟩ (Nat.le_of_ble_eq_true rfl) ⟨by decide, by decide⟩ dX11_pays_13 hz hq (fun r3 hq => ?_)
  show V G Γ 2 1 6 h0 16 [(0, .ref p0), (1, .int p1)] [.int r3]
  refine V_i2l hC dX11_pays_16 ?_
  exact V_lret hC hQ ⟨by decide, by decide⟩ dX11_pays_17 ⟨_, rfl, rfl, hq⟩
theorem clV_X11_pays {G : Gx} (hG : GOK G) {Γ : Cx} {own : String} {cc : ByteArray} {nL fr lo mc ms cells slots pc : Nat} {hh : List (Nat × Nat × Nat × Nat)} {h : hw} {L : List (Nat × Value)} {rest : List Value} (hC : COK G Γ own cc nL fr lo mc ms hh) {idx : Nat} (hs : SV own idx yX11_pays cX11_pays 2 (some .long) 1) {p0 : Nat} {p1 : Int32} (hR : 7 + 1 ≤ fr ∧ 8 + (2 + 11) + 111 ≤ lo) (hw8 : (rest.map fun v => v.category).sum ≤ 8) (hcs : cells + 1 ≤ mc ∧ slots + 6 ≤ ms) (hdg : decode cc pc = .ok (.invokevirtual idx, 3)) (ho : isO h p0 11) {post : Int64 → Prop} {xp : String → Prop} (hq : wp_X11_pays G p0 p1 h post xp) (kx : ∀ E : String, xp E → VX G Γ nL (cells + 1) (slots + 6) h pc L rest E) (kk : ∀ (r : Int64) , post r → V G Γ nL (cells + 1) (slots + 6) h (pc + 3) L (.long r :: rest)) : V G Γ nL cells slots h pc L (.int p1 :: .ref p0 :: rest) :=
  V_callV (As := [.int p1]) (r9 := (RX11, TX11, 8)) hC (ct_X11_pays hG p0 p1 h post xp hq) hs ho rfl rfl rfl hR hw8 hcs hdg (fun E h1 z => by obtain ⟨rfl, hz⟩ := z; exact kx E hz) (fun v h1 z => by obtain ⟨r, rfl, rfl, hz⟩ := z; exact kk r hz)
set_option maxRecDepth 100000 in
set_option maxHeartbeats 4000000 in
theorem ct_X11_move {G : Gx} (hG : GOK G) (p0 : Nat) (p1 : Int32) (h0 : hw) (post : Int32 → hw → Prop) (xp : String → hw → Prop) (hq : wp_X11_move G p0 p1 h0 post xp) : CT G yX11_move cX11_move 3 (some .int) 15 380 2 12 [.ref p0, .int p1] h0 (fun v h1 => ∃ r : Int32, v = some (.int r) ∧ post r h1) (fun E h1 => xp E h1) := by
  refine CT_of hG (by decide) (Nat.le_of_ble_eq_true rfl) (fun Γ hC hQ hN => ?_)
  have hC : COK G Γ "Bandplan" cX11_move 3 15 380 2 12 [] := hC
  unfold wp_X11_move at hq
  show V G Γ 3 0 0 h0 0 [(0, .ref p0), (1, .int p1)] []
  refine V_aload_n hC dX11_move_0 0 rfl ?_
  refine V_iload_n hC dX11_move_1 1 rfl ?_
  refine V_iconst (v := 1) hC dX11_move_2 (by decide) ?_
  refine V_iconst (v := 4) hC dX11_move_3 (by decide) ?_
  obtain ⟨hz, hq⟩ := hq
  refine clV_X11_needRange hG hC sv_X11_70 ⟨by decide, by decide⟩ (Nat.le_of_ble_eq_true rfl) ⟨by decide, by decide⟩ dX11_move_4 hz hq (fun E hx => VX_out hC hQ ⟨by decide, by decide⟩ hx) (fun hq => ?_)
  show V G Γ 3 1 6 h0 7 [(0, .ref p0), (1, .int p1)] []
  refine V_aload_n hC dX11_move_7 0 rfl ?_
  refine U_getR hC fl_X11_40 dX11_move_8 hq (fun v1 hq => ?_)
  refine U_getI hC fl_X11_329 dX11_move_11 hq (fun v2 hq => ?_)
  refine V_if_ne (tgt := 28) hC dX11_move_14 (by decide) (fun hc => ?_) (fun hc => ?_)
  · have hq := hq.1 hc
    refine V_aload_n hC dX11_move_28 0 rfl ?_
    refine U_getR hC fl_X11_40 dX11_move_29 hq (fun v3 hq => ?_)
    refine U_getI hC fl_X11_334 dX11_move_32 hq (fun v4 hq => ?_)
    refine V_aload_n hC dX11_move_35 0 rfl ?_
    refine U_getR hC fl_X11_19 dX11_move_36 hq (fun v5 hq => ?_)
    obtain ⟨hz, hq⟩ := hq
    refine clV_X6_onesOn hG hC sv_X11_274 ⟨by decide, by decide⟩ (Nat.le_of_ble_eq_true rfl) ⟨by decide, by decide⟩ dX11_move_39 hz hq (fun r6 hq => ?_)
    show V G Γ 3 1 6 h0 42 [(0, .ref p0), (1, .int p1)] [.int r6, .int v4]
    refine V_iand hC dX11_move_42 ?_
    refine V_istore_n (L' := [(0, .ref p0), (1, .int p1), (2, .int (v4 &&& r6))]) hC dX11_move_43 rfl (by decide) [1, 2, 0] rfl ?_
    refine V_aload_n hC dX11_move_44 0 rfl ?_
    refine U_getR hC fl_X11_33 dX11_move_45 hq (fun v7 hq => ?_)
    refine V_aload_n hC dX11_move_48 0 rfl ?_
    refine U_getR hC fl_X11_10 dX11_move_49 hq (fun v8 hq => ?_)
    refine V_aload_n hC dX11_move_52 0 rfl ?_
    refine U_getR hC fl_X11_40 dX11_move_53 hq (fun v9 hq => ?_)
    refine U_getI hC fl_X11_337 dX11_move_56 hq (fun v10 hq => ?_)
    obtain ⟨hz, hq⟩ := hq
    refine clV_X5_prepare hG hC sv_X11_254 ⟨by decide, by decide⟩ (Nat.le_of_ble_eq_true rfl) ⟨by decide, by decide⟩ dX11_move_59 hz hq (fun h11 hq => ?_)
    show V G Γ 3 1 6 h11 62 [(0, .ref p0), (1, .int p1), (2, .int (v4 &&& r6))] []
    refine V_aload_n hC dX11_move_62 0 rfl ?_
    refine U_getR hC fl_X11_33 dX11_move_63 hq (fun v12 hq => ?_)
    refine V_iload_n hC dX11_move_66 2 rfl ?_
    obtain ⟨hz, hq⟩ := hq
    refine clV_X5_findFirst hG hC sv_X11_261 ⟨by decide, by decide⟩ (Nat.le_of_ble_eq_true rfl) ⟨by decide, by decide⟩ dX11_move_67 hz hq (fun r13 h14 hq => ?_)
    show V G Γ 3 1 6 h14 70 [(0, .ref p0), (1, .int p1), (2, .int (v4 &&& r6))] [.int r13]
    refine V_if_ne (tgt := 84) hC dX11_move_70 (by decide) (fun hc => ?_) (fun hc => ?_)
    · have hq := hq.1 hc
      refine V_aload_n hC dX11_move_84 0 rfl ?_
      refine U_getR hC fl_X11_54 dX11_move_85 hq (fun v15 hq => ?_)
      refine V_iload_n hC dX11_move_88 2 rfl ?_
      refine V_aload_n hC dX11_move_89 0 rfl ?_
      refine U_getR hC fl_X11_33 dX11_move_90 hq (fun v16 hq => ?_)
      refine V_aload_n hC dX11_move_93 0 rfl ?_
      refine U_getR hC fl_X11_19 dX11_move_94 hq (fun v17 hq => ?_)
      obtain ⟨hz, hq⟩ := hq
      refine clV_X4_begin hG hC sv_X11_340 ⟨by decide, by decide⟩ (Nat.le_of_ble_eq_true rfl) ⟨by decide, by decide⟩ dX11_move_97 hz hq (fun h18 hq => ?_)
      show V G Γ 3 1 6 h18 100 [(0, .ref p0), (1, .int p1), (2, .int (v4 &&& r6))] []
      refine V_aload_n hC dX11_move_100 0 rfl ?_
      refine U_getR hC fl_X11_54 dX11_move_101 hq (fun v19 hq => ?_)
      refine V_aload_n hC dX11_move_104 0 rfl ?_
      refine U_getR hC fl_X11_10 dX11_move_105 hq (fun v20 hq => ?_)
      refine V_aload_n hC dX11_move_108 0 rfl ?_
      refine U_getR hC fl_X11_33 dX11_move_109 hq (fun v21 hq => ?_)
      refine V_aload_n hC dX11_move_112 0 rfl ?_
      refine U_getR hC fl_X11_19 dX11_move_113 hq (fun v22 hq => ?_)
      refine V_iload_n hC dX11_move_116 1 rfl ?_
      obtain ⟨hz, hq⟩ := hq
      refine clV_X4_run hG hC sv_X11_343 ⟨by decide, by decide⟩ (Nat.le_of_ble_eq_true rfl) ⟨by decide, by decide⟩ dX11_move_117 hz hq (fun r23 h24 hq => ?_)
      show V G Γ 3 1 6 h24 120 [(0, .ref p0), (1, .int p1), (2, .int (v4 &&& r6))] [.int r23]
      exact V_iret hC hQ rfl rfl ⟨by decide, by decide⟩ dX11_move_120 ⟨_, rfl, hq⟩
    · have hq := hq.2 hc
      exact V_throwSW hC hQ hG th_221_266 ⟨by decide, by decide⟩ ⟨by decide, by decide⟩ dX11_move_73 dX11_move_76 dX11_move_77 dX11_move_80 dX11_move_83 hq
  · have hq := hq.2 hc
    exact V_throwSW hC hQ hG th_221_332 ⟨by decide, by decide⟩ ⟨by decide, by decide⟩ dX11_move_17 dX11_move_20 dX11_move_21 dX11_move_24 dX11_move_27 hq
theorem clV_X11_move {G : Gx} (hG : GOK G) {Γ : Cx} {own : String} {cc : ByteArray} {nL fr lo mc ms cells slots pc : Nat} {hh : List (Nat × Nat × Nat × Nat)} {h : hw} {L : List (Nat × Value)} {rest : List Value} (hC : COK G Γ own cc nL fr lo mc ms hh) {idx : Nat} (hs : SV own idx yX11_move cX11_move 3 (some .int) 1) {p0 : Nat} {p1 : Int32} (hR : 15 + 1 ≤ fr ∧ 8 + (3 + 11) + 380 ≤ lo) (hw8 : (rest.map fun v => v.category).sum ≤ 8) (hcs : cells + 2 ≤ mc ∧ slots + 12 ≤ ms) (hdg : decode cc pc = .ok (.invokevirtual idx, 3)) (ho : isO h p0 11) {post : Int32 → hw → Prop} {xp : String → hw → Prop} (hq : wp_X11_move G p0 p1 h post xp) (kx : ∀ (E : String) (h1 : hw), xp E h1 → VX G Γ nL (cells + 2) (slots + 12) h1 pc L rest E) (kk : ∀ (r : Int32) (h1 : hw) , post r h1 → V G Γ nL (cells + 2) (slots + 12) h1 (pc + 3) L (.int r :: rest)) : V G Γ nL cells slots h pc L (.int p1 :: .ref p0 :: rest) :=
  V_callV (As := [.int p1]) (r9 := (RX11, TX11, 8)) hC (ct_X11_move hG p0 p1 h post xp hq) hs ho rfl rfl rfl hR hw8 hcs hdg (fun E h1 z => kx E h1 z) (fun v h1 z => by obtain ⟨r, rfl, hz⟩ := z; exact kk r h1 hz)
set_option maxRecDepth 100000 in
set_option maxHeartbeats 4000000 in
theorem ct_X11_phaseOf {G : Gx} (hG : GOK G) (p0 : Nat) (p1 : Int32) (h0 : hw) (post : Int32 → Prop) (xp : String → Prop) (hq : wp_X11_phaseOf G p0 p1 h0 post xp) : CT G yX11_phaseOf cX11_phaseOf 4 (some .int) 7 115 2 12 [.ref p0, .int p1] h0 (fun v h1 => ∃ r : Int32, v = some (.int r) ∧ h1 = h0 ∧ post r) (fun E h1 => h1 = h0 ∧ xp E) := by
  refine CT_of hG (by decide) (Nat.le_of_ble_eq_true rfl) (fun Γ hC hQ hN => ?_)
  have hC : COK G Γ "Bandplan" cX11_phaseOf 4 7 115 2 12 [] := hC
  unfold wp_X11_phaseOf at hq
  show V G Γ 4 0 0 h0 0 [(0, .ref p0), (1, .int p1)] []
  refine V_aload_n hC dX11_phaseOf_0 0 rfl ?_
  refine V_iload_n hC dX11_phaseOf_1 1 rfl ?_
  obtain ⟨hz, hq⟩ := hq
  refine clV_X11_stationAt hG hC sv_X11_143 ⟨by decide, by decide⟩ (Nat.le_of_ble_eq_true rfl) ⟨by decide, by decide⟩ dX11_phaseOf_2 hz hq (fun E hx => VX_out hC hQ ⟨by decide, by decide⟩ ⟨rfl, hx⟩) (fun r1 hq => ?_)
  show V G Γ 4 1 6 h0 5 [(0, .ref p0), (1, .int p1)] [.ref r1]
  refine V_astore_n (L' := [(0, .ref p0), (1, .int p1), (2, .ref r1)]) hC dX11_phaseOf_5 rfl (by decide) [1, 2, 0] rfl ?_
  refine V_aload_n hC dX11_phaseOf_6 0 rfl ?_
  refine U_getR hC fl_X11_54 dX11_phaseOf_7 hq (fun v2 hq => ?_)
  refine U_getR hC fl_X11_346 dX11_phaseOf_10 hq (fun v3 hq => ?_)
  refine V_aload_n hC dX11_phaseOf_13 2 rfl ?_
  refine U_getI hC fl_X11_232 dX11_phaseOf_14 hq (fun v4 hq => ?_)
  obtain ⟨hz, hq⟩ := hq
  refine clV_X7_at hG hC sv_X11_226 ⟨by decide, by decide⟩ (Nat.le_of_ble_eq_true rfl) ⟨by decide, by decide⟩ dX11_phaseOf_17 hz hq (fun r5 hq => ?_)
  show V G Γ 4 1 6 h0 20 [(0, .ref p0), (1, .int p1), (2, .ref r1)] [.int r5]
  refine V_istore_n (L' := [(0, .ref p0), (1, .int p1), (2, .ref r1), (3, .int r5)]) hC dX11_phaseOf_20 rfl (by decide) [1, 2, 3, 0] rfl ?_
  refine V_iload_n hC dX11_phaseOf_21 3 rfl ?_
  refine V_iconst (v := (-1)) hC dX11_phaseOf_22 (by decide) ?_
  refine V_icmp_ne (tgt := 37) hC dX11_phaseOf_23 (by decide) (fun hc => ?_) (fun hc => ?_)
  · have hq := hq.1 hc
    refine V_iload_n hC dX11_phaseOf_37 3 rfl ?_
    exact V_iret hC hQ rfl rfl ⟨by decide, by decide⟩ dX11_phaseOf_38 ⟨_, rfl, rfl, hq⟩
  · have hq := hq.2 hc
    exact V_throwNSW hC hQ hG th_162_349 ⟨by decide, by decide⟩ ⟨by decide, by decide⟩ dX11_phaseOf_26 dX11_phaseOf_29 dX11_phaseOf_30 dX11_phaseOf_33 dX11_phaseOf_36 ⟨rfl, hq⟩
theorem clV_X11_phaseOf {G : Gx} (hG : GOK G) {Γ : Cx} {own : String} {cc : ByteArray} {nL fr lo mc ms cells slots pc : Nat} {hh : List (Nat × Nat × Nat × Nat)} {h : hw} {L : List (Nat × Value)} {rest : List Value} (hC : COK G Γ own cc nL fr lo mc ms hh) {idx : Nat} (hs : SV own idx yX11_phaseOf cX11_phaseOf 4 (some .int) 1) {p0 : Nat} {p1 : Int32} (hR : 7 + 1 ≤ fr ∧ 8 + (4 + 11) + 115 ≤ lo) (hw8 : (rest.map fun v => v.category).sum ≤ 8) (hcs : cells + 2 ≤ mc ∧ slots + 12 ≤ ms) (hdg : decode cc pc = .ok (.invokevirtual idx, 3)) (ho : isO h p0 11) {post : Int32 → Prop} {xp : String → Prop} (hq : wp_X11_phaseOf G p0 p1 h post xp) (kx : ∀ E : String, xp E → VX G Γ nL (cells + 2) (slots + 12) h pc L rest E) (kk : ∀ (r : Int32) , post r → V G Γ nL (cells + 2) (slots + 12) h (pc + 3) L (.int r :: rest)) : V G Γ nL cells slots h pc L (.int p1 :: .ref p0 :: rest) :=
  V_callV (As := [.int p1]) (r9 := (RX11, TX11, 8)) hC (ct_X11_phaseOf hG p0 p1 h post xp hq) hs ho rfl rfl rfl hR hw8 hcs hdg (fun E h1 z => by obtain ⟨rfl, hz⟩ := z; exact kx E hz) (fun v h1 z => by obtain ⟨r, rfl, rfl, hz⟩ := z; exact kk r hz)
set_option maxRecDepth 100000 in
set_option maxHeartbeats 4000000 in
theorem ct_X11_dark {G : Gx} (hG : GOK G) (p0 : Nat) (h0 : hw) (post : Int32 → Prop) (hq : wp_X11_dark G p0 h0 post) : CT G yX11_dark cX11_dark 1 (some .int) 1 30 0 0 [.ref p0] h0 (fun v h1 => ∃ r : Int32, v = some (.int r) ∧ h1 = h0 ∧ post r) (fun E h1 => False) := by
  refine CT_of hG (by decide) (Nat.le_of_ble_eq_true rfl) (fun Γ hC hQ hN => ?_)
  have hC : COK G Γ "Bandplan" cX11_dark 1 1 30 0 0 [] := hC
  unfold wp_X11_dark at hq
  show V G Γ 1 0 0 h0 0 [(0, .ref p0)] []
  refine V_aload_n hC dX11_dark_0 0 rfl ?_
  refine U_getR hC fl_X11_54 dX11_dark_1 hq (fun v1 hq => ?_)
  refine U_getI hC fl_X11_351 dX11_dark_4 hq (fun v2 hq => ?_)
  exact V_iret hC hQ rfl rfl ⟨by decide, by decide⟩ dX11_dark_7 ⟨_, rfl, rfl, hq⟩
theorem clV_X11_dark {G : Gx} (hG : GOK G) {Γ : Cx} {own : String} {cc : ByteArray} {nL fr lo mc ms cells slots pc : Nat} {hh : List (Nat × Nat × Nat × Nat)} {h : hw} {L : List (Nat × Value)} {rest : List Value} (hC : COK G Γ own cc nL fr lo mc ms hh) {idx : Nat} (hs : SV own idx yX11_dark cX11_dark 1 (some .int) 0) {p0 : Nat} (hR : 1 + 1 ≤ fr ∧ 8 + (1 + 11) + 30 ≤ lo) (hw8 : (rest.map fun v => v.category).sum ≤ 8) (hcs : cells + 0 ≤ mc ∧ slots + 0 ≤ ms) (hdg : decode cc pc = .ok (.invokevirtual idx, 3)) (ho : isO h p0 11) {post : Int32 → Prop} (hq : wp_X11_dark G p0 h post) (kk : ∀ (r : Int32) , post r → V G Γ nL (cells + 0) (slots + 0) h (pc + 3) L (.int r :: rest)) : V G Γ nL cells slots h pc L (.ref p0 :: rest) :=
  V_callV (As := []) (r9 := (RX11, TX11, 8)) hC (ct_X11_dark hG p0 h post hq) hs ho rfl rfl rfl hR hw8 hcs hdg (fun E h1 z => z.elim) (fun v h1 z => by obtain ⟨r, rfl, rfl, hz⟩ := z; exact kk r hz)
set_option maxRecDepth 100000 in
set_option maxHeartbeats 4000000 in
theorem ct_X11_onShare {G : Gx} (hG : GOK G) (p0 : Nat) (h0 : hw) (post : UInt32 → Prop) (xp : String → Prop) (hq : wp_X11_onShare G p0 h0 post xp) : CT G yX11_onShare cX11_onShare 2 (some .float) 6 90 1 6 [.ref p0] h0 (fun v h1 => ∃ r : UInt32, v = some (.float r) ∧ h1 = h0 ∧ post r) (fun E h1 => h1 = h0 ∧ xp E) := by
  refine CT_of hG (by decide) (Nat.le_of_ble_eq_true rfl) (fun Γ hC hQ hN => ?_)
  have hC : COK G Γ "Bandplan" cX11_onShare 2 6 90 1 6 [] := hC
  unfold wp_X11_onShare at hq
  show V G Γ 2 0 0 h0 0 [(0, .ref p0)] []
  refine V_aload_n hC dX11_onShare_0 0 rfl ?_
  refine U_getR hC fl_X11_10 dX11_onShare_1 hq (fun v1 hq => ?_)
  refine U_getR hC fl_X11_125 dX11_onShare_4 hq (fun v2 hq => ?_)
  obtain ⟨hz, hq⟩ := hq
  refine clV_Jx4a65c_size_8abf5 hG hC sv_X11_91 ⟨by decide, by decide⟩ (Nat.le_of_ble_eq_true rfl) ⟨by decide, by decide⟩ dX11_onShare_7 hz hq (fun r3 hq => ?_)
  show V G Γ 2 0 0 h0 10 [(0, .ref p0)] [.int r3]
  refine V_istore_n (L' := [(0, .ref p0), (1, .int r3)]) hC dX11_onShare_10 rfl (by decide) [1, 0] rfl ?_
  refine V_iload_n hC dX11_onShare_11 1 rfl ?_
  refine V_if_ne (tgt := 26) hC dX11_onShare_12 (by decide) (fun hc => ?_) (fun hc => ?_)
  · have hq := hq.1 hc
    refine V_aload_n hC dX11_onShare_26 0 rfl ?_
    refine U_getR hC fl_X11_19 dX11_onShare_27 hq (fun v4 hq => ?_)
    obtain ⟨hz, hq⟩ := hq
    refine clV_X6_onesOn hG hC sv_X11_274 ⟨by decide, by decide⟩ (Nat.le_of_ble_eq_true rfl) ⟨by decide, by decide⟩ dX11_onShare_30 hz hq (fun r5 hq => ?_)
    show V G Γ 2 0 0 h0 33 [(0, .ref p0), (1, .int r3)] [.int r5]
    refine clS_J6_bitCount_0f7a4 hG hC ss_X11_297 ⟨by decide, by decide⟩ (Nat.le_of_ble_eq_true rfl) ⟨by decide, by decide⟩ dX11_onShare_33 hq (fun r6 hq => ?_)
    show V G Γ 2 0 0 h0 36 [(0, .ref p0), (1, .int r3)] [.int r6]
    refine V_i2f hC dX11_onShare_36 ?_
    refine V_iload_n hC dX11_onShare_37 1 rfl ?_
    refine V_i2f hC dX11_onShare_38 ?_
    obtain ⟨hz, hq⟩ := hq
    refine V_fdiv hC dX11_onShare_39 hz ?_
    exact V_fret hC hQ ⟨by decide, by decide⟩ dX11_onShare_40 ⟨_, rfl, rfl, hq⟩
  · have hq := hq.2 hc
    exact V_throwSW hC hQ hG th_354_356 ⟨by decide, by decide⟩ ⟨by decide, by decide⟩ dX11_onShare_15 dX11_onShare_18 dX11_onShare_19 dX11_onShare_22 dX11_onShare_25 ⟨rfl, hq⟩
theorem clV_X11_onShare {G : Gx} (hG : GOK G) {Γ : Cx} {own : String} {cc : ByteArray} {nL fr lo mc ms cells slots pc : Nat} {hh : List (Nat × Nat × Nat × Nat)} {h : hw} {L : List (Nat × Value)} {rest : List Value} (hC : COK G Γ own cc nL fr lo mc ms hh) {idx : Nat} (hs : SV own idx yX11_onShare cX11_onShare 2 (some .float) 0) {p0 : Nat} (hR : 6 + 1 ≤ fr ∧ 8 + (2 + 11) + 90 ≤ lo) (hw8 : (rest.map fun v => v.category).sum ≤ 8) (hcs : cells + 1 ≤ mc ∧ slots + 6 ≤ ms) (hdg : decode cc pc = .ok (.invokevirtual idx, 3)) (ho : isO h p0 11) {post : UInt32 → Prop} {xp : String → Prop} (hq : wp_X11_onShare G p0 h post xp) (kx : ∀ E : String, xp E → VX G Γ nL (cells + 1) (slots + 6) h pc L rest E) (kk : ∀ (r : UInt32) , post r → V G Γ nL (cells + 1) (slots + 6) h (pc + 3) L (.float r :: rest)) : V G Γ nL cells slots h pc L (.ref p0 :: rest) :=
  V_callV (As := []) (r9 := (RX11, TX11, 8)) hC (ct_X11_onShare hG p0 h post xp hq) hs ho rfl rfl rfl hR hw8 hcs hdg (fun E h1 z => by obtain ⟨rfl, hz⟩ := z; exact kx E hz) (fun v h1 z => by obtain ⟨r, rfl, rfl, hz⟩ := z; exact kk r hz)
set_option maxRecDepth 100000 in
set_option maxHeartbeats 4000000 in
theorem ct_X11_isSound {G : Gx} (hG : GOK G) (p0 : Nat) (h0 : hw) (post : Int32 → Prop) (hq : wp_X11_isSound G p0 h0 post) : CT G yX11_isSound cX11_isSound 2 (some .boolean) 7 170 0 0 [.ref p0] h0 (fun v h1 => ∃ r : Int32, v = some (.int r) ∧ h1 = h0 ∧ post r) (fun E h1 => False) := by
  refine CT_of hG (by decide) (Nat.le_of_ble_eq_true rfl) (fun Γ hC hQ hN => ?_)
  have hC : COK G Γ "Bandplan" cX11_isSound 2 7 170 0 0 [] := hC
  unfold wp_X11_isSound at hq
  show V G Γ 2 0 0 h0 0 [(0, .ref p0)] []
  refine V_aload_n hC dX11_isSound_0 0 rfl ?_
  refine U_getR hC fl_X11_54 dX11_isSound_1 hq (fun v1 hq => ?_)
  refine U_getI hC fl_X11_365 dX11_isSound_4 hq (fun v2 hq => ?_)
  have hq := hq (fun (t3 : Int32) => V G Γ 2 0 0 h0 32 [(0, .ref p0)] [.int t3]) (by
    intro t3 hq
    show V G Γ 2 0 0 h0 32 [(0, .ref p0)] [.int t3]
    refine V_istore_n (L' := [(0, .ref p0), (1, .int t3)]) hC dX11_isSound_32 rfl (by decide) [1, 0] rfl ?_
    refine V_iload_n hC dX11_isSound_33 1 rfl ?_
    have hq := hq (V G Γ 2 0 0 h0 71 [] []) (by
      intro hq
      show V G Γ 2 0 0 h0 71 [] []
      refine V_iconst (v := 0) hC dX11_isSound_71 (by decide) ?_
      exact V_iret hC hQ rfl rfl ⟨by decide, by decide⟩ dX11_isSound_72 ⟨_, rfl, rfl, hq⟩)
    refine V_if_eq (tgt := 71) hC dX11_isSound_34 (by decide) (fun hc => ?_) (fun hc => ?_)
    · have hq := hq.1 hc
      refine V_sub [] rfl ?_
      exact hq
    · have hq := hq.2 hc
      refine V_aload_n hC dX11_isSound_37 0 rfl ?_
      refine U_getR hC fl_X11_19 dX11_isSound_38 hq (fun v4 hq => ?_)
      obtain ⟨hz, hq⟩ := hq
      refine clV_X6_holdsToday hG hC sv_X11_368 ⟨by decide, by decide⟩ (Nat.le_of_ble_eq_true rfl) ⟨by decide, by decide⟩ dX11_isSound_41 hz hq (fun r5 hq => ?_)
      show V G Γ 2 0 0 h0 44 [(0, .ref p0), (1, .int t3)] [.int r5]
      refine V_if_eq (tgt := 71) hC dX11_isSound_44 (by decide) (fun hc => ?_) (fun hc => ?_)
      · have hq := hq.1 hc
        refine V_sub [] rfl ?_
        exact hq
      · have hq := hq.2 hc
        refine V_aload_n hC dX11_isSound_47 0 rfl ?_
        refine U_getR hC fl_X11_47 dX11_isSound_48 hq (fun v6 hq => ?_)
        obtain ⟨hz, hq⟩ := hq
        refine clV_X2_isFair hG hC sv_X11_372 ⟨by decide, by decide⟩ (Nat.le_of_ble_eq_true rfl) ⟨by decide, by decide⟩ dX11_isSound_51 hz hq (fun r7 hq => ?_)
        show V G Γ 2 0 0 h0 54 [(0, .ref p0), (1, .int t3)] [.int r7]
        refine V_if_eq (tgt := 71) hC dX11_isSound_54 (by decide) (fun hc => ?_) (fun hc => ?_)
        · have hq := hq.1 hc
          refine V_sub [] rfl ?_
          exact hq
        · have hq := hq.2 hc
          refine V_aload_n hC dX11_isSound_57 0 rfl ?_
          refine U_getR hC fl_X11_40 dX11_isSound_58 hq (fun v8 hq => ?_)
          obtain ⟨hz, hq⟩ := hq
          refine clV_X8_isFair hG hC sv_X11_375 ⟨by decide, by decide⟩ (Nat.le_of_ble_eq_true rfl) ⟨by decide, by decide⟩ dX11_isSound_61 hz hq (fun r9 hq => ?_)
          show V G Γ 2 0 0 h0 64 [(0, .ref p0), (1, .int t3)] [.int r9]
          refine V_if_eq (tgt := 71) hC dX11_isSound_64 (by decide) (fun hc => ?_) (fun hc => ?_)
          · have hq := hq.1 hc
            refine V_sub [] rfl ?_
            exact hq
          · have hq := hq.2 hc
            refine V_iconst (v := 1) hC dX11_isSound_67 (by decide) ?_
            refine V_goto (tgt := 72) hC dX11_isSound_68 (by decide) ?_
            exact V_iret hC hQ rfl rfl ⟨by decide, by decide⟩ dX11_isSound_72 ⟨_, rfl, rfl, hq⟩)
  have hq := hq (V G Γ 2 0 0 h0 27 [(0, .ref p0)] []) (by
    intro hq
    show V G Γ 2 0 0 h0 27 [(0, .ref p0)] []
    refine V_iconst (v := 1) hC dX11_isSound_27 (by decide) ?_
    refine V_goto (tgt := 32) hC dX11_isSound_28 (by decide) ?_
    exact hq)
  refine V_if_ne (tgt := 27) hC dX11_isSound_7 (by decide) (fun hc => ?_) (fun hc => ?_)
  · have hq := hq.1 hc
    exact hq
  · have hq := hq.2 hc
    refine V_aload_n hC dX11_isSound_10 0 rfl ?_
    refine U_getR hC fl_X11_10 dX11_isSound_11 hq (fun v10 hq => ?_)
    refine V_aload_n hC dX11_isSound_14 0 rfl ?_
    refine U_getR hC fl_X11_19 dX11_isSound_15 hq (fun v11 hq => ?_)
    refine U_getR hC fl_X11_154 dX11_isSound_18 hq (fun v12 hq => ?_)
    obtain ⟨hz, hq⟩ := hq
    refine clV_X0_allKeep hG hC sv_X11_217 ⟨by decide, by decide⟩ (Nat.le_of_ble_eq_true rfl) ⟨by decide, by decide⟩ dX11_isSound_21 hz hq (fun r13 hq => ?_)
    show V G Γ 2 0 0 h0 24 [(0, .ref p0)] [.int r13]
    refine V_if_eq (tgt := 31) hC dX11_isSound_24 (by decide) (fun hc => ?_) (fun hc => ?_)
    · have hq := hq.1 hc
      refine V_iconst (v := 0) hC dX11_isSound_31 (by decide) ?_
      exact hq
    · have hq := hq.2 hc
      exact hq
theorem clV_X11_isSound {G : Gx} (hG : GOK G) {Γ : Cx} {own : String} {cc : ByteArray} {nL fr lo mc ms cells slots pc : Nat} {hh : List (Nat × Nat × Nat × Nat)} {h : hw} {L : List (Nat × Value)} {rest : List Value} (hC : COK G Γ own cc nL fr lo mc ms hh) {idx : Nat} (hs : SV own idx yX11_isSound cX11_isSound 2 (some .boolean) 0) {p0 : Nat} (hR : 7 + 1 ≤ fr ∧ 8 + (2 + 11) + 170 ≤ lo) (hw8 : (rest.map fun v => v.category).sum ≤ 8) (hcs : cells + 0 ≤ mc ∧ slots + 0 ≤ ms) (hdg : decode cc pc = .ok (.invokevirtual idx, 3)) (ho : isO h p0 11) {post : Int32 → Prop} (hq : wp_X11_isSound G p0 h post) (kk : ∀ (r : Int32) , post r → V G Γ nL (cells + 0) (slots + 0) h (pc + 3) L (.int r :: rest)) : V G Γ nL cells slots h pc L (.ref p0 :: rest) :=
  V_callV (As := []) (r9 := (RX11, TX11, 8)) hC (ct_X11_isSound hG p0 h post hq) hs ho rfl rfl rfl hR hw8 hcs hdg (fun E h1 z => z.elim) (fun v h1 z => by obtain ⟨r, rfl, rfl, hz⟩ := z; exact kk r hz)
set_option maxRecDepth 100000 in
set_option maxHeartbeats 4000000 in
theorem ct_L_cell {G : Gx} (hG : GOK G) (p0 : Nat) (p1 : Int32) (h0 : hw) (post : Int32 → Prop) (hq : wp_L_cell G p0 p1 h0 post) : CT G yL_cell cL_cell 3 (some .int) 1 30 0 0 [.ref p0, .int p1] h0 (fun v h1 => ∃ r : Int32, v = some (.int r) ∧ h1 = h0 ∧ post r) (fun E h1 => False) := by
  refine CT_of hG (by decide) (Nat.le_of_ble_eq_true rfl) (fun Γ hC hQ hN => ?_)
  have hC : COK G Γ "BandplanLaw" cL_cell 3 1 30 0 0 [] := hC
  unfold wp_L_cell at hq
  show V G Γ 3 0 0 h0 0 [(0, .ref p0), (1, .int p1)] []
  refine V_ldc (v := 69069) hC aw_2_68 dL_cell_0 ?_
  refine V_iload_n hC dL_cell_2 1 rfl ?_
  refine V_aload_n hC dL_cell_3 0 rfl ?_
  refine U_lnS hC dL_cell_4 hq (fun v1 hq => ?_)
  have hq := hq (fun (t2 : Int32) (t3 : Int32) => V G Γ 3 0 0 h0 15 [(1, .int p1)] [.int t3, .int t2]) (by
    intro t2 t3 hq
    show V G Γ 3 0 0 h0 15 [(1, .int p1)] [.int t3, .int t2]
    refine V_sipush (v := 1009) hC dL_cell_15 (by decide) ?_
    refine V_iload_n hC dL_cell_18 0 rfl ?_
    refine V_imul hC dL_cell_19 ?_
    refine V_iadd hC dL_cell_20 ?_
    refine V_imul hC dL_cell_21 ?_
    refine V_sipush (v := 12345) hC dL_cell_22 (by decide) ?_
    refine V_iadd hC dL_cell_25 ?_
    refine V_istore_n (L' := [(1, .int p1), (2, .int ((t2 * (t3 + (1009 * p1))) + 12345))]) hC dL_cell_26 rfl (by decide) [1, 0] rfl ?_
    refine V_iload_n hC dL_cell_27 1 rfl ?_
    refine V_iload_n hC dL_cell_28 1 rfl ?_
    refine V_bipush (v := 13) hC dL_cell_29 (by decide) ?_
    refine V_iushr hC dL_cell_31 rfl ?_
    refine V_ixor hC dL_cell_32 ?_
    refine V_ldc (v := 1103515245) hC aw_2_69 dL_cell_33 ?_
    refine V_imul hC dL_cell_35 ?_
    refine V_istore_n (L' := [(1, .int p1), (2, .int ((((t2 * (t3 + (1009 * p1))) + 12345) ^^^ ((((t2 * (t3 + (1009 * p1))) + 12345)).toUInt32 >>> ((13 : Int32).toUInt32 &&& Int32.toUInt32 31)).toInt32) * 1103515245))]) hC dL_cell_36 rfl (by decide) [1, 0] rfl ?_
    refine V_iload_n hC dL_cell_37 1 rfl ?_
    refine V_iload_n hC dL_cell_38 1 rfl ?_
    refine V_bipush (v := 16) hC dL_cell_39 (by decide) ?_
    refine V_iushr hC dL_cell_41 rfl ?_
    refine V_ixor hC dL_cell_42 ?_
    exact V_iret hC hQ rfl rfl ⟨by decide, by decide⟩ dL_cell_43 ⟨_, rfl, rfl, hq⟩)
  refine V_icmp_ge (tgt := 14) hC dL_cell_5 (by decide) (fun hc => ?_) (fun hc => ?_)
  · have hq := hq.1 hc
    refine V_iconst (v := 0) hC dL_cell_14 (by decide) ?_
    refine V_sub [1] rfl ?_
    exact hq
  · have hq := hq.2 hc
    refine V_aload_n hC dL_cell_8 0 rfl ?_
    refine V_iload_n hC dL_cell_9 1 rfl ?_
    refine U_ldS hC dL_cell_10 hq (fun v4 hq => ?_)
    refine V_goto (tgt := 15) hC dL_cell_11 (by decide) ?_
    refine V_sub [1] rfl ?_
    exact hq
theorem clS_L_cell {G : Gx} (hG : GOK G) {Γ : Cx} {own : String} {cc : ByteArray} {nL fr lo mc ms cells slots pc : Nat} {hh : List (Nat × Nat × Nat × Nat)} {h : hw} {L : List (Nat × Value)} {rest : List Value} (hC : COK G Γ own cc nL fr lo mc ms hh) {idx : Nat} (hs : SS own idx yL_cell cL_cell 3 (some .int) 2) {p0 : Nat} {p1 : Int32} (hR : 1 + 1 ≤ fr ∧ 8 + (3 + 11) + 30 ≤ lo) (hw8 : (rest.map fun v => v.category).sum ≤ 8) (hcs : cells + 0 ≤ mc ∧ slots + 0 ≤ ms) (hdg : decode cc pc = .ok (.invokestatic idx, 3)) {post : Int32 → Prop} (hq : wp_L_cell G p0 p1 h post) (kk : ∀ (r : Int32) , post r → V G Γ nL (cells + 0) (slots + 0) h (pc + 3) L (.int r :: rest)) : V G Γ nL cells slots h pc L (.int p1 :: .ref p0 :: rest) :=
  V_callS (As := [.ref p0, .int p1]) hC (ct_L_cell hG p0 p1 h post hq) hs rfl hR hw8 hcs hdg (fun E h1 z => z.elim) (fun v h1 z => by obtain ⟨r, rfl, rfl, hz⟩ := z; exact kk r hz)
set_option maxRecDepth 100000 in
set_option maxHeartbeats 4000000 in
theorem ct_L_pick {G : Gx} (hG : GOK G) (p0 : Nat) (p1 : Int32) (p2 : Int32) (h0 : hw) (post : Int32 → Prop) (hq : wp_L_pick G p0 p1 p2 h0 post) : CT G yL_pick cL_pick 3 (some .int) 2 52 0 0 [.ref p0, .int p1, .int p2] h0 (fun v h1 => ∃ r : Int32, v = some (.int r) ∧ h1 = h0 ∧ post r) (fun E h1 => False) := by
  refine CT_of hG (by decide) (Nat.le_of_ble_eq_true rfl) (fun Γ hC hQ hN => ?_)
  have hC : COK G Γ "BandplanLaw" cL_pick 3 2 52 0 0 [] := hC
  unfold wp_L_pick at hq
  show V G Γ 3 0 0 h0 0 [(0, .ref p0), (1, .int p1), (2, .int p2)] []
  refine V_aload_n hC dL_pick_0 0 rfl ?_
  refine V_iload_n hC dL_pick_1 1 rfl ?_
  refine clS_L_cell hG hC ss_L_9 ⟨by decide, by decide⟩ (Nat.le_of_ble_eq_true rfl) ⟨by decide, by decide⟩ dL_pick_2 hq (fun r1 hq => ?_)
  show V G Γ 3 0 0 h0 5 [(0, .ref p0), (1, .int p1), (2, .int p2)] [.int r1]
  refine V_bipush (v := 8) hC dL_pick_5 (by decide) ?_
  refine V_iushr hC dL_pick_7 rfl ?_
  refine V_iload_n hC dL_pick_8 2 rfl ?_
  obtain ⟨hz, hq⟩ := hq
  refine V_irem hC dL_pick_9 hz ?_
  exact V_iret hC hQ rfl rfl ⟨by decide, by decide⟩ dL_pick_10 ⟨_, rfl, rfl, hq⟩
theorem clS_L_pick {G : Gx} (hG : GOK G) {Γ : Cx} {own : String} {cc : ByteArray} {nL fr lo mc ms cells slots pc : Nat} {hh : List (Nat × Nat × Nat × Nat)} {h : hw} {L : List (Nat × Value)} {rest : List Value} (hC : COK G Γ own cc nL fr lo mc ms hh) {idx : Nat} (hs : SS own idx yL_pick cL_pick 3 (some .int) 3) {p0 : Nat} {p1 : Int32} {p2 : Int32} (hR : 2 + 1 ≤ fr ∧ 8 + (3 + 11) + 52 ≤ lo) (hw8 : (rest.map fun v => v.category).sum ≤ 8) (hcs : cells + 0 ≤ mc ∧ slots + 0 ≤ ms) (hdg : decode cc pc = .ok (.invokestatic idx, 3)) {post : Int32 → Prop} (hq : wp_L_pick G p0 p1 p2 h post) (kk : ∀ (r : Int32) , post r → V G Γ nL (cells + 0) (slots + 0) h (pc + 3) L (.int r :: rest)) : V G Γ nL cells slots h pc L (.int p2 :: .int p1 :: .ref p0 :: rest) :=
  V_callS (As := [.ref p0, .int p1, .int p2]) hC (ct_L_pick hG p0 p1 p2 h post hq) hs rfl hR hw8 hcs hdg (fun E h1 z => z.elim) (fun v h1 z => by obtain ⟨r, rfl, rfl, hz⟩ := z; exact kk r hz)
set_option maxRecDepth 100000 in
set_option maxHeartbeats 4000000 in
theorem ct_L_told {G : Gx} (hG : GOK G) (p0 : Int32) (h0 : hw) (post : Int32 → Prop) (hq : wp_L_told G p0 h0 post) : CT G yL_told cL_told 1 (some .int) 1 30 0 0 [.int p0] h0 (fun v h1 => ∃ r : Int32, v = some (.int r) ∧ h1 = h0 ∧ post r) (fun E h1 => False) := by
  refine CT_of hG (by decide) (Nat.le_of_ble_eq_true rfl) (fun Γ hC hQ hN => ?_)
  have hC : COK G Γ "BandplanLaw" cL_told 1 1 30 0 0 [] := hC
  unfold wp_L_told at hq
  show V G Γ 1 0 0 h0 0 [(0, .int p0)] []
  refine V_iload_n hC dL_told_0 0 rfl ?_
  refine V_if_eq (tgt := 8) hC dL_told_1 (by decide) (fun hc => ?_) (fun hc => ?_)
  · have hq := hq.1 hc
    refine V_iconst (v := 0) hC dL_told_8 (by decide) ?_
    exact V_iret hC hQ rfl rfl ⟨by decide, by decide⟩ dL_told_9 ⟨_, rfl, rfl, hq⟩
  · have hq := hq.2 hc
    refine V_iconst (v := 1) hC dL_told_4 (by decide) ?_
    refine V_goto (tgt := 9) hC dL_told_5 (by decide) ?_
    exact V_iret hC hQ rfl rfl ⟨by decide, by decide⟩ dL_told_9 ⟨_, rfl, rfl, hq⟩
theorem clS_L_told {G : Gx} (hG : GOK G) {Γ : Cx} {own : String} {cc : ByteArray} {nL fr lo mc ms cells slots pc : Nat} {hh : List (Nat × Nat × Nat × Nat)} {h : hw} {L : List (Nat × Value)} {rest : List Value} (hC : COK G Γ own cc nL fr lo mc ms hh) {idx : Nat} (hs : SS own idx yL_told cL_told 1 (some .int) 1) {p0 : Int32} (hR : 1 + 1 ≤ fr ∧ 8 + (1 + 11) + 30 ≤ lo) (hw8 : (rest.map fun v => v.category).sum ≤ 8) (hcs : cells + 0 ≤ mc ∧ slots + 0 ≤ ms) (hdg : decode cc pc = .ok (.invokestatic idx, 3)) {post : Int32 → Prop} (hq : wp_L_told G p0 h post) (kk : ∀ (r : Int32) , post r → V G Γ nL (cells + 0) (slots + 0) h (pc + 3) L (.int r :: rest)) : V G Γ nL cells slots h pc L (.int p0 :: rest) :=
  V_callS (As := [.int p0]) hC (ct_L_told hG p0 h post hq) hs rfl hR hw8 hcs hdg (fun E h1 z => z.elim) (fun v h1 z => by obtain ⟨r, rfl, rfl, hz⟩ := z; exact kk r hz)
set_option maxRecDepth 100000 in
set_option maxHeartbeats 4000000 in
theorem ct_L_done {G : Gx} (hG : GOK G) (p0 : Nat) (p1 : Int32) (p2 : Int32) (p3 : Int32) (p4 : Int32) (p5 : Int32) (h0 : hw) (post : Int32 → hw → Prop) (xp : String → hw → Prop) (hq : wp_L_done G p0 p1 p2 p3 p4 p5 h0 post xp) : CT G yL_done cL_done 6 (some .int) 19 485 5 34 [.ref p0, .int p1, .int p2, .int p3, .int p4, .int p5] h0 (fun v h1 => ∃ r : Int32, v = some (.int r) ∧ post r h1) (fun E h1 => xp E h1) := by
  refine CT_of hG (by decide) (Nat.le_of_ble_eq_true rfl) (fun Γ hC hQ hN => ?_)
  have hC : COK G Γ "BandplanLaw" cL_done 6 19 485 5 34 [] := hC
  unfold wp_L_done at hq
  show V G Γ 6 0 0 h0 0 [(0, .ref p0), (1, .int p1), (2, .int p2), (3, .int p3), (4, .int p4), (5, .int p5)] []
  refine V_iload_n hC dL_done_0 1 rfl ?_
  obtain ⟨k0, k1, k2, k3, k4, k5, k6, k7, k8, k9, k10, k11, k12, k13, k14⟩ := hq
  rcases sw_0_13 (Int32.toInt p1) with hc | hc | hc | hc | hc | hc | hc | hc | hc | hc | hc | hc | hc | hc | hc
  · refine V_tableIn (tgt := 72) (off := 71) hC dL_done_1 (by rw [hc]; decide) (by rw [hc]; decide) (by rw [hc]; rfl) (by decide) ?_
    have hq := k0 hc
    refine V_aload_n hC dL_done_72 0 rfl ?_
    refine V_iload_n hC dL_done_73 2 rfl ?_
    refine V_iload_n hC dL_done_74 3 rfl ?_
    refine V_iload hC dL_done_75 4 rfl ?_
    obtain ⟨hz, hq⟩ := hq
    refine clV_X11_setGround hG hC sv_L_15 ⟨by decide, by decide⟩ (Nat.le_of_ble_eq_true rfl) ⟨by decide, by decide⟩ dL_done_77 hz hq (fun E h9 hx => VX_out hC hQ ⟨by decide, by decide⟩ hx) (fun r1 h2 hq => ?_)
    show V G Γ 6 3 18 h2 80 [(0, .ref p0), (1, .int p1), (2, .int p2), (3, .int p3), (4, .int p4), (5, .int p5)] [.int r1]
    exact V_iret hC hQ rfl rfl ⟨by decide, by decide⟩ dL_done_80 ⟨_, rfl, hq⟩
  · refine V_tableIn (tgt := 81) (off := 80) hC dL_done_1 (by rw [hc]; decide) (by rw [hc]; decide) (by rw [hc]; rfl) (by decide) ?_
    have hq := k1 hc
    refine V_aload_n hC dL_done_81 0 rfl ?_
    refine V_iload_n hC dL_done_82 2 rfl ?_
    refine V_iload_n hC dL_done_83 3 rfl ?_
    refine V_iload hC dL_done_84 4 rfl ?_
    obtain ⟨hz, hq⟩ := hq
    refine clV_X11_addSite hG hC sv_L_21 ⟨by decide, by decide⟩ (Nat.le_of_ble_eq_true rfl) ⟨by decide, by decide⟩ dL_done_86 hz hq (fun E h9 hx => VX_out hC hQ ⟨by decide, by decide⟩ hx) (fun r3 h4 hq => ?_)
    show V G Γ 6 4 25 h4 89 [(0, .ref p0), (1, .int p1), (2, .int p2), (3, .int p3), (4, .int p4), (5, .int p5)] [.int r3]
    exact V_iret hC hQ rfl rfl ⟨by decide, by decide⟩ dL_done_89 ⟨_, rfl, hq⟩
  · refine V_tableIn (tgt := 90) (off := 89) hC dL_done_1 (by rw [hc]; decide) (by rw [hc]; decide) (by rw [hc]; rfl) (by decide) ?_
    have hq := k2 hc
    refine V_aload_n hC dL_done_90 0 rfl ?_
    refine V_iload_n hC dL_done_91 2 rfl ?_
    refine V_iload_n hC dL_done_92 3 rfl ?_
    refine V_iload hC dL_done_93 4 rfl ?_
    refine V_iload hC dL_done_95 5 rfl ?_
    refine V_iconst (v := 1) hC dL_done_97 (by decide) ?_
    have hq := hq (fun (t5 : Nat) (t6 : Int32) (t7 : Int32) (t8 : Int32) (t9 : Int32) => V G Γ 6 0 0 h0 106 [] [.int t9, .int t8, .int t7, .int t6, .ref t5]) (by
      intro t5 t6 t7 t8 t9 hq
      show V G Γ 6 0 0 h0 106 [] [.int t9, .int t8, .int t7, .int t6, .ref t5]
      obtain ⟨hz, hq⟩ := hq
      refine clV_X11_addStation hG hC sv_L_24 ⟨by decide, by decide⟩ (Nat.le_of_ble_eq_true rfl) ⟨by decide, by decide⟩ dL_done_106 hz hq (fun E h9 hx => VX_out hC hQ ⟨by decide, by decide⟩ hx) (fun r10 h11 hq => ?_)
      show V G Γ 6 5 34 h11 109 [] [.int r10]
      exact V_iret hC hQ rfl rfl ⟨by decide, by decide⟩ dL_done_109 ⟨_, rfl, hq⟩)
    refine V_icmp_ne (tgt := 105) hC dL_done_98 (by decide) (fun hc => ?_) (fun hc => ?_)
    · have hq := hq.1 hc
      refine V_iconst (v := 0) hC dL_done_105 (by decide) ?_
      refine V_sub [] rfl ?_
      exact hq
    · have hq := hq.2 hc
      refine V_iconst (v := 1) hC dL_done_101 (by decide) ?_
      refine V_goto (tgt := 106) hC dL_done_102 (by decide) ?_
      refine V_sub [] rfl ?_
      exact hq
  · refine V_tableIn (tgt := 110) (off := 109) hC dL_done_1 (by rw [hc]; decide) (by rw [hc]; decide) (by rw [hc]; rfl) (by decide) ?_
    have hq := k3 hc
    refine V_aload_n hC dL_done_110 0 rfl ?_
    refine V_iload_n hC dL_done_111 2 rfl ?_
    obtain ⟨hz, hq⟩ := hq
    refine clV_X11_setRatio hG hC sv_L_28 ⟨by decide, by decide⟩ (Nat.le_of_ble_eq_true rfl) ⟨by decide, by decide⟩ dL_done_112 hz hq (fun E h9 hx => VX_out hC hQ ⟨by decide, by decide⟩ hx) (fun r12 h13 hq => ?_)
    show V G Γ 6 2 12 h13 115 [(0, .ref p0), (1, .int p1), (2, .int p2), (3, .int p3), (4, .int p4), (5, .int p5)] [.int r12]
    exact V_iret hC hQ rfl rfl ⟨by decide, by decide⟩ dL_done_115 ⟨_, rfl, hq⟩
  · refine V_tableIn (tgt := 116) (off := 115) hC dL_done_1 (by rw [hc]; decide) (by rw [hc]; decide) (by rw [hc]; rfl) (by decide) ?_
    have hq := k4 hc
    refine V_aload_n hC dL_done_116 0 rfl ?_
    refine V_iload_n hC dL_done_117 2 rfl ?_
    refine V_iload_n hC dL_done_118 3 rfl ?_
    obtain ⟨hz, hq⟩ := hq
    refine clV_X11_putOn hG hC sv_L_32 ⟨by decide, by decide⟩ (Nat.le_of_ble_eq_true rfl) ⟨by decide, by decide⟩ dL_done_119 hz hq (fun E h9 hx => VX_out hC hQ ⟨by decide, by decide⟩ hx) (fun r14 h15 hq => ?_)
    show V G Γ 6 3 18 h15 122 [(0, .ref p0), (1, .int p1), (2, .int p2), (3, .int p3), (4, .int p4), (5, .int p5)] [.int r14]
    exact V_iret hC hQ rfl rfl ⟨by decide, by decide⟩ dL_done_122 ⟨_, rfl, hq⟩
  · refine V_tableIn (tgt := 123) (off := 122) hC dL_done_1 (by rw [hc]; decide) (by rw [hc]; decide) (by rw [hc]; rfl) (by decide) ?_
    have hq := k5 hc
    refine V_aload_n hC dL_done_123 0 rfl ?_
    refine V_iload_n hC dL_done_124 2 rfl ?_
    obtain ⟨hz, hq⟩ := hq
    refine clV_X11_putOff hG hC sv_L_36 ⟨by decide, by decide⟩ (Nat.le_of_ble_eq_true rfl) ⟨by decide, by decide⟩ dL_done_125 hz hq (fun E h9 hx => VX_out hC hQ ⟨by decide, by decide⟩ hx) (fun r16 h17 hq => ?_)
    show V G Γ 6 1 6 h17 128 [(0, .ref p0), (1, .int p1), (2, .int p2), (3, .int p3), (4, .int p4), (5, .int p5)] [.int r16]
    exact V_iret hC hQ rfl rfl ⟨by decide, by decide⟩ dL_done_128 ⟨_, rfl, hq⟩
  · refine V_tableIn (tgt := 129) (off := 128) hC dL_done_1 (by rw [hc]; decide) (by rw [hc]; decide) (by rw [hc]; rfl) (by decide) ?_
    have hq := k6 hc
    refine V_aload_n hC dL_done_129 0 rfl ?_
    refine V_iload_n hC dL_done_130 2 rfl ?_
    refine V_iload_n hC dL_done_131 3 rfl ?_
    refine V_iconst (v := 1) hC dL_done_132 (by decide) ?_
    have hq := hq (fun (t18 : Nat) (t19 : Int32) (t20 : Int32) => V G Γ 6 0 0 h0 141 [] [.int t20, .int t19, .ref t18]) (by
      intro t18 t19 t20 hq
      show V G Γ 6 0 0 h0 141 [] [.int t20, .int t19, .ref t18]
      obtain ⟨hz, hq⟩ := hq
      refine clV_X11_setForeign hG hC sv_L_39 ⟨by decide, by decide⟩ (Nat.le_of_ble_eq_true rfl) ⟨by decide, by decide⟩ dL_done_141 hz hq (fun E h9 hx => VX_out hC hQ ⟨by decide, by decide⟩ hx) (fun r21 h22 hq => ?_)
      show V G Γ 6 1 6 h22 144 [] [.int r21]
      refine clS_L_told hG hC ss_L_43 ⟨by decide, by decide⟩ (Nat.le_of_ble_eq_true rfl) ⟨by decide, by decide⟩ dL_done_144 hq (fun r23 hq => ?_)
      show V G Γ 6 1 6 h22 147 [] [.int r23]
      exact V_iret hC hQ rfl rfl ⟨by decide, by decide⟩ dL_done_147 ⟨_, rfl, hq⟩)
    refine V_icmp_ne (tgt := 140) hC dL_done_133 (by decide) (fun hc => ?_) (fun hc => ?_)
    · have hq := hq.1 hc
      refine V_iconst (v := 0) hC dL_done_140 (by decide) ?_
      refine V_sub [] rfl ?_
      exact hq
    · have hq := hq.2 hc
      refine V_iconst (v := 1) hC dL_done_136 (by decide) ?_
      refine V_goto (tgt := 141) hC dL_done_137 (by decide) ?_
      refine V_sub [] rfl ?_
      exact hq
  · refine V_tableIn (tgt := 148) (off := 147) hC dL_done_1 (by rw [hc]; decide) (by rw [hc]; decide) (by rw [hc]; rfl) (by decide) ?_
    have hq := k7 hc
    refine V_aload_n hC dL_done_148 0 rfl ?_
    refine V_iload_n hC dL_done_149 2 rfl ?_
    refine V_iload_n hC dL_done_150 3 rfl ?_
    obtain ⟨hz, hq⟩ := hq
    refine clV_X11_askAbroad hG hC sv_L_47 ⟨by decide, by decide⟩ (Nat.le_of_ble_eq_true rfl) ⟨by decide, by decide⟩ dL_done_151 hz hq (fun E h9 hx => VX_out hC hQ ⟨by decide, by decide⟩ hx) (fun r24 h25 hq => ?_)
    show V G Γ 6 2 12 h25 154 [(0, .ref p0), (1, .int p1), (2, .int p2), (3, .int p3), (4, .int p4), (5, .int p5)] [.int r24]
    exact V_iret hC hQ rfl rfl ⟨by decide, by decide⟩ dL_done_154 ⟨_, rfl, hq⟩
  · refine V_tableIn (tgt := 155) (off := 154) hC dL_done_1 (by rw [hc]; decide) (by rw [hc]; decide) (by rw [hc]; rfl) (by decide) ?_
    have hq := k8 hc
    refine V_aload_n hC dL_done_155 0 rfl ?_
    refine V_iload_n hC dL_done_156 2 rfl ?_
    refine V_iload_n hC dL_done_157 3 rfl ?_
    obtain ⟨hz, hq⟩ := hq
    refine clV_X11_object hG hC sv_L_50 ⟨by decide, by decide⟩ (Nat.le_of_ble_eq_true rfl) ⟨by decide, by decide⟩ dL_done_158 hz hq (fun E h9 hx => VX_out hC hQ ⟨by decide, by decide⟩ hx) (fun r26 h27 hq => ?_)
    show V G Γ 6 3 18 h27 161 [(0, .ref p0), (1, .int p1), (2, .int p2), (3, .int p3), (4, .int p4), (5, .int p5)] [.int r26]
    refine clS_L_told hG hC ss_L_43 ⟨by decide, by decide⟩ (Nat.le_of_ble_eq_true rfl) ⟨by decide, by decide⟩ dL_done_161 hq (fun r28 hq => ?_)
    show V G Γ 6 3 18 h27 164 [(0, .ref p0), (1, .int p1), (2, .int p2), (3, .int p3), (4, .int p4), (5, .int p5)] [.int r28]
    exact V_iret hC hQ rfl rfl ⟨by decide, by decide⟩ dL_done_164 ⟨_, rfl, hq⟩
  · refine V_tableIn (tgt := 165) (off := 164) hC dL_done_1 (by rw [hc]; decide) (by rw [hc]; decide) (by rw [hc]; rfl) (by decide) ?_
    have hq := k9 hc
    refine V_aload_n hC dL_done_165 0 rfl ?_
    refine V_iload_n hC dL_done_166 2 rfl ?_
    obtain ⟨hz, hq⟩ := hq
    refine clV_X11_goOn hG hC sv_L_54 ⟨by decide, by decide⟩ (Nat.le_of_ble_eq_true rfl) ⟨by decide, by decide⟩ dL_done_167 hz hq (fun E h9 hx => VX_out hC hQ ⟨by decide, by decide⟩ hx) (fun r29 h30 hq => ?_)
    show V G Γ 6 1 6 h30 170 [(0, .ref p0), (1, .int p1), (2, .int p2), (3, .int p3), (4, .int p4), (5, .int p5)] [.int r29]
    exact V_iret hC hQ rfl rfl ⟨by decide, by decide⟩ dL_done_170 ⟨_, rfl, hq⟩
  · refine V_tableIn (tgt := 171) (off := 170) hC dL_done_1 (by rw [hc]; decide) (by rw [hc]; decide) (by rw [hc]; rfl) (by decide) ?_
    have hq := k10 hc
    refine V_aload_n hC dL_done_171 0 rfl ?_
    refine V_iload_n hC dL_done_172 2 rfl ?_
    refine V_iload_n hC dL_done_173 3 rfl ?_
    obtain ⟨hz, hq⟩ := hq
    refine clV_X11_setAsked hG hC sv_L_57 ⟨by decide, by decide⟩ (Nat.le_of_ble_eq_true rfl) ⟨by decide, by decide⟩ dL_done_174 hz hq (fun E h9 hx => VX_out hC hQ ⟨by decide, by decide⟩ hx) (fun r31 h32 hq => ?_)
    show V G Γ 6 2 12 h32 177 [(0, .ref p0), (1, .int p1), (2, .int p2), (3, .int p3), (4, .int p4), (5, .int p5)] [.int r31]
    exact V_iret hC hQ rfl rfl ⟨by decide, by decide⟩ dL_done_177 ⟨_, rfl, hq⟩
  · refine V_tableIn (tgt := 178) (off := 177) hC dL_done_1 (by rw [hc]; decide) (by rw [hc]; decide) (by rw [hc]; rfl) (by decide) ?_
    have hq := k11 hc
    refine V_aload_n hC dL_done_178 0 rfl ?_
    refine V_iload_n hC dL_done_179 2 rfl ?_
    refine V_iload_n hC dL_done_180 3 rfl ?_
    refine V_iload hC dL_done_181 4 rfl ?_
    obtain ⟨hz, hq⟩ := hq
    refine clV_X11_sell hG hC sv_L_60 ⟨by decide, by decide⟩ (Nat.le_of_ble_eq_true rfl) ⟨by decide, by decide⟩ dL_done_183 hz hq (fun E h9 hx => VX_out hC hQ ⟨by decide, by decide⟩ hx) (fun r33 h34 hq => ?_)
    show V G Γ 6 4 24 h34 186 [(0, .ref p0), (1, .int p1), (2, .int p2), (3, .int p3), (4, .int p4), (5, .int p5)] [.int r33]
    exact V_iret hC hQ rfl rfl ⟨by decide, by decide⟩ dL_done_186 ⟨_, rfl, hq⟩
  · refine V_tableIn (tgt := 187) (off := 186) hC dL_done_1 (by rw [hc]; decide) (by rw [hc]; decide) (by rw [hc]; rfl) (by decide) ?_
    have hq := k12 hc
    refine V_aload_n hC dL_done_187 0 rfl ?_
    refine V_iload_n hC dL_done_188 2 rfl ?_
    refine V_iload_n hC dL_done_189 3 rfl ?_
    refine V_iload hC dL_done_190 4 rfl ?_
    obtain ⟨hz, hq⟩ := hq
    refine clV_X11_addBidder hG hC sv_L_63 ⟨by decide, by decide⟩ (Nat.le_of_ble_eq_true rfl) ⟨by decide, by decide⟩ dL_done_192 hz hq (fun E h9 hx => VX_out hC hQ ⟨by decide, by decide⟩ hx) (fun r35 h36 hq => ?_)
    show V G Γ 6 4 24 h36 195 [(0, .ref p0), (1, .int p1), (2, .int p2), (3, .int p3), (4, .int p4), (5, .int p5)] [.int r35]
    exact V_iret hC hQ rfl rfl ⟨by decide, by decide⟩ dL_done_195 ⟨_, rfl, hq⟩
  · refine V_tableIn (tgt := 196) (off := 195) hC dL_done_1 (by rw [hc]; decide) (by rw [hc]; decide) (by rw [hc]; rfl) (by decide) ?_
    have hq := k13 hc
    refine V_aload_n hC dL_done_196 0 rfl ?_
    refine V_iload_n hC dL_done_197 2 rfl ?_
    obtain ⟨hz, hq⟩ := hq
    refine clV_X11_buy hG hC sv_L_66 ⟨by decide, by decide⟩ (Nat.le_of_ble_eq_true rfl) ⟨by decide, by decide⟩ dL_done_198 hz hq (fun E h9 hx => VX_out hC hQ ⟨by decide, by decide⟩ hx) (fun r37 h38 hq => ?_)
    show V G Γ 6 1 6 h38 201 [(0, .ref p0), (1, .int p1), (2, .int p2), (3, .int p3), (4, .int p4), (5, .int p5)] [.int r37]
    exact V_iret hC hQ rfl rfl ⟨by decide, by decide⟩ dL_done_201 ⟨_, rfl, hq⟩
  · refine V_tableOut (tgt := 202) hC dL_done_1 hc (by decide) ?_
    have hq := k14 hc
    refine V_aload_n hC dL_done_202 0 rfl ?_
    refine V_iload_n hC dL_done_203 2 rfl ?_
    obtain ⟨hz, hq⟩ := hq
    refine clV_X11_move hG hC sv_L_69 ⟨by decide, by decide⟩ (Nat.le_of_ble_eq_true rfl) ⟨by decide, by decide⟩ dL_done_204 hz hq (fun E h9 hx => VX_out hC hQ ⟨by decide, by decide⟩ hx) (fun r39 h40 hq => ?_)
    show V G Γ 6 2 12 h40 207 [(0, .ref p0), (1, .int p1), (2, .int p2), (3, .int p3), (4, .int p4), (5, .int p5)] [.int r39]
    exact V_iret hC hQ rfl rfl ⟨by decide, by decide⟩ dL_done_207 ⟨_, rfl, hq⟩
theorem clS_L_done {G : Gx} (hG : GOK G) {Γ : Cx} {own : String} {cc : ByteArray} {nL fr lo mc ms cells slots pc : Nat} {hh : List (Nat × Nat × Nat × Nat)} {h : hw} {L : List (Nat × Value)} {rest : List Value} (hC : COK G Γ own cc nL fr lo mc ms hh) {idx : Nat} (hs : SS own idx yL_done cL_done 6 (some .int) 6) {p0 : Nat} {p1 : Int32} {p2 : Int32} {p3 : Int32} {p4 : Int32} {p5 : Int32} (hR : 19 + 1 ≤ fr ∧ 8 + (6 + 11) + 485 ≤ lo) (hw8 : (rest.map fun v => v.category).sum ≤ 8) (hcs : cells + 5 ≤ mc ∧ slots + 34 ≤ ms) (hdg : decode cc pc = .ok (.invokestatic idx, 3)) {post : Int32 → hw → Prop} {xp : String → hw → Prop} (hq : wp_L_done G p0 p1 p2 p3 p4 p5 h post xp) (kx : ∀ (E : String) (h1 : hw), xp E h1 → VX G Γ nL (cells + 5) (slots + 34) h1 pc L rest E) (kk : ∀ (r : Int32) (h1 : hw) , post r h1 → V G Γ nL (cells + 5) (slots + 34) h1 (pc + 3) L (.int r :: rest)) : V G Γ nL cells slots h pc L (.int p5 :: .int p4 :: .int p3 :: .int p2 :: .int p1 :: .ref p0 :: rest) :=
  V_callS (As := [.ref p0, .int p1, .int p2, .int p3, .int p4, .int p5]) hC (ct_L_done hG p0 p1 p2 p3 p4 p5 h post xp hq) hs rfl hR hw8 hcs hdg (fun E h1 z => kx E h1 z) (fun v h1 z => by obtain ⟨r, rfl, hz⟩ := z; exact kk r h1 hz)
set_option maxRecDepth 100000 in
set_option maxHeartbeats 4000000 in
theorem ct_L_asked {G : Gx} (hG : GOK G) (p0 : Nat) (p1 : Int32) (p2 : Int32) (p3 : Int32) (p4 : Int32) (p5 : Int32) (h0 : hw) (post : Int32 → hw → Prop) (xp : String → hw → Prop) (hq : wp_L_asked G p0 p1 p2 p3 p4 p5 h0 post xp) : CT G yL_asked cL_asked 6 (some .int) 16 403 4 24 [.ref p0, .int p1, .int p2, .int p3, .int p4, .int p5] h0 (fun v h1 => ∃ r : Int32, v = some (.int r) ∧ post r h1) (fun E h1 => xp E h1) := by
  refine CT_of hG (by decide) (Nat.le_of_ble_eq_true rfl) (fun Γ hC hQ hN => ?_)
  have hC : COK G Γ "BandplanLaw" cL_asked 6 16 403 4 24 [] := hC
  unfold wp_L_asked at hq
  show V G Γ 6 0 0 h0 0 [(0, .ref p0), (1, .int p1), (2, .int p2), (3, .int p3), (4, .int p4), (5, .int p5)] []
  refine V_iload_n hC dL_asked_0 1 rfl ?_
  obtain ⟨k0, k1, k2, k3, k4, k5, k6, k7, k8, k9, k10, k11, k12⟩ := hq
  rcases sw_20_31 (Int32.toInt p1) with hc | hc | hc | hc | hc | hc | hc | hc | hc | hc | hc | hc | hc
  · refine V_tableIn (tgt := 64) (off := 63) hC dL_asked_1 (by rw [hc]; decide) (by rw [hc]; decide) (by rw [hc]; rfl) (by decide) ?_
    have hq := k0 hc
    refine V_aload_n hC dL_asked_64 0 rfl ?_
    refine V_iload_n hC dL_asked_65 2 rfl ?_
    refine V_iload_n hC dL_asked_66 3 rfl ?_
    obtain ⟨hz, hq⟩ := hq
    refine clV_X11_loss hG hC sv_L_72 ⟨by decide, by decide⟩ (Nat.le_of_ble_eq_true rfl) ⟨by decide, by decide⟩ dL_asked_67 hz hq (fun E hx => VX_out hC hQ ⟨by decide, by decide⟩ hx) (fun r1 hq => ?_)
    show V G Γ 6 2 12 h0 70 [(0, .ref p0), (1, .int p1), (2, .int p2), (3, .int p3), (4, .int p4), (5, .int p5)] [.int r1]
    exact V_iret hC hQ rfl rfl ⟨by decide, by decide⟩ dL_asked_70 ⟨_, rfl, hq⟩
  · refine V_tableIn (tgt := 71) (off := 70) hC dL_asked_1 (by rw [hc]; decide) (by rw [hc]; decide) (by rw [hc]; rfl) (by decide) ?_
    have hq := k1 hc
    refine V_aload_n hC dL_asked_71 0 rfl ?_
    refine V_iload_n hC dL_asked_72 2 rfl ?_
    obtain ⟨hz, hq⟩ := hq
    refine clV_X11_level hG hC sv_L_75 ⟨by decide, by decide⟩ (Nat.le_of_ble_eq_true rfl) ⟨by decide, by decide⟩ dL_asked_73 hz hq (fun E hx => VX_out hC hQ ⟨by decide, by decide⟩ hx) (fun r2 hq => ?_)
    show V G Γ 6 1 6 h0 76 [(0, .ref p0), (1, .int p1), (2, .int p2), (3, .int p3), (4, .int p4), (5, .int p5)] [.int r2]
    exact V_iret hC hQ rfl rfl ⟨by decide, by decide⟩ dL_asked_76 ⟨_, rfl, hq⟩
  · refine V_tableIn (tgt := 77) (off := 76) hC dL_asked_1 (by rw [hc]; decide) (by rw [hc]; decide) (by rw [hc]; rfl) (by decide) ?_
    have hq := k2 hc
    refine V_aload_n hC dL_asked_77 0 rfl ?_
    refine V_iload_n hC dL_asked_78 2 rfl ?_
    obtain ⟨hz, hq⟩ := hq
    refine clV_X11_harm hG hC sv_L_78 ⟨by decide, by decide⟩ (Nat.le_of_ble_eq_true rfl) ⟨by decide, by decide⟩ dL_asked_79 hz hq (fun E hx => VX_out hC hQ ⟨by decide, by decide⟩ hx) (fun r3 hq => ?_)
    show V G Γ 6 3 18 h0 82 [(0, .ref p0), (1, .int p1), (2, .int p2), (3, .int p3), (4, .int p4), (5, .int p5)] [.int r3]
    exact V_iret hC hQ rfl rfl ⟨by decide, by decide⟩ dL_asked_82 ⟨_, rfl, hq⟩
  · refine V_tableIn (tgt := 83) (off := 82) hC dL_asked_1 (by rw [hc]; decide) (by rw [hc]; decide) (by rw [hc]; rfl) (by decide) ?_
    have hq := k3 hc
    refine V_aload_n hC dL_asked_83 0 rfl ?_
    refine V_iload_n hC dL_asked_84 2 rfl ?_
    obtain ⟨hz, hq⟩ := hq
    refine clV_X11_keeps hG hC sv_L_81 ⟨by decide, by decide⟩ (Nat.le_of_ble_eq_true rfl) ⟨by decide, by decide⟩ dL_asked_85 hz hq (fun E hx => VX_out hC hQ ⟨by decide, by decide⟩ hx) (fun r4 hq => ?_)
    show V G Γ 6 2 12 h0 88 [(0, .ref p0), (1, .int p1), (2, .int p2), (3, .int p3), (4, .int p4), (5, .int p5)] [.int r4]
    refine clS_L_told hG hC ss_L_43 ⟨by decide, by decide⟩ (Nat.le_of_ble_eq_true rfl) ⟨by decide, by decide⟩ dL_asked_88 hq (fun r5 hq => ?_)
    show V G Γ 6 2 12 h0 91 [(0, .ref p0), (1, .int p1), (2, .int p2), (3, .int p3), (4, .int p4), (5, .int p5)] [.int r5]
    exact V_iret hC hQ rfl rfl ⟨by decide, by decide⟩ dL_asked_91 ⟨_, rfl, hq⟩
  · refine V_tableIn (tgt := 92) (off := 91) hC dL_asked_1 (by rw [hc]; decide) (by rw [hc]; decide) (by rw [hc]; rfl) (by decide) ?_
    have hq := k4 hc
    refine V_aload_n hC dL_asked_92 0 rfl ?_
    refine V_iload_n hC dL_asked_93 2 rfl ?_
    refine V_iload_n hC dL_asked_94 3 rfl ?_
    refine V_iload hC dL_asked_95 4 rfl ?_
    refine V_iload hC dL_asked_97 5 rfl ?_
    obtain ⟨hz, hq⟩ := hq
    refine clV_X11_bars hG hC sv_L_85 ⟨by decide, by decide⟩ (Nat.le_of_ble_eq_true rfl) ⟨by decide, by decide⟩ dL_asked_99 hz hq (fun E hx => VX_out hC hQ ⟨by decide, by decide⟩ hx) (fun r6 hq => ?_)
    show V G Γ 6 4 24 h0 102 [(0, .ref p0), (1, .int p1), (2, .int p2), (3, .int p3), (4, .int p4), (5, .int p5)] [.int r6]
    refine clS_L_told hG hC ss_L_43 ⟨by decide, by decide⟩ (Nat.le_of_ble_eq_true rfl) ⟨by decide, by decide⟩ dL_asked_102 hq (fun r7 hq => ?_)
    show V G Γ 6 4 24 h0 105 [(0, .ref p0), (1, .int p1), (2, .int p2), (3, .int p3), (4, .int p4), (5, .int p5)] [.int r7]
    exact V_iret hC hQ rfl rfl ⟨by decide, by decide⟩ dL_asked_105 ⟨_, rfl, hq⟩
  · refine V_tableIn (tgt := 106) (off := 105) hC dL_asked_1 (by rw [hc]; decide) (by rw [hc]; decide) (by rw [hc]; rfl) (by decide) ?_
    have hq := k5 hc
    refine V_aload_n hC dL_asked_106 0 rfl ?_
    refine V_iload_n hC dL_asked_107 2 rfl ?_
    refine V_iload_n hC dL_asked_108 3 rfl ?_
    obtain ⟨hz, hq⟩ := hq
    refine clV_X11_channelOf hG hC sv_L_89 ⟨by decide, by decide⟩ (Nat.le_of_ble_eq_true rfl) ⟨by decide, by decide⟩ dL_asked_109 hz hq (fun E hx => VX_out hC hQ ⟨by decide, by decide⟩ hx) (fun r8 hq => ?_)
    show V G Γ 6 2 12 h0 112 [(0, .ref p0), (1, .int p1), (2, .int p2), (3, .int p3), (4, .int p4), (5, .int p5)] [.int r8]
    exact V_iret hC hQ rfl rfl ⟨by decide, by decide⟩ dL_asked_112 ⟨_, rfl, hq⟩
  · refine V_tableIn (tgt := 113) (off := 112) hC dL_asked_1 (by rw [hc]; decide) (by rw [hc]; decide) (by rw [hc]; rfl) (by decide) ?_
    have hq := k6 hc
    refine V_aload_n hC dL_asked_113 0 rfl ?_
    refine V_iload_n hC dL_asked_114 2 rfl ?_
    refine V_iload_n hC dL_asked_115 3 rfl ?_
    obtain ⟨hz, hq⟩ := hq
    refine clV_X11_hasYes hG hC sv_L_92 ⟨by decide, by decide⟩ (Nat.le_of_ble_eq_true rfl) ⟨by decide, by decide⟩ dL_asked_116 hz hq (fun E hx => VX_out hC hQ ⟨by decide, by decide⟩ hx) (fun r9 hq => ?_)
    show V G Γ 6 2 12 h0 119 [(0, .ref p0), (1, .int p1), (2, .int p2), (3, .int p3), (4, .int p4), (5, .int p5)] [.int r9]
    refine clS_L_told hG hC ss_L_43 ⟨by decide, by decide⟩ (Nat.le_of_ble_eq_true rfl) ⟨by decide, by decide⟩ dL_asked_119 hq (fun r10 hq => ?_)
    show V G Γ 6 2 12 h0 122 [(0, .ref p0), (1, .int p1), (2, .int p2), (3, .int p3), (4, .int p4), (5, .int p5)] [.int r10]
    exact V_iret hC hQ rfl rfl ⟨by decide, by decide⟩ dL_asked_122 ⟨_, rfl, hq⟩
  · refine V_tableIn (tgt := 123) (off := 122) hC dL_asked_1 (by rw [hc]; decide) (by rw [hc]; decide) (by rw [hc]; rfl) (by decide) ?_
    have hq := k7 hc
    refine V_aload_n hC dL_asked_123 0 rfl ?_
    refine V_iload_n hC dL_asked_124 2 rfl ?_
    obtain ⟨hz, hq⟩ := hq
    refine clV_X11_canPack hG hC sv_L_95 ⟨by decide, by decide⟩ (Nat.le_of_ble_eq_true rfl) ⟨by decide, by decide⟩ dL_asked_125 hz hq (fun E h9 hx => VX_out hC hQ ⟨by decide, by decide⟩ hx) (fun r11 h12 hq => ?_)
    show V G Γ 6 1 6 h12 128 [(0, .ref p0), (1, .int p1), (2, .int p2), (3, .int p3), (4, .int p4), (5, .int p5)] [.int r11]
    refine clS_L_told hG hC ss_L_43 ⟨by decide, by decide⟩ (Nat.le_of_ble_eq_true rfl) ⟨by decide, by decide⟩ dL_asked_128 hq (fun r13 hq => ?_)
    show V G Γ 6 1 6 h12 131 [(0, .ref p0), (1, .int p1), (2, .int p2), (3, .int p3), (4, .int p4), (5, .int p5)] [.int r13]
    exact V_iret hC hQ rfl rfl ⟨by decide, by decide⟩ dL_asked_131 ⟨_, rfl, hq⟩
  · refine V_tableIn (tgt := 132) (off := 131) hC dL_asked_1 (by rw [hc]; decide) (by rw [hc]; decide) (by rw [hc]; rfl) (by decide) ?_
    have hq := k8 hc
    refine V_aload_n hC dL_asked_132 0 rfl ?_
    refine V_iload_n hC dL_asked_133 2 rfl ?_
    refine V_iload_n hC dL_asked_134 3 rfl ?_
    obtain ⟨hz, hq⟩ := hq
    refine clV_X11_packed hG hC sv_L_98 ⟨by decide, by decide⟩ (Nat.le_of_ble_eq_true rfl) ⟨by decide, by decide⟩ dL_asked_135 hz hq (fun E h9 hx => VX_out hC hQ ⟨by decide, by decide⟩ hx) (fun r14 h15 hq => ?_)
    show V G Γ 6 3 18 h15 138 [(0, .ref p0), (1, .int p1), (2, .int p2), (3, .int p3), (4, .int p4), (5, .int p5)] [.int r14]
    exact V_iret hC hQ rfl rfl ⟨by decide, by decide⟩ dL_asked_138 ⟨_, rfl, hq⟩
  · refine V_tableIn (tgt := 139) (off := 138) hC dL_asked_1 (by rw [hc]; decide) (by rw [hc]; decide) (by rw [hc]; rfl) (by decide) ?_
    have hq := k9 hc
    refine V_aload_n hC dL_asked_139 0 rfl ?_
    refine V_iload_n hC dL_asked_140 2 rfl ?_
    obtain ⟨hz, hq⟩ := hq
    refine clV_X11_priceOf hG hC sv_L_101 ⟨by decide, by decide⟩ (Nat.le_of_ble_eq_true rfl) ⟨by decide, by decide⟩ dL_asked_141 hz hq (fun E hx => VX_out hC hQ ⟨by decide, by decide⟩ hx) (fun r16 hq => ?_)
    show V G Γ 6 2 12 h0 144 [(0, .ref p0), (1, .int p1), (2, .int p2), (3, .int p3), (4, .int p4), (5, .int p5)] [.int r16]
    exact V_iret hC hQ rfl rfl ⟨by decide, by decide⟩ dL_asked_144 ⟨_, rfl, hq⟩
  · refine V_tableIn (tgt := 145) (off := 144) hC dL_asked_1 (by rw [hc]; decide) (by rw [hc]; decide) (by rw [hc]; rfl) (by decide) ?_
    have hq := k10 hc
    refine V_aload_n hC dL_asked_145 0 rfl ?_
    refine V_iload_n hC dL_asked_146 2 rfl ?_
    obtain ⟨hz, hq⟩ := hq
    refine clV_X11_bought hG hC sv_L_104 ⟨by decide, by decide⟩ (Nat.le_of_ble_eq_true rfl) ⟨by decide, by decide⟩ dL_asked_147 hz hq (fun E hx => VX_out hC hQ ⟨by decide, by decide⟩ hx) (fun r17 hq => ?_)
    show V G Γ 6 1 6 h0 150 [(0, .ref p0), (1, .int p1), (2, .int p2), (3, .int p3), (4, .int p4), (5, .int p5)] [.int r17]
    exact V_iret hC hQ rfl rfl ⟨by decide, by decide⟩ dL_asked_150 ⟨_, rfl, hq⟩
  · refine V_tableIn (tgt := 151) (off := 150) hC dL_asked_1 (by rw [hc]; decide) (by rw [hc]; decide) (by rw [hc]; rfl) (by decide) ?_
    have hq := k11 hc
    refine V_aload_n hC dL_asked_151 0 rfl ?_
    refine V_iload_n hC dL_asked_152 2 rfl ?_
    obtain ⟨hz, hq⟩ := hq
    refine clV_X11_pays hG hC sv_L_107 ⟨by decide, by decide⟩ (Nat.le_of_ble_eq_true rfl) ⟨by decide, by decide⟩ dL_asked_153 hz hq (fun E hx => VX_out hC hQ ⟨by decide, by decide⟩ hx) (fun r18 hq => ?_)
    show V G Γ 6 1 6 h0 156 [(0, .ref p0), (1, .int p1), (2, .int p2), (3, .int p3), (4, .int p4), (5, .int p5)] [.long r18]
    refine V_l2i hC dL_asked_156 ?_
    exact V_iret hC hQ rfl rfl ⟨by decide, by decide⟩ dL_asked_157 ⟨_, rfl, hq⟩
  · refine V_tableOut (tgt := 158) hC dL_asked_1 hc (by decide) ?_
    have hq := k12 hc
    refine V_aload_n hC dL_asked_158 0 rfl ?_
    refine V_iload_n hC dL_asked_159 2 rfl ?_
    obtain ⟨hz, hq⟩ := hq
    refine clV_X11_phaseOf hG hC sv_L_111 ⟨by decide, by decide⟩ (Nat.le_of_ble_eq_true rfl) ⟨by decide, by decide⟩ dL_asked_160 hz hq (fun E hx => VX_out hC hQ ⟨by decide, by decide⟩ hx) (fun r19 hq => ?_)
    show V G Γ 6 2 12 h0 163 [(0, .ref p0), (1, .int p1), (2, .int p2), (3, .int p3), (4, .int p4), (5, .int p5)] [.int r19]
    exact V_iret hC hQ rfl rfl ⟨by decide, by decide⟩ dL_asked_163 ⟨_, rfl, hq⟩
theorem clS_L_asked {G : Gx} (hG : GOK G) {Γ : Cx} {own : String} {cc : ByteArray} {nL fr lo mc ms cells slots pc : Nat} {hh : List (Nat × Nat × Nat × Nat)} {h : hw} {L : List (Nat × Value)} {rest : List Value} (hC : COK G Γ own cc nL fr lo mc ms hh) {idx : Nat} (hs : SS own idx yL_asked cL_asked 6 (some .int) 6) {p0 : Nat} {p1 : Int32} {p2 : Int32} {p3 : Int32} {p4 : Int32} {p5 : Int32} (hR : 16 + 1 ≤ fr ∧ 8 + (6 + 11) + 403 ≤ lo) (hw8 : (rest.map fun v => v.category).sum ≤ 8) (hcs : cells + 4 ≤ mc ∧ slots + 24 ≤ ms) (hdg : decode cc pc = .ok (.invokestatic idx, 3)) {post : Int32 → hw → Prop} {xp : String → hw → Prop} (hq : wp_L_asked G p0 p1 p2 p3 p4 p5 h post xp) (kx : ∀ (E : String) (h1 : hw), xp E h1 → VX G Γ nL (cells + 4) (slots + 24) h1 pc L rest E) (kk : ∀ (r : Int32) (h1 : hw) , post r h1 → V G Γ nL (cells + 4) (slots + 24) h1 (pc + 3) L (.int r :: rest)) : V G Γ nL cells slots h pc L (.int p5 :: .int p4 :: .int p3 :: .int p2 :: .int p1 :: .ref p0 :: rest) :=
  V_callS (As := [.ref p0, .int p1, .int p2, .int p3, .int p4, .int p5]) hC (ct_L_asked hG p0 p1 p2 p3 p4 p5 h post xp hq) hs rfl hR hw8 hcs hdg (fun E h1 z => kx E h1 z) (fun v h1 z => by obtain ⟨r, rfl, hz⟩ := z; exact kk r h1 hz)
set_option maxRecDepth 100000 in
set_option maxHeartbeats 4000000 in
theorem ct_L_deed {G : Gx} (hG : GOK G) (p0 : Nat) (p1 : Int32) (p2 : Int32) (p3 : Int32) (p4 : Int32) (p5 : Int32) (h0 : hw) (post : Int32 → hw → Prop) (hq : wp_L_deed G p0 p1 p2 p3 p4 p5 h0 post) : CTW G yL_deed cL_deed 7 (some .int) [(0, 31, 32, 121), (0, 31, 38, 123), (0, 31, 44, 125), (0, 31, 50, 127), (0, 31, 56, 129)] 20 510 5 34 [.ref p0, .int p1, .int p2, .int p3, .int p4, .int p5] h0 (fun v h1 => ∃ r : Int32, v = some (.int r) ∧ post r h1) (fun E h1 => False) := by
  refine CTW_of hG (by decide) (Nat.le_of_ble_eq_true rfl) (fun Γ hC hQ => ?_)
  have hC : COK G Γ "BandplanLaw" cL_deed 7 20 510 5 34 [(0, 31, 32, 121), (0, 31, 38, 123), (0, 31, 44, 125), (0, 31, 50, 127), (0, 31, 56, 129)] := hC
  unfold wp_L_deed at hq
  show V G Γ 7 0 0 h0 0 [(0, .ref p0), (1, .int p1), (2, .int p2), (3, .int p3), (4, .int p4), (5, .int p5)] []
  refine V_iload_n hC dL_deed_0 1 rfl ?_
  refine V_bipush (v := 20) hC dL_deed_1 (by decide) ?_
  refine V_icmp_ge (tgt := 20) hC dL_deed_3 (by decide) (fun hc => ?_) (fun hc => ?_)
  · have hq := hq.1 hc
    refine V_aload_n hC dL_deed_20 0 rfl ?_
    refine V_iload_n hC dL_deed_21 1 rfl ?_
    refine V_iload_n hC dL_deed_22 2 rfl ?_
    refine V_iload_n hC dL_deed_23 3 rfl ?_
    refine V_iload hC dL_deed_24 4 rfl ?_
    refine V_iload hC dL_deed_26 5 rfl ?_
    refine clS_L_asked hG hC ss_L_118 ⟨by decide, by decide⟩ (Nat.le_of_ble_eq_true rfl) ⟨by decide, by decide⟩ dL_deed_28 hq ?_ (fun r1 h2 hq => ?_)
    · intro E hE3 hx
      obtain ⟨k0, k1, k2, k3, ho⟩ := hx
      rcases ho with rfl | rfl | rfl | rfl
      · have hq := k0 rfl
        refine VX_catch (E := "java/lang/IllegalArgumentException") hC [(0, 31, 32, 121)] (0, 31, 38, 123) [(0, 31, 44, 125), (0, 31, 50, 127), (0, 31, 56, 129)] rfl (List.forall_mem_cons.mpr ⟨⟨by decide, "java/lang/IndexOutOfBoundsException", aw_2_73, by decide⟩, (fun _ h9 => nomatch h9)⟩) rfl (by decide) aw_2_153 (List.mem_filter.mpr ⟨nw_2_187, rfl⟩) (fun q => ?_)
        show V G Γ 7 4 24 hE3 38 [(0, .ref p0), (1, .int p1), (2, .int p2), (3, .int p3), (4, .int p4), (5, .int p5)] [.ref q]
        refine V_astore (L' := [(0, .ref p0), (1, .int p1), (2, .int p2), (3, .int p3), (4, .int p4), (5, .int p5), (6, .ref q)]) hC dL_deed_38 (by decide) [1, 2, 3, 4, 5, 6, 0] rfl ?_
        refine V_sipush (v := (-20002)) hC dL_deed_40 (by decide) ?_
        exact V_iret hC hQ rfl rfl ⟨by decide, by decide⟩ dL_deed_43 ⟨_, rfl, hq⟩
      · have hq := k1 rfl
        refine VX_catch (E := "java/lang/IndexOutOfBoundsException") hC [] (0, 31, 32, 121) [(0, 31, 38, 123), (0, 31, 44, 125), (0, 31, 50, 127), (0, 31, 56, 129)] rfl (fun _ h9 => nomatch h9) rfl (by decide) aw_2_73 (List.mem_filter.mpr ⟨nw_2_170, rfl⟩) (fun q => ?_)
        show V G Γ 7 4 24 hE3 32 [(0, .ref p0), (1, .int p1), (2, .int p2), (3, .int p3), (4, .int p4), (5, .int p5)] [.ref q]
        refine V_astore (L' := [(0, .ref p0), (1, .int p1), (2, .int p2), (3, .int p3), (4, .int p4), (5, .int p5), (6, .ref q)]) hC dL_deed_32 (by decide) [1, 2, 3, 4, 5, 6, 0] rfl ?_
        refine V_sipush (v := (-20001)) hC dL_deed_34 (by decide) ?_
        exact V_iret hC hQ rfl rfl ⟨by decide, by decide⟩ dL_deed_37 ⟨_, rfl, hq⟩
      · have hq := k2 rfl
        refine VX_catch (E := "java/lang/UnsupportedOperationException") hC [(0, 31, 32, 121), (0, 31, 38, 123)] (0, 31, 44, 125) [(0, 31, 50, 127), (0, 31, 56, 129)] rfl (List.forall_mem_cons.mpr ⟨⟨by decide, "java/lang/IndexOutOfBoundsException", aw_2_73, by decide⟩, (List.forall_mem_cons.mpr ⟨⟨by decide, "java/lang/IllegalArgumentException", aw_2_153, by decide⟩, (fun _ h9 => nomatch h9)⟩)⟩) rfl (by decide) aw_2_154 (List.mem_filter.mpr ⟨nw_4_45, rfl⟩) (fun q => ?_)
        show V G Γ 7 4 24 hE3 44 [(0, .ref p0), (1, .int p1), (2, .int p2), (3, .int p3), (4, .int p4), (5, .int p5)] [.ref q]
        refine V_astore (L' := [(0, .ref p0), (1, .int p1), (2, .int p2), (3, .int p3), (4, .int p4), (5, .int p5), (6, .ref q)]) hC dL_deed_44 (by decide) [1, 2, 3, 4, 5, 6, 0] rfl ?_
        refine V_sipush (v := (-20004)) hC dL_deed_46 (by decide) ?_
        exact V_iret hC hQ rfl rfl ⟨by decide, by decide⟩ dL_deed_49 ⟨_, rfl, hq⟩
      · have hq := k3 rfl
        refine VX_catch (E := "java/util/NoSuchElementException") hC [(0, 31, 32, 121), (0, 31, 38, 123), (0, 31, 44, 125)] (0, 31, 50, 127) [(0, 31, 56, 129)] rfl (List.forall_mem_cons.mpr ⟨⟨by decide, "java/lang/IndexOutOfBoundsException", aw_2_73, by decide⟩, (List.forall_mem_cons.mpr ⟨⟨by decide, "java/lang/IllegalArgumentException", aw_2_153, by decide⟩, (List.forall_mem_cons.mpr ⟨⟨by decide, "java/lang/UnsupportedOperationException", aw_2_154, by decide⟩, (fun _ h9 => nomatch h9)⟩)⟩)⟩) rfl (by decide) aw_2_155 (List.mem_filter.mpr ⟨nw_4_102, rfl⟩) (fun q => ?_)
        show V G Γ 7 4 24 hE3 50 [(0, .ref p0), (1, .int p1), (2, .int p2), (3, .int p3), (4, .int p4), (5, .int p5)] [.ref q]
        refine V_astore (L' := [(0, .ref p0), (1, .int p1), (2, .int p2), (3, .int p3), (4, .int p4), (5, .int p5), (6, .ref q)]) hC dL_deed_50 (by decide) [1, 2, 3, 4, 5, 6, 0] rfl ?_
        refine V_sipush (v := (-20005)) hC dL_deed_52 (by decide) ?_
        exact V_iret hC hQ rfl rfl ⟨by decide, by decide⟩ dL_deed_55 ⟨_, rfl, hq⟩
    show V G Γ 7 4 24 h2 31 [(0, .ref p0), (1, .int p1), (2, .int p2), (3, .int p3), (4, .int p4), (5, .int p5)] [.int r1]
    exact V_iret hC hQ rfl rfl ⟨by decide, by decide⟩ dL_deed_31 ⟨_, rfl, hq⟩
  · have hq := hq.2 hc
    refine V_aload_n hC dL_deed_6 0 rfl ?_
    refine V_iload_n hC dL_deed_7 1 rfl ?_
    refine V_iload_n hC dL_deed_8 2 rfl ?_
    refine V_iload_n hC dL_deed_9 3 rfl ?_
    refine V_iload hC dL_deed_10 4 rfl ?_
    refine V_iload hC dL_deed_12 5 rfl ?_
    refine clS_L_done hG hC ss_L_114 ⟨by decide, by decide⟩ (Nat.le_of_ble_eq_true rfl) ⟨by decide, by decide⟩ dL_deed_14 hq ?_ (fun r4 h5 hq => ?_)
    · intro E hE6 hx
      obtain ⟨k0, k1, k2, k3, k4, ho⟩ := hx
      rcases ho with rfl | rfl | rfl | rfl | rfl
      · have hq := k0 rfl
        refine VX_catch (E := "java/lang/IllegalArgumentException") hC [(0, 31, 32, 121)] (0, 31, 38, 123) [(0, 31, 44, 125), (0, 31, 50, 127), (0, 31, 56, 129)] rfl (List.forall_mem_cons.mpr ⟨⟨by decide, "java/lang/IndexOutOfBoundsException", aw_2_73, by decide⟩, (fun _ h9 => nomatch h9)⟩) rfl (by decide) aw_2_153 (List.mem_filter.mpr ⟨nw_2_187, rfl⟩) (fun q => ?_)
        show V G Γ 7 5 34 hE6 38 [(0, .ref p0), (1, .int p1), (2, .int p2), (3, .int p3), (4, .int p4), (5, .int p5)] [.ref q]
        refine V_astore (L' := [(0, .ref p0), (1, .int p1), (2, .int p2), (3, .int p3), (4, .int p4), (5, .int p5), (6, .ref q)]) hC dL_deed_38 (by decide) [1, 2, 3, 4, 5, 6, 0] rfl ?_
        refine V_sipush (v := (-20002)) hC dL_deed_40 (by decide) ?_
        exact V_iret hC hQ rfl rfl ⟨by decide, by decide⟩ dL_deed_43 ⟨_, rfl, hq⟩
      · have hq := k1 rfl
        refine VX_catch (E := "java/lang/IllegalStateException") hC [(0, 31, 32, 121), (0, 31, 38, 123), (0, 31, 44, 125), (0, 31, 50, 127)] (0, 31, 56, 129) [] rfl (List.forall_mem_cons.mpr ⟨⟨by decide, "java/lang/IndexOutOfBoundsException", aw_2_73, by decide⟩, (List.forall_mem_cons.mpr ⟨⟨by decide, "java/lang/IllegalArgumentException", aw_2_153, by decide⟩, (List.forall_mem_cons.mpr ⟨⟨by decide, "java/lang/UnsupportedOperationException", aw_2_154, by decide⟩, (List.forall_mem_cons.mpr ⟨⟨by decide, "java/util/NoSuchElementException", aw_2_155, by decide⟩, (fun _ h9 => nomatch h9)⟩)⟩)⟩)⟩) rfl (by decide) aw_2_156 (List.mem_filter.mpr ⟨nw_2_215, rfl⟩) (fun q => ?_)
        show V G Γ 7 5 34 hE6 56 [(0, .ref p0), (1, .int p1), (2, .int p2), (3, .int p3), (4, .int p4), (5, .int p5)] [.ref q]
        refine V_astore (L' := [(0, .ref p0), (1, .int p1), (2, .int p2), (3, .int p3), (4, .int p4), (5, .int p5), (6, .ref q)]) hC dL_deed_56 (by decide) [1, 2, 3, 4, 5, 6, 0] rfl ?_
        refine V_sipush (v := (-20003)) hC dL_deed_58 (by decide) ?_
        exact V_iret hC hQ rfl rfl ⟨by decide, by decide⟩ dL_deed_61 ⟨_, rfl, hq⟩
      · have hq := k2 rfl
        refine VX_catch (E := "java/lang/IndexOutOfBoundsException") hC [] (0, 31, 32, 121) [(0, 31, 38, 123), (0, 31, 44, 125), (0, 31, 50, 127), (0, 31, 56, 129)] rfl (fun _ h9 => nomatch h9) rfl (by decide) aw_2_73 (List.mem_filter.mpr ⟨nw_2_170, rfl⟩) (fun q => ?_)
        show V G Γ 7 5 34 hE6 32 [(0, .ref p0), (1, .int p1), (2, .int p2), (3, .int p3), (4, .int p4), (5, .int p5)] [.ref q]
        refine V_astore (L' := [(0, .ref p0), (1, .int p1), (2, .int p2), (3, .int p3), (4, .int p4), (5, .int p5), (6, .ref q)]) hC dL_deed_32 (by decide) [1, 2, 3, 4, 5, 6, 0] rfl ?_
        refine V_sipush (v := (-20001)) hC dL_deed_34 (by decide) ?_
        exact V_iret hC hQ rfl rfl ⟨by decide, by decide⟩ dL_deed_37 ⟨_, rfl, hq⟩
      · have hq := k3 rfl
        refine VX_catch (E := "java/lang/UnsupportedOperationException") hC [(0, 31, 32, 121), (0, 31, 38, 123)] (0, 31, 44, 125) [(0, 31, 50, 127), (0, 31, 56, 129)] rfl (List.forall_mem_cons.mpr ⟨⟨by decide, "java/lang/IndexOutOfBoundsException", aw_2_73, by decide⟩, (List.forall_mem_cons.mpr ⟨⟨by decide, "java/lang/IllegalArgumentException", aw_2_153, by decide⟩, (fun _ h9 => nomatch h9)⟩)⟩) rfl (by decide) aw_2_154 (List.mem_filter.mpr ⟨nw_4_45, rfl⟩) (fun q => ?_)
        show V G Γ 7 5 34 hE6 44 [(0, .ref p0), (1, .int p1), (2, .int p2), (3, .int p3), (4, .int p4), (5, .int p5)] [.ref q]
        refine V_astore (L' := [(0, .ref p0), (1, .int p1), (2, .int p2), (3, .int p3), (4, .int p4), (5, .int p5), (6, .ref q)]) hC dL_deed_44 (by decide) [1, 2, 3, 4, 5, 6, 0] rfl ?_
        refine V_sipush (v := (-20004)) hC dL_deed_46 (by decide) ?_
        exact V_iret hC hQ rfl rfl ⟨by decide, by decide⟩ dL_deed_49 ⟨_, rfl, hq⟩
      · have hq := k4 rfl
        refine VX_catch (E := "java/util/NoSuchElementException") hC [(0, 31, 32, 121), (0, 31, 38, 123), (0, 31, 44, 125)] (0, 31, 50, 127) [(0, 31, 56, 129)] rfl (List.forall_mem_cons.mpr ⟨⟨by decide, "java/lang/IndexOutOfBoundsException", aw_2_73, by decide⟩, (List.forall_mem_cons.mpr ⟨⟨by decide, "java/lang/IllegalArgumentException", aw_2_153, by decide⟩, (List.forall_mem_cons.mpr ⟨⟨by decide, "java/lang/UnsupportedOperationException", aw_2_154, by decide⟩, (fun _ h9 => nomatch h9)⟩)⟩)⟩) rfl (by decide) aw_2_155 (List.mem_filter.mpr ⟨nw_4_102, rfl⟩) (fun q => ?_)
        show V G Γ 7 5 34 hE6 50 [(0, .ref p0), (1, .int p1), (2, .int p2), (3, .int p3), (4, .int p4), (5, .int p5)] [.ref q]
        refine V_astore (L' := [(0, .ref p0), (1, .int p1), (2, .int p2), (3, .int p3), (4, .int p4), (5, .int p5), (6, .ref q)]) hC dL_deed_50 (by decide) [1, 2, 3, 4, 5, 6, 0] rfl ?_
        refine V_sipush (v := (-20005)) hC dL_deed_52 (by decide) ?_
        exact V_iret hC hQ rfl rfl ⟨by decide, by decide⟩ dL_deed_55 ⟨_, rfl, hq⟩
    show V G Γ 7 5 34 h5 17 [(0, .ref p0), (1, .int p1), (2, .int p2), (3, .int p3), (4, .int p4), (5, .int p5)] [.int r4]
    refine V_goto (tgt := 31) hC dL_deed_17 (by decide) ?_
    exact V_iret hC hQ rfl rfl ⟨by decide, by decide⟩ dL_deed_31 ⟨_, rfl, hq⟩
theorem clSX_L_deed {G : Gx} (hG : GOK G) {Γ : Cx} {own : String} {cc : ByteArray} {nL fr lo mc ms cells slots pc : Nat} {hh : List (Nat × Nat × Nat × Nat)} {h : hw} {L : List (Nat × Value)} {rest : List Value} (hC : COK G Γ own cc nL fr lo mc ms hh) {idx : Nat} (hs : SSX own idx yL_deed cL_deed 7 (some .int) [(0, 31, 32, 121), (0, 31, 38, 123), (0, 31, 44, 125), (0, 31, 50, 127), (0, 31, 56, 129)] 6) {p0 : Nat} {p1 : Int32} {p2 : Int32} {p3 : Int32} {p4 : Int32} {p5 : Int32} (hR : 20 + 1 ≤ fr ∧ 8 + (7 + 11) + 510 ≤ lo) (hw8 : (rest.map fun v => v.category).sum ≤ 8) (hcs : cells + 5 ≤ mc ∧ slots + 34 ≤ ms) (hdg : decode cc pc = .ok (.invokestatic idx, 3)) {post : Int32 → hw → Prop} (hq : wp_L_deed G p0 p1 p2 p3 p4 p5 h post) (kk : ∀ (r : Int32) (h1 : hw), post r h1 → V G Γ nL (cells + 5) (slots + 34) h1 (pc + 3) L (.int r :: rest)) : V G Γ nL cells slots h pc L (.int p5 :: .int p4 :: .int p3 :: .int p2 :: .int p1 :: .ref p0 :: rest) :=
  V_callSX (As := [.ref p0, .int p1, .int p2, .int p3, .int p4, .int p5]) hC (ct_L_deed hG p0 p1 p2 p3 p4 p5 h post hq) hs rfl hR hw8 hcs hdg (fun E h1 z => z.elim) (fun v h1 z => by obtain ⟨r, rfl, hz⟩ := z; exact kk r h1 hz)
set_option maxRecDepth 100000 in
set_option maxHeartbeats 4000000 in
theorem ct_L_ask {G : Gx} (hG : GOK G) (p0 : Nat) (p1 : Int32) (p2 : Int32) (p3 : Int32) (h0 : hw) (post : Int32 → hw → Prop) (hq : wp_L_ask G p0 p1 p2 p3 h0 post) : CT G yL_ask cL_ask 4 (some .int) 21 536 5 34 [.ref p0, .int p1, .int p2, .int p3] h0 (fun v h1 => ∃ r : Int32, v = some (.int r) ∧ post r h1) (fun E h1 => False) := by
  refine CT_of hG (by decide) (Nat.le_of_ble_eq_true rfl) (fun Γ hC hQ hN => ?_)
  have hC : COK G Γ "BandplanLaw" cL_ask 4 21 536 5 34 [] := hC
  unfold wp_L_ask at hq
  show V G Γ 4 0 0 h0 0 [(0, .ref p0), (1, .int p1), (2, .int p2), (3, .int p3)] []
  refine V_aload_n hC dL_ask_0 0 rfl ?_
  refine V_iload_n hC dL_ask_1 1 rfl ?_
  refine V_iload_n hC dL_ask_2 2 rfl ?_
  refine V_iload_n hC dL_ask_3 3 rfl ?_
  refine V_iconst (v := 0) hC dL_ask_4 (by decide) ?_
  refine V_iconst (v := 0) hC dL_ask_5 (by decide) ?_
  refine clSX_L_deed hG hC ssx_L_131 ⟨by decide, by decide⟩ (Nat.le_of_ble_eq_true rfl) ⟨by decide, by decide⟩ dL_ask_6 hq (fun r1 h2 hq => ?_)
  show V G Γ 4 5 34 h2 9 [(0, .ref p0), (1, .int p1), (2, .int p2), (3, .int p3)] [.int r1]
  exact V_iret hC hQ rfl rfl ⟨by decide, by decide⟩ dL_ask_9 ⟨_, rfl, hq⟩
theorem clS_L_ask {G : Gx} (hG : GOK G) {Γ : Cx} {own : String} {cc : ByteArray} {nL fr lo mc ms cells slots pc : Nat} {hh : List (Nat × Nat × Nat × Nat)} {h : hw} {L : List (Nat × Value)} {rest : List Value} (hC : COK G Γ own cc nL fr lo mc ms hh) {idx : Nat} (hs : SS own idx yL_ask cL_ask 4 (some .int) 4) {p0 : Nat} {p1 : Int32} {p2 : Int32} {p3 : Int32} (hR : 21 + 1 ≤ fr ∧ 8 + (4 + 11) + 536 ≤ lo) (hw8 : (rest.map fun v => v.category).sum ≤ 8) (hcs : cells + 5 ≤ mc ∧ slots + 34 ≤ ms) (hdg : decode cc pc = .ok (.invokestatic idx, 3)) {post : Int32 → hw → Prop} (hq : wp_L_ask G p0 p1 p2 p3 h post) (kk : ∀ (r : Int32) (h1 : hw) , post r h1 → V G Γ nL (cells + 5) (slots + 34) h1 (pc + 3) L (.int r :: rest)) : V G Γ nL cells slots h pc L (.int p3 :: .int p2 :: .int p1 :: .ref p0 :: rest) :=
  V_callS (As := [.ref p0, .int p1, .int p2, .int p3]) hC (ct_L_ask hG p0 p1 p2 p3 h post hq) hs rfl hR hw8 hcs hdg (fun E h1 z => z.elim) (fun v h1 z => by obtain ⟨r, rfl, hz⟩ := z; exact kk r h1 hz)
