set_option maxRecDepth 100000 in
set_option maxHeartbeats 4000000 in
theorem ct_X12_meanLevel {G : Gx} (hG : GOK G) (p0 : Nat) (h0 : hw) (post : UInt64 → hw → Prop) (hq : wp_X12_meanLevel G p0 h0 post) : CT G yX12_meanLevel cX12_meanLevel 3 (some .double) 4 115 0 0 [.ref p0] h0 (fun v h1 => ∃ r : UInt64, v = some (.double r) ∧ post r h1) (fun E h1 => False) := by
  refine CT_of hG (by decide) (Nat.le_of_ble_eq_true rfl) (fun Γ hC hQ hN => ?_)
  have hC : COK G Γ "BandplanModel" cX12_meanLevel 3 4 115 0 0 [] := hC
  unfold wp_X12_meanLevel at hq
  show V G Γ 3 0 0 h0 0 [(0, .ref p0)] []
  refine V_aload_n hC dX12_meanLevel_0 0 rfl ?_
  refine V_iconst (v := 0) hC dX12_meanLevel_1 (by decide) ?_
  refine U_putO hC (by decide) fl_X12_98 fin_X12_0 rfl rfl dX12_meanLevel_2 hq (fun h1 hq => ?_)
  refine V_iconst (v := 0) hC dX12_meanLevel_5 (by decide) ?_
  refine V_istore_n (L' := [(0, .ref p0), (1, .int 0)]) hC dX12_meanLevel_6 rfl (by decide) [1, 0] rfl ?_
  refine V_iconst (v := 0) hC dX12_meanLevel_7 (by decide) ?_
  refine V_istore_n (L' := [(0, .ref p0), (1, .int 0), (2, .int 0)]) hC dX12_meanLevel_8 rfl (by decide) [1, 2, 0] rfl ?_
  have hq := hq (fun (x1_2 : Int32) (x2_3 : Int32) => V G Γ 3 0 0 h1 9 [(0, .ref p0), (1, .int x1_2), (2, .int x2_3)] []) (by
    intro x1_2 x2_3 hq
    show V G Γ 3 0 0 h1 9 [(0, .ref p0), (1, .int x1_2), (2, .int x2_3)] []
    refine V_iload_n hC dX12_meanLevel_9 2 rfl ?_
    refine V_aload_n hC dX12_meanLevel_10 0 rfl ?_
    refine U_getI hC fl_X12_108 dX12_meanLevel_11 hq (fun v4 hq => ?_)
    refine V_icmp_ge (tgt := 45) hC dX12_meanLevel_14 (by decide) (fun hc => ?_) (fun hc => ?_)
    · have hq := hq.1 hc
      refine V_aload_n hC dX12_meanLevel_45 0 rfl ?_
      refine V_aload_n hC dX12_meanLevel_46 0 rfl ?_
      obtain ⟨hz, hq⟩ := hq
      refine clV_X12_on hG hC sv_X12_266 ⟨by decide, by decide⟩ (Nat.le_of_ble_eq_true rfl) ⟨by decide, by decide⟩ dX12_meanLevel_47 hz hq (fun r5 hq => ?_)
      show V G Γ 3 0 0 h1 50 [(0, .ref p0), (1, .int x1_2), (2, .int x2_3)] [.int r5, .ref p0]
      have hq := hq (fun (t6 : Nat) (t7 : Int32) => V G Γ 3 0 0 h1 58 [(0, .ref p0), (1, .int x1_2)] [.int t7, .ref t6]) (by
        intro t6 t7 hq
        show V G Γ 3 0 0 h1 58 [(0, .ref p0), (1, .int x1_2)] [.int t7, .ref t6]
        refine V_iconst (v := 1) hC dX12_meanLevel_58 (by decide) ?_
        obtain ⟨hz, hq⟩ := hq
        refine clV_X12_fails hG hC sv_X12_115 ⟨by decide, by decide⟩ (Nat.le_of_ble_eq_true rfl) ⟨by decide, by decide⟩ dX12_meanLevel_59 hz hq (fun r8 h9 hq => ?_)
        show V G Γ 3 0 0 h9 62 [(0, .ref p0), (1, .int x1_2)] [.int r8]
        refine V_if_eq (tgt := 69) hC dX12_meanLevel_62 (by decide) (fun hc => ?_) (fun hc => ?_)
        · have hq := hq.1 hc
          refine V_iload_n hC dX12_meanLevel_69 1 rfl ?_
          refine V_i2d hC dX12_meanLevel_70 ?_
          refine V_aload_n hC dX12_meanLevel_71 0 rfl ?_
          obtain ⟨hz, hq⟩ := hq
          refine clV_X12_on hG hC sv_X12_266 ⟨by decide, by decide⟩ (Nat.le_of_ble_eq_true rfl) ⟨by decide, by decide⟩ dX12_meanLevel_72 hz hq (fun r10 hq => ?_)
          show V G Γ 3 0 0 h9 75 [(0, .ref p0), (1, .int x1_2)] [.int r10, .double (FP.i2d x1_2)]
          refine V_i2d hC dX12_meanLevel_75 ?_
          obtain ⟨hz, hq⟩ := hq
          refine V_ddiv hC dX12_meanLevel_76 hz ?_
          exact V_dret hC hQ ⟨by decide, by decide⟩ dX12_meanLevel_77 ⟨_, rfl, hq⟩
        · have hq := hq.2 hc
          refine V_dconst0 hC dX12_meanLevel_65 ?_
          refine V_goto (tgt := 77) hC dX12_meanLevel_66 (by decide) ?_
          exact V_dret hC hQ ⟨by decide, by decide⟩ dX12_meanLevel_77 ⟨_, rfl, hq⟩)
      refine V_if_ne (tgt := 57) hC dX12_meanLevel_50 (by decide) (fun hc => ?_) (fun hc => ?_)
      · have hq := hq.1 hc
        refine V_iconst (v := 0) hC dX12_meanLevel_57 (by decide) ?_
        refine V_sub [0, 1] rfl ?_
        exact hq
      · have hq := hq.2 hc
        refine V_iconst (v := 1) hC dX12_meanLevel_53 (by decide) ?_
        refine V_goto (tgt := 58) hC dX12_meanLevel_54 (by decide) ?_
        refine V_sub [0, 1] rfl ?_
        exact hq
    · have hq := hq.2 hc
      refine V_iload_n hC dX12_meanLevel_17 1 rfl ?_
      refine V_aload_n hC dX12_meanLevel_18 0 rfl ?_
      refine U_getR hC fl_X12_39 dX12_meanLevel_19 hq (fun v11 hq => ?_)
      refine V_iload_n hC dX12_meanLevel_22 2 rfl ?_
      refine U_ldI hC dX12_meanLevel_23 hq (fun v12 hq => ?_)
      refine V_iconst (v := (-1)) hC dX12_meanLevel_24 (by decide) ?_
      have hq := hq (fun (t13 : Int32) (t14 : Int32) => V G Γ 3 0 0 h1 37 [(0, .ref p0), (2, .int x2_3)] [.int t14, .int t13]) (by
        intro t13 t14 hq
        show V G Γ 3 0 0 h1 37 [(0, .ref p0), (2, .int x2_3)] [.int t14, .int t13]
        refine V_iadd hC dX12_meanLevel_37 ?_
        refine V_istore_n (L' := [(0, .ref p0), (1, .int (t13 + t14)), (2, .int x2_3)]) hC dX12_meanLevel_38 rfl (by decide) [1, 0, 2] rfl ?_
        refine V_iinc (j := 2) (v := (x2_3 + 1)) (L' := [(0, .ref p0), (1, .int (t13 + t14)), (2, .int (x2_3 + 1))]) hC dX12_meanLevel_39 rfl rfl (by decide) [1, 2, 0] rfl ?_
        refine V_goto (tgt := 9) hC dX12_meanLevel_42 (by decide) ?_
        exact hq)
      refine V_icmp_ne (tgt := 32) hC dX12_meanLevel_25 (by decide) (fun hc => ?_) (fun hc => ?_)
      · have hq := hq.1 hc
        refine V_aload_n hC dX12_meanLevel_32 0 rfl ?_
        refine V_iload_n hC dX12_meanLevel_33 2 rfl ?_
        obtain ⟨hz, hq⟩ := hq
        refine clV_X12_levelOf hG hC sv_X12_156 ⟨by decide, by decide⟩ (Nat.le_of_ble_eq_true rfl) ⟨by decide, by decide⟩ dX12_meanLevel_34 hz hq (fun r15 hq => ?_)
        show V G Γ 3 0 0 h1 37 [(0, .ref p0), (1, .int x1_2), (2, .int x2_3)] [.int r15, .int x1_2]
        refine V_sub [0, 2] rfl ?_
        exact hq
      · have hq := hq.2 hc
        refine V_iconst (v := 0) hC dX12_meanLevel_28 (by decide) ?_
        refine V_goto (tgt := 37) hC dX12_meanLevel_29 (by decide) ?_
        refine V_sub [0, 2] rfl ?_
        exact hq)
  exact hq
theorem clV_X12_meanLevel {G : Gx} (hG : GOK G) {Γ : Cx} {own : String} {cc : ByteArray} {nL fr lo mc ms cells slots pc : Nat} {hh : List (Nat × Nat × Nat × Nat)} {h : hw} {L : List (Nat × Value)} {rest : List Value} (hC : COK G Γ own cc nL fr lo mc ms hh) {idx : Nat} (hs : SV own idx yX12_meanLevel cX12_meanLevel 3 (some .double) 0) {p0 : Nat} (hR : 4 + 1 ≤ fr ∧ 8 + (3 + 11) + 115 ≤ lo) (hw8 : (rest.map fun v => v.category).sum ≤ 8) (hcs : cells + 0 ≤ mc ∧ slots + 0 ≤ ms) (hdg : decode cc pc = .ok (.invokevirtual idx, 3)) (ho : isO h p0 12) {post : UInt64 → hw → Prop} (hq : wp_X12_meanLevel G p0 h post) (kk : ∀ (r : UInt64) (h1 : hw) , post r h1 → V G Γ nL (cells + 0) (slots + 0) h1 (pc + 3) L (.double r :: rest)) : V G Γ nL cells slots h pc L (.ref p0 :: rest) :=
  V_callV (As := []) (r9 := (RX12, TX12, 36)) hC (ct_X12_meanLevel hG p0 h post hq) hs ho rfl rfl rfl hR hw8 hcs hdg (fun E h1 z => z.elim) (fun v h1 z => by obtain ⟨r, rfl, hz⟩ := z; exact kk r h1 hz)
set_option maxRecDepth 100000 in
set_option maxHeartbeats 4000000 in
theorem ct_X12_isSound {G : Gx} (hG : GOK G) (p0 : Nat) (h0 : hw) (post : Int32 → hw → Prop) (hq : wp_X12_isSound G p0 h0 post) : CT G yX12_isSound cX12_isSound 1 (some .boolean) 1 30 0 0 [.ref p0] h0 (fun v h1 => ∃ r : Int32, v = some (.int r) ∧ post r h1) (fun E h1 => False) := by
  refine CT_of hG (by decide) (Nat.le_of_ble_eq_true rfl) (fun Γ hC hQ hN => ?_)
  have hC : COK G Γ "BandplanModel" cX12_isSound 1 1 30 0 0 [] := hC
  unfold wp_X12_isSound at hq
  show V G Γ 1 0 0 h0 0 [(0, .ref p0)] []
  refine V_aload_n hC dX12_isSound_0 0 rfl ?_
  refine V_iconst (v := 0) hC dX12_isSound_1 (by decide) ?_
  refine U_putO hC (by decide) fl_X12_98 fin_X12_0 rfl rfl dX12_isSound_2 hq (fun h1 hq => ?_)
  refine V_iconst (v := 1) hC dX12_isSound_5 (by decide) ?_
  exact V_iret hC hQ rfl rfl ⟨by decide, by decide⟩ dX12_isSound_6 ⟨_, rfl, hq⟩
theorem clV_X12_isSound {G : Gx} (hG : GOK G) {Γ : Cx} {own : String} {cc : ByteArray} {nL fr lo mc ms cells slots pc : Nat} {hh : List (Nat × Nat × Nat × Nat)} {h : hw} {L : List (Nat × Value)} {rest : List Value} (hC : COK G Γ own cc nL fr lo mc ms hh) {idx : Nat} (hs : SV own idx yX12_isSound cX12_isSound 1 (some .boolean) 0) {p0 : Nat} (hR : 1 + 1 ≤ fr ∧ 8 + (1 + 11) + 30 ≤ lo) (hw8 : (rest.map fun v => v.category).sum ≤ 8) (hcs : cells + 0 ≤ mc ∧ slots + 0 ≤ ms) (hdg : decode cc pc = .ok (.invokevirtual idx, 3)) (ho : isO h p0 12) {post : Int32 → hw → Prop} (hq : wp_X12_isSound G p0 h post) (kk : ∀ (r : Int32) (h1 : hw) , post r h1 → V G Γ nL (cells + 0) (slots + 0) h1 (pc + 3) L (.int r :: rest)) : V G Γ nL cells slots h pc L (.ref p0 :: rest) :=
  V_callV (As := []) (r9 := (RX12, TX12, 36)) hC (ct_X12_isSound hG p0 h post hq) hs ho rfl rfl rfl hR hw8 hcs hdg (fun E h1 z => z.elim) (fun v h1 z => by obtain ⟨r, rfl, hz⟩ := z; exact kk r h1 hz)
set_option maxRecDepth 100000 in
set_option maxHeartbeats 4000000 in
theorem ct_L_setGround {G : Gx} (hG : GOK G) (p0 : Nat) (p1 : Int32) (p2 : Int32) (p3 : Int32) (p4 : Nat) (h0 : hw) (post : Int32 → hw → Prop) (hq : wp_L_setGround G p0 p1 p2 p3 p4 h0 post) : CTW G yL_setGround cL_setGround 6 (some .int) [(0, 12, 15, 13), (0, 12, 19, 15), (0, 12, 23, 17)] 8 200 3 18 [.ref p0, .int p1, .int p2, .int p3, .ref p4] h0 (fun v h1 => ∃ r : Int32, v = some (.int r) ∧ post r h1) (fun E h1 => False) := by
  refine CTW_of hG (by decide) (Nat.le_of_ble_eq_true rfl) (fun Γ hC hQ => ?_)
  have hC : COK G Γ "BandplanLaw" cL_setGround 6 8 200 3 18 [(0, 12, 15, 13), (0, 12, 19, 15), (0, 12, 23, 17)] := hC
  unfold wp_L_setGround at hq
  show V G Γ 6 0 0 h0 0 [(0, .ref p0), (1, .int p1), (2, .int p2), (3, .int p3), (4, .ref p4)] []
  refine V_aload hC dL_setGround_0 4 rfl ?_
  refine V_iconst (v := 0) hC dL_setGround_2 (by decide) ?_
  refine V_aload_n hC dL_setGround_3 0 rfl ?_
  refine V_iload_n hC dL_setGround_4 1 rfl ?_
  refine V_iload_n hC dL_setGround_5 2 rfl ?_
  refine V_iload_n hC dL_setGround_6 3 rfl ?_
  obtain ⟨hz, hq⟩ := hq
  refine clV_X11_setGround hG hC sv_L_7 ⟨by decide, by decide⟩ (Nat.le_of_ble_eq_true rfl) ⟨by decide, by decide⟩ dL_setGround_7 hz hq ?_ (fun r1 h2 hq => ?_)
  · intro E hE3 hx
    obtain ⟨k0, k1, k2, ho⟩ := hx
    rcases ho with rfl | rfl | rfl
    · have hq := k0 rfl
      refine VX_catch (E := "java/lang/IllegalArgumentException") hC [(0, 12, 15, 13)] (0, 12, 19, 15) [(0, 12, 23, 17)] rfl (List.forall_mem_cons.mpr ⟨⟨by decide, "java/lang/IndexOutOfBoundsException", aw_2_164, by decide⟩, (fun _ h9 => nomatch h9)⟩) rfl (by decide) aw_3_4 (List.mem_filter.mpr ⟨nw_3_33, rfl⟩) (fun q => ?_)
      show V G Γ 6 3 18 hE3 19 [(0, .ref p0), (1, .int p1), (2, .int p2), (3, .int p3), (4, .ref p4)] [.ref q]
      refine V_astore (L' := [(0, .ref p0), (1, .int p1), (2, .int p2), (3, .int p3), (4, .ref p4), (5, .ref q)]) hC dL_setGround_19 (by decide) [1, 2, 3, 4, 5, 0] rfl ?_
      refine V_iconst (v := 2) hC dL_setGround_21 (by decide) ?_
      exact V_iret hC hQ rfl rfl ⟨by decide, by decide⟩ dL_setGround_22 ⟨_, rfl, hq⟩
    · have hq := k1 rfl
      refine VX_catch (E := "java/lang/IllegalStateException") hC [(0, 12, 15, 13), (0, 12, 19, 15)] (0, 12, 23, 17) [] rfl (List.forall_mem_cons.mpr ⟨⟨by decide, "java/lang/IndexOutOfBoundsException", aw_2_164, by decide⟩, (List.forall_mem_cons.mpr ⟨⟨by decide, "java/lang/IllegalArgumentException", aw_3_4, by decide⟩, (fun _ h9 => nomatch h9)⟩)⟩) rfl (by decide) aw_3_5 (List.mem_filter.mpr ⟨nw_3_57, rfl⟩) (fun q => ?_)
      show V G Γ 6 3 18 hE3 23 [(0, .ref p0), (1, .int p1), (2, .int p2), (3, .int p3), (4, .ref p4)] [.ref q]
      refine V_astore (L' := [(0, .ref p0), (1, .int p1), (2, .int p2), (3, .int p3), (4, .ref p4), (5, .ref q)]) hC dL_setGround_23 (by decide) [1, 2, 3, 4, 5, 0] rfl ?_
      refine V_iconst (v := 3) hC dL_setGround_25 (by decide) ?_
      exact V_iret hC hQ rfl rfl ⟨by decide, by decide⟩ dL_setGround_26 ⟨_, rfl, hq⟩
    · have hq := k2 rfl
      refine VX_catch (E := "java/lang/IndexOutOfBoundsException") hC [] (0, 12, 15, 13) [(0, 12, 19, 15), (0, 12, 23, 17)] rfl (fun _ h9 => nomatch h9) rfl (by decide) aw_2_164 (List.mem_filter.mpr ⟨nw_3_16, rfl⟩) (fun q => ?_)
      show V G Γ 6 3 18 hE3 15 [(0, .ref p0), (1, .int p1), (2, .int p2), (3, .int p3), (4, .ref p4)] [.ref q]
      refine V_astore (L' := [(0, .ref p0), (1, .int p1), (2, .int p2), (3, .int p3), (4, .ref p4), (5, .ref q)]) hC dL_setGround_15 (by decide) [1, 2, 3, 4, 5, 0] rfl ?_
      refine V_iconst (v := 1) hC dL_setGround_17 (by decide) ?_
      exact V_iret hC hQ rfl rfl ⟨by decide, by decide⟩ dL_setGround_18 ⟨_, rfl, hq⟩
  show V G Γ 6 3 18 h2 10 [(0, .ref p0), (1, .int p1), (2, .int p2), (3, .int p3), (4, .ref p4)] [.int r1, .int 0, .ref p4]
  refine V_i2l hC dL_setGround_10 ?_
  refine U_stJ hC dL_setGround_11 hq (fun h4 hq => ?_)
  refine V_goto (tgt := 27) hC dL_setGround_12 (by decide) ?_
  refine V_iconst (v := 0) hC dL_setGround_27 (by decide) ?_
  exact V_iret hC hQ rfl rfl ⟨by decide, by decide⟩ dL_setGround_28 ⟨_, rfl, hq⟩
theorem clSX_L_setGround {G : Gx} (hG : GOK G) {Γ : Cx} {own : String} {cc : ByteArray} {nL fr lo mc ms cells slots pc : Nat} {hh : List (Nat × Nat × Nat × Nat)} {h : hw} {L : List (Nat × Value)} {rest : List Value} (hC : COK G Γ own cc nL fr lo mc ms hh) {idx : Nat} (hs : SSX own idx yL_setGround cL_setGround 6 (some .int) [(0, 12, 15, 13), (0, 12, 19, 15), (0, 12, 23, 17)] 5) {p0 : Nat} {p1 : Int32} {p2 : Int32} {p3 : Int32} {p4 : Nat} (hR : 8 + 1 ≤ fr ∧ 8 + (6 + 11) + 200 ≤ lo) (hw8 : (rest.map fun v => v.category).sum ≤ 8) (hcs : cells + 3 ≤ mc ∧ slots + 18 ≤ ms) (hdg : decode cc pc = .ok (.invokestatic idx, 3)) {post : Int32 → hw → Prop} (hq : wp_L_setGround G p0 p1 p2 p3 p4 h post) (kk : ∀ (r : Int32) (h1 : hw), post r h1 → V G Γ nL (cells + 3) (slots + 18) h1 (pc + 3) L (.int r :: rest)) : V G Γ nL cells slots h pc L (.ref p4 :: .int p3 :: .int p2 :: .int p1 :: .ref p0 :: rest) :=
  V_callSX (As := [.ref p0, .int p1, .int p2, .int p3, .ref p4]) hC (ct_L_setGround hG p0 p1 p2 p3 p4 h post hq) hs rfl hR hw8 hcs hdg (fun E h1 z => z.elim) (fun v h1 z => by obtain ⟨r, rfl, hz⟩ := z; exact kk r h1 hz)
set_option maxRecDepth 100000 in
set_option maxHeartbeats 4000000 in
theorem ct_L_addSite {G : Gx} (hG : GOK G) (p0 : Nat) (p1 : Int32) (p2 : Int32) (p3 : Int32) (p4 : Nat) (h0 : hw) (post : Int32 → hw → Prop) (hq : wp_L_addSite G p0 p1 p2 p3 p4 h0 post) : CTW G yL_addSite cL_addSite 6 (some .int) [(0, 12, 15, 13), (0, 12, 19, 15), (0, 12, 23, 17)] 10 235 4 25 [.ref p0, .int p1, .int p2, .int p3, .ref p4] h0 (fun v h1 => ∃ r : Int32, v = some (.int r) ∧ post r h1) (fun E h1 => False) := by
  refine CTW_of hG (by decide) (Nat.le_of_ble_eq_true rfl) (fun Γ hC hQ => ?_)
  have hC : COK G Γ "BandplanLaw" cL_addSite 6 10 235 4 25 [(0, 12, 15, 13), (0, 12, 19, 15), (0, 12, 23, 17)] := hC
  unfold wp_L_addSite at hq
  show V G Γ 6 0 0 h0 0 [(0, .ref p0), (1, .int p1), (2, .int p2), (3, .int p3), (4, .ref p4)] []
  refine V_aload hC dL_addSite_0 4 rfl ?_
  refine V_iconst (v := 0) hC dL_addSite_2 (by decide) ?_
  refine V_aload_n hC dL_addSite_3 0 rfl ?_
  refine V_iload_n hC dL_addSite_4 1 rfl ?_
  refine V_iload_n hC dL_addSite_5 2 rfl ?_
  refine V_iload_n hC dL_addSite_6 3 rfl ?_
  obtain ⟨hz, hq⟩ := hq
  refine clV_X11_addSite hG hC sv_L_19 ⟨by decide, by decide⟩ (Nat.le_of_ble_eq_true rfl) ⟨by decide, by decide⟩ dL_addSite_7 hz hq ?_ (fun r1 h2 hq => ?_)
  · intro E hE3 hx
    obtain ⟨k0, k1, k2, ho⟩ := hx
    rcases ho with rfl | rfl | rfl
    · have hq := k0 rfl
      refine VX_catch (E := "java/lang/IllegalArgumentException") hC [(0, 12, 15, 13)] (0, 12, 19, 15) [(0, 12, 23, 17)] rfl (List.forall_mem_cons.mpr ⟨⟨by decide, "java/lang/IndexOutOfBoundsException", aw_2_164, by decide⟩, (fun _ h9 => nomatch h9)⟩) rfl (by decide) aw_3_4 (List.mem_filter.mpr ⟨nw_3_33, rfl⟩) (fun q => ?_)
      show V G Γ 6 4 25 hE3 19 [(0, .ref p0), (1, .int p1), (2, .int p2), (3, .int p3), (4, .ref p4)] [.ref q]
      refine V_astore (L' := [(0, .ref p0), (1, .int p1), (2, .int p2), (3, .int p3), (4, .ref p4), (5, .ref q)]) hC dL_addSite_19 (by decide) [1, 2, 3, 4, 5, 0] rfl ?_
      refine V_iconst (v := 2) hC dL_addSite_21 (by decide) ?_
      exact V_iret hC hQ rfl rfl ⟨by decide, by decide⟩ dL_addSite_22 ⟨_, rfl, hq⟩
    · have hq := k1 rfl
      refine VX_catch (E := "java/lang/IllegalStateException") hC [(0, 12, 15, 13), (0, 12, 19, 15)] (0, 12, 23, 17) [] rfl (List.forall_mem_cons.mpr ⟨⟨by decide, "java/lang/IndexOutOfBoundsException", aw_2_164, by decide⟩, (List.forall_mem_cons.mpr ⟨⟨by decide, "java/lang/IllegalArgumentException", aw_3_4, by decide⟩, (fun _ h9 => nomatch h9)⟩)⟩) rfl (by decide) aw_3_5 (List.mem_filter.mpr ⟨nw_3_57, rfl⟩) (fun q => ?_)
      show V G Γ 6 4 25 hE3 23 [(0, .ref p0), (1, .int p1), (2, .int p2), (3, .int p3), (4, .ref p4)] [.ref q]
      refine V_astore (L' := [(0, .ref p0), (1, .int p1), (2, .int p2), (3, .int p3), (4, .ref p4), (5, .ref q)]) hC dL_addSite_23 (by decide) [1, 2, 3, 4, 5, 0] rfl ?_
      refine V_iconst (v := 3) hC dL_addSite_25 (by decide) ?_
      exact V_iret hC hQ rfl rfl ⟨by decide, by decide⟩ dL_addSite_26 ⟨_, rfl, hq⟩
    · have hq := k2 rfl
      refine VX_catch (E := "java/lang/IndexOutOfBoundsException") hC [] (0, 12, 15, 13) [(0, 12, 19, 15), (0, 12, 23, 17)] rfl (fun _ h9 => nomatch h9) rfl (by decide) aw_2_164 (List.mem_filter.mpr ⟨nw_3_16, rfl⟩) (fun q => ?_)
      show V G Γ 6 4 25 hE3 15 [(0, .ref p0), (1, .int p1), (2, .int p2), (3, .int p3), (4, .ref p4)] [.ref q]
      refine V_astore (L' := [(0, .ref p0), (1, .int p1), (2, .int p2), (3, .int p3), (4, .ref p4), (5, .ref q)]) hC dL_addSite_15 (by decide) [1, 2, 3, 4, 5, 0] rfl ?_
      refine V_iconst (v := 1) hC dL_addSite_17 (by decide) ?_
      exact V_iret hC hQ rfl rfl ⟨by decide, by decide⟩ dL_addSite_18 ⟨_, rfl, hq⟩
  show V G Γ 6 4 25 h2 10 [(0, .ref p0), (1, .int p1), (2, .int p2), (3, .int p3), (4, .ref p4)] [.int r1, .int 0, .ref p4]
  refine V_i2l hC dL_addSite_10 ?_
  refine U_stJ hC dL_addSite_11 hq (fun h4 hq => ?_)
  refine V_goto (tgt := 27) hC dL_addSite_12 (by decide) ?_
  refine V_iconst (v := 0) hC dL_addSite_27 (by decide) ?_
  exact V_iret hC hQ rfl rfl ⟨by decide, by decide⟩ dL_addSite_28 ⟨_, rfl, hq⟩
theorem clSX_L_addSite {G : Gx} (hG : GOK G) {Γ : Cx} {own : String} {cc : ByteArray} {nL fr lo mc ms cells slots pc : Nat} {hh : List (Nat × Nat × Nat × Nat)} {h : hw} {L : List (Nat × Value)} {rest : List Value} (hC : COK G Γ own cc nL fr lo mc ms hh) {idx : Nat} (hs : SSX own idx yL_addSite cL_addSite 6 (some .int) [(0, 12, 15, 13), (0, 12, 19, 15), (0, 12, 23, 17)] 5) {p0 : Nat} {p1 : Int32} {p2 : Int32} {p3 : Int32} {p4 : Nat} (hR : 10 + 1 ≤ fr ∧ 8 + (6 + 11) + 235 ≤ lo) (hw8 : (rest.map fun v => v.category).sum ≤ 8) (hcs : cells + 4 ≤ mc ∧ slots + 25 ≤ ms) (hdg : decode cc pc = .ok (.invokestatic idx, 3)) {post : Int32 → hw → Prop} (hq : wp_L_addSite G p0 p1 p2 p3 p4 h post) (kk : ∀ (r : Int32) (h1 : hw), post r h1 → V G Γ nL (cells + 4) (slots + 25) h1 (pc + 3) L (.int r :: rest)) : V G Γ nL cells slots h pc L (.ref p4 :: .int p3 :: .int p2 :: .int p1 :: .ref p0 :: rest) :=
  V_callSX (As := [.ref p0, .int p1, .int p2, .int p3, .ref p4]) hC (ct_L_addSite hG p0 p1 p2 p3 p4 h post hq) hs rfl hR hw8 hcs hdg (fun E h1 z => z.elim) (fun v h1 z => by obtain ⟨r, rfl, hz⟩ := z; exact kk r h1 hz)
set_option maxRecDepth 100000 in
set_option maxHeartbeats 4000000 in
theorem ct_L_loss {G : Gx} (hG : GOK G) (p0 : Nat) (p1 : Int32) (p2 : Int32) (p3 : Nat) (h0 : hw) (post : Int32 → hw → Prop) (hq : wp_L_loss G p0 p1 p2 p3 h0 post) : CTW G yL_loss cL_loss 5 (some .int) [(0, 10, 13, 13)] 8 133 2 12 [.ref p0, .int p1, .int p2, .ref p3] h0 (fun v h1 => ∃ r : Int32, v = some (.int r) ∧ post r h1) (fun E h1 => False) := by
  refine CTW_of hG (by decide) (Nat.le_of_ble_eq_true rfl) (fun Γ hC hQ => ?_)
  have hC : COK G Γ "BandplanLaw" cL_loss 5 8 133 2 12 [(0, 10, 13, 13)] := hC
  unfold wp_L_loss at hq
  show V G Γ 5 0 0 h0 0 [(0, .ref p0), (1, .int p1), (2, .int p2), (3, .ref p3)] []
  refine V_aload_n hC dL_loss_0 3 rfl ?_
  refine V_iconst (v := 0) hC dL_loss_1 (by decide) ?_
  refine V_aload_n hC dL_loss_2 0 rfl ?_
  refine V_iload_n hC dL_loss_3 1 rfl ?_
  refine V_iload_n hC dL_loss_4 2 rfl ?_
  obtain ⟨hz, hq⟩ := hq
  refine clV_X11_loss hG hC sv_L_22 ⟨by decide, by decide⟩ (Nat.le_of_ble_eq_true rfl) ⟨by decide, by decide⟩ dL_loss_5 hz hq ?_ (fun r1 hq => ?_)
  · intro E hx
    obtain ⟨k0, ho⟩ := hx
    subst ho
    have hq := k0 rfl
    refine VX_catch (E := "java/lang/IndexOutOfBoundsException") hC [] (0, 10, 13, 13) [] rfl (fun _ h9 => nomatch h9) rfl (by decide) aw_2_164 (List.mem_filter.mpr ⟨nw_3_16, rfl⟩) (fun q => ?_)
    show V G Γ 5 2 12 h0 13 [(0, .ref p0), (1, .int p1), (2, .int p2), (3, .ref p3)] [.ref q]
    refine V_astore (L' := [(0, .ref p0), (1, .int p1), (2, .int p2), (3, .ref p3), (4, .ref q)]) hC dL_loss_13 (by decide) [1, 2, 3, 4, 0] rfl ?_
    refine V_iconst (v := 1) hC dL_loss_15 (by decide) ?_
    exact V_iret hC hQ rfl rfl ⟨by decide, by decide⟩ dL_loss_16 ⟨_, rfl, hq⟩
  show V G Γ 5 2 12 h0 8 [(0, .ref p0), (1, .int p1), (2, .int p2), (3, .ref p3)] [.int r1, .int 0, .ref p3]
  refine V_i2l hC dL_loss_8 ?_
  refine U_stJ hC dL_loss_9 hq (fun h2 hq => ?_)
  refine V_goto (tgt := 17) hC dL_loss_10 (by decide) ?_
  refine V_iconst (v := 0) hC dL_loss_17 (by decide) ?_
  exact V_iret hC hQ rfl rfl ⟨by decide, by decide⟩ dL_loss_18 ⟨_, rfl, hq⟩
theorem clSX_L_loss {G : Gx} (hG : GOK G) {Γ : Cx} {own : String} {cc : ByteArray} {nL fr lo mc ms cells slots pc : Nat} {hh : List (Nat × Nat × Nat × Nat)} {h : hw} {L : List (Nat × Value)} {rest : List Value} (hC : COK G Γ own cc nL fr lo mc ms hh) {idx : Nat} (hs : SSX own idx yL_loss cL_loss 5 (some .int) [(0, 10, 13, 13)] 4) {p0 : Nat} {p1 : Int32} {p2 : Int32} {p3 : Nat} (hR : 8 + 1 ≤ fr ∧ 8 + (5 + 11) + 133 ≤ lo) (hw8 : (rest.map fun v => v.category).sum ≤ 8) (hcs : cells + 2 ≤ mc ∧ slots + 12 ≤ ms) (hdg : decode cc pc = .ok (.invokestatic idx, 3)) {post : Int32 → hw → Prop} (hq : wp_L_loss G p0 p1 p2 p3 h post) (kk : ∀ (r : Int32) (h1 : hw), post r h1 → V G Γ nL (cells + 2) (slots + 12) h1 (pc + 3) L (.int r :: rest)) : V G Γ nL cells slots h pc L (.ref p3 :: .int p2 :: .int p1 :: .ref p0 :: rest) :=
  V_callSX (As := [.ref p0, .int p1, .int p2, .ref p3]) hC (ct_L_loss hG p0 p1 p2 p3 h post hq) hs rfl hR hw8 hcs hdg (fun E h1 z => z.elim) (fun v h1 z => by obtain ⟨r, rfl, hz⟩ := z; exact kk r h1 hz)
set_option maxRecDepth 100000 in
set_option maxHeartbeats 4000000 in
theorem ct_L_addStation {G : Gx} (hG : GOK G) (p0 : Nat) (p1 : Int32) (p2 : Int32) (p3 : Int32) (p4 : Int32) (p5 : Nat) (h0 : hw) (post : Int32 → hw → Prop) (hq : wp_L_addStation G p0 p1 p2 p3 p4 p5 h0 post) : CTW G yL_addStation cL_addStation 7 (some .int) [(0, 14, 17, 13), (0, 14, 21, 15), (0, 14, 25, 17)] 9 216 5 34 [.ref p0, .int p1, .int p2, .int p3, .int p4, .ref p5] h0 (fun v h1 => ∃ r : Int32, v = some (.int r) ∧ post r h1) (fun E h1 => False) := by
  refine CTW_of hG (by decide) (Nat.le_of_ble_eq_true rfl) (fun Γ hC hQ => ?_)
  have hC : COK G Γ "BandplanLaw" cL_addStation 7 9 216 5 34 [(0, 14, 17, 13), (0, 14, 21, 15), (0, 14, 25, 17)] := hC
  unfold wp_L_addStation at hq
  show V G Γ 7 0 0 h0 0 [(0, .ref p0), (1, .int p1), (2, .int p2), (3, .int p3), (4, .int p4), (5, .ref p5)] []
  refine V_aload hC dL_addStation_0 5 rfl ?_
  refine V_iconst (v := 0) hC dL_addStation_2 (by decide) ?_
  refine V_aload_n hC dL_addStation_3 0 rfl ?_
  refine V_iload_n hC dL_addStation_4 1 rfl ?_
  refine V_iload_n hC dL_addStation_5 2 rfl ?_
  refine V_iload_n hC dL_addStation_6 3 rfl ?_
  refine V_iload hC dL_addStation_7 4 rfl ?_
  obtain ⟨hz, hq⟩ := hq
  refine clV_X11_addStation hG hC sv_L_26 ⟨by decide, by decide⟩ (Nat.le_of_ble_eq_true rfl) ⟨by decide, by decide⟩ dL_addStation_9 hz hq ?_ (fun r1 h2 hq => ?_)
  · intro E hE3 hx
    obtain ⟨k0, k1, k2, ho⟩ := hx
    rcases ho with rfl | rfl | rfl
    · have hq := k0 rfl
      refine VX_catch (E := "java/lang/IllegalArgumentException") hC [(0, 14, 17, 13)] (0, 14, 21, 15) [(0, 14, 25, 17)] rfl (List.forall_mem_cons.mpr ⟨⟨by decide, "java/lang/IndexOutOfBoundsException", aw_2_164, by decide⟩, (fun _ h9 => nomatch h9)⟩) rfl (by decide) aw_3_4 (List.mem_filter.mpr ⟨nw_3_33, rfl⟩) (fun q => ?_)
      show V G Γ 7 5 34 hE3 21 [(0, .ref p0), (1, .int p1), (2, .int p2), (3, .int p3), (4, .int p4), (5, .ref p5)] [.ref q]
      refine V_astore (L' := [(0, .ref p0), (1, .int p1), (2, .int p2), (3, .int p3), (4, .int p4), (5, .ref p5), (6, .ref q)]) hC dL_addStation_21 (by decide) [1, 2, 3, 4, 5, 6, 0] rfl ?_
      refine V_iconst (v := 2) hC dL_addStation_23 (by decide) ?_
      exact V_iret hC hQ rfl rfl ⟨by decide, by decide⟩ dL_addStation_24 ⟨_, rfl, hq⟩
    · have hq := k1 rfl
      refine VX_catch (E := "java/lang/IllegalStateException") hC [(0, 14, 17, 13), (0, 14, 21, 15)] (0, 14, 25, 17) [] rfl (List.forall_mem_cons.mpr ⟨⟨by decide, "java/lang/IndexOutOfBoundsException", aw_2_164, by decide⟩, (List.forall_mem_cons.mpr ⟨⟨by decide, "java/lang/IllegalArgumentException", aw_3_4, by decide⟩, (fun _ h9 => nomatch h9)⟩)⟩) rfl (by decide) aw_3_5 (List.mem_filter.mpr ⟨nw_3_57, rfl⟩) (fun q => ?_)
      show V G Γ 7 5 34 hE3 25 [(0, .ref p0), (1, .int p1), (2, .int p2), (3, .int p3), (4, .int p4), (5, .ref p5)] [.ref q]
      refine V_astore (L' := [(0, .ref p0), (1, .int p1), (2, .int p2), (3, .int p3), (4, .int p4), (5, .ref p5), (6, .ref q)]) hC dL_addStation_25 (by decide) [1, 2, 3, 4, 5, 6, 0] rfl ?_
      refine V_iconst (v := 3) hC dL_addStation_27 (by decide) ?_
      exact V_iret hC hQ rfl rfl ⟨by decide, by decide⟩ dL_addStation_28 ⟨_, rfl, hq⟩
    · have hq := k2 rfl
      refine VX_catch (E := "java/lang/IndexOutOfBoundsException") hC [] (0, 14, 17, 13) [(0, 14, 21, 15), (0, 14, 25, 17)] rfl (fun _ h9 => nomatch h9) rfl (by decide) aw_2_164 (List.mem_filter.mpr ⟨nw_3_16, rfl⟩) (fun q => ?_)
      show V G Γ 7 5 34 hE3 17 [(0, .ref p0), (1, .int p1), (2, .int p2), (3, .int p3), (4, .int p4), (5, .ref p5)] [.ref q]
      refine V_astore (L' := [(0, .ref p0), (1, .int p1), (2, .int p2), (3, .int p3), (4, .int p4), (5, .ref p5), (6, .ref q)]) hC dL_addStation_17 (by decide) [1, 2, 3, 4, 5, 6, 0] rfl ?_
      refine V_iconst (v := 1) hC dL_addStation_19 (by decide) ?_
      exact V_iret hC hQ rfl rfl ⟨by decide, by decide⟩ dL_addStation_20 ⟨_, rfl, hq⟩
  show V G Γ 7 5 34 h2 12 [(0, .ref p0), (1, .int p1), (2, .int p2), (3, .int p3), (4, .int p4), (5, .ref p5)] [.int r1, .int 0, .ref p5]
  refine V_i2l hC dL_addStation_12 ?_
  refine U_stJ hC dL_addStation_13 hq (fun h4 hq => ?_)
  refine V_goto (tgt := 29) hC dL_addStation_14 (by decide) ?_
  refine V_iconst (v := 0) hC dL_addStation_29 (by decide) ?_
  exact V_iret hC hQ rfl rfl ⟨by decide, by decide⟩ dL_addStation_30 ⟨_, rfl, hq⟩
theorem clSX_L_addStation {G : Gx} (hG : GOK G) {Γ : Cx} {own : String} {cc : ByteArray} {nL fr lo mc ms cells slots pc : Nat} {hh : List (Nat × Nat × Nat × Nat)} {h : hw} {L : List (Nat × Value)} {rest : List Value} (hC : COK G Γ own cc nL fr lo mc ms hh) {idx : Nat} (hs : SSX own idx yL_addStation cL_addStation 7 (some .int) [(0, 14, 17, 13), (0, 14, 21, 15), (0, 14, 25, 17)] 6) {p0 : Nat} {p1 : Int32} {p2 : Int32} {p3 : Int32} {p4 : Int32} {p5 : Nat} (hR : 9 + 1 ≤ fr ∧ 8 + (7 + 11) + 216 ≤ lo) (hw8 : (rest.map fun v => v.category).sum ≤ 8) (hcs : cells + 5 ≤ mc ∧ slots + 34 ≤ ms) (hdg : decode cc pc = .ok (.invokestatic idx, 3)) {post : Int32 → hw → Prop} (hq : wp_L_addStation G p0 p1 p2 p3 p4 p5 h post) (kk : ∀ (r : Int32) (h1 : hw), post r h1 → V G Γ nL (cells + 5) (slots + 34) h1 (pc + 3) L (.int r :: rest)) : V G Γ nL cells slots h pc L (.ref p5 :: .int p4 :: .int p3 :: .int p2 :: .int p1 :: .ref p0 :: rest) :=
  V_callSX (As := [.ref p0, .int p1, .int p2, .int p3, .int p4, .ref p5]) hC (ct_L_addStation hG p0 p1 p2 p3 p4 p5 h post hq) hs rfl hR hw8 hcs hdg (fun E h1 z => z.elim) (fun v h1 z => by obtain ⟨r, rfl, hz⟩ := z; exact kk r h1 hz)
set_option maxRecDepth 100000 in
set_option maxHeartbeats 4000000 in
theorem ct_L_setRatio {G : Gx} (hG : GOK G) (p0 : Nat) (p1 : Int32) (p2 : Nat) (h0 : hw) (post : Int32 → hw → Prop) (hq : wp_L_setRatio G p0 p1 p2 h0 post) : CTW G yL_setRatio cL_setRatio 4 (some .int) [(0, 9, 12, 15), (0, 9, 15, 17)] 8 135 2 12 [.ref p0, .int p1, .ref p2] h0 (fun v h1 => ∃ r : Int32, v = some (.int r) ∧ post r h1) (fun E h1 => False) := by
  refine CTW_of hG (by decide) (Nat.le_of_ble_eq_true rfl) (fun Γ hC hQ => ?_)
  have hC : COK G Γ "BandplanLaw" cL_setRatio 4 8 135 2 12 [(0, 9, 12, 15), (0, 9, 15, 17)] := hC
  unfold wp_L_setRatio at hq
  show V G Γ 4 0 0 h0 0 [(0, .ref p0), (1, .int p1), (2, .ref p2)] []
  refine V_aload_n hC dL_setRatio_0 2 rfl ?_
  refine V_iconst (v := 0) hC dL_setRatio_1 (by decide) ?_
  refine V_aload_n hC dL_setRatio_2 0 rfl ?_
  refine V_iload_n hC dL_setRatio_3 1 rfl ?_
  obtain ⟨hz, hq⟩ := hq
  refine clV_X11_setRatio hG hC sv_L_30 ⟨by decide, by decide⟩ (Nat.le_of_ble_eq_true rfl) ⟨by decide, by decide⟩ dL_setRatio_4 hz hq ?_ (fun r1 h2 hq => ?_)
  · intro E hE3 hx
    obtain ⟨k0, k1, ho⟩ := hx
    rcases ho with rfl | rfl
    · have hq := k0 rfl
      refine VX_catch (E := "java/lang/IllegalArgumentException") hC [] (0, 9, 12, 15) [(0, 9, 15, 17)] rfl (fun _ h9 => nomatch h9) rfl (by decide) aw_3_4 (List.mem_filter.mpr ⟨nw_3_33, rfl⟩) (fun q => ?_)
      show V G Γ 4 2 12 hE3 12 [(0, .ref p0), (1, .int p1), (2, .ref p2)] [.ref q]
      refine V_astore_n (L' := [(0, .ref p0), (1, .int p1), (2, .ref p2), (3, .ref q)]) hC dL_setRatio_12 rfl (by decide) [1, 2, 3, 0] rfl ?_
      refine V_iconst (v := 1) hC dL_setRatio_13 (by decide) ?_
      exact V_iret hC hQ rfl rfl ⟨by decide, by decide⟩ dL_setRatio_14 ⟨_, rfl, hq⟩
    · have hq := k1 rfl
      refine VX_catch (E := "java/lang/IllegalStateException") hC [(0, 9, 12, 15)] (0, 9, 15, 17) [] rfl (List.forall_mem_cons.mpr ⟨⟨by decide, "java/lang/IllegalArgumentException", aw_3_4, by decide⟩, (fun _ h9 => nomatch h9)⟩) rfl (by decide) aw_3_5 (List.mem_filter.mpr ⟨nw_3_57, rfl⟩) (fun q => ?_)
      show V G Γ 4 2 12 hE3 15 [(0, .ref p0), (1, .int p1), (2, .ref p2)] [.ref q]
      refine V_astore_n (L' := [(0, .ref p0), (1, .int p1), (2, .ref p2), (3, .ref q)]) hC dL_setRatio_15 rfl (by decide) [1, 2, 3, 0] rfl ?_
      refine V_iconst (v := 2) hC dL_setRatio_16 (by decide) ?_
      exact V_iret hC hQ rfl rfl ⟨by decide, by decide⟩ dL_setRatio_17 ⟨_, rfl, hq⟩
  show V G Γ 4 2 12 h2 7 [(0, .ref p0), (1, .int p1), (2, .ref p2)] [.int r1, .int 0, .ref p2]
  refine V_i2l hC dL_setRatio_7 ?_
  refine U_stJ hC dL_setRatio_8 hq (fun h4 hq => ?_)
  refine V_goto (tgt := 18) hC dL_setRatio_9 (by decide) ?_
  refine V_iconst (v := 0) hC dL_setRatio_18 (by decide) ?_
  exact V_iret hC hQ rfl rfl ⟨by decide, by decide⟩ dL_setRatio_19 ⟨_, rfl, hq⟩
theorem clSX_L_setRatio {G : Gx} (hG : GOK G) {Γ : Cx} {own : String} {cc : ByteArray} {nL fr lo mc ms cells slots pc : Nat} {hh : List (Nat × Nat × Nat × Nat)} {h : hw} {L : List (Nat × Value)} {rest : List Value} (hC : COK G Γ own cc nL fr lo mc ms hh) {idx : Nat} (hs : SSX own idx yL_setRatio cL_setRatio 4 (some .int) [(0, 9, 12, 15), (0, 9, 15, 17)] 3) {p0 : Nat} {p1 : Int32} {p2 : Nat} (hR : 8 + 1 ≤ fr ∧ 8 + (4 + 11) + 135 ≤ lo) (hw8 : (rest.map fun v => v.category).sum ≤ 8) (hcs : cells + 2 ≤ mc ∧ slots + 12 ≤ ms) (hdg : decode cc pc = .ok (.invokestatic idx, 3)) {post : Int32 → hw → Prop} (hq : wp_L_setRatio G p0 p1 p2 h post) (kk : ∀ (r : Int32) (h1 : hw), post r h1 → V G Γ nL (cells + 2) (slots + 12) h1 (pc + 3) L (.int r :: rest)) : V G Γ nL cells slots h pc L (.ref p2 :: .int p1 :: .ref p0 :: rest) :=
  V_callSX (As := [.ref p0, .int p1, .ref p2]) hC (ct_L_setRatio hG p0 p1 p2 h post hq) hs rfl hR hw8 hcs hdg (fun E h1 z => z.elim) (fun v h1 z => by obtain ⟨r, rfl, hz⟩ := z; exact kk r h1 hz)
set_option maxRecDepth 100000 in
set_option maxHeartbeats 4000000 in
theorem ct_L_level {G : Gx} (hG : GOK G) (p0 : Nat) (p1 : Int32) (p2 : Nat) (h0 : hw) (post : Int32 → hw → Prop) (hq : wp_L_level G p0 p1 p2 h0 post) : CTW G yL_level cL_level 4 (some .int) [(0, 9, 12, 13)] 8 136 1 6 [.ref p0, .int p1, .ref p2] h0 (fun v h1 => ∃ r : Int32, v = some (.int r) ∧ post r h1) (fun E h1 => False) := by
  refine CTW_of hG (by decide) (Nat.le_of_ble_eq_true rfl) (fun Γ hC hQ => ?_)
  have hC : COK G Γ "BandplanLaw" cL_level 4 8 136 1 6 [(0, 9, 12, 13)] := hC
  unfold wp_L_level at hq
  show V G Γ 4 0 0 h0 0 [(0, .ref p0), (1, .int p1), (2, .ref p2)] []
  refine V_aload_n hC dL_level_0 2 rfl ?_
  refine V_iconst (v := 0) hC dL_level_1 (by decide) ?_
  refine V_aload_n hC dL_level_2 0 rfl ?_
  refine V_iload_n hC dL_level_3 1 rfl ?_
  obtain ⟨hz, hq⟩ := hq
  refine clV_X11_level hG hC sv_L_34 ⟨by decide, by decide⟩ (Nat.le_of_ble_eq_true rfl) ⟨by decide, by decide⟩ dL_level_4 hz hq ?_ (fun r1 hq => ?_)
  · intro E hx
    obtain ⟨k0, ho⟩ := hx
    subst ho
    have hq := k0 rfl
    refine VX_catch (E := "java/lang/IndexOutOfBoundsException") hC [] (0, 9, 12, 13) [] rfl (fun _ h9 => nomatch h9) rfl (by decide) aw_2_164 (List.mem_filter.mpr ⟨nw_3_16, rfl⟩) (fun q => ?_)
    show V G Γ 4 1 6 h0 12 [(0, .ref p0), (1, .int p1), (2, .ref p2)] [.ref q]
    refine V_astore_n (L' := [(0, .ref p0), (1, .int p1), (2, .ref p2), (3, .ref q)]) hC dL_level_12 rfl (by decide) [1, 2, 3, 0] rfl ?_
    refine V_iconst (v := 1) hC dL_level_13 (by decide) ?_
    exact V_iret hC hQ rfl rfl ⟨by decide, by decide⟩ dL_level_14 ⟨_, rfl, hq⟩
  show V G Γ 4 1 6 h0 7 [(0, .ref p0), (1, .int p1), (2, .ref p2)] [.int r1, .int 0, .ref p2]
  refine V_i2l hC dL_level_7 ?_
  refine U_stJ hC dL_level_8 hq (fun h2 hq => ?_)
  refine V_goto (tgt := 15) hC dL_level_9 (by decide) ?_
  refine V_iconst (v := 0) hC dL_level_15 (by decide) ?_
  exact V_iret hC hQ rfl rfl ⟨by decide, by decide⟩ dL_level_16 ⟨_, rfl, hq⟩
theorem clSX_L_level {G : Gx} (hG : GOK G) {Γ : Cx} {own : String} {cc : ByteArray} {nL fr lo mc ms cells slots pc : Nat} {hh : List (Nat × Nat × Nat × Nat)} {h : hw} {L : List (Nat × Value)} {rest : List Value} (hC : COK G Γ own cc nL fr lo mc ms hh) {idx : Nat} (hs : SSX own idx yL_level cL_level 4 (some .int) [(0, 9, 12, 13)] 3) {p0 : Nat} {p1 : Int32} {p2 : Nat} (hR : 8 + 1 ≤ fr ∧ 8 + (4 + 11) + 136 ≤ lo) (hw8 : (rest.map fun v => v.category).sum ≤ 8) (hcs : cells + 1 ≤ mc ∧ slots + 6 ≤ ms) (hdg : decode cc pc = .ok (.invokestatic idx, 3)) {post : Int32 → hw → Prop} (hq : wp_L_level G p0 p1 p2 h post) (kk : ∀ (r : Int32) (h1 : hw), post r h1 → V G Γ nL (cells + 1) (slots + 6) h1 (pc + 3) L (.int r :: rest)) : V G Γ nL cells slots h pc L (.ref p2 :: .int p1 :: .ref p0 :: rest) :=
  V_callSX (As := [.ref p0, .int p1, .ref p2]) hC (ct_L_level hG p0 p1 p2 h post hq) hs rfl hR hw8 hcs hdg (fun E h1 z => z.elim) (fun v h1 z => by obtain ⟨r, rfl, hz⟩ := z; exact kk r h1 hz)
set_option maxRecDepth 100000 in
set_option maxHeartbeats 4000000 in
theorem ct_L_harm {G : Gx} (hG : GOK G) (p0 : Nat) (p1 : Int32) (p2 : Nat) (h0 : hw) (post : Int32 → hw → Prop) (hq : wp_L_harm G p0 p1 p2 h0 post) : CTW G yL_harm cL_harm 4 (some .int) [(0, 9, 12, 13), (0, 9, 15, 40), (0, 9, 18, 42)] 9 159 3 18 [.ref p0, .int p1, .ref p2] h0 (fun v h1 => ∃ r : Int32, v = some (.int r) ∧ post r h1) (fun E h1 => False) := by
  refine CTW_of hG (by decide) (Nat.le_of_ble_eq_true rfl) (fun Γ hC hQ => ?_)
  have hC : COK G Γ "BandplanLaw" cL_harm 4 9 159 3 18 [(0, 9, 12, 13), (0, 9, 15, 40), (0, 9, 18, 42)] := hC
  unfold wp_L_harm at hq
  show V G Γ 4 0 0 h0 0 [(0, .ref p0), (1, .int p1), (2, .ref p2)] []
  refine V_aload_n hC dL_harm_0 2 rfl ?_
  refine V_iconst (v := 0) hC dL_harm_1 (by decide) ?_
  refine V_aload_n hC dL_harm_2 0 rfl ?_
  refine V_iload_n hC dL_harm_3 1 rfl ?_
  obtain ⟨hz, hq⟩ := hq
  refine clV_X11_harm hG hC sv_L_37 ⟨by decide, by decide⟩ (Nat.le_of_ble_eq_true rfl) ⟨by decide, by decide⟩ dL_harm_4 hz hq ?_ (fun r1 hq => ?_)
  · intro E hx
    obtain ⟨k0, k1, k2, ho⟩ := hx
    rcases ho with rfl | rfl | rfl
    · have hq := k0 rfl
      refine VX_catch (E := "java/lang/IndexOutOfBoundsException") hC [] (0, 9, 12, 13) [(0, 9, 15, 40), (0, 9, 18, 42)] rfl (fun _ h9 => nomatch h9) rfl (by decide) aw_2_164 (List.mem_filter.mpr ⟨nw_3_16, rfl⟩) (fun q => ?_)
      show V G Γ 4 3 18 h0 12 [(0, .ref p0), (1, .int p1), (2, .ref p2)] [.ref q]
      refine V_astore_n (L' := [(0, .ref p0), (1, .int p1), (2, .ref p2), (3, .ref q)]) hC dL_harm_12 rfl (by decide) [1, 2, 3, 0] rfl ?_
      refine V_iconst (v := 1) hC dL_harm_13 (by decide) ?_
      exact V_iret hC hQ rfl rfl ⟨by decide, by decide⟩ dL_harm_14 ⟨_, rfl, hq⟩
    · have hq := k1 rfl
      refine VX_catch (E := "java/lang/UnsupportedOperationException") hC [(0, 9, 12, 13)] (0, 9, 15, 40) [(0, 9, 18, 42)] rfl (List.forall_mem_cons.mpr ⟨⟨by decide, "java/lang/IndexOutOfBoundsException", aw_2_164, by decide⟩, (fun _ h9 => nomatch h9)⟩) rfl (by decide) aw_4_49 (List.mem_filter.mpr ⟨nw_4_62, rfl⟩) (fun q => ?_)
      show V G Γ 4 3 18 h0 15 [(0, .ref p0), (1, .int p1), (2, .ref p2)] [.ref q]
      refine V_astore_n (L' := [(0, .ref p0), (1, .int p1), (2, .ref p2), (3, .ref q)]) hC dL_harm_15 rfl (by decide) [1, 2, 3, 0] rfl ?_
      refine V_iconst (v := 2) hC dL_harm_16 (by decide) ?_
      exact V_iret hC hQ rfl rfl ⟨by decide, by decide⟩ dL_harm_17 ⟨_, rfl, hq⟩
    · have hq := k2 rfl
      refine VX_catch (E := "java/util/NoSuchElementException") hC [(0, 9, 12, 13), (0, 9, 15, 40)] (0, 9, 18, 42) [] rfl (List.forall_mem_cons.mpr ⟨⟨by decide, "java/lang/IndexOutOfBoundsException", aw_2_164, by decide⟩, (List.forall_mem_cons.mpr ⟨⟨by decide, "java/lang/UnsupportedOperationException", aw_4_49, by decide⟩, (fun _ h9 => nomatch h9)⟩)⟩) rfl (by decide) aw_4_50 (List.mem_filter.mpr ⟨nw_4_80, rfl⟩) (fun q => ?_)
      show V G Γ 4 3 18 h0 18 [(0, .ref p0), (1, .int p1), (2, .ref p2)] [.ref q]
      refine V_astore_n (L' := [(0, .ref p0), (1, .int p1), (2, .ref p2), (3, .ref q)]) hC dL_harm_18 rfl (by decide) [1, 2, 3, 0] rfl ?_
      refine V_iconst (v := 3) hC dL_harm_19 (by decide) ?_
      exact V_iret hC hQ rfl rfl ⟨by decide, by decide⟩ dL_harm_20 ⟨_, rfl, hq⟩
  show V G Γ 4 3 18 h0 7 [(0, .ref p0), (1, .int p1), (2, .ref p2)] [.int r1, .int 0, .ref p2]
  refine V_i2l hC dL_harm_7 ?_
  refine U_stJ hC dL_harm_8 hq (fun h2 hq => ?_)
  refine V_goto (tgt := 21) hC dL_harm_9 (by decide) ?_
  refine V_iconst (v := 0) hC dL_harm_21 (by decide) ?_
  exact V_iret hC hQ rfl rfl ⟨by decide, by decide⟩ dL_harm_22 ⟨_, rfl, hq⟩
theorem clSX_L_harm {G : Gx} (hG : GOK G) {Γ : Cx} {own : String} {cc : ByteArray} {nL fr lo mc ms cells slots pc : Nat} {hh : List (Nat × Nat × Nat × Nat)} {h : hw} {L : List (Nat × Value)} {rest : List Value} (hC : COK G Γ own cc nL fr lo mc ms hh) {idx : Nat} (hs : SSX own idx yL_harm cL_harm 4 (some .int) [(0, 9, 12, 13), (0, 9, 15, 40), (0, 9, 18, 42)] 3) {p0 : Nat} {p1 : Int32} {p2 : Nat} (hR : 9 + 1 ≤ fr ∧ 8 + (4 + 11) + 159 ≤ lo) (hw8 : (rest.map fun v => v.category).sum ≤ 8) (hcs : cells + 3 ≤ mc ∧ slots + 18 ≤ ms) (hdg : decode cc pc = .ok (.invokestatic idx, 3)) {post : Int32 → hw → Prop} (hq : wp_L_harm G p0 p1 p2 h post) (kk : ∀ (r : Int32) (h1 : hw), post r h1 → V G Γ nL (cells + 3) (slots + 18) h1 (pc + 3) L (.int r :: rest)) : V G Γ nL cells slots h pc L (.ref p2 :: .int p1 :: .ref p0 :: rest) :=
  V_callSX (As := [.ref p0, .int p1, .ref p2]) hC (ct_L_harm hG p0 p1 p2 h post hq) hs rfl hR hw8 hcs hdg (fun E h1 z => z.elim) (fun v h1 z => by obtain ⟨r, rfl, hz⟩ := z; exact kk r h1 hz)
set_option maxRecDepth 100000 in
set_option maxHeartbeats 4000000 in
theorem ct_L_keeps {G : Gx} (hG : GOK G) (p0 : Nat) (p1 : Int32) (p2 : Nat) (h0 : hw) (post : Int32 → hw → Prop) (hq : wp_L_keeps G p0 p1 p2 h0 post) : CTW G yL_keeps cL_keeps 4 (some .int) [(0, 16, 19, 13), (0, 16, 22, 40)] 9 168 2 12 [.ref p0, .int p1, .ref p2] h0 (fun v h1 => ∃ r : Int32, v = some (.int r) ∧ post r h1) (fun E h1 => False) := by
  refine CTW_of hG (by decide) (Nat.le_of_ble_eq_true rfl) (fun Γ hC hQ => ?_)
  have hC : COK G Γ "BandplanLaw" cL_keeps 4 9 168 2 12 [(0, 16, 19, 13), (0, 16, 22, 40)] := hC
  unfold wp_L_keeps at hq
  show V G Γ 4 0 0 h0 0 [(0, .ref p0), (1, .int p1), (2, .ref p2)] []
  refine V_aload_n hC dL_keeps_0 2 rfl ?_
  refine V_iconst (v := 0) hC dL_keeps_1 (by decide) ?_
  refine V_aload_n hC dL_keeps_2 0 rfl ?_
  refine V_iload_n hC dL_keeps_3 1 rfl ?_
  obtain ⟨hz, hq⟩ := hq
  refine clV_X11_keeps hG hC sv_L_44 ⟨by decide, by decide⟩ (Nat.le_of_ble_eq_true rfl) ⟨by decide, by decide⟩ dL_keeps_4 hz hq ?_ (fun r1 hq => ?_)
  · intro E hx
    obtain ⟨k0, k1, ho⟩ := hx
    rcases ho with rfl | rfl
    · have hq := k0 rfl
      refine VX_catch (E := "java/lang/IndexOutOfBoundsException") hC [] (0, 16, 19, 13) [(0, 16, 22, 40)] rfl (fun _ h9 => nomatch h9) rfl (by decide) aw_2_164 (List.mem_filter.mpr ⟨nw_3_16, rfl⟩) (fun q => ?_)
      show V G Γ 4 2 12 h0 19 [(0, .ref p0), (1, .int p1), (2, .ref p2)] [.ref q]
      refine V_astore_n (L' := [(0, .ref p0), (1, .int p1), (2, .ref p2), (3, .ref q)]) hC dL_keeps_19 rfl (by decide) [1, 2, 3, 0] rfl ?_
      refine V_iconst (v := 1) hC dL_keeps_20 (by decide) ?_
      exact V_iret hC hQ rfl rfl ⟨by decide, by decide⟩ dL_keeps_21 ⟨_, rfl, hq⟩
    · have hq := k1 rfl
      refine VX_catch (E := "java/lang/UnsupportedOperationException") hC [(0, 16, 19, 13)] (0, 16, 22, 40) [] rfl (List.forall_mem_cons.mpr ⟨⟨by decide, "java/lang/IndexOutOfBoundsException", aw_2_164, by decide⟩, (fun _ h9 => nomatch h9)⟩) rfl (by decide) aw_4_49 (List.mem_filter.mpr ⟨nw_4_62, rfl⟩) (fun q => ?_)
      show V G Γ 4 2 12 h0 22 [(0, .ref p0), (1, .int p1), (2, .ref p2)] [.ref q]
      refine V_astore_n (L' := [(0, .ref p0), (1, .int p1), (2, .ref p2), (3, .ref q)]) hC dL_keeps_22 rfl (by decide) [1, 2, 3, 0] rfl ?_
      refine V_iconst (v := 2) hC dL_keeps_23 (by decide) ?_
      exact V_iret hC hQ rfl rfl ⟨by decide, by decide⟩ dL_keeps_24 ⟨_, rfl, hq⟩
  show V G Γ 4 2 12 h0 7 [(0, .ref p0), (1, .int p1), (2, .ref p2)] [.int r1, .int 0, .ref p2]
  have hq := hq (fun (t2 : Nat) (t3 : Int32) (t4 : Int64) => V G Γ 4 2 12 h0 15 [] [.long t4, .int t3, .ref t2]) (by
    intro t2 t3 t4 hq
    show V G Γ 4 2 12 h0 15 [] [.long t4, .int t3, .ref t2]
    refine U_stJ hC dL_keeps_15 hq (fun h5 hq => ?_)
    refine V_goto (tgt := 25) hC dL_keeps_16 (by decide) ?_
    refine V_iconst (v := 0) hC dL_keeps_25 (by decide) ?_
    exact V_iret hC hQ rfl rfl ⟨by decide, by decide⟩ dL_keeps_26 ⟨_, rfl, hq⟩)
  refine V_if_eq (tgt := 14) hC dL_keeps_7 (by decide) (fun hc => ?_) (fun hc => ?_)
  · have hq := hq.1 hc
    refine V_lconst (v := 0) hC dL_keeps_14 (by decide) ?_
    refine V_sub [] rfl ?_
    exact hq
  · have hq := hq.2 hc
    refine V_lconst (v := 1) hC dL_keeps_10 (by decide) ?_
    refine V_goto (tgt := 15) hC dL_keeps_11 (by decide) ?_
    refine V_sub [] rfl ?_
    exact hq
theorem clSX_L_keeps {G : Gx} (hG : GOK G) {Γ : Cx} {own : String} {cc : ByteArray} {nL fr lo mc ms cells slots pc : Nat} {hh : List (Nat × Nat × Nat × Nat)} {h : hw} {L : List (Nat × Value)} {rest : List Value} (hC : COK G Γ own cc nL fr lo mc ms hh) {idx : Nat} (hs : SSX own idx yL_keeps cL_keeps 4 (some .int) [(0, 16, 19, 13), (0, 16, 22, 40)] 3) {p0 : Nat} {p1 : Int32} {p2 : Nat} (hR : 9 + 1 ≤ fr ∧ 8 + (4 + 11) + 168 ≤ lo) (hw8 : (rest.map fun v => v.category).sum ≤ 8) (hcs : cells + 2 ≤ mc ∧ slots + 12 ≤ ms) (hdg : decode cc pc = .ok (.invokestatic idx, 3)) {post : Int32 → hw → Prop} (hq : wp_L_keeps G p0 p1 p2 h post) (kk : ∀ (r : Int32) (h1 : hw), post r h1 → V G Γ nL (cells + 2) (slots + 12) h1 (pc + 3) L (.int r :: rest)) : V G Γ nL cells slots h pc L (.ref p2 :: .int p1 :: .ref p0 :: rest) :=
  V_callSX (As := [.ref p0, .int p1, .ref p2]) hC (ct_L_keeps hG p0 p1 p2 h post hq) hs rfl hR hw8 hcs hdg (fun E h1 z => z.elim) (fun v h1 z => by obtain ⟨r, rfl, hz⟩ := z; exact kk r h1 hz)
set_option maxRecDepth 100000 in
set_option maxHeartbeats 4000000 in
theorem ct_L_bars {G : Gx} (hG : GOK G) (p0 : Nat) (p1 : Int32) (p2 : Int32) (p3 : Int32) (p4 : Int32) (p5 : Nat) (h0 : hw) (post : Int32 → hw → Prop) (hq : wp_L_bars G p0 p1 p2 p3 p4 p5 h0 post) : CTW G yL_bars cL_bars 7 (some .int) [(0, 21, 24, 13), (0, 21, 28, 15)] 9 169 4 24 [.ref p0, .int p1, .int p2, .int p3, .int p4, .ref p5] h0 (fun v h1 => ∃ r : Int32, v = some (.int r) ∧ post r h1) (fun E h1 => False) := by
  refine CTW_of hG (by decide) (Nat.le_of_ble_eq_true rfl) (fun Γ hC hQ => ?_)
  have hC : COK G Γ "BandplanLaw" cL_bars 7 9 169 4 24 [(0, 21, 24, 13), (0, 21, 28, 15)] := hC
  unfold wp_L_bars at hq
  show V G Γ 7 0 0 h0 0 [(0, .ref p0), (1, .int p1), (2, .int p2), (3, .int p3), (4, .int p4), (5, .ref p5)] []
  refine V_aload hC dL_bars_0 5 rfl ?_
  refine V_iconst (v := 0) hC dL_bars_2 (by decide) ?_
  refine V_aload_n hC dL_bars_3 0 rfl ?_
  refine V_iload_n hC dL_bars_4 1 rfl ?_
  refine V_iload_n hC dL_bars_5 2 rfl ?_
  refine V_iload_n hC dL_bars_6 3 rfl ?_
  refine V_iload hC dL_bars_7 4 rfl ?_
  obtain ⟨hz, hq⟩ := hq
  refine clV_X11_bars hG hC sv_L_48 ⟨by decide, by decide⟩ (Nat.le_of_ble_eq_true rfl) ⟨by decide, by decide⟩ dL_bars_9 hz hq ?_ (fun r1 hq => ?_)
  · intro E hx
    obtain ⟨k0, k1, ho⟩ := hx
    rcases ho with rfl | rfl
    · have hq := k0 rfl
      refine VX_catch (E := "java/lang/IllegalArgumentException") hC [(0, 21, 24, 13)] (0, 21, 28, 15) [] rfl (List.forall_mem_cons.mpr ⟨⟨by decide, "java/lang/IndexOutOfBoundsException", aw_2_164, by decide⟩, (fun _ h9 => nomatch h9)⟩) rfl (by decide) aw_3_4 (List.mem_filter.mpr ⟨nw_3_33, rfl⟩) (fun q => ?_)
      show V G Γ 7 4 24 h0 28 [(0, .ref p0), (1, .int p1), (2, .int p2), (3, .int p3), (4, .int p4), (5, .ref p5)] [.ref q]
      refine V_astore (L' := [(0, .ref p0), (1, .int p1), (2, .int p2), (3, .int p3), (4, .int p4), (5, .ref p5), (6, .ref q)]) hC dL_bars_28 (by decide) [1, 2, 3, 4, 5, 6, 0] rfl ?_
      refine V_iconst (v := 2) hC dL_bars_30 (by decide) ?_
      exact V_iret hC hQ rfl rfl ⟨by decide, by decide⟩ dL_bars_31 ⟨_, rfl, hq⟩
    · have hq := k1 rfl
      refine VX_catch (E := "java/lang/IndexOutOfBoundsException") hC [] (0, 21, 24, 13) [(0, 21, 28, 15)] rfl (fun _ h9 => nomatch h9) rfl (by decide) aw_2_164 (List.mem_filter.mpr ⟨nw_3_16, rfl⟩) (fun q => ?_)
      show V G Γ 7 4 24 h0 24 [(0, .ref p0), (1, .int p1), (2, .int p2), (3, .int p3), (4, .int p4), (5, .ref p5)] [.ref q]
      refine V_astore (L' := [(0, .ref p0), (1, .int p1), (2, .int p2), (3, .int p3), (4, .int p4), (5, .ref p5), (6, .ref q)]) hC dL_bars_24 (by decide) [1, 2, 3, 4, 5, 6, 0] rfl ?_
      refine V_iconst (v := 1) hC dL_bars_26 (by decide) ?_
      exact V_iret hC hQ rfl rfl ⟨by decide, by decide⟩ dL_bars_27 ⟨_, rfl, hq⟩
  show V G Γ 7 4 24 h0 12 [(0, .ref p0), (1, .int p1), (2, .int p2), (3, .int p3), (4, .int p4), (5, .ref p5)] [.int r1, .int 0, .ref p5]
  have hq := hq (fun (t2 : Nat) (t3 : Int32) (t4 : Int64) => V G Γ 7 4 24 h0 20 [] [.long t4, .int t3, .ref t2]) (by
    intro t2 t3 t4 hq
    show V G Γ 7 4 24 h0 20 [] [.long t4, .int t3, .ref t2]
    refine U_stJ hC dL_bars_20 hq (fun h5 hq => ?_)
    refine V_goto (tgt := 32) hC dL_bars_21 (by decide) ?_
    refine V_iconst (v := 0) hC dL_bars_32 (by decide) ?_
    exact V_iret hC hQ rfl rfl ⟨by decide, by decide⟩ dL_bars_33 ⟨_, rfl, hq⟩)
  refine V_if_eq (tgt := 19) hC dL_bars_12 (by decide) (fun hc => ?_) (fun hc => ?_)
  · have hq := hq.1 hc
    refine V_lconst (v := 0) hC dL_bars_19 (by decide) ?_
    refine V_sub [] rfl ?_
    exact hq
  · have hq := hq.2 hc
    refine V_lconst (v := 1) hC dL_bars_15 (by decide) ?_
    refine V_goto (tgt := 20) hC dL_bars_16 (by decide) ?_
    refine V_sub [] rfl ?_
    exact hq
theorem clSX_L_bars {G : Gx} (hG : GOK G) {Γ : Cx} {own : String} {cc : ByteArray} {nL fr lo mc ms cells slots pc : Nat} {hh : List (Nat × Nat × Nat × Nat)} {h : hw} {L : List (Nat × Value)} {rest : List Value} (hC : COK G Γ own cc nL fr lo mc ms hh) {idx : Nat} (hs : SSX own idx yL_bars cL_bars 7 (some .int) [(0, 21, 24, 13), (0, 21, 28, 15)] 6) {p0 : Nat} {p1 : Int32} {p2 : Int32} {p3 : Int32} {p4 : Int32} {p5 : Nat} (hR : 9 + 1 ≤ fr ∧ 8 + (7 + 11) + 169 ≤ lo) (hw8 : (rest.map fun v => v.category).sum ≤ 8) (hcs : cells + 4 ≤ mc ∧ slots + 24 ≤ ms) (hdg : decode cc pc = .ok (.invokestatic idx, 3)) {post : Int32 → hw → Prop} (hq : wp_L_bars G p0 p1 p2 p3 p4 p5 h post) (kk : ∀ (r : Int32) (h1 : hw), post r h1 → V G Γ nL (cells + 4) (slots + 24) h1 (pc + 3) L (.int r :: rest)) : V G Γ nL cells slots h pc L (.ref p5 :: .int p4 :: .int p3 :: .int p2 :: .int p1 :: .ref p0 :: rest) :=
  V_callSX (As := [.ref p0, .int p1, .int p2, .int p3, .int p4, .ref p5]) hC (ct_L_bars hG p0 p1 p2 p3 p4 p5 h post hq) hs rfl hR hw8 hcs hdg (fun E h1 z => z.elim) (fun v h1 z => by obtain ⟨r, rfl, hz⟩ := z; exact kk r h1 hz)
set_option maxRecDepth 100000 in
set_option maxHeartbeats 4000000 in
theorem ct_L_putOn {G : Gx} (hG : GOK G) (p0 : Nat) (p1 : Int32) (p2 : Int32) (p3 : Nat) (h0 : hw) (post : Int32 → hw → Prop) (hq : wp_L_putOn G p0 p1 p2 p3 h0 post) : CTW G yL_putOn cL_putOn 5 (some .int) [(0, 10, 13, 13), (0, 10, 17, 15), (0, 10, 21, 17), (0, 10, 25, 40)] 9 195 3 18 [.ref p0, .int p1, .int p2, .ref p3] h0 (fun v h1 => ∃ r : Int32, v = some (.int r) ∧ post r h1) (fun E h1 => False) := by
  refine CTW_of hG (by decide) (Nat.le_of_ble_eq_true rfl) (fun Γ hC hQ => ?_)
  have hC : COK G Γ "BandplanLaw" cL_putOn 5 9 195 3 18 [(0, 10, 13, 13), (0, 10, 17, 15), (0, 10, 21, 17), (0, 10, 25, 40)] := hC
  unfold wp_L_putOn at hq
  show V G Γ 5 0 0 h0 0 [(0, .ref p0), (1, .int p1), (2, .int p2), (3, .ref p3)] []
  refine V_aload_n hC dL_putOn_0 3 rfl ?_
  refine V_iconst (v := 0) hC dL_putOn_1 (by decide) ?_
  refine V_aload_n hC dL_putOn_2 0 rfl ?_
  refine V_iload_n hC dL_putOn_3 1 rfl ?_
  refine V_iload_n hC dL_putOn_4 2 rfl ?_
  obtain ⟨hz, hq⟩ := hq
  refine clV_X11_putOn hG hC sv_L_52 ⟨by decide, by decide⟩ (Nat.le_of_ble_eq_true rfl) ⟨by decide, by decide⟩ dL_putOn_5 hz hq ?_ (fun r1 h2 hq => ?_)
  · intro E hE3 hx
    obtain ⟨k0, k1, k2, k3, ho⟩ := hx
    rcases ho with rfl | rfl | rfl | rfl
    · have hq := k0 rfl
      refine VX_catch (E := "java/lang/IllegalArgumentException") hC [(0, 10, 13, 13)] (0, 10, 17, 15) [(0, 10, 21, 17), (0, 10, 25, 40)] rfl (List.forall_mem_cons.mpr ⟨⟨by decide, "java/lang/IndexOutOfBoundsException", aw_2_164, by decide⟩, (fun _ h9 => nomatch h9)⟩) rfl (by decide) aw_3_4 (List.mem_filter.mpr ⟨nw_3_33, rfl⟩) (fun q => ?_)
      show V G Γ 5 3 18 hE3 17 [(0, .ref p0), (1, .int p1), (2, .int p2), (3, .ref p3)] [.ref q]
      refine V_astore (L' := [(0, .ref p0), (1, .int p1), (2, .int p2), (3, .ref p3), (4, .ref q)]) hC dL_putOn_17 (by decide) [1, 2, 3, 4, 0] rfl ?_
      refine V_iconst (v := 2) hC dL_putOn_19 (by decide) ?_
      exact V_iret hC hQ rfl rfl ⟨by decide, by decide⟩ dL_putOn_20 ⟨_, rfl, hq⟩
    · have hq := k1 rfl
      refine VX_catch (E := "java/lang/IllegalStateException") hC [(0, 10, 13, 13), (0, 10, 17, 15)] (0, 10, 21, 17) [(0, 10, 25, 40)] rfl (List.forall_mem_cons.mpr ⟨⟨by decide, "java/lang/IndexOutOfBoundsException", aw_2_164, by decide⟩, (List.forall_mem_cons.mpr ⟨⟨by decide, "java/lang/IllegalArgumentException", aw_3_4, by decide⟩, (fun _ h9 => nomatch h9)⟩)⟩) rfl (by decide) aw_3_5 (List.mem_filter.mpr ⟨nw_3_57, rfl⟩) (fun q => ?_)
      show V G Γ 5 3 18 hE3 21 [(0, .ref p0), (1, .int p1), (2, .int p2), (3, .ref p3)] [.ref q]
      refine V_astore (L' := [(0, .ref p0), (1, .int p1), (2, .int p2), (3, .ref p3), (4, .ref q)]) hC dL_putOn_21 (by decide) [1, 2, 3, 4, 0] rfl ?_
      refine V_iconst (v := 3) hC dL_putOn_23 (by decide) ?_
      exact V_iret hC hQ rfl rfl ⟨by decide, by decide⟩ dL_putOn_24 ⟨_, rfl, hq⟩
    · have hq := k2 rfl
      refine VX_catch (E := "java/lang/IndexOutOfBoundsException") hC [] (0, 10, 13, 13) [(0, 10, 17, 15), (0, 10, 21, 17), (0, 10, 25, 40)] rfl (fun _ h9 => nomatch h9) rfl (by decide) aw_2_164 (List.mem_filter.mpr ⟨nw_3_16, rfl⟩) (fun q => ?_)
      show V G Γ 5 3 18 hE3 13 [(0, .ref p0), (1, .int p1), (2, .int p2), (3, .ref p3)] [.ref q]
      refine V_astore (L' := [(0, .ref p0), (1, .int p1), (2, .int p2), (3, .ref p3), (4, .ref q)]) hC dL_putOn_13 (by decide) [1, 2, 3, 4, 0] rfl ?_
      refine V_iconst (v := 1) hC dL_putOn_15 (by decide) ?_
      exact V_iret hC hQ rfl rfl ⟨by decide, by decide⟩ dL_putOn_16 ⟨_, rfl, hq⟩
    · have hq := k3 rfl
      refine VX_catch (E := "java/lang/UnsupportedOperationException") hC [(0, 10, 13, 13), (0, 10, 17, 15), (0, 10, 21, 17)] (0, 10, 25, 40) [] rfl (List.forall_mem_cons.mpr ⟨⟨by decide, "java/lang/IndexOutOfBoundsException", aw_2_164, by decide⟩, (List.forall_mem_cons.mpr ⟨⟨by decide, "java/lang/IllegalArgumentException", aw_3_4, by decide⟩, (List.forall_mem_cons.mpr ⟨⟨by decide, "java/lang/IllegalStateException", aw_3_5, by decide⟩, (fun _ h9 => nomatch h9)⟩)⟩)⟩) rfl (by decide) aw_4_49 (List.mem_filter.mpr ⟨nw_4_62, rfl⟩) (fun q => ?_)
      show V G Γ 5 3 18 hE3 25 [(0, .ref p0), (1, .int p1), (2, .int p2), (3, .ref p3)] [.ref q]
      refine V_astore (L' := [(0, .ref p0), (1, .int p1), (2, .int p2), (3, .ref p3), (4, .ref q)]) hC dL_putOn_25 (by decide) [1, 2, 3, 4, 0] rfl ?_
      refine V_iconst (v := 4) hC dL_putOn_27 (by decide) ?_
      exact V_iret hC hQ rfl rfl ⟨by decide, by decide⟩ dL_putOn_28 ⟨_, rfl, hq⟩
  show V G Γ 5 3 18 h2 8 [(0, .ref p0), (1, .int p1), (2, .int p2), (3, .ref p3)] [.int r1, .int 0, .ref p3]
  refine V_i2l hC dL_putOn_8 ?_
  refine U_stJ hC dL_putOn_9 hq (fun h4 hq => ?_)
  refine V_goto (tgt := 29) hC dL_putOn_10 (by decide) ?_
  refine V_iconst (v := 0) hC dL_putOn_29 (by decide) ?_
  exact V_iret hC hQ rfl rfl ⟨by decide, by decide⟩ dL_putOn_30 ⟨_, rfl, hq⟩
theorem clSX_L_putOn {G : Gx} (hG : GOK G) {Γ : Cx} {own : String} {cc : ByteArray} {nL fr lo mc ms cells slots pc : Nat} {hh : List (Nat × Nat × Nat × Nat)} {h : hw} {L : List (Nat × Value)} {rest : List Value} (hC : COK G Γ own cc nL fr lo mc ms hh) {idx : Nat} (hs : SSX own idx yL_putOn cL_putOn 5 (some .int) [(0, 10, 13, 13), (0, 10, 17, 15), (0, 10, 21, 17), (0, 10, 25, 40)] 4) {p0 : Nat} {p1 : Int32} {p2 : Int32} {p3 : Nat} (hR : 9 + 1 ≤ fr ∧ 8 + (5 + 11) + 195 ≤ lo) (hw8 : (rest.map fun v => v.category).sum ≤ 8) (hcs : cells + 3 ≤ mc ∧ slots + 18 ≤ ms) (hdg : decode cc pc = .ok (.invokestatic idx, 3)) {post : Int32 → hw → Prop} (hq : wp_L_putOn G p0 p1 p2 p3 h post) (kk : ∀ (r : Int32) (h1 : hw), post r h1 → V G Γ nL (cells + 3) (slots + 18) h1 (pc + 3) L (.int r :: rest)) : V G Γ nL cells slots h pc L (.ref p3 :: .int p2 :: .int p1 :: .ref p0 :: rest) :=
  V_callSX (As := [.ref p0, .int p1, .int p2, .ref p3]) hC (ct_L_putOn hG p0 p1 p2 p3 h post hq) hs rfl hR hw8 hcs hdg (fun E h1 z => z.elim) (fun v h1 z => by obtain ⟨r, rfl, hz⟩ := z; exact kk r h1 hz)
set_option maxRecDepth 100000 in
set_option maxHeartbeats 4000000 in
theorem ct_L_putOff {G : Gx} (hG : GOK G) (p0 : Nat) (p1 : Int32) (p2 : Nat) (h0 : hw) (post : Int32 → hw → Prop) (hq : wp_L_putOff G p0 p1 p2 h0 post) : CTW G yL_putOff cL_putOff 4 (some .int) [(0, 9, 12, 13)] 8 138 1 6 [.ref p0, .int p1, .ref p2] h0 (fun v h1 => ∃ r : Int32, v = some (.int r) ∧ post r h1) (fun E h1 => False) := by
  refine CTW_of hG (by decide) (Nat.le_of_ble_eq_true rfl) (fun Γ hC hQ => ?_)
  have hC : COK G Γ "BandplanLaw" cL_putOff 4 8 138 1 6 [(0, 9, 12, 13)] := hC
  unfold wp_L_putOff at hq
  show V G Γ 4 0 0 h0 0 [(0, .ref p0), (1, .int p1), (2, .ref p2)] []
  refine V_aload_n hC dL_putOff_0 2 rfl ?_
  refine V_iconst (v := 0) hC dL_putOff_1 (by decide) ?_
  refine V_aload_n hC dL_putOff_2 0 rfl ?_
  refine V_iload_n hC dL_putOff_3 1 rfl ?_
  obtain ⟨hz, hq⟩ := hq
  refine clV_X11_putOff hG hC sv_L_55 ⟨by decide, by decide⟩ (Nat.le_of_ble_eq_true rfl) ⟨by decide, by decide⟩ dL_putOff_4 hz hq ?_ (fun r1 h2 hq => ?_)
  · intro E hE3 hx
    obtain ⟨k0, ho⟩ := hx
    subst ho
    have hq := k0 rfl
    refine VX_catch (E := "java/lang/IndexOutOfBoundsException") hC [] (0, 9, 12, 13) [] rfl (fun _ h9 => nomatch h9) rfl (by decide) aw_2_164 (List.mem_filter.mpr ⟨nw_3_16, rfl⟩) (fun q => ?_)
    show V G Γ 4 1 6 hE3 12 [(0, .ref p0), (1, .int p1), (2, .ref p2)] [.ref q]
    refine V_astore_n (L' := [(0, .ref p0), (1, .int p1), (2, .ref p2), (3, .ref q)]) hC dL_putOff_12 rfl (by decide) [1, 2, 3, 0] rfl ?_
    refine V_iconst (v := 1) hC dL_putOff_13 (by decide) ?_
    exact V_iret hC hQ rfl rfl ⟨by decide, by decide⟩ dL_putOff_14 ⟨_, rfl, hq⟩
  show V G Γ 4 1 6 h2 7 [(0, .ref p0), (1, .int p1), (2, .ref p2)] [.int r1, .int 0, .ref p2]
  refine V_i2l hC dL_putOff_7 ?_
  refine U_stJ hC dL_putOff_8 hq (fun h4 hq => ?_)
  refine V_goto (tgt := 15) hC dL_putOff_9 (by decide) ?_
  refine V_iconst (v := 0) hC dL_putOff_15 (by decide) ?_
  exact V_iret hC hQ rfl rfl ⟨by decide, by decide⟩ dL_putOff_16 ⟨_, rfl, hq⟩
theorem clSX_L_putOff {G : Gx} (hG : GOK G) {Γ : Cx} {own : String} {cc : ByteArray} {nL fr lo mc ms cells slots pc : Nat} {hh : List (Nat × Nat × Nat × Nat)} {h : hw} {L : List (Nat × Value)} {rest : List Value} (hC : COK G Γ own cc nL fr lo mc ms hh) {idx : Nat} (hs : SSX own idx yL_putOff cL_putOff 4 (some .int) [(0, 9, 12, 13)] 3) {p0 : Nat} {p1 : Int32} {p2 : Nat} (hR : 8 + 1 ≤ fr ∧ 8 + (4 + 11) + 138 ≤ lo) (hw8 : (rest.map fun v => v.category).sum ≤ 8) (hcs : cells + 1 ≤ mc ∧ slots + 6 ≤ ms) (hdg : decode cc pc = .ok (.invokestatic idx, 3)) {post : Int32 → hw → Prop} (hq : wp_L_putOff G p0 p1 p2 h post) (kk : ∀ (r : Int32) (h1 : hw), post r h1 → V G Γ nL (cells + 1) (slots + 6) h1 (pc + 3) L (.int r :: rest)) : V G Γ nL cells slots h pc L (.ref p2 :: .int p1 :: .ref p0 :: rest) :=
  V_callSX (As := [.ref p0, .int p1, .ref p2]) hC (ct_L_putOff hG p0 p1 p2 h post hq) hs rfl hR hw8 hcs hdg (fun E h1 z => z.elim) (fun v h1 z => by obtain ⟨r, rfl, hz⟩ := z; exact kk r h1 hz)
set_option maxRecDepth 100000 in
set_option maxHeartbeats 4000000 in
theorem ct_L_channelOf {G : Gx} (hG : GOK G) (p0 : Nat) (p1 : Int32) (p2 : Int32) (p3 : Nat) (h0 : hw) (post : Int32 → hw → Prop) (hq : wp_L_channelOf G p0 p1 p2 p3 h0 post) : CTW G yL_channelOf cL_channelOf 5 (some .int) [(0, 10, 13, 13), (0, 10, 17, 15)] 8 138 2 12 [.ref p0, .int p1, .int p2, .ref p3] h0 (fun v h1 => ∃ r : Int32, v = some (.int r) ∧ post r h1) (fun E h1 => False) := by
  refine CTW_of hG (by decide) (Nat.le_of_ble_eq_true rfl) (fun Γ hC hQ => ?_)
  have hC : COK G Γ "BandplanLaw" cL_channelOf 5 8 138 2 12 [(0, 10, 13, 13), (0, 10, 17, 15)] := hC
  unfold wp_L_channelOf at hq
  show V G Γ 5 0 0 h0 0 [(0, .ref p0), (1, .int p1), (2, .int p2), (3, .ref p3)] []
  refine V_aload_n hC dL_channelOf_0 3 rfl ?_
  refine V_iconst (v := 0) hC dL_channelOf_1 (by decide) ?_
  refine V_aload_n hC dL_channelOf_2 0 rfl ?_
  refine V_iload_n hC dL_channelOf_3 1 rfl ?_
  refine V_iload_n hC dL_channelOf_4 2 rfl ?_
  obtain ⟨hz, hq⟩ := hq
  refine clV_X11_channelOf hG hC sv_L_58 ⟨by decide, by decide⟩ (Nat.le_of_ble_eq_true rfl) ⟨by decide, by decide⟩ dL_channelOf_5 hz hq ?_ (fun r1 hq => ?_)
  · intro E hx
    obtain ⟨k0, k1, ho⟩ := hx
    rcases ho with rfl | rfl
    · have hq := k0 rfl
      refine VX_catch (E := "java/lang/IllegalArgumentException") hC [(0, 10, 13, 13)] (0, 10, 17, 15) [] rfl (List.forall_mem_cons.mpr ⟨⟨by decide, "java/lang/IndexOutOfBoundsException", aw_2_164, by decide⟩, (fun _ h9 => nomatch h9)⟩) rfl (by decide) aw_3_4 (List.mem_filter.mpr ⟨nw_3_33, rfl⟩) (fun q => ?_)
      show V G Γ 5 2 12 h0 17 [(0, .ref p0), (1, .int p1), (2, .int p2), (3, .ref p3)] [.ref q]
      refine V_astore (L' := [(0, .ref p0), (1, .int p1), (2, .int p2), (3, .ref p3), (4, .ref q)]) hC dL_channelOf_17 (by decide) [1, 2, 3, 4, 0] rfl ?_
      refine V_iconst (v := 2) hC dL_channelOf_19 (by decide) ?_
      exact V_iret hC hQ rfl rfl ⟨by decide, by decide⟩ dL_channelOf_20 ⟨_, rfl, hq⟩
    · have hq := k1 rfl
      refine VX_catch (E := "java/lang/IndexOutOfBoundsException") hC [] (0, 10, 13, 13) [(0, 10, 17, 15)] rfl (fun _ h9 => nomatch h9) rfl (by decide) aw_2_164 (List.mem_filter.mpr ⟨nw_3_16, rfl⟩) (fun q => ?_)
      show V G Γ 5 2 12 h0 13 [(0, .ref p0), (1, .int p1), (2, .int p2), (3, .ref p3)] [.ref q]
      refine V_astore (L' := [(0, .ref p0), (1, .int p1), (2, .int p2), (3, .ref p3), (4, .ref q)]) hC dL_channelOf_13 (by decide) [1, 2, 3, 4, 0] rfl ?_
      refine V_iconst (v := 1) hC dL_channelOf_15 (by decide) ?_
      exact V_iret hC hQ rfl rfl ⟨by decide, by decide⟩ dL_channelOf_16 ⟨_, rfl, hq⟩
  show V G Γ 5 2 12 h0 8 [(0, .ref p0), (1, .int p1), (2, .int p2), (3, .ref p3)] [.int r1, .int 0, .ref p3]
  refine V_i2l hC dL_channelOf_8 ?_
  refine U_stJ hC dL_channelOf_9 hq (fun h2 hq => ?_)
  refine V_goto (tgt := 21) hC dL_channelOf_10 (by decide) ?_
  refine V_iconst (v := 0) hC dL_channelOf_21 (by decide) ?_
  exact V_iret hC hQ rfl rfl ⟨by decide, by decide⟩ dL_channelOf_22 ⟨_, rfl, hq⟩
theorem clSX_L_channelOf {G : Gx} (hG : GOK G) {Γ : Cx} {own : String} {cc : ByteArray} {nL fr lo mc ms cells slots pc : Nat} {hh : List (Nat × Nat × Nat × Nat)} {h : hw} {L : List (Nat × Value)} {rest : List Value} (hC : COK G Γ own cc nL fr lo mc ms hh) {idx : Nat} (hs : SSX own idx yL_channelOf cL_channelOf 5 (some .int) [(0, 10, 13, 13), (0, 10, 17, 15)] 4) {p0 : Nat} {p1 : Int32} {p2 : Int32} {p3 : Nat} (hR : 8 + 1 ≤ fr ∧ 8 + (5 + 11) + 138 ≤ lo) (hw8 : (rest.map fun v => v.category).sum ≤ 8) (hcs : cells + 2 ≤ mc ∧ slots + 12 ≤ ms) (hdg : decode cc pc = .ok (.invokestatic idx, 3)) {post : Int32 → hw → Prop} (hq : wp_L_channelOf G p0 p1 p2 p3 h post) (kk : ∀ (r : Int32) (h1 : hw), post r h1 → V G Γ nL (cells + 2) (slots + 12) h1 (pc + 3) L (.int r :: rest)) : V G Γ nL cells slots h pc L (.ref p3 :: .int p2 :: .int p1 :: .ref p0 :: rest) :=
  V_callSX (As := [.ref p0, .int p1, .int p2, .ref p3]) hC (ct_L_channelOf hG p0 p1 p2 p3 h post hq) hs rfl hR hw8 hcs hdg (fun E h1 z => z.elim) (fun v h1 z => by obtain ⟨r, rfl, hz⟩ := z; exact kk r h1 hz)
set_option maxRecDepth 100000 in
set_option maxHeartbeats 4000000 in
theorem ct_L_setForeign {G : Gx} (hG : GOK G) (p0 : Nat) (p1 : Int32) (p2 : Int32) (p3 : Nat) (h0 : hw) (post : Int32 → hw → Prop) (hq : wp_L_setForeign G p0 p1 p2 p3 h0 post) : CTW G yL_setForeign cL_setForeign 5 (some .int) [(0, 17, 20, 15)] 9 157 1 6 [.ref p0, .int p1, .int p2, .ref p3] h0 (fun v h1 => ∃ r : Int32, v = some (.int r) ∧ post r h1) (fun E h1 => False) := by
  refine CTW_of hG (by decide) (Nat.le_of_ble_eq_true rfl) (fun Γ hC hQ => ?_)
  have hC : COK G Γ "BandplanLaw" cL_setForeign 5 9 157 1 6 [(0, 17, 20, 15)] := hC
  unfold wp_L_setForeign at hq
  show V G Γ 5 0 0 h0 0 [(0, .ref p0), (1, .int p1), (2, .int p2), (3, .ref p3)] []
  refine V_aload_n hC dL_setForeign_0 3 rfl ?_
  refine V_iconst (v := 0) hC dL_setForeign_1 (by decide) ?_
  refine V_aload_n hC dL_setForeign_2 0 rfl ?_
  refine V_iload_n hC dL_setForeign_3 1 rfl ?_
  refine V_iload_n hC dL_setForeign_4 2 rfl ?_
  obtain ⟨hz, hq⟩ := hq
  refine clV_X11_setForeign hG hC sv_L_61 ⟨by decide, by decide⟩ (Nat.le_of_ble_eq_true rfl) ⟨by decide, by decide⟩ dL_setForeign_5 hz hq ?_ (fun r1 h2 hq => ?_)
  · intro E hE3 hx
    obtain ⟨k0, ho⟩ := hx
    subst ho
    have hq := k0 rfl
    refine VX_catch (E := "java/lang/IllegalArgumentException") hC [] (0, 17, 20, 15) [] rfl (fun _ h9 => nomatch h9) rfl (by decide) aw_3_4 (List.mem_filter.mpr ⟨nw_3_33, rfl⟩) (fun q => ?_)
    show V G Γ 5 1 6 hE3 20 [(0, .ref p0), (1, .int p1), (2, .int p2), (3, .ref p3)] [.ref q]
    refine V_astore (L' := [(0, .ref p0), (1, .int p1), (2, .int p2), (3, .ref p3), (4, .ref q)]) hC dL_setForeign_20 (by decide) [1, 2, 3, 4, 0] rfl ?_
    refine V_iconst (v := 1) hC dL_setForeign_22 (by decide) ?_
    exact V_iret hC hQ rfl rfl ⟨by decide, by decide⟩ dL_setForeign_23 ⟨_, rfl, hq⟩
  show V G Γ 5 1 6 h2 8 [(0, .ref p0), (1, .int p1), (2, .int p2), (3, .ref p3)] [.int r1, .int 0, .ref p3]
  have hq := hq (fun (t4 : Nat) (t5 : Int32) (t6 : Int64) => V G Γ 5 1 6 h2 16 [] [.long t6, .int t5, .ref t4]) (by
    intro t4 t5 t6 hq
    show V G Γ 5 1 6 h2 16 [] [.long t6, .int t5, .ref t4]
    refine U_stJ hC dL_setForeign_16 hq (fun h7 hq => ?_)
    refine V_goto (tgt := 24) hC dL_setForeign_17 (by decide) ?_
    refine V_iconst (v := 0) hC dL_setForeign_24 (by decide) ?_
    exact V_iret hC hQ rfl rfl ⟨by decide, by decide⟩ dL_setForeign_25 ⟨_, rfl, hq⟩)
  refine V_if_eq (tgt := 15) hC dL_setForeign_8 (by decide) (fun hc => ?_) (fun hc => ?_)
  · have hq := hq.1 hc
    refine V_lconst (v := 0) hC dL_setForeign_15 (by decide) ?_
    refine V_sub [] rfl ?_
    exact hq
  · have hq := hq.2 hc
    refine V_lconst (v := 1) hC dL_setForeign_11 (by decide) ?_
    refine V_goto (tgt := 16) hC dL_setForeign_12 (by decide) ?_
    refine V_sub [] rfl ?_
    exact hq
theorem clSX_L_setForeign {G : Gx} (hG : GOK G) {Γ : Cx} {own : String} {cc : ByteArray} {nL fr lo mc ms cells slots pc : Nat} {hh : List (Nat × Nat × Nat × Nat)} {h : hw} {L : List (Nat × Value)} {rest : List Value} (hC : COK G Γ own cc nL fr lo mc ms hh) {idx : Nat} (hs : SSX own idx yL_setForeign cL_setForeign 5 (some .int) [(0, 17, 20, 15)] 4) {p0 : Nat} {p1 : Int32} {p2 : Int32} {p3 : Nat} (hR : 9 + 1 ≤ fr ∧ 8 + (5 + 11) + 157 ≤ lo) (hw8 : (rest.map fun v => v.category).sum ≤ 8) (hcs : cells + 1 ≤ mc ∧ slots + 6 ≤ ms) (hdg : decode cc pc = .ok (.invokestatic idx, 3)) {post : Int32 → hw → Prop} (hq : wp_L_setForeign G p0 p1 p2 p3 h post) (kk : ∀ (r : Int32) (h1 : hw), post r h1 → V G Γ nL (cells + 1) (slots + 6) h1 (pc + 3) L (.int r :: rest)) : V G Γ nL cells slots h pc L (.ref p3 :: .int p2 :: .int p1 :: .ref p0 :: rest) :=
  V_callSX (As := [.ref p0, .int p1, .int p2, .ref p3]) hC (ct_L_setForeign hG p0 p1 p2 p3 h post hq) hs rfl hR hw8 hcs hdg (fun E h1 z => z.elim) (fun v h1 z => by obtain ⟨r, rfl, hz⟩ := z; exact kk r h1 hz)
set_option maxRecDepth 100000 in
set_option maxHeartbeats 4000000 in
theorem ct_L_askAbroad {G : Gx} (hG : GOK G) (p0 : Nat) (p1 : Int32) (p2 : Int32) (p3 : Nat) (h0 : hw) (post : Int32 → hw → Prop) (hq : wp_L_askAbroad G p0 p1 p2 p3 h0 post) : CTW G yL_askAbroad cL_askAbroad 5 (some .int) [(0, 10, 13, 13), (0, 10, 17, 15)] 9 157 2 12 [.ref p0, .int p1, .int p2, .ref p3] h0 (fun v h1 => ∃ r : Int32, v = some (.int r) ∧ post r h1) (fun E h1 => False) := by
  refine CTW_of hG (by decide) (Nat.le_of_ble_eq_true rfl) (fun Γ hC hQ => ?_)
  have hC : COK G Γ "BandplanLaw" cL_askAbroad 5 9 157 2 12 [(0, 10, 13, 13), (0, 10, 17, 15)] := hC
  unfold wp_L_askAbroad at hq
  show V G Γ 5 0 0 h0 0 [(0, .ref p0), (1, .int p1), (2, .int p2), (3, .ref p3)] []
  refine V_aload_n hC dL_askAbroad_0 3 rfl ?_
  refine V_iconst (v := 0) hC dL_askAbroad_1 (by decide) ?_
  refine V_aload_n hC dL_askAbroad_2 0 rfl ?_
  refine V_iload_n hC dL_askAbroad_3 1 rfl ?_
  refine V_iload_n hC dL_askAbroad_4 2 rfl ?_
  obtain ⟨hz, hq⟩ := hq
  refine clV_X11_askAbroad hG hC sv_L_65 ⟨by decide, by decide⟩ (Nat.le_of_ble_eq_true rfl) ⟨by decide, by decide⟩ dL_askAbroad_5 hz hq ?_ (fun r1 h2 hq => ?_)
  · intro E hE3 hx
    obtain ⟨k0, k1, ho⟩ := hx
    rcases ho with rfl | rfl
    · have hq := k0 rfl
      refine VX_catch (E := "java/lang/IllegalArgumentException") hC [(0, 10, 13, 13)] (0, 10, 17, 15) [] rfl (List.forall_mem_cons.mpr ⟨⟨by decide, "java/lang/IndexOutOfBoundsException", aw_2_164, by decide⟩, (fun _ h9 => nomatch h9)⟩) rfl (by decide) aw_3_4 (List.mem_filter.mpr ⟨nw_3_33, rfl⟩) (fun q => ?_)
      show V G Γ 5 2 12 hE3 17 [(0, .ref p0), (1, .int p1), (2, .int p2), (3, .ref p3)] [.ref q]
      refine V_astore (L' := [(0, .ref p0), (1, .int p1), (2, .int p2), (3, .ref p3), (4, .ref q)]) hC dL_askAbroad_17 (by decide) [1, 2, 3, 4, 0] rfl ?_
      refine V_iconst (v := 2) hC dL_askAbroad_19 (by decide) ?_
      exact V_iret hC hQ rfl rfl ⟨by decide, by decide⟩ dL_askAbroad_20 ⟨_, rfl, hq⟩
    · have hq := k1 rfl
      refine VX_catch (E := "java/lang/IndexOutOfBoundsException") hC [] (0, 10, 13, 13) [(0, 10, 17, 15)] rfl (fun _ h9 => nomatch h9) rfl (by decide) aw_2_164 (List.mem_filter.mpr ⟨nw_3_16, rfl⟩) (fun q => ?_)
      show V G Γ 5 2 12 hE3 13 [(0, .ref p0), (1, .int p1), (2, .int p2), (3, .ref p3)] [.ref q]
      refine V_astore (L' := [(0, .ref p0), (1, .int p1), (2, .int p2), (3, .ref p3), (4, .ref q)]) hC dL_askAbroad_13 (by decide) [1, 2, 3, 4, 0] rfl ?_
      refine V_iconst (v := 1) hC dL_askAbroad_15 (by decide) ?_
      exact V_iret hC hQ rfl rfl ⟨by decide, by decide⟩ dL_askAbroad_16 ⟨_, rfl, hq⟩
  show V G Γ 5 2 12 h2 8 [(0, .ref p0), (1, .int p1), (2, .int p2), (3, .ref p3)] [.int r1, .int 0, .ref p3]
  refine V_i2l hC dL_askAbroad_8 ?_
  refine U_stJ hC dL_askAbroad_9 hq (fun h4 hq => ?_)
  refine V_goto (tgt := 21) hC dL_askAbroad_10 (by decide) ?_
  refine V_iconst (v := 0) hC dL_askAbroad_21 (by decide) ?_
  exact V_iret hC hQ rfl rfl ⟨by decide, by decide⟩ dL_askAbroad_22 ⟨_, rfl, hq⟩
theorem clSX_L_askAbroad {G : Gx} (hG : GOK G) {Γ : Cx} {own : String} {cc : ByteArray} {nL fr lo mc ms cells slots pc : Nat} {hh : List (Nat × Nat × Nat × Nat)} {h : hw} {L : List (Nat × Value)} {rest : List Value} (hC : COK G Γ own cc nL fr lo mc ms hh) {idx : Nat} (hs : SSX own idx yL_askAbroad cL_askAbroad 5 (some .int) [(0, 10, 13, 13), (0, 10, 17, 15)] 4) {p0 : Nat} {p1 : Int32} {p2 : Int32} {p3 : Nat} (hR : 9 + 1 ≤ fr ∧ 8 + (5 + 11) + 157 ≤ lo) (hw8 : (rest.map fun v => v.category).sum ≤ 8) (hcs : cells + 2 ≤ mc ∧ slots + 12 ≤ ms) (hdg : decode cc pc = .ok (.invokestatic idx, 3)) {post : Int32 → hw → Prop} (hq : wp_L_askAbroad G p0 p1 p2 p3 h post) (kk : ∀ (r : Int32) (h1 : hw), post r h1 → V G Γ nL (cells + 2) (slots + 12) h1 (pc + 3) L (.int r :: rest)) : V G Γ nL cells slots h pc L (.ref p3 :: .int p2 :: .int p1 :: .ref p0 :: rest) :=
  V_callSX (As := [.ref p0, .int p1, .int p2, .ref p3]) hC (ct_L_askAbroad hG p0 p1 p2 p3 h post hq) hs rfl hR hw8 hcs hdg (fun E h1 z => z.elim) (fun v h1 z => by obtain ⟨r, rfl, hz⟩ := z; exact kk r h1 hz)
set_option maxRecDepth 100000 in
set_option maxHeartbeats 4000000 in
theorem ct_L_object {G : Gx} (hG : GOK G) (p0 : Nat) (p1 : Int32) (p2 : Int32) (p3 : Nat) (h0 : hw) (post : Int32 → hw → Prop) (hq : wp_L_object G p0 p1 p2 p3 h0 post) : CTW G yL_object cL_object 5 (some .int) [(0, 17, 20, 13), (0, 17, 24, 15), (0, 17, 28, 42)] 9 157 3 18 [.ref p0, .int p1, .int p2, .ref p3] h0 (fun v h1 => ∃ r : Int32, v = some (.int r) ∧ post r h1) (fun E h1 => False) := by
  refine CTW_of hG (by decide) (Nat.le_of_ble_eq_true rfl) (fun Γ hC hQ => ?_)
  have hC : COK G Γ "BandplanLaw" cL_object 5 9 157 3 18 [(0, 17, 20, 13), (0, 17, 24, 15), (0, 17, 28, 42)] := hC
  unfold wp_L_object at hq
  show V G Γ 5 0 0 h0 0 [(0, .ref p0), (1, .int p1), (2, .int p2), (3, .ref p3)] []
  refine V_aload_n hC dL_object_0 3 rfl ?_
  refine V_iconst (v := 0) hC dL_object_1 (by decide) ?_
  refine V_aload_n hC dL_object_2 0 rfl ?_
  refine V_iload_n hC dL_object_3 1 rfl ?_
  refine V_iload_n hC dL_object_4 2 rfl ?_
  obtain ⟨hz, hq⟩ := hq
  refine clV_X11_object hG hC sv_L_68 ⟨by decide, by decide⟩ (Nat.le_of_ble_eq_true rfl) ⟨by decide, by decide⟩ dL_object_5 hz hq ?_ (fun r1 h2 hq => ?_)
  · intro E hE3 hx
    obtain ⟨k0, k1, k2, ho⟩ := hx
    rcases ho with rfl | rfl | rfl
    · have hq := k0 rfl
      refine VX_catch (E := "java/lang/IllegalArgumentException") hC [(0, 17, 20, 13)] (0, 17, 24, 15) [(0, 17, 28, 42)] rfl (List.forall_mem_cons.mpr ⟨⟨by decide, "java/lang/IndexOutOfBoundsException", aw_2_164, by decide⟩, (fun _ h9 => nomatch h9)⟩) rfl (by decide) aw_3_4 (List.mem_filter.mpr ⟨nw_3_33, rfl⟩) (fun q => ?_)
      show V G Γ 5 3 18 hE3 24 [(0, .ref p0), (1, .int p1), (2, .int p2), (3, .ref p3)] [.ref q]
      refine V_astore (L' := [(0, .ref p0), (1, .int p1), (2, .int p2), (3, .ref p3), (4, .ref q)]) hC dL_object_24 (by decide) [1, 2, 3, 4, 0] rfl ?_
      refine V_iconst (v := 2) hC dL_object_26 (by decide) ?_
      exact V_iret hC hQ rfl rfl ⟨by decide, by decide⟩ dL_object_27 ⟨_, rfl, hq⟩
    · have hq := k1 rfl
      refine VX_catch (E := "java/lang/IndexOutOfBoundsException") hC [] (0, 17, 20, 13) [(0, 17, 24, 15), (0, 17, 28, 42)] rfl (fun _ h9 => nomatch h9) rfl (by decide) aw_2_164 (List.mem_filter.mpr ⟨nw_3_16, rfl⟩) (fun q => ?_)
      show V G Γ 5 3 18 hE3 20 [(0, .ref p0), (1, .int p1), (2, .int p2), (3, .ref p3)] [.ref q]
      refine V_astore (L' := [(0, .ref p0), (1, .int p1), (2, .int p2), (3, .ref p3), (4, .ref q)]) hC dL_object_20 (by decide) [1, 2, 3, 4, 0] rfl ?_
      refine V_iconst (v := 1) hC dL_object_22 (by decide) ?_
      exact V_iret hC hQ rfl rfl ⟨by decide, by decide⟩ dL_object_23 ⟨_, rfl, hq⟩
    · have hq := k2 rfl
      refine VX_catch (E := "java/util/NoSuchElementException") hC [(0, 17, 20, 13), (0, 17, 24, 15)] (0, 17, 28, 42) [] rfl (List.forall_mem_cons.mpr ⟨⟨by decide, "java/lang/IndexOutOfBoundsException", aw_2_164, by decide⟩, (List.forall_mem_cons.mpr ⟨⟨by decide, "java/lang/IllegalArgumentException", aw_3_4, by decide⟩, (fun _ h9 => nomatch h9)⟩)⟩) rfl (by decide) aw_4_50 (List.mem_filter.mpr ⟨nw_4_80, rfl⟩) (fun q => ?_)
      show V G Γ 5 3 18 hE3 28 [(0, .ref p0), (1, .int p1), (2, .int p2), (3, .ref p3)] [.ref q]
      refine V_astore (L' := [(0, .ref p0), (1, .int p1), (2, .int p2), (3, .ref p3), (4, .ref q)]) hC dL_object_28 (by decide) [1, 2, 3, 4, 0] rfl ?_
      refine V_iconst (v := 3) hC dL_object_30 (by decide) ?_
      exact V_iret hC hQ rfl rfl ⟨by decide, by decide⟩ dL_object_31 ⟨_, rfl, hq⟩
  show V G Γ 5 3 18 h2 8 [(0, .ref p0), (1, .int p1), (2, .int p2), (3, .ref p3)] [.int r1, .int 0, .ref p3]
  have hq := hq (fun (t4 : Nat) (t5 : Int32) (t6 : Int64) => V G Γ 5 3 18 h2 16 [] [.long t6, .int t5, .ref t4]) (by
    intro t4 t5 t6 hq
    show V G Γ 5 3 18 h2 16 [] [.long t6, .int t5, .ref t4]
    refine U_stJ hC dL_object_16 hq (fun h7 hq => ?_)
    refine V_goto (tgt := 32) hC dL_object_17 (by decide) ?_
    refine V_iconst (v := 0) hC dL_object_32 (by decide) ?_
    exact V_iret hC hQ rfl rfl ⟨by decide, by decide⟩ dL_object_33 ⟨_, rfl, hq⟩)
  refine V_if_eq (tgt := 15) hC dL_object_8 (by decide) (fun hc => ?_) (fun hc => ?_)
  · have hq := hq.1 hc
    refine V_lconst (v := 0) hC dL_object_15 (by decide) ?_
    refine V_sub [] rfl ?_
    exact hq
  · have hq := hq.2 hc
    refine V_lconst (v := 1) hC dL_object_11 (by decide) ?_
    refine V_goto (tgt := 16) hC dL_object_12 (by decide) ?_
    refine V_sub [] rfl ?_
    exact hq
theorem clSX_L_object {G : Gx} (hG : GOK G) {Γ : Cx} {own : String} {cc : ByteArray} {nL fr lo mc ms cells slots pc : Nat} {hh : List (Nat × Nat × Nat × Nat)} {h : hw} {L : List (Nat × Value)} {rest : List Value} (hC : COK G Γ own cc nL fr lo mc ms hh) {idx : Nat} (hs : SSX own idx yL_object cL_object 5 (some .int) [(0, 17, 20, 13), (0, 17, 24, 15), (0, 17, 28, 42)] 4) {p0 : Nat} {p1 : Int32} {p2 : Int32} {p3 : Nat} (hR : 9 + 1 ≤ fr ∧ 8 + (5 + 11) + 157 ≤ lo) (hw8 : (rest.map fun v => v.category).sum ≤ 8) (hcs : cells + 3 ≤ mc ∧ slots + 18 ≤ ms) (hdg : decode cc pc = .ok (.invokestatic idx, 3)) {post : Int32 → hw → Prop} (hq : wp_L_object G p0 p1 p2 p3 h post) (kk : ∀ (r : Int32) (h1 : hw), post r h1 → V G Γ nL (cells + 3) (slots + 18) h1 (pc + 3) L (.int r :: rest)) : V G Γ nL cells slots h pc L (.ref p3 :: .int p2 :: .int p1 :: .ref p0 :: rest) :=
  V_callSX (As := [.ref p0, .int p1, .int p2, .ref p3]) hC (ct_L_object hG p0 p1 p2 p3 h post hq) hs rfl hR hw8 hcs hdg (fun E h1 z => z.elim) (fun v h1 z => by obtain ⟨r, rfl, hz⟩ := z; exact kk r h1 hz)
set_option maxRecDepth 100000 in
set_option maxHeartbeats 4000000 in
theorem ct_L_hasYes {G : Gx} (hG : GOK G) (p0 : Nat) (p1 : Int32) (p2 : Int32) (p3 : Nat) (h0 : hw) (post : Int32 → hw → Prop) (hq : wp_L_hasYes G p0 p1 p2 p3 h0 post) : CTW G yL_hasYes cL_hasYes 5 (some .int) [(0, 17, 20, 13), (0, 17, 24, 15)] 9 157 2 12 [.ref p0, .int p1, .int p2, .ref p3] h0 (fun v h1 => ∃ r : Int32, v = some (.int r) ∧ post r h1) (fun E h1 => False) := by
  refine CTW_of hG (by decide) (Nat.le_of_ble_eq_true rfl) (fun Γ hC hQ => ?_)
  have hC : COK G Γ "BandplanLaw" cL_hasYes 5 9 157 2 12 [(0, 17, 20, 13), (0, 17, 24, 15)] := hC
  unfold wp_L_hasYes at hq
  show V G Γ 5 0 0 h0 0 [(0, .ref p0), (1, .int p1), (2, .int p2), (3, .ref p3)] []
  refine V_aload_n hC dL_hasYes_0 3 rfl ?_
  refine V_iconst (v := 0) hC dL_hasYes_1 (by decide) ?_
  refine V_aload_n hC dL_hasYes_2 0 rfl ?_
  refine V_iload_n hC dL_hasYes_3 1 rfl ?_
  refine V_iload_n hC dL_hasYes_4 2 rfl ?_
  obtain ⟨hz, hq⟩ := hq
  refine clV_X11_hasYes hG hC sv_L_72 ⟨by decide, by decide⟩ (Nat.le_of_ble_eq_true rfl) ⟨by decide, by decide⟩ dL_hasYes_5 hz hq ?_ (fun r1 hq => ?_)
  · intro E hx
    obtain ⟨k0, k1, ho⟩ := hx
    rcases ho with rfl | rfl
    · have hq := k0 rfl
      refine VX_catch (E := "java/lang/IllegalArgumentException") hC [(0, 17, 20, 13)] (0, 17, 24, 15) [] rfl (List.forall_mem_cons.mpr ⟨⟨by decide, "java/lang/IndexOutOfBoundsException", aw_2_164, by decide⟩, (fun _ h9 => nomatch h9)⟩) rfl (by decide) aw_3_4 (List.mem_filter.mpr ⟨nw_3_33, rfl⟩) (fun q => ?_)
      show V G Γ 5 2 12 h0 24 [(0, .ref p0), (1, .int p1), (2, .int p2), (3, .ref p3)] [.ref q]
      refine V_astore (L' := [(0, .ref p0), (1, .int p1), (2, .int p2), (3, .ref p3), (4, .ref q)]) hC dL_hasYes_24 (by decide) [1, 2, 3, 4, 0] rfl ?_
      refine V_iconst (v := 2) hC dL_hasYes_26 (by decide) ?_
      exact V_iret hC hQ rfl rfl ⟨by decide, by decide⟩ dL_hasYes_27 ⟨_, rfl, hq⟩
    · have hq := k1 rfl
      refine VX_catch (E := "java/lang/IndexOutOfBoundsException") hC [] (0, 17, 20, 13) [(0, 17, 24, 15)] rfl (fun _ h9 => nomatch h9) rfl (by decide) aw_2_164 (List.mem_filter.mpr ⟨nw_3_16, rfl⟩) (fun q => ?_)
      show V G Γ 5 2 12 h0 20 [(0, .ref p0), (1, .int p1), (2, .int p2), (3, .ref p3)] [.ref q]
      refine V_astore (L' := [(0, .ref p0), (1, .int p1), (2, .int p2), (3, .ref p3), (4, .ref q)]) hC dL_hasYes_20 (by decide) [1, 2, 3, 4, 0] rfl ?_
      refine V_iconst (v := 1) hC dL_hasYes_22 (by decide) ?_
      exact V_iret hC hQ rfl rfl ⟨by decide, by decide⟩ dL_hasYes_23 ⟨_, rfl, hq⟩
  show V G Γ 5 2 12 h0 8 [(0, .ref p0), (1, .int p1), (2, .int p2), (3, .ref p3)] [.int r1, .int 0, .ref p3]
  have hq := hq (fun (t2 : Nat) (t3 : Int32) (t4 : Int64) => V G Γ 5 2 12 h0 16 [] [.long t4, .int t3, .ref t2]) (by
    intro t2 t3 t4 hq
    show V G Γ 5 2 12 h0 16 [] [.long t4, .int t3, .ref t2]
    refine U_stJ hC dL_hasYes_16 hq (fun h5 hq => ?_)
    refine V_goto (tgt := 28) hC dL_hasYes_17 (by decide) ?_
    refine V_iconst (v := 0) hC dL_hasYes_28 (by decide) ?_
    exact V_iret hC hQ rfl rfl ⟨by decide, by decide⟩ dL_hasYes_29 ⟨_, rfl, hq⟩)
  refine V_if_eq (tgt := 15) hC dL_hasYes_8 (by decide) (fun hc => ?_) (fun hc => ?_)
  · have hq := hq.1 hc
    refine V_lconst (v := 0) hC dL_hasYes_15 (by decide) ?_
    refine V_sub [] rfl ?_
    exact hq
  · have hq := hq.2 hc
    refine V_lconst (v := 1) hC dL_hasYes_11 (by decide) ?_
    refine V_goto (tgt := 16) hC dL_hasYes_12 (by decide) ?_
    refine V_sub [] rfl ?_
    exact hq
theorem clSX_L_hasYes {G : Gx} (hG : GOK G) {Γ : Cx} {own : String} {cc : ByteArray} {nL fr lo mc ms cells slots pc : Nat} {hh : List (Nat × Nat × Nat × Nat)} {h : hw} {L : List (Nat × Value)} {rest : List Value} (hC : COK G Γ own cc nL fr lo mc ms hh) {idx : Nat} (hs : SSX own idx yL_hasYes cL_hasYes 5 (some .int) [(0, 17, 20, 13), (0, 17, 24, 15)] 4) {p0 : Nat} {p1 : Int32} {p2 : Int32} {p3 : Nat} (hR : 9 + 1 ≤ fr ∧ 8 + (5 + 11) + 157 ≤ lo) (hw8 : (rest.map fun v => v.category).sum ≤ 8) (hcs : cells + 2 ≤ mc ∧ slots + 12 ≤ ms) (hdg : decode cc pc = .ok (.invokestatic idx, 3)) {post : Int32 → hw → Prop} (hq : wp_L_hasYes G p0 p1 p2 p3 h post) (kk : ∀ (r : Int32) (h1 : hw), post r h1 → V G Γ nL (cells + 2) (slots + 12) h1 (pc + 3) L (.int r :: rest)) : V G Γ nL cells slots h pc L (.ref p3 :: .int p2 :: .int p1 :: .ref p0 :: rest) :=
  V_callSX (As := [.ref p0, .int p1, .int p2, .ref p3]) hC (ct_L_hasYes hG p0 p1 p2 p3 h post hq) hs rfl hR hw8 hcs hdg (fun E h1 z => z.elim) (fun v h1 z => by obtain ⟨r, rfl, hz⟩ := z; exact kk r h1 hz)
set_option maxRecDepth 100000 in
set_option maxHeartbeats 4000000 in
theorem ct_L_goOn {G : Gx} (hG : GOK G) (p0 : Nat) (p1 : Int32) (p2 : Nat) (h0 : hw) (post : Int32 → hw → Prop) (hq : wp_L_goOn G p0 p1 p2 h0 post) : CTW G yL_goOn cL_goOn 4 (some .int) [(0, 9, 12, 15)] 8 134 1 6 [.ref p0, .int p1, .ref p2] h0 (fun v h1 => ∃ r : Int32, v = some (.int r) ∧ post r h1) (fun E h1 => False) := by
  refine CTW_of hG (by decide) (Nat.le_of_ble_eq_true rfl) (fun Γ hC hQ => ?_)
  have hC : COK G Γ "BandplanLaw" cL_goOn 4 8 134 1 6 [(0, 9, 12, 15)] := hC
  unfold wp_L_goOn at hq
  show V G Γ 4 0 0 h0 0 [(0, .ref p0), (1, .int p1), (2, .ref p2)] []
  refine V_aload_n hC dL_goOn_0 2 rfl ?_
  refine V_iconst (v := 0) hC dL_goOn_1 (by decide) ?_
  refine V_aload_n hC dL_goOn_2 0 rfl ?_
  refine V_iload_n hC dL_goOn_3 1 rfl ?_
  obtain ⟨hz, hq⟩ := hq
  refine clV_X11_goOn hG hC sv_L_75 ⟨by decide, by decide⟩ (Nat.le_of_ble_eq_true rfl) ⟨by decide, by decide⟩ dL_goOn_4 hz hq ?_ (fun r1 h2 hq => ?_)
  · intro E hE3 hx
    obtain ⟨k0, ho⟩ := hx
    subst ho
    have hq := k0 rfl
    refine VX_catch (E := "java/lang/IllegalArgumentException") hC [] (0, 9, 12, 15) [] rfl (fun _ h9 => nomatch h9) rfl (by decide) aw_3_4 (List.mem_filter.mpr ⟨nw_3_33, rfl⟩) (fun q => ?_)
    show V G Γ 4 1 6 hE3 12 [(0, .ref p0), (1, .int p1), (2, .ref p2)] [.ref q]
    refine V_astore_n (L' := [(0, .ref p0), (1, .int p1), (2, .ref p2), (3, .ref q)]) hC dL_goOn_12 rfl (by decide) [1, 2, 3, 0] rfl ?_
    refine V_iconst (v := 1) hC dL_goOn_13 (by decide) ?_
    exact V_iret hC hQ rfl rfl ⟨by decide, by decide⟩ dL_goOn_14 ⟨_, rfl, hq⟩
  show V G Γ 4 1 6 h2 7 [(0, .ref p0), (1, .int p1), (2, .ref p2)] [.int r1, .int 0, .ref p2]
  refine V_i2l hC dL_goOn_7 ?_
  refine U_stJ hC dL_goOn_8 hq (fun h4 hq => ?_)
  refine V_goto (tgt := 15) hC dL_goOn_9 (by decide) ?_
  refine V_iconst (v := 0) hC dL_goOn_15 (by decide) ?_
  exact V_iret hC hQ rfl rfl ⟨by decide, by decide⟩ dL_goOn_16 ⟨_, rfl, hq⟩
theorem clSX_L_goOn {G : Gx} (hG : GOK G) {Γ : Cx} {own : String} {cc : ByteArray} {nL fr lo mc ms cells slots pc : Nat} {hh : List (Nat × Nat × Nat × Nat)} {h : hw} {L : List (Nat × Value)} {rest : List Value} (hC : COK G Γ own cc nL fr lo mc ms hh) {idx : Nat} (hs : SSX own idx yL_goOn cL_goOn 4 (some .int) [(0, 9, 12, 15)] 3) {p0 : Nat} {p1 : Int32} {p2 : Nat} (hR : 8 + 1 ≤ fr ∧ 8 + (4 + 11) + 134 ≤ lo) (hw8 : (rest.map fun v => v.category).sum ≤ 8) (hcs : cells + 1 ≤ mc ∧ slots + 6 ≤ ms) (hdg : decode cc pc = .ok (.invokestatic idx, 3)) {post : Int32 → hw → Prop} (hq : wp_L_goOn G p0 p1 p2 h post) (kk : ∀ (r : Int32) (h1 : hw), post r h1 → V G Γ nL (cells + 1) (slots + 6) h1 (pc + 3) L (.int r :: rest)) : V G Γ nL cells slots h pc L (.ref p2 :: .int p1 :: .ref p0 :: rest) :=
  V_callSX (As := [.ref p0, .int p1, .ref p2]) hC (ct_L_goOn hG p0 p1 p2 h post hq) hs rfl hR hw8 hcs hdg (fun E h1 z => z.elim) (fun v h1 z => by obtain ⟨r, rfl, hz⟩ := z; exact kk r h1 hz)
set_option maxRecDepth 100000 in
set_option maxHeartbeats 4000000 in
theorem ct_L_canPack {G : Gx} (hG : GOK G) (p0 : Nat) (p1 : Int32) (p2 : Nat) (h0 : hw) (post : Int32 → hw → Prop) (hq : wp_L_canPack G p0 p1 p2 h0 post) : CTW G yL_canPack cL_canPack 4 (some .int) [(0, 16, 19, 15)] 16 401 1 6 [.ref p0, .int p1, .ref p2] h0 (fun v h1 => ∃ r : Int32, v = some (.int r) ∧ post r h1) (fun E h1 => False) := by
  refine CTW_of hG (by decide) (Nat.le_of_ble_eq_true rfl) (fun Γ hC hQ => ?_)
  have hC : COK G Γ "BandplanLaw" cL_canPack 4 16 401 1 6 [(0, 16, 19, 15)] := hC
  unfold wp_L_canPack at hq
  show V G Γ 4 0 0 h0 0 [(0, .ref p0), (1, .int p1), (2, .ref p2)] []
  refine V_aload_n hC dL_canPack_0 2 rfl ?_
  refine V_iconst (v := 0) hC dL_canPack_1 (by decide) ?_
  refine V_aload_n hC dL_canPack_2 0 rfl ?_
  refine V_iload_n hC dL_canPack_3 1 rfl ?_
  obtain ⟨hz, hq⟩ := hq
  refine clV_X11_canPack hG hC sv_L_78 ⟨by decide, by decide⟩ (Nat.le_of_ble_eq_true rfl) ⟨by decide, by decide⟩ dL_canPack_4 hz hq ?_ (fun r1 h2 hq => ?_)
  · intro E hE3 hx
    obtain ⟨k0, ho⟩ := hx
    subst ho
    have hq := k0 rfl
    refine VX_catch (E := "java/lang/IllegalArgumentException") hC [] (0, 16, 19, 15) [] rfl (fun _ h9 => nomatch h9) rfl (by decide) aw_3_4 (List.mem_filter.mpr ⟨nw_3_33, rfl⟩) (fun q => ?_)
    show V G Γ 4 1 6 hE3 19 [(0, .ref p0), (1, .int p1), (2, .ref p2)] [.ref q]
    refine V_astore_n (L' := [(0, .ref p0), (1, .int p1), (2, .ref p2), (3, .ref q)]) hC dL_canPack_19 rfl (by decide) [1, 2, 3, 0] rfl ?_
    refine V_iconst (v := 1) hC dL_canPack_20 (by decide) ?_
    exact V_iret hC hQ rfl rfl ⟨by decide, by decide⟩ dL_canPack_21 ⟨_, rfl, hq⟩
  show V G Γ 4 1 6 h2 7 [(0, .ref p0), (1, .int p1), (2, .ref p2)] [.int r1, .int 0, .ref p2]
  have hq := hq (fun (t4 : Nat) (t5 : Int32) (t6 : Int64) => V G Γ 4 1 6 h2 15 [] [.long t6, .int t5, .ref t4]) (by
    intro t4 t5 t6 hq
    show V G Γ 4 1 6 h2 15 [] [.long t6, .int t5, .ref t4]
    refine U_stJ hC dL_canPack_15 hq (fun h7 hq => ?_)
    refine V_goto (tgt := 22) hC dL_canPack_16 (by decide) ?_
    refine V_iconst (v := 0) hC dL_canPack_22 (by decide) ?_
    exact V_iret hC hQ rfl rfl ⟨by decide, by decide⟩ dL_canPack_23 ⟨_, rfl, hq⟩)
  refine V_if_eq (tgt := 14) hC dL_canPack_7 (by decide) (fun hc => ?_) (fun hc => ?_)
  · have hq := hq.1 hc
    refine V_lconst (v := 0) hC dL_canPack_14 (by decide) ?_
    refine V_sub [] rfl ?_
    exact hq
  · have hq := hq.2 hc
    refine V_lconst (v := 1) hC dL_canPack_10 (by decide) ?_
    refine V_goto (tgt := 15) hC dL_canPack_11 (by decide) ?_
    refine V_sub [] rfl ?_
    exact hq
theorem clSX_L_canPack {G : Gx} (hG : GOK G) {Γ : Cx} {own : String} {cc : ByteArray} {nL fr lo mc ms cells slots pc : Nat} {hh : List (Nat × Nat × Nat × Nat)} {h : hw} {L : List (Nat × Value)} {rest : List Value} (hC : COK G Γ own cc nL fr lo mc ms hh) {idx : Nat} (hs : SSX own idx yL_canPack cL_canPack 4 (some .int) [(0, 16, 19, 15)] 3) {p0 : Nat} {p1 : Int32} {p2 : Nat} (hR : 16 + 1 ≤ fr ∧ 8 + (4 + 11) + 401 ≤ lo) (hw8 : (rest.map fun v => v.category).sum ≤ 8) (hcs : cells + 1 ≤ mc ∧ slots + 6 ≤ ms) (hdg : decode cc pc = .ok (.invokestatic idx, 3)) {post : Int32 → hw → Prop} (hq : wp_L_canPack G p0 p1 p2 h post) (kk : ∀ (r : Int32) (h1 : hw), post r h1 → V G Γ nL (cells + 1) (slots + 6) h1 (pc + 3) L (.int r :: rest)) : V G Γ nL cells slots h pc L (.ref p2 :: .int p1 :: .ref p0 :: rest) :=
  V_callSX (As := [.ref p0, .int p1, .ref p2]) hC (ct_L_canPack hG p0 p1 p2 h post hq) hs rfl hR hw8 hcs hdg (fun E h1 z => z.elim) (fun v h1 z => by obtain ⟨r, rfl, hz⟩ := z; exact kk r h1 hz)
set_option maxRecDepth 100000 in
set_option maxHeartbeats 4000000 in
theorem ct_L_packed {G : Gx} (hG : GOK G) (p0 : Nat) (p1 : Int32) (p2 : Int32) (p3 : Nat) (h0 : hw) (post : Int32 → hw → Prop) (hq : wp_L_packed G p0 p1 p2 p3 h0 post) : CTW G yL_packed cL_packed 5 (some .int) [(0, 10, 13, 15), (0, 10, 17, 13), (0, 10, 21, 40), (0, 10, 25, 42)] 16 403 3 18 [.ref p0, .int p1, .int p2, .ref p3] h0 (fun v h1 => ∃ r : Int32, v = some (.int r) ∧ post r h1) (fun E h1 => False) := by
  refine CTW_of hG (by decide) (Nat.le_of_ble_eq_true rfl) (fun Γ hC hQ => ?_)
  have hC : COK G Γ "BandplanLaw" cL_packed 5 16 403 3 18 [(0, 10, 13, 15), (0, 10, 17, 13), (0, 10, 21, 40), (0, 10, 25, 42)] := hC
  unfold wp_L_packed at hq
  show V G Γ 5 0 0 h0 0 [(0, .ref p0), (1, .int p1), (2, .int p2), (3, .ref p3)] []
  refine V_aload_n hC dL_packed_0 3 rfl ?_
  refine V_iconst (v := 0) hC dL_packed_1 (by decide) ?_
  refine V_aload_n hC dL_packed_2 0 rfl ?_
  refine V_iload_n hC dL_packed_3 1 rfl ?_
  refine V_iload_n hC dL_packed_4 2 rfl ?_
  obtain ⟨hz, hq⟩ := hq
  refine clV_X11_packed hG hC sv_L_81 ⟨by decide, by decide⟩ (Nat.le_of_ble_eq_true rfl) ⟨by decide, by decide⟩ dL_packed_5 hz hq ?_ (fun r1 h2 hq => ?_)
  · intro E hE3 hx
    obtain ⟨k0, k1, k2, k3, ho⟩ := hx
    rcases ho with rfl | rfl | rfl | rfl
    · have hq := k0 rfl
      refine VX_catch (E := "java/lang/IllegalArgumentException") hC [] (0, 10, 13, 15) [(0, 10, 17, 13), (0, 10, 21, 40), (0, 10, 25, 42)] rfl (fun _ h9 => nomatch h9) rfl (by decide) aw_3_4 (List.mem_filter.mpr ⟨nw_3_33, rfl⟩) (fun q => ?_)
      show V G Γ 5 3 18 hE3 13 [(0, .ref p0), (1, .int p1), (2, .int p2), (3, .ref p3)] [.ref q]
      refine V_astore (L' := [(0, .ref p0), (1, .int p1), (2, .int p2), (3, .ref p3), (4, .ref q)]) hC dL_packed_13 (by decide) [1, 2, 3, 4, 0] rfl ?_
      refine V_iconst (v := 1) hC dL_packed_15 (by decide) ?_
      exact V_iret hC hQ rfl rfl ⟨by decide, by decide⟩ dL_packed_16 ⟨_, rfl, hq⟩
    · have hq := k1 rfl
      refine VX_catch (E := "java/lang/IndexOutOfBoundsException") hC [(0, 10, 13, 15)] (0, 10, 17, 13) [(0, 10, 21, 40), (0, 10, 25, 42)] rfl (List.forall_mem_cons.mpr ⟨⟨by decide, "java/lang/IllegalArgumentException", aw_3_4, by decide⟩, (fun _ h9 => nomatch h9)⟩) rfl (by decide) aw_2_164 (List.mem_filter.mpr ⟨nw_3_16, rfl⟩) (fun q => ?_)
      show V G Γ 5 3 18 hE3 17 [(0, .ref p0), (1, .int p1), (2, .int p2), (3, .ref p3)] [.ref q]
      refine V_astore (L' := [(0, .ref p0), (1, .int p1), (2, .int p2), (3, .ref p3), (4, .ref q)]) hC dL_packed_17 (by decide) [1, 2, 3, 4, 0] rfl ?_
      refine V_iconst (v := 2) hC dL_packed_19 (by decide) ?_
      exact V_iret hC hQ rfl rfl ⟨by decide, by decide⟩ dL_packed_20 ⟨_, rfl, hq⟩
    · have hq := k2 rfl
      refine VX_catch (E := "java/lang/UnsupportedOperationException") hC [(0, 10, 13, 15), (0, 10, 17, 13)] (0, 10, 21, 40) [(0, 10, 25, 42)] rfl (List.forall_mem_cons.mpr ⟨⟨by decide, "java/lang/IllegalArgumentException", aw_3_4, by decide⟩, (List.forall_mem_cons.mpr ⟨⟨by decide, "java/lang/IndexOutOfBoundsException", aw_2_164, by decide⟩, (fun _ h9 => nomatch h9)⟩)⟩) rfl (by decide) aw_4_49 (List.mem_filter.mpr ⟨nw_4_62, rfl⟩) (fun q => ?_)
      show V G Γ 5 3 18 hE3 21 [(0, .ref p0), (1, .int p1), (2, .int p2), (3, .ref p3)] [.ref q]
      refine V_astore (L' := [(0, .ref p0), (1, .int p1), (2, .int p2), (3, .ref p3), (4, .ref q)]) hC dL_packed_21 (by decide) [1, 2, 3, 4, 0] rfl ?_
      refine V_iconst (v := 3) hC dL_packed_23 (by decide) ?_
      exact V_iret hC hQ rfl rfl ⟨by decide, by decide⟩ dL_packed_24 ⟨_, rfl, hq⟩
    · have hq := k3 rfl
      refine VX_catch (E := "java/util/NoSuchElementException") hC [(0, 10, 13, 15), (0, 10, 17, 13), (0, 10, 21, 40)] (0, 10, 25, 42) [] rfl (List.forall_mem_cons.mpr ⟨⟨by decide, "java/lang/IllegalArgumentException", aw_3_4, by decide⟩, (List.forall_mem_cons.mpr ⟨⟨by decide, "java/lang/IndexOutOfBoundsException", aw_2_164, by decide⟩, (List.forall_mem_cons.mpr ⟨⟨by decide, "java/lang/UnsupportedOperationException", aw_4_49, by decide⟩, (fun _ h9 => nomatch h9)⟩)⟩)⟩) rfl (by decide) aw_4_50 (List.mem_filter.mpr ⟨nw_4_80, rfl⟩) (fun q => ?_)
      show V G Γ 5 3 18 hE3 25 [(0, .ref p0), (1, .int p1), (2, .int p2), (3, .ref p3)] [.ref q]
      refine V_astore (L' := [(0, .ref p0), (1, .int p1), (2, .int p2), (3, .ref p3), (4, .ref q)]) hC dL_packed_25 (by decide) [1, 2, 3, 4, 0] rfl ?_
      refine V_iconst (v := 4) hC dL_packed_27 (by decide) ?_
      exact V_iret hC hQ rfl rfl ⟨by decide, by decide⟩ dL_packed_28 ⟨_, rfl, hq⟩
  show V G Γ 5 3 18 h2 8 [(0, .ref p0), (1, .int p1), (2, .int p2), (3, .ref p3)] [.int r1, .int 0, .ref p3]
  refine V_i2l hC dL_packed_8 ?_
  refine U_stJ hC dL_packed_9 hq (fun h4 hq => ?_)
  refine V_goto (tgt := 29) hC dL_packed_10 (by decide) ?_
  refine V_iconst (v := 0) hC dL_packed_29 (by decide) ?_
  exact V_iret hC hQ rfl rfl ⟨by decide, by decide⟩ dL_packed_30 ⟨_, rfl, hq⟩
theorem clSX_L_packed {G : Gx} (hG : GOK G) {Γ : Cx} {own : String} {cc : ByteArray} {nL fr lo mc ms cells slots pc : Nat} {hh : List (Nat × Nat × Nat × Nat)} {h : hw} {L : List (Nat × Value)} {rest : List Value} (hC : COK G Γ own cc nL fr lo mc ms hh) {idx : Nat} (hs : SSX own idx yL_packed cL_packed 5 (some .int) [(0, 10, 13, 15), (0, 10, 17, 13), (0, 10, 21, 40), (0, 10, 25, 42)] 4) {p0 : Nat} {p1 : Int32} {p2 : Int32} {p3 : Nat} (hR : 16 + 1 ≤ fr ∧ 8 + (5 + 11) + 403 ≤ lo) (hw8 : (rest.map fun v => v.category).sum ≤ 8) (hcs : cells + 3 ≤ mc ∧ slots + 18 ≤ ms) (hdg : decode cc pc = .ok (.invokestatic idx, 3)) {post : Int32 → hw → Prop} (hq : wp_L_packed G p0 p1 p2 p3 h post) (kk : ∀ (r : Int32) (h1 : hw), post r h1 → V G Γ nL (cells + 3) (slots + 18) h1 (pc + 3) L (.int r :: rest)) : V G Γ nL cells slots h pc L (.ref p3 :: .int p2 :: .int p1 :: .ref p0 :: rest) :=
  V_callSX (As := [.ref p0, .int p1, .int p2, .ref p3]) hC (ct_L_packed hG p0 p1 p2 p3 h post hq) hs rfl hR hw8 hcs hdg (fun E h1 z => z.elim) (fun v h1 z => by obtain ⟨r, rfl, hz⟩ := z; exact kk r h1 hz)
set_option maxRecDepth 100000 in
set_option maxHeartbeats 4000000 in
theorem ct_L_setAsked {G : Gx} (hG : GOK G) (p0 : Nat) (p1 : Int32) (p2 : Int32) (p3 : Nat) (h0 : hw) (post : Int32 → hw → Prop) (hq : wp_L_setAsked G p0 p1 p2 p3 h0 post) : CTW G yL_setAsked cL_setAsked 5 (some .int) [(0, 10, 13, 13), (0, 10, 17, 15)] 8 139 2 12 [.ref p0, .int p1, .int p2, .ref p3] h0 (fun v h1 => ∃ r : Int32, v = some (.int r) ∧ post r h1) (fun E h1 => False) := by
  refine CTW_of hG (by decide) (Nat.le_of_ble_eq_true rfl) (fun Γ hC hQ => ?_)
  have hC : COK G Γ "BandplanLaw" cL_setAsked 5 8 139 2 12 [(0, 10, 13, 13), (0, 10, 17, 15)] := hC
  unfold wp_L_setAsked at hq
  show V G Γ 5 0 0 h0 0 [(0, .ref p0), (1, .int p1), (2, .int p2), (3, .ref p3)] []
  refine V_aload_n hC dL_setAsked_0 3 rfl ?_
  refine V_iconst (v := 0) hC dL_setAsked_1 (by decide) ?_
  refine V_aload_n hC dL_setAsked_2 0 rfl ?_
  refine V_iload_n hC dL_setAsked_3 1 rfl ?_
  refine V_iload_n hC dL_setAsked_4 2 rfl ?_
  obtain ⟨hz, hq⟩ := hq
  refine clV_X11_setAsked hG hC sv_L_84 ⟨by decide, by decide⟩ (Nat.le_of_ble_eq_true rfl) ⟨by decide, by decide⟩ dL_setAsked_5 hz hq ?_ (fun r1 h2 hq => ?_)
  · intro E hE3 hx
    obtain ⟨k0, k1, ho⟩ := hx
    rcases ho with rfl | rfl
    · have hq := k0 rfl
      refine VX_catch (E := "java/lang/IllegalArgumentException") hC [(0, 10, 13, 13)] (0, 10, 17, 15) [] rfl (List.forall_mem_cons.mpr ⟨⟨by decide, "java/lang/IndexOutOfBoundsException", aw_2_164, by decide⟩, (fun _ h9 => nomatch h9)⟩) rfl (by decide) aw_3_4 (List.mem_filter.mpr ⟨nw_3_33, rfl⟩) (fun q => ?_)
      show V G Γ 5 2 12 hE3 17 [(0, .ref p0), (1, .int p1), (2, .int p2), (3, .ref p3)] [.ref q]
      refine V_astore (L' := [(0, .ref p0), (1, .int p1), (2, .int p2), (3, .ref p3), (4, .ref q)]) hC dL_setAsked_17 (by decide) [1, 2, 3, 4, 0] rfl ?_
      refine V_iconst (v := 2) hC dL_setAsked_19 (by decide) ?_
      exact V_iret hC hQ rfl rfl ⟨by decide, by decide⟩ dL_setAsked_20 ⟨_, rfl, hq⟩
    · have hq := k1 rfl
      refine VX_catch (E := "java/lang/IndexOutOfBoundsException") hC [] (0, 10, 13, 13) [(0, 10, 17, 15)] rfl (fun _ h9 => nomatch h9) rfl (by decide) aw_2_164 (List.mem_filter.mpr ⟨nw_3_16, rfl⟩) (fun q => ?_)
      show V G Γ 5 2 12 hE3 13 [(0, .ref p0), (1, .int p1), (2, .int p2), (3, .ref p3)] [.ref q]
      refine V_astore (L' := [(0, .ref p0), (1, .int p1), (2, .int p2), (3, .ref p3), (4, .ref q)]) hC dL_setAsked_13 (by decide) [1, 2, 3, 4, 0] rfl ?_
      refine V_iconst (v := 1) hC dL_setAsked_15 (by decide) ?_
      exact V_iret hC hQ rfl rfl ⟨by decide, by decide⟩ dL_setAsked_16 ⟨_, rfl, hq⟩
  show V G Γ 5 2 12 h2 8 [(0, .ref p0), (1, .int p1), (2, .int p2), (3, .ref p3)] [.int r1, .int 0, .ref p3]
  refine V_i2l hC dL_setAsked_8 ?_
  refine U_stJ hC dL_setAsked_9 hq (fun h4 hq => ?_)
  refine V_goto (tgt := 21) hC dL_setAsked_10 (by decide) ?_
  refine V_iconst (v := 0) hC dL_setAsked_21 (by decide) ?_
  exact V_iret hC hQ rfl rfl ⟨by decide, by decide⟩ dL_setAsked_22 ⟨_, rfl, hq⟩
theorem clSX_L_setAsked {G : Gx} (hG : GOK G) {Γ : Cx} {own : String} {cc : ByteArray} {nL fr lo mc ms cells slots pc : Nat} {hh : List (Nat × Nat × Nat × Nat)} {h : hw} {L : List (Nat × Value)} {rest : List Value} (hC : COK G Γ own cc nL fr lo mc ms hh) {idx : Nat} (hs : SSX own idx yL_setAsked cL_setAsked 5 (some .int) [(0, 10, 13, 13), (0, 10, 17, 15)] 4) {p0 : Nat} {p1 : Int32} {p2 : Int32} {p3 : Nat} (hR : 8 + 1 ≤ fr ∧ 8 + (5 + 11) + 139 ≤ lo) (hw8 : (rest.map fun v => v.category).sum ≤ 8) (hcs : cells + 2 ≤ mc ∧ slots + 12 ≤ ms) (hdg : decode cc pc = .ok (.invokestatic idx, 3)) {post : Int32 → hw → Prop} (hq : wp_L_setAsked G p0 p1 p2 p3 h post) (kk : ∀ (r : Int32) (h1 : hw), post r h1 → V G Γ nL (cells + 2) (slots + 12) h1 (pc + 3) L (.int r :: rest)) : V G Γ nL cells slots h pc L (.ref p3 :: .int p2 :: .int p1 :: .ref p0 :: rest) :=
  V_callSX (As := [.ref p0, .int p1, .int p2, .ref p3]) hC (ct_L_setAsked hG p0 p1 p2 p3 h post hq) hs rfl hR hw8 hcs hdg (fun E h1 z => z.elim) (fun v h1 z => by obtain ⟨r, rfl, hz⟩ := z; exact kk r h1 hz)
set_option maxRecDepth 100000 in
set_option maxHeartbeats 4000000 in
theorem ct_L_sell {G : Gx} (hG : GOK G) (p0 : Nat) (p1 : Int32) (p2 : Int32) (p3 : Int32) (p4 : Nat) (h0 : hw) (post : Int32 → hw → Prop) (hq : wp_L_sell G p0 p1 p2 p3 p4 h0 post) : CTW G yL_sell cL_sell 6 (some .int) [(0, 12, 15, 15), (0, 12, 19, 40)] 19 485 4 24 [.ref p0, .int p1, .int p2, .int p3, .ref p4] h0 (fun v h1 => ∃ r : Int32, v = some (.int r) ∧ post r h1) (fun E h1 => False) := by
  refine CTW_of hG (by decide) (Nat.le_of_ble_eq_true rfl) (fun Γ hC hQ => ?_)
  have hC : COK G Γ "BandplanLaw" cL_sell 6 19 485 4 24 [(0, 12, 15, 15), (0, 12, 19, 40)] := hC
  unfold wp_L_sell at hq
  show V G Γ 6 0 0 h0 0 [(0, .ref p0), (1, .int p1), (2, .int p2), (3, .int p3), (4, .ref p4)] []
  refine V_aload hC dL_sell_0 4 rfl ?_
  refine V_iconst (v := 0) hC dL_sell_2 (by decide) ?_
  refine V_aload_n hC dL_sell_3 0 rfl ?_
  refine V_iload_n hC dL_sell_4 1 rfl ?_
  refine V_iload_n hC dL_sell_5 2 rfl ?_
  refine V_iload_n hC dL_sell_6 3 rfl ?_
  obtain ⟨hz, hq⟩ := hq
  refine clV_X11_sell hG hC sv_L_87 ⟨by decide, by decide⟩ (Nat.le_of_ble_eq_true rfl) ⟨by decide, by decide⟩ dL_sell_7 hz hq ?_ (fun r1 h2 hq => ?_)
  · intro E hE3 hx
    obtain ⟨k0, k1, ho⟩ := hx
    rcases ho with rfl | rfl
    · have hq := k0 rfl
      refine VX_catch (E := "java/lang/IllegalArgumentException") hC [] (0, 12, 15, 15) [(0, 12, 19, 40)] rfl (fun _ h9 => nomatch h9) rfl (by decide) aw_3_4 (List.mem_filter.mpr ⟨nw_3_33, rfl⟩) (fun q => ?_)
      show V G Γ 6 4 24 hE3 15 [(0, .ref p0), (1, .int p1), (2, .int p2), (3, .int p3), (4, .ref p4)] [.ref q]
      refine V_astore (L' := [(0, .ref p0), (1, .int p1), (2, .int p2), (3, .int p3), (4, .ref p4), (5, .ref q)]) hC dL_sell_15 (by decide) [1, 2, 3, 4, 5, 0] rfl ?_
      refine V_iconst (v := 1) hC dL_sell_17 (by decide) ?_
      exact V_iret hC hQ rfl rfl ⟨by decide, by decide⟩ dL_sell_18 ⟨_, rfl, hq⟩
    · have hq := k1 rfl
      refine VX_catch (E := "java/lang/UnsupportedOperationException") hC [(0, 12, 15, 15)] (0, 12, 19, 40) [] rfl (List.forall_mem_cons.mpr ⟨⟨by decide, "java/lang/IllegalArgumentException", aw_3_4, by decide⟩, (fun _ h9 => nomatch h9)⟩) rfl (by decide) aw_4_49 (List.mem_filter.mpr ⟨nw_4_62, rfl⟩) (fun q => ?_)
      show V G Γ 6 4 24 hE3 19 [(0, .ref p0), (1, .int p1), (2, .int p2), (3, .int p3), (4, .ref p4)] [.ref q]
      refine V_astore (L' := [(0, .ref p0), (1, .int p1), (2, .int p2), (3, .int p3), (4, .ref p4), (5, .ref q)]) hC dL_sell_19 (by decide) [1, 2, 3, 4, 5, 0] rfl ?_
      refine V_iconst (v := 2) hC dL_sell_21 (by decide) ?_
      exact V_iret hC hQ rfl rfl ⟨by decide, by decide⟩ dL_sell_22 ⟨_, rfl, hq⟩
  show V G Γ 6 4 24 h2 10 [(0, .ref p0), (1, .int p1), (2, .int p2), (3, .int p3), (4, .ref p4)] [.int r1, .int 0, .ref p4]
  refine V_i2l hC dL_sell_10 ?_
  refine U_stJ hC dL_sell_11 hq (fun h4 hq => ?_)
  refine V_goto (tgt := 23) hC dL_sell_12 (by decide) ?_
  refine V_iconst (v := 0) hC dL_sell_23 (by decide) ?_
  exact V_iret hC hQ rfl rfl ⟨by decide, by decide⟩ dL_sell_24 ⟨_, rfl, hq⟩
theorem clSX_L_sell {G : Gx} (hG : GOK G) {Γ : Cx} {own : String} {cc : ByteArray} {nL fr lo mc ms cells slots pc : Nat} {hh : List (Nat × Nat × Nat × Nat)} {h : hw} {L : List (Nat × Value)} {rest : List Value} (hC : COK G Γ own cc nL fr lo mc ms hh) {idx : Nat} (hs : SSX own idx yL_sell cL_sell 6 (some .int) [(0, 12, 15, 15), (0, 12, 19, 40)] 5) {p0 : Nat} {p1 : Int32} {p2 : Int32} {p3 : Int32} {p4 : Nat} (hR : 19 + 1 ≤ fr ∧ 8 + (6 + 11) + 485 ≤ lo) (hw8 : (rest.map fun v => v.category).sum ≤ 8) (hcs : cells + 4 ≤ mc ∧ slots + 24 ≤ ms) (hdg : decode cc pc = .ok (.invokestatic idx, 3)) {post : Int32 → hw → Prop} (hq : wp_L_sell G p0 p1 p2 p3 p4 h post) (kk : ∀ (r : Int32) (h1 : hw), post r h1 → V G Γ nL (cells + 4) (slots + 24) h1 (pc + 3) L (.int r :: rest)) : V G Γ nL cells slots h pc L (.ref p4 :: .int p3 :: .int p2 :: .int p1 :: .ref p0 :: rest) :=
  V_callSX (As := [.ref p0, .int p1, .int p2, .int p3, .ref p4]) hC (ct_L_sell hG p0 p1 p2 p3 p4 h post hq) hs rfl hR hw8 hcs hdg (fun E h1 z => z.elim) (fun v h1 z => by obtain ⟨r, rfl, hz⟩ := z; exact kk r h1 hz)
set_option maxRecDepth 100000 in
set_option maxHeartbeats 4000000 in
theorem ct_L_priceOf {G : Gx} (hG : GOK G) (p0 : Nat) (p1 : Int32) (p2 : Nat) (h0 : hw) (post : Int32 → hw → Prop) (hq : wp_L_priceOf G p0 p1 p2 h0 post) : CTW G yL_priceOf cL_priceOf 4 (some .int) [(0, 9, 12, 13), (0, 9, 15, 42)] 8 138 2 12 [.ref p0, .int p1, .ref p2] h0 (fun v h1 => ∃ r : Int32, v = some (.int r) ∧ post r h1) (fun E h1 => False) := by
  refine CTW_of hG (by decide) (Nat.le_of_ble_eq_true rfl) (fun Γ hC hQ => ?_)
  have hC : COK G Γ "BandplanLaw" cL_priceOf 4 8 138 2 12 [(0, 9, 12, 13), (0, 9, 15, 42)] := hC
  unfold wp_L_priceOf at hq
  show V G Γ 4 0 0 h0 0 [(0, .ref p0), (1, .int p1), (2, .ref p2)] []
  refine V_aload_n hC dL_priceOf_0 2 rfl ?_
  refine V_iconst (v := 0) hC dL_priceOf_1 (by decide) ?_
  refine V_aload_n hC dL_priceOf_2 0 rfl ?_
  refine V_iload_n hC dL_priceOf_3 1 rfl ?_
  obtain ⟨hz, hq⟩ := hq
  refine clV_X11_priceOf hG hC sv_L_90 ⟨by decide, by decide⟩ (Nat.le_of_ble_eq_true rfl) ⟨by decide, by decide⟩ dL_priceOf_4 hz hq ?_ (fun r1 hq => ?_)
  · intro E hx
    obtain ⟨k0, k1, ho⟩ := hx
    rcases ho with rfl | rfl
    · have hq := k0 rfl
      refine VX_catch (E := "java/lang/IndexOutOfBoundsException") hC [] (0, 9, 12, 13) [(0, 9, 15, 42)] rfl (fun _ h9 => nomatch h9) rfl (by decide) aw_2_164 (List.mem_filter.mpr ⟨nw_3_16, rfl⟩) (fun q => ?_)
      show V G Γ 4 2 12 h0 12 [(0, .ref p0), (1, .int p1), (2, .ref p2)] [.ref q]
      refine V_astore_n (L' := [(0, .ref p0), (1, .int p1), (2, .ref p2), (3, .ref q)]) hC dL_priceOf_12 rfl (by decide) [1, 2, 3, 0] rfl ?_
      refine V_iconst (v := 1) hC dL_priceOf_13 (by decide) ?_
      exact V_iret hC hQ rfl rfl ⟨by decide, by decide⟩ dL_priceOf_14 ⟨_, rfl, hq⟩
    · have hq := k1 rfl
      refine VX_catch (E := "java/util/NoSuchElementException") hC [(0, 9, 12, 13)] (0, 9, 15, 42) [] rfl (List.forall_mem_cons.mpr ⟨⟨by decide, "java/lang/IndexOutOfBoundsException", aw_2_164, by decide⟩, (fun _ h9 => nomatch h9)⟩) rfl (by decide) aw_4_50 (List.mem_filter.mpr ⟨nw_4_80, rfl⟩) (fun q => ?_)
      show V G Γ 4 2 12 h0 15 [(0, .ref p0), (1, .int p1), (2, .ref p2)] [.ref q]
      refine V_astore_n (L' := [(0, .ref p0), (1, .int p1), (2, .ref p2), (3, .ref q)]) hC dL_priceOf_15 rfl (by decide) [1, 2, 3, 0] rfl ?_
      refine V_iconst (v := 2) hC dL_priceOf_16 (by decide) ?_
      exact V_iret hC hQ rfl rfl ⟨by decide, by decide⟩ dL_priceOf_17 ⟨_, rfl, hq⟩
  show V G Γ 4 2 12 h0 7 [(0, .ref p0), (1, .int p1), (2, .ref p2)] [.int r1, .int 0, .ref p2]
  refine V_i2l hC dL_priceOf_7 ?_
  refine U_stJ hC dL_priceOf_8 hq (fun h2 hq => ?_)
  refine V_goto (tgt := 18) hC dL_priceOf_9 (by decide) ?_
  refine V_iconst (v := 0) hC dL_priceOf_18 (by decide) ?_
  exact V_iret hC hQ rfl rfl ⟨by decide, by decide⟩ dL_priceOf_19 ⟨_, rfl, hq⟩
theorem clSX_L_priceOf {G : Gx} (hG : GOK G) {Γ : Cx} {own : String} {cc : ByteArray} {nL fr lo mc ms cells slots pc : Nat} {hh : List (Nat × Nat × Nat × Nat)} {h : hw} {L : List (Nat × Value)} {rest : List Value} (hC : COK G Γ own cc nL fr lo mc ms hh) {idx : Nat} (hs : SSX own idx yL_priceOf cL_priceOf 4 (some .int) [(0, 9, 12, 13), (0, 9, 15, 42)] 3) {p0 : Nat} {p1 : Int32} {p2 : Nat} (hR : 8 + 1 ≤ fr ∧ 8 + (4 + 11) + 138 ≤ lo) (hw8 : (rest.map fun v => v.category).sum ≤ 8) (hcs : cells + 2 ≤ mc ∧ slots + 12 ≤ ms) (hdg : decode cc pc = .ok (.invokestatic idx, 3)) {post : Int32 → hw → Prop} (hq : wp_L_priceOf G p0 p1 p2 h post) (kk : ∀ (r : Int32) (h1 : hw), post r h1 → V G Γ nL (cells + 2) (slots + 12) h1 (pc + 3) L (.int r :: rest)) : V G Γ nL cells slots h pc L (.ref p2 :: .int p1 :: .ref p0 :: rest) :=
  V_callSX (As := [.ref p0, .int p1, .ref p2]) hC (ct_L_priceOf hG p0 p1 p2 h post hq) hs rfl hR hw8 hcs hdg (fun E h1 z => z.elim) (fun v h1 z => by obtain ⟨r, rfl, hz⟩ := z; exact kk r h1 hz)
set_option maxRecDepth 100000 in
set_option maxHeartbeats 4000000 in
theorem ct_L_addBidder {G : Gx} (hG : GOK G) (p0 : Nat) (p1 : Int32) (p2 : Int32) (p3 : Int32) (p4 : Nat) (h0 : hw) (post : Int32 → hw → Prop) (hq : wp_L_addBidder G p0 p1 p2 p3 p4 h0 post) : CTW G yL_addBidder cL_addBidder 6 (some .int) [(0, 12, 15, 15), (0, 12, 19, 17)] 8 136 4 24 [.ref p0, .int p1, .int p2, .int p3, .ref p4] h0 (fun v h1 => ∃ r : Int32, v = some (.int r) ∧ post r h1) (fun E h1 => False) := by
  refine CTW_of hG (by decide) (Nat.le_of_ble_eq_true rfl) (fun Γ hC hQ => ?_)
  have hC : COK G Γ "BandplanLaw" cL_addBidder 6 8 136 4 24 [(0, 12, 15, 15), (0, 12, 19, 17)] := hC
  unfold wp_L_addBidder at hq
  show V G Γ 6 0 0 h0 0 [(0, .ref p0), (1, .int p1), (2, .int p2), (3, .int p3), (4, .ref p4)] []
  refine V_aload hC dL_addBidder_0 4 rfl ?_
  refine V_iconst (v := 0) hC dL_addBidder_2 (by decide) ?_
  refine V_aload_n hC dL_addBidder_3 0 rfl ?_
  refine V_iload_n hC dL_addBidder_4 1 rfl ?_
  refine V_iload_n hC dL_addBidder_5 2 rfl ?_
  refine V_iload_n hC dL_addBidder_6 3 rfl ?_
  obtain ⟨hz, hq⟩ := hq
  refine clV_X11_addBidder hG hC sv_L_93 ⟨by decide, by decide⟩ (Nat.le_of_ble_eq_true rfl) ⟨by decide, by decide⟩ dL_addBidder_7 hz hq ?_ (fun r1 h2 hq => ?_)
  · intro E hE3 hx
    obtain ⟨k0, k1, ho⟩ := hx
    rcases ho with rfl | rfl
    · have hq := k0 rfl
      refine VX_catch (E := "java/lang/IllegalArgumentException") hC [] (0, 12, 15, 15) [(0, 12, 19, 17)] rfl (fun _ h9 => nomatch h9) rfl (by decide) aw_3_4 (List.mem_filter.mpr ⟨nw_3_33, rfl⟩) (fun q => ?_)
      show V G Γ 6 4 24 hE3 15 [(0, .ref p0), (1, .int p1), (2, .int p2), (3, .int p3), (4, .ref p4)] [.ref q]
      refine V_astore (L' := [(0, .ref p0), (1, .int p1), (2, .int p2), (3, .int p3), (4, .ref p4), (5, .ref q)]) hC dL_addBidder_15 (by decide) [1, 2, 3, 4, 5, 0] rfl ?_
      refine V_iconst (v := 1) hC dL_addBidder_17 (by decide) ?_
      exact V_iret hC hQ rfl rfl ⟨by decide, by decide⟩ dL_addBidder_18 ⟨_, rfl, hq⟩
    · have hq := k1 rfl
      refine VX_catch (E := "java/lang/IllegalStateException") hC [(0, 12, 15, 15)] (0, 12, 19, 17) [] rfl (List.forall_mem_cons.mpr ⟨⟨by decide, "java/lang/IllegalArgumentException", aw_3_4, by decide⟩, (fun _ h9 => nomatch h9)⟩) rfl (by decide) aw_3_5 (List.mem_filter.mpr ⟨nw_3_57, rfl⟩) (fun q => ?_)
      show V G Γ 6 4 24 hE3 19 [(0, .ref p0), (1, .int p1), (2, .int p2), (3, .int p3), (4, .ref p4)] [.ref q]
      refine V_astore (L' := [(0, .ref p0), (1, .int p1), (2, .int p2), (3, .int p3), (4, .ref p4), (5, .ref q)]) hC dL_addBidder_19 (by decide) [1, 2, 3, 4, 5, 0] rfl ?_
      refine V_iconst (v := 2) hC dL_addBidder_21 (by decide) ?_
      exact V_iret hC hQ rfl rfl ⟨by decide, by decide⟩ dL_addBidder_22 ⟨_, rfl, hq⟩
  show V G Γ 6 4 24 h2 10 [(0, .ref p0), (1, .int p1), (2, .int p2), (3, .int p3), (4, .ref p4)] [.int r1, .int 0, .ref p4]
  refine V_i2l hC dL_addBidder_10 ?_
  refine U_stJ hC dL_addBidder_11 hq (fun h4 hq => ?_)
  refine V_goto (tgt := 23) hC dL_addBidder_12 (by decide) ?_
  refine V_iconst (v := 0) hC dL_addBidder_23 (by decide) ?_
  exact V_iret hC hQ rfl rfl ⟨by decide, by decide⟩ dL_addBidder_24 ⟨_, rfl, hq⟩
theorem clSX_L_addBidder {G : Gx} (hG : GOK G) {Γ : Cx} {own : String} {cc : ByteArray} {nL fr lo mc ms cells slots pc : Nat} {hh : List (Nat × Nat × Nat × Nat)} {h : hw} {L : List (Nat × Value)} {rest : List Value} (hC : COK G Γ own cc nL fr lo mc ms hh) {idx : Nat} (hs : SSX own idx yL_addBidder cL_addBidder 6 (some .int) [(0, 12, 15, 15), (0, 12, 19, 17)] 5) {p0 : Nat} {p1 : Int32} {p2 : Int32} {p3 : Int32} {p4 : Nat} (hR : 8 + 1 ≤ fr ∧ 8 + (6 + 11) + 136 ≤ lo) (hw8 : (rest.map fun v => v.category).sum ≤ 8) (hcs : cells + 4 ≤ mc ∧ slots + 24 ≤ ms) (hdg : decode cc pc = .ok (.invokestatic idx, 3)) {post : Int32 → hw → Prop} (hq : wp_L_addBidder G p0 p1 p2 p3 p4 h post) (kk : ∀ (r : Int32) (h1 : hw), post r h1 → V G Γ nL (cells + 4) (slots + 24) h1 (pc + 3) L (.int r :: rest)) : V G Γ nL cells slots h pc L (.ref p4 :: .int p3 :: .int p2 :: .int p1 :: .ref p0 :: rest) :=
  V_callSX (As := [.ref p0, .int p1, .int p2, .int p3, .ref p4]) hC (ct_L_addBidder hG p0 p1 p2 p3 p4 h post hq) hs rfl hR hw8 hcs hdg (fun E h1 z => z.elim) (fun v h1 z => by obtain ⟨r, rfl, hz⟩ := z; exact kk r h1 hz)
set_option maxRecDepth 100000 in
set_option maxHeartbeats 4000000 in
theorem ct_L_buy {G : Gx} (hG : GOK G) (p0 : Nat) (p1 : Int32) (p2 : Nat) (h0 : hw) (post : Int32 → hw → Prop) (hq : wp_L_buy G p0 p1 p2 h0 post) : CTW G yL_buy cL_buy 4 (some .int) [(0, 9, 12, 15)] 8 146 1 6 [.ref p0, .int p1, .ref p2] h0 (fun v h1 => ∃ r : Int32, v = some (.int r) ∧ post r h1) (fun E h1 => False) := by
  refine CTW_of hG (by decide) (Nat.le_of_ble_eq_true rfl) (fun Γ hC hQ => ?_)
  have hC : COK G Γ "BandplanLaw" cL_buy 4 8 146 1 6 [(0, 9, 12, 15)] := hC
  unfold wp_L_buy at hq
  show V G Γ 4 0 0 h0 0 [(0, .ref p0), (1, .int p1), (2, .ref p2)] []
  refine V_aload_n hC dL_buy_0 2 rfl ?_
  refine V_iconst (v := 0) hC dL_buy_1 (by decide) ?_
  refine V_aload_n hC dL_buy_2 0 rfl ?_
  refine V_iload_n hC dL_buy_3 1 rfl ?_
  obtain ⟨hz, hq⟩ := hq
  refine clV_X11_buy hG hC sv_L_96 ⟨by decide, by decide⟩ (Nat.le_of_ble_eq_true rfl) ⟨by decide, by decide⟩ dL_buy_4 hz hq ?_ (fun r1 h2 hq => ?_)
  · intro E hE3 hx
    obtain ⟨k0, ho⟩ := hx
    subst ho
    have hq := k0 rfl
    refine VX_catch (E := "java/lang/IllegalArgumentException") hC [] (0, 9, 12, 15) [] rfl (fun _ h9 => nomatch h9) rfl (by decide) aw_3_4 (List.mem_filter.mpr ⟨nw_3_33, rfl⟩) (fun q => ?_)
    show V G Γ 4 1 6 hE3 12 [(0, .ref p0), (1, .int p1), (2, .ref p2)] [.ref q]
    refine V_astore_n (L' := [(0, .ref p0), (1, .int p1), (2, .ref p2), (3, .ref q)]) hC dL_buy_12 rfl (by decide) [1, 2, 3, 0] rfl ?_
    refine V_iconst (v := 1) hC dL_buy_13 (by decide) ?_
    exact V_iret hC hQ rfl rfl ⟨by decide, by decide⟩ dL_buy_14 ⟨_, rfl, hq⟩
  show V G Γ 4 1 6 h2 7 [(0, .ref p0), (1, .int p1), (2, .ref p2)] [.int r1, .int 0, .ref p2]
  refine V_i2l hC dL_buy_7 ?_
  refine U_stJ hC dL_buy_8 hq (fun h4 hq => ?_)
  refine V_goto (tgt := 15) hC dL_buy_9 (by decide) ?_
  refine V_iconst (v := 0) hC dL_buy_15 (by decide) ?_
  exact V_iret hC hQ rfl rfl ⟨by decide, by decide⟩ dL_buy_16 ⟨_, rfl, hq⟩
theorem clSX_L_buy {G : Gx} (hG : GOK G) {Γ : Cx} {own : String} {cc : ByteArray} {nL fr lo mc ms cells slots pc : Nat} {hh : List (Nat × Nat × Nat × Nat)} {h : hw} {L : List (Nat × Value)} {rest : List Value} (hC : COK G Γ own cc nL fr lo mc ms hh) {idx : Nat} (hs : SSX own idx yL_buy cL_buy 4 (some .int) [(0, 9, 12, 15)] 3) {p0 : Nat} {p1 : Int32} {p2 : Nat} (hR : 8 + 1 ≤ fr ∧ 8 + (4 + 11) + 146 ≤ lo) (hw8 : (rest.map fun v => v.category).sum ≤ 8) (hcs : cells + 1 ≤ mc ∧ slots + 6 ≤ ms) (hdg : decode cc pc = .ok (.invokestatic idx, 3)) {post : Int32 → hw → Prop} (hq : wp_L_buy G p0 p1 p2 h post) (kk : ∀ (r : Int32) (h1 : hw), post r h1 → V G Γ nL (cells + 1) (slots + 6) h1 (pc + 3) L (.int r :: rest)) : V G Γ nL cells slots h pc L (.ref p2 :: .int p1 :: .ref p0 :: rest) :=
  V_callSX (As := [.ref p0, .int p1, .ref p2]) hC (ct_L_buy hG p0 p1 p2 h post hq) hs rfl hR hw8 hcs hdg (fun E h1 z => z.elim) (fun v h1 z => by obtain ⟨r, rfl, hz⟩ := z; exact kk r h1 hz)
set_option maxRecDepth 100000 in
set_option maxHeartbeats 4000000 in
theorem ct_L_bought {G : Gx} (hG : GOK G) (p0 : Nat) (p1 : Int32) (p2 : Nat) (h0 : hw) (post : Int32 → hw → Prop) (hq : wp_L_bought G p0 p1 p2 h0 post) : CTW G yL_bought cL_bought 4 (some .int) [(0, 9, 12, 13)] 8 132 1 6 [.ref p0, .int p1, .ref p2] h0 (fun v h1 => ∃ r : Int32, v = some (.int r) ∧ post r h1) (fun E h1 => False) := by
  refine CTW_of hG (by decide) (Nat.le_of_ble_eq_true rfl) (fun Γ hC hQ => ?_)
  have hC : COK G Γ "BandplanLaw" cL_bought 4 8 132 1 6 [(0, 9, 12, 13)] := hC
  unfold wp_L_bought at hq
  show V G Γ 4 0 0 h0 0 [(0, .ref p0), (1, .int p1), (2, .ref p2)] []
  refine V_aload_n hC dL_bought_0 2 rfl ?_
  refine V_iconst (v := 0) hC dL_bought_1 (by decide) ?_
  refine V_aload_n hC dL_bought_2 0 rfl ?_
  refine V_iload_n hC dL_bought_3 1 rfl ?_
  obtain ⟨hz, hq⟩ := hq
  refine clV_X11_bought hG hC sv_L_99 ⟨by decide, by decide⟩ (Nat.le_of_ble_eq_true rfl) ⟨by decide, by decide⟩ dL_bought_4 hz hq ?_ (fun r1 hq => ?_)
  · intro E hx
    obtain ⟨k0, ho⟩ := hx
    subst ho
    have hq := k0 rfl
    refine VX_catch (E := "java/lang/IndexOutOfBoundsException") hC [] (0, 9, 12, 13) [] rfl (fun _ h9 => nomatch h9) rfl (by decide) aw_2_164 (List.mem_filter.mpr ⟨nw_3_16, rfl⟩) (fun q => ?_)
    show V G Γ 4 1 6 h0 12 [(0, .ref p0), (1, .int p1), (2, .ref p2)] [.ref q]
    refine V_astore_n (L' := [(0, .ref p0), (1, .int p1), (2, .ref p2), (3, .ref q)]) hC dL_bought_12 rfl (by decide) [1, 2, 3, 0] rfl ?_
    refine V_iconst (v := 1) hC dL_bought_13 (by decide) ?_
    exact V_iret hC hQ rfl rfl ⟨by decide, by decide⟩ dL_bought_14 ⟨_, rfl, hq⟩
  show V G Γ 4 1 6 h0 7 [(0, .ref p0), (1, .int p1), (2, .ref p2)] [.int r1, .int 0, .ref p2]
  refine V_i2l hC dL_bought_7 ?_
  refine U_stJ hC dL_bought_8 hq (fun h2 hq => ?_)
  refine V_goto (tgt := 15) hC dL_bought_9 (by decide) ?_
  refine V_iconst (v := 0) hC dL_bought_15 (by decide) ?_
  exact V_iret hC hQ rfl rfl ⟨by decide, by decide⟩ dL_bought_16 ⟨_, rfl, hq⟩
theorem clSX_L_bought {G : Gx} (hG : GOK G) {Γ : Cx} {own : String} {cc : ByteArray} {nL fr lo mc ms cells slots pc : Nat} {hh : List (Nat × Nat × Nat × Nat)} {h : hw} {L : List (Nat × Value)} {rest : List Value} (hC : COK G Γ own cc nL fr lo mc ms hh) {idx : Nat} (hs : SSX own idx yL_bought cL_bought 4 (some .int) [(0, 9, 12, 13)] 3) {p0 : Nat} {p1 : Int32} {p2 : Nat} (hR : 8 + 1 ≤ fr ∧ 8 + (4 + 11) + 132 ≤ lo) (hw8 : (rest.map fun v => v.category).sum ≤ 8) (hcs : cells + 1 ≤ mc ∧ slots + 6 ≤ ms) (hdg : decode cc pc = .ok (.invokestatic idx, 3)) {post : Int32 → hw → Prop} (hq : wp_L_bought G p0 p1 p2 h post) (kk : ∀ (r : Int32) (h1 : hw), post r h1 → V G Γ nL (cells + 1) (slots + 6) h1 (pc + 3) L (.int r :: rest)) : V G Γ nL cells slots h pc L (.ref p2 :: .int p1 :: .ref p0 :: rest) :=
  V_callSX (As := [.ref p0, .int p1, .ref p2]) hC (ct_L_bought hG p0 p1 p2 h post hq) hs rfl hR hw8 hcs hdg (fun E h1 z => z.elim) (fun v h1 z => by obtain ⟨r, rfl, hz⟩ := z; exact kk r h1 hz)
set_option maxRecDepth 100000 in
set_option maxHeartbeats 4000000 in
theorem ct_L_pays {G : Gx} (hG : GOK G) (p0 : Nat) (p1 : Int32) (p2 : Nat) (h0 : hw) (post : Int32 → hw → Prop) (hq : wp_L_pays G p0 p1 p2 h0 post) : CTW G yL_pays cL_pays 4 (some .int) [(0, 8, 11, 13)] 8 132 1 6 [.ref p0, .int p1, .ref p2] h0 (fun v h1 => ∃ r : Int32, v = some (.int r) ∧ post r h1) (fun E h1 => False) := by
  refine CTW_of hG (by decide) (Nat.le_of_ble_eq_true rfl) (fun Γ hC hQ => ?_)
  have hC : COK G Γ "BandplanLaw" cL_pays 4 8 132 1 6 [(0, 8, 11, 13)] := hC
  unfold wp_L_pays at hq
  show V G Γ 4 0 0 h0 0 [(0, .ref p0), (1, .int p1), (2, .ref p2)] []
  refine V_aload_n hC dL_pays_0 2 rfl ?_
  refine V_iconst (v := 0) hC dL_pays_1 (by decide) ?_
  refine V_aload_n hC dL_pays_2 0 rfl ?_
  refine V_iload_n hC dL_pays_3 1 rfl ?_
  obtain ⟨hz, hq⟩ := hq
  refine clV_X11_pays hG hC sv_L_102 ⟨by decide, by decide⟩ (Nat.le_of_ble_eq_true rfl) ⟨by decide, by decide⟩ dL_pays_4 hz hq ?_ (fun r1 hq => ?_)
  · intro E hx
    obtain ⟨k0, ho⟩ := hx
    subst ho
    have hq := k0 rfl
    refine VX_catch (E := "java/lang/IndexOutOfBoundsException") hC [] (0, 8, 11, 13) [] rfl (fun _ h9 => nomatch h9) rfl (by decide) aw_2_164 (List.mem_filter.mpr ⟨nw_3_16, rfl⟩) (fun q => ?_)
    show V G Γ 4 1 6 h0 11 [(0, .ref p0), (1, .int p1), (2, .ref p2)] [.ref q]
    refine V_astore_n (L' := [(0, .ref p0), (1, .int p1), (2, .ref p2), (3, .ref q)]) hC dL_pays_11 rfl (by decide) [1, 2, 3, 0] rfl ?_
    refine V_iconst (v := 1) hC dL_pays_12 (by decide) ?_
    exact V_iret hC hQ rfl rfl ⟨by decide, by decide⟩ dL_pays_13 ⟨_, rfl, hq⟩
  show V G Γ 4 1 6 h0 7 [(0, .ref p0), (1, .int p1), (2, .ref p2)] [.long r1, .int 0, .ref p2]
  refine U_stJ hC dL_pays_7 hq (fun h2 hq => ?_)
  refine V_goto (tgt := 14) hC dL_pays_8 (by decide) ?_
  refine V_iconst (v := 0) hC dL_pays_14 (by decide) ?_
  exact V_iret hC hQ rfl rfl ⟨by decide, by decide⟩ dL_pays_15 ⟨_, rfl, hq⟩
theorem clSX_L_pays {G : Gx} (hG : GOK G) {Γ : Cx} {own : String} {cc : ByteArray} {nL fr lo mc ms cells slots pc : Nat} {hh : List (Nat × Nat × Nat × Nat)} {h : hw} {L : List (Nat × Value)} {rest : List Value} (hC : COK G Γ own cc nL fr lo mc ms hh) {idx : Nat} (hs : SSX own idx yL_pays cL_pays 4 (some .int) [(0, 8, 11, 13)] 3) {p0 : Nat} {p1 : Int32} {p2 : Nat} (hR : 8 + 1 ≤ fr ∧ 8 + (4 + 11) + 132 ≤ lo) (hw8 : (rest.map fun v => v.category).sum ≤ 8) (hcs : cells + 1 ≤ mc ∧ slots + 6 ≤ ms) (hdg : decode cc pc = .ok (.invokestatic idx, 3)) {post : Int32 → hw → Prop} (hq : wp_L_pays G p0 p1 p2 h post) (kk : ∀ (r : Int32) (h1 : hw), post r h1 → V G Γ nL (cells + 1) (slots + 6) h1 (pc + 3) L (.int r :: rest)) : V G Γ nL cells slots h pc L (.ref p2 :: .int p1 :: .ref p0 :: rest) :=
  V_callSX (As := [.ref p0, .int p1, .ref p2]) hC (ct_L_pays hG p0 p1 p2 h post hq) hs rfl hR hw8 hcs hdg (fun E h1 z => z.elim) (fun v h1 z => by obtain ⟨r, rfl, hz⟩ := z; exact kk r h1 hz)
set_option maxRecDepth 100000 in
set_option maxHeartbeats 4000000 in
theorem ct_L_move {G : Gx} (hG : GOK G) (p0 : Nat) (p1 : Int32) (p2 : Nat) (h0 : hw) (post : Int32 → hw → Prop) (hq : wp_L_move G p0 p1 p2 h0 post) : CTW G yL_move cL_move 4 (some .int) [(0, 9, 12, 15), (0, 9, 15, 40)] 16 402 2 12 [.ref p0, .int p1, .ref p2] h0 (fun v h1 => ∃ r : Int32, v = some (.int r) ∧ post r h1) (fun E h1 => False) := by
  refine CTW_of hG (by decide) (Nat.le_of_ble_eq_true rfl) (fun Γ hC hQ => ?_)
  have hC : COK G Γ "BandplanLaw" cL_move 4 16 402 2 12 [(0, 9, 12, 15), (0, 9, 15, 40)] := hC
  unfold wp_L_move at hq
  show V G Γ 4 0 0 h0 0 [(0, .ref p0), (1, .int p1), (2, .ref p2)] []
  refine V_aload_n hC dL_move_0 2 rfl ?_
  refine V_iconst (v := 0) hC dL_move_1 (by decide) ?_
  refine V_aload_n hC dL_move_2 0 rfl ?_
  refine V_iload_n hC dL_move_3 1 rfl ?_
  obtain ⟨hz, hq⟩ := hq
  refine clV_X11_move hG hC sv_L_106 ⟨by decide, by decide⟩ (Nat.le_of_ble_eq_true rfl) ⟨by decide, by decide⟩ dL_move_4 hz hq ?_ (fun r1 h2 hq => ?_)
  · intro E hE3 hx
    obtain ⟨k0, k1, ho⟩ := hx
    rcases ho with rfl | rfl
    · have hq := k0 rfl
      refine VX_catch (E := "java/lang/IllegalArgumentException") hC [] (0, 9, 12, 15) [(0, 9, 15, 40)] rfl (fun _ h9 => nomatch h9) rfl (by decide) aw_3_4 (List.mem_filter.mpr ⟨nw_3_33, rfl⟩) (fun q => ?_)
      show V G Γ 4 2 12 hE3 12 [(0, .ref p0), (1, .int p1), (2, .ref p2)] [.ref q]
      refine V_astore_n (L' := [(0, .ref p0), (1, .int p1), (2, .ref p2), (3, .ref q)]) hC dL_move_12 rfl (by decide) [1, 2, 3, 0] rfl ?_
      refine V_iconst (v := 1) hC dL_move_13 (by decide) ?_
      exact V_iret hC hQ rfl rfl ⟨by decide, by decide⟩ dL_move_14 ⟨_, rfl, hq⟩
    · have hq := k1 rfl
      refine VX_catch (E := "java/lang/UnsupportedOperationException") hC [(0, 9, 12, 15)] (0, 9, 15, 40) [] rfl (List.forall_mem_cons.mpr ⟨⟨by decide, "java/lang/IllegalArgumentException", aw_3_4, by decide⟩, (fun _ h9 => nomatch h9)⟩) rfl (by decide) aw_4_49 (List.mem_filter.mpr ⟨nw_4_62, rfl⟩) (fun q => ?_)
      show V G Γ 4 2 12 hE3 15 [(0, .ref p0), (1, .int p1), (2, .ref p2)] [.ref q]
      refine V_astore_n (L' := [(0, .ref p0), (1, .int p1), (2, .ref p2), (3, .ref q)]) hC dL_move_15 rfl (by decide) [1, 2, 3, 0] rfl ?_
      refine V_iconst (v := 2) hC dL_move_16 (by decide) ?_
      exact V_iret hC hQ rfl rfl ⟨by decide, by decide⟩ dL_move_17 ⟨_, rfl, hq⟩
  show V G Γ 4 2 12 h2 7 [(0, .ref p0), (1, .int p1), (2, .ref p2)] [.int r1, .int 0, .ref p2]
  refine V_i2l hC dL_move_7 ?_
  refine U_stJ hC dL_move_8 hq (fun h4 hq => ?_)
  refine V_goto (tgt := 18) hC dL_move_9 (by decide) ?_
  refine V_iconst (v := 0) hC dL_move_18 (by decide) ?_
  exact V_iret hC hQ rfl rfl ⟨by decide, by decide⟩ dL_move_19 ⟨_, rfl, hq⟩
theorem clSX_L_move {G : Gx} (hG : GOK G) {Γ : Cx} {own : String} {cc : ByteArray} {nL fr lo mc ms cells slots pc : Nat} {hh : List (Nat × Nat × Nat × Nat)} {h : hw} {L : List (Nat × Value)} {rest : List Value} (hC : COK G Γ own cc nL fr lo mc ms hh) {idx : Nat} (hs : SSX own idx yL_move cL_move 4 (some .int) [(0, 9, 12, 15), (0, 9, 15, 40)] 3) {p0 : Nat} {p1 : Int32} {p2 : Nat} (hR : 16 + 1 ≤ fr ∧ 8 + (4 + 11) + 402 ≤ lo) (hw8 : (rest.map fun v => v.category).sum ≤ 8) (hcs : cells + 2 ≤ mc ∧ slots + 12 ≤ ms) (hdg : decode cc pc = .ok (.invokestatic idx, 3)) {post : Int32 → hw → Prop} (hq : wp_L_move G p0 p1 p2 h post) (kk : ∀ (r : Int32) (h1 : hw), post r h1 → V G Γ nL (cells + 2) (slots + 12) h1 (pc + 3) L (.int r :: rest)) : V G Γ nL cells slots h pc L (.ref p2 :: .int p1 :: .ref p0 :: rest) :=
  V_callSX (As := [.ref p0, .int p1, .ref p2]) hC (ct_L_move hG p0 p1 p2 h post hq) hs rfl hR hw8 hcs hdg (fun E h1 z => z.elim) (fun v h1 z => by obtain ⟨r, rfl, hz⟩ := z; exact kk r h1 hz)
