set_option maxRecDepth 100000 in
set_option maxHeartbeats 4000000 in
theorem ct_X8_isFair {G : Gx} (hG : GOK G) (p0 : Nat) (h0 : hw) (post : Int32 → Prop) (hq : wp_X8_isFair G p0 h0 post) : CT G yX8_isFair cX8_isFair 2 (some .boolean) 2 51 0 0 [.ref p0] h0 (fun v h1 => ∃ r : Int32, v = some (.int r) ∧ h1 = h0 ∧ post r) (fun E h1 => False) := by
  refine CT_of hG (by decide) (Nat.le_of_ble_eq_true rfl) (fun Γ hC hQ hN => ?_)
  have hC : COK G Γ "Bandplan$Selling" cX8_isFair 2 2 51 0 0 [] := hC
  unfold wp_X8_isFair at hq
  show V G Γ 2 0 0 h0 0 [(0, .ref p0)] []
  refine V_iconst (v := 0) hC dX8_isFair_0 (by decide) ?_
  refine V_istore_n (L' := [(0, .ref p0), (1, .int 0)]) hC dX8_isFair_1 rfl (by decide) [1, 0] rfl ?_
  have hq := hq (fun (x1_1 : Int32) => V G Γ 2 0 0 h0 2 [(0, .ref p0), (1, .int x1_1)] []) (by
    intro x1_1 hq
    show V G Γ 2 0 0 h0 2 [(0, .ref p0), (1, .int x1_1)] []
    refine V_iload_n hC dX8_isFair_2 1 rfl ?_
    refine V_bipush (v := 8) hC dX8_isFair_3 (by decide) ?_
    refine V_icmp_ge (tgt := 47) hC dX8_isFair_5 (by decide) (fun hc => ?_) (fun hc => ?_)
    · have hq := hq.1 hc
      refine V_iconst (v := 1) hC dX8_isFair_47 (by decide) ?_
      exact V_iret hC hQ rfl rfl ⟨by decide, by decide⟩ dX8_isFair_48 ⟨_, rfl, rfl, hq⟩
    · have hq := hq.2 hc
      refine V_aload_n hC dX8_isFair_8 0 rfl ?_
      refine U_getR hC fl_X8_14 dX8_isFair_9 hq (fun v2 hq => ?_)
      refine V_iload_n hC dX8_isFair_12 1 rfl ?_
      obtain ⟨hz, hq⟩ := hq
      refine clV_X7_at hG hC sv_X8_71 ⟨by decide, by decide⟩ (Nat.le_of_ble_eq_true rfl) ⟨by decide, by decide⟩ dX8_isFair_13 hz hq (fun r3 hq => ?_)
      show V G Γ 2 0 0 h0 16 [(0, .ref p0), (1, .int x1_1)] [.int r3]
      refine V_iconst (v := (-1)) hC dX8_isFair_16 (by decide) ?_
      have hq := hq (V G Γ 2 0 0 h0 41 [(0, .ref p0), (1, .int x1_1)] []) (by
        intro hq
        show V G Γ 2 0 0 h0 41 [(0, .ref p0), (1, .int x1_1)] []
        refine V_iinc (j := 1) (v := (x1_1 + 1)) (L' := [(0, .ref p0), (1, .int (x1_1 + 1))]) hC dX8_isFair_41 rfl rfl (by decide) [1, 0] rfl ?_
        refine V_goto (tgt := 2) hC dX8_isFair_44 (by decide) ?_
        exact hq)
      refine V_icmp_eq (tgt := 41) hC dX8_isFair_17 (by decide) (fun hc => ?_) (fun hc => ?_)
      · have hq := hq.1 hc
        exact hq
      · have hq := hq.2 hc
        refine V_aload_n hC dX8_isFair_20 0 rfl ?_
        refine U_getR hC fl_X8_14 dX8_isFair_21 hq (fun v4 hq => ?_)
        refine V_iload_n hC dX8_isFair_24 1 rfl ?_
        obtain ⟨hz, hq⟩ := hq
        refine clV_X7_at hG hC sv_X8_71 ⟨by decide, by decide⟩ (Nat.le_of_ble_eq_true rfl) ⟨by decide, by decide⟩ dX8_isFair_25 hz hq (fun r5 hq => ?_)
        show V G Γ 2 0 0 h0 28 [(0, .ref p0), (1, .int x1_1)] [.int r5]
        refine V_aload_n hC dX8_isFair_28 0 rfl ?_
        refine U_getR hC fl_X8_20 dX8_isFair_29 hq (fun v6 hq => ?_)
        refine V_iload_n hC dX8_isFair_32 1 rfl ?_
        obtain ⟨hz, hq⟩ := hq
        refine clV_X7_at hG hC sv_X8_71 ⟨by decide, by decide⟩ (Nat.le_of_ble_eq_true rfl) ⟨by decide, by decide⟩ dX8_isFair_33 hz hq (fun r7 hq => ?_)
        show V G Γ 2 0 0 h0 36 [(0, .ref p0), (1, .int x1_1)] [.int r7, .int r5]
        refine V_icmp_ge (tgt := 41) hC dX8_isFair_36 (by decide) (fun hc => ?_) (fun hc => ?_)
        · have hq := hq.1 hc
          exact hq
        · have hq := hq.2 hc
          refine V_iconst (v := 0) hC dX8_isFair_39 (by decide) ?_
          exact V_iret hC hQ rfl rfl ⟨by decide, by decide⟩ dX8_isFair_40 ⟨_, rfl, rfl, hq⟩)
  exact hq
theorem clV_X8_isFair {G : Gx} (hG : GOK G) {Γ : Cx} {own : String} {cc : ByteArray} {nL fr lo mc ms cells slots pc : Nat} {hh : List (Nat × Nat × Nat × Nat)} {h : hw} {L : List (Nat × Value)} {rest : List Value} (hC : COK G Γ own cc nL fr lo mc ms hh) {idx : Nat} (hs : SV own idx yX8_isFair cX8_isFair 2 (some .boolean) 0) {p0 : Nat} (hR : 2 + 1 ≤ fr ∧ 8 + (2 + 11) + 51 ≤ lo) (hw8 : (rest.map fun v => v.category).sum ≤ 8) (hcs : cells + 0 ≤ mc ∧ slots + 0 ≤ ms) (hdg : decode cc pc = .ok (.invokevirtual idx, 3)) (ho : isO h p0 8) {post : Int32 → Prop} (hq : wp_X8_isFair G p0 h post) (kk : ∀ (r : Int32) , post r → V G Γ nL (cells + 0) (slots + 0) h (pc + 3) L (.int r :: rest)) : V G Γ nL cells slots h pc L (.ref p0 :: rest) :=
  V_callV (As := []) (r9 := (RX8, TX8, 6)) hC (ct_X8_isFair hG p0 h post hq) hs ho rfl rfl rfl hR hw8 hcs hdg (fun E h1 z => z.elim) (fun v h1 z => by obtain ⟨r, rfl, rfl, hz⟩ := z; exact kk r hz)
set_option maxRecDepth 100000 in
set_option maxHeartbeats 4000000 in
theorem ct_X9_init {G : Gx} (hG : GOK G) (p0 : Nat) (p1 : Int32) (p2 : Int32) (p3 : Int32) (h0 : hw) (post : hw → Prop) (hq : wp_X9_init G p0 p1 p2 p3 h0 post) : CT G yX9_init cX9_init 4 none 2 60 0 0 [.ref p0, .int p1, .int p2, .int p3] h0 (fun v h1 => v = none ∧ post h1) (fun E h1 => False) := by
  refine CT_of hG (by decide) (Nat.le_of_ble_eq_true rfl) (fun Γ hC hQ hN => ?_)
  have hC : COK G Γ "Bandplan$Site" cX9_init 4 2 60 0 0 [] := hC
  have hin := HIN hN rfl
  unfold wp_X9_init at hq
  show V G Γ 4 0 0 h0 0 [(0, .ref p0), (1, .int p1), (2, .int p2), (3, .int p3)] []
  refine V_aload_n hC dX9_init_0 0 rfl ?_
  refine V_objInit hC so_X9_1 (by decide) (Nat.le_of_ble_eq_true rfl) dX9_init_1 ?_
  refine V_aload_n hC dX9_init_4 0 rfl ?_
  refine V_iload_n hC dX9_init_5 1 rfl ?_
  refine U_putF hC (Or.inl (by decide)) fl_X9_7 fin_X9_0 hin rfl rfl dX9_init_6 hq (fun h1 hq => ?_)
  refine V_aload_n hC dX9_init_9 0 rfl ?_
  refine V_iload_n hC dX9_init_10 2 rfl ?_
  refine U_putF hC (Or.inl (by decide)) fl_X9_13 fin_X9_1 hin rfl rfl dX9_init_11 hq (fun h2 hq => ?_)
  refine V_aload_n hC dX9_init_14 0 rfl ?_
  refine V_iload_n hC dX9_init_15 3 rfl ?_
  refine U_putF hC (Or.inl (by decide)) fl_X9_16 fin_X9_2 hin rfl rfl dX9_init_16 hq (fun h3 hq => ?_)
  exact V_vret hC hQ ⟨by decide, by decide⟩ dX9_init_19 ⟨rfl, hq⟩
theorem clI_X9_init {G : Gx} (hG : GOK G) {Γ : Cx} {own : String} {cc : ByteArray} {nL fr lo mc ms cells slots pc : Nat} {hh : List (Nat × Nat × Nat × Nat)} {h : hw} {L : List (Nat × Value)} {rest : List Value} (hC : COK G Γ own cc nL fr lo mc ms hh) {idx : Nat} (hs : SI own idx yX9_init cX9_init 4 3) {p0 : Nat} {p1 : Int32} {p2 : Int32} {p3 : Int32} (hR : 2 + 1 ≤ fr ∧ 8 + (4 + 11) + 60 ≤ lo) (hw8 : (rest.map fun v => v.category).sum ≤ 8) (hcs : cells + 0 ≤ mc ∧ slots + 0 ≤ ms) (hdg : decode cc pc = .ok (.invokespecial idx, 3)) {post : hw → Prop} (hq : wp_X9_init G p0 p1 p2 p3 h post) (kk : ∀ (h1 : hw) , post h1 → V G Γ nL (cells + 0) (slots + 0) h1 (pc + 3) L (rest)) : V G Γ nL cells slots h pc L (.int p3 :: .int p2 :: .int p1 :: .ref p0 :: rest) :=
  V_callI (As := [.int p1, .int p2, .int p3]) hC (ct_X9_init hG p0 p1 p2 p3 h post hq) hs rfl hR hw8 hcs hdg (fun E h1 z => z.elim) (fun v h1 z => by obtain ⟨rfl, hz⟩ := z; exact kk h1 hz)
set_option maxRecDepth 100000 in
set_option maxHeartbeats 4000000 in
theorem ct_X10_init {G : Gx} (hG : GOK G) (p0 : Nat) (p1 : Int32) (p2 : Int32) (p3 : Int32) (p4 : Int32) (p5 : Int32) (h0 : hw) (post : hw → Prop) (hq : wp_X10_init G p0 p1 p2 p3 p4 p5 h0 post) : CT G yX10_init cX10_init 6 none 2 60 0 0 [.ref p0, .int p1, .int p2, .int p3, .int p4, .int p5] h0 (fun v h1 => v = none ∧ post h1) (fun E h1 => False) := by
  refine CT_of hG (by decide) (Nat.le_of_ble_eq_true rfl) (fun Γ hC hQ hN => ?_)
  have hC : COK G Γ "Bandplan$Station" cX10_init 6 2 60 0 0 [] := hC
  have hin := HIN hN rfl
  unfold wp_X10_init at hq
  show V G Γ 6 0 0 h0 0 [(0, .ref p0), (1, .int p1), (2, .int p2), (3, .int p3), (4, .int p4), (5, .int p5)] []
  refine V_aload_n hC dX10_init_0 0 rfl ?_
  refine V_objInit hC so_X10_1 (by decide) (Nat.le_of_ble_eq_true rfl) dX10_init_1 ?_
  refine V_aload_n hC dX10_init_4 0 rfl ?_
  refine V_iload_n hC dX10_init_5 1 rfl ?_
  refine U_putF hC (Or.inl (by decide)) fl_X10_7 fin_X10_0 hin rfl rfl dX10_init_6 hq (fun h1 hq => ?_)
  refine V_aload_n hC dX10_init_9 0 rfl ?_
  refine V_iload_n hC dX10_init_10 2 rfl ?_
  refine U_putF hC (Or.inl (by decide)) fl_X10_13 fin_X10_1 hin rfl rfl dX10_init_11 hq (fun h2 hq => ?_)
  refine V_aload_n hC dX10_init_14 0 rfl ?_
  refine V_iload_n hC dX10_init_15 3 rfl ?_
  refine U_putF hC (Or.inl (by decide)) fl_X10_16 fin_X10_2 hin rfl rfl dX10_init_16 hq (fun h3 hq => ?_)
  refine V_aload_n hC dX10_init_19 0 rfl ?_
  refine V_iload hC dX10_init_20 4 rfl ?_
  refine U_putF hC (Or.inl (by decide)) fl_X10_19 fin_X10_3 hin rfl rfl dX10_init_22 hq (fun h4 hq => ?_)
  refine V_aload_n hC dX10_init_25 0 rfl ?_
  refine V_iload hC dX10_init_26 5 rfl ?_
  obtain ⟨hz, hq⟩ := hq
  refine U_putF hC (Or.inl (by decide)) fl_X10_22 fin_X10_4 hin (nar_b hz) (fit_b hz) dX10_init_28 hq (fun h5 hq => ?_)
  exact V_vret hC hQ ⟨by decide, by decide⟩ dX10_init_31 ⟨rfl, hq⟩
theorem clI_X10_init {G : Gx} (hG : GOK G) {Γ : Cx} {own : String} {cc : ByteArray} {nL fr lo mc ms cells slots pc : Nat} {hh : List (Nat × Nat × Nat × Nat)} {h : hw} {L : List (Nat × Value)} {rest : List Value} (hC : COK G Γ own cc nL fr lo mc ms hh) {idx : Nat} (hs : SI own idx yX10_init cX10_init 6 5) {p0 : Nat} {p1 : Int32} {p2 : Int32} {p3 : Int32} {p4 : Int32} {p5 : Int32} (hR : 2 + 1 ≤ fr ∧ 8 + (6 + 11) + 60 ≤ lo) (hw8 : (rest.map fun v => v.category).sum ≤ 8) (hcs : cells + 0 ≤ mc ∧ slots + 0 ≤ ms) (hdg : decode cc pc = .ok (.invokespecial idx, 3)) {post : hw → Prop} (hq : wp_X10_init G p0 p1 p2 p3 p4 p5 h post) (kk : ∀ (h1 : hw) , post h1 → V G Γ nL (cells + 0) (slots + 0) h1 (pc + 3) L (rest)) : V G Γ nL cells slots h pc L (.int p5 :: .int p4 :: .int p3 :: .int p2 :: .int p1 :: .ref p0 :: rest) :=
  V_callI (As := [.int p1, .int p2, .int p3, .int p4, .int p5]) hC (ct_X10_init hG p0 p1 p2 p3 p4 p5 h post hq) hs rfl hR hw8 hcs hdg (fun E h1 z => z.elim) (fun v h1 z => by obtain ⟨rfl, hz⟩ := z; exact kk h1 hz)
set_option maxRecDepth 100000 in
set_option maxHeartbeats 4000000 in
theorem ct_X11_init {G : Gx} (hG : GOK G) (p0 : Nat) (h0 : hw) (post : hw → Prop) (hq : wp_X11_init G p0 h0 post) : CT G yX11_init cX11_init 1 none 7 160 50 5192 [.ref p0] h0 (fun v h1 => v = none ∧ post h1) (fun E h1 => False) := by
  refine CT_of hG (by decide) (Nat.le_of_ble_eq_true rfl) (fun Γ hC hQ hN => ?_)
  have hC : COK G Γ "Bandplan" cX11_init 1 7 160 50 5192 [] := hC
  have hin := HIN hN rfl
  unfold wp_X11_init at hq
  show V G Γ 1 0 0 h0 0 [(0, .ref p0)] []
  refine V_aload_n hC dX11_init_0 0 rfl ?_
  refine V_objInit hC so_X11_1 (by decide) (Nat.le_of_ble_eq_true rfl) dX11_init_1 ?_
  refine V_aload_n hC dX11_init_4 0 rfl ?_
  refine U_new hC no_X11_7 ⟨by decide, by decide⟩ dX11_init_5 hq (fun a1 h2 hq => ?_)
  refine V_dup hC dX11_init_8 rfl ?_
  refine clIN_X0_init hG hC sin_X11_9 ⟨by decide, by decide⟩ (Nat.le_of_ble_eq_true rfl) ⟨by decide, by decide⟩ dX11_init_9 hq (fun h3 hq => ?_)
  show V G Γ 1 8 514 h3 12 [(0, .ref p0)] [.ref a1, .ref p0]
  refine U_putF hC (Or.inl (by decide)) fl_X11_10 fin_X11_0 hin rfl rfl dX11_init_12 hq (fun h4 hq => ?_)
  refine V_aload_n hC dX11_init_15 0 rfl ?_
  refine U_new hC no_X11_16 ⟨by decide, by decide⟩ dX11_init_16 hq (fun a5 h6 hq => ?_)
  refine V_dup hC dX11_init_19 rfl ?_
  refine clIN_X6_init hG hC sin_X11_18 ⟨by decide, by decide⟩ (Nat.le_of_ble_eq_true rfl) ⟨by decide, by decide⟩ dX11_init_20 hq (fun h7 hq => ?_)
  show V G Γ 1 17 4635 h7 23 [(0, .ref p0)] [.ref a5, .ref p0]
  refine U_putF hC (Or.inl (by decide)) fl_X11_19 fin_X11_1 hin rfl rfl dX11_init_23 hq (fun h8 hq => ?_)
  refine V_aload_n hC dX11_init_26 0 rfl ?_
  refine U_new hC no_X11_23 ⟨by decide, by decide⟩ dX11_init_27 hq (fun a9 h10 hq => ?_)
  refine V_dup hC dX11_init_30 rfl ?_
  refine clIN_X1_init hG hC sin_X11_25 ⟨by decide, by decide⟩ (Nat.le_of_ble_eq_true rfl) ⟨by decide, by decide⟩ dX11_init_31 hq (fun h11 hq => ?_)
  show V G Γ 1 24 4777 h11 34 [(0, .ref p0)] [.ref a9, .ref p0]
  refine U_putF hC (Or.inl (by decide)) fl_X11_26 fin_X11_2 hin rfl rfl dX11_init_34 hq (fun h12 hq => ?_)
  refine V_aload_n hC dX11_init_37 0 rfl ?_
  refine U_new hC no_X11_30 ⟨by decide, by decide⟩ dX11_init_38 hq (fun a13 h14 hq => ?_)
  refine V_dup hC dX11_init_41 rfl ?_
  refine clIN_X5_init hG hC sin_X11_32 ⟨by decide, by decide⟩ (Nat.le_of_ble_eq_true rfl) ⟨by decide, by decide⟩ dX11_init_42 hq (fun h15 hq => ?_)
  show V G Γ 1 31 5113 h15 45 [(0, .ref p0)] [.ref a13, .ref p0]
  refine U_putF hC (Or.inl (by decide)) fl_X11_33 fin_X11_3 hin rfl rfl dX11_init_45 hq (fun h16 hq => ?_)
  refine V_aload_n hC dX11_init_48 0 rfl ?_
  refine U_new hC no_X11_37 ⟨by decide, by decide⟩ dX11_init_49 hq (fun a17 h18 hq => ?_)
  refine V_dup hC dX11_init_52 rfl ?_
  refine clIN_X8_init hG hC sin_X11_39 ⟨by decide, by decide⟩ (Nat.le_of_ble_eq_true rfl) ⟨by decide, by decide⟩ dX11_init_53 hq (fun h19 hq => ?_)
  show V G Γ 1 36 5137 h19 56 [(0, .ref p0)] [.ref a17, .ref p0]
  refine U_putF hC (Or.inl (by decide)) fl_X11_40 fin_X11_4 hin rfl rfl dX11_init_56 hq (fun h20 hq => ?_)
  refine V_aload_n hC dX11_init_59 0 rfl ?_
  refine U_new hC no_X11_44 ⟨by decide, by decide⟩ dX11_init_60 hq (fun a21 h22 hq => ?_)
  refine V_dup hC dX11_init_63 rfl ?_
  refine clIN_X2_init hG hC sin_X11_46 ⟨by decide, by decide⟩ (Nat.le_of_ble_eq_true rfl) ⟨by decide, by decide⟩ dX11_init_64 hq (fun h23 hq => ?_)
  show V G Γ 1 45 5170 h23 67 [(0, .ref p0)] [.ref a21, .ref p0]
  refine U_putF hC (Or.inl (by decide)) fl_X11_47 fin_X11_5 hin rfl rfl dX11_init_67 hq (fun h24 hq => ?_)
  refine V_aload_n hC dX11_init_70 0 rfl ?_
  refine U_new hC no_X11_51 ⟨by decide, by decide⟩ dX11_init_71 hq (fun a25 h26 hq => ?_)
  refine V_dup hC dX11_init_74 rfl ?_
  refine clIN_X4_init hG hC sin_X11_53 ⟨by decide, by decide⟩ (Nat.le_of_ble_eq_true rfl) ⟨by decide, by decide⟩ dX11_init_75 hq (fun h27 hq => ?_)
  show V G Γ 1 48 5183 h27 78 [(0, .ref p0)] [.ref a25, .ref p0]
  refine U_putF hC (Or.inl (by decide)) fl_X11_54 fin_X11_6 hin rfl rfl dX11_init_78 hq (fun h28 hq => ?_)
  refine V_aload_n hC dX11_init_81 0 rfl ?_
  refine U_new hC no_X11_58 ⟨by decide, by decide⟩ dX11_init_82 hq (fun a29 h30 hq => ?_)
  refine V_dup hC dX11_init_85 rfl ?_
  refine V_bipush (v := 8) hC dX11_init_86 (by decide) ?_
  refine V_iconst (v := (-1)) hC dX11_init_88 (by decide) ?_
  refine clI_X7_init hG hC si_X11_60 ⟨by decide, by decide⟩ (Nat.le_of_ble_eq_true rfl) ⟨by decide, by decide⟩ dX11_init_89 hq (fun h31 hq => ?_)
  show V G Γ 1 50 5192 h31 92 [(0, .ref p0)] [.ref a29, .ref p0]
  refine U_putF hC (Or.inl (by decide)) fl_X11_63 fin_X11_7 hin rfl rfl dX11_init_92 hq (fun h32 hq => ?_)
  exact V_vret hC hQ ⟨by decide, by decide⟩ dX11_init_95 ⟨rfl, hq⟩
theorem clI_X11_init {G : Gx} (hG : GOK G) {Γ : Cx} {own : String} {cc : ByteArray} {nL fr lo mc ms cells slots pc : Nat} {hh : List (Nat × Nat × Nat × Nat)} {h : hw} {L : List (Nat × Value)} {rest : List Value} (hC : COK G Γ own cc nL fr lo mc ms hh) {idx : Nat} (hs : SI own idx yX11_init cX11_init 1 0) {p0 : Nat} (hR : 7 + 1 ≤ fr ∧ 8 + (1 + 11) + 160 ≤ lo) (hw8 : (rest.map fun v => v.category).sum ≤ 8) (hcs : cells + 50 ≤ mc ∧ slots + 5192 ≤ ms) (hdg : decode cc pc = .ok (.invokespecial idx, 3)) {post : hw → Prop} (hq : wp_X11_init G p0 h post) (kk : ∀ (h1 : hw) , post h1 → V G Γ nL (cells + 50) (slots + 5192) h1 (pc + 3) L (rest)) : V G Γ nL cells slots h pc L (.ref p0 :: rest) :=
  V_callI (As := []) hC (ct_X11_init hG p0 h post hq) hs rfl hR hw8 hcs hdg (fun E h1 z => z.elim) (fun v h1 z => by obtain ⟨rfl, hz⟩ := z; exact kk h1 hz)
set_option maxRecDepth 100000 in
set_option maxHeartbeats 4000000 in
theorem ct_X11_needCell {G : Gx} (hG : GOK G) (p0 : Nat) (p1 : Int32) (p2 : Int32) (h0 : hw) (post : Prop) (xp : String → Prop) (hq : wp_X11_needCell G p0 p1 p2 h0 post xp) : CT G yX11_needCell cX11_needCell 3 none 6 90 1 6 [.ref p0, .int p1, .int p2] h0 (fun v h1 => v = none ∧ h1 = h0 ∧ post) (fun E h1 => h1 = h0 ∧ xp E) := by
  refine CT_of hG (by decide) (Nat.le_of_ble_eq_true rfl) (fun Γ hC hQ hN => ?_)
  have hC : COK G Γ "Bandplan" cX11_needCell 3 6 90 1 6 [] := hC
  unfold wp_X11_needCell at hq
  show V G Γ 3 0 0 h0 0 [(0, .ref p0), (1, .int p1), (2, .int p2)] []
  refine V_iload_n hC dX11_needCell_0 1 rfl ?_
  have hq := hq (V G Γ 3 0 0 h0 20 [] []) (by
    intro hq
    show V G Γ 3 0 0 h0 20 [] []
    exact V_throwSW hC hQ hG th_376_378 ⟨by decide, by decide⟩ ⟨by decide, by decide⟩ dX11_needCell_20 dX11_needCell_23 dX11_needCell_24 dX11_needCell_27 dX11_needCell_30 ⟨rfl, hq⟩)
  refine V_if_lt (tgt := 20) hC dX11_needCell_1 (by decide) (fun hc => ?_) (fun hc => ?_)
  · have hq := hq.1 hc
    refine V_sub [] rfl ?_
    exact hq
  · have hq := hq.2 hc
    refine V_iload_n hC dX11_needCell_4 1 rfl ?_
    refine V_bipush (v := 20) hC dX11_needCell_5 (by decide) ?_
    refine V_icmp_ge (tgt := 20) hC dX11_needCell_7 (by decide) (fun hc => ?_) (fun hc => ?_)
    · have hq := hq.1 hc
      refine V_sub [] rfl ?_
      exact hq
    · have hq := hq.2 hc
      refine V_iload_n hC dX11_needCell_10 2 rfl ?_
      refine V_if_lt (tgt := 20) hC dX11_needCell_11 (by decide) (fun hc => ?_) (fun hc => ?_)
      · have hq := hq.1 hc
        refine V_sub [] rfl ?_
        exact hq
      · have hq := hq.2 hc
        refine V_iload_n hC dX11_needCell_14 2 rfl ?_
        refine V_bipush (v := 20) hC dX11_needCell_15 (by decide) ?_
        refine V_icmp_lt (tgt := 31) hC dX11_needCell_17 (by decide) (fun hc => ?_) (fun hc => ?_)
        · have hq := hq.1 hc
          exact V_vret hC hQ ⟨by decide, by decide⟩ dX11_needCell_31 ⟨rfl, rfl, hq⟩
        · have hq := hq.2 hc
          refine V_sub [] rfl ?_
          exact hq
theorem clV_X11_needCell {G : Gx} (hG : GOK G) {Γ : Cx} {own : String} {cc : ByteArray} {nL fr lo mc ms cells slots pc : Nat} {hh : List (Nat × Nat × Nat × Nat)} {h : hw} {L : List (Nat × Value)} {rest : List Value} (hC : COK G Γ own cc nL fr lo mc ms hh) {idx : Nat} (hs : SV own idx yX11_needCell cX11_needCell 3 none 2) {p0 : Nat} {p1 : Int32} {p2 : Int32} (hR : 6 + 1 ≤ fr ∧ 8 + (3 + 11) + 90 ≤ lo) (hw8 : (rest.map fun v => v.category).sum ≤ 8) (hcs : cells + 1 ≤ mc ∧ slots + 6 ≤ ms) (hdg : decode cc pc = .ok (.invokevirtual idx, 3)) (ho : isO h p0 11) {post : Prop} {xp : String → Prop} (hq : wp_X11_needCell G p0 p1 p2 h post xp) (kx : ∀ E : String, xp E → VX G Γ nL (cells + 1) (slots + 6) h pc L rest E) (kk : post → V G Γ nL (cells + 1) (slots + 6) h (pc + 3) L rest) : V G Γ nL cells slots h pc L (.int p2 :: .int p1 :: .ref p0 :: rest) :=
  V_callV (As := [.int p1, .int p2]) (r9 := (RX11, TX11, 8)) hC (ct_X11_needCell hG p0 p1 p2 h post xp hq) hs ho rfl rfl rfl hR hw8 hcs hdg (fun E h1 z => by obtain ⟨rfl, hz⟩ := z; exact kx E hz) (fun v h1 z => by obtain ⟨rfl, rfl, hz⟩ := z; exact kk hz)
set_option maxRecDepth 100000 in
set_option maxHeartbeats 4000000 in
theorem ct_X11_needRange {G : Gx} (hG : GOK G) (p0 : Nat) (p1 : Int32) (p2 : Int32) (p3 : Int32) (h0 : hw) (post : Prop) (xp : String → Prop) (hq : wp_X11_needRange G p0 p1 p2 p3 h0 post xp) : CT G yX11_needRange cX11_needRange 4 none 6 90 1 6 [.ref p0, .int p1, .int p2, .int p3] h0 (fun v h1 => v = none ∧ h1 = h0 ∧ post) (fun E h1 => h1 = h0 ∧ xp E) := by
  refine CT_of hG (by decide) (Nat.le_of_ble_eq_true rfl) (fun Γ hC hQ hN => ?_)
  have hC : COK G Γ "Bandplan" cX11_needRange 4 6 90 1 6 [] := hC
  unfold wp_X11_needRange at hq
  show V G Γ 4 0 0 h0 0 [(0, .ref p0), (1, .int p1), (2, .int p2), (3, .int p3)] []
  refine V_iload_n hC dX11_needRange_0 1 rfl ?_
  refine V_iload_n hC dX11_needRange_1 2 rfl ?_
  have hq := hq (V G Γ 4 0 0 h0 10 [] []) (by
    intro hq
    show V G Γ 4 0 0 h0 10 [] []
    exact V_throwSW hC hQ hG th_120_385 ⟨by decide, by decide⟩ ⟨by decide, by decide⟩ dX11_needRange_10 dX11_needRange_13 dX11_needRange_14 dX11_needRange_17 dX11_needRange_20 ⟨rfl, hq⟩)
  refine V_icmp_lt (tgt := 10) hC dX11_needRange_2 (by decide) (fun hc => ?_) (fun hc => ?_)
  · have hq := hq.1 hc
    refine V_sub [] rfl ?_
    exact hq
  · have hq := hq.2 hc
    refine V_iload_n hC dX11_needRange_5 1 rfl ?_
    refine V_iload_n hC dX11_needRange_6 3 rfl ?_
    refine V_icmp_le (tgt := 21) hC dX11_needRange_7 (by decide) (fun hc => ?_) (fun hc => ?_)
    · have hq := hq.1 hc
      exact V_vret hC hQ ⟨by decide, by decide⟩ dX11_needRange_21 ⟨rfl, rfl, hq⟩
    · have hq := hq.2 hc
      refine V_sub [] rfl ?_
      exact hq
theorem clV_X11_needRange {G : Gx} (hG : GOK G) {Γ : Cx} {own : String} {cc : ByteArray} {nL fr lo mc ms cells slots pc : Nat} {hh : List (Nat × Nat × Nat × Nat)} {h : hw} {L : List (Nat × Value)} {rest : List Value} (hC : COK G Γ own cc nL fr lo mc ms hh) {idx : Nat} (hs : SV own idx yX11_needRange cX11_needRange 4 none 3) {p0 : Nat} {p1 : Int32} {p2 : Int32} {p3 : Int32} (hR : 6 + 1 ≤ fr ∧ 8 + (4 + 11) + 90 ≤ lo) (hw8 : (rest.map fun v => v.category).sum ≤ 8) (hcs : cells + 1 ≤ mc ∧ slots + 6 ≤ ms) (hdg : decode cc pc = .ok (.invokevirtual idx, 3)) (ho : isO h p0 11) {post : Prop} {xp : String → Prop} (hq : wp_X11_needRange G p0 p1 p2 p3 h post xp) (kx : ∀ E : String, xp E → VX G Γ nL (cells + 1) (slots + 6) h pc L rest E) (kk : post → V G Γ nL (cells + 1) (slots + 6) h (pc + 3) L rest) : V G Γ nL cells slots h pc L (.int p3 :: .int p2 :: .int p1 :: .ref p0 :: rest) :=
  V_callV (As := [.int p1, .int p2, .int p3]) (r9 := (RX11, TX11, 8)) hC (ct_X11_needRange hG p0 p1 p2 p3 h post xp hq) hs ho rfl rfl rfl hR hw8 hcs hdg (fun E h1 z => by obtain ⟨rfl, hz⟩ := z; exact kx E hz) (fun v h1 z => by obtain ⟨rfl, rfl, hz⟩ := z; exact kk hz)
set_option maxRecDepth 100000 in
set_option maxHeartbeats 4000000 in
theorem ct_X11_needSilence {G : Gx} (hG : GOK G) (p0 : Nat) (h0 : hw) (post : Prop) (xp : String → Prop) (hq : wp_X11_needSilence G p0 h0 post xp) : CT G yX11_needSilence cX11_needSilence 1 none 6 90 1 6 [.ref p0] h0 (fun v h1 => v = none ∧ h1 = h0 ∧ post) (fun E h1 => h1 = h0 ∧ xp E) := by
  refine CT_of hG (by decide) (Nat.le_of_ble_eq_true rfl) (fun Γ hC hQ hN => ?_)
  have hC : COK G Γ "Bandplan" cX11_needSilence 1 6 90 1 6 [] := hC
  unfold wp_X11_needSilence at hq
  show V G Γ 1 0 0 h0 0 [(0, .ref p0)] []
  refine V_aload_n hC dX11_needSilence_0 0 rfl ?_
  refine U_getR hC fl_X11_19 dX11_needSilence_1 hq (fun v1 hq => ?_)
  obtain ⟨hz, hq⟩ := hq
  refine clV_X6_onesOn hG hC sv_X11_274 ⟨by decide, by decide⟩ (Nat.le_of_ble_eq_true rfl) ⟨by decide, by decide⟩ dX11_needSilence_4 hz hq (fun r2 hq => ?_)
  show V G Γ 1 0 0 h0 7 [(0, .ref p0)] [.int r2]
  refine V_if_eq (tgt := 21) hC dX11_needSilence_7 (by decide) (fun hc => ?_) (fun hc => ?_)
  · have hq := hq.1 hc
    exact V_vret hC hQ ⟨by decide, by decide⟩ dX11_needSilence_21 ⟨rfl, rfl, hq⟩
  · have hq := hq.2 hc
    exact V_throwSW hC hQ hG th_97_387 ⟨by decide, by decide⟩ ⟨by decide, by decide⟩ dX11_needSilence_10 dX11_needSilence_13 dX11_needSilence_14 dX11_needSilence_17 dX11_needSilence_20 ⟨rfl, hq⟩
theorem clV_X11_needSilence {G : Gx} (hG : GOK G) {Γ : Cx} {own : String} {cc : ByteArray} {nL fr lo mc ms cells slots pc : Nat} {hh : List (Nat × Nat × Nat × Nat)} {h : hw} {L : List (Nat × Value)} {rest : List Value} (hC : COK G Γ own cc nL fr lo mc ms hh) {idx : Nat} (hs : SV own idx yX11_needSilence cX11_needSilence 1 none 0) {p0 : Nat} (hR : 6 + 1 ≤ fr ∧ 8 + (1 + 11) + 90 ≤ lo) (hw8 : (rest.map fun v => v.category).sum ≤ 8) (hcs : cells + 1 ≤ mc ∧ slots + 6 ≤ ms) (hdg : decode cc pc = .ok (.invokevirtual idx, 3)) (ho : isO h p0 11) {post : Prop} {xp : String → Prop} (hq : wp_X11_needSilence G p0 h post xp) (kx : ∀ E : String, xp E → VX G Γ nL (cells + 1) (slots + 6) h pc L rest E) (kk : post → V G Γ nL (cells + 1) (slots + 6) h (pc + 3) L rest) : V G Γ nL cells slots h pc L (.ref p0 :: rest) :=
  V_callV (As := []) (r9 := (RX11, TX11, 8)) hC (ct_X11_needSilence hG p0 h post xp hq) hs ho rfl rfl rfl hR hw8 hcs hdg (fun E h1 z => by obtain ⟨rfl, hz⟩ := z; exact kx E hz) (fun v h1 z => by obtain ⟨rfl, rfl, hz⟩ := z; exact kk hz)
set_option maxRecDepth 100000 in
set_option maxHeartbeats 4000000 in
theorem ct_X11_setGround {G : Gx} (hG : GOK G) (p0 : Nat) (p1 : Int32) (p2 : Int32) (p3 : Int32) (h0 : hw) (post : Int32 → hw → Prop) (xp : String → hw → Prop) (hq : wp_X11_setGround G p0 p1 p2 p3 h0 post xp) : CT G yX11_setGround cX11_setGround 4 (some .int) 7 177 3 18 [.ref p0, .int p1, .int p2, .int p3] h0 (fun v h1 => ∃ r : Int32, v = some (.int r) ∧ post r h1) (fun E h1 => xp E h1) := by
  refine CT_of hG (by decide) (Nat.le_of_ble_eq_true rfl) (fun Γ hC hQ hN => ?_)
  have hC : COK G Γ "Bandplan" cX11_setGround 4 7 177 3 18 [] := hC
  unfold wp_X11_setGround at hq
  show V G Γ 4 0 0 h0 0 [(0, .ref p0), (1, .int p1), (2, .int p2), (3, .int p3)] []
  refine V_aload_n hC dX11_setGround_0 0 rfl ?_
  refine V_iload_n hC dX11_setGround_1 1 rfl ?_
  refine V_iload_n hC dX11_setGround_2 2 rfl ?_
  obtain ⟨hz, hq⟩ := hq
  refine clV_X11_needCell hG hC sv_X11_67 ⟨by decide, by decide⟩ (Nat.le_of_ble_eq_true rfl) ⟨by decide, by decide⟩ dX11_setGround_3 hz hq (fun E hx => VX_out hC hQ ⟨by decide, by decide⟩ hx) (fun hq => ?_)
  show V G Γ 4 1 6 h0 6 [(0, .ref p0), (1, .int p1), (2, .int p2), (3, .int p3)] []
  refine V_aload_n hC dX11_setGround_6 0 rfl ?_
  refine V_iload_n hC dX11_setGround_7 3 rfl ?_
  refine V_iconst (v := 0) hC dX11_setGround_8 (by decide) ?_
  refine V_bipush (v := 99) hC dX11_setGround_9 (by decide) ?_
  obtain ⟨hz, hq⟩ := hq
  refine clV_X11_needRange hG hC sv_X11_70 ⟨by decide, by decide⟩ (Nat.le_of_ble_eq_true rfl) ⟨by decide, by decide⟩ dX11_setGround_11 hz hq (fun E hx => VX_out hC hQ ⟨by decide, by decide⟩ hx) (fun hq => ?_)
  show V G Γ 4 2 12 h0 14 [(0, .ref p0), (1, .int p1), (2, .int p2), (3, .int p3)] []
  refine V_aload_n hC dX11_setGround_14 0 rfl ?_
  obtain ⟨hz, hq⟩ := hq
  refine clV_X11_needSilence hG hC sv_X11_74 ⟨by decide, by decide⟩ (Nat.le_of_ble_eq_true rfl) ⟨by decide, by decide⟩ dX11_setGround_15 hz hq (fun E hx => VX_out hC hQ ⟨by decide, by decide⟩ hx) (fun hq => ?_)
  show V G Γ 4 3 18 h0 18 [(0, .ref p0), (1, .int p1), (2, .int p2), (3, .int p3)] []
  refine V_aload_n hC dX11_setGround_18 0 rfl ?_
  refine U_getR hC fl_X11_10 dX11_setGround_19 hq (fun v1 hq => ?_)
  refine U_getR hC fl_X11_77 dX11_setGround_22 hq (fun v2 hq => ?_)
  refine V_iload_n hC dX11_setGround_25 1 rfl ?_
  refine V_iload_n hC dX11_setGround_26 2 rfl ?_
  refine V_iload_n hC dX11_setGround_27 3 rfl ?_
  obtain ⟨hz, hq⟩ := hq
  refine clV_X3_changeGround hG hC sv_X11_81 ⟨by decide, by decide⟩ (Nat.le_of_ble_eq_true rfl) ⟨by decide, by decide⟩ dX11_setGround_28 hz hq (fun r3 h4 hq => ?_)
  show V G Γ 4 3 18 h4 31 [(0, .ref p0), (1, .int p1), (2, .int p2), (3, .int p3)] [.int r3]
  exact V_iret hC hQ rfl rfl ⟨by decide, by decide⟩ dX11_setGround_31 ⟨_, rfl, hq⟩
theorem clV_X11_setGround {G : Gx} (hG : GOK G) {Γ : Cx} {own : String} {cc : ByteArray} {nL fr lo mc ms cells slots pc : Nat} {hh : List (Nat × Nat × Nat × Nat)} {h : hw} {L : List (Nat × Value)} {rest : List Value} (hC : COK G Γ own cc nL fr lo mc ms hh) {idx : Nat} (hs : SV own idx yX11_setGround cX11_setGround 4 (some .int) 3) {p0 : Nat} {p1 : Int32} {p2 : Int32} {p3 : Int32} (hR : 7 + 1 ≤ fr ∧ 8 + (4 + 11) + 177 ≤ lo) (hw8 : (rest.map fun v => v.category).sum ≤ 8) (hcs : cells + 3 ≤ mc ∧ slots + 18 ≤ ms) (hdg : decode cc pc = .ok (.invokevirtual idx, 3)) (ho : isO h p0 11) {post : Int32 → hw → Prop} {xp : String → hw → Prop} (hq : wp_X11_setGround G p0 p1 p2 p3 h post xp) (kx : ∀ (E : String) (h1 : hw), xp E h1 → VX G Γ nL (cells + 3) (slots + 18) h1 pc L rest E) (kk : ∀ (r : Int32) (h1 : hw) , post r h1 → V G Γ nL (cells + 3) (slots + 18) h1 (pc + 3) L (.int r :: rest)) : V G Γ nL cells slots h pc L (.int p3 :: .int p2 :: .int p1 :: .ref p0 :: rest) :=
  V_callV (As := [.int p1, .int p2, .int p3]) (r9 := (RX11, TX11, 8)) hC (ct_X11_setGround hG p0 p1 p2 p3 h post xp hq) hs ho rfl rfl rfl hR hw8 hcs hdg (fun E h1 z => kx E h1 z) (fun v h1 z => by obtain ⟨r, rfl, hz⟩ := z; exact kk r h1 hz)
set_option maxRecDepth 100000 in
set_option maxHeartbeats 4000000 in
theorem ct_X11_addSite {G : Gx} (hG : GOK G) (p0 : Nat) (p1 : Int32) (p2 : Int32) (p3 : Int32) (h0 : hw) (post : Int32 → hw → Prop) (xp : String → hw → Prop) (hq : wp_X11_addSite G p0 p1 p2 p3 h0 post xp) : CT G yX11_addSite cX11_addSite 4 (some .int) 9 212 4 25 [.ref p0, .int p1, .int p2, .int p3] h0 (fun v h1 => ∃ r : Int32, v = some (.int r) ∧ post r h1) (fun E h1 => xp E h1) := by
  refine CT_of hG (by decide) (Nat.le_of_ble_eq_true rfl) (fun Γ hC hQ hN => ?_)
  have hC : COK G Γ "Bandplan" cX11_addSite 4 9 212 4 25 [] := hC
  unfold wp_X11_addSite at hq
  show V G Γ 4 0 0 h0 0 [(0, .ref p0), (1, .int p1), (2, .int p2), (3, .int p3)] []
  refine V_aload_n hC dX11_addSite_0 0 rfl ?_
  refine V_iload_n hC dX11_addSite_1 1 rfl ?_
  refine V_iload_n hC dX11_addSite_2 2 rfl ?_
  obtain ⟨hz, hq⟩ := hq
  refine clV_X11_needCell hG hC sv_X11_67 ⟨by decide, by decide⟩ (Nat.le_of_ble_eq_true rfl) ⟨by decide, by decide⟩ dX11_addSite_3 hz hq (fun E hx => VX_out hC hQ ⟨by decide, by decide⟩ hx) (fun hq => ?_)
  show V G Γ 4 1 6 h0 6 [(0, .ref p0), (1, .int p1), (2, .int p2), (3, .int p3)] []
  refine V_aload_n hC dX11_addSite_6 0 rfl ?_
  refine V_iload_n hC dX11_addSite_7 3 rfl ?_
  refine V_iconst (v := 0) hC dX11_addSite_8 (by decide) ?_
  refine V_bipush (v := 99) hC dX11_addSite_9 (by decide) ?_
  obtain ⟨hz, hq⟩ := hq
  refine clV_X11_needRange hG hC sv_X11_70 ⟨by decide, by decide⟩ (Nat.le_of_ble_eq_true rfl) ⟨by decide, by decide⟩ dX11_addSite_11 hz hq (fun E hx => VX_out hC hQ ⟨by decide, by decide⟩ hx) (fun hq => ?_)
  show V G Γ 4 2 12 h0 14 [(0, .ref p0), (1, .int p1), (2, .int p2), (3, .int p3)] []
  refine V_aload_n hC dX11_addSite_14 0 rfl ?_
  refine U_getR hC fl_X11_10 dX11_addSite_15 hq (fun v1 hq => ?_)
  refine U_getR hC fl_X11_77 dX11_addSite_18 hq (fun v2 hq => ?_)
  refine U_getR hC fl_X11_87 dX11_addSite_21 hq (fun v3 hq => ?_)
  obtain ⟨hz, hq⟩ := hq
  refine clV_Jx4a65c_size_8abf5 hG hC sv_X11_91 ⟨by decide, by decide⟩ (Nat.le_of_ble_eq_true rfl) ⟨by decide, by decide⟩ dX11_addSite_24 hz hq (fun r4 hq => ?_)
  show V G Γ 4 2 12 h0 27 [(0, .ref p0), (1, .int p1), (2, .int p2), (3, .int p3)] [.int r4]
  refine V_bipush (v := 10) hC dX11_addSite_27 (by decide) ?_
  refine V_icmp_lt (tgt := 42) hC dX11_addSite_29 (by decide) (fun hc => ?_) (fun hc => ?_)
  · have hq := hq.1 hc
    refine V_aload_n hC dX11_addSite_42 0 rfl ?_
    refine U_getR hC fl_X11_10 dX11_addSite_43 hq (fun v5 hq => ?_)
    refine U_getR hC fl_X11_77 dX11_addSite_46 hq (fun v6 hq => ?_)
    refine U_new hC no_X11_104 ⟨by decide, by decide⟩ dX11_addSite_49 hq (fun a7 h8 hq => ?_)
    refine V_dup hC dX11_addSite_52 rfl ?_
    refine V_iload_n hC dX11_addSite_53 1 rfl ?_
    refine V_iload_n hC dX11_addSite_54 2 rfl ?_
    refine V_iload_n hC dX11_addSite_55 3 rfl ?_
    refine clI_X9_init hG hC si_X11_106 ⟨by decide, by decide⟩ (Nat.le_of_ble_eq_true rfl) ⟨by decide, by decide⟩ dX11_addSite_56 hq (fun h9 hq => ?_)
    show V G Γ 4 3 15 h9 59 [(0, .ref p0), (1, .int p1), (2, .int p2), (3, .int p3)] [.ref a7, .ref v6]
    obtain ⟨hz, hq⟩ := hq
    refine clV_X3_found hG hC sv_X11_108 ⟨by decide, by decide⟩ (Nat.le_of_ble_eq_true rfl) ⟨by decide, by decide⟩ dX11_addSite_59 hz hq (fun r10 h11 hq => ?_)
    show V G Γ 4 4 25 h11 62 [(0, .ref p0), (1, .int p1), (2, .int p2), (3, .int p3)] [.int r10]
    exact V_iret hC hQ rfl rfl ⟨by decide, by decide⟩ dX11_addSite_62 ⟨_, rfl, hq⟩
  · have hq := hq.2 hc
    exact V_throwS hC hQ hG th_97_99 ⟨by decide, by decide⟩ ⟨by decide, by decide⟩ dX11_addSite_32 dX11_addSite_35 dX11_addSite_36 dX11_addSite_38 dX11_addSite_41 hq
theorem clV_X11_addSite {G : Gx} (hG : GOK G) {Γ : Cx} {own : String} {cc : ByteArray} {nL fr lo mc ms cells slots pc : Nat} {hh : List (Nat × Nat × Nat × Nat)} {h : hw} {L : List (Nat × Value)} {rest : List Value} (hC : COK G Γ own cc nL fr lo mc ms hh) {idx : Nat} (hs : SV own idx yX11_addSite cX11_addSite 4 (some .int) 3) {p0 : Nat} {p1 : Int32} {p2 : Int32} {p3 : Int32} (hR : 9 + 1 ≤ fr ∧ 8 + (4 + 11) + 212 ≤ lo) (hw8 : (rest.map fun v => v.category).sum ≤ 8) (hcs : cells + 4 ≤ mc ∧ slots + 25 ≤ ms) (hdg : decode cc pc = .ok (.invokevirtual idx, 3)) (ho : isO h p0 11) {post : Int32 → hw → Prop} {xp : String → hw → Prop} (hq : wp_X11_addSite G p0 p1 p2 p3 h post xp) (kx : ∀ (E : String) (h1 : hw), xp E h1 → VX G Γ nL (cells + 4) (slots + 25) h1 pc L rest E) (kk : ∀ (r : Int32) (h1 : hw) , post r h1 → V G Γ nL (cells + 4) (slots + 25) h1 (pc + 3) L (.int r :: rest)) : V G Γ nL cells slots h pc L (.int p3 :: .int p2 :: .int p1 :: .ref p0 :: rest) :=
  V_callV (As := [.int p1, .int p2, .int p3]) (r9 := (RX11, TX11, 8)) hC (ct_X11_addSite hG p0 p1 p2 p3 h post xp hq) hs ho rfl rfl rfl hR hw8 hcs hdg (fun E h1 z => kx E h1 z) (fun v h1 z => by obtain ⟨r, rfl, hz⟩ := z; exact kk r h1 hz)
set_option maxRecDepth 100000 in
set_option maxHeartbeats 4000000 in
theorem ct_X11_needSite {G : Gx} (hG : GOK G) (p0 : Nat) (p1 : Int32) (h0 : hw) (post : Prop) (xp : String → Prop) (hq : wp_X11_needSite G p0 p1 h0 post xp) : CT G yX11_needSite cX11_needSite 2 none 6 90 1 6 [.ref p0, .int p1] h0 (fun v h1 => v = none ∧ h1 = h0 ∧ post) (fun E h1 => h1 = h0 ∧ xp E) := by
  refine CT_of hG (by decide) (Nat.le_of_ble_eq_true rfl) (fun Γ hC hQ hN => ?_)
  have hC : COK G Γ "Bandplan" cX11_needSite 2 6 90 1 6 [] := hC
  unfold wp_X11_needSite at hq
  show V G Γ 2 0 0 h0 0 [(0, .ref p0), (1, .int p1)] []
  refine V_iload_n hC dX11_needSite_0 1 rfl ?_
  have hq := hq (V G Γ 2 0 0 h0 21 [] []) (by
    intro hq
    show V G Γ 2 0 0 h0 21 [] []
    exact V_throwSW hC hQ hG th_376_381 ⟨by decide, by decide⟩ ⟨by decide, by decide⟩ dX11_needSite_21 dX11_needSite_24 dX11_needSite_25 dX11_needSite_28 dX11_needSite_31 ⟨rfl, hq⟩)
  refine V_if_lt (tgt := 21) hC dX11_needSite_1 (by decide) (fun hc => ?_) (fun hc => ?_)
  · have hq := hq.1 hc
    refine V_sub [] rfl ?_
    exact hq
  · have hq := hq.2 hc
    refine V_iload_n hC dX11_needSite_4 1 rfl ?_
    refine V_aload_n hC dX11_needSite_5 0 rfl ?_
    refine U_getR hC fl_X11_10 dX11_needSite_6 hq (fun v1 hq => ?_)
    refine U_getR hC fl_X11_77 dX11_needSite_9 hq (fun v2 hq => ?_)
    refine U_getR hC fl_X11_87 dX11_needSite_12 hq (fun v3 hq => ?_)
    obtain ⟨hz, hq⟩ := hq
    refine clV_Jx4a65c_size_8abf5 hG hC sv_X11_91 ⟨by decide, by decide⟩ (Nat.le_of_ble_eq_true rfl) ⟨by decide, by decide⟩ dX11_needSite_15 hz hq (fun r4 hq => ?_)
    show V G Γ 2 0 0 h0 18 [(0, .ref p0), (1, .int p1)] [.int r4, .int p1]
    refine V_icmp_lt (tgt := 32) hC dX11_needSite_18 (by decide) (fun hc => ?_) (fun hc => ?_)
    · have hq := hq.1 hc
      exact V_vret hC hQ ⟨by decide, by decide⟩ dX11_needSite_32 ⟨rfl, rfl, hq⟩
    · have hq := hq.2 hc
      refine V_sub [] rfl ?_
      exact hq
theorem clV_X11_needSite {G : Gx} (hG : GOK G) {Γ : Cx} {own : String} {cc : ByteArray} {nL fr lo mc ms cells slots pc : Nat} {hh : List (Nat × Nat × Nat × Nat)} {h : hw} {L : List (Nat × Value)} {rest : List Value} (hC : COK G Γ own cc nL fr lo mc ms hh) {idx : Nat} (hs : SV own idx yX11_needSite cX11_needSite 2 none 1) {p0 : Nat} {p1 : Int32} (hR : 6 + 1 ≤ fr ∧ 8 + (2 + 11) + 90 ≤ lo) (hw8 : (rest.map fun v => v.category).sum ≤ 8) (hcs : cells + 1 ≤ mc ∧ slots + 6 ≤ ms) (hdg : decode cc pc = .ok (.invokevirtual idx, 3)) (ho : isO h p0 11) {post : Prop} {xp : String → Prop} (hq : wp_X11_needSite G p0 p1 h post xp) (kx : ∀ E : String, xp E → VX G Γ nL (cells + 1) (slots + 6) h pc L rest E) (kk : post → V G Γ nL (cells + 1) (slots + 6) h (pc + 3) L rest) : V G Γ nL cells slots h pc L (.int p1 :: .ref p0 :: rest) :=
  V_callV (As := [.int p1]) (r9 := (RX11, TX11, 8)) hC (ct_X11_needSite hG p0 p1 h post xp hq) hs ho rfl rfl rfl hR hw8 hcs hdg (fun E h1 z => by obtain ⟨rfl, hz⟩ := z; exact kx E hz) (fun v h1 z => by obtain ⟨rfl, rfl, hz⟩ := z; exact kk hz)
set_option maxRecDepth 100000 in
set_option maxHeartbeats 4000000 in
theorem ct_X11_loss {G : Gx} (hG : GOK G) (p0 : Nat) (p1 : Int32) (p2 : Int32) (h0 : hw) (post : Int32 → Prop) (xp : String → Prop) (hq : wp_X11_loss G p0 p1 p2 h0 post xp) : CT G yX11_loss cX11_loss 3 (some .int) 7 111 2 12 [.ref p0, .int p1, .int p2] h0 (fun v h1 => ∃ r : Int32, v = some (.int r) ∧ h1 = h0 ∧ post r) (fun E h1 => h1 = h0 ∧ xp E) := by
  refine CT_of hG (by decide) (Nat.le_of_ble_eq_true rfl) (fun Γ hC hQ hN => ?_)
  have hC : COK G Γ "Bandplan" cX11_loss 3 7 111 2 12 [] := hC
  unfold wp_X11_loss at hq
  show V G Γ 3 0 0 h0 0 [(0, .ref p0), (1, .int p1), (2, .int p2)] []
  refine V_aload_n hC dX11_loss_0 0 rfl ?_
  refine V_iload_n hC dX11_loss_1 1 rfl ?_
  obtain ⟨hz, hq⟩ := hq
  refine clV_X11_needSite hG hC sv_X11_112 ⟨by decide, by decide⟩ (Nat.le_of_ble_eq_true rfl) ⟨by decide, by decide⟩ dX11_loss_2 hz hq (fun E hx => VX_out hC hQ ⟨by decide, by decide⟩ ⟨rfl, hx⟩) (fun hq => ?_)
  show V G Γ 3 1 6 h0 5 [(0, .ref p0), (1, .int p1), (2, .int p2)] []
  refine V_aload_n hC dX11_loss_5 0 rfl ?_
  refine V_iload_n hC dX11_loss_6 2 rfl ?_
  obtain ⟨hz, hq⟩ := hq
  refine clV_X11_needSite hG hC sv_X11_112 ⟨by decide, by decide⟩ (Nat.le_of_ble_eq_true rfl) ⟨by decide, by decide⟩ dX11_loss_7 hz hq (fun E hx => VX_out hC hQ ⟨by decide, by decide⟩ ⟨rfl, hx⟩) (fun hq => ?_)
  show V G Γ 3 2 12 h0 10 [(0, .ref p0), (1, .int p1), (2, .int p2)] []
  refine V_aload_n hC dX11_loss_10 0 rfl ?_
  refine U_getR hC fl_X11_10 dX11_loss_11 hq (fun v1 hq => ?_)
  refine U_getR hC fl_X11_77 dX11_loss_14 hq (fun v2 hq => ?_)
  refine V_iload_n hC dX11_loss_17 1 rfl ?_
  refine V_iload_n hC dX11_loss_18 2 rfl ?_
  obtain ⟨hz, hq⟩ := hq
  refine clV_X3_lossBetween hG hC sv_X11_116 ⟨by decide, by decide⟩ (Nat.le_of_ble_eq_true rfl) ⟨by decide, by decide⟩ dX11_loss_19 hz hq (fun r3 hq => ?_)
  show V G Γ 3 2 12 h0 22 [(0, .ref p0), (1, .int p1), (2, .int p2)] [.int r3]
  exact V_iret hC hQ rfl rfl ⟨by decide, by decide⟩ dX11_loss_22 ⟨_, rfl, rfl, hq⟩
theorem clV_X11_loss {G : Gx} (hG : GOK G) {Γ : Cx} {own : String} {cc : ByteArray} {nL fr lo mc ms cells slots pc : Nat} {hh : List (Nat × Nat × Nat × Nat)} {h : hw} {L : List (Nat × Value)} {rest : List Value} (hC : COK G Γ own cc nL fr lo mc ms hh) {idx : Nat} (hs : SV own idx yX11_loss cX11_loss 3 (some .int) 2) {p0 : Nat} {p1 : Int32} {p2 : Int32} (hR : 7 + 1 ≤ fr ∧ 8 + (3 + 11) + 111 ≤ lo) (hw8 : (rest.map fun v => v.category).sum ≤ 8) (hcs : cells + 2 ≤ mc ∧ slots + 12 ≤ ms) (hdg : decode cc pc = .ok (.invokevirtual idx, 3)) (ho : isO h p0 11) {post : Int32 → Prop} {xp : String → Prop} (hq : wp_X11_loss G p0 p1 p2 h post xp) (kx : ∀ E : String, xp E → VX G Γ nL (cells + 2) (slots + 12) h pc L rest E) (kk : ∀ (r : Int32) , post r → V G Γ nL (cells + 2) (slots + 12) h (pc + 3) L (.int r :: rest)) : V G Γ nL cells slots h pc L (.int p2 :: .int p1 :: .ref p0 :: rest) :=
  V_callV (As := [.int p1, .int p2]) (r9 := (RX11, TX11, 8)) hC (ct_X11_loss hG p0 p1 p2 h post xp hq) hs ho rfl rfl rfl hR hw8 hcs hdg (fun E h1 z => by obtain ⟨rfl, hz⟩ := z; exact kx E hz) (fun v h1 z => by obtain ⟨r, rfl, rfl, hz⟩ := z; exact kk r hz)
set_option maxRecDepth 100000 in
set_option maxHeartbeats 4000000 in
theorem ct_X11_addStation {G : Gx} (hG : GOK G) (p0 : Nat) (p1 : Int32) (p2 : Int32) (p3 : Int32) (p4 : Int32) (h0 : hw) (post : Int32 → hw → Prop) (xp : String → hw → Prop) (hq : wp_X11_addStation G p0 p1 p2 p3 p4 h0 post xp) : CT G yX11_addStation cX11_addStation 6 (some .int) 8 191 5 34 [.ref p0, .int p1, .int p2, .int p3, .int p4] h0 (fun v h1 => ∃ r : Int32, v = some (.int r) ∧ post r h1) (fun E h1 => xp E h1) := by
  refine CT_of hG (by decide) (Nat.le_of_ble_eq_true rfl) (fun Γ hC hQ hN => ?_)
  have hC : COK G Γ "Bandplan" cX11_addStation 6 8 191 5 34 [] := hC
  unfold wp_X11_addStation at hq
  show V G Γ 6 0 0 h0 0 [(0, .ref p0), (1, .int p1), (2, .int p2), (3, .int p3), (4, .int p4)] []
  refine V_aload_n hC dX11_addStation_0 0 rfl ?_
  refine V_iload_n hC dX11_addStation_1 1 rfl ?_
  obtain ⟨hz, hq⟩ := hq
  refine clV_X11_needSite hG hC sv_X11_112 ⟨by decide, by decide⟩ (Nat.le_of_ble_eq_true rfl) ⟨by decide, by decide⟩ dX11_addStation_2 hz hq (fun E hx => VX_out hC hQ ⟨by decide, by decide⟩ hx) (fun hq => ?_)
  show V G Γ 6 1 6 h0 5 [(0, .ref p0), (1, .int p1), (2, .int p2), (3, .int p3), (4, .int p4)] []
  refine V_aload_n hC dX11_addStation_5 0 rfl ?_
  refine V_iload_n hC dX11_addStation_6 2 rfl ?_
  obtain ⟨hz, hq⟩ := hq
  refine clV_X11_needSite hG hC sv_X11_112 ⟨by decide, by decide⟩ (Nat.le_of_ble_eq_true rfl) ⟨by decide, by decide⟩ dX11_addStation_7 hz hq (fun E hx => VX_out hC hQ ⟨by decide, by decide⟩ hx) (fun hq => ?_)
  show V G Γ 6 2 12 h0 10 [(0, .ref p0), (1, .int p1), (2, .int p2), (3, .int p3), (4, .int p4)] []
  refine V_iload_n hC dX11_addStation_10 1 rfl ?_
  refine V_iload_n hC dX11_addStation_11 2 rfl ?_
  refine V_icmp_ne (tgt := 25) hC dX11_addStation_12 (by decide) (fun hc => ?_) (fun hc => ?_)
  · have hq := hq.1 hc
    refine V_aload_n hC dX11_addStation_25 0 rfl ?_
    refine V_iload_n hC dX11_addStation_26 3 rfl ?_
    refine V_iconst (v := 0) hC dX11_addStation_27 (by decide) ?_
    refine V_sipush (v := 500) hC dX11_addStation_28 (by decide) ?_
    obtain ⟨hz, hq⟩ := hq
    refine clV_X11_needRange hG hC sv_X11_70 ⟨by decide, by decide⟩ (Nat.le_of_ble_eq_true rfl) ⟨by decide, by decide⟩ dX11_addStation_31 hz hq (fun E hx => VX_out hC hQ ⟨by decide, by decide⟩ hx) (fun hq => ?_)
    show V G Γ 6 3 18 h0 34 [(0, .ref p0), (1, .int p1), (2, .int p2), (3, .int p3), (4, .int p4)] []
    refine V_aload_n hC dX11_addStation_34 0 rfl ?_
    refine U_getR hC fl_X11_10 dX11_addStation_35 hq (fun v1 hq => ?_)
    refine U_getR hC fl_X11_125 dX11_addStation_38 hq (fun v2 hq => ?_)
    obtain ⟨hz, hq⟩ := hq
    refine clV_Jx4a65c_size_8abf5 hG hC sv_X11_91 ⟨by decide, by decide⟩ (Nat.le_of_ble_eq_true rfl) ⟨by decide, by decide⟩ dX11_addStation_41 hz hq (fun r3 hq => ?_)
    show V G Γ 6 3 18 h0 44 [(0, .ref p0), (1, .int p1), (2, .int p2), (3, .int p3), (4, .int p4)] [.int r3]
    refine V_istore (L' := [(0, .ref p0), (1, .int p1), (2, .int p2), (3, .int p3), (4, .int p4), (5, .int r3)]) hC dX11_addStation_44 (by decide) [1, 2, 3, 4, 5, 0] rfl ?_
    refine V_iload hC dX11_addStation_46 5 rfl ?_
    refine V_bipush (v := 8) hC dX11_addStation_48 (by decide) ?_
    refine V_icmp_lt (tgt := 63) hC dX11_addStation_50 (by decide) (fun hc => ?_) (fun hc => ?_)
    · have hq := hq.1 hc
      refine V_aload_n hC dX11_addStation_63 0 rfl ?_
      refine U_getR hC fl_X11_10 dX11_addStation_64 hq (fun v4 hq => ?_)
      refine U_getR hC fl_X11_125 dX11_addStation_67 hq (fun v5 hq => ?_)
      refine U_new hC no_X11_130 ⟨by decide, by decide⟩ dX11_addStation_70 hq (fun a6 h7 hq => ?_)
      refine V_dup hC dX11_addStation_73 rfl ?_
      refine V_iload hC dX11_addStation_74 5 rfl ?_
      refine V_iload_n hC dX11_addStation_76 1 rfl ?_
      refine V_iload_n hC dX11_addStation_77 2 rfl ?_
      refine V_iload_n hC dX11_addStation_78 3 rfl ?_
      refine V_iload hC dX11_addStation_79 4 rfl ?_
      refine clI_X10_init hG hC si_X11_132 ⟨by decide, by decide⟩ (Nat.le_of_ble_eq_true rfl) ⟨by decide, by decide⟩ dX11_addStation_81 hq (fun h8 hq => ?_)
      show V G Γ 6 4 24 h8 84 [(0, .ref p0), (1, .int p1), (2, .int p2), (3, .int p3), (4, .int p4), (5, .int r3)] [.ref a6, .ref v5]
      obtain ⟨hz, hq⟩ := hq
      refine clV_Jx4a65c_add_9ea2d hG hC sv_X11_135 ⟨by decide, by decide⟩ (Nat.le_of_ble_eq_true rfl) ⟨by decide, by decide⟩ dX11_addStation_84 hz hq (fun r9 h10 hq => ?_)
      show V G Γ 6 5 34 h10 87 [(0, .ref p0), (1, .int p1), (2, .int p2), (3, .int p3), (4, .int p4), (5, .int r3)] [.int r9]
      refine V_pop hC dX11_addStation_87 rfl ?_
      refine V_iload hC dX11_addStation_88 5 rfl ?_
      exact V_iret hC hQ rfl rfl ⟨by decide, by decide⟩ dX11_addStation_90 ⟨_, rfl, hq⟩
    · have hq := hq.2 hc
      exact V_throwS hC hQ hG th_97_128 ⟨by decide, by decide⟩ ⟨by decide, by decide⟩ dX11_addStation_53 dX11_addStation_56 dX11_addStation_57 dX11_addStation_59 dX11_addStation_62 hq
  · have hq := hq.2 hc
    exact V_throwS hC hQ hG th_120_122 ⟨by decide, by decide⟩ ⟨by decide, by decide⟩ dX11_addStation_15 dX11_addStation_18 dX11_addStation_19 dX11_addStation_21 dX11_addStation_24 hq
theorem clV_X11_addStation {G : Gx} (hG : GOK G) {Γ : Cx} {own : String} {cc : ByteArray} {nL fr lo mc ms cells slots pc : Nat} {hh : List (Nat × Nat × Nat × Nat)} {h : hw} {L : List (Nat × Value)} {rest : List Value} (hC : COK G Γ own cc nL fr lo mc ms hh) {idx : Nat} (hs : SV own idx yX11_addStation cX11_addStation 6 (some .int) 4) {p0 : Nat} {p1 : Int32} {p2 : Int32} {p3 : Int32} {p4 : Int32} (hR : 8 + 1 ≤ fr ∧ 8 + (6 + 11) + 191 ≤ lo) (hw8 : (rest.map fun v => v.category).sum ≤ 8) (hcs : cells + 5 ≤ mc ∧ slots + 34 ≤ ms) (hdg : decode cc pc = .ok (.invokevirtual idx, 3)) (ho : isO h p0 11) {post : Int32 → hw → Prop} {xp : String → hw → Prop} (hq : wp_X11_addStation G p0 p1 p2 p3 p4 h post xp) (kx : ∀ (E : String) (h1 : hw), xp E h1 → VX G Γ nL (cells + 5) (slots + 34) h1 pc L rest E) (kk : ∀ (r : Int32) (h1 : hw) , post r h1 → V G Γ nL (cells + 5) (slots + 34) h1 (pc + 3) L (.int r :: rest)) : V G Γ nL cells slots h pc L (.int p4 :: .int p3 :: .int p2 :: .int p1 :: .ref p0 :: rest) :=
  V_callV (As := [.int p1, .int p2, .int p3, .int p4]) (r9 := (RX11, TX11, 8)) hC (ct_X11_addStation hG p0 p1 p2 p3 p4 h post xp hq) hs ho rfl rfl rfl hR hw8 hcs hdg (fun E h1 z => kx E h1 z) (fun v h1 z => by obtain ⟨r, rfl, hz⟩ := z; exact kk r h1 hz)
set_option maxRecDepth 100000 in
set_option maxHeartbeats 4000000 in
theorem ct_X11_setRatio {G : Gx} (hG : GOK G) (p0 : Nat) (p1 : Int32) (h0 : hw) (post : Int32 → hw → Prop) (xp : String → hw → Prop) (hq : wp_X11_setRatio G p0 p1 h0 post xp) : CT G yX11_setRatio cX11_setRatio 3 (some .int) 7 113 2 12 [.ref p0, .int p1] h0 (fun v h1 => ∃ r : Int32, v = some (.int r) ∧ post r h1) (fun E h1 => xp E h1) := by
  refine CT_of hG (by decide) (Nat.le_of_ble_eq_true rfl) (fun Γ hC hQ hN => ?_)
  have hC : COK G Γ "Bandplan" cX11_setRatio 3 7 113 2 12 [] := hC
  unfold wp_X11_setRatio at hq
  show V G Γ 3 0 0 h0 0 [(0, .ref p0), (1, .int p1)] []
  refine V_aload_n hC dX11_setRatio_0 0 rfl ?_
  refine V_iload_n hC dX11_setRatio_1 1 rfl ?_
  refine V_iconst (v := 0) hC dX11_setRatio_2 (by decide) ?_
  refine V_sipush (v := 500) hC dX11_setRatio_3 (by decide) ?_
  obtain ⟨hz, hq⟩ := hq
  refine clV_X11_needRange hG hC sv_X11_70 ⟨by decide, by decide⟩ (Nat.le_of_ble_eq_true rfl) ⟨by decide, by decide⟩ dX11_setRatio_6 hz hq (fun E hx => VX_out hC hQ ⟨by decide, by decide⟩ hx) (fun hq => ?_)
  show V G Γ 3 1 6 h0 9 [(0, .ref p0), (1, .int p1)] []
  refine V_aload_n hC dX11_setRatio_9 0 rfl ?_
  obtain ⟨hz, hq⟩ := hq
  refine clV_X11_needSilence hG hC sv_X11_74 ⟨by decide, by decide⟩ (Nat.le_of_ble_eq_true rfl) ⟨by decide, by decide⟩ dX11_setRatio_10 hz hq (fun E hx => VX_out hC hQ ⟨by decide, by decide⟩ hx) (fun hq => ?_)
  show V G Γ 3 2 12 h0 13 [(0, .ref p0), (1, .int p1)] []
  refine V_aload_n hC dX11_setRatio_13 0 rfl ?_
  refine U_getR hC fl_X11_10 dX11_setRatio_14 hq (fun v1 hq => ?_)
  refine U_getI hC fl_X11_139 dX11_setRatio_17 hq (fun v2 hq => ?_)
  refine V_istore_n (L' := [(0, .ref p0), (1, .int p1), (2, .int v2)]) hC dX11_setRatio_20 rfl (by decide) [1, 2, 0] rfl ?_
  refine V_aload_n hC dX11_setRatio_21 0 rfl ?_
  refine U_getR hC fl_X11_10 dX11_setRatio_22 hq (fun v3 hq => ?_)
  refine V_iload_n hC dX11_setRatio_25 1 rfl ?_
  refine U_putO hC (by decide) fl_X11_139 fin_X0_2 rfl rfl dX11_setRatio_26 hq (fun h4 hq => ?_)
  refine V_iload_n hC dX11_setRatio_29 2 rfl ?_
  exact V_iret hC hQ rfl rfl ⟨by decide, by decide⟩ dX11_setRatio_30 ⟨_, rfl, hq⟩
theorem clV_X11_setRatio {G : Gx} (hG : GOK G) {Γ : Cx} {own : String} {cc : ByteArray} {nL fr lo mc ms cells slots pc : Nat} {hh : List (Nat × Nat × Nat × Nat)} {h : hw} {L : List (Nat × Value)} {rest : List Value} (hC : COK G Γ own cc nL fr lo mc ms hh) {idx : Nat} (hs : SV own idx yX11_setRatio cX11_setRatio 3 (some .int) 1) {p0 : Nat} {p1 : Int32} (hR : 7 + 1 ≤ fr ∧ 8 + (3 + 11) + 113 ≤ lo) (hw8 : (rest.map fun v => v.category).sum ≤ 8) (hcs : cells + 2 ≤ mc ∧ slots + 12 ≤ ms) (hdg : decode cc pc = .ok (.invokevirtual idx, 3)) (ho : isO h p0 11) {post : Int32 → hw → Prop} {xp : String → hw → Prop} (hq : wp_X11_setRatio G p0 p1 h post xp) (kx : ∀ (E : String) (h1 : hw), xp E h1 → VX G Γ nL (cells + 2) (slots + 12) h1 pc L rest E) (kk : ∀ (r : Int32) (h1 : hw) , post r h1 → V G Γ nL (cells + 2) (slots + 12) h1 (pc + 3) L (.int r :: rest)) : V G Γ nL cells slots h pc L (.int p1 :: .ref p0 :: rest) :=
  V_callV (As := [.int p1]) (r9 := (RX11, TX11, 8)) hC (ct_X11_setRatio hG p0 p1 h post xp hq) hs ho rfl rfl rfl hR hw8 hcs hdg (fun E h1 z => kx E h1 z) (fun v h1 z => by obtain ⟨r, rfl, hz⟩ := z; exact kk r h1 hz)
set_option maxRecDepth 100000 in
set_option maxHeartbeats 4000000 in
theorem ct_X11_stationAt {G : Gx} (hG : GOK G) (p0 : Nat) (p1 : Int32) (h0 : hw) (post : Nat → Prop) (xp : String → Prop) (hq : wp_X11_stationAt G p0 p1 h0 post xp) : CT G yX11_stationAt cX11_stationAt 2 (some (.object "Bandplan$Station")) 6 94 1 6 [.ref p0, .int p1] h0 (fun v h1 => ∃ r : Nat, v = some (.ref r) ∧ h1 = h0 ∧ post r) (fun E h1 => h1 = h0 ∧ xp E) := by
  refine CT_of hG (by decide) (Nat.le_of_ble_eq_true rfl) (fun Γ hC hQ hN => ?_)
  have hC : COK G Γ "Bandplan" cX11_stationAt 2 6 94 1 6 [] := hC
  unfold wp_X11_stationAt at hq
  show V G Γ 2 0 0 h0 0 [(0, .ref p0), (1, .int p1)] []
  refine V_iload_n hC dX11_stationAt_0 1 rfl ?_
  have hq := hq (V G Γ 2 0 0 h0 18 [] []) (by
    intro hq
    show V G Γ 2 0 0 h0 18 [] []
    exact V_throwSW hC hQ hG th_376_389 ⟨by decide, by decide⟩ ⟨by decide, by decide⟩ dX11_stationAt_18 dX11_stationAt_21 dX11_stationAt_22 dX11_stationAt_25 dX11_stationAt_28 ⟨rfl, hq⟩)
  refine V_if_lt (tgt := 18) hC dX11_stationAt_1 (by decide) (fun hc => ?_) (fun hc => ?_)
  · have hq := hq.1 hc
    refine V_sub [] rfl ?_
    exact hq
  · have hq := hq.2 hc
    refine V_iload_n hC dX11_stationAt_4 1 rfl ?_
    refine V_aload_n hC dX11_stationAt_5 0 rfl ?_
    refine U_getR hC fl_X11_10 dX11_stationAt_6 hq (fun v1 hq => ?_)
    refine U_getR hC fl_X11_125 dX11_stationAt_9 hq (fun v2 hq => ?_)
    obtain ⟨hz, hq⟩ := hq
    refine clV_Jx4a65c_size_8abf5 hG hC sv_X11_91 ⟨by decide, by decide⟩ (Nat.le_of_ble_eq_true rfl) ⟨by decide, by decide⟩ dX11_stationAt_12 hz hq (fun r3 hq => ?_)
    show V G Γ 2 0 0 h0 15 [(0, .ref p0), (1, .int p1)] [.int r3, .int p1]
    refine V_icmp_lt (tgt := 29) hC dX11_stationAt_15 (by decide) (fun hc => ?_) (fun hc => ?_)
    · have hq := hq.1 hc
      refine V_aload_n hC dX11_stationAt_29 0 rfl ?_
      refine U_getR hC fl_X11_10 dX11_stationAt_30 hq (fun v4 hq => ?_)
      refine U_getR hC fl_X11_125 dX11_stationAt_33 hq (fun v5 hq => ?_)
      refine V_iload_n hC dX11_stationAt_36 1 rfl ?_
      obtain ⟨hz, hq⟩ := hq
      refine clV_Jx4a65c_get_915e3 hG hC sv_X11_361 ⟨by decide, by decide⟩ (Nat.le_of_ble_eq_true rfl) ⟨by decide, by decide⟩ dX11_stationAt_37 hz hq (fun r6 hq => ?_)
      show V G Γ 2 0 0 h0 40 [(0, .ref p0), (1, .int p1)] [.ref r6]
      obtain ⟨hz, hq⟩ := hq
      refine V_cast (r9 := (RX10, TX10, 6)) hC aw_3_151 rfl hz dX11_stationAt_40 ?_
      exact V_aret hC hQ rfl (by first | exact Or.inl ⟨_, rfl⟩ | exact Or.inr ⟨_, rfl⟩) ⟨by decide, by decide⟩ dX11_stationAt_43 ⟨_, rfl, rfl, hq⟩
    · have hq := hq.2 hc
      refine V_sub [] rfl ?_
      exact hq
theorem clV_X11_stationAt {G : Gx} (hG : GOK G) {Γ : Cx} {own : String} {cc : ByteArray} {nL fr lo mc ms cells slots pc : Nat} {hh : List (Nat × Nat × Nat × Nat)} {h : hw} {L : List (Nat × Value)} {rest : List Value} (hC : COK G Γ own cc nL fr lo mc ms hh) {idx : Nat} (hs : SV own idx yX11_stationAt cX11_stationAt 2 (some (.object "Bandplan$Station")) 1) {p0 : Nat} {p1 : Int32} (hR : 6 + 1 ≤ fr ∧ 8 + (2 + 11) + 94 ≤ lo) (hw8 : (rest.map fun v => v.category).sum ≤ 8) (hcs : cells + 1 ≤ mc ∧ slots + 6 ≤ ms) (hdg : decode cc pc = .ok (.invokevirtual idx, 3)) (ho : isO h p0 11) {post : Nat → Prop} {xp : String → Prop} (hq : wp_X11_stationAt G p0 p1 h post xp) (kx : ∀ E : String, xp E → VX G Γ nL (cells + 1) (slots + 6) h pc L rest E) (kk : ∀ (r : Nat) , post r → V G Γ nL (cells + 1) (slots + 6) h (pc + 3) L (.ref r :: rest)) : V G Γ nL cells slots h pc L (.int p1 :: .ref p0 :: rest) :=
  V_callV (As := [.int p1]) (r9 := (RX11, TX11, 8)) hC (ct_X11_stationAt hG p0 p1 h post xp hq) hs ho rfl rfl rfl hR hw8 hcs hdg (fun E h1 z => by obtain ⟨rfl, hz⟩ := z; exact kx E hz) (fun v h1 z => by obtain ⟨r, rfl, rfl, hz⟩ := z; exact kk r hz)
set_option maxRecDepth 100000 in
set_option maxHeartbeats 4000000 in
theorem ct_X11_level {G : Gx} (hG : GOK G) (p0 : Nat) (p1 : Int32) (h0 : hw) (post : Int32 → Prop) (xp : String → Prop) (hq : wp_X11_level G p0 p1 h0 post xp) : CT G yX11_level cX11_level 2 (some .int) 7 115 1 6 [.ref p0, .int p1] h0 (fun v h1 => ∃ r : Int32, v = some (.int r) ∧ h1 = h0 ∧ post r) (fun E h1 => h1 = h0 ∧ xp E) := by
  refine CT_of hG (by decide) (Nat.le_of_ble_eq_true rfl) (fun Γ hC hQ hN => ?_)
  have hC : COK G Γ "Bandplan" cX11_level 2 7 115 1 6 [] := hC
  unfold wp_X11_level at hq
  show V G Γ 2 0 0 h0 0 [(0, .ref p0), (1, .int p1)] []
  refine V_aload_n hC dX11_level_0 0 rfl ?_
  refine U_getR hC fl_X11_10 dX11_level_1 hq (fun v1 hq => ?_)
  refine V_aload_n hC dX11_level_4 0 rfl ?_
  refine V_iload_n hC dX11_level_5 1 rfl ?_
  obtain ⟨hz, hq⟩ := hq
  refine clV_X11_stationAt hG hC sv_X11_143 ⟨by decide, by decide⟩ (Nat.le_of_ble_eq_true rfl) ⟨by decide, by decide⟩ dX11_level_6 hz hq (fun E hx => VX_out hC hQ ⟨by decide, by decide⟩ ⟨rfl, hx⟩) (fun r2 hq => ?_)
  show V G Γ 2 1 6 h0 9 [(0, .ref p0), (1, .int p1)] [.ref r2, .ref v1]
  obtain ⟨hz, hq⟩ := hq
  refine clV_X0_levelOf hG hC sv_X11_147 ⟨by decide, by decide⟩ (Nat.le_of_ble_eq_true rfl) ⟨by decide, by decide⟩ dX11_level_9 hz hq (fun r3 hq => ?_)
  show V G Γ 2 1 6 h0 12 [(0, .ref p0), (1, .int p1)] [.int r3]
  exact V_iret hC hQ rfl rfl ⟨by decide, by decide⟩ dX11_level_12 ⟨_, rfl, rfl, hq⟩
theorem clV_X11_level {G : Gx} (hG : GOK G) {Γ : Cx} {own : String} {cc : ByteArray} {nL fr lo mc ms cells slots pc : Nat} {hh : List (Nat × Nat × Nat × Nat)} {h : hw} {L : List (Nat × Value)} {rest : List Value} (hC : COK G Γ own cc nL fr lo mc ms hh) {idx : Nat} (hs : SV own idx yX11_level cX11_level 2 (some .int) 1) {p0 : Nat} {p1 : Int32} (hR : 7 + 1 ≤ fr ∧ 8 + (2 + 11) + 115 ≤ lo) (hw8 : (rest.map fun v => v.category).sum ≤ 8) (hcs : cells + 1 ≤ mc ∧ slots + 6 ≤ ms) (hdg : decode cc pc = .ok (.invokevirtual idx, 3)) (ho : isO h p0 11) {post : Int32 → Prop} {xp : String → Prop} (hq : wp_X11_level G p0 p1 h post xp) (kx : ∀ E : String, xp E → VX G Γ nL (cells + 1) (slots + 6) h pc L rest E) (kk : ∀ (r : Int32) , post r → V G Γ nL (cells + 1) (slots + 6) h (pc + 3) L (.int r :: rest)) : V G Γ nL cells slots h pc L (.int p1 :: .ref p0 :: rest) :=
  V_callV (As := [.int p1]) (r9 := (RX11, TX11, 8)) hC (ct_X11_level hG p0 p1 h post xp hq) hs ho rfl rfl rfl hR hw8 hcs hdg (fun E h1 z => by obtain ⟨rfl, hz⟩ := z; exact kx E hz) (fun v h1 z => by obtain ⟨r, rfl, rfl, hz⟩ := z; exact kk r hz)
set_option maxRecDepth 100000 in
set_option maxHeartbeats 4000000 in
theorem ct_X11_stationOnAir {G : Gx} (hG : GOK G) (p0 : Nat) (p1 : Int32) (h0 : hw) (post : Nat → Prop) (xp : String → Prop) (hq : wp_X11_stationOnAir G p0 p1 h0 post xp) : CT G yX11_stationOnAir cX11_stationOnAir 3 (some (.object "Bandplan$Station")) 7 115 2 12 [.ref p0, .int p1] h0 (fun v h1 => ∃ r : Nat, v = some (.ref r) ∧ h1 = h0 ∧ post r) (fun E h1 => h1 = h0 ∧ xp E) := by
  refine CT_of hG (by decide) (Nat.le_of_ble_eq_true rfl) (fun Γ hC hQ hN => ?_)
  have hC : COK G Γ "Bandplan" cX11_stationOnAir 3 7 115 2 12 [] := hC
  unfold wp_X11_stationOnAir at hq
  show V G Γ 3 0 0 h0 0 [(0, .ref p0), (1, .int p1)] []
  refine V_aload_n hC dX11_stationOnAir_0 0 rfl ?_
  refine V_iload_n hC dX11_stationOnAir_1 1 rfl ?_
  obtain ⟨hz, hq⟩ := hq
  refine clV_X11_stationAt hG hC sv_X11_143 ⟨by decide, by decide⟩ (Nat.le_of_ble_eq_true rfl) ⟨by decide, by decide⟩ dX11_stationOnAir_2 hz hq (fun E hx => VX_out hC hQ ⟨by decide, by decide⟩ ⟨rfl, hx⟩) (fun r1 hq => ?_)
  show V G Γ 3 1 6 h0 5 [(0, .ref p0), (1, .int p1)] [.ref r1]
  refine V_astore_n (L' := [(0, .ref p0), (1, .int p1), (2, .ref r1)]) hC dX11_stationOnAir_5 rfl (by decide) [1, 2, 0] rfl ?_
  refine V_aload_n hC dX11_stationOnAir_6 0 rfl ?_
  refine U_getR hC fl_X11_19 dX11_stationOnAir_7 hq (fun v2 hq => ?_)
  refine U_getR hC fl_X11_154 dX11_stationOnAir_10 hq (fun v3 hq => ?_)
  refine V_iload_n hC dX11_stationOnAir_13 1 rfl ?_
  obtain ⟨hz, hq⟩ := hq
  refine clV_X7_at hG hC sv_X11_226 ⟨by decide, by decide⟩ (Nat.le_of_ble_eq_true rfl) ⟨by decide, by decide⟩ dX11_stationOnAir_14 hz hq (fun r4 hq => ?_)
  show V G Γ 3 1 6 h0 17 [(0, .ref p0), (1, .int p1), (2, .ref r1)] [.int r4]
  refine V_iconst (v := (-1)) hC dX11_stationOnAir_17 (by decide) ?_
  refine V_icmp_ne (tgt := 32) hC dX11_stationOnAir_18 (by decide) (fun hc => ?_) (fun hc => ?_)
  · have hq := hq.1 hc
    refine V_aload_n hC dX11_stationOnAir_32 2 rfl ?_
    exact V_aret hC hQ rfl (by first | exact Or.inl ⟨_, rfl⟩ | exact Or.inr ⟨_, rfl⟩) ⟨by decide, by decide⟩ dX11_stationOnAir_33 ⟨_, rfl, rfl, hq⟩
  · have hq := hq.2 hc
    exact V_throwSW hC hQ hG th_221_391 ⟨by decide, by decide⟩ ⟨by decide, by decide⟩ dX11_stationOnAir_21 dX11_stationOnAir_24 dX11_stationOnAir_25 dX11_stationOnAir_28 dX11_stationOnAir_31 ⟨rfl, hq⟩
theorem clV_X11_stationOnAir {G : Gx} (hG : GOK G) {Γ : Cx} {own : String} {cc : ByteArray} {nL fr lo mc ms cells slots pc : Nat} {hh : List (Nat × Nat × Nat × Nat)} {h : hw} {L : List (Nat × Value)} {rest : List Value} (hC : COK G Γ own cc nL fr lo mc ms hh) {idx : Nat} (hs : SV own idx yX11_stationOnAir cX11_stationOnAir 3 (some (.object "Bandplan$Station")) 1) {p0 : Nat} {p1 : Int32} (hR : 7 + 1 ≤ fr ∧ 8 + (3 + 11) + 115 ≤ lo) (hw8 : (rest.map fun v => v.category).sum ≤ 8) (hcs : cells + 2 ≤ mc ∧ slots + 12 ≤ ms) (hdg : decode cc pc = .ok (.invokevirtual idx, 3)) (ho : isO h p0 11) {post : Nat → Prop} {xp : String → Prop} (hq : wp_X11_stationOnAir G p0 p1 h post xp) (kx : ∀ E : String, xp E → VX G Γ nL (cells + 2) (slots + 12) h pc L rest E) (kk : ∀ (r : Nat) , post r → V G Γ nL (cells + 2) (slots + 12) h (pc + 3) L (.ref r :: rest)) : V G Γ nL cells slots h pc L (.int p1 :: .ref p0 :: rest) :=
  V_callV (As := [.int p1]) (r9 := (RX11, TX11, 8)) hC (ct_X11_stationOnAir hG p0 p1 h post xp hq) hs ho rfl rfl rfl hR hw8 hcs hdg (fun E h1 z => by obtain ⟨rfl, hz⟩ := z; exact kx E hz) (fun v h1 z => by obtain ⟨r, rfl, rfl, hz⟩ := z; exact kk r hz)
set_option maxRecDepth 100000 in
set_option maxHeartbeats 4000000 in
theorem ct_X11_harm {G : Gx} (hG : GOK G) (p0 : Nat) (p1 : Int32) (h0 : hw) (post : Int32 → Prop) (xp : String → Prop) (hq : wp_X11_harm G p0 p1 h0 post xp) : CT G yX11_harm cX11_harm 3 (some .int) 8 137 3 18 [.ref p0, .int p1] h0 (fun v h1 => ∃ r : Int32, v = some (.int r) ∧ h1 = h0 ∧ post r) (fun E h1 => h1 = h0 ∧ xp E) := by
  refine CT_of hG (by decide) (Nat.le_of_ble_eq_true rfl) (fun Γ hC hQ hN => ?_)
  have hC : COK G Γ "Bandplan" cX11_harm 3 8 137 3 18 [] := hC
  unfold wp_X11_harm at hq
  show V G Γ 3 0 0 h0 0 [(0, .ref p0), (1, .int p1)] []
  refine V_aload_n hC dX11_harm_0 0 rfl ?_
  refine U_getR hC fl_X11_10 dX11_harm_1 hq (fun v1 hq => ?_)
  refine V_aload_n hC dX11_harm_4 0 rfl ?_
  refine V_iload_n hC dX11_harm_5 1 rfl ?_
  obtain ⟨hz, hq⟩ := hq
  refine clV_X11_stationOnAir hG hC sv_X11_151 ⟨by decide, by decide⟩ (Nat.le_of_ble_eq_true rfl) ⟨by decide, by decide⟩ dX11_harm_6 hz hq (fun E hx => VX_out hC hQ ⟨by decide, by decide⟩ ⟨rfl, hx⟩) (fun r2 hq => ?_)
  show V G Γ 3 2 12 h0 9 [(0, .ref p0), (1, .int p1)] [.ref r2, .ref v1]
  refine V_aload_n hC dX11_harm_9 0 rfl ?_
  refine U_getR hC fl_X11_19 dX11_harm_10 hq (fun v3 hq => ?_)
  refine U_getR hC fl_X11_154 dX11_harm_13 hq (fun v4 hq => ?_)
  obtain ⟨hz, hq⟩ := hq
  refine clV_X0_allHarm hG hC sv_X11_157 ⟨by decide, by decide⟩ (Nat.le_of_ble_eq_true rfl) ⟨by decide, by decide⟩ dX11_harm_16 hz hq (fun r5 hq => ?_)
  show V G Γ 3 2 12 h0 19 [(0, .ref p0), (1, .int p1)] [.int r5]
  refine V_istore_n (L' := [(0, .ref p0), (1, .int p1), (2, .int r5)]) hC dX11_harm_19 rfl (by decide) [1, 2, 0] rfl ?_
  refine V_iload_n hC dX11_harm_20 2 rfl ?_
  refine V_ldc (v := (-1000000)) hC aw_5_68 dX11_harm_21 ?_
  refine V_icmp_ne (tgt := 36) hC dX11_harm_23 (by decide) (fun hc => ?_) (fun hc => ?_)
  · have hq := hq.1 hc
    refine V_iload_n hC dX11_harm_36 2 rfl ?_
    exact V_iret hC hQ rfl rfl ⟨by decide, by decide⟩ dX11_harm_37 ⟨_, rfl, rfl, hq⟩
  · have hq := hq.2 hc
    exact V_throwNS hC hQ hG th_162_164 ⟨by decide, by decide⟩ ⟨by decide, by decide⟩ dX11_harm_26 dX11_harm_29 dX11_harm_30 dX11_harm_32 dX11_harm_35 ⟨rfl, hq⟩
theorem clV_X11_harm {G : Gx} (hG : GOK G) {Γ : Cx} {own : String} {cc : ByteArray} {nL fr lo mc ms cells slots pc : Nat} {hh : List (Nat × Nat × Nat × Nat)} {h : hw} {L : List (Nat × Value)} {rest : List Value} (hC : COK G Γ own cc nL fr lo mc ms hh) {idx : Nat} (hs : SV own idx yX11_harm cX11_harm 3 (some .int) 1) {p0 : Nat} {p1 : Int32} (hR : 8 + 1 ≤ fr ∧ 8 + (3 + 11) + 137 ≤ lo) (hw8 : (rest.map fun v => v.category).sum ≤ 8) (hcs : cells + 3 ≤ mc ∧ slots + 18 ≤ ms) (hdg : decode cc pc = .ok (.invokevirtual idx, 3)) (ho : isO h p0 11) {post : Int32 → Prop} {xp : String → Prop} (hq : wp_X11_harm G p0 p1 h post xp) (kx : ∀ E : String, xp E → VX G Γ nL (cells + 3) (slots + 18) h pc L rest E) (kk : ∀ (r : Int32) , post r → V G Γ nL (cells + 3) (slots + 18) h (pc + 3) L (.int r :: rest)) : V G Γ nL cells slots h pc L (.int p1 :: .ref p0 :: rest) :=
  V_callV (As := [.int p1]) (r9 := (RX11, TX11, 8)) hC (ct_X11_harm hG p0 p1 h post xp hq) hs ho rfl rfl rfl hR hw8 hcs hdg (fun E h1 z => by obtain ⟨rfl, hz⟩ := z; exact kx E hz) (fun v h1 z => by obtain ⟨r, rfl, rfl, hz⟩ := z; exact kk r hz)
set_option maxRecDepth 100000 in
set_option maxHeartbeats 4000000 in
theorem ct_X11_keeps {G : Gx} (hG : GOK G) (p0 : Nat) (p1 : Int32) (h0 : hw) (post : Int32 → Prop) (xp : String → Prop) (hq : wp_X11_keeps G p0 p1 h0 post xp) : CT G yX11_keeps cX11_keeps 2 (some .boolean) 8 147 2 12 [.ref p0, .int p1] h0 (fun v h1 => ∃ r : Int32, v = some (.int r) ∧ h1 = h0 ∧ post r) (fun E h1 => h1 = h0 ∧ xp E) := by
  refine CT_of hG (by decide) (Nat.le_of_ble_eq_true rfl) (fun Γ hC hQ hN => ?_)
  have hC : COK G Γ "Bandplan" cX11_keeps 2 8 147 2 12 [] := hC
  unfold wp_X11_keeps at hq
  show V G Γ 2 0 0 h0 0 [(0, .ref p0), (1, .int p1)] []
  refine V_aload_n hC dX11_keeps_0 0 rfl ?_
  refine U_getR hC fl_X11_10 dX11_keeps_1 hq (fun v1 hq => ?_)
  refine V_aload_n hC dX11_keeps_4 0 rfl ?_
  refine V_iload_n hC dX11_keeps_5 1 rfl ?_
  obtain ⟨hz, hq⟩ := hq
  refine clV_X11_stationOnAir hG hC sv_X11_151 ⟨by decide, by decide⟩ (Nat.le_of_ble_eq_true rfl) ⟨by decide, by decide⟩ dX11_keeps_6 hz hq (fun E hx => VX_out hC hQ ⟨by decide, by decide⟩ ⟨rfl, hx⟩) (fun r2 hq => ?_)
  show V G Γ 2 2 12 h0 9 [(0, .ref p0), (1, .int p1)] [.ref r2, .ref v1]
  refine V_aload_n hC dX11_keeps_9 0 rfl ?_
  refine U_getR hC fl_X11_19 dX11_keeps_10 hq (fun v3 hq => ?_)
  refine U_getR hC fl_X11_154 dX11_keeps_13 hq (fun v4 hq => ?_)
  obtain ⟨hz, hq⟩ := hq
  refine clV_X0_keepsLevel hG hC sv_X11_167 ⟨by decide, by decide⟩ (Nat.le_of_ble_eq_true rfl) ⟨by decide, by decide⟩ dX11_keeps_16 hz hq (fun r5 hq => ?_)
  show V G Γ 2 2 12 h0 19 [(0, .ref p0), (1, .int p1)] [.int r5]
  obtain ⟨hz, hq⟩ := hq
  exact V_iret hC hQ rfl (nar_b hz) ⟨by decide, by decide⟩ dX11_keeps_19 ⟨_, rfl, rfl, hq⟩
theorem clV_X11_keeps {G : Gx} (hG : GOK G) {Γ : Cx} {own : String} {cc : ByteArray} {nL fr lo mc ms cells slots pc : Nat} {hh : List (Nat × Nat × Nat × Nat)} {h : hw} {L : List (Nat × Value)} {rest : List Value} (hC : COK G Γ own cc nL fr lo mc ms hh) {idx : Nat} (hs : SV own idx yX11_keeps cX11_keeps 2 (some .boolean) 1) {p0 : Nat} {p1 : Int32} (hR : 8 + 1 ≤ fr ∧ 8 + (2 + 11) + 147 ≤ lo) (hw8 : (rest.map fun v => v.category).sum ≤ 8) (hcs : cells + 2 ≤ mc ∧ slots + 12 ≤ ms) (hdg : decode cc pc = .ok (.invokevirtual idx, 3)) (ho : isO h p0 11) {post : Int32 → Prop} {xp : String → Prop} (hq : wp_X11_keeps G p0 p1 h post xp) (kx : ∀ E : String, xp E → VX G Γ nL (cells + 2) (slots + 12) h pc L rest E) (kk : ∀ (r : Int32) , post r → V G Γ nL (cells + 2) (slots + 12) h (pc + 3) L (.int r :: rest)) : V G Γ nL cells slots h pc L (.int p1 :: .ref p0 :: rest) :=
  V_callV (As := [.int p1]) (r9 := (RX11, TX11, 8)) hC (ct_X11_keeps hG p0 p1 h post xp hq) hs ho rfl rfl rfl hR hw8 hcs hdg (fun E h1 z => by obtain ⟨rfl, hz⟩ := z; exact kx E hz) (fun v h1 z => by obtain ⟨r, rfl, rfl, hz⟩ := z; exact kk r hz)
set_option maxRecDepth 100000 in
set_option maxHeartbeats 4000000 in
theorem ct_X11_needChannel {G : Gx} (hG : GOK G) (p0 : Nat) (p1 : Int32) (h0 : hw) (post : Prop) (xp : String → Prop) (hq : wp_X11_needChannel G p0 p1 h0 post xp) : CT G yX11_needChannel cX11_needChannel 2 none 7 113 1 6 [.ref p0, .int p1] h0 (fun v h1 => v = none ∧ h1 = h0 ∧ post) (fun E h1 => h1 = h0 ∧ xp E) := by
  refine CT_of hG (by decide) (Nat.le_of_ble_eq_true rfl) (fun Γ hC hQ hN => ?_)
  have hC : COK G Γ "Bandplan" cX11_needChannel 2 7 113 1 6 [] := hC
  unfold wp_X11_needChannel at hq
  show V G Γ 2 0 0 h0 0 [(0, .ref p0), (1, .int p1)] []
  refine V_aload_n hC dX11_needChannel_0 0 rfl ?_
  refine V_iload_n hC dX11_needChannel_1 1 rfl ?_
  refine V_iconst (v := 0) hC dX11_needChannel_2 (by decide) ?_
  refine V_bipush (v := 7) hC dX11_needChannel_3 (by decide) ?_
  obtain ⟨hz, hq⟩ := hq
  refine clV_X11_needRange hG hC sv_X11_70 ⟨by decide, by decide⟩ (Nat.le_of_ble_eq_true rfl) ⟨by decide, by decide⟩ dX11_needChannel_5 hz hq (fun E hx => VX_out hC hQ ⟨by decide, by decide⟩ ⟨rfl, hx⟩) (fun hq => ?_)
  show V G Γ 2 1 6 h0 8 [(0, .ref p0), (1, .int p1)] []
  exact V_vret hC hQ ⟨by decide, by decide⟩ dX11_needChannel_8 ⟨rfl, rfl, hq⟩
theorem clV_X11_needChannel {G : Gx} (hG : GOK G) {Γ : Cx} {own : String} {cc : ByteArray} {nL fr lo mc ms cells slots pc : Nat} {hh : List (Nat × Nat × Nat × Nat)} {h : hw} {L : List (Nat × Value)} {rest : List Value} (hC : COK G Γ own cc nL fr lo mc ms hh) {idx : Nat} (hs : SV own idx yX11_needChannel cX11_needChannel 2 none 1) {p0 : Nat} {p1 : Int32} (hR : 7 + 1 ≤ fr ∧ 8 + (2 + 11) + 113 ≤ lo) (hw8 : (rest.map fun v => v.category).sum ≤ 8) (hcs : cells + 1 ≤ mc ∧ slots + 6 ≤ ms) (hdg : decode cc pc = .ok (.invokevirtual idx, 3)) (ho : isO h p0 11) {post : Prop} {xp : String → Prop} (hq : wp_X11_needChannel G p0 p1 h post xp) (kx : ∀ E : String, xp E → VX G Γ nL (cells + 1) (slots + 6) h pc L rest E) (kk : post → V G Γ nL (cells + 1) (slots + 6) h (pc + 3) L rest) : V G Γ nL cells slots h pc L (.int p1 :: .ref p0 :: rest) :=
  V_callV (As := [.int p1]) (r9 := (RX11, TX11, 8)) hC (ct_X11_needChannel hG p0 p1 h post xp hq) hs ho rfl rfl rfl hR hw8 hcs hdg (fun E h1 z => by obtain ⟨rfl, hz⟩ := z; exact kx E hz) (fun v h1 z => by obtain ⟨rfl, rfl, hz⟩ := z; exact kk hz)
set_option maxRecDepth 100000 in
set_option maxHeartbeats 4000000 in
theorem ct_X11_bars {G : Gx} (hG : GOK G) (p0 : Nat) (p1 : Int32) (p2 : Int32) (p3 : Int32) (p4 : Int32) (h0 : hw) (post : Int32 → Prop) (xp : String → Prop) (hq : wp_X11_bars G p0 p1 p2 p3 p4 h0 post xp) : CT G yX11_bars cX11_bars 7 (some .boolean) 8 143 4 24 [.ref p0, .int p1, .int p2, .int p3, .int p4] h0 (fun v h1 => ∃ r : Int32, v = some (.int r) ∧ h1 = h0 ∧ post r) (fun E h1 => h1 = h0 ∧ xp E) := by
  refine CT_of hG (by decide) (Nat.le_of_ble_eq_true rfl) (fun Γ hC hQ hN => ?_)
  have hC : COK G Γ "Bandplan" cX11_bars 7 8 143 4 24 [] := hC
  unfold wp_X11_bars at hq
  show V G Γ 7 0 0 h0 0 [(0, .ref p0), (1, .int p1), (2, .int p2), (3, .int p3), (4, .int p4)] []
  refine V_aload_n hC dX11_bars_0 0 rfl ?_
  refine V_iload_n hC dX11_bars_1 1 rfl ?_
  obtain ⟨hz, hq⟩ := hq
  refine clV_X11_stationAt hG hC sv_X11_143 ⟨by decide, by decide⟩ (Nat.le_of_ble_eq_true rfl) ⟨by decide, by decide⟩ dX11_bars_2 hz hq (fun E hx => VX_out hC hQ ⟨by decide, by decide⟩ ⟨rfl, hx⟩) (fun r1 hq => ?_)
  show V G Γ 7 1 6 h0 5 [(0, .ref p0), (1, .int p1), (2, .int p2), (3, .int p3), (4, .int p4)] [.ref r1]
  refine V_astore (L' := [(0, .ref p0), (1, .int p1), (2, .int p2), (3, .int p3), (4, .int p4), (5, .ref r1)]) hC dX11_bars_5 (by decide) [1, 2, 3, 4, 5, 0] rfl ?_
  refine V_aload_n hC dX11_bars_7 0 rfl ?_
  refine V_iload_n hC dX11_bars_8 3 rfl ?_
  obtain ⟨hz, hq⟩ := hq
  refine clV_X11_stationAt hG hC sv_X11_143 ⟨by decide, by decide⟩ (Nat.le_of_ble_eq_true rfl) ⟨by decide, by decide⟩ dX11_bars_9 hz hq (fun E hx => VX_out hC hQ ⟨by decide, by decide⟩ ⟨rfl, hx⟩) (fun r2 hq => ?_)
  show V G Γ 7 2 12 h0 12 [(0, .ref p0), (1, .int p1), (2, .int p2), (3, .int p3), (4, .int p4), (5, .ref r1)] [.ref r2]
  refine V_astore (L' := [(0, .ref p0), (1, .int p1), (2, .int p2), (3, .int p3), (4, .int p4), (5, .ref r1), (6, .ref r2)]) hC dX11_bars_12 (by decide) [1, 2, 3, 4, 5, 6, 0] rfl ?_
  refine V_aload hC dX11_bars_14 5 rfl ?_
  refine V_aload hC dX11_bars_16 6 rfl ?_
  refine U_acmp_ne (tgt := 31) hC dX11_bars_18 (by decide) (fun hc => ?_) (fun hc => ?_)
  · have hq := hq.1 hc
    refine V_aload_n hC dX11_bars_31 0 rfl ?_
    refine V_iload_n hC dX11_bars_32 2 rfl ?_
    obtain ⟨hz, hq⟩ := hq
    refine clV_X11_needChannel hG hC sv_X11_173 ⟨by decide, by decide⟩ (Nat.le_of_ble_eq_true rfl) ⟨by decide, by decide⟩ dX11_bars_33 hz hq (fun E hx => VX_out hC hQ ⟨by decide, by decide⟩ ⟨rfl, hx⟩) (fun hq => ?_)
    show V G Γ 7 3 18 h0 36 [(0, .ref p0), (1, .int p1), (2, .int p2), (3, .int p3), (4, .int p4), (5, .ref r1), (6, .ref r2)] []
    refine V_aload_n hC dX11_bars_36 0 rfl ?_
    refine V_iload hC dX11_bars_37 4 rfl ?_
    obtain ⟨hz, hq⟩ := hq
    refine clV_X11_needChannel hG hC sv_X11_173 ⟨by decide, by decide⟩ (Nat.le_of_ble_eq_true rfl) ⟨by decide, by decide⟩ dX11_bars_39 hz hq (fun E hx => VX_out hC hQ ⟨by decide, by decide⟩ ⟨rfl, hx⟩) (fun hq => ?_)
    show V G Γ 7 4 24 h0 42 [(0, .ref p0), (1, .int p1), (2, .int p2), (3, .int p3), (4, .int p4), (5, .ref r1), (6, .ref r2)] []
    refine V_aload_n hC dX11_bars_42 0 rfl ?_
    refine U_getR hC fl_X11_10 dX11_bars_43 hq (fun v3 hq => ?_)
    refine V_aload hC dX11_bars_46 5 rfl ?_
    refine V_aload hC dX11_bars_48 6 rfl ?_
    refine V_iload_n hC dX11_bars_50 2 rfl ?_
    refine V_iload hC dX11_bars_51 4 rfl ?_
    refine V_isub hC dX11_bars_53 ?_
    refine V_abs hC sm_X11_176 (by decide) (Nat.le_of_ble_eq_true rfl) (by decide) (by decide) dX11_bars_54 ?_
    obtain ⟨hz, hq⟩ := hq
    refine clV_X0_barEachOther hG hC sv_X11_182 ⟨by decide, by decide⟩ (Nat.le_of_ble_eq_true rfl) ⟨by decide, by decide⟩ dX11_bars_57 hz hq (fun r4 hq => ?_)
    show V G Γ 7 4 24 h0 60 [(0, .ref p0), (1, .int p1), (2, .int p2), (3, .int p3), (4, .int p4), (5, .ref r1), (6, .ref r2)] [.int r4]
    obtain ⟨hz, hq⟩ := hq
    exact V_iret hC hQ rfl (nar_b hz) ⟨by decide, by decide⟩ dX11_bars_60 ⟨_, rfl, rfl, hq⟩
  · have hq := hq.2 hc
    exact V_throwS hC hQ hG th_120_171 ⟨by decide, by decide⟩ ⟨by decide, by decide⟩ dX11_bars_21 dX11_bars_24 dX11_bars_25 dX11_bars_27 dX11_bars_30 ⟨rfl, hq⟩
theorem clV_X11_bars {G : Gx} (hG : GOK G) {Γ : Cx} {own : String} {cc : ByteArray} {nL fr lo mc ms cells slots pc : Nat} {hh : List (Nat × Nat × Nat × Nat)} {h : hw} {L : List (Nat × Value)} {rest : List Value} (hC : COK G Γ own cc nL fr lo mc ms hh) {idx : Nat} (hs : SV own idx yX11_bars cX11_bars 7 (some .boolean) 4) {p0 : Nat} {p1 : Int32} {p2 : Int32} {p3 : Int32} {p4 : Int32} (hR : 8 + 1 ≤ fr ∧ 8 + (7 + 11) + 143 ≤ lo) (hw8 : (rest.map fun v => v.category).sum ≤ 8) (hcs : cells + 4 ≤ mc ∧ slots + 24 ≤ ms) (hdg : decode cc pc = .ok (.invokevirtual idx, 3)) (ho : isO h p0 11) {post : Int32 → Prop} {xp : String → Prop} (hq : wp_X11_bars G p0 p1 p2 p3 p4 h post xp) (kx : ∀ E : String, xp E → VX G Γ nL (cells + 4) (slots + 24) h pc L rest E) (kk : ∀ (r : Int32) , post r → V G Γ nL (cells + 4) (slots + 24) h (pc + 3) L (.int r :: rest)) : V G Γ nL cells slots h pc L (.int p4 :: .int p3 :: .int p2 :: .int p1 :: .ref p0 :: rest) :=
  V_callV (As := [.int p1, .int p2, .int p3, .int p4]) (r9 := (RX11, TX11, 8)) hC (ct_X11_bars hG p0 p1 p2 p3 p4 h post xp hq) hs ho rfl rfl rfl hR hw8 hcs hdg (fun E h1 z => by obtain ⟨rfl, hz⟩ := z; exact kx E hz) (fun v h1 z => by obtain ⟨r, rfl, rfl, hz⟩ := z; exact kk r hz)
set_option maxRecDepth 100000 in
set_option maxHeartbeats 4000000 in
theorem ct_X11_silenceSecondaries {G : Gx} (hG : GOK G) (p0 : Nat) (p1 : Nat) (h0 : hw) (post : Int32 → hw → Prop) (hq : wp_X11_silenceSecondaries G p0 p1 h0 post) : CT G yX11_silenceSecondaries cX11_silenceSecondaries 6 (some .int) 6 143 0 0 [.ref p0, .ref p1] h0 (fun v h1 => ∃ r : Int32, v = some (.int r) ∧ post r h1) (fun E h1 => False) := by
  refine CT_of hG (by decide) (Nat.le_of_ble_eq_true rfl) (fun Γ hC hQ hN => ?_)
  have hC : COK G Γ "Bandplan" cX11_silenceSecondaries 6 6 143 0 0 [] := hC
  unfold wp_X11_silenceSecondaries at hq
  show V G Γ 6 0 0 h0 0 [(0, .ref p0), (1, .ref p1)] []
  refine V_iconst (v := 0) hC dX11_silenceSecondaries_0 (by decide) ?_
  refine V_istore_n (L' := [(0, .ref p0), (1, .ref p1), (2, .int 0)]) hC dX11_silenceSecondaries_1 rfl (by decide) [1, 2, 0] rfl ?_
  refine V_aload_n hC dX11_silenceSecondaries_2 0 rfl ?_
  refine U_getR hC fl_X11_10 dX11_silenceSecondaries_3 hq (fun v1 hq => ?_)
  refine U_getR hC fl_X11_125 dX11_silenceSecondaries_6 hq (fun v2 hq => ?_)
  obtain ⟨hz, hq⟩ := hq
  refine clV_Jx4a65c_size_8abf5 hG hC sv_X11_91 ⟨by decide, by decide⟩ (Nat.le_of_ble_eq_true rfl) ⟨by decide, by decide⟩ dX11_silenceSecondaries_9 hz hq (fun r3 hq => ?_)
  show V G Γ 6 0 0 h0 12 [(0, .ref p0), (1, .ref p1), (2, .int 0)] [.int r3]
  refine V_iconst (v := 1) hC dX11_silenceSecondaries_12 (by decide) ?_
  refine V_isub hC dX11_silenceSecondaries_13 ?_
  refine V_istore_n (L' := [(0, .ref p0), (1, .ref p1), (2, .int 0), (3, .int (r3 - 1))]) hC dX11_silenceSecondaries_14 rfl (by decide) [1, 2, 3, 0] rfl ?_
  have hq := hq (fun (x2_4 : Int32) (x3_5 : Int32) (h6 : hw) => V G Γ 6 0 0 h6 15 [(0, .ref p0), (1, .ref p1), (2, .int x2_4), (3, .int x3_5)] []) (by
    intro x2_4 x3_5 h6 hq
    show V G Γ 6 0 0 h6 15 [(0, .ref p0), (1, .ref p1), (2, .int x2_4), (3, .int x3_5)] []
    refine V_iload_n hC dX11_silenceSecondaries_15 3 rfl ?_
    refine V_if_lt (tgt := 113) hC dX11_silenceSecondaries_16 (by decide) (fun hc => ?_) (fun hc => ?_)
    · have hq := hq.1 hc
      refine V_iload_n hC dX11_silenceSecondaries_113 2 rfl ?_
      exact V_iret hC hQ rfl rfl ⟨by decide, by decide⟩ dX11_silenceSecondaries_114 ⟨_, rfl, hq⟩
    · have hq := hq.2 hc
      refine V_aload_n hC dX11_silenceSecondaries_19 0 rfl ?_
      refine U_getR hC fl_X11_10 dX11_silenceSecondaries_20 hq (fun v7 hq => ?_)
      refine U_getR hC fl_X11_125 dX11_silenceSecondaries_23 hq (fun v8 hq => ?_)
      refine V_iload_n hC dX11_silenceSecondaries_26 3 rfl ?_
      obtain ⟨hz, hq⟩ := hq
      refine clV_Jx4a65c_get_915e3 hG hC sv_X11_361 ⟨by decide, by decide⟩ (Nat.le_of_ble_eq_true rfl) ⟨by decide, by decide⟩ dX11_silenceSecondaries_27 hz hq (fun r9 hq => ?_)
      show V G Γ 6 0 0 h6 30 [(0, .ref p0), (1, .ref p1), (2, .int x2_4), (3, .int x3_5)] [.ref r9]
      obtain ⟨hz, hq⟩ := hq
      refine V_cast (r9 := (RX10, TX10, 6)) hC aw_3_151 rfl hz dX11_silenceSecondaries_30 ?_
      refine V_astore (L' := [(0, .ref p0), (1, .ref p1), (2, .int x2_4), (3, .int x3_5), (4, .ref r9)]) hC dX11_silenceSecondaries_33 (by decide) [1, 2, 3, 4, 0] rfl ?_
      refine V_aload_n hC dX11_silenceSecondaries_35 0 rfl ?_
      refine U_getR hC fl_X11_63 dX11_silenceSecondaries_36 hq (fun v10 hq => ?_)
      refine V_iload_n hC dX11_silenceSecondaries_39 3 rfl ?_
      obtain ⟨hz, hq⟩ := hq
      refine clV_X7_at hG hC sv_X11_226 ⟨by decide, by decide⟩ (Nat.le_of_ble_eq_true rfl) ⟨by decide, by decide⟩ dX11_silenceSecondaries_40 hz hq (fun r11 hq => ?_)
      show V G Γ 6 0 0 h6 43 [(0, .ref p0), (1, .ref p1), (2, .int x2_4), (3, .int x3_5), (4, .ref r9)] [.int r11]
      refine V_aload_n hC dX11_silenceSecondaries_43 0 rfl ?_
      refine U_getR hC fl_X11_63 dX11_silenceSecondaries_44 hq (fun v12 hq => ?_)
      refine V_aload_n hC dX11_silenceSecondaries_47 1 rfl ?_
      refine U_getI hC fl_X11_232 dX11_silenceSecondaries_48 hq (fun v13 hq => ?_)
      obtain ⟨hz, hq⟩ := hq
      refine clV_X7_at hG hC sv_X11_226 ⟨by decide, by decide⟩ (Nat.le_of_ble_eq_true rfl) ⟨by decide, by decide⟩ dX11_silenceSecondaries_51 hz hq (fun r14 hq => ?_)
      show V G Γ 6 0 0 h6 54 [(0, .ref p0), (1, .ref p1), (2, .int x2_4), (3, .int x3_5), (4, .ref r9)] [.int r14, .int r11]
      refine V_isub hC dX11_silenceSecondaries_54 ?_
      refine V_abs hC sm_X11_176 (by decide) (Nat.le_of_ble_eq_true rfl) (by decide) (by decide) dX11_silenceSecondaries_55 ?_
      refine V_istore (L' := [(0, .ref p0), (1, .ref p1), (2, .int x2_4), (3, .int x3_5), (4, .ref r9), (5, .int (jabs (r11 - r14)))]) hC dX11_silenceSecondaries_58 (by decide) [1, 2, 3, 4, 5, 0] rfl ?_
      refine V_aload hC dX11_silenceSecondaries_60 4 rfl ?_
      refine U_getI hC fl_X11_210 dX11_silenceSecondaries_62 hq (fun v15 hq => ?_)
      have hq := hq (fun (x2_16 : Int32) (h17 : hw) => V G Γ 6 0 0 h17 107 [(0, .ref p0), (1, .ref p1), (2, .int x2_16), (3, .int x3_5)] []) (by
        intro x2_16 h17 hq
        show V G Γ 6 0 0 h17 107 [(0, .ref p0), (1, .ref p1), (2, .int x2_16), (3, .int x3_5)] []
        refine V_iinc (j := 3) (v := (x3_5 + (-1))) (L' := [(0, .ref p0), (1, .ref p1), (2, .int x2_16), (3, .int (x3_5 + (-1)))]) hC dX11_silenceSecondaries_107 rfl rfl (by decide) [1, 2, 3, 0] rfl ?_
        refine V_goto (tgt := 15) hC dX11_silenceSecondaries_110 (by decide) ?_
        exact hq)
      refine V_if_ne (tgt := 107) hC dX11_silenceSecondaries_65 (by decide) (fun hc => ?_) (fun hc => ?_)
      · have hq := hq.1 hc
        refine V_sub [0, 1, 2, 3] rfl ?_
        exact hq
      · have hq := hq.2 hc
        refine V_aload_n hC dX11_silenceSecondaries_68 0 rfl ?_
        refine U_getR hC fl_X11_63 dX11_silenceSecondaries_69 hq (fun v18 hq => ?_)
        refine V_iload_n hC dX11_silenceSecondaries_72 3 rfl ?_
        obtain ⟨hz, hq⟩ := hq
        refine clV_X7_at hG hC sv_X11_226 ⟨by decide, by decide⟩ (Nat.le_of_ble_eq_true rfl) ⟨by decide, by decide⟩ dX11_silenceSecondaries_73 hz hq (fun r19 hq => ?_)
        show V G Γ 6 0 0 h6 76 [(0, .ref p0), (1, .ref p1), (2, .int x2_4), (3, .int x3_5), (4, .ref r9), (5, .int (jabs (r11 - r14)))] [.int r19]
        refine V_iconst (v := (-1)) hC dX11_silenceSecondaries_76 (by decide) ?_
        refine V_icmp_eq (tgt := 107) hC dX11_silenceSecondaries_77 (by decide) (fun hc => ?_) (fun hc => ?_)
        · have hq := hq.1 hc
          refine V_sub [0, 1, 2, 3] rfl ?_
          exact hq
        · have hq := hq.2 hc
          refine V_aload_n hC dX11_silenceSecondaries_80 0 rfl ?_
          refine U_getR hC fl_X11_10 dX11_silenceSecondaries_81 hq (fun v20 hq => ?_)
          refine V_aload_n hC dX11_silenceSecondaries_84 1 rfl ?_
          refine V_aload hC dX11_silenceSecondaries_85 4 rfl ?_
          refine V_iload hC dX11_silenceSecondaries_87 5 rfl ?_
          obtain ⟨hz, hq⟩ := hq
          refine clV_X0_barEachOther hG hC sv_X11_182 ⟨by decide, by decide⟩ (Nat.le_of_ble_eq_true rfl) ⟨by decide, by decide⟩ dX11_silenceSecondaries_89 hz hq (fun r21 hq => ?_)
          show V G Γ 6 0 0 h6 92 [(0, .ref p0), (1, .ref p1), (2, .int x2_4), (3, .int x3_5), (4, .ref r9), (5, .int (jabs (r11 - r14)))] [.int r21]
          refine V_if_eq (tgt := 107) hC dX11_silenceSecondaries_92 (by decide) (fun hc => ?_) (fun hc => ?_)
          · have hq := hq.1 hc
            refine V_sub [0, 1, 2, 3] rfl ?_
            exact hq
          · have hq := hq.2 hc
            refine V_aload_n hC dX11_silenceSecondaries_95 0 rfl ?_
            refine U_getR hC fl_X11_63 dX11_silenceSecondaries_96 hq (fun v22 hq => ?_)
            refine V_iload_n hC dX11_silenceSecondaries_99 3 rfl ?_
            refine V_iconst (v := (-1)) hC dX11_silenceSecondaries_100 (by decide) ?_
            obtain ⟨hz, hq⟩ := hq
            refine clV_X7_put hG hC sv_X11_207 ⟨by decide, by decide⟩ (Nat.le_of_ble_eq_true rfl) ⟨by decide, by decide⟩ dX11_silenceSecondaries_101 hz hq (fun h23 hq => ?_)
            show V G Γ 6 0 0 h23 104 [(0, .ref p0), (1, .ref p1), (2, .int x2_4), (3, .int x3_5), (4, .ref r9), (5, .int (jabs (r11 - r14)))] []
            refine V_iinc (j := 2) (v := (x2_4 + 1)) (L' := [(0, .ref p0), (1, .ref p1), (2, .int (x2_4 + 1)), (3, .int x3_5), (4, .ref r9), (5, .int (jabs (r11 - r14)))]) hC dX11_silenceSecondaries_104 rfl rfl (by decide) [1, 2, 0, 3, 4, 5] rfl ?_
            refine V_sub [0, 1, 2, 3] rfl ?_
            exact hq)
  exact hq
theorem clV_X11_silenceSecondaries {G : Gx} (hG : GOK G) {Γ : Cx} {own : String} {cc : ByteArray} {nL fr lo mc ms cells slots pc : Nat} {hh : List (Nat × Nat × Nat × Nat)} {h : hw} {L : List (Nat × Value)} {rest : List Value} (hC : COK G Γ own cc nL fr lo mc ms hh) {idx : Nat} (hs : SV own idx yX11_silenceSecondaries cX11_silenceSecondaries 6 (some .int) 1) {p0 : Nat} {p1 : Nat} (hR : 6 + 1 ≤ fr ∧ 8 + (6 + 11) + 143 ≤ lo) (hw8 : (rest.map fun v => v.category).sum ≤ 8) (hcs : cells + 0 ≤ mc ∧ slots + 0 ≤ ms) (hdg : decode cc pc = .ok (.invokevirtual idx, 3)) (ho : isO h p0 11) {post : Int32 → hw → Prop} (hq : wp_X11_silenceSecondaries G p0 p1 h post) (kk : ∀ (r : Int32) (h1 : hw) , post r h1 → V G Γ nL (cells + 0) (slots + 0) h1 (pc + 3) L (.int r :: rest)) : V G Γ nL cells slots h pc L (.ref p1 :: .ref p0 :: rest) :=
  V_callV (As := [.ref p1]) (r9 := (RX11, TX11, 8)) hC (ct_X11_silenceSecondaries hG p0 p1 h post hq) hs ho rfl rfl rfl hR hw8 hcs hdg (fun E h1 z => z.elim) (fun v h1 z => by obtain ⟨r, rfl, hz⟩ := z; exact kk r h1 hz)
set_option maxRecDepth 100000 in
set_option maxHeartbeats 4000000 in
theorem ct_X11_putOn {G : Gx} (hG : GOK G) (p0 : Nat) (p1 : Int32) (p2 : Int32) (h0 : hw) (post : Int32 → hw → Prop) (xp : String → hw → Prop) (hq : wp_X11_putOn G p0 p1 p2 h0 post xp) : CT G yX11_putOn cX11_putOn 6 (some .int) 8 170 3 18 [.ref p0, .int p1, .int p2] h0 (fun v h1 => ∃ r : Int32, v = some (.int r) ∧ post r h1) (fun E h1 => xp E h1) := by
  refine CT_of hG (by decide) (Nat.le_of_ble_eq_true rfl) (fun Γ hC hQ hN => ?_)
  have hC : COK G Γ "Bandplan" cX11_putOn 6 8 170 3 18 [] := hC
  unfold wp_X11_putOn at hq
  show V G Γ 6 0 0 h0 0 [(0, .ref p0), (1, .int p1), (2, .int p2)] []
  refine V_aload_n hC dX11_putOn_0 0 rfl ?_
  refine V_iload_n hC dX11_putOn_1 1 rfl ?_
  obtain ⟨hz, hq⟩ := hq
  refine clV_X11_stationAt hG hC sv_X11_143 ⟨by decide, by decide⟩ (Nat.le_of_ble_eq_true rfl) ⟨by decide, by decide⟩ dX11_putOn_2 hz hq (fun E hx => VX_out hC hQ ⟨by decide, by decide⟩ hx) (fun r1 hq => ?_)
  show V G Γ 6 1 6 h0 5 [(0, .ref p0), (1, .int p1), (2, .int p2)] [.ref r1]
  refine V_astore_n (L' := [(0, .ref p0), (1, .int p1), (2, .int p2), (3, .ref r1)]) hC dX11_putOn_5 rfl (by decide) [1, 2, 3, 0] rfl ?_
  refine V_aload_n hC dX11_putOn_6 0 rfl ?_
  refine V_iload_n hC dX11_putOn_7 2 rfl ?_
  obtain ⟨hz, hq⟩ := hq
  refine clV_X11_needChannel hG hC sv_X11_173 ⟨by decide, by decide⟩ (Nat.le_of_ble_eq_true rfl) ⟨by decide, by decide⟩ dX11_putOn_8 hz hq (fun E hx => VX_out hC hQ ⟨by decide, by decide⟩ hx) (fun hq => ?_)
  show V G Γ 6 2 12 h0 11 [(0, .ref p0), (1, .int p1), (2, .int p2), (3, .ref r1)] []
  refine V_aload_n hC dX11_putOn_11 0 rfl ?_
  refine U_getR hC fl_X11_26 dX11_putOn_12 hq (fun v2 hq => ?_)
  refine V_iload_n hC dX11_putOn_15 2 rfl ?_
  obtain ⟨hz, hq⟩ := hq
  refine clV_X1_isForeign hG hC sv_X11_186 ⟨by decide, by decide⟩ (Nat.le_of_ble_eq_true rfl) ⟨by decide, by decide⟩ dX11_putOn_16 hz hq (fun r3 hq => ?_)
  show V G Γ 6 2 12 h0 19 [(0, .ref p0), (1, .int p1), (2, .int p2), (3, .ref r1)] [.int r3]
  have hq := hq (V G Γ 6 2 12 h0 62 [(0, .ref p0), (1, .int p1), (2, .int p2), (3, .ref r1)] []) (by
    intro hq
    show V G Γ 6 2 12 h0 62 [(0, .ref p0), (1, .int p1), (2, .int p2), (3, .ref r1)] []
    refine V_aload_n hC dX11_putOn_62 0 rfl ?_
    refine U_getR hC fl_X11_63 dX11_putOn_63 hq (fun v4 hq => ?_)
    refine V_aload_n hC dX11_putOn_66 0 rfl ?_
    refine U_getR hC fl_X11_19 dX11_putOn_67 hq (fun v5 hq => ?_)
    refine U_getR hC fl_X11_154 dX11_putOn_70 hq (fun v6 hq => ?_)
    obtain ⟨hz, hq⟩ := hq
    refine clV_X7_copyFrom hG hC sv_X11_203 ⟨by decide, by decide⟩ (Nat.le_of_ble_eq_true rfl) ⟨by decide, by decide⟩ dX11_putOn_73 hz hq (fun h7 hq => ?_)
    show V G Γ 6 2 12 h7 76 [(0, .ref p0), (1, .int p1), (2, .int p2), (3, .ref r1)] []
    refine V_aload_n hC dX11_putOn_76 0 rfl ?_
    refine U_getR hC fl_X11_63 dX11_putOn_77 hq (fun v8 hq => ?_)
    refine V_iload_n hC dX11_putOn_80 1 rfl ?_
    refine V_iload_n hC dX11_putOn_81 2 rfl ?_
    obtain ⟨hz, hq⟩ := hq
    refine clV_X7_put hG hC sv_X11_207 ⟨by decide, by decide⟩ (Nat.le_of_ble_eq_true rfl) ⟨by decide, by decide⟩ dX11_putOn_82 hz hq (fun h9 hq => ?_)
    show V G Γ 6 2 12 h9 85 [(0, .ref p0), (1, .int p1), (2, .int p2), (3, .ref r1)] []
    refine V_aload_n hC dX11_putOn_85 3 rfl ?_
    refine U_getI hC fl_X11_210 dX11_putOn_86 hq (fun v10 hq => ?_)
    have hq := hq (fun (t11 : Int32) (h12 : hw) => V G Γ 6 2 12 h12 101 [(0, .ref p0)] [.int t11]) (by
      intro t11 h12 hq
      show V G Γ 6 2 12 h12 101 [(0, .ref p0)] [.int t11]
      refine V_istore (L' := [(0, .ref p0), (4, .int t11)]) hC dX11_putOn_101 (by decide) [1, 0] rfl ?_
      refine V_aload_n hC dX11_putOn_103 0 rfl ?_
      refine U_getR hC fl_X11_10 dX11_putOn_104 hq (fun v13 hq => ?_)
      refine V_aload_n hC dX11_putOn_107 0 rfl ?_
      refine U_getR hC fl_X11_63 dX11_putOn_108 hq (fun v14 hq => ?_)
      obtain ⟨hz, hq⟩ := hq
      refine clV_X0_allKeep hG hC sv_X11_217 ⟨by decide, by decide⟩ (Nat.le_of_ble_eq_true rfl) ⟨by decide, by decide⟩ dX11_putOn_111 hz hq (fun r15 hq => ?_)
      show V G Γ 6 2 12 h12 114 [(0, .ref p0), (4, .int t11)] [.int r15]
      refine V_if_ne (tgt := 127) hC dX11_putOn_114 (by decide) (fun hc => ?_) (fun hc => ?_)
      · have hq := hq.1 hc
        refine V_iconst (v := 0) hC dX11_putOn_127 (by decide) ?_
        refine V_istore (L' := [(0, .ref p0), (4, .int t11), (5, .int 0)]) hC dX11_putOn_128 (by decide) [1, 2, 0] rfl ?_
        have hq := hq (fun (x5_16 : Int32) (h17 : hw) => V G Γ 6 2 12 h17 130 [(0, .ref p0), (4, .int t11), (5, .int x5_16)] []) (by
          intro x5_16 h17 hq
          show V G Γ 6 2 12 h17 130 [(0, .ref p0), (4, .int t11), (5, .int x5_16)] []
          refine V_iload hC dX11_putOn_130 2 rfl ?_
          refine V_aload_n hC dX11_putOn_132 0 rfl ?_
          refine U_getR hC fl_X11_10 dX11_putOn_133 hq (fun v18 hq => ?_)
          refine U_getR hC fl_X11_125 dX11_putOn_136 hq (fun v19 hq => ?_)
          obtain ⟨hz, hq⟩ := hq
          refine clV_Jx4a65c_size_8abf5 hG hC sv_X11_91 ⟨by decide, by decide⟩ (Nat.le_of_ble_eq_true rfl) ⟨by decide, by decide⟩ dX11_putOn_139 hz hq (fun r20 hq => ?_)
          show V G Γ 6 2 12 h17 142 [(0, .ref p0), (4, .int t11), (5, .int x5_16)] [.int r20, .int x5_16]
          refine V_icmp_ge (tgt := 169) hC dX11_putOn_142 (by decide) (fun hc => ?_) (fun hc => ?_)
          · have hq := hq.1 hc
            refine V_iload hC dX11_putOn_169 1 rfl ?_
            exact V_iret hC hQ rfl rfl ⟨by decide, by decide⟩ dX11_putOn_171 ⟨_, rfl, hq⟩
          · have hq := hq.2 hc
            refine V_aload_n hC dX11_putOn_145 0 rfl ?_
            refine U_getR hC fl_X11_19 dX11_putOn_146 hq (fun v21 hq => ?_)
            refine V_iload hC dX11_putOn_149 2 rfl ?_
            refine V_aload_n hC dX11_putOn_151 0 rfl ?_
            refine U_getR hC fl_X11_63 dX11_putOn_152 hq (fun v22 hq => ?_)
            refine V_iload hC dX11_putOn_155 2 rfl ?_
            obtain ⟨hz, hq⟩ := hq
            refine clV_X7_at hG hC sv_X11_226 ⟨by decide, by decide⟩ (Nat.le_of_ble_eq_true rfl) ⟨by decide, by decide⟩ dX11_putOn_157 hz hq (fun r23 hq => ?_)
            show V G Γ 6 2 12 h17 160 [(0, .ref p0), (4, .int t11), (5, .int x5_16)] [.int r23, .int x5_16, .ref v21]
            obtain ⟨hz, hq⟩ := hq
            refine clV_X6_change hG hC sv_X11_229 ⟨by decide, by decide⟩ (Nat.le_of_ble_eq_true rfl) ⟨by decide, by decide⟩ dX11_putOn_160 hz hq (fun h24 hq => ?_)
            show V G Γ 6 2 12 h24 163 [(0, .ref p0), (4, .int t11), (5, .int x5_16)] []
            refine V_iinc (j := 2) (v := (x5_16 + 1)) (L' := [(0, .ref p0), (4, .int t11), (5, .int (x5_16 + 1))]) hC dX11_putOn_163 rfl rfl (by decide) [1, 2, 0] rfl ?_
            refine V_goto (tgt := 130) hC dX11_putOn_166 (by decide) ?_
            exact hq)
        exact hq
      · have hq := hq.2 hc
        exact V_throwS hC hQ hG th_221_223 ⟨by decide, by decide⟩ ⟨by decide, by decide⟩ dX11_putOn_117 dX11_putOn_120 dX11_putOn_121 dX11_putOn_123 dX11_putOn_126 hq)
    refine V_if_eq (tgt := 100) hC dX11_putOn_89 (by decide) (fun hc => ?_) (fun hc => ?_)
    · have hq := hq.1 hc
      refine V_iconst (v := 0) hC dX11_putOn_100 (by decide) ?_
      refine V_sub [0] rfl ?_
      exact hq
    · have hq := hq.2 hc
      refine V_aload_n hC dX11_putOn_92 0 rfl ?_
      refine V_aload_n hC dX11_putOn_93 3 rfl ?_
      obtain ⟨hz, hq⟩ := hq
      refine clV_X11_silenceSecondaries hG hC sv_X11_214 ⟨by decide, by decide⟩ (Nat.le_of_ble_eq_true rfl) ⟨by decide, by decide⟩ dX11_putOn_94 hz hq (fun r25 h26 hq => ?_)
      show V G Γ 6 2 12 h26 97 [(0, .ref p0), (1, .int p1), (2, .int p2), (3, .ref r1)] [.int r25]
      refine V_goto (tgt := 101) hC dX11_putOn_97 (by decide) ?_
      refine V_sub [0] rfl ?_
      exact hq)
  refine V_if_eq (tgt := 62) hC dX11_putOn_19 (by decide) (fun hc => ?_) (fun hc => ?_)
  · have hq := hq.1 hc
    exact hq
  · have hq := hq.2 hc
    refine V_aload_n hC dX11_putOn_22 0 rfl ?_
    refine U_getR hC fl_X11_10 dX11_putOn_23 hq (fun v27 hq => ?_)
    refine V_aload_n hC dX11_putOn_26 3 rfl ?_
    obtain ⟨hz, hq⟩ := hq
    refine clV_X0_isNearBorder hG hC sv_X11_190 ⟨by decide, by decide⟩ (Nat.le_of_ble_eq_true rfl) ⟨by decide, by decide⟩ dX11_putOn_27 hz hq (fun r28 hq => ?_)
    show V G Γ 6 2 12 h0 30 [(0, .ref p0), (1, .int p1), (2, .int p2), (3, .ref r1)] [.int r28]
    refine V_if_eq (tgt := 62) hC dX11_putOn_30 (by decide) (fun hc => ?_) (fun hc => ?_)
    · have hq := hq.1 hc
      exact hq
    · have hq := hq.2 hc
      refine V_aload_n hC dX11_putOn_33 0 rfl ?_
      refine U_getR hC fl_X11_26 dX11_putOn_34 hq (fun v29 hq => ?_)
      refine V_iload_n hC dX11_putOn_37 1 rfl ?_
      refine V_iload_n hC dX11_putOn_38 2 rfl ?_
      refine V_aload_n hC dX11_putOn_39 0 rfl ?_
      refine U_getR hC fl_X11_19 dX11_putOn_40 hq (fun v30 hq => ?_)
      refine U_getI hC fl_X11_194 dX11_putOn_43 hq (fun v31 hq => ?_)
      obtain ⟨hz, hq⟩ := hq
      refine clV_X1_yesCounts hG hC sv_X11_197 ⟨by decide, by decide⟩ (Nat.le_of_ble_eq_true rfl) ⟨by decide, by decide⟩ dX11_putOn_46 hz hq (fun r32 hq => ?_)
      show V G Γ 6 2 12 h0 49 [(0, .ref p0), (1, .int p1), (2, .int p2), (3, .ref r1)] [.int r32]
      refine V_if_ne (tgt := 62) hC dX11_putOn_49 (by decide) (fun hc => ?_) (fun hc => ?_)
      · have hq := hq.1 hc
        exact hq
      · have hq := hq.2 hc
        exact V_throwS hC hQ hG th_97_201 ⟨by decide, by decide⟩ ⟨by decide, by decide⟩ dX11_putOn_52 dX11_putOn_55 dX11_putOn_56 dX11_putOn_58 dX11_putOn_61 hq
theorem clV_X11_putOn {G : Gx} (hG : GOK G) {Γ : Cx} {own : String} {cc : ByteArray} {nL fr lo mc ms cells slots pc : Nat} {hh : List (Nat × Nat × Nat × Nat)} {h : hw} {L : List (Nat × Value)} {rest : List Value} (hC : COK G Γ own cc nL fr lo mc ms hh) {idx : Nat} (hs : SV own idx yX11_putOn cX11_putOn 6 (some .int) 2) {p0 : Nat} {p1 : Int32} {p2 : Int32} (hR : 8 + 1 ≤ fr ∧ 8 + (6 + 11) + 170 ≤ lo) (hw8 : (rest.map fun v => v.category).sum ≤ 8) (hcs : cells + 3 ≤ mc ∧ slots + 18 ≤ ms) (hdg : decode cc pc = .ok (.invokevirtual idx, 3)) (ho : isO h p0 11) {post : Int32 → hw → Prop} {xp : String → hw → Prop} (hq : wp_X11_putOn G p0 p1 p2 h post xp) (kx : ∀ (E : String) (h1 : hw), xp E h1 → VX G Γ nL (cells + 3) (slots + 18) h1 pc L rest E) (kk : ∀ (r : Int32) (h1 : hw) , post r h1 → V G Γ nL (cells + 3) (slots + 18) h1 (pc + 3) L (.int r :: rest)) : V G Γ nL cells slots h pc L (.int p2 :: .int p1 :: .ref p0 :: rest) :=
  V_callV (As := [.int p1, .int p2]) (r9 := (RX11, TX11, 8)) hC (ct_X11_putOn hG p0 p1 p2 h post xp hq) hs ho rfl rfl rfl hR hw8 hcs hdg (fun E h1 z => kx E h1 z) (fun v h1 z => by obtain ⟨r, rfl, hz⟩ := z; exact kk r h1 hz)
set_option maxRecDepth 100000 in
set_option maxHeartbeats 4000000 in
theorem ct_X11_putOff {G : Gx} (hG : GOK G) (p0 : Nat) (p1 : Int32) (h0 : hw) (post : Int32 → hw → Prop) (xp : String → hw → Prop) (hq : wp_X11_putOff G p0 p1 h0 post xp) : CT G yX11_putOff cX11_putOff 4 (some .int) 7 115 1 6 [.ref p0, .int p1] h0 (fun v h1 => ∃ r : Int32, v = some (.int r) ∧ post r h1) (fun E h1 => xp E h1) := by
  refine CT_of hG (by decide) (Nat.le_of_ble_eq_true rfl) (fun Γ hC hQ hN => ?_)
  have hC : COK G Γ "Bandplan" cX11_putOff 4 7 115 1 6 [] := hC
  unfold wp_X11_putOff at hq
  show V G Γ 4 0 0 h0 0 [(0, .ref p0), (1, .int p1)] []
  refine V_aload_n hC dX11_putOff_0 0 rfl ?_
  refine V_iload_n hC dX11_putOff_1 1 rfl ?_
  obtain ⟨hz, hq⟩ := hq
  refine clV_X11_stationAt hG hC sv_X11_143 ⟨by decide, by decide⟩ (Nat.le_of_ble_eq_true rfl) ⟨by decide, by decide⟩ dX11_putOff_2 hz hq (fun E hx => VX_out hC hQ ⟨by decide, by decide⟩ hx) (fun r1 hq => ?_)
  show V G Γ 4 1 6 h0 5 [(0, .ref p0), (1, .int p1)] [.ref r1]
  refine V_astore_n (L' := [(0, .ref p0), (1, .int p1), (2, .ref r1)]) hC dX11_putOff_5 rfl (by decide) [1, 2, 0] rfl ?_
  refine V_aload_n hC dX11_putOff_6 0 rfl ?_
  refine U_getR hC fl_X11_19 dX11_putOff_7 hq (fun v2 hq => ?_)
  refine U_getR hC fl_X11_154 dX11_putOff_10 hq (fun v3 hq => ?_)
  refine V_aload_n hC dX11_putOff_13 2 rfl ?_
  refine U_getI hC fl_X11_232 dX11_putOff_14 hq (fun v4 hq => ?_)
  obtain ⟨hz, hq⟩ := hq
  refine clV_X7_at hG hC sv_X11_226 ⟨by decide, by decide⟩ (Nat.le_of_ble_eq_true rfl) ⟨by decide, by decide⟩ dX11_putOff_17 hz hq (fun r5 hq => ?_)
  show V G Γ 4 1 6 h0 20 [(0, .ref p0), (1, .int p1), (2, .ref r1)] [.int r5]
  refine V_istore_n (L' := [(0, .ref p0), (1, .int p1), (2, .ref r1), (3, .int r5)]) hC dX11_putOff_20 rfl (by decide) [1, 2, 3, 0] rfl ?_
  refine V_aload_n hC dX11_putOff_21 0 rfl ?_
  refine U_getR hC fl_X11_19 dX11_putOff_22 hq (fun v6 hq => ?_)
  refine V_aload_n hC dX11_putOff_25 2 rfl ?_
  refine U_getI hC fl_X11_232 dX11_putOff_26 hq (fun v7 hq => ?_)
  refine V_iconst (v := (-1)) hC dX11_putOff_29 (by decide) ?_
  obtain ⟨hz, hq⟩ := hq
  refine clV_X6_change hG hC sv_X11_229 ⟨by decide, by decide⟩ (Nat.le_of_ble_eq_true rfl) ⟨by decide, by decide⟩ dX11_putOff_30 hz hq (fun h8 hq => ?_)
  show V G Γ 4 1 6 h8 33 [(0, .ref p0), (1, .int p1), (2, .ref r1), (3, .int r5)] []
  refine V_iload_n hC dX11_putOff_33 3 rfl ?_
  exact V_iret hC hQ rfl rfl ⟨by decide, by decide⟩ dX11_putOff_34 ⟨_, rfl, hq⟩
theorem clV_X11_putOff {G : Gx} (hG : GOK G) {Γ : Cx} {own : String} {cc : ByteArray} {nL fr lo mc ms cells slots pc : Nat} {hh : List (Nat × Nat × Nat × Nat)} {h : hw} {L : List (Nat × Value)} {rest : List Value} (hC : COK G Γ own cc nL fr lo mc ms hh) {idx : Nat} (hs : SV own idx yX11_putOff cX11_putOff 4 (some .int) 1) {p0 : Nat} {p1 : Int32} (hR : 7 + 1 ≤ fr ∧ 8 + (4 + 11) + 115 ≤ lo) (hw8 : (rest.map fun v => v.category).sum ≤ 8) (hcs : cells + 1 ≤ mc ∧ slots + 6 ≤ ms) (hdg : decode cc pc = .ok (.invokevirtual idx, 3)) (ho : isO h p0 11) {post : Int32 → hw → Prop} {xp : String → hw → Prop} (hq : wp_X11_putOff G p0 p1 h post xp) (kx : ∀ (E : String) (h1 : hw), xp E h1 → VX G Γ nL (cells + 1) (slots + 6) h1 pc L rest E) (kk : ∀ (r : Int32) (h1 : hw) , post r h1 → V G Γ nL (cells + 1) (slots + 6) h1 (pc + 3) L (.int r :: rest)) : V G Γ nL cells slots h pc L (.int p1 :: .ref p0 :: rest) :=
  V_callV (As := [.int p1]) (r9 := (RX11, TX11, 8)) hC (ct_X11_putOff hG p0 p1 h post xp hq) hs ho rfl rfl rfl hR hw8 hcs hdg (fun E h1 z => kx E h1 z) (fun v h1 z => by obtain ⟨r, rfl, hz⟩ := z; exact kk r h1 hz)
set_option maxRecDepth 100000 in
set_option maxHeartbeats 4000000 in
theorem ct_X11_channelOf {G : Gx} (hG : GOK G) (p0 : Nat) (p1 : Int32) (p2 : Int32) (h0 : hw) (post : Int32 → Prop) (xp : String → Prop) (hq : wp_X11_channelOf G p0 p1 p2 h0 post xp) : CT G yX11_channelOf cX11_channelOf 4 (some .int) 7 115 2 12 [.ref p0, .int p1, .int p2] h0 (fun v h1 => ∃ r : Int32, v = some (.int r) ∧ h1 = h0 ∧ post r) (fun E h1 => h1 = h0 ∧ xp E) := by
  refine CT_of hG (by decide) (Nat.le_of_ble_eq_true rfl) (fun Γ hC hQ hN => ?_)
  have hC : COK G Γ "Bandplan" cX11_channelOf 4 7 115 2 12 [] := hC
  unfold wp_X11_channelOf at hq
  show V G Γ 4 0 0 h0 0 [(0, .ref p0), (1, .int p1), (2, .int p2)] []
  refine V_aload_n hC dX11_channelOf_0 0 rfl ?_
  refine V_iload_n hC dX11_channelOf_1 1 rfl ?_
  obtain ⟨hz, hq⟩ := hq
  refine clV_X11_stationAt hG hC sv_X11_143 ⟨by decide, by decide⟩ (Nat.le_of_ble_eq_true rfl) ⟨by decide, by decide⟩ dX11_channelOf_2 hz hq (fun E hx => VX_out hC hQ ⟨by decide, by decide⟩ ⟨rfl, hx⟩) (fun r1 hq => ?_)
  show V G Γ 4 1 6 h0 5 [(0, .ref p0), (1, .int p1), (2, .int p2)] [.ref r1]
  refine V_astore_n (L' := [(0, .ref p0), (1, .int p1), (2, .int p2), (3, .ref r1)]) hC dX11_channelOf_5 rfl (by decide) [1, 2, 3, 0] rfl ?_
  refine V_aload_n hC dX11_channelOf_6 0 rfl ?_
  refine V_iload_n hC dX11_channelOf_7 2 rfl ?_
  refine V_iconst (v := 0) hC dX11_channelOf_8 (by decide) ?_
  refine V_aload_n hC dX11_channelOf_9 0 rfl ?_
  refine U_getR hC fl_X11_19 dX11_channelOf_10 hq (fun v2 hq => ?_)
  refine U_getI hC fl_X11_194 dX11_channelOf_13 hq (fun v3 hq => ?_)
  obtain ⟨hz, hq⟩ := hq
  refine clV_X11_needRange hG hC sv_X11_70 ⟨by decide, by decide⟩ (Nat.le_of_ble_eq_true rfl) ⟨by decide, by decide⟩ dX11_channelOf_16 hz hq (fun E hx => VX_out hC hQ ⟨by decide, by decide⟩ ⟨rfl, hx⟩) (fun hq => ?_)
  show V G Γ 4 2 12 h0 19 [(0, .ref p0), (1, .int p1), (2, .int p2), (3, .ref r1)] []
  refine V_aload_n hC dX11_channelOf_19 0 rfl ?_
  refine U_getR hC fl_X11_19 dX11_channelOf_20 hq (fun v4 hq => ?_)
  refine V_aload_n hC dX11_channelOf_23 3 rfl ?_
  refine U_getI hC fl_X11_232 dX11_channelOf_24 hq (fun v5 hq => ?_)
  refine V_iload_n hC dX11_channelOf_27 2 rfl ?_
  obtain ⟨hz, hq⟩ := hq
  refine clV_X6_channelAt hG hC sv_X11_235 ⟨by decide, by decide⟩ (Nat.le_of_ble_eq_true rfl) ⟨by decide, by decide⟩ dX11_channelOf_28 hz hq (fun r6 hq => ?_)
  show V G Γ 4 2 12 h0 31 [(0, .ref p0), (1, .int p1), (2, .int p2), (3, .ref r1)] [.int r6]
  exact V_iret hC hQ rfl rfl ⟨by decide, by decide⟩ dX11_channelOf_31 ⟨_, rfl, rfl, hq⟩
theorem clV_X11_channelOf {G : Gx} (hG : GOK G) {Γ : Cx} {own : String} {cc : ByteArray} {nL fr lo mc ms cells slots pc : Nat} {hh : List (Nat × Nat × Nat × Nat)} {h : hw} {L : List (Nat × Value)} {rest : List Value} (hC : COK G Γ own cc nL fr lo mc ms hh) {idx : Nat} (hs : SV own idx yX11_channelOf cX11_channelOf 4 (some .int) 2) {p0 : Nat} {p1 : Int32} {p2 : Int32} (hR : 7 + 1 ≤ fr ∧ 8 + (4 + 11) + 115 ≤ lo) (hw8 : (rest.map fun v => v.category).sum ≤ 8) (hcs : cells + 2 ≤ mc ∧ slots + 12 ≤ ms) (hdg : decode cc pc = .ok (.invokevirtual idx, 3)) (ho : isO h p0 11) {post : Int32 → Prop} {xp : String → Prop} (hq : wp_X11_channelOf G p0 p1 p2 h post xp) (kx : ∀ E : String, xp E → VX G Γ nL (cells + 2) (slots + 12) h pc L rest E) (kk : ∀ (r : Int32) , post r → V G Γ nL (cells + 2) (slots + 12) h (pc + 3) L (.int r :: rest)) : V G Γ nL cells slots h pc L (.int p2 :: .int p1 :: .ref p0 :: rest) :=
  V_callV (As := [.int p1, .int p2]) (r9 := (RX11, TX11, 8)) hC (ct_X11_channelOf hG p0 p1 p2 h post xp hq) hs ho rfl rfl rfl hR hw8 hcs hdg (fun E h1 z => by obtain ⟨rfl, hz⟩ := z; exact kx E hz) (fun v h1 z => by obtain ⟨r, rfl, rfl, hz⟩ := z; exact kk r hz)
set_option maxRecDepth 100000 in
set_option maxHeartbeats 4000000 in
theorem ct_X11_setForeign {G : Gx} (hG : GOK G) (p0 : Nat) (p1 : Int32) (p2 : Int32) (h0 : hw) (post : Int32 → hw → Prop) (xp : String → hw → Prop) (hq : wp_X11_setForeign G p0 p1 p2 h0 post xp) : CT G yX11_setForeign cX11_setForeign 4 (some .boolean) 8 134 1 6 [.ref p0, .int p1, .int p2] h0 (fun v h1 => ∃ r : Int32, v = some (.int r) ∧ post r h1) (fun E h1 => xp E h1) := by
  refine CT_of hG (by decide) (Nat.le_of_ble_eq_true rfl) (fun Γ hC hQ hN => ?_)
  have hC : COK G Γ "Bandplan" cX11_setForeign 4 8 134 1 6 [] := hC
  unfold wp_X11_setForeign at hq
  show V G Γ 4 0 0 h0 0 [(0, .ref p0), (1, .int p1), (2, .int p2)] []
  refine V_aload_n hC dX11_setForeign_0 0 rfl ?_
  refine V_iload_n hC dX11_setForeign_1 1 rfl ?_
  obtain ⟨hz, hq⟩ := hq
  refine clV_X11_needChannel hG hC sv_X11_173 ⟨by decide, by decide⟩ (Nat.le_of_ble_eq_true rfl) ⟨by decide, by decide⟩ dX11_setForeign_2 hz hq (fun E hx => VX_out hC hQ ⟨by decide, by decide⟩ hx) (fun hq => ?_)
  show V G Γ 4 1 6 h0 5 [(0, .ref p0), (1, .int p1), (2, .int p2)] []
  refine V_aload_n hC dX11_setForeign_5 0 rfl ?_
  refine U_getR hC fl_X11_26 dX11_setForeign_6 hq (fun v1 hq => ?_)
  refine V_iload_n hC dX11_setForeign_9 1 rfl ?_
  obtain ⟨hz, hq⟩ := hq
  refine clV_X1_isForeign hG hC sv_X11_186 ⟨by decide, by decide⟩ (Nat.le_of_ble_eq_true rfl) ⟨by decide, by decide⟩ dX11_setForeign_10 hz hq (fun r2 hq => ?_)
  show V G Γ 4 1 6 h0 13 [(0, .ref p0), (1, .int p1), (2, .int p2)] [.int r2]
  refine V_istore_n (L' := [(0, .ref p0), (1, .int p1), (2, .int p2), (3, .int r2)]) hC dX11_setForeign_13 rfl (by decide) [1, 2, 3, 0] rfl ?_
  refine V_aload_n hC dX11_setForeign_14 0 rfl ?_
  refine U_getR hC fl_X11_26 dX11_setForeign_15 hq (fun v3 hq => ?_)
  refine V_iload_n hC dX11_setForeign_18 1 rfl ?_
  refine V_iload_n hC dX11_setForeign_19 2 rfl ?_
  obtain ⟨hz, hq⟩ := hq
  refine clV_X1_makeForeign hG hC sv_X11_238 ⟨by decide, by decide⟩ (Nat.le_of_ble_eq_true rfl) ⟨by decide, by decide⟩ dX11_setForeign_20 hz hq (fun h4 hq => ?_)
  show V G Γ 4 1 6 h4 23 [(0, .ref p0), (1, .int p1), (2, .int p2), (3, .int r2)] []
  refine V_iload_n hC dX11_setForeign_23 3 rfl ?_
  obtain ⟨hz, hq⟩ := hq
  exact V_iret hC hQ rfl (nar_b hz) ⟨by decide, by decide⟩ dX11_setForeign_24 ⟨_, rfl, hq⟩
theorem clV_X11_setForeign {G : Gx} (hG : GOK G) {Γ : Cx} {own : String} {cc : ByteArray} {nL fr lo mc ms cells slots pc : Nat} {hh : List (Nat × Nat × Nat × Nat)} {h : hw} {L : List (Nat × Value)} {rest : List Value} (hC : COK G Γ own cc nL fr lo mc ms hh) {idx : Nat} (hs : SV own idx yX11_setForeign cX11_setForeign 4 (some .boolean) 2) {p0 : Nat} {p1 : Int32} {p2 : Int32} (hR : 8 + 1 ≤ fr ∧ 8 + (4 + 11) + 134 ≤ lo) (hw8 : (rest.map fun v => v.category).sum ≤ 8) (hcs : cells + 1 ≤ mc ∧ slots + 6 ≤ ms) (hdg : decode cc pc = .ok (.invokevirtual idx, 3)) (ho : isO h p0 11) {post : Int32 → hw → Prop} {xp : String → hw → Prop} (hq : wp_X11_setForeign G p0 p1 p2 h post xp) (kx : ∀ (E : String) (h1 : hw), xp E h1 → VX G Γ nL (cells + 1) (slots + 6) h1 pc L rest E) (kk : ∀ (r : Int32) (h1 : hw) , post r h1 → V G Γ nL (cells + 1) (slots + 6) h1 (pc + 3) L (.int r :: rest)) : V G Γ nL cells slots h pc L (.int p2 :: .int p1 :: .ref p0 :: rest) :=
  V_callV (As := [.int p1, .int p2]) (r9 := (RX11, TX11, 8)) hC (ct_X11_setForeign hG p0 p1 p2 h post xp hq) hs ho rfl rfl rfl hR hw8 hcs hdg (fun E h1 z => kx E h1 z) (fun v h1 z => by obtain ⟨r, rfl, hz⟩ := z; exact kk r h1 hz)
set_option maxRecDepth 100000 in
set_option maxHeartbeats 4000000 in
theorem ct_X11_askAbroad {G : Gx} (hG : GOK G) (p0 : Nat) (p1 : Int32) (p2 : Int32) (h0 : hw) (post : Int32 → hw → Prop) (xp : String → hw → Prop) (hq : wp_X11_askAbroad G p0 p1 p2 h0 post xp) : CT G yX11_askAbroad cX11_askAbroad 4 (some .int) 8 134 2 12 [.ref p0, .int p1, .int p2] h0 (fun v h1 => ∃ r : Int32, v = some (.int r) ∧ post r h1) (fun E h1 => xp E h1) := by
  refine CT_of hG (by decide) (Nat.le_of_ble_eq_true rfl) (fun Γ hC hQ hN => ?_)
  have hC : COK G Γ "Bandplan" cX11_askAbroad 4 8 134 2 12 [] := hC
  unfold wp_X11_askAbroad at hq
  show V G Γ 4 0 0 h0 0 [(0, .ref p0), (1, .int p1), (2, .int p2)] []
  refine V_aload_n hC dX11_askAbroad_0 0 rfl ?_
  refine V_iload_n hC dX11_askAbroad_1 1 rfl ?_
  obtain ⟨hz, hq⟩ := hq
  refine clV_X11_stationAt hG hC sv_X11_143 ⟨by decide, by decide⟩ (Nat.le_of_ble_eq_true rfl) ⟨by decide, by decide⟩ dX11_askAbroad_2 hz hq (fun E hx => VX_out hC hQ ⟨by decide, by decide⟩ hx) (fun r1 hq => ?_)
  show V G Γ 4 1 6 h0 5 [(0, .ref p0), (1, .int p1), (2, .int p2)] [.ref r1]
  refine V_astore_n (L' := [(0, .ref p0), (1, .int p1), (2, .int p2), (3, .ref r1)]) hC dX11_askAbroad_5 rfl (by decide) [1, 2, 3, 0] rfl ?_
  refine V_aload_n hC dX11_askAbroad_6 0 rfl ?_
  refine V_iload_n hC dX11_askAbroad_7 2 rfl ?_
  obtain ⟨hz, hq⟩ := hq
  refine clV_X11_needChannel hG hC sv_X11_173 ⟨by decide, by decide⟩ (Nat.le_of_ble_eq_true rfl) ⟨by decide, by decide⟩ dX11_askAbroad_8 hz hq (fun E hx => VX_out hC hQ ⟨by decide, by decide⟩ hx) (fun hq => ?_)
  show V G Γ 4 2 12 h0 11 [(0, .ref p0), (1, .int p1), (2, .int p2), (3, .ref r1)] []
  refine V_aload_n hC dX11_askAbroad_11 0 rfl ?_
  refine U_getR hC fl_X11_26 dX11_askAbroad_12 hq (fun v2 hq => ?_)
  refine V_aload_n hC dX11_askAbroad_15 3 rfl ?_
  refine U_getI hC fl_X11_232 dX11_askAbroad_16 hq (fun v3 hq => ?_)
  refine V_iload_n hC dX11_askAbroad_19 2 rfl ?_
  refine V_aload_n hC dX11_askAbroad_20 0 rfl ?_
  refine U_getR hC fl_X11_19 dX11_askAbroad_21 hq (fun v4 hq => ?_)
  refine U_getI hC fl_X11_194 dX11_askAbroad_24 hq (fun v5 hq => ?_)
  obtain ⟨hz, hq⟩ := hq
  refine clV_X1_ask hG hC sv_X11_242 ⟨by decide, by decide⟩ (Nat.le_of_ble_eq_true rfl) ⟨by decide, by decide⟩ dX11_askAbroad_27 hz hq (fun r6 h7 hq => ?_)
  show V G Γ 4 2 12 h7 30 [(0, .ref p0), (1, .int p1), (2, .int p2), (3, .ref r1)] [.int r6]
  exact V_iret hC hQ rfl rfl ⟨by decide, by decide⟩ dX11_askAbroad_30 ⟨_, rfl, hq⟩
theorem clV_X11_askAbroad {G : Gx} (hG : GOK G) {Γ : Cx} {own : String} {cc : ByteArray} {nL fr lo mc ms cells slots pc : Nat} {hh : List (Nat × Nat × Nat × Nat)} {h : hw} {L : List (Nat × Value)} {rest : List Value} (hC : COK G Γ own cc nL fr lo mc ms hh) {idx : Nat} (hs : SV own idx yX11_askAbroad cX11_askAbroad 4 (some .int) 2) {p0 : Nat} {p1 : Int32} {p2 : Int32} (hR : 8 + 1 ≤ fr ∧ 8 + (4 + 11) + 134 ≤ lo) (hw8 : (rest.map fun v => v.category).sum ≤ 8) (hcs : cells + 2 ≤ mc ∧ slots + 12 ≤ ms) (hdg : decode cc pc = .ok (.invokevirtual idx, 3)) (ho : isO h p0 11) {post : Int32 → hw → Prop} {xp : String → hw → Prop} (hq : wp_X11_askAbroad G p0 p1 p2 h post xp) (kx : ∀ (E : String) (h1 : hw), xp E h1 → VX G Γ nL (cells + 2) (slots + 12) h1 pc L rest E) (kk : ∀ (r : Int32) (h1 : hw) , post r h1 → V G Γ nL (cells + 2) (slots + 12) h1 (pc + 3) L (.int r :: rest)) : V G Γ nL cells slots h pc L (.int p2 :: .int p1 :: .ref p0 :: rest) :=
  V_callV (As := [.int p1, .int p2]) (r9 := (RX11, TX11, 8)) hC (ct_X11_askAbroad hG p0 p1 p2 h post xp hq) hs ho rfl rfl rfl hR hw8 hcs hdg (fun E h1 z => kx E h1 z) (fun v h1 z => by obtain ⟨r, rfl, hz⟩ := z; exact kk r h1 hz)
set_option maxRecDepth 100000 in
set_option maxHeartbeats 4000000 in
theorem ct_X11_object {G : Gx} (hG : GOK G) (p0 : Nat) (p1 : Int32) (p2 : Int32) (h0 : hw) (post : Int32 → hw → Prop) (xp : String → hw → Prop) (hq : wp_X11_object G p0 p1 p2 h0 post xp) : CT G yX11_object cX11_object 4 (some .boolean) 8 134 3 18 [.ref p0, .int p1, .int p2] h0 (fun v h1 => ∃ r : Int32, v = some (.int r) ∧ post r h1) (fun E h1 => xp E h1) := by
  refine CT_of hG (by decide) (Nat.le_of_ble_eq_true rfl) (fun Γ hC hQ hN => ?_)
  have hC : COK G Γ "Bandplan" cX11_object 4 8 134 3 18 [] := hC
  unfold wp_X11_object at hq
  show V G Γ 4 0 0 h0 0 [(0, .ref p0), (1, .int p1), (2, .int p2)] []
  refine V_aload_n hC dX11_object_0 0 rfl ?_
  refine V_iload_n hC dX11_object_1 1 rfl ?_
  obtain ⟨hz, hq⟩ := hq
  refine clV_X11_stationAt hG hC sv_X11_143 ⟨by decide, by decide⟩ (Nat.le_of_ble_eq_true rfl) ⟨by decide, by decide⟩ dX11_object_2 hz hq (fun E hx => VX_out hC hQ ⟨by decide, by decide⟩ hx) (fun r1 hq => ?_)
  show V G Γ 4 1 6 h0 5 [(0, .ref p0), (1, .int p1), (2, .int p2)] [.ref r1]
  refine V_astore_n (L' := [(0, .ref p0), (1, .int p1), (2, .int p2), (3, .ref r1)]) hC dX11_object_5 rfl (by decide) [1, 2, 3, 0] rfl ?_
  refine V_aload_n hC dX11_object_6 0 rfl ?_
  refine V_iload_n hC dX11_object_7 2 rfl ?_
  obtain ⟨hz, hq⟩ := hq
  refine clV_X11_needChannel hG hC sv_X11_173 ⟨by decide, by decide⟩ (Nat.le_of_ble_eq_true rfl) ⟨by decide, by decide⟩ dX11_object_8 hz hq (fun E hx => VX_out hC hQ ⟨by decide, by decide⟩ hx) (fun hq => ?_)
  show V G Γ 4 2 12 h0 11 [(0, .ref p0), (1, .int p1), (2, .int p2), (3, .ref r1)] []
  refine V_aload_n hC dX11_object_11 0 rfl ?_
  refine U_getR hC fl_X11_26 dX11_object_12 hq (fun v2 hq => ?_)
  refine V_aload_n hC dX11_object_15 3 rfl ?_
  refine U_getI hC fl_X11_232 dX11_object_16 hq (fun v3 hq => ?_)
  refine V_iload_n hC dX11_object_19 2 rfl ?_
  obtain ⟨hz, hq⟩ := hq
  refine clV_X1_wasAsked hG hC sv_X11_245 ⟨by decide, by decide⟩ (Nat.le_of_ble_eq_true rfl) ⟨by decide, by decide⟩ dX11_object_20 hz hq (fun r4 hq => ?_)
  show V G Γ 4 2 12 h0 23 [(0, .ref p0), (1, .int p1), (2, .int p2), (3, .ref r1)] [.int r4]
  refine V_if_ne (tgt := 36) hC dX11_object_23 (by decide) (fun hc => ?_) (fun hc => ?_)
  · have hq := hq.1 hc
    refine V_aload_n hC dX11_object_36 0 rfl ?_
    refine U_getR hC fl_X11_26 dX11_object_37 hq (fun v5 hq => ?_)
    refine V_aload_n hC dX11_object_40 3 rfl ?_
    refine U_getI hC fl_X11_232 dX11_object_41 hq (fun v6 hq => ?_)
    refine V_iload_n hC dX11_object_44 2 rfl ?_
    refine V_aload_n hC dX11_object_45 0 rfl ?_
    refine U_getR hC fl_X11_19 dX11_object_46 hq (fun v7 hq => ?_)
    refine U_getI hC fl_X11_194 dX11_object_49 hq (fun v8 hq => ?_)
    obtain ⟨hz, hq⟩ := hq
    refine clV_X1_protest hG hC sv_X11_251 ⟨by decide, by decide⟩ (Nat.le_of_ble_eq_true rfl) ⟨by decide, by decide⟩ dX11_object_52 hz hq (fun r9 h10 hq => ?_)
    show V G Γ 4 2 12 h10 55 [(0, .ref p0), (1, .int p1), (2, .int p2), (3, .ref r1)] [.int r9]
    obtain ⟨hz, hq⟩ := hq
    exact V_iret hC hQ rfl (nar_b hz) ⟨by decide, by decide⟩ dX11_object_55 ⟨_, rfl, hq⟩
  · have hq := hq.2 hc
    exact V_throwNS hC hQ hG th_162_249 ⟨by decide, by decide⟩ ⟨by decide, by decide⟩ dX11_object_26 dX11_object_29 dX11_object_30 dX11_object_32 dX11_object_35 hq
theorem clV_X11_object {G : Gx} (hG : GOK G) {Γ : Cx} {own : String} {cc : ByteArray} {nL fr lo mc ms cells slots pc : Nat} {hh : List (Nat × Nat × Nat × Nat)} {h : hw} {L : List (Nat × Value)} {rest : List Value} (hC : COK G Γ own cc nL fr lo mc ms hh) {idx : Nat} (hs : SV own idx yX11_object cX11_object 4 (some .boolean) 2) {p0 : Nat} {p1 : Int32} {p2 : Int32} (hR : 8 + 1 ≤ fr ∧ 8 + (4 + 11) + 134 ≤ lo) (hw8 : (rest.map fun v => v.category).sum ≤ 8) (hcs : cells + 3 ≤ mc ∧ slots + 18 ≤ ms) (hdg : decode cc pc = .ok (.invokevirtual idx, 3)) (ho : isO h p0 11) {post : Int32 → hw → Prop} {xp : String → hw → Prop} (hq : wp_X11_object G p0 p1 p2 h post xp) (kx : ∀ (E : String) (h1 : hw), xp E h1 → VX G Γ nL (cells + 3) (slots + 18) h1 pc L rest E) (kk : ∀ (r : Int32) (h1 : hw) , post r h1 → V G Γ nL (cells + 3) (slots + 18) h1 (pc + 3) L (.int r :: rest)) : V G Γ nL cells slots h pc L (.int p2 :: .int p1 :: .ref p0 :: rest) :=
  V_callV (As := [.int p1, .int p2]) (r9 := (RX11, TX11, 8)) hC (ct_X11_object hG p0 p1 p2 h post xp hq) hs ho rfl rfl rfl hR hw8 hcs hdg (fun E h1 z => kx E h1 z) (fun v h1 z => by obtain ⟨r, rfl, hz⟩ := z; exact kk r h1 hz)
set_option maxRecDepth 100000 in
set_option maxHeartbeats 4000000 in
theorem ct_X11_hasYes {G : Gx} (hG : GOK G) (p0 : Nat) (p1 : Int32) (p2 : Int32) (h0 : hw) (post : Int32 → Prop) (xp : String → Prop) (hq : wp_X11_hasYes G p0 p1 p2 h0 post xp) : CT G yX11_hasYes cX11_hasYes 4 (some .boolean) 8 134 2 12 [.ref p0, .int p1, .int p2] h0 (fun v h1 => ∃ r : Int32, v = some (.int r) ∧ h1 = h0 ∧ post r) (fun E h1 => h1 = h0 ∧ xp E) := by
  refine CT_of hG (by decide) (Nat.le_of_ble_eq_true rfl) (fun Γ hC hQ hN => ?_)
  have hC : COK G Γ "Bandplan" cX11_hasYes 4 8 134 2 12 [] := hC
  unfold wp_X11_hasYes at hq
  show V G Γ 4 0 0 h0 0 [(0, .ref p0), (1, .int p1), (2, .int p2)] []
  refine V_aload_n hC dX11_hasYes_0 0 rfl ?_
  refine V_iload_n hC dX11_hasYes_1 1 rfl ?_
  obtain ⟨hz, hq⟩ := hq
  refine clV_X11_stationAt hG hC sv_X11_143 ⟨by decide, by decide⟩ (Nat.le_of_ble_eq_true rfl) ⟨by decide, by decide⟩ dX11_hasYes_2 hz hq (fun E hx => VX_out hC hQ ⟨by decide, by decide⟩ ⟨rfl, hx⟩) (fun r1 hq => ?_)
  show V G Γ 4 1 6 h0 5 [(0, .ref p0), (1, .int p1), (2, .int p2)] [.ref r1]
  refine V_astore_n (L' := [(0, .ref p0), (1, .int p1), (2, .int p2), (3, .ref r1)]) hC dX11_hasYes_5 rfl (by decide) [1, 2, 3, 0] rfl ?_
  refine V_aload_n hC dX11_hasYes_6 0 rfl ?_
  refine V_iload_n hC dX11_hasYes_7 2 rfl ?_
  obtain ⟨hz, hq⟩ := hq
  refine clV_X11_needChannel hG hC sv_X11_173 ⟨by decide, by decide⟩ (Nat.le_of_ble_eq_true rfl) ⟨by decide, by decide⟩ dX11_hasYes_8 hz hq (fun E hx => VX_out hC hQ ⟨by decide, by decide⟩ ⟨rfl, hx⟩) (fun hq => ?_)
  show V G Γ 4 2 12 h0 11 [(0, .ref p0), (1, .int p1), (2, .int p2), (3, .ref r1)] []
  refine V_aload_n hC dX11_hasYes_11 0 rfl ?_
  refine U_getR hC fl_X11_26 dX11_hasYes_12 hq (fun v2 hq => ?_)
  refine V_aload_n hC dX11_hasYes_15 3 rfl ?_
  refine U_getI hC fl_X11_232 dX11_hasYes_16 hq (fun v3 hq => ?_)
  refine V_iload_n hC dX11_hasYes_19 2 rfl ?_
  refine V_aload_n hC dX11_hasYes_20 0 rfl ?_
  refine U_getR hC fl_X11_19 dX11_hasYes_21 hq (fun v4 hq => ?_)
  refine U_getI hC fl_X11_194 dX11_hasYes_24 hq (fun v5 hq => ?_)
  obtain ⟨hz, hq⟩ := hq
  refine clV_X1_yesCounts hG hC sv_X11_197 ⟨by decide, by decide⟩ (Nat.le_of_ble_eq_true rfl) ⟨by decide, by decide⟩ dX11_hasYes_27 hz hq (fun r6 hq => ?_)
  show V G Γ 4 2 12 h0 30 [(0, .ref p0), (1, .int p1), (2, .int p2), (3, .ref r1)] [.int r6]
  obtain ⟨hz, hq⟩ := hq
  exact V_iret hC hQ rfl (nar_b hz) ⟨by decide, by decide⟩ dX11_hasYes_30 ⟨_, rfl, rfl, hq⟩
theorem clV_X11_hasYes {G : Gx} (hG : GOK G) {Γ : Cx} {own : String} {cc : ByteArray} {nL fr lo mc ms cells slots pc : Nat} {hh : List (Nat × Nat × Nat × Nat)} {h : hw} {L : List (Nat × Value)} {rest : List Value} (hC : COK G Γ own cc nL fr lo mc ms hh) {idx : Nat} (hs : SV own idx yX11_hasYes cX11_hasYes 4 (some .boolean) 2) {p0 : Nat} {p1 : Int32} {p2 : Int32} (hR : 8 + 1 ≤ fr ∧ 8 + (4 + 11) + 134 ≤ lo) (hw8 : (rest.map fun v => v.category).sum ≤ 8) (hcs : cells + 2 ≤ mc ∧ slots + 12 ≤ ms) (hdg : decode cc pc = .ok (.invokevirtual idx, 3)) (ho : isO h p0 11) {post : Int32 → Prop} {xp : String → Prop} (hq : wp_X11_hasYes G p0 p1 p2 h post xp) (kx : ∀ E : String, xp E → VX G Γ nL (cells + 2) (slots + 12) h pc L rest E) (kk : ∀ (r : Int32) , post r → V G Γ nL (cells + 2) (slots + 12) h (pc + 3) L (.int r :: rest)) : V G Γ nL cells slots h pc L (.int p2 :: .int p1 :: .ref p0 :: rest) :=
  V_callV (As := [.int p1, .int p2]) (r9 := (RX11, TX11, 8)) hC (ct_X11_hasYes hG p0 p1 p2 h post xp hq) hs ho rfl rfl rfl hR hw8 hcs hdg (fun E h1 z => by obtain ⟨rfl, hz⟩ := z; exact kx E hz) (fun v h1 z => by obtain ⟨r, rfl, rfl, hz⟩ := z; exact kk r hz)
set_option maxRecDepth 100000 in
set_option maxHeartbeats 4000000 in
theorem ct_X11_goOn {G : Gx} (hG : GOK G) (p0 : Nat) (p1 : Int32) (h0 : hw) (post : Int32 → hw → Prop) (xp : String → hw → Prop) (hq : wp_X11_goOn G p0 p1 h0 post xp) : CT G yX11_goOn cX11_goOn 2 (some .int) 7 113 1 6 [.ref p0, .int p1] h0 (fun v h1 => ∃ r : Int32, v = some (.int r) ∧ post r h1) (fun E h1 => xp E h1) := by
  refine CT_of hG (by decide) (Nat.le_of_ble_eq_true rfl) (fun Γ hC hQ hN => ?_)
  have hC : COK G Γ "Bandplan" cX11_goOn 2 7 113 1 6 [] := hC
  unfold wp_X11_goOn at hq
  show V G Γ 2 0 0 h0 0 [(0, .ref p0), (1, .int p1)] []
  refine V_aload_n hC dX11_goOn_0 0 rfl ?_
  refine V_iload_n hC dX11_goOn_1 1 rfl ?_
  refine V_iconst (v := 1) hC dX11_goOn_2 (by decide) ?_
  refine V_bipush (v := 99) hC dX11_goOn_3 (by decide) ?_
  obtain ⟨hz, hq⟩ := hq
  refine clV_X11_needRange hG hC sv_X11_70 ⟨by decide, by decide⟩ (Nat.le_of_ble_eq_true rfl) ⟨by decide, by decide⟩ dX11_goOn_5 hz hq (fun E hx => VX_out hC hQ ⟨by decide, by decide⟩ hx) (fun hq => ?_)
  show V G Γ 2 1 6 h0 8 [(0, .ref p0), (1, .int p1)] []
  refine V_aload_n hC dX11_goOn_8 0 rfl ?_
  refine U_getR hC fl_X11_19 dX11_goOn_9 hq (fun v1 hq => ?_)
  refine V_dup hC dX11_goOn_12 rfl ?_
  refine U_getI hC fl_X11_194 dX11_goOn_13 hq (fun v2 hq => ?_)
  refine V_iload_n hC dX11_goOn_16 1 rfl ?_
  refine V_iadd hC dX11_goOn_17 ?_
  refine U_putO hC (by decide) fl_X11_194 fin_X6_1 rfl rfl dX11_goOn_18 hq (fun h3 hq => ?_)
  refine V_aload_n hC dX11_goOn_21 0 rfl ?_
  refine U_getR hC fl_X11_19 dX11_goOn_22 hq (fun v4 hq => ?_)
  refine U_getI hC fl_X11_194 dX11_goOn_25 hq (fun v5 hq => ?_)
  exact V_iret hC hQ rfl rfl ⟨by decide, by decide⟩ dX11_goOn_28 ⟨_, rfl, hq⟩
theorem clV_X11_goOn {G : Gx} (hG : GOK G) {Γ : Cx} {own : String} {cc : ByteArray} {nL fr lo mc ms cells slots pc : Nat} {hh : List (Nat × Nat × Nat × Nat)} {h : hw} {L : List (Nat × Value)} {rest : List Value} (hC : COK G Γ own cc nL fr lo mc ms hh) {idx : Nat} (hs : SV own idx yX11_goOn cX11_goOn 2 (some .int) 1) {p0 : Nat} {p1 : Int32} (hR : 7 + 1 ≤ fr ∧ 8 + (2 + 11) + 113 ≤ lo) (hw8 : (rest.map fun v => v.category).sum ≤ 8) (hcs : cells + 1 ≤ mc ∧ slots + 6 ≤ ms) (hdg : decode cc pc = .ok (.invokevirtual idx, 3)) (ho : isO h p0 11) {post : Int32 → hw → Prop} {xp : String → hw → Prop} (hq : wp_X11_goOn G p0 p1 h post xp) (kx : ∀ (E : String) (h1 : hw), xp E h1 → VX G Γ nL (cells + 1) (slots + 6) h1 pc L rest E) (kk : ∀ (r : Int32) (h1 : hw) , post r h1 → V G Γ nL (cells + 1) (slots + 6) h1 (pc + 3) L (.int r :: rest)) : V G Γ nL cells slots h pc L (.int p1 :: .ref p0 :: rest) :=
  V_callV (As := [.int p1]) (r9 := (RX11, TX11, 8)) hC (ct_X11_goOn hG p0 p1 h post xp hq) hs ho rfl rfl rfl hR hw8 hcs hdg (fun E h1 z => kx E h1 z) (fun v h1 z => by obtain ⟨r, rfl, hz⟩ := z; exact kk r h1 hz)
set_option maxRecDepth 100000 in
set_option maxHeartbeats 4000000 in
theorem ct_X11_canPack {G : Gx} (hG : GOK G) (p0 : Nat) (p1 : Int32) (h0 : hw) (post : Int32 → hw → Prop) (xp : String → hw → Prop) (hq : wp_X11_canPack G p0 p1 h0 post xp) : CT G yX11_canPack cX11_canPack 2 (some .boolean) 15 380 1 6 [.ref p0, .int p1] h0 (fun v h1 => ∃ r : Int32, v = some (.int r) ∧ post r h1) (fun E h1 => xp E h1) := by
  refine CT_of hG (by decide) (Nat.le_of_ble_eq_true rfl) (fun Γ hC hQ hN => ?_)
  have hC : COK G Γ "Bandplan" cX11_canPack 2 15 380 1 6 [] := hC
  unfold wp_X11_canPack at hq
  show V G Γ 2 0 0 h0 0 [(0, .ref p0), (1, .int p1)] []
  refine V_aload_n hC dX11_canPack_0 0 rfl ?_
  refine V_iload_n hC dX11_canPack_1 1 rfl ?_
  refine V_iconst (v := 1) hC dX11_canPack_2 (by decide) ?_
  refine V_bipush (v := 8) hC dX11_canPack_3 (by decide) ?_
  obtain ⟨hz, hq⟩ := hq
  refine clV_X11_needRange hG hC sv_X11_70 ⟨by decide, by decide⟩ (Nat.le_of_ble_eq_true rfl) ⟨by decide, by decide⟩ dX11_canPack_5 hz hq (fun E hx => VX_out hC hQ ⟨by decide, by decide⟩ hx) (fun hq => ?_)
  show V G Γ 2 1 6 h0 8 [(0, .ref p0), (1, .int p1)] []
  refine V_aload_n hC dX11_canPack_8 0 rfl ?_
  refine U_getR hC fl_X11_33 dX11_canPack_9 hq (fun v1 hq => ?_)
  refine V_aload_n hC dX11_canPack_12 0 rfl ?_
  refine U_getR hC fl_X11_10 dX11_canPack_13 hq (fun v2 hq => ?_)
  refine V_iload_n hC dX11_canPack_16 1 rfl ?_
  obtain ⟨hz, hq⟩ := hq
  refine clV_X5_prepare hG hC sv_X11_254 ⟨by decide, by decide⟩ (Nat.le_of_ble_eq_true rfl) ⟨by decide, by decide⟩ dX11_canPack_17 hz hq (fun h3 hq => ?_)
  show V G Γ 2 1 6 h3 20 [(0, .ref p0), (1, .int p1)] []
  refine V_aload_n hC dX11_canPack_20 0 rfl ?_
  refine U_getR hC fl_X11_33 dX11_canPack_21 hq (fun v4 hq => ?_)
  refine V_aload_n hC dX11_canPack_24 0 rfl ?_
  refine U_getR hC fl_X11_10 dX11_canPack_25 hq (fun v5 hq => ?_)
  obtain ⟨hz, hq⟩ := hq
  refine clV_X0_protectedOnes hG hC sv_X11_258 ⟨by decide, by decide⟩ (Nat.le_of_ble_eq_true rfl) ⟨by decide, by decide⟩ dX11_canPack_28 hz hq (fun r6 hq => ?_)
  show V G Γ 2 1 6 h3 31 [(0, .ref p0), (1, .int p1)] [.int r6, .ref v4]
  obtain ⟨hz, hq⟩ := hq
  refine clV_X5_findFirst hG hC sv_X11_261 ⟨by decide, by decide⟩ (Nat.le_of_ble_eq_true rfl) ⟨by decide, by decide⟩ dX11_canPack_31 hz hq (fun r7 h8 hq => ?_)
  show V G Γ 2 1 6 h8 34 [(0, .ref p0), (1, .int p1)] [.int r7]
  obtain ⟨hz, hq⟩ := hq
  exact V_iret hC hQ rfl (nar_b hz) ⟨by decide, by decide⟩ dX11_canPack_34 ⟨_, rfl, hq⟩
theorem clV_X11_canPack {G : Gx} (hG : GOK G) {Γ : Cx} {own : String} {cc : ByteArray} {nL fr lo mc ms cells slots pc : Nat} {hh : List (Nat × Nat × Nat × Nat)} {h : hw} {L : List (Nat × Value)} {rest : List Value} (hC : COK G Γ own cc nL fr lo mc ms hh) {idx : Nat} (hs : SV own idx yX11_canPack cX11_canPack 2 (some .boolean) 1) {p0 : Nat} {p1 : Int32} (hR : 15 + 1 ≤ fr ∧ 8 + (2 + 11) + 380 ≤ lo) (hw8 : (rest.map fun v => v.category).sum ≤ 8) (hcs : cells + 1 ≤ mc ∧ slots + 6 ≤ ms) (hdg : decode cc pc = .ok (.invokevirtual idx, 3)) (ho : isO h p0 11) {post : Int32 → hw → Prop} {xp : String → hw → Prop} (hq : wp_X11_canPack G p0 p1 h post xp) (kx : ∀ (E : String) (h1 : hw), xp E h1 → VX G Γ nL (cells + 1) (slots + 6) h1 pc L rest E) (kk : ∀ (r : Int32) (h1 : hw) , post r h1 → V G Γ nL (cells + 1) (slots + 6) h1 (pc + 3) L (.int r :: rest)) : V G Γ nL cells slots h pc L (.int p1 :: .ref p0 :: rest) :=
  V_callV (As := [.int p1]) (r9 := (RX11, TX11, 8)) hC (ct_X11_canPack hG p0 p1 h post xp hq) hs ho rfl rfl rfl hR hw8 hcs hdg (fun E h1 z => kx E h1 z) (fun v h1 z => by obtain ⟨r, rfl, hz⟩ := z; exact kk r h1 hz)
