set_option maxRecDepth 100000 in
set_option maxHeartbeats 4000000 in
theorem ct_X11_bars {G : Gx} (hG : GOK G) (p0 : Nat) (p1 : Int32) (p2 : Int32) (p3 : Int32) (p4 : Int32) (h0 : hw) (post : Int32 → Prop) (xp : String → Prop) (hq : wp_X11_bars G p0 p1 p2 p3 p4 h0 post xp) : CT G yX11_bars cX11_bars 7 (some .boolean) 8 143 4 24 [.ref p0, .int p1, .int p2, .int p3, .int p4] h0 (fun v h1 => ∃ r : Int32, v = some (.int r) ∧ h1 = h0 ∧ post r) (fun E h1 => h1 = h0 ∧ xp E) := by
  refine CT_of hG (by decide) (Nat.le_of_ble_eq_true rfl) (fun Γ hC hQ hN => ?_)
  have hC : COK G Γ "Bandplan" cX11_bars 7 8 143 4 24 [] := hC
  unfold wp_X11_bars at hq
  show V G Γ 7 0 0 h0 0 [(0, .ref p0), (1, .int p1), (2, .int p2), (3, .int p3), (4, .int p4)] []
  refine V_aload_n hC dX11_bars_0 0 rfl ?_
  refine V_iload_n hC dX11_bars_1 1 rfl ?_
  obtain ⟨hz, hq⟩ := hq
  refine clV_X11_stationAt hG hC sv_X11_143 ⟨by decide, by decide⟩ (Nat.le_of_ble_eq_true rfl) ⟨by decide, by decide⟩ dX11_bars_2 hz hq (fun E hx => VX_out hC hQ ⟨by decide, by decide⟩ ⟨rfl, hx⟩) (fun r1 hq => ?_)
  show V G Γ 7 1 6 h0 5 [(0, .ref p0), (1, .int p1), (2, .int p2), (3, .int p3), (4, .int p4)] [.ref r1]
  refine V_astore (L' := [(0, .ref p0), (1, .int p1), (2, .int p2), (3, .int p3), (4, .int p4), (5, .ref r1)]) hC dX11_bars_5 (by decide) [1, 2, 3, 4, 5, 0] rfl ?_
  refine V_aload_n hC dX11_bars_7 0 rfl ?_
  refine V_iload_n hC dX11_bars_8 3 rfl ?_
  obtain ⟨hz, hq⟩ := hq
  refine clV_X11_stationAt hG hC sv_X11_143 ⟨by decide, by decide⟩ (Nat.le_of_ble_eq_true rfl) ⟨by decide, by decide⟩ dX11_bars_9 hz hq (fun E hx => VX_out hC hQ ⟨by decide, by decide⟩ ⟨rfl, hx⟩) (fun r2 hq => ?_)
  show V G Γ 7 2 12 h0 12 [(0, .ref p0), (1, .int p1), (2, .int p2), (3, .int p3), (4, .int p4), (5, .ref r1)] [.ref r2]
  refine V_astore (L' := [(0, .ref p0), (1, .int p1), (2, .int p2), (3, .int p3), (4, .int p4), (5, .ref r1), (6, .ref r2)]) hC dX11_bars_12 (by decide) [1, 2, 3, 4, 5, 6, 0] rfl ?_
  refine V_aload hC dX11_bars_14 5 rfl ?_
  refine V_aload hC dX11_bars_16 6 rfl ?_
  refine U_acmp_ne (tgt := 31) hC dX11_bars_18 (by decide) (fun hc => ?_) (fun hc => ?_)
  · have hq := hq.1 hc
    refine V_aload_n hC dX11_bars_31 0 rfl ?_
    refine V_iload_n hC dX11_bars_32 2 rfl ?_
    obtain ⟨hz, hq⟩ := hq
    refine clV_X11_needChannel hG hC sv_X11_173 ⟨by decide, by decide⟩ (Nat.le_of_ble_eq_true rfl) ⟨by decide, by decide⟩ dX11_bars_33 hz hq (fun E hx => VX_out hC hQ ⟨by decide, by decide⟩ ⟨rfl, hx⟩) (fun hq => ?_)
    show V G Γ 7 3 18 h0 36 [(0, .ref p0), (1, .int p1), (2, .int p2), (3, .int p3), (4, .int p4), (5, .ref r1), (6, .ref r2)] []
    refine V_aload_n hC dX11_bars_36 0 rfl ?_
    refine V_iload hC dX11_bars_37 4 rfl ?_
    obtain ⟨hz, hq⟩ := hq
    refine clV_X11_needChannel hG hC sv_X11_173 ⟨by decide, by decide⟩ (Nat.le_of_ble_eq_true rfl) ⟨by decide, by decide⟩ dX11_bars_39 hz hq (fun E hx => VX_out hC hQ ⟨by decide, by decide⟩ ⟨rfl, hx⟩) (fun hq => ?_)
    show V G Γ 7 4 24 h0 42 [(0, .ref p0), (1, .int p1), (2, .int p2), (3, .int p3), (4, .int p4), (5, .ref r1), (6, .ref r2)] []
    refine V_aload_n hC dX11_bars_42 0 rfl ?_
    refine U_getR hC fl_X11_10 dX11_bars_43 hq (fun v3 hq => ?_)
    refine V_aload hC dX11_bars_46 5 rfl ?_
    refine V_aload hC dX11_bars_48 6 rfl ?_
    refine V_iload_n hC dX11_bars_50 2 rfl ?_
    refine V_iload hC dX11_bars_51 4 rfl ?_
    refine V_isub hC dX11_bars_53 ?_
    refine V_abs hC sm_X11_176 (by decide) (Nat.le_of_ble_eq_true rfl) (by decide) (by decide) dX11_bars_54 ?_
    obtain ⟨hz, hq⟩ := hq
    refine clV_X0_barEachOther hG hC sv_X11_182 ⟨by decide, by decide⟩ (Nat.le_of_ble_eq_true rfl) ⟨by decide, by decide⟩ dX11_bars_57 hz hq (fun r4 hq => ?_)
    show V G Γ 7 4 24 h0 60 [(0, .ref p0), (1, .int p1), (2, .int p2), (3, .int p3), (4, .int p4), (5, .ref r1), (6, .ref r2)] [.int r4]
    obtain ⟨hz, hq⟩ := hq
    exact V_iret hC hQ rfl (nar_b hz) ⟨by decide, by decide⟩ dX11_bars_60 ⟨_, rfl, rfl, hq⟩
  · have hq := hq.2 hc
    exact V_throwS hC hQ hG th_120_171 ⟨by decide, by decide⟩ ⟨by decide, by decide⟩ dX11_bars_21 dX11_bars_24 dX11_bars_25 dX11_bars_27 dX11_bars_30 ⟨rfl, hq⟩
set_option maxRecDepth 100000 in
set_option maxHeartbeats 4000000 in
theorem ct_X11_silenceSecondaries {G : Gx} (hG : GOK G) (p0 : Nat) (p1 : Nat) (h0 : hw) (post : Int32 → hw → Prop) (hq : wp_X11_silenceSecondaries G p0 p1 h0 post) : CT G yX11_silenceSecondaries cX11_silenceSecondaries 6 (some .int) 6 143 0 0 [.ref p0, .ref p1] h0 (fun v h1 => ∃ r : Int32, v = some (.int r) ∧ post r h1) (fun E h1 => False) := by
  refine CT_of hG (by decide) (Nat.le_of_ble_eq_true rfl) (fun Γ hC hQ hN => ?_)
  have hC : COK G Γ "Bandplan" cX11_silenceSecondaries 6 6 143 0 0 [] := hC
  unfold wp_X11_silenceSecondaries at hq
  show V G Γ 6 0 0 h0 0 [(0, .ref p0), (1, .ref p1)] []
  refine V_iconst (v := 0) hC dX11_silenceSecondaries_0 (by decide) ?_
  refine V_istore_n (L' := [(0, .ref p0), (1, .ref p1), (2, .int 0)]) hC dX11_silenceSecondaries_1 rfl (by decide) [1, 2, 0] rfl ?_
  refine V_aload_n hC dX11_silenceSecondaries_2 0 rfl ?_
  refine U_getR hC fl_X11_10 dX11_silenceSecondaries_3 hq (fun v1 hq => ?_)
  refine U_getR hC fl_X11_125 dX11_silenceSecondaries_6 hq (fun v2 hq => ?_)
  obtain ⟨hz, hq⟩ := hq
  refine clV_Jx4a65c_size_8abf5 hG hC sv_X11_91 ⟨by decide, by decide⟩ (Nat.le_of_ble_eq_true rfl) ⟨by decide, by decide⟩ dX11_silenceSecondaries_9 hz hq (fun r3 hq => ?_)
  show V G Γ 6 0 0 h0 12 [(0, .ref p0), (1, .ref p1), (2, .int 0)] [.int r3]
  refine V_iconst (v := 1) hC dX11_silenceSecondaries_12 (by decide) ?_
  refine V_isub hC dX11_silenceSecondaries_13 ?_
  refine V_istore_n (L' := [(0, .ref p0), (1, .ref p1), (2, .int 0), (3, .int (r3 - 1))]) hC dX11_silenceSecondaries_14 rfl (by decide) [1, 2, 3, 0] rfl ?_
  have hq := hq (fun (x2_4 : Int32) (x3_5 : Int32) (h6 : hw) => V G Γ 6 0 0 h6 15 [(0, .ref p0), (1, .ref p1), (2, .int x2_4), (3, .int x3_5)] []) (by
    intro x2_4 x3_5 h6 hq
    show V G Γ 6 0 0 h6 15 [(0, .ref p0), (1, .ref p1), (2, .int x2_4), (3, .int x3_5)] []
    refine V_iload_n hC dX11_silenceSecondaries_15 3 rfl ?_
    refine V_if_lt (tgt := 113) hC dX11_silenceSecondaries_16 (by decide) (fun hc => ?_) (fun hc => ?_)
    · have hq := hq.1 hc
      refine V_iload_n hC dX11_silenceSecondaries_113 2 rfl ?_
      exact V_iret hC hQ rfl rfl ⟨by decide, by decide⟩ dX11_silenceSecondaries_114 ⟨_, rfl, hq⟩
    · have hq := hq.2 hc
      refine V_aload_n hC dX11_silenceSecondaries_19 0 rfl ?_
      refine U_getR hC fl_X11_10 dX11_silenceSecondaries_20 hq (fun v7 hq => ?_)
      refine U_getR hC fl_X11_125 dX11_silenceSecondaries_23 hq (fun v8 hq => ?_)
      refine V_iload_n hC dX11_silenceSecondaries_26 3 rfl ?_
      obtain ⟨hz, hq⟩ := hq
      refine clV_Jx4a65c_get_915e3 hG hC sv_X11_361 ⟨by decide, by decide⟩ (Nat.le_of_ble_eq_true rfl) ⟨by decide, by decide⟩ dX11_silenceSecondaries_27 hz hq (fun r9 hq => ?_)
      show V G Γ 6 0 0 h6 30 [(0, .ref p0), (1, .ref p1), (2, .int x2_4), (3, .int x3_5)] [.ref r9]
      obtain ⟨hz, hq⟩ := hq
      refine V_cast (r9 := (RX10, TX10, 6)) hC aw_3_228 rfl hz dX11_silenceSecondaries_30 ?_
      refine V_astore (L' := [(0, .ref p0), (1, .ref p1), (2, .int x2_4), (3, .int x3_5), (4, .ref r9)]) hC dX11_silenceSecondaries_33 (by decide) [1, 2, 3, 4, 0] rfl ?_
      refine V_aload_n hC dX11_silenceSecondaries_35 0 rfl ?_
      refine U_getR hC fl_X11_63 dX11_silenceSecondaries_36 hq (fun v10 hq => ?_)
      refine V_iload_n hC dX11_silenceSecondaries_39 3 rfl ?_
      obtain ⟨hz, hq⟩ := hq
      refine clV_X7_at hG hC sv_X11_226 ⟨by decide, by decide⟩ (Nat.le_of_ble_eq_true rfl) ⟨by decide, by decide⟩ dX11_silenceSecondaries_40 hz hq (fun r11 hq => ?_)
      show V G Γ 6 0 0 h6 43 [(0, .ref p0), (1, .ref p1), (2, .int x2_4), (3, .int x3_5), (4, .ref r9)] [.int r11]
      refine V_aload_n hC dX11_silenceSecondaries_43 0 rfl ?_
      refine U_getR hC fl_X11_63 dX11_silenceSecondaries_44 hq (fun v12 hq => ?_)
      refine V_aload_n hC dX11_silenceSecondaries_47 1 rfl ?_
      refine U_getI hC fl_X11_232 dX11_silenceSecondaries_48 hq (fun v13 hq => ?_)
      obtain ⟨hz, hq⟩ := hq
      refine clV_X7_at hG hC sv_X11_226 ⟨by decide, by decide⟩ (Nat.le_of_ble_eq_true rfl) ⟨by decide, by decide⟩ dX11_silenceSecondaries_51 hz hq (fun r14 hq => ?_)
      show V G Γ 6 0 0 h6 54 [(0, .ref p0), (1, .ref p1), (2, .int x2_4), (3, .int x3_5), (4, .ref r9)] [.int r14, .int r11]
      refine V_isub hC dX11_silenceSecondaries_54 ?_
      refine V_abs hC sm_X11_176 (by decide) (Nat.le_of_ble_eq_true rfl) (by decide) (by decide) dX11_silenceSecondaries_55 ?_
      refine V_istore (L' := [(0, .ref p0), (1, .ref p1), (2, .int x2_4), (3, .int x3_5), (4, .ref r9), (5, .int (jabs (r11 - r14)))]) hC dX11_silenceSecondaries_58 (by decide) [1, 2, 3, 4, 5, 0] rfl ?_
      refine V_aload hC dX11_silenceSecondaries_60 4 rfl ?_
      refine U_getI hC fl_X11_210 dX11_silenceSecondaries_62 hq (fun v15 hq => ?_)
      have hq := hq (fun (x2_16 : Int32) (h17 : hw) => V G Γ 6 0 0 h17 107 [(0, .ref p0), (1, .ref p1), (2, .int x2_16), (3, .int x3_5)] []) (by
        intro x2_16 h17 hq
        show V G Γ 6 0 0 h17 107 [(0, .ref p0), (1, .ref p1), (2, .int x2_16), (3, .int x3_5)] []
        refine V_iinc (j := 3) (v := (x3_5 + (-1))) (L' := [(0, .ref p0), (1, .ref p1), (2, .int x2_16), (3, .int (x3_5 + (-1)))]) hC dX11_silenceSecondaries_107 rfl rfl (by decide) [1, 2, 3, 0] rfl ?_
        refine V_goto (tgt := 15) hC dX11_silenceSecondaries_110 (by decide) ?_
        exact hq)
      refine V_if_ne (tgt := 107) hC dX11_silenceSecondaries_65 (by decide) (fun hc => ?_) (fun hc => ?_)
      · have hq := hq.1 hc
        refine V_sub [0, 1, 2, 3] rfl ?_
        exact hq
      · have hq := hq.2 hc
        refine V_aload_n hC dX11_silenceSecondaries_68 0 rfl ?_
        refine U_getR hC fl_X11_63 dX11_silenceSecondaries_69 hq (fun v18 hq => ?_)
        refine V_iload_n hC dX11_silenceSecondaries_72 3 rfl ?_
        obtain ⟨hz, hq⟩ := hq
        refine clV_X7_at hG hC sv_X11_226 ⟨by decide, by decide⟩ (Nat.le_of_ble_eq_true rfl) ⟨by decide, by decide⟩ dX11_silenceSecondaries_73 hz hq (fun r19 hq => ?_)
        show V G Γ 6 0 0 h6 76 [(0, .ref p0), (1, .ref p1), (2, .int x2_4), (3, .int x3_5), (4, .ref r9), (5, .int (jabs (r11 - r14)))] [.int r19]
        refine V_iconst (v := (-1)) hC dX11_silenceSecondaries_76 (by decide) ?_
        refine V_icmp_eq (tgt := 107) hC dX11_silenceSecondaries_77 (by decide) (fun hc => ?_) (fun hc => ?_)
        · have hq := hq.1 hc
          refine V_sub [0, 1, 2, 3] rfl ?_
          exact hq
        · have hq := hq.2 hc
          refine V_aload_n hC dX11_silenceSecondaries_80 0 rfl ?_
          refine U_getR hC fl_X11_10 dX11_silenceSecondaries_81 hq (fun v20 hq => ?_)
          refine V_aload_n hC dX11_silenceSecondaries_84 1 rfl ?_
          refine V_aload hC dX11_silenceSecondaries_85 4 rfl ?_
          refine V_iload hC dX11_silenceSecondaries_87 5 rfl ?_
          obtain ⟨hz, hq⟩ := hq
          refine clV_X0_barEachOther hG hC sv_X11_182 ⟨by decide, by decide⟩ (Nat.le_of_ble_eq_true rfl) ⟨by decide, by decide⟩ dX11_silenceSecondaries_89 hz hq (fun r21 hq => ?_)
          show V G Γ 6 0 0 h6 92 [(0, .ref p0), (1, .ref p1), (2, .int x2_4), (3, .int x3_5), (4, .ref r9), (5, .int (jabs (r11 - r14)))] [.int r21]
          refine V_if_eq (tgt := 107) hC dX11_silenceSecondaries_92 (by decide) (fun hc => ?_) (fun hc => ?_)
          · have hq := hq.1 hc
            refine V_sub [0, 1, 2, 3] rfl ?_
            exact hq
          · have hq := hq.2 hc
            refine V_aload_n hC dX11_silenceSecondaries_95 0 rfl ?_
            refine U_getR hC fl_X11_63 dX11_silenceSecondaries_96 hq (fun v22 hq => ?_)
            refine V_iload_n hC dX11_silenceSecondaries_99 3 rfl ?_
            refine V_iconst (v := (-1)) hC dX11_silenceSecondaries_100 (by decide) ?_
            obtain ⟨hz, hq⟩ := hq
            refine clV_X7_put hG hC sv_X11_207 ⟨by decide, by decide⟩ (Nat.le_of_ble_eq_true rfl) ⟨by decide, by decide⟩ dX11_silenceSecondaries_101 hz hq (fun h23 hq => ?_)
            show V G Γ 6 0 0 h23 104 [(0, .ref p0), (1, .ref p1), (2, .int x2_4), (3, .int x3_5), (4, .ref r9), (5, .int (jabs (r11 - r14)))] []
            refine V_iinc (j := 2) (v := (x2_4 + 1)) (L' := [(0, .ref p0), (1, .ref p1), (2, .int (x2_4 + 1)), (3, .int x3_5), (4, .ref r9), (5, .int (jabs (r11 - r14)))]) hC dX11_silenceSecondaries_104 rfl rfl (by decide) [1, 2, 0, 3, 4, 5] rfl ?_
            refine V_sub [0, 1, 2, 3] rfl ?_
            exact hq)
  exact hq
theorem clV_X11_silenceSecondaries {G : Gx} (hG : GOK G) {Γ : Cx} {own : String} {cc : ByteArray} {nL fr lo mc ms cells slots pc : Nat} {hh : List (Nat × Nat × Nat × Nat)} {h : hw} {L : List (Nat × Value)} {rest : List Value} (hC : COK G Γ own cc nL fr lo mc ms hh) {idx : Nat} (hs : SV own idx yX11_silenceSecondaries cX11_silenceSecondaries 6 (some .int) 1) {p0 : Nat} {p1 : Nat} (hR : 6 + 1 ≤ fr ∧ 8 + (6 + 11) + 143 ≤ lo) (hw8 : (rest.map fun v => v.category).sum ≤ 8) (hcs : cells + 0 ≤ mc ∧ slots + 0 ≤ ms) (hdg : decode cc pc = .ok (.invokevirtual idx, 3)) (ho : isO h p0 11) {post : Int32 → hw → Prop} (hq : wp_X11_silenceSecondaries G p0 p1 h post) (kk : ∀ (r : Int32) (h1 : hw) , post r h1 → V G Γ nL (cells + 0) (slots + 0) h1 (pc + 3) L (.int r :: rest)) : V G Γ nL cells slots h pc L (.ref p1 :: .ref p0 :: rest) :=
  V_callV (As := [.ref p1]) (r9 := (RX11, TX11, 8)) hC (ct_X11_silenceSecondaries hG p0 p1 h post hq) hs ho rfl rfl rfl hR hw8 hcs hdg (fun E h1 z => z.elim) (fun v h1 z => by obtain ⟨r, rfl, hz⟩ := z; exact kk r h1 hz)
set_option maxRecDepth 100000 in
set_option maxHeartbeats 4000000 in
theorem ct_X11_putOn {G : Gx} (hG : GOK G) (p0 : Nat) (p1 : Int32) (p2 : Int32) (h0 : hw) (post : Int32 → hw → Prop) (xp : String → hw → Prop) (hq : wp_X11_putOn G p0 p1 p2 h0 post xp) : CT G yX11_putOn cX11_putOn 6 (some .int) 8 170 3 18 [.ref p0, .int p1, .int p2] h0 (fun v h1 => ∃ r : Int32, v = some (.int r) ∧ post r h1) (fun E h1 => xp E h1) := by
  refine CT_of hG (by decide) (Nat.le_of_ble_eq_true rfl) (fun Γ hC hQ hN => ?_)
  have hC : COK G Γ "Bandplan" cX11_putOn 6 8 170 3 18 [] := hC
  unfold wp_X11_putOn at hq
  show V G Γ 6 0 0 h0 0 [(0, .ref p0), (1, .int p1), (2, .int p2)] []
  refine V_aload_n hC dX11_putOn_0 0 rfl ?_
  refine V_iload_n hC dX11_putOn_1 1 rfl ?_
  obtain ⟨hz, hq⟩ := hq
  refine clV_X11_stationAt hG hC sv_X11_143 ⟨by decide, by decide⟩ (Nat.le_of_ble_eq_true rfl) ⟨by decide, by decide⟩ dX11_putOn_2 hz hq (fun E hx => VX_out hC hQ ⟨by decide, by decide⟩ hx) (fun r1 hq => ?_)
  show V G Γ 6 1 6 h0 5 [(0, .ref p0), (1, .int p1), (2, .int p2)] [.ref r1]
  refine V_astore_n (L' := [(0, .ref p0), (1, .int p1), (2, .int p2), (3, .ref r1)]) hC dX11_putOn_5 rfl (by decide) [1, 2, 3, 0] rfl ?_
  refine V_aload_n hC dX11_putOn_6 0 rfl ?_
  refine V_iload_n hC dX11_putOn_7 2 rfl ?_
  obtain ⟨hz, hq⟩ := hq
  refine clV_X11_needChannel hG hC sv_X11_173 ⟨by decide, by decide⟩ (Nat.le_of_ble_eq_true rfl) ⟨by decide, by decide⟩ dX11_putOn_8 hz hq (fun E hx => VX_out hC hQ ⟨by decide, by decide⟩ hx) (fun hq => ?_)
  show V G Γ 6 2 12 h0 11 [(0, .ref p0), (1, .int p1), (2, .int p2), (3, .ref r1)] []
  refine V_aload_n hC dX11_putOn_11 0 rfl ?_
  refine U_getR hC fl_X11_26 dX11_putOn_12 hq (fun v2 hq => ?_)
  refine V_iload_n hC dX11_putOn_15 2 rfl ?_
  obtain ⟨hz, hq⟩ := hq
  refine clV_X1_isForeign hG hC sv_X11_186 ⟨by decide, by decide⟩ (Nat.le_of_ble_eq_true rfl) ⟨by decide, by decide⟩ dX11_putOn_16 hz hq (fun r3 hq => ?_)
  show V G Γ 6 2 12 h0 19 [(0, .ref p0), (1, .int p1), (2, .int p2), (3, .ref r1)] [.int r3]
  have hq := hq (V G Γ 6 2 12 h0 62 [(0, .ref p0), (1, .int p1), (2, .int p2), (3, .ref r1)] []) (by
    intro hq
    show V G Γ 6 2 12 h0 62 [(0, .ref p0), (1, .int p1), (2, .int p2), (3, .ref r1)] []
    refine V_aload_n hC dX11_putOn_62 0 rfl ?_
    refine U_getR hC fl_X11_63 dX11_putOn_63 hq (fun v4 hq => ?_)
    refine V_aload_n hC dX11_putOn_66 0 rfl ?_
    refine U_getR hC fl_X11_19 dX11_putOn_67 hq (fun v5 hq => ?_)
    refine U_getR hC fl_X11_154 dX11_putOn_70 hq (fun v6 hq => ?_)
    obtain ⟨hz, hq⟩ := hq
    refine clV_X7_copyFrom hG hC sv_X11_203 ⟨by decide, by decide⟩ (Nat.le_of_ble_eq_true rfl) ⟨by decide, by decide⟩ dX11_putOn_73 hz hq (fun h7 hq => ?_)
    show V G Γ 6 2 12 h7 76 [(0, .ref p0), (1, .int p1), (2, .int p2), (3, .ref r1)] []
    refine V_aload_n hC dX11_putOn_76 0 rfl ?_
    refine U_getR hC fl_X11_63 dX11_putOn_77 hq (fun v8 hq => ?_)
    refine V_iload_n hC dX11_putOn_80 1 rfl ?_
    refine V_iload_n hC dX11_putOn_81 2 rfl ?_
    obtain ⟨hz, hq⟩ := hq
    refine clV_X7_put hG hC sv_X11_207 ⟨by decide, by decide⟩ (Nat.le_of_ble_eq_true rfl) ⟨by decide, by decide⟩ dX11_putOn_82 hz hq (fun h9 hq => ?_)
    show V G Γ 6 2 12 h9 85 [(0, .ref p0), (1, .int p1), (2, .int p2), (3, .ref r1)] []
    refine V_aload_n hC dX11_putOn_85 3 rfl ?_
    refine U_getI hC fl_X11_210 dX11_putOn_86 hq (fun v10 hq => ?_)
    have hq := hq (fun (t11 : Int32) (h12 : hw) => V G Γ 6 2 12 h12 101 [(0, .ref p0)] [.int t11]) (by
      intro t11 h12 hq
      show V G Γ 6 2 12 h12 101 [(0, .ref p0)] [.int t11]
      refine V_istore (L' := [(0, .ref p0), (4, .int t11)]) hC dX11_putOn_101 (by decide) [1, 0] rfl ?_
      refine V_aload_n hC dX11_putOn_103 0 rfl ?_
      refine U_getR hC fl_X11_10 dX11_putOn_104 hq (fun v13 hq => ?_)
      refine V_aload_n hC dX11_putOn_107 0 rfl ?_
      refine U_getR hC fl_X11_63 dX11_putOn_108 hq (fun v14 hq => ?_)
      obtain ⟨hz, hq⟩ := hq
      refine clV_X0_allKeep hG hC sv_X11_217 ⟨by decide, by decide⟩ (Nat.le_of_ble_eq_true rfl) ⟨by decide, by decide⟩ dX11_putOn_111 hz hq (fun r15 hq => ?_)
      show V G Γ 6 2 12 h12 114 [(0, .ref p0), (4, .int t11)] [.int r15]
      refine V_if_ne (tgt := 127) hC dX11_putOn_114 (by decide) (fun hc => ?_) (fun hc => ?_)
      · have hq := hq.1 hc
        refine V_iconst (v := 0) hC dX11_putOn_127 (by decide) ?_
        refine V_istore (L' := [(0, .ref p0), (4, .int t11), (5, .int 0)]) hC dX11_putOn_128 (by decide) [1, 2, 0] rfl ?_
        have hq := hq (fun (x5_16 : Int32) (h17 : hw) => V G Γ 6 2 12 h17 130 [(0, .ref p0), (4, .int t11), (5, .int x5_16)] []) (by
          intro x5_16 h17 hq
          show V G Γ 6 2 12 h17 130 [(0, .ref p0), (4, .int t11), (5, .int x5_16)] []
          refine V_iload hC dX11_putOn_130 2 rfl ?_
          refine V_aload_n hC dX11_putOn_132 0 rfl ?_
          refine U_getR hC fl_X11_10 dX11_putOn_133 hq (fun v18 hq => ?_)
          refine U_getR hC fl_X11_125 dX11_putOn_136 hq (fun v19 hq => ?_)
          obtain ⟨hz, hq⟩ := hq
          refine clV_Jx4a65c_size_8abf5 hG hC sv_X11_91 ⟨by decide, by decide⟩ (Nat.le_of_ble_eq_true rfl) ⟨by decide, by decide⟩ dX11_putOn_139 hz hq (fun r20 hq => ?_)
          show V G Γ 6 2 12 h17 142 [(0, .ref p0), (4, .int t11), (5, .int x5_16)] [.int r20, .int x5_16]
          refine V_icmp_ge (tgt := 169) hC dX11_putOn_142 (by decide) (fun hc => ?_) (fun hc => ?_)
          · have hq := hq.1 hc
            refine V_iload hC dX11_putOn_169 1 rfl ?_
            exact V_iret hC hQ rfl rfl ⟨by decide, by decide⟩ dX11_putOn_171 ⟨_, rfl, hq⟩
          · have hq := hq.2 hc
            refine V_aload_n hC dX11_putOn_145 0 rfl ?_
            refine U_getR hC fl_X11_19 dX11_putOn_146 hq (fun v21 hq => ?_)
            refine V_iload hC dX11_putOn_149 2 rfl ?_
            refine V_aload_n hC dX11_putOn_151 0 rfl ?_
            refine U_getR hC fl_X11_63 dX11_putOn_152 hq (fun v22 hq => ?_)
            refine V_iload hC dX11_putOn_155 2 rfl ?_
            obtain ⟨hz, hq⟩ := hq
            refine clV_X7_at hG hC sv_X11_226 ⟨by decide, by decide⟩ (Nat.le_of_ble_eq_true rfl) ⟨by decide, by decide⟩ dX11_putOn_157 hz hq (fun r23 hq => ?_)
            show V G Γ 6 2 12 h17 160 [(0, .ref p0), (4, .int t11), (5, .int x5_16)] [.int r23, .int x5_16, .ref v21]
            obtain ⟨hz, hq⟩ := hq
            refine clV_X6_change hG hC sv_X11_229 ⟨by decide, by decide⟩ (Nat.le_of_ble_eq_true rfl) ⟨by decide, by decide⟩ dX11_putOn_160 hz hq (fun h24 hq => ?_)
            show V G Γ 6 2 12 h24 163 [(0, .ref p0), (4, .int t11), (5, .int x5_16)] []
            refine V_iinc (j := 2) (v := (x5_16 + 1)) (L' := [(0, .ref p0), (4, .int t11), (5, .int (x5_16 + 1))]) hC dX11_putOn_163 rfl rfl (by decide) [1, 2, 0] rfl ?_
            refine V_goto (tgt := 130) hC dX11_putOn_166 (by decide) ?_
            exact hq)
        exact hq
      · have hq := hq.2 hc
        exact V_throwS hC hQ hG th_221_223 ⟨by decide, by decide⟩ ⟨by decide, by decide⟩ dX11_putOn_117 dX11_putOn_120 dX11_putOn_121 dX11_putOn_123 dX11_putOn_126 hq)
    refine V_if_eq (tgt := 100) hC dX11_putOn_89 (by decide) (fun hc => ?_) (fun hc => ?_)
    · have hq := hq.1 hc
      refine V_iconst (v := 0) hC dX11_putOn_100 (by decide) ?_
      refine V_sub [0] rfl ?_
      exact hq
    · have hq := hq.2 hc
      refine V_aload_n hC dX11_putOn_92 0 rfl ?_
      refine V_aload_n hC dX11_putOn_93 3 rfl ?_
      obtain ⟨hz, hq⟩ := hq
      refine clV_X11_silenceSecondaries hG hC sv_X11_214 ⟨by decide, by decide⟩ (Nat.le_of_ble_eq_true rfl) ⟨by decide, by decide⟩ dX11_putOn_94 hz hq (fun r25 h26 hq => ?_)
      show V G Γ 6 2 12 h26 97 [(0, .ref p0), (1, .int p1), (2, .int p2), (3, .ref r1)] [.int r25]
      refine V_goto (tgt := 101) hC dX11_putOn_97 (by decide) ?_
      refine V_sub [0] rfl ?_
      exact hq)
  refine V_if_eq (tgt := 62) hC dX11_putOn_19 (by decide) (fun hc => ?_) (fun hc => ?_)
  · have hq := hq.1 hc
    exact hq
  · have hq := hq.2 hc
    refine V_aload_n hC dX11_putOn_22 0 rfl ?_
    refine U_getR hC fl_X11_10 dX11_putOn_23 hq (fun v27 hq => ?_)
    refine V_aload_n hC dX11_putOn_26 3 rfl ?_
    obtain ⟨hz, hq⟩ := hq
    refine clV_X0_isNearBorder hG hC sv_X11_190 ⟨by decide, by decide⟩ (Nat.le_of_ble_eq_true rfl) ⟨by decide, by decide⟩ dX11_putOn_27 hz hq (fun r28 hq => ?_)
    show V G Γ 6 2 12 h0 30 [(0, .ref p0), (1, .int p1), (2, .int p2), (3, .ref r1)] [.int r28]
    refine V_if_eq (tgt := 62) hC dX11_putOn_30 (by decide) (fun hc => ?_) (fun hc => ?_)
    · have hq := hq.1 hc
      exact hq
    · have hq := hq.2 hc
      refine V_aload_n hC dX11_putOn_33 0 rfl ?_
      refine U_getR hC fl_X11_26 dX11_putOn_34 hq (fun v29 hq => ?_)
      refine V_iload_n hC dX11_putOn_37 1 rfl ?_
      refine V_iload_n hC dX11_putOn_38 2 rfl ?_
      refine V_aload_n hC dX11_putOn_39 0 rfl ?_
      refine U_getR hC fl_X11_19 dX11_putOn_40 hq (fun v30 hq => ?_)
      refine U_getI hC fl_X11_194 dX11_putOn_43 hq (fun v31 hq => ?_)
      obtain ⟨hz, hq⟩ := hq
      refine clV_X1_yesCounts hG hC sv_X11_197 ⟨by decide, by decide⟩ (Nat.le_of_ble_eq_true rfl) ⟨by decide, by decide⟩ dX11_putOn_46 hz hq (fun r32 hq => ?_)
      show V G Γ 6 2 12 h0 49 [(0, .ref p0), (1, .int p1), (2, .int p2), (3, .ref r1)] [.int r32]
      refine V_if_ne (tgt := 62) hC dX11_putOn_49 (by decide) (fun hc => ?_) (fun hc => ?_)
      · have hq := hq.1 hc
        exact hq
      · have hq := hq.2 hc
        exact V_throwS hC hQ hG th_97_201 ⟨by decide, by decide⟩ ⟨by decide, by decide⟩ dX11_putOn_52 dX11_putOn_55 dX11_putOn_56 dX11_putOn_58 dX11_putOn_61 hq
set_option maxRecDepth 100000 in
set_option maxHeartbeats 4000000 in
theorem ct_X11_putOff {G : Gx} (hG : GOK G) (p0 : Nat) (p1 : Int32) (h0 : hw) (post : Int32 → hw → Prop) (xp : String → hw → Prop) (hq : wp_X11_putOff G p0 p1 h0 post xp) : CT G yX11_putOff cX11_putOff 4 (some .int) 7 115 1 6 [.ref p0, .int p1] h0 (fun v h1 => ∃ r : Int32, v = some (.int r) ∧ post r h1) (fun E h1 => xp E h1) := by
  refine CT_of hG (by decide) (Nat.le_of_ble_eq_true rfl) (fun Γ hC hQ hN => ?_)
  have hC : COK G Γ "Bandplan" cX11_putOff 4 7 115 1 6 [] := hC
  unfold wp_X11_putOff at hq
  show V G Γ 4 0 0 h0 0 [(0, .ref p0), (1, .int p1)] []
  refine V_aload_n hC dX11_putOff_0 0 rfl ?_
  refine V_iload_n hC dX11_putOff_1 1 rfl ?_
  obtain ⟨hz, hq⟩ := hq
  refine clV_X11_stationAt hG hC sv_X11_143 ⟨by decide, by decide⟩ (Nat.le_of_ble_eq_true rfl) ⟨by decide, by decide⟩ dX11_putOff_2 hz hq (fun E hx => VX_out hC hQ ⟨by decide, by decide⟩ hx) (fun r1 hq => ?_)
  show V G Γ 4 1 6 h0 5 [(0, .ref p0), (1, .int p1)] [.ref r1]
  refine V_astore_n (L' := [(0, .ref p0), (1, .int p1), (2, .ref r1)]) hC dX11_putOff_5 rfl (by decide) [1, 2, 0] rfl ?_
  refine V_aload_n hC dX11_putOff_6 0 rfl ?_
  refine U_getR hC fl_X11_19 dX11_putOff_7 hq (fun v2 hq => ?_)
  refine U_getR hC fl_X11_154 dX11_putOff_10 hq (fun v3 hq => ?_)
  refine V_aload_n hC dX11_putOff_13 2 rfl ?_
  refine U_getI hC fl_X11_232 dX11_putOff_14 hq (fun v4 hq => ?_)
  obtain ⟨hz, hq⟩ := hq
  refine clV_X7_at hG hC sv_X11_226 ⟨by decide, by decide⟩ (Nat.le_of_ble_eq_true rfl) ⟨by decide, by decide⟩ dX11_putOff_17 hz hq (fun r5 hq => ?_)
  show V G Γ 4 1 6 h0 20 [(0, .ref p0), (1, .int p1), (2, .ref r1)] [.int r5]
  refine V_istore_n (L' := [(0, .ref p0), (1, .int p1), (2, .ref r1), (3, .int r5)]) hC dX11_putOff_20 rfl (by decide) [1, 2, 3, 0] rfl ?_
  refine V_aload_n hC dX11_putOff_21 0 rfl ?_
  refine U_getR hC fl_X11_19 dX11_putOff_22 hq (fun v6 hq => ?_)
  refine V_aload_n hC dX11_putOff_25 2 rfl ?_
  refine U_getI hC fl_X11_232 dX11_putOff_26 hq (fun v7 hq => ?_)
  refine V_iconst (v := (-1)) hC dX11_putOff_29 (by decide) ?_
  obtain ⟨hz, hq⟩ := hq
  refine clV_X6_change hG hC sv_X11_229 ⟨by decide, by decide⟩ (Nat.le_of_ble_eq_true rfl) ⟨by decide, by decide⟩ dX11_putOff_30 hz hq (fun h8 hq => ?_)
  show V G Γ 4 1 6 h8 33 [(0, .ref p0), (1, .int p1), (2, .ref r1), (3, .int r5)] []
  refine V_iload_n hC dX11_putOff_33 3 rfl ?_
  exact V_iret hC hQ rfl rfl ⟨by decide, by decide⟩ dX11_putOff_34 ⟨_, rfl, hq⟩
set_option maxRecDepth 100000 in
set_option maxHeartbeats 4000000 in
theorem ct_X11_channelOf {G : Gx} (hG : GOK G) (p0 : Nat) (p1 : Int32) (p2 : Int32) (h0 : hw) (post : Int32 → Prop) (xp : String → Prop) (hq : wp_X11_channelOf G p0 p1 p2 h0 post xp) : CT G yX11_channelOf cX11_channelOf 4 (some .int) 7 115 2 12 [.ref p0, .int p1, .int p2] h0 (fun v h1 => ∃ r : Int32, v = some (.int r) ∧ h1 = h0 ∧ post r) (fun E h1 => h1 = h0 ∧ xp E) := by
  refine CT_of hG (by decide) (Nat.le_of_ble_eq_true rfl) (fun Γ hC hQ hN => ?_)
  have hC : COK G Γ "Bandplan" cX11_channelOf 4 7 115 2 12 [] := hC
  unfold wp_X11_channelOf at hq
  show V G Γ 4 0 0 h0 0 [(0, .ref p0), (1, .int p1), (2, .int p2)] []
  refine V_aload_n hC dX11_channelOf_0 0 rfl ?_
  refine V_iload_n hC dX11_channelOf_1 1 rfl ?_
  obtain ⟨hz, hq⟩ := hq
  refine clV_X11_stationAt hG hC sv_X11_143 ⟨by decide, by decide⟩ (Nat.le_of_ble_eq_true rfl) ⟨by decide, by decide⟩ dX11_channelOf_2 hz hq (fun E hx => VX_out hC hQ ⟨by decide, by decide⟩ ⟨rfl, hx⟩) (fun r1 hq => ?_)
  show V G Γ 4 1 6 h0 5 [(0, .ref p0), (1, .int p1), (2, .int p2)] [.ref r1]
  refine V_astore_n (L' := [(0, .ref p0), (1, .int p1), (2, .int p2), (3, .ref r1)]) hC dX11_channelOf_5 rfl (by decide) [1, 2, 3, 0] rfl ?_
  refine V_aload_n hC dX11_channelOf_6 0 rfl ?_
  refine V_iload_n hC dX11_channelOf_7 2 rfl ?_
  refine V_iconst (v := 0) hC dX11_channelOf_8 (by decide) ?_
  refine V_aload_n hC dX11_channelOf_9 0 rfl ?_
  refine U_getR hC fl_X11_19 dX11_channelOf_10 hq (fun v2 hq => ?_)
  refine U_getI hC fl_X11_194 dX11_channelOf_13 hq (fun v3 hq => ?_)
  obtain ⟨hz, hq⟩ := hq
  refine clV_X11_needRange hG hC sv_X11_70 ⟨by decide, by decide⟩ (Nat.le_of_ble_eq_true rfl) ⟨by decide, by decide⟩ dX11_channelOf_16 hz hq (fun E hx => VX_out hC hQ ⟨by decide, by decide⟩ ⟨rfl, hx⟩) (fun hq => ?_)
  show V G Γ 4 2 12 h0 19 [(0, .ref p0), (1, .int p1), (2, .int p2), (3, .ref r1)] []
  refine V_aload_n hC dX11_channelOf_19 0 rfl ?_
  refine U_getR hC fl_X11_19 dX11_channelOf_20 hq (fun v4 hq => ?_)
  refine V_aload_n hC dX11_channelOf_23 3 rfl ?_
  refine U_getI hC fl_X11_232 dX11_channelOf_24 hq (fun v5 hq => ?_)
  refine V_iload_n hC dX11_channelOf_27 2 rfl ?_
  obtain ⟨hz, hq⟩ := hq
  refine clV_X6_channelAt hG hC sv_X11_235 ⟨by decide, by decide⟩ (Nat.le_of_ble_eq_true rfl) ⟨by decide, by decide⟩ dX11_channelOf_28 hz hq (fun r6 hq => ?_)
  show V G Γ 4 2 12 h0 31 [(0, .ref p0), (1, .int p1), (2, .int p2), (3, .ref r1)] [.int r6]
  exact V_iret hC hQ rfl rfl ⟨by decide, by decide⟩ dX11_channelOf_31 ⟨_, rfl, rfl, hq⟩
set_option maxRecDepth 100000 in
set_option maxHeartbeats 4000000 in
theorem ct_X11_setForeign {G : Gx} (hG : GOK G) (p0 : Nat) (p1 : Int32) (p2 : Int32) (h0 : hw) (post : Int32 → hw → Prop) (xp : String → hw → Prop) (hq : wp_X11_setForeign G p0 p1 p2 h0 post xp) : CT G yX11_setForeign cX11_setForeign 4 (some .boolean) 8 134 1 6 [.ref p0, .int p1, .int p2] h0 (fun v h1 => ∃ r : Int32, v = some (.int r) ∧ post r h1) (fun E h1 => xp E h1) := by
  refine CT_of hG (by decide) (Nat.le_of_ble_eq_true rfl) (fun Γ hC hQ hN => ?_)
  have hC : COK G Γ "Bandplan" cX11_setForeign 4 8 134 1 6 [] := hC
  unfold wp_X11_setForeign at hq
  show V G Γ 4 0 0 h0 0 [(0, .ref p0), (1, .int p1), (2, .int p2)] []
  refine V_aload_n hC dX11_setForeign_0 0 rfl ?_
  refine V_iload_n hC dX11_setForeign_1 1 rfl ?_
  obtain ⟨hz, hq⟩ := hq
  refine clV_X11_needChannel hG hC sv_X11_173 ⟨by decide, by decide⟩ (Nat.le_of_ble_eq_true rfl) ⟨by decide, by decide⟩ dX11_setForeign_2 hz hq (fun E hx => VX_out hC hQ ⟨by decide, by decide⟩ hx) (fun hq => ?_)
  show V G Γ 4 1 6 h0 5 [(0, .ref p0), (1, .int p1), (2, .int p2)] []
  refine V_aload_n hC dX11_setForeign_5 0 rfl ?_
  refine U_getR hC fl_X11_26 dX11_setForeign_6 hq (fun v1 hq => ?_)
  refine V_iload_n hC dX11_setForeign_9 1 rfl ?_
  obtain ⟨hz, hq⟩ := hq
  refine clV_X1_isForeign hG hC sv_X11_186 ⟨by decide, by decide⟩ (Nat.le_of_ble_eq_true rfl) ⟨by decide, by decide⟩ dX11_setForeign_10 hz hq (fun r2 hq => ?_)
  show V G Γ 4 1 6 h0 13 [(0, .ref p0), (1, .int p1), (2, .int p2)] [.int r2]
  refine V_istore_n (L' := [(0, .ref p0), (1, .int p1), (2, .int p2), (3, .int r2)]) hC dX11_setForeign_13 rfl (by decide) [1, 2, 3, 0] rfl ?_
  refine V_aload_n hC dX11_setForeign_14 0 rfl ?_
  refine U_getR hC fl_X11_26 dX11_setForeign_15 hq (fun v3 hq => ?_)
  refine V_iload_n hC dX11_setForeign_18 1 rfl ?_
  refine V_iload_n hC dX11_setForeign_19 2 rfl ?_
  obtain ⟨hz, hq⟩ := hq
  refine clV_X1_makeForeign hG hC sv_X11_238 ⟨by decide, by decide⟩ (Nat.le_of_ble_eq_true rfl) ⟨by decide, by decide⟩ dX11_setForeign_20 hz hq (fun h4 hq => ?_)
  show V G Γ 4 1 6 h4 23 [(0, .ref p0), (1, .int p1), (2, .int p2), (3, .int r2)] []
  refine V_iload_n hC dX11_setForeign_23 3 rfl ?_
  obtain ⟨hz, hq⟩ := hq
  exact V_iret hC hQ rfl (nar_b hz) ⟨by decide, by decide⟩ dX11_setForeign_24 ⟨_, rfl, hq⟩
set_option maxRecDepth 100000 in
set_option maxHeartbeats 4000000 in
theorem ct_X11_askAbroad {G : Gx} (hG : GOK G) (p0 : Nat) (p1 : Int32) (p2 : Int32) (h0 : hw) (post : Int32 → hw → Prop) (xp : String → hw → Prop) (hq : wp_X11_askAbroad G p0 p1 p2 h0 post xp) : CT G yX11_askAbroad cX11_askAbroad 4 (some .int) 8 134 2 12 [.ref p0, .int p1, .int p2] h0 (fun v h1 => ∃ r : Int32, v = some (.int r) ∧ post r h1) (fun E h1 => xp E h1) := by
  refine CT_of hG (by decide) (Nat.le_of_ble_eq_true rfl) (fun Γ hC hQ hN => ?_)
  have hC : COK G Γ "Bandplan" cX11_askAbroad 4 8 134 2 12 [] := hC
  unfold wp_X11_askAbroad at hq
  show V G Γ 4 0 0 h0 0 [(0, .ref p0), (1, .int p1), (2, .int p2)] []
  refine V_aload_n hC dX11_askAbroad_0 0 rfl ?_
  refine V_iload_n hC dX11_askAbroad_1 1 rfl ?_
  obtain ⟨hz, hq⟩ := hq
  refine clV_X11_stationAt hG hC sv_X11_143 ⟨by decide, by decide⟩ (Nat.le_of_ble_eq_true rfl) ⟨by decide, by decide⟩ dX11_askAbroad_2 hz hq (fun E hx => VX_out hC hQ ⟨by decide, by decide⟩ hx) (fun r1 hq => ?_)
  show V G Γ 4 1 6 h0 5 [(0, .ref p0), (1, .int p1), (2, .int p2)] [.ref r1]
  refine V_astore_n (L' := [(0, .ref p0), (1, .int p1), (2, .int p2), (3, .ref r1)]) hC dX11_askAbroad_5 rfl (by decide) [1, 2, 3, 0] rfl ?_
  refine V_aload_n hC dX11_askAbroad_6 0 rfl ?_
  refine V_iload_n hC dX11_askAbroad_7 2 rfl ?_
  obtain ⟨hz, hq⟩ := hq
  refine clV_X11_needChannel hG hC sv_X11_173 ⟨by decide, by decide⟩ (Nat.le_of_ble_eq_true rfl) ⟨by decide, by decide⟩ dX11_askAbroad_8 hz hq (fun E hx => VX_out hC hQ ⟨by decide, by decide⟩ hx) (fun hq => ?_)
  show V G Γ 4 2 12 h0 11 [(0, .ref p0), (1, .int p1), (2, .int p2), (3, .ref r1)] []
  refine V_aload_n hC dX11_askAbroad_11 0 rfl ?_
  refine U_getR hC fl_X11_26 dX11_askAbroad_12 hq (fun v2 hq => ?_)
  refine V_aload_n hC dX11_askAbroad_15 3 rfl ?_
  refine U_getI hC fl_X11_232 dX11_askAbroad_16 hq (fun v3 hq => ?_)
  refine V_iload_n hC dX11_askAbroad_19 2 rfl ?_
  refine V_aload_n hC dX11_askAbroad_20 0 rfl ?_
  refine U_getR hC fl_X11_19 dX11_askAbroad_21 hq (fun v4 hq => ?_)
  refine U_getI hC fl_X11_194 dX11_askAbroad_24 hq (fun v5 hq => ?_)
  obtain ⟨hz, hq⟩ := hq
  refine clV_X1_ask hG hC sv_X11_242 ⟨by decide, by decide⟩ (Nat.le_of_ble_eq_true rfl) ⟨by decide, by decide⟩ dX11_askAbroad_27 hz hq (fun r6 h7 hq => ?_)
  show V G Γ 4 2 12 h7 30 [(0, .ref p0), (1, .int p1), (2, .int p2), (3, .ref r1)] [.int r6]
  exact V_iret hC hQ rfl rfl ⟨by decide, by decide⟩ dX11_askAbroad_30 ⟨_, rfl, hq⟩
set_option maxRecDepth 100000 in
set_option maxHeartbeats 4000000 in
theorem ct_X11_object {G : Gx} (hG : GOK G) (p0 : Nat) (p1 : Int32) (p2 : Int32) (h0 : hw) (post : Int32 → hw → Prop) (xp : String → hw → Prop) (hq : wp_X11_object G p0 p1 p2 h0 post xp) : CT G yX11_object cX11_object 4 (some .boolean) 8 134 3 18 [.ref p0, .int p1, .int p2] h0 (fun v h1 => ∃ r : Int32, v = some (.int r) ∧ post r h1) (fun E h1 => xp E h1) := by
  refine CT_of hG (by decide) (Nat.le_of_ble_eq_true rfl) (fun Γ hC hQ hN => ?_)
  have hC : COK G Γ "Bandplan" cX11_object 4 8 134 3 18 [] := hC
  unfold wp_X11_object at hq
  show V G Γ 4 0 0 h0 0 [(0, .ref p0), (1, .int p1), (2, .int p2)] []
  refine V_aload_n hC dX11_object_0 0 rfl ?_
  refine V_iload_n hC dX11_object_1 1 rfl ?_
  obtain ⟨hz, hq⟩ := hq
  refine clV_X11_stationAt hG hC sv_X11_143 ⟨by decide, by decide⟩ (Nat.le_of_ble_eq_true rfl) ⟨by decide, by decide⟩ dX11_object_2 hz hq (fun E hx => VX_out hC hQ ⟨by decide, by decide⟩ hx) (fun r1 hq => ?_)
  show V G Γ 4 1 6 h0 5 [(0, .ref p0), (1, .int p1), (2, .int p2)] [.ref r1]
  refine V_astore_n (L' := [(0, .ref p0), (1, .int p1), (2, .int p2), (3, .ref r1)]) hC dX11_object_5 rfl (by decide) [1, 2, 3, 0] rfl ?_
  refine V_aload_n hC dX11_object_6 0 rfl ?_
  refine V_iload_n hC dX11_object_7 2 rfl ?_
  obtain ⟨hz, hq⟩ := hq
  refine clV_X11_needChannel hG hC sv_X11_173 ⟨by decide, by decide⟩ (Nat.le_of_ble_eq_true rfl) ⟨by decide, by decide⟩ dX11_object_8 hz hq (fun E hx => VX_out hC hQ ⟨by decide, by decide⟩ hx) (fun hq => ?_)
  show V G Γ 4 2 12 h0 11 [(0, .ref p0), (1, .int p1), (2, .int p2), (3, .ref r1)] []
  refine V_aload_n hC dX11_object_11 0 rfl ?_
  refine U_getR hC fl_X11_26 dX11_object_12 hq (fun v2 hq => ?_)
  refine V_aload_n hC dX11_object_15 3 rfl ?_
  refine U_getI hC fl_X11_232 dX11_object_16 hq (fun v3 hq => ?_)
  refine V_iload_n hC dX11_object_19 2 rfl ?_
  obtain ⟨hz, hq⟩ := hq
  refine clV_X1_wasAsked hG hC sv_X11_245 ⟨by decide, by decide⟩ (Nat.le_of_ble_eq_true rfl) ⟨by decide, by decide⟩ dX11_object_20 hz hq (fun r4 hq => ?_)
  show V G Γ 4 2 12 h0 23 [(0, .ref p0), (1, .int p1), (2, .int p2), (3, .ref r1)] [.int r4]
  refine V_if_ne (tgt := 36) hC dX11_object_23 (by decide) (fun hc => ?_) (fun hc => ?_)
  · have hq := hq.1 hc
    refine V_aload_n hC dX11_object_36 0 rfl ?_
    refine U_getR hC fl_X11_26 dX11_object_37 hq (fun v5 hq => ?_)
    refine V_aload_n hC dX11_object_40 3 rfl ?_
    refine U_getI hC fl_X11_232 dX11_object_41 hq (fun v6 hq => ?_)
    refine V_iload_n hC dX11_object_44 2 rfl ?_
    refine V_aload_n hC dX11_object_45 0 rfl ?_
    refine U_getR hC fl_X11_19 dX11_object_46 hq (fun v7 hq => ?_)
    refine U_getI hC fl_X11_194 dX11_object_49 hq (fun v8 hq => ?_)
    obtain ⟨hz, hq⟩ := hq
    refine clV_X1_protest hG hC sv_X11_251 ⟨by decide, by decide⟩ (Nat.le_of_ble_eq_true rfl) ⟨by decide, by decide⟩ dX11_object_52 hz hq (fun r9 h10 hq => ?_)
    show V G Γ 4 2 12 h10 55 [(0, .ref p0), (1, .int p1), (2, .int p2), (3, .ref r1)] [.int r9]
    obtain ⟨hz, hq⟩ := hq
    exact V_iret hC hQ rfl (nar_b hz) ⟨by decide, by decide⟩ dX11_object_55 ⟨_, rfl, hq⟩
  · have hq := hq.2 hc
    exact V_throwS hC hQ hG th_162_249 ⟨by decide, by decide⟩ ⟨by decide, by decide⟩ dX11_object_26 dX11_object_29 dX11_object_30 dX11_object_32 dX11_object_35 hq
set_option maxRecDepth 100000 in
set_option maxHeartbeats 4000000 in
theorem ct_X11_hasYes {G : Gx} (hG : GOK G) (p0 : Nat) (p1 : Int32) (p2 : Int32) (h0 : hw) (post : Int32 → Prop) (xp : String → Prop) (hq : wp_X11_hasYes G p0 p1 p2 h0 post xp) : CT G yX11_hasYes cX11_hasYes 4 (some .boolean) 8 134 2 12 [.ref p0, .int p1, .int p2] h0 (fun v h1 => ∃ r : Int32, v = some (.int r) ∧ h1 = h0 ∧ post r) (fun E h1 => h1 = h0 ∧ xp E) := by
  refine CT_of hG (by decide) (Nat.le_of_ble_eq_true rfl) (fun Γ hC hQ hN => ?_)
  have hC : COK G Γ "Bandplan" cX11_hasYes 4 8 134 2 12 [] := hC
  unfold wp_X11_hasYes at hq
  show V G Γ 4 0 0 h0 0 [(0, .ref p0), (1, .int p1), (2, .int p2)] []
  refine V_aload_n hC dX11_hasYes_0 0 rfl ?_
  refine V_iload_n hC dX11_hasYes_1 1 rfl ?_
  obtain ⟨hz, hq⟩ := hq
  refine clV_X11_stationAt hG hC sv_X11_143 ⟨by decide, by decide⟩ (Nat.le_of_ble_eq_true rfl) ⟨by decide, by decide⟩ dX11_hasYes_2 hz hq (fun E hx => VX_out hC hQ ⟨by decide, by decide⟩ ⟨rfl, hx⟩) (fun r1 hq => ?_)
  show V G Γ 4 1 6 h0 5 [(0, .ref p0), (1, .int p1), (2, .int p2)] [.ref r1]
  refine V_astore_n (L' := [(0, .ref p0), (1, .int p1), (2, .int p2), (3, .ref r1)]) hC dX11_hasYes_5 rfl (by decide) [1, 2, 3, 0] rfl ?_
  refine V_aload_n hC dX11_hasYes_6 0 rfl ?_
  refine V_iload_n hC dX11_hasYes_7 2 rfl ?_
  obtain ⟨hz, hq⟩ := hq
  refine clV_X11_needChannel hG hC sv_X11_173 ⟨by decide, by decide⟩ (Nat.le_of_ble_eq_true rfl) ⟨by decide, by decide⟩ dX11_hasYes_8 hz hq (fun E hx => VX_out hC hQ ⟨by decide, by decide⟩ ⟨rfl, hx⟩) (fun hq => ?_)
  show V G Γ 4 2 12 h0 11 [(0, .ref p0), (1, .int p1), (2, .int p2), (3, .ref r1)] []
  refine V_aload_n hC dX11_hasYes_11 0 rfl ?_
  refine U_getR hC fl_X11_26 dX11_hasYes_12 hq (fun v2 hq => ?_)
  refine V_aload_n hC dX11_hasYes_15 3 rfl ?_
  refine U_getI hC fl_X11_232 dX11_hasYes_16 hq (fun v3 hq => ?_)
  refine V_iload_n hC dX11_hasYes_19 2 rfl ?_
  refine V_aload_n hC dX11_hasYes_20 0 rfl ?_
  refine U_getR hC fl_X11_19 dX11_hasYes_21 hq (fun v4 hq => ?_)
  refine U_getI hC fl_X11_194 dX11_hasYes_24 hq (fun v5 hq => ?_)
  obtain ⟨hz, hq⟩ := hq
  refine clV_X1_yesCounts hG hC sv_X11_197 ⟨by decide, by decide⟩ (Nat.le_of_ble_eq_true rfl) ⟨by decide, by decide⟩ dX11_hasYes_27 hz hq (fun r6 hq => ?_)
  show V G Γ 4 2 12 h0 30 [(0, .ref p0), (1, .int p1), (2, .int p2), (3, .ref r1)] [.int r6]
  obtain ⟨hz, hq⟩ := hq
  exact V_iret hC hQ rfl (nar_b hz) ⟨by decide, by decide⟩ dX11_hasYes_30 ⟨_, rfl, rfl, hq⟩
set_option maxRecDepth 100000 in
set_option maxHeartbeats 4000000 in
theorem ct_X11_goOn {G : Gx} (hG : GOK G) (p0 : Nat) (p1 : Int32) (h0 : hw) (post : Int32 → hw → Prop) (xp : String → hw → Prop) (hq : wp_X11_goOn G p0 p1 h0 post xp) : CT G yX11_goOn cX11_goOn 2 (some .int) 7 113 1 6 [.ref p0, .int p1] h0 (fun v h1 => ∃ r : Int32, v = some (.int r) ∧ post r h1) (fun E h1 => xp E h1) := by
  refine CT_of hG (by decide) (Nat.le_of_ble_eq_true rfl) (fun Γ hC hQ hN => ?_)
  have hC : COK G Γ "Bandplan" cX11_goOn 2 7 113 1 6 [] := hC
  unfold wp_X11_goOn at hq
  show V G Γ 2 0 0 h0 0 [(0, .ref p0), (1, .int p1)] []
  refine V_aload_n hC dX11_goOn_0 0 rfl ?_
  refine V_iload_n hC dX11_goOn_1 1 rfl ?_
  refine V_iconst (v := 1) hC dX11_goOn_2 (by decide) ?_
  refine V_bipush (v := 99) hC dX11_goOn_3 (by decide) ?_
  obtain ⟨hz, hq⟩ := hq
  refine clV_X11_needRange hG hC sv_X11_70 ⟨by decide, by decide⟩ (Nat.le_of_ble_eq_true rfl) ⟨by decide, by decide⟩ dX11_goOn_5 hz hq (fun E hx => VX_out hC hQ ⟨by decide, by decide⟩ hx) (fun hq => ?_)
  show V G Γ 2 1 6 h0 8 [(0, .ref p0), (1, .int p1)] []
  refine V_aload_n hC dX11_goOn_8 0 rfl ?_
  refine U_getR hC fl_X11_19 dX11_goOn_9 hq (fun v1 hq => ?_)
  refine V_dup hC dX11_goOn_12 rfl ?_
  refine U_getI hC fl_X11_194 dX11_goOn_13 hq (fun v2 hq => ?_)
  refine V_iload_n hC dX11_goOn_16 1 rfl ?_
  refine V_iadd hC dX11_goOn_17 ?_
  refine U_putO hC fl_X11_194 fin_X6_1 rfl rfl dX11_goOn_18 hq (fun h3 hq => ?_)
  refine V_aload_n hC dX11_goOn_21 0 rfl ?_
  refine U_getR hC fl_X11_19 dX11_goOn_22 hq (fun v4 hq => ?_)
  refine U_getI hC fl_X11_194 dX11_goOn_25 hq (fun v5 hq => ?_)
  exact V_iret hC hQ rfl rfl ⟨by decide, by decide⟩ dX11_goOn_28 ⟨_, rfl, hq⟩
set_option maxRecDepth 100000 in
set_option maxHeartbeats 4000000 in
theorem ct_X11_canPack {G : Gx} (hG : GOK G) (p0 : Nat) (p1 : Int32) (h0 : hw) (post : Int32 → hw → Prop) (xp : String → hw → Prop) (hq : wp_X11_canPack G p0 p1 h0 post xp) : CT G yX11_canPack cX11_canPack 2 (some .boolean) 16 394 1 6 [.ref p0, .int p1] h0 (fun v h1 => ∃ r : Int32, v = some (.int r) ∧ post r h1) (fun E h1 => xp E h1) := by
  refine CT_of hG (by decide) (Nat.le_of_ble_eq_true rfl) (fun Γ hC hQ hN => ?_)
  have hC : COK G Γ "Bandplan" cX11_canPack 2 16 394 1 6 [] := hC
  unfold wp_X11_canPack at hq
  show V G Γ 2 0 0 h0 0 [(0, .ref p0), (1, .int p1)] []
  refine V_aload_n hC dX11_canPack_0 0 rfl ?_
  refine V_iload_n hC dX11_canPack_1 1 rfl ?_
  refine V_iconst (v := 1) hC dX11_canPack_2 (by decide) ?_
  refine V_bipush (v := 8) hC dX11_canPack_3 (by decide) ?_
  obtain ⟨hz, hq⟩ := hq
  refine clV_X11_needRange hG hC sv_X11_70 ⟨by decide, by decide⟩ (Nat.le_of_ble_eq_true rfl) ⟨by decide, by decide⟩ dX11_canPack_5 hz hq (fun E hx => VX_out hC hQ ⟨by decide, by decide⟩ hx) (fun hq => ?_)
  show V G Γ 2 1 6 h0 8 [(0, .ref p0), (1, .int p1)] []
  refine V_aload_n hC dX11_canPack_8 0 rfl ?_
  refine U_getR hC fl_X11_33 dX11_canPack_9 hq (fun v1 hq => ?_)
  refine V_aload_n hC dX11_canPack_12 0 rfl ?_
  refine U_getR hC fl_X11_10 dX11_canPack_13 hq (fun v2 hq => ?_)
  refine V_iload_n hC dX11_canPack_16 1 rfl ?_
  obtain ⟨hz, hq⟩ := hq
  refine clV_X5_prepare hG hC sv_X11_254 ⟨by decide, by decide⟩ (Nat.le_of_ble_eq_true rfl) ⟨by decide, by decide⟩ dX11_canPack_17 hz hq (fun h3 hq => ?_)
  show V G Γ 2 1 6 h3 20 [(0, .ref p0), (1, .int p1)] []
  refine V_aload_n hC dX11_canPack_20 0 rfl ?_
  refine U_getR hC fl_X11_33 dX11_canPack_21 hq (fun v4 hq => ?_)
  refine V_aload_n hC dX11_canPack_24 0 rfl ?_
  refine U_getR hC fl_X11_10 dX11_canPack_25 hq (fun v5 hq => ?_)
  obtain ⟨hz, hq⟩ := hq
  refine clV_X0_protectedOnes hG hC sv_X11_258 ⟨by decide, by decide⟩ (Nat.le_of_ble_eq_true rfl) ⟨by decide, by decide⟩ dX11_canPack_28 hz hq (fun r6 hq => ?_)
  show V G Γ 2 1 6 h3 31 [(0, .ref p0), (1, .int p1)] [.int r6, .ref v4]
  obtain ⟨hz, hq⟩ := hq
  refine clV_X5_findFirst hG hC sv_X11_261 ⟨by decide, by decide⟩ (Nat.le_of_ble_eq_true rfl) ⟨by decide, by decide⟩ dX11_canPack_31 hz hq (fun r7 h8 hq => ?_)
  show V G Γ 2 1 6 h8 34 [(0, .ref p0), (1, .int p1)] [.int r7]
  obtain ⟨hz, hq⟩ := hq
  exact V_iret hC hQ rfl (nar_b hz) ⟨by decide, by decide⟩ dX11_canPack_34 ⟨_, rfl, hq⟩
set_option maxRecDepth 100000 in
set_option maxHeartbeats 4000000 in
theorem ct_X11_packed {G : Gx} (hG : GOK G) (p0 : Nat) (p1 : Int32) (p2 : Int32) (h0 : hw) (post : Int32 → hw → Prop) (xp : String → hw → Prop) (hq : wp_X11_packed G p0 p1 p2 h0 post xp) : CT G yX11_packed cX11_packed 4 (some .int) 16 394 3 18 [.ref p0, .int p1, .int p2] h0 (fun v h1 => ∃ r : Int32, v = some (.int r) ∧ post r h1) (fun E h1 => xp E h1) := by
  refine CT_of hG (by decide) (Nat.le_of_ble_eq_true rfl) (fun Γ hC hQ hN => ?_)
  have hC : COK G Γ "Bandplan" cX11_packed 4 16 394 3 18 [] := hC
  unfold wp_X11_packed at hq
  show V G Γ 4 0 0 h0 0 [(0, .ref p0), (1, .int p1), (2, .int p2)] []
  refine V_aload_n hC dX11_packed_0 0 rfl ?_
  refine V_iload_n hC dX11_packed_1 1 rfl ?_
  refine V_iconst (v := 1) hC dX11_packed_2 (by decide) ?_
  refine V_bipush (v := 8) hC dX11_packed_3 (by decide) ?_
  obtain ⟨hz, hq⟩ := hq
  refine clV_X11_needRange hG hC sv_X11_70 ⟨by decide, by decide⟩ (Nat.le_of_ble_eq_true rfl) ⟨by decide, by decide⟩ dX11_packed_5 hz hq (fun E hx => VX_out hC hQ ⟨by decide, by decide⟩ hx) (fun hq => ?_)
  show V G Γ 4 1 6 h0 8 [(0, .ref p0), (1, .int p1), (2, .int p2)] []
  refine V_aload_n hC dX11_packed_8 0 rfl ?_
  refine V_iload_n hC dX11_packed_9 2 rfl ?_
  obtain ⟨hz, hq⟩ := hq
  refine clV_X11_stationAt hG hC sv_X11_143 ⟨by decide, by decide⟩ (Nat.le_of_ble_eq_true rfl) ⟨by decide, by decide⟩ dX11_packed_10 hz hq (fun E hx => VX_out hC hQ ⟨by decide, by decide⟩ hx) (fun r1 hq => ?_)
  show V G Γ 4 2 12 h0 13 [(0, .ref p0), (1, .int p1), (2, .int p2)] [.ref r1]
  refine V_astore_n (L' := [(0, .ref p0), (1, .int p1), (2, .int p2), (3, .ref r1)]) hC dX11_packed_13 rfl (by decide) [1, 2, 3, 0] rfl ?_
  refine V_aload_n hC dX11_packed_14 3 rfl ?_
  refine U_getI hC fl_X11_210 dX11_packed_15 hq (fun v2 hq => ?_)
  refine V_if_ne (tgt := 32) hC dX11_packed_18 (by decide) (fun hc => ?_) (fun hc => ?_)
  · have hq := hq.1 hc
    refine V_aload_n hC dX11_packed_32 0 rfl ?_
    refine U_getR hC fl_X11_33 dX11_packed_33 hq (fun v3 hq => ?_)
    refine V_aload_n hC dX11_packed_36 0 rfl ?_
    refine U_getR hC fl_X11_10 dX11_packed_37 hq (fun v4 hq => ?_)
    refine V_iload_n hC dX11_packed_40 1 rfl ?_
    obtain ⟨hz, hq⟩ := hq
    refine clV_X5_prepare hG hC sv_X11_254 ⟨by decide, by decide⟩ (Nat.le_of_ble_eq_true rfl) ⟨by decide, by decide⟩ dX11_packed_41 hz hq (fun h5 hq => ?_)
    show V G Γ 4 2 12 h5 44 [(0, .ref p0), (1, .int p1), (2, .int p2), (3, .ref r1)] []
    refine V_aload_n hC dX11_packed_44 0 rfl ?_
    refine U_getR hC fl_X11_33 dX11_packed_45 hq (fun v6 hq => ?_)
    refine V_aload_n hC dX11_packed_48 0 rfl ?_
    refine U_getR hC fl_X11_10 dX11_packed_49 hq (fun v7 hq => ?_)
    obtain ⟨hz, hq⟩ := hq
    refine clV_X0_protectedOnes hG hC sv_X11_258 ⟨by decide, by decide⟩ (Nat.le_of_ble_eq_true rfl) ⟨by decide, by decide⟩ dX11_packed_52 hz hq (fun r8 hq => ?_)
    show V G Γ 4 2 12 h5 55 [(0, .ref p0), (1, .int p1), (2, .int p2), (3, .ref r1)] [.int r8, .ref v6]
    obtain ⟨hz, hq⟩ := hq
    refine clV_X5_findFirst hG hC sv_X11_261 ⟨by decide, by decide⟩ (Nat.le_of_ble_eq_true rfl) ⟨by decide, by decide⟩ dX11_packed_55 hz hq (fun r9 h10 hq => ?_)
    show V G Γ 4 2 12 h10 58 [(0, .ref p0), (1, .int p1), (2, .int p2), (3, .ref r1)] [.int r9]
    refine V_if_ne (tgt := 72) hC dX11_packed_58 (by decide) (fun hc => ?_) (fun hc => ?_)
    · have hq := hq.1 hc
      refine V_aload_n hC dX11_packed_72 0 rfl ?_
      refine U_getR hC fl_X11_33 dX11_packed_73 hq (fun v11 hq => ?_)
      refine U_getR hC fl_X11_268 dX11_packed_76 hq (fun v12 hq => ?_)
      refine V_aload_n hC dX11_packed_79 3 rfl ?_
      refine U_getI hC fl_X11_232 dX11_packed_80 hq (fun v13 hq => ?_)
      obtain ⟨hz, hq⟩ := hq
      refine clV_X7_at hG hC sv_X11_226 ⟨by decide, by decide⟩ (Nat.le_of_ble_eq_true rfl) ⟨by decide, by decide⟩ dX11_packed_83 hz hq (fun r14 hq => ?_)
      show V G Γ 4 2 12 h10 86 [(0, .ref p0), (1, .int p1), (2, .int p2), (3, .ref r1)] [.int r14]
      exact V_iret hC hQ rfl rfl ⟨by decide, by decide⟩ dX11_packed_86 ⟨_, rfl, hq⟩
    · have hq := hq.2 hc
      exact V_throwSW hC hQ hG th_162_266 ⟨by decide, by decide⟩ ⟨by decide, by decide⟩ dX11_packed_61 dX11_packed_64 dX11_packed_65 dX11_packed_68 dX11_packed_71 hq
  · have hq := hq.2 hc
    exact V_throwSW hC hQ hG th_221_264 ⟨by decide, by decide⟩ ⟨by decide, by decide⟩ dX11_packed_21 dX11_packed_24 dX11_packed_25 dX11_packed_28 dX11_packed_31 hq
set_option maxRecDepth 100000 in
set_option maxHeartbeats 4000000 in
theorem ct_X11_setAsked {G : Gx} (hG : GOK G) (p0 : Nat) (p1 : Int32) (p2 : Int32) (h0 : hw) (post : Int32 → hw → Prop) (xp : String → hw → Prop) (hq : wp_X11_setAsked G p0 p1 p2 h0 post xp) : CT G yX11_setAsked cX11_setAsked 5 (some .int) 7 115 2 12 [.ref p0, .int p1, .int p2] h0 (fun v h1 => ∃ r : Int32, v = some (.int r) ∧ post r h1) (fun E h1 => xp E h1) := by
  refine CT_of hG (by decide) (Nat.le_of_ble_eq_true rfl) (fun Γ hC hQ hN => ?_)
  have hC : COK G Γ "Bandplan" cX11_setAsked 5 7 115 2 12 [] := hC
  unfold wp_X11_setAsked at hq
  show V G Γ 5 0 0 h0 0 [(0, .ref p0), (1, .int p1), (2, .int p2)] []
  refine V_aload_n hC dX11_setAsked_0 0 rfl ?_
  refine V_iload_n hC dX11_setAsked_1 1 rfl ?_
  obtain ⟨hz, hq⟩ := hq
  refine clV_X11_stationAt hG hC sv_X11_143 ⟨by decide, by decide⟩ (Nat.le_of_ble_eq_true rfl) ⟨by decide, by decide⟩ dX11_setAsked_2 hz hq (fun E hx => VX_out hC hQ ⟨by decide, by decide⟩ hx) (fun r1 hq => ?_)
  show V G Γ 5 1 6 h0 5 [(0, .ref p0), (1, .int p1), (2, .int p2)] [.ref r1]
  refine V_astore_n (L' := [(0, .ref p0), (1, .int p1), (2, .int p2), (3, .ref r1)]) hC dX11_setAsked_5 rfl (by decide) [1, 2, 3, 0] rfl ?_
  refine V_aload_n hC dX11_setAsked_6 0 rfl ?_
  refine V_iload_n hC dX11_setAsked_7 2 rfl ?_
  refine V_iconst (v := 0) hC dX11_setAsked_8 (by decide) ?_
  refine V_sipush (v := 9999) hC dX11_setAsked_9 (by decide) ?_
  obtain ⟨hz, hq⟩ := hq
  refine clV_X11_needRange hG hC sv_X11_70 ⟨by decide, by decide⟩ (Nat.le_of_ble_eq_true rfl) ⟨by decide, by decide⟩ dX11_setAsked_12 hz hq (fun E hx => VX_out hC hQ ⟨by decide, by decide⟩ hx) (fun hq => ?_)
  show V G Γ 5 2 12 h0 15 [(0, .ref p0), (1, .int p1), (2, .int p2), (3, .ref r1)] []
  refine V_aload_n hC dX11_setAsked_15 3 rfl ?_
  refine U_getI hC fl_X11_271 dX11_setAsked_16 hq (fun v2 hq => ?_)
  refine V_istore (L' := [(0, .ref p0), (1, .int p1), (2, .int p2), (3, .ref r1), (4, .int v2)]) hC dX11_setAsked_19 (by decide) [1, 2, 3, 4, 0] rfl ?_
  refine V_aload_n hC dX11_setAsked_21 3 rfl ?_
  refine V_iload_n hC dX11_setAsked_22 2 rfl ?_
  refine U_putO hC fl_X11_271 fin_X10_5 rfl rfl dX11_setAsked_23 hq (fun h3 hq => ?_)
  refine V_iload hC dX11_setAsked_26 4 rfl ?_
  exact V_iret hC hQ rfl rfl ⟨by decide, by decide⟩ dX11_setAsked_28 ⟨_, rfl, hq⟩
set_option maxRecDepth 100000 in
set_option maxHeartbeats 4000000 in
theorem ct_J6_bitCount_0f7a4 {G : Gx} (hG : GOK G) (p0 : Int32) (h0 : hw) (post : Int32 → Prop) (hq : wp_J6_bitCount_0f7a4 G p0 h0 post) : CT G yJ6_bitCount_0f7a4 cJ6_bitCount_0f7a4 1 (some .int) 1 30 0 0 [.int p0] h0 (fun v h1 => ∃ r : Int32, v = some (.int r) ∧ h1 = h0 ∧ post r) (fun E h1 => False) := by
  refine CT_of hG (by decide) (Nat.le_of_ble_eq_true rfl) (fun Γ hC hQ hN => ?_)
  have hC : COK G Γ "java/lang/Integer" cJ6_bitCount_0f7a4 1 1 30 0 0 [] := hC
  unfold wp_J6_bitCount_0f7a4 at hq
  show V G Γ 1 0 0 h0 0 [(0, .int p0)] []
  refine V_iload_n hC dJ6_bitCount_0f7a4_0 0 rfl ?_
  refine V_iload_n hC dJ6_bitCount_0f7a4_1 0 rfl ?_
  refine V_iconst (v := 1) hC dJ6_bitCount_0f7a4_2 (by decide) ?_
  refine V_iushr hC dJ6_bitCount_0f7a4_3 rfl ?_
  refine V_ldcw (v := 1431655765) hC aw_5_106 dJ6_bitCount_0f7a4_4 ?_
  refine V_iand hC dJ6_bitCount_0f7a4_7 ?_
  refine V_isub hC dJ6_bitCount_0f7a4_8 ?_
  refine V_istore_n (L' := [(0, .int (p0 - (((p0).toUInt32 >>> ((1 : Int32).toUInt32 &&& Int32.toUInt32 31)).toInt32 &&& 1431655765)))]) hC dJ6_bitCount_0f7a4_9 rfl (by decide) [0] rfl ?_
  refine V_iload_n hC dJ6_bitCount_0f7a4_10 0 rfl ?_
  refine V_ldcw (v := 858993459) hC aw_5_107 dJ6_bitCount_0f7a4_11 ?_
  refine V_iand hC dJ6_bitCount_0f7a4_14 ?_
  refine V_iload_n hC dJ6_bitCount_0f7a4_15 0 rfl ?_
  refine V_iconst (v := 2) hC dJ6_bitCount_0f7a4_16 (by decide) ?_
  refine V_iushr hC dJ6_bitCount_0f7a4_17 rfl ?_
  refine V_ldcw (v := 858993459) hC aw_5_107 dJ6_bitCount_0f7a4_18 ?_
  refine V_iand hC dJ6_bitCount_0f7a4_21 ?_
  refine V_iadd hC dJ6_bitCount_0f7a4_22 ?_
  refine V_istore_n (L' := [(0, .int (((p0 - (((p0).toUInt32 >>> ((1 : Int32).toUInt32 &&& Int32.toUInt32 31)).toInt32 &&& 1431655765)) &&& 858993459) + ((((p0 - (((p0).toUInt32 >>> ((1 : Int32).toUInt32 &&& Int32.toUInt32 31)).toInt32 &&& 1431655765))).toUInt32 >>> ((2 : Int32).toUInt32 &&& Int32.toUInt32 31)).toInt32 &&& 858993459)))]) hC dJ6_bitCount_0f7a4_23 rfl (by decide) [0] rfl ?_
  refine V_iload_n hC dJ6_bitCount_0f7a4_24 0 rfl ?_
  refine V_iload_n hC dJ6_bitCount_0f7a4_25 0 rfl ?_
  refine V_iconst (v := 4) hC dJ6_bitCount_0f7a4_26 (by decide) ?_
  refine V_iushr hC dJ6_bitCount_0f7a4_27 rfl ?_
  refine V_iadd hC dJ6_bitCount_0f7a4_28 ?_
  refine V_ldcw (v := 252645135) hC aw_5_108 dJ6_bitCount_0f7a4_29 ?_
  refine V_iand hC dJ6_bitCount_0f7a4_32 ?_
  refine V_istore_n (L' := [(0, .int (((((p0 - (((p0).toUInt32 >>> ((1 : Int32).toUInt32 &&& Int32.toUInt32 31)).toInt32 &&& 1431655765)) &&& 858993459) + ((((p0 - (((p0).toUInt32 >>> ((1 : Int32).toUInt32 &&& Int32.toUInt32 31)).toInt32 &&& 1431655765))).toUInt32 >>> ((2 : Int32).toUInt32 &&& Int32.toUInt32 31)).toInt32 &&& 858993459)) + (((((p0 - (((p0).toUInt32 >>> ((1 : Int32).toUInt32 &&& Int32.toUInt32 31)).toInt32 &&& 1431655765)) &&& 858993459) + ((((p0 - (((p0).toUInt32 >>> ((1 : Int32).toUInt32 &&& Int32.toUInt32 31)).toInt32 &&& 1431655765))).toUInt32 >>> ((2 : Int32).toUInt32 &&& Int32.toUInt32 31)).toInt32 &&& 858993459))).toUInt32 >>> ((4 : Int32).toUInt32 &&& Int32.toUInt32 31)).toInt32) &&& 252645135))]) hC dJ6_bitCount_0f7a4_33 rfl (by decide) [0] rfl ?_
  refine V_iload_n hC dJ6_bitCount_0f7a4_34 0 rfl ?_
  refine V_iload_n hC dJ6_bitCount_0f7a4_35 0 rfl ?_
  refine V_bipush (v := 8) hC dJ6_bitCount_0f7a4_36 (by decide) ?_
  refine V_iushr hC dJ6_bitCount_0f7a4_38 rfl ?_
  refine V_iadd hC dJ6_bitCount_0f7a4_39 ?_
  refine V_istore_n (L' := [(0, .int ((((((p0 - (((p0).toUInt32 >>> ((1 : Int32).toUInt32 &&& Int32.toUInt32 31)).toInt32 &&& 1431655765)) &&& 858993459) + ((((p0 - (((p0).toUInt32 >>> ((1 : Int32).toUInt32 &&& Int32.toUInt32 31)).toInt32 &&& 1431655765))).toUInt32 >>> ((2 : Int32).toUInt32 &&& Int32.toUInt32 31)).toInt32 &&& 858993459)) + (((((p0 - (((p0).toUInt32 >>> ((1 : Int32).toUInt32 &&& Int32.toUInt32 31)).toInt32 &&& 1431655765)) &&& 858993459) + ((((p0 - (((p0).toUInt32 >>> ((1 : Int32).toUInt32 &&& Int32.toUInt32 31)).toInt32 &&& 1431655765))).toUInt32 >>> ((2 : Int32).toUInt32 &&& Int32.toUInt32 31)).toInt32 &&& 858993459))).toUInt32 >>> ((4 : Int32).toUInt32 &&& Int32.toUInt32 31)).toInt32) &&& 252645135) + (((((((p0 - (((p0).toUInt32 >>> ((1 : Int32).toUInt32 &&& Int32.toUInt32 31)).toInt32 &&& 1431655765)) &&& 858993459) + ((((p0 - (((p0).toUInt32 >>> ((1 : Int32).toUInt32 &&& Int32.toUInt32 31)).toInt32 &&& 1431655765))).toUInt32 >>> ((2 : Int32).toUInt32 &&& Int32.toUInt32 31)).toInt32 &&& 858993459)) + (((((p0 - (((p0).toUInt32 >>> ((1 : Int32).toUInt32 &&& Int32.toUInt32 31)).toInt32 &&& 1431655765)) &&& 858993459) + ((((p0 - (((p0).toUInt32 >>> ((1 : Int32).toUInt32 &&& Int32.toUInt32 31)).toInt32 &&& 1431655765))).toUInt32 >>> ((2 : Int32).toUInt32 &&& Int32.toUInt32 31)).toInt32 &&& 858993459))).toUInt32 >>> ((4 : Int32).toUInt32 &&& Int32.toUInt32 31)).toInt32) &&& 252645135)).toUInt32 >>> ((8 : Int32).toUInt32 &&& Int32.toUInt32 31)).toInt32))]) hC dJ6_bitCount_0f7a4_40 rfl (by decide) [0] rfl ?_
  refine V_iload_n hC dJ6_bitCount_0f7a4_41 0 rfl ?_
  refine V_iload_n hC dJ6_bitCount_0f7a4_42 0 rfl ?_
  refine V_bipush (v := 16) hC dJ6_bitCount_0f7a4_43 (by decide) ?_
  refine V_iushr hC dJ6_bitCount_0f7a4_45 rfl ?_
  refine V_iadd hC dJ6_bitCount_0f7a4_46 ?_
  refine V_istore_n (L' := [(0, .int (((((((p0 - (((p0).toUInt32 >>> ((1 : Int32).toUInt32 &&& Int32.toUInt32 31)).toInt32 &&& 1431655765)) &&& 858993459) + ((((p0 - (((p0).toUInt32 >>> ((1 : Int32).toUInt32 &&& Int32.toUInt32 31)).toInt32 &&& 1431655765))).toUInt32 >>> ((2 : Int32).toUInt32 &&& Int32.toUInt32 31)).toInt32 &&& 858993459)) + (((((p0 - (((p0).toUInt32 >>> ((1 : Int32).toUInt32 &&& Int32.toUInt32 31)).toInt32 &&& 1431655765)) &&& 858993459) + ((((p0 - (((p0).toUInt32 >>> ((1 : Int32).toUInt32 &&& Int32.toUInt32 31)).toInt32 &&& 1431655765))).toUInt32 >>> ((2 : Int32).toUInt32 &&& Int32.toUInt32 31)).toInt32 &&& 858993459))).toUInt32 >>> ((4 : Int32).toUInt32 &&& Int32.toUInt32 31)).toInt32) &&& 252645135) + (((((((p0 - (((p0).toUInt32 >>> ((1 : Int32).toUInt32 &&& Int32.toUInt32 31)).toInt32 &&& 1431655765)) &&& 858993459) + ((((p0 - (((p0).toUInt32 >>> ((1 : Int32).toUInt32 &&& Int32.toUInt32 31)).toInt32 &&& 1431655765))).toUInt32 >>> ((2 : Int32).toUInt32 &&& Int32.toUInt32 31)).toInt32 &&& 858993459)) + (((((p0 - (((p0).toUInt32 >>> ((1 : Int32).toUInt32 &&& Int32.toUInt32 31)).toInt32 &&& 1431655765)) &&& 858993459) + ((((p0 - (((p0).toUInt32 >>> ((1 : Int32).toUInt32 &&& Int32.toUInt32 31)).toInt32 &&& 1431655765))).toUInt32 >>> ((2 : Int32).toUInt32 &&& Int32.toUInt32 31)).toInt32 &&& 858993459))).toUInt32 >>> ((4 : Int32).toUInt32 &&& Int32.toUInt32 31)).toInt32) &&& 252645135)).toUInt32 >>> ((8 : Int32).toUInt32 &&& Int32.toUInt32 31)).toInt32) + ((((((((p0 - (((p0).toUInt32 >>> ((1 : Int32).toUInt32 &&& Int32.toUInt32 31)).toInt32 &&& 1431655765)) &&& 858993459) + ((((p0 - (((p0).toUInt32 >>> ((1 : Int32).toUInt32 &&& Int32.toUInt32 31)).toInt32 &&& 1431655765))).toUInt32 >>> ((2 : Int32).toUInt32 &&& Int32.toUInt32 31)).toInt32 &&& 858993459)) + (((((p0 - (((p0).toUInt32 >>> ((1 : Int32).toUInt32 &&& Int32.toUInt32 31)).toInt32 &&& 1431655765)) &&& 858993459) + ((((p0 - (((p0).toUInt32 >>> ((1 : Int32).toUInt32 &&& Int32.toUInt32 31)).toInt32 &&& 1431655765))).toUInt32 >>> ((2 : Int32).toUInt32 &&& Int32.toUInt32 31)).toInt32 &&& 858993459))).toUInt32 >>> ((4 : Int32).toUInt32 &&& Int32.toUInt32 31)).toInt32) &&& 252645135) + (((((((p0 - (((p0).toUInt32 >>> ((1 : Int32).toUInt32 &&& Int32.toUInt32 31)).toInt32 &&& 1431655765)) &&& 858993459) + ((((p0 - (((p0).toUInt32 >>> ((1 : Int32).toUInt32 &&& Int32.toUInt32 31)).toInt32 &&& 1431655765))).toUInt32 >>> ((2 : Int32).toUInt32 &&& Int32.toUInt32 31)).toInt32 &&& 858993459)) + (((((p0 - (((p0).toUInt32 >>> ((1 : Int32).toUInt32 &&& Int32.toUInt32 31)).toInt32 &&& 1431655765)) &&& 858993459) + ((((p0 - (((p0).toUInt32 >>> ((1 : Int32).toUInt32 &&& Int32.toUInt32 31)).toInt32 &&& 1431655765))).toUInt32 >>> ((2 : Int32).toUInt32 &&& Int32.toUInt32 31)).toInt32 &&& 858993459))).toUInt32 >>> ((4 : Int32).toUInt32 &&& Int32.toUInt32 31)).toInt32) &&& 252645135)).toUInt32 >>> ((8 : Int32).toUInt32 &&& Int32.toUInt32 31)).toInt32)).toUInt32 >>> ((16 : Int32).toUInt32 &&& Int32.toUInt32 31)).toInt32))]) hC dJ6_bitCount_0f7a4_47 rfl (by decide) [0] rfl ?_
  refine V_iload_n hC dJ6_bitCount_0f7a4_48 0 rfl ?_
  refine V_bipush (v := 63) hC dJ6_bitCount_0f7a4_49 (by decide) ?_
  refine V_iand hC dJ6_bitCount_0f7a4_51 ?_
  exact V_iret hC hQ rfl rfl ⟨by decide, by decide⟩ dJ6_bitCount_0f7a4_52 ⟨_, rfl, rfl, hq⟩
theorem clS_J6_bitCount_0f7a4 {G : Gx} (hG : GOK G) {Γ : Cx} {own : String} {cc : ByteArray} {nL fr lo mc ms cells slots pc : Nat} {hh : List (Nat × Nat × Nat × Nat)} {h : hw} {L : List (Nat × Value)} {rest : List Value} (hC : COK G Γ own cc nL fr lo mc ms hh) {idx : Nat} (hs : SS own idx yJ6_bitCount_0f7a4 cJ6_bitCount_0f7a4 1 (some .int) 1) {p0 : Int32} (hR : 1 + 1 ≤ fr ∧ 8 + (1 + 11) + 30 ≤ lo) (hw8 : (rest.map fun v => v.category).sum ≤ 8) (hcs : cells + 0 ≤ mc ∧ slots + 0 ≤ ms) (hdg : decode cc pc = .ok (.invokestatic idx, 3)) {post : Int32 → Prop} (hq : wp_J6_bitCount_0f7a4 G p0 h post) (kk : ∀ (r : Int32) , post r → V G Γ nL (cells + 0) (slots + 0) h (pc + 3) L (.int r :: rest)) : V G Γ nL cells slots h pc L (.int p0 :: rest) :=
  V_callS (As := [.int p0]) hC (ct_J6_bitCount_0f7a4 hG p0 h post hq) hs rfl hR hw8 hcs hdg (fun E h1 z => z.elim) (fun v h1 z => by obtain ⟨r, rfl, rfl, hz⟩ := z; exact kk r hz)
set_option maxRecDepth 100000 in
set_option maxHeartbeats 4000000 in
theorem ct_X11_sell {G : Gx} (hG : GOK G) (p0 : Nat) (p1 : Int32) (p2 : Int32) (p3 : Int32) (h0 : hw) (post : Int32 → hw → Prop) (xp : String → hw → Prop) (hq : wp_X11_sell G p0 p1 p2 p3 h0 post xp) : CT G yX11_sell cX11_sell 8 (some .int) 19 472 4 24 [.ref p0, .int p1, .int p2, .int p3] h0 (fun v h1 => ∃ r : Int32, v = some (.int r) ∧ post r h1) (fun E h1 => xp E h1) := by
  refine CT_of hG (by decide) (Nat.le_of_ble_eq_true rfl) (fun Γ hC hQ hN => ?_)
  have hC : COK G Γ "Bandplan" cX11_sell 8 19 472 4 24 [] := hC
  unfold wp_X11_sell at hq
  show V G Γ 8 0 0 h0 0 [(0, .ref p0), (1, .int p1), (2, .int p2), (3, .int p3)] []
  refine V_aload_n hC dX11_sell_0 0 rfl ?_
  refine V_iload_n hC dX11_sell_1 1 rfl ?_
  refine V_iconst (v := 1) hC dX11_sell_2 (by decide) ?_
  refine V_sipush (v := 9999) hC dX11_sell_3 (by decide) ?_
  obtain ⟨hz, hq⟩ := hq
  refine clV_X11_needRange hG hC sv_X11_70 ⟨by decide, by decide⟩ (Nat.le_of_ble_eq_true rfl) ⟨by decide, by decide⟩ dX11_sell_6 hz hq (fun E hx => VX_out hC hQ ⟨by decide, by decide⟩ hx) (fun hq => ?_)
  show V G Γ 8 1 6 h0 9 [(0, .ref p0), (1, .int p1), (2, .int p2), (3, .int p3)] []
  refine V_aload_n hC dX11_sell_9 0 rfl ?_
  refine V_iload_n hC dX11_sell_10 2 rfl ?_
  refine V_iconst (v := 1) hC dX11_sell_11 (by decide) ?_
  refine V_sipush (v := 999) hC dX11_sell_12 (by decide) ?_
  obtain ⟨hz, hq⟩ := hq
  refine clV_X11_needRange hG hC sv_X11_70 ⟨by decide, by decide⟩ (Nat.le_of_ble_eq_true rfl) ⟨by decide, by decide⟩ dX11_sell_15 hz hq (fun E hx => VX_out hC hQ ⟨by decide, by decide⟩ hx) (fun hq => ?_)
  show V G Γ 8 2 12 h0 18 [(0, .ref p0), (1, .int p1), (2, .int p2), (3, .int p3)] []
  refine V_aload_n hC dX11_sell_18 0 rfl ?_
  refine V_iload_n hC dX11_sell_19 3 rfl ?_
  refine V_iconst (v := 1) hC dX11_sell_20 (by decide) ?_
  refine V_bipush (v := 8) hC dX11_sell_21 (by decide) ?_
  obtain ⟨hz, hq⟩ := hq
  refine clV_X11_needRange hG hC sv_X11_70 ⟨by decide, by decide⟩ (Nat.le_of_ble_eq_true rfl) ⟨by decide, by decide⟩ dX11_sell_23 hz hq (fun E hx => VX_out hC hQ ⟨by decide, by decide⟩ hx) (fun hq => ?_)
  show V G Γ 8 3 18 h0 26 [(0, .ref p0), (1, .int p1), (2, .int p2), (3, .int p3)] []
  refine V_aload_n hC dX11_sell_26 0 rfl ?_
  refine U_getR hC fl_X11_10 dX11_sell_27 hq (fun v1 hq => ?_)
  obtain ⟨hz, hq⟩ := hq
  refine clV_X0_protectedOnes hG hC sv_X11_258 ⟨by decide, by decide⟩ (Nat.le_of_ble_eq_true rfl) ⟨by decide, by decide⟩ dX11_sell_30 hz hq (fun r2 hq => ?_)
  show V G Γ 8 3 18 h0 33 [(0, .ref p0), (1, .int p1), (2, .int p2), (3, .int p3)] [.int r2]
  refine V_aload_n hC dX11_sell_33 0 rfl ?_
  refine U_getR hC fl_X11_19 dX11_sell_34 hq (fun v3 hq => ?_)
  obtain ⟨hz, hq⟩ := hq
  refine clV_X6_onesOn hG hC sv_X11_274 ⟨by decide, by decide⟩ (Nat.le_of_ble_eq_true rfl) ⟨by decide, by decide⟩ dX11_sell_37 hz hq (fun r4 hq => ?_)
  show V G Γ 8 3 18 h0 40 [(0, .ref p0), (1, .int p1), (2, .int p2), (3, .int p3)] [.int r4, .int r2]
  refine V_iand hC dX11_sell_40 ?_
  refine V_istore (L' := [(0, .ref p0), (1, .int p1), (2, .int p2), (3, .int p3), (4, .int (r2 &&& r4))]) hC dX11_sell_41 (by decide) [1, 2, 3, 4, 0] rfl ?_
  refine V_iload hC dX11_sell_43 4 rfl ?_
  refine V_if_ne (tgt := 59) hC dX11_sell_45 (by decide) (fun hc => ?_) (fun hc => ?_)
  · have hq := hq.1 hc
    refine V_aload_n hC dX11_sell_59 0 rfl ?_
    refine U_getR hC fl_X11_33 dX11_sell_60 hq (fun v5 hq => ?_)
    refine V_aload_n hC dX11_sell_63 0 rfl ?_
    refine U_getR hC fl_X11_10 dX11_sell_64 hq (fun v6 hq => ?_)
    refine V_iload_n hC dX11_sell_67 3 rfl ?_
    obtain ⟨hz, hq⟩ := hq
    refine clV_X5_prepare hG hC sv_X11_254 ⟨by decide, by decide⟩ (Nat.le_of_ble_eq_true rfl) ⟨by decide, by decide⟩ dX11_sell_68 hz hq (fun h7 hq => ?_)
    show V G Γ 8 3 18 h7 71 [(0, .ref p0), (1, .int p1), (2, .int p2), (3, .int p3), (4, .int (r2 &&& r4))] []
    refine V_iload hC dX11_sell_71 4 rfl ?_
    refine V_aload_n hC dX11_sell_73 0 rfl ?_
    refine U_getR hC fl_X11_10 dX11_sell_74 hq (fun v8 hq => ?_)
    refine V_iload_n hC dX11_sell_77 1 rfl ?_
    obtain ⟨hz, hq⟩ := hq
    refine clV_X0_askingMoreThan hG hC sv_X11_279 ⟨by decide, by decide⟩ (Nat.le_of_ble_eq_true rfl) ⟨by decide, by decide⟩ dX11_sell_78 hz hq (fun r9 hq => ?_)
    show V G Γ 8 3 18 h7 81 [(0, .ref p0), (1, .int p1), (2, .int p2), (3, .int p3), (4, .int (r2 &&& r4))] [.int r9, .int (r2 &&& r4)]
    refine V_iand hC dX11_sell_81 ?_
    refine V_istore (L' := [(0, .ref p0), (1, .int p1), (2, .int p2), (3, .int p3), (4, .int (r2 &&& r4)), (5, .int ((r2 &&& r4) &&& r9))]) hC dX11_sell_82 (by decide) [1, 2, 3, 4, 5, 0] rfl ?_
    refine V_aload_n hC dX11_sell_84 0 rfl ?_
    refine U_getR hC fl_X11_33 dX11_sell_85 hq (fun v10 hq => ?_)
    refine V_iload hC dX11_sell_88 5 rfl ?_
    obtain ⟨hz, hq⟩ := hq
    refine clV_X5_fits hG hC sv_X11_282 ⟨by decide, by decide⟩ (Nat.le_of_ble_eq_true rfl) ⟨by decide, by decide⟩ dX11_sell_90 hz hq (fun r11 h12 hq => ?_)
    show V G Γ 8 3 18 h12 93 [(0, .ref p0), (1, .int p1), (2, .int p2), (3, .int p3), (4, .int (r2 &&& r4)), (5, .int ((r2 &&& r4) &&& r9))] [.int r11]
    refine V_if_ne (tgt := 107) hC dX11_sell_93 (by decide) (fun hc => ?_) (fun hc => ?_)
    · have hq := hq.1 hc
      refine V_aload_n hC dX11_sell_107 0 rfl ?_
      refine U_getR hC fl_X11_40 dX11_sell_108 hq (fun v13 hq => ?_)
      refine V_iload_n hC dX11_sell_111 3 rfl ?_
      refine V_iload hC dX11_sell_112 5 rfl ?_
      obtain ⟨hz, hq⟩ := hq
      refine clV_X8_begin hG hC sv_X11_287 ⟨by decide, by decide⟩ (Nat.le_of_ble_eq_true rfl) ⟨by decide, by decide⟩ dX11_sell_114 hz hq (fun h14 hq => ?_)
      show V G Γ 8 3 18 h14 117 [(0, .ref p0), (1, .int p1), (2, .int p2), (3, .int p3), (4, .int (r2 &&& r4)), (5, .int ((r2 &&& r4) &&& r9))] []
      refine V_aload_n hC dX11_sell_117 0 rfl ?_
      refine U_getR hC fl_X11_40 dX11_sell_118 hq (fun v15 hq => ?_)
      refine V_aload_n hC dX11_sell_121 0 rfl ?_
      refine U_getR hC fl_X11_10 dX11_sell_122 hq (fun v16 hq => ?_)
      refine V_aload_n hC dX11_sell_125 0 rfl ?_
      refine U_getR hC fl_X11_33 dX11_sell_126 hq (fun v17 hq => ?_)
      refine V_iload hC dX11_sell_129 4 rfl ?_
      refine V_iload hC dX11_sell_131 5 rfl ?_
      refine V_iconst (v := (-1)) hC dX11_sell_133 (by decide) ?_
      refine V_ixor hC dX11_sell_134 ?_
      refine V_iand hC dX11_sell_135 ?_
      refine V_iload_n hC dX11_sell_136 1 rfl ?_
      refine V_iload_n hC dX11_sell_137 2 rfl ?_
      obtain ⟨hz, hq⟩ := hq
      refine clV_X8_run hG hC sv_X11_290 ⟨by decide, by decide⟩ (Nat.le_of_ble_eq_true rfl) ⟨by decide, by decide⟩ dX11_sell_138 hz hq (fun r18 h19 hq => ?_)
      show V G Γ 8 3 18 h19 141 [(0, .ref p0), (1, .int p1), (2, .int p2), (3, .int p3), (4, .int (r2 &&& r4)), (5, .int ((r2 &&& r4) &&& r9))] [.int r18]
      refine V_istore (L' := [(0, .ref p0), (1, .int p1), (2, .int p2), (3, .int p3), (4, .int (r2 &&& r4)), (5, .int ((r2 &&& r4) &&& r9)), (6, .int r18)]) hC dX11_sell_141 (by decide) [1, 2, 3, 4, 5, 6, 0] rfl ?_
      refine V_iconst (v := 0) hC dX11_sell_143 (by decide) ?_
      refine V_istore (L' := [(0, .ref p0), (1, .int p1), (2, .int p2), (3, .int p3), (4, .int (r2 &&& r4)), (5, .int ((r2 &&& r4) &&& r9)), (6, .int r18), (7, .int 0)]) hC dX11_sell_144 (by decide) [1, 2, 3, 4, 5, 6, 7, 0] rfl ?_
      have hq := hq (fun (x7_20 : Int32) (h21 : hw) => V G Γ 8 3 18 h21 146 [(0, .ref p0), (6, .int r18), (7, .int x7_20)] []) (by
        intro x7_20 h21 hq
        show V G Γ 8 3 18 h21 146 [(0, .ref p0), (6, .int r18), (7, .int x7_20)] []
        refine V_iload hC dX11_sell_146 2 rfl ?_
        refine V_aload_n hC dX11_sell_148 0 rfl ?_
        refine U_getR hC fl_X11_10 dX11_sell_149 hq (fun v22 hq => ?_)
        refine U_getR hC fl_X11_125 dX11_sell_152 hq (fun v23 hq => ?_)
        obtain ⟨hz, hq⟩ := hq
        refine clV_Jx4a65c_size_8abf5 hG hC sv_X11_91 ⟨by decide, by decide⟩ (Nat.le_of_ble_eq_true rfl) ⟨by decide, by decide⟩ dX11_sell_155 hz hq (fun r24 hq => ?_)
        show V G Γ 8 3 18 h21 158 [(0, .ref p0), (6, .int r18), (7, .int x7_20)] [.int r24, .int x7_20]
        refine V_icmp_ge (tgt := 187) hC dX11_sell_158 (by decide) (fun hc => ?_) (fun hc => ?_)
        · have hq := hq.1 hc
          refine V_iload hC dX11_sell_187 1 rfl ?_
          refine clS_J6_bitCount_0f7a4 hG hC ss_X11_297 ⟨by decide, by decide⟩ (Nat.le_of_ble_eq_true rfl) ⟨by decide, by decide⟩ dX11_sell_189 hq (fun r25 hq => ?_)
          show V G Γ 8 3 18 h21 192 [(0, .ref p0), (6, .int r18), (7, .int x7_20)] [.int r25]
          exact V_iret hC hQ rfl rfl ⟨by decide, by decide⟩ dX11_sell_192 ⟨_, rfl, hq⟩
        · have hq := hq.2 hc
          refine V_iload hC dX11_sell_161 2 rfl ?_
          refine V_iload hC dX11_sell_163 1 rfl ?_
          refine clS_X11_isIn hG hC ss_X11_294 ⟨by decide, by decide⟩ (Nat.le_of_ble_eq_true rfl) ⟨by decide, by decide⟩ dX11_sell_165 hq (fun r26 hq => ?_)
          show V G Γ 8 3 18 h21 168 [(0, .ref p0), (6, .int r18), (7, .int x7_20)] [.int r26]
          have hq := hq (fun (h27 : hw) => V G Γ 8 3 18 h27 181 [(0, .ref p0), (6, .int r18), (7, .int x7_20)] []) (by
            intro h27 hq
            show V G Γ 8 3 18 h27 181 [(0, .ref p0), (6, .int r18), (7, .int x7_20)] []
            refine V_iinc (j := 2) (v := (x7_20 + 1)) (L' := [(0, .ref p0), (6, .int r18), (7, .int (x7_20 + 1))]) hC dX11_sell_181 rfl rfl (by decide) [1, 2, 0] rfl ?_
            refine V_goto (tgt := 146) hC dX11_sell_184 (by decide) ?_
            exact hq)
          refine V_if_eq (tgt := 181) hC dX11_sell_168 (by decide) (fun hc => ?_) (fun hc => ?_)
          · have hq := hq.1 hc
            exact hq
          · have hq := hq.2 hc
            refine V_aload_n hC dX11_sell_171 0 rfl ?_
            refine U_getR hC fl_X11_19 dX11_sell_172 hq (fun v28 hq => ?_)
            refine V_iload hC dX11_sell_175 2 rfl ?_
            refine V_iconst (v := (-1)) hC dX11_sell_177 (by decide) ?_
            obtain ⟨hz, hq⟩ := hq
            refine clV_X6_change hG hC sv_X11_229 ⟨by decide, by decide⟩ (Nat.le_of_ble_eq_true rfl) ⟨by decide, by decide⟩ dX11_sell_178 hz hq (fun h29 hq => ?_)
            show V G Γ 8 3 18 h29 181 [(0, .ref p0), (6, .int r18), (7, .int x7_20)] []
            exact hq)
      refine V_sub [0, 6, 7] rfl ?_
      exact hq
    · have hq := hq.2 hc
      exact V_throwSW hC hQ hG th_221_285 ⟨by decide, by decide⟩ ⟨by decide, by decide⟩ dX11_sell_96 dX11_sell_99 dX11_sell_100 dX11_sell_103 dX11_sell_106 hq
  · have hq := hq.2 hc
    exact V_throwSW hC hQ hG th_221_277 ⟨by decide, by decide⟩ ⟨by decide, by decide⟩ dX11_sell_48 dX11_sell_51 dX11_sell_52 dX11_sell_55 dX11_sell_58 hq
set_option maxRecDepth 100000 in
set_option maxHeartbeats 4000000 in
theorem ct_X11_priceOf {G : Gx} (hG : GOK G) (p0 : Nat) (p1 : Int32) (h0 : hw) (post : Int32 → Prop) (xp : String → Prop) (hq : wp_X11_priceOf G p0 p1 h0 post xp) : CT G yX11_priceOf cX11_priceOf 4 (some .int) 7 115 2 12 [.ref p0, .int p1] h0 (fun v h1 => ∃ r : Int32, v = some (.int r) ∧ h1 = h0 ∧ post r) (fun E h1 => h1 = h0 ∧ xp E) := by
  refine CT_of hG (by decide) (Nat.le_of_ble_eq_true rfl) (fun Γ hC hQ hN => ?_)
  have hC : COK G Γ "Bandplan" cX11_priceOf 4 7 115 2 12 [] := hC
  unfold wp_X11_priceOf at hq
  show V G Γ 4 0 0 h0 0 [(0, .ref p0), (1, .int p1)] []
  refine V_aload_n hC dX11_priceOf_0 0 rfl ?_
  refine V_iload_n hC dX11_priceOf_1 1 rfl ?_
  obtain ⟨hz, hq⟩ := hq
  refine clV_X11_stationAt hG hC sv_X11_143 ⟨by decide, by decide⟩ (Nat.le_of_ble_eq_true rfl) ⟨by decide, by decide⟩ dX11_priceOf_2 hz hq (fun E hx => VX_out hC hQ ⟨by decide, by decide⟩ ⟨rfl, hx⟩) (fun r1 hq => ?_)
  show V G Γ 4 1 6 h0 5 [(0, .ref p0), (1, .int p1)] [.ref r1]
  refine V_astore_n (L' := [(0, .ref p0), (1, .int p1), (2, .ref r1)]) hC dX11_priceOf_5 rfl (by decide) [1, 2, 0] rfl ?_
  refine V_aload_n hC dX11_priceOf_6 0 rfl ?_
  refine U_getR hC fl_X11_40 dX11_priceOf_7 hq (fun v2 hq => ?_)
  refine U_getR hC fl_X11_302 dX11_priceOf_10 hq (fun v3 hq => ?_)
  refine V_aload_n hC dX11_priceOf_13 2 rfl ?_
  refine U_getI hC fl_X11_232 dX11_priceOf_14 hq (fun v4 hq => ?_)
  obtain ⟨hz, hq⟩ := hq
  refine clV_X7_at hG hC sv_X11_226 ⟨by decide, by decide⟩ (Nat.le_of_ble_eq_true rfl) ⟨by decide, by decide⟩ dX11_priceOf_17 hz hq (fun r5 hq => ?_)
  show V G Γ 4 1 6 h0 20 [(0, .ref p0), (1, .int p1), (2, .ref r1)] [.int r5]
  refine V_istore_n (L' := [(0, .ref p0), (1, .int p1), (2, .ref r1), (3, .int r5)]) hC dX11_priceOf_20 rfl (by decide) [1, 2, 3, 0] rfl ?_
  refine V_iload_n hC dX11_priceOf_21 3 rfl ?_
  refine V_iconst (v := (-1)) hC dX11_priceOf_22 (by decide) ?_
  refine V_icmp_ne (tgt := 37) hC dX11_priceOf_23 (by decide) (fun hc => ?_) (fun hc => ?_)
  · have hq := hq.1 hc
    refine V_iload_n hC dX11_priceOf_37 3 rfl ?_
    exact V_iret hC hQ rfl rfl ⟨by decide, by decide⟩ dX11_priceOf_38 ⟨_, rfl, rfl, hq⟩
  · have hq := hq.2 hc
    exact V_throwSW hC hQ hG th_162_305 ⟨by decide, by decide⟩ ⟨by decide, by decide⟩ dX11_priceOf_26 dX11_priceOf_29 dX11_priceOf_30 dX11_priceOf_33 dX11_priceOf_36 ⟨rfl, hq⟩
set_option maxRecDepth 100000 in
set_option maxHeartbeats 4000000 in
theorem ct_X11_rounds {G : Gx} (hG : GOK G) (p0 : Nat) (h0 : hw) (post : Int32 → Prop) (hq : wp_X11_rounds G p0 h0 post) : CT G yX11_rounds cX11_rounds 1 (some .int) 1 30 0 0 [.ref p0] h0 (fun v h1 => ∃ r : Int32, v = some (.int r) ∧ h1 = h0 ∧ post r) (fun E h1 => False) := by
  refine CT_of hG (by decide) (Nat.le_of_ble_eq_true rfl) (fun Γ hC hQ hN => ?_)
  have hC : COK G Γ "Bandplan" cX11_rounds 1 1 30 0 0 [] := hC
  unfold wp_X11_rounds at hq
  show V G Γ 1 0 0 h0 0 [(0, .ref p0)] []
  refine V_aload_n hC dX11_rounds_0 0 rfl ?_
  refine U_getR hC fl_X11_40 dX11_rounds_1 hq (fun v1 hq => ?_)
  refine U_getI hC fl_X11_307 dX11_rounds_4 hq (fun v2 hq => ?_)
  exact V_iret hC hQ rfl rfl ⟨by decide, by decide⟩ dX11_rounds_7 ⟨_, rfl, rfl, hq⟩
set_option maxRecDepth 100000 in
set_option maxHeartbeats 4000000 in
theorem ct_X11_addBidder {G : Gx} (hG : GOK G) (p0 : Nat) (p1 : Int32) (p2 : Int32) (p3 : Int32) (h0 : hw) (post : Int32 → hw → Prop) (xp : String → hw → Prop) (hq : wp_X11_addBidder G p0 p1 p2 p3 h0 post xp) : CT G yX11_addBidder cX11_addBidder 4 (some .int) 7 113 4 24 [.ref p0, .int p1, .int p2, .int p3] h0 (fun v h1 => ∃ r : Int32, v = some (.int r) ∧ post r h1) (fun E h1 => xp E h1) := by
  refine CT_of hG (by decide) (Nat.le_of_ble_eq_true rfl) (fun Γ hC hQ hN => ?_)
  have hC : COK G Γ "Bandplan" cX11_addBidder 4 7 113 4 24 [] := hC
  unfold wp_X11_addBidder at hq
  show V G Γ 4 0 0 h0 0 [(0, .ref p0), (1, .int p1), (2, .int p2), (3, .int p3)] []
  refine V_aload_n hC dX11_addBidder_0 0 rfl ?_
  refine V_iload_n hC dX11_addBidder_1 1 rfl ?_
  refine V_iconst (v := 0) hC dX11_addBidder_2 (by decide) ?_
  refine V_sipush (v := 9999) hC dX11_addBidder_3 (by decide) ?_
  obtain ⟨hz, hq⟩ := hq
  refine clV_X11_needRange hG hC sv_X11_70 ⟨by decide, by decide⟩ (Nat.le_of_ble_eq_true rfl) ⟨by decide, by decide⟩ dX11_addBidder_6 hz hq (fun E hx => VX_out hC hQ ⟨by decide, by decide⟩ hx) (fun hq => ?_)
  show V G Γ 4 1 6 h0 9 [(0, .ref p0), (1, .int p1), (2, .int p2), (3, .int p3)] []
  refine V_aload_n hC dX11_addBidder_9 0 rfl ?_
  refine V_iload_n hC dX11_addBidder_10 2 rfl ?_
  refine V_iconst (v := 0) hC dX11_addBidder_11 (by decide) ?_
  refine V_iload_n hC dX11_addBidder_12 1 rfl ?_
  obtain ⟨hz, hq⟩ := hq
  refine clV_X11_needRange hG hC sv_X11_70 ⟨by decide, by decide⟩ (Nat.le_of_ble_eq_true rfl) ⟨by decide, by decide⟩ dX11_addBidder_13 hz hq (fun E hx => VX_out hC hQ ⟨by decide, by decide⟩ hx) (fun hq => ?_)
  show V G Γ 4 2 12 h0 16 [(0, .ref p0), (1, .int p1), (2, .int p2), (3, .int p3)] []
  refine V_aload_n hC dX11_addBidder_16 0 rfl ?_
  refine V_iload_n hC dX11_addBidder_17 3 rfl ?_
  refine V_iconst (v := 0) hC dX11_addBidder_18 (by decide) ?_
  refine V_iload_n hC dX11_addBidder_19 2 rfl ?_
  obtain ⟨hz, hq⟩ := hq
  refine clV_X11_needRange hG hC sv_X11_70 ⟨by decide, by decide⟩ (Nat.le_of_ble_eq_true rfl) ⟨by decide, by decide⟩ dX11_addBidder_20 hz hq (fun E hx => VX_out hC hQ ⟨by decide, by decide⟩ hx) (fun hq => ?_)
  show V G Γ 4 3 18 h0 23 [(0, .ref p0), (1, .int p1), (2, .int p2), (3, .int p3)] []
  refine V_aload_n hC dX11_addBidder_23 0 rfl ?_
  refine U_getR hC fl_X11_47 dX11_addBidder_24 hq (fun v1 hq => ?_)
  refine U_getI hC fl_X11_310 dX11_addBidder_27 hq (fun v2 hq => ?_)
  refine V_iconst (v := 4) hC dX11_addBidder_30 (by decide) ?_
  refine V_icmp_lt (tgt := 45) hC dX11_addBidder_31 (by decide) (fun hc => ?_) (fun hc => ?_)
  · have hq := hq.1 hc
    refine V_aload_n hC dX11_addBidder_45 0 rfl ?_
    refine U_getR hC fl_X11_47 dX11_addBidder_46 hq (fun v3 hq => ?_)
    refine V_iload_n hC dX11_addBidder_49 1 rfl ?_
    refine V_iload_n hC dX11_addBidder_50 2 rfl ?_
    refine V_iload_n hC dX11_addBidder_51 3 rfl ?_
    obtain ⟨hz, hq⟩ := hq
    refine clV_X2_admit hG hC sv_X11_315 ⟨by decide, by decide⟩ (Nat.le_of_ble_eq_true rfl) ⟨by decide, by decide⟩ dX11_addBidder_52 hz hq (fun r4 h5 hq => ?_)
    show V G Γ 4 3 18 h5 55 [(0, .ref p0), (1, .int p1), (2, .int p2), (3, .int p3)] [.int r4]
    exact V_iret hC hQ rfl rfl ⟨by decide, by decide⟩ dX11_addBidder_55 ⟨_, rfl, hq⟩
  · have hq := hq.2 hc
    exact V_throwSW hC hQ hG th_97_313 ⟨by decide, by decide⟩ ⟨by decide, by decide⟩ dX11_addBidder_34 dX11_addBidder_37 dX11_addBidder_38 dX11_addBidder_41 dX11_addBidder_44 hq
set_option maxRecDepth 100000 in
set_option maxHeartbeats 4000000 in
theorem ct_X11_buy {G : Gx} (hG : GOK G) (p0 : Nat) (p1 : Int32) (h0 : hw) (post : Int32 → hw → Prop) (xp : String → hw → Prop) (hq : wp_X11_buy G p0 p1 h0 post xp) : CT G yX11_buy cX11_buy 2 (some .int) 7 125 1 6 [.ref p0, .int p1] h0 (fun v h1 => ∃ r : Int32, v = some (.int r) ∧ post r h1) (fun E h1 => xp E h1) := by
  refine CT_of hG (by decide) (Nat.le_of_ble_eq_true rfl) (fun Γ hC hQ hN => ?_)
  have hC : COK G Γ "Bandplan" cX11_buy 2 7 125 1 6 [] := hC
  unfold wp_X11_buy at hq
  show V G Γ 2 0 0 h0 0 [(0, .ref p0), (1, .int p1)] []
  refine V_aload_n hC dX11_buy_0 0 rfl ?_
  refine V_iload_n hC dX11_buy_1 1 rfl ?_
  refine V_iconst (v := 0) hC dX11_buy_2 (by decide) ?_
  refine V_bipush (v := 8) hC dX11_buy_3 (by decide) ?_
  obtain ⟨hz, hq⟩ := hq
  refine clV_X11_needRange hG hC sv_X11_70 ⟨by decide, by decide⟩ (Nat.le_of_ble_eq_true rfl) ⟨by decide, by decide⟩ dX11_buy_5 hz hq (fun E hx => VX_out hC hQ ⟨by decide, by decide⟩ hx) (fun hq => ?_)
  show V G Γ 2 1 6 h0 8 [(0, .ref p0), (1, .int p1)] []
  refine V_aload_n hC dX11_buy_8 0 rfl ?_
  refine U_getR hC fl_X11_47 dX11_buy_9 hq (fun v1 hq => ?_)
  refine V_iload_n hC dX11_buy_12 1 rfl ?_
  obtain ⟨hz, hq⟩ := hq
  refine clV_X2_run hG hC sv_X11_318 ⟨by decide, by decide⟩ (Nat.le_of_ble_eq_true rfl) ⟨by decide, by decide⟩ dX11_buy_13 hz hq (fun r2 h3 hq => ?_)
  show V G Γ 2 1 6 h3 16 [(0, .ref p0), (1, .int p1)] [.int r2]
  exact V_iret hC hQ rfl rfl ⟨by decide, by decide⟩ dX11_buy_16 ⟨_, rfl, hq⟩
set_option maxRecDepth 100000 in
set_option maxHeartbeats 4000000 in
theorem ct_X11_needBidder {G : Gx} (hG : GOK G) (p0 : Nat) (p1 : Int32) (h0 : hw) (post : Prop) (xp : String → Prop) (hq : wp_X11_needBidder G p0 p1 h0 post xp) : CT G yX11_needBidder cX11_needBidder 2 none 6 90 1 6 [.ref p0, .int p1] h0 (fun v h1 => v = none ∧ h1 = h0 ∧ post) (fun E h1 => h1 = h0 ∧ xp E) := by
  refine CT_of hG (by decide) (Nat.le_of_ble_eq_true rfl) (fun Γ hC hQ hN => ?_)
  have hC : COK G Γ "Bandplan" cX11_needBidder 2 6 90 1 6 [] := hC
  unfold wp_X11_needBidder at hq
  show V G Γ 2 0 0 h0 0 [(0, .ref p0), (1, .int p1)] []
  refine V_iload_n hC dX11_needBidder_0 1 rfl ?_
  have hq := hq (V G Γ 2 0 0 h0 15 [] []) (by
    intro hq
    show V G Γ 2 0 0 h0 15 [] []
    exact V_throwSW hC hQ hG th_376_383 ⟨by decide, by decide⟩ ⟨by decide, by decide⟩ dX11_needBidder_15 dX11_needBidder_18 dX11_needBidder_19 dX11_needBidder_22 dX11_needBidder_25 ⟨rfl, hq⟩)
  refine V_if_lt (tgt := 15) hC dX11_needBidder_1 (by decide) (fun hc => ?_) (fun hc => ?_)
  · have hq := hq.1 hc
    refine V_sub [] rfl ?_
    exact hq
  · have hq := hq.2 hc
    refine V_iload_n hC dX11_needBidder_4 1 rfl ?_
    refine V_aload_n hC dX11_needBidder_5 0 rfl ?_
    refine U_getR hC fl_X11_47 dX11_needBidder_6 hq (fun v1 hq => ?_)
    refine U_getI hC fl_X11_310 dX11_needBidder_9 hq (fun v2 hq => ?_)
    refine V_icmp_lt (tgt := 26) hC dX11_needBidder_12 (by decide) (fun hc => ?_) (fun hc => ?_)
    · have hq := hq.1 hc
      exact V_vret hC hQ ⟨by decide, by decide⟩ dX11_needBidder_26 ⟨rfl, rfl, hq⟩
    · have hq := hq.2 hc
      refine V_sub [] rfl ?_
      exact hq
theorem clV_X11_needBidder {G : Gx} (hG : GOK G) {Γ : Cx} {own : String} {cc : ByteArray} {nL fr lo mc ms cells slots pc : Nat} {hh : List (Nat × Nat × Nat × Nat)} {h : hw} {L : List (Nat × Value)} {rest : List Value} (hC : COK G Γ own cc nL fr lo mc ms hh) {idx : Nat} (hs : SV own idx yX11_needBidder cX11_needBidder 2 none 1) {p0 : Nat} {p1 : Int32} (hR : 6 + 1 ≤ fr ∧ 8 + (2 + 11) + 90 ≤ lo) (hw8 : (rest.map fun v => v.category).sum ≤ 8) (hcs : cells + 1 ≤ mc ∧ slots + 6 ≤ ms) (hdg : decode cc pc = .ok (.invokevirtual idx, 3)) (ho : isO h p0 11) {post : Prop} {xp : String → Prop} (hq : wp_X11_needBidder G p0 p1 h post xp) (kx : ∀ E : String, xp E → VX G Γ nL (cells + 1) (slots + 6) h pc L rest E) (kk : post → V G Γ nL (cells + 1) (slots + 6) h (pc + 3) L rest) : V G Γ nL cells slots h pc L (.int p1 :: .ref p0 :: rest) :=
  V_callV (As := [.int p1]) (r9 := (RX11, TX11, 8)) hC (ct_X11_needBidder hG p0 p1 h post xp hq) hs ho rfl rfl rfl hR hw8 hcs hdg (fun E h1 z => by obtain ⟨rfl, hz⟩ := z; exact kx E hz) (fun v h1 z => by obtain ⟨rfl, rfl, hz⟩ := z; exact kk hz)
set_option maxRecDepth 100000 in
set_option maxHeartbeats 4000000 in
theorem ct_X11_bought {G : Gx} (hG : GOK G) (p0 : Nat) (p1 : Int32) (h0 : hw) (post : Int32 → Prop) (xp : String → Prop) (hq : wp_X11_bought G p0 p1 h0 post xp) : CT G yX11_bought cX11_bought 2 (some .int) 7 111 1 6 [.ref p0, .int p1] h0 (fun v h1 => ∃ r : Int32, v = some (.int r) ∧ h1 = h0 ∧ post r) (fun E h1 => h1 = h0 ∧ xp E) := by
  refine CT_of hG (by decide) (Nat.le_of_ble_eq_true rfl) (fun Γ hC hQ hN => ?_)
  have hC : COK G Γ "Bandplan" cX11_bought 2 7 111 1 6 [] := hC
  unfold wp_X11_bought at hq
  show V G Γ 2 0 0 h0 0 [(0, .ref p0), (1, .int p1)] []
  refine V_aload_n hC dX11_bought_0 0 rfl ?_
  refine V_iload_n hC dX11_bought_1 1 rfl ?_
  obtain ⟨hz, hq⟩ := hq
  refine clV_X11_needBidder hG hC sv_X11_320 ⟨by decide, by decide⟩ (Nat.le_of_ble_eq_true rfl) ⟨by decide, by decide⟩ dX11_bought_2 hz hq (fun E hx => VX_out hC hQ ⟨by decide, by decide⟩ ⟨rfl, hx⟩) (fun hq => ?_)
  show V G Γ 2 1 6 h0 5 [(0, .ref p0), (1, .int p1)] []
  refine V_aload_n hC dX11_bought_5 0 rfl ?_
  refine U_getR hC fl_X11_47 dX11_bought_6 hq (fun v1 hq => ?_)
  refine U_getR hC fl_X11_323 dX11_bought_9 hq (fun v2 hq => ?_)
  refine V_iload_n hC dX11_bought_12 1 rfl ?_
  obtain ⟨hz, hq⟩ := hq
  refine clV_X7_at hG hC sv_X11_226 ⟨by decide, by decide⟩ (Nat.le_of_ble_eq_true rfl) ⟨by decide, by decide⟩ dX11_bought_13 hz hq (fun r3 hq => ?_)
  show V G Γ 2 1 6 h0 16 [(0, .ref p0), (1, .int p1)] [.int r3]
  exact V_iret hC hQ rfl rfl ⟨by decide, by decide⟩ dX11_bought_16 ⟨_, rfl, rfl, hq⟩
set_option maxRecDepth 100000 in
set_option maxHeartbeats 4000000 in
theorem ct_X11_pays {G : Gx} (hG : GOK G) (p0 : Nat) (p1 : Int32) (h0 : hw) (post : Int64 → Prop) (xp : String → Prop) (hq : wp_X11_pays G p0 p1 h0 post xp) : CT G yX11_pays cX11_pays 2 (some .long) 7 111 1 6 [.ref p0, .int p1] h0 (fun v h1 => ∃ r : Int64, v = some (.long r) ∧ h1 = h0 ∧ post r) (fun E h1 => h1 = h0 ∧ xp E) := by
  refine CT_of hG (by decide) (Nat.le_of_ble_eq_true rfl) (fun Γ hC hQ hN => ?_)
  have hC : COK G Γ "Bandplan" cX11_pays 2 7 111 1 6 [] := hC
  unfold wp_X11_pays at hq
  show V G Γ 2 0 0 h0 0 [(0, .ref p0), (1, .int p1)] []
  refine V_aload_n hC dX11_pays_0 0 rfl ?_
  refine V_iload_n hC dX11_pays_1 1 rfl ?_
  obtain ⟨hz, hq⟩ := hq
  refine clV_X11_needBidder hG hC sv_X11_320 ⟨by decide, by decide⟩ (Nat.le_of_ble_eq_true rfl) ⟨by decide, by decide⟩ dX11_pays_2 hz hq (fun E hx => VX_out hC hQ ⟨by decide, by decide⟩ ⟨rfl, hx⟩) (fun hq => ?_)
  show V G Γ 2 1 6 h0 5 [(0, .ref p0), (1, .int p1)] []
  refine V_aload_n hC dX11_pays_5 0 rfl ?_
  refine U_getR hC fl_X11_47 dX11_pays_6 hq (fun v1 hq => ?_)
  refine U_getR hC fl_X11_326 dX11_pays_9 hq (fun v2 hq => ?_)
  refine V_iload_n hC dX11_pays_12 1 rfl ?_
  obtain ⟨hz, hq⟩ := hq
  refine clV_X7_at hG hC sv_X11_226 ⟨by decide, by decide⟩ (Nat.le_of_ble_eq_true rfl) ⟨by decide, by decide⟩ dX11_pays_13 hz hq (fun r3 hq => ?_)
  show V G Γ 2 1 6 h0 16 [(0, .ref p0), (1, .int p1)] [.int r3]
  refine V_i2l hC dX11_pays_16 ?_
  exact V_lret hC hQ ⟨by decide, by decide⟩ dX11_pays_17 ⟨_, rfl, rfl, hq⟩
set_option maxRecDepth 100000 in
set_option maxHeartbeats 4000000 in
theorem ct_X11_move {G : Gx} (hG : GOK G) (p0 : Nat) (p1 : Int32) (h0 : hw) (post : Int32 → hw → Prop) (xp : String → hw → Prop) (hq : wp_X11_move G p0 p1 h0 post xp) : CT G yX11_move cX11_move 3 (some .int) 16 394 2 12 [.ref p0, .int p1] h0 (fun v h1 => ∃ r : Int32, v = some (.int r) ∧ post r h1) (fun E h1 => xp E h1) := by
  refine CT_of hG (by decide) (Nat.le_of_ble_eq_true rfl) (fun Γ hC hQ hN => ?_)
  have hC : COK G Γ "Bandplan" cX11_move 3 16 394 2 12 [] := hC
  unfold wp_X11_move at hq
  show V G Γ 3 0 0 h0 0 [(0, .ref p0), (1, .int p1)] []
  refine V_aload_n hC dX11_move_0 0 rfl ?_
  refine V_iload_n hC dX11_move_1 1 rfl ?_
  refine V_iconst (v := 1) hC dX11_move_2 (by decide) ?_
  refine V_iconst (v := 4) hC dX11_move_3 (by decide) ?_
  obtain ⟨hz, hq⟩ := hq
  refine clV_X11_needRange hG hC sv_X11_70 ⟨by decide, by decide⟩ (Nat.le_of_ble_eq_true rfl) ⟨by decide, by decide⟩ dX11_move_4 hz hq (fun E hx => VX_out hC hQ ⟨by decide, by decide⟩ hx) (fun hq => ?_)
  show V G Γ 3 1 6 h0 7 [(0, .ref p0), (1, .int p1)] []
  refine V_aload_n hC dX11_move_7 0 rfl ?_
  refine U_getR hC fl_X11_40 dX11_move_8 hq (fun v1 hq => ?_)
  refine U_getI hC fl_X11_329 dX11_move_11 hq (fun v2 hq => ?_)
  refine V_if_ne (tgt := 28) hC dX11_move_14 (by decide) (fun hc => ?_) (fun hc => ?_)
  · have hq := hq.1 hc
    refine V_aload_n hC dX11_move_28 0 rfl ?_
    refine U_getR hC fl_X11_40 dX11_move_29 hq (fun v3 hq => ?_)
    refine U_getI hC fl_X11_334 dX11_move_32 hq (fun v4 hq => ?_)
    refine V_aload_n hC dX11_move_35 0 rfl ?_
    refine U_getR hC fl_X11_19 dX11_move_36 hq (fun v5 hq => ?_)
    obtain ⟨hz, hq⟩ := hq
    refine clV_X6_onesOn hG hC sv_X11_274 ⟨by decide, by decide⟩ (Nat.le_of_ble_eq_true rfl) ⟨by decide, by decide⟩ dX11_move_39 hz hq (fun r6 hq => ?_)
    show V G Γ 3 1 6 h0 42 [(0, .ref p0), (1, .int p1)] [.int r6, .int v4]
    refine V_iand hC dX11_move_42 ?_
    refine V_istore_n (L' := [(0, .ref p0), (1, .int p1), (2, .int (v4 &&& r6))]) hC dX11_move_43 rfl (by decide) [1, 2, 0] rfl ?_
    refine V_aload_n hC dX11_move_44 0 rfl ?_
    refine U_getR hC fl_X11_33 dX11_move_45 hq (fun v7 hq => ?_)
    refine V_aload_n hC dX11_move_48 0 rfl ?_
    refine U_getR hC fl_X11_10 dX11_move_49 hq (fun v8 hq => ?_)
    refine V_aload_n hC dX11_move_52 0 rfl ?_
    refine U_getR hC fl_X11_40 dX11_move_53 hq (fun v9 hq => ?_)
    refine U_getI hC fl_X11_337 dX11_move_56 hq (fun v10 hq => ?_)
    obtain ⟨hz, hq⟩ := hq
    refine clV_X5_prepare hG hC sv_X11_254 ⟨by decide, by decide⟩ (Nat.le_of_ble_eq_true rfl) ⟨by decide, by decide⟩ dX11_move_59 hz hq (fun h11 hq => ?_)
    show V G Γ 3 1 6 h11 62 [(0, .ref p0), (1, .int p1), (2, .int (v4 &&& r6))] []
    refine V_aload_n hC dX11_move_62 0 rfl ?_
    refine U_getR hC fl_X11_33 dX11_move_63 hq (fun v12 hq => ?_)
    refine V_iload_n hC dX11_move_66 2 rfl ?_
    obtain ⟨hz, hq⟩ := hq
    refine clV_X5_findFirst hG hC sv_X11_261 ⟨by decide, by decide⟩ (Nat.le_of_ble_eq_true rfl) ⟨by decide, by decide⟩ dX11_move_67 hz hq (fun r13 h14 hq => ?_)
    show V G Γ 3 1 6 h14 70 [(0, .ref p0), (1, .int p1), (2, .int (v4 &&& r6))] [.int r13]
    refine V_if_ne (tgt := 84) hC dX11_move_70 (by decide) (fun hc => ?_) (fun hc => ?_)
    · have hq := hq.1 hc
      refine V_aload_n hC dX11_move_84 0 rfl ?_
      refine U_getR hC fl_X11_54 dX11_move_85 hq (fun v15 hq => ?_)
      refine V_iload_n hC dX11_move_88 2 rfl ?_
      refine V_aload_n hC dX11_move_89 0 rfl ?_
      refine U_getR hC fl_X11_33 dX11_move_90 hq (fun v16 hq => ?_)
      refine V_aload_n hC dX11_move_93 0 rfl ?_
      refine U_getR hC fl_X11_19 dX11_move_94 hq (fun v17 hq => ?_)
      obtain ⟨hz, hq⟩ := hq
      refine clV_X4_begin hG hC sv_X11_340 ⟨by decide, by decide⟩ (Nat.le_of_ble_eq_true rfl) ⟨by decide, by decide⟩ dX11_move_97 hz hq (fun h18 hq => ?_)
      show V G Γ 3 1 6 h18 100 [(0, .ref p0), (1, .int p1), (2, .int (v4 &&& r6))] []
      refine V_aload_n hC dX11_move_100 0 rfl ?_
      refine U_getR hC fl_X11_54 dX11_move_101 hq (fun v19 hq => ?_)
      refine V_aload_n hC dX11_move_104 0 rfl ?_
      refine U_getR hC fl_X11_10 dX11_move_105 hq (fun v20 hq => ?_)
      refine V_aload_n hC dX11_move_108 0 rfl ?_
      refine U_getR hC fl_X11_33 dX11_move_109 hq (fun v21 hq => ?_)
      refine V_aload_n hC dX11_move_112 0 rfl ?_
      refine U_getR hC fl_X11_19 dX11_move_113 hq (fun v22 hq => ?_)
      refine V_iload_n hC dX11_move_116 1 rfl ?_
      obtain ⟨hz, hq⟩ := hq
      refine clV_X4_run hG hC sv_X11_343 ⟨by decide, by decide⟩ (Nat.le_of_ble_eq_true rfl) ⟨by decide, by decide⟩ dX11_move_117 hz hq (fun r23 h24 hq => ?_)
      show V G Γ 3 1 6 h24 120 [(0, .ref p0), (1, .int p1), (2, .int (v4 &&& r6))] [.int r23]
      exact V_iret hC hQ rfl rfl ⟨by decide, by decide⟩ dX11_move_120 ⟨_, rfl, hq⟩
    · have hq := hq.2 hc
      exact V_throwSW hC hQ hG th_221_266 ⟨by decide, by decide⟩ ⟨by decide, by decide⟩ dX11_move_73 dX11_move_76 dX11_move_77 dX11_move_80 dX11_move_83 hq
  · have hq := hq.2 hc
    exact V_throwSW hC hQ hG th_221_332 ⟨by decide, by decide⟩ ⟨by decide, by decide⟩ dX11_move_17 dX11_move_20 dX11_move_21 dX11_move_24 dX11_move_27 hq
set_option maxRecDepth 100000 in
set_option maxHeartbeats 4000000 in
theorem ct_X11_phaseOf {G : Gx} (hG : GOK G) (p0 : Nat) (p1 : Int32) (h0 : hw) (post : Int32 → Prop) (xp : String → Prop) (hq : wp_X11_phaseOf G p0 p1 h0 post xp) : CT G yX11_phaseOf cX11_phaseOf 4 (some .int) 7 115 2 12 [.ref p0, .int p1] h0 (fun v h1 => ∃ r : Int32, v = some (.int r) ∧ h1 = h0 ∧ post r) (fun E h1 => h1 = h0 ∧ xp E) := by
  refine CT_of hG (by decide) (Nat.le_of_ble_eq_true rfl) (fun Γ hC hQ hN => ?_)
  have hC : COK G Γ "Bandplan" cX11_phaseOf 4 7 115 2 12 [] := hC
  unfold wp_X11_phaseOf at hq
  show V G Γ 4 0 0 h0 0 [(0, .ref p0), (1, .int p1)] []
  refine V_aload_n hC dX11_phaseOf_0 0 rfl ?_
  refine V_iload_n hC dX11_phaseOf_1 1 rfl ?_
  obtain ⟨hz, hq⟩ := hq
  refine clV_X11_stationAt hG hC sv_X11_143 ⟨by decide, by decide⟩ (Nat.le_of_ble_eq_true rfl) ⟨by decide, by decide⟩ dX11_phaseOf_2 hz hq (fun E hx => VX_out hC hQ ⟨by decide, by decide⟩ ⟨rfl, hx⟩) (fun r1 hq => ?_)
  show V G Γ 4 1 6 h0 5 [(0, .ref p0), (1, .int p1)] [.ref r1]
  refine V_astore_n (L' := [(0, .ref p0), (1, .int p1), (2, .ref r1)]) hC dX11_phaseOf_5 rfl (by decide) [1, 2, 0] rfl ?_
  refine V_aload_n hC dX11_phaseOf_6 0 rfl ?_
  refine U_getR hC fl_X11_54 dX11_phaseOf_7 hq (fun v2 hq => ?_)
  refine U_getR hC fl_X11_346 dX11_phaseOf_10 hq (fun v3 hq => ?_)
  refine V_aload_n hC dX11_phaseOf_13 2 rfl ?_
  refine U_getI hC fl_X11_232 dX11_phaseOf_14 hq (fun v4 hq => ?_)
  obtain ⟨hz, hq⟩ := hq
  refine clV_X7_at hG hC sv_X11_226 ⟨by decide, by decide⟩ (Nat.le_of_ble_eq_true rfl) ⟨by decide, by decide⟩ dX11_phaseOf_17 hz hq (fun r5 hq => ?_)
  show V G Γ 4 1 6 h0 20 [(0, .ref p0), (1, .int p1), (2, .ref r1)] [.int r5]
  refine V_istore_n (L' := [(0, .ref p0), (1, .int p1), (2, .ref r1), (3, .int r5)]) hC dX11_phaseOf_20 rfl (by decide) [1, 2, 3, 0] rfl ?_
  refine V_iload_n hC dX11_phaseOf_21 3 rfl ?_
  refine V_iconst (v := (-1)) hC dX11_phaseOf_22 (by decide) ?_
  refine V_icmp_ne (tgt := 37) hC dX11_phaseOf_23 (by decide) (fun hc => ?_) (fun hc => ?_)
  · have hq := hq.1 hc
    refine V_iload_n hC dX11_phaseOf_37 3 rfl ?_
    exact V_iret hC hQ rfl rfl ⟨by decide, by decide⟩ dX11_phaseOf_38 ⟨_, rfl, rfl, hq⟩
  · have hq := hq.2 hc
    exact V_throwSW hC hQ hG th_162_349 ⟨by decide, by decide⟩ ⟨by decide, by decide⟩ dX11_phaseOf_26 dX11_phaseOf_29 dX11_phaseOf_30 dX11_phaseOf_33 dX11_phaseOf_36 ⟨rfl, hq⟩
set_option maxRecDepth 100000 in
set_option maxHeartbeats 4000000 in
theorem ct_X11_dark {G : Gx} (hG : GOK G) (p0 : Nat) (h0 : hw) (post : Int32 → Prop) (hq : wp_X11_dark G p0 h0 post) : CT G yX11_dark cX11_dark 1 (some .int) 1 30 0 0 [.ref p0] h0 (fun v h1 => ∃ r : Int32, v = some (.int r) ∧ h1 = h0 ∧ post r) (fun E h1 => False) := by
  refine CT_of hG (by decide) (Nat.le_of_ble_eq_true rfl) (fun Γ hC hQ hN => ?_)
  have hC : COK G Γ "Bandplan" cX11_dark 1 1 30 0 0 [] := hC
  unfold wp_X11_dark at hq
  show V G Γ 1 0 0 h0 0 [(0, .ref p0)] []
  refine V_aload_n hC dX11_dark_0 0 rfl ?_
  refine U_getR hC fl_X11_54 dX11_dark_1 hq (fun v1 hq => ?_)
  refine U_getI hC fl_X11_351 dX11_dark_4 hq (fun v2 hq => ?_)
  exact V_iret hC hQ rfl rfl ⟨by decide, by decide⟩ dX11_dark_7 ⟨_, rfl, rfl, hq⟩
set_option maxRecDepth 100000 in
set_option maxHeartbeats 4000000 in
theorem ct_X11_onShare {G : Gx} (hG : GOK G) (p0 : Nat) (h0 : hw) (post : UInt32 → Prop) (xp : String → Prop) (hq : wp_X11_onShare G p0 h0 post xp) : CT G yX11_onShare cX11_onShare 2 (some .float) 6 90 1 6 [.ref p0] h0 (fun v h1 => ∃ r : UInt32, v = some (.float r) ∧ h1 = h0 ∧ post r) (fun E h1 => h1 = h0 ∧ xp E) := by
  refine CT_of hG (by decide) (Nat.le_of_ble_eq_true rfl) (fun Γ hC hQ hN => ?_)
  have hC : COK G Γ "Bandplan" cX11_onShare 2 6 90 1 6 [] := hC
  unfold wp_X11_onShare at hq
  show V G Γ 2 0 0 h0 0 [(0, .ref p0)] []
  refine V_aload_n hC dX11_onShare_0 0 rfl ?_
  refine U_getR hC fl_X11_10 dX11_onShare_1 hq (fun v1 hq => ?_)
  refine U_getR hC fl_X11_125 dX11_onShare_4 hq (fun v2 hq => ?_)
  obtain ⟨hz, hq⟩ := hq
  refine clV_Jx4a65c_size_8abf5 hG hC sv_X11_91 ⟨by decide, by decide⟩ (Nat.le_of_ble_eq_true rfl) ⟨by decide, by decide⟩ dX11_onShare_7 hz hq (fun r3 hq => ?_)
  show V G Γ 2 0 0 h0 10 [(0, .ref p0)] [.int r3]
  refine V_istore_n (L' := [(0, .ref p0), (1, .int r3)]) hC dX11_onShare_10 rfl (by decide) [1, 0] rfl ?_
  refine V_iload_n hC dX11_onShare_11 1 rfl ?_
  refine V_if_ne (tgt := 26) hC dX11_onShare_12 (by decide) (fun hc => ?_) (fun hc => ?_)
  · have hq := hq.1 hc
    refine V_aload_n hC dX11_onShare_26 0 rfl ?_
    refine U_getR hC fl_X11_19 dX11_onShare_27 hq (fun v4 hq => ?_)
    obtain ⟨hz, hq⟩ := hq
    refine clV_X6_onesOn hG hC sv_X11_274 ⟨by decide, by decide⟩ (Nat.le_of_ble_eq_true rfl) ⟨by decide, by decide⟩ dX11_onShare_30 hz hq (fun r5 hq => ?_)
    show V G Γ 2 0 0 h0 33 [(0, .ref p0), (1, .int r3)] [.int r5]
    refine clS_J6_bitCount_0f7a4 hG hC ss_X11_297 ⟨by decide, by decide⟩ (Nat.le_of_ble_eq_true rfl) ⟨by decide, by decide⟩ dX11_onShare_33 hq (fun r6 hq => ?_)
    show V G Γ 2 0 0 h0 36 [(0, .ref p0), (1, .int r3)] [.int r6]
    refine V_i2f hC dX11_onShare_36 ?_
    refine V_iload_n hC dX11_onShare_37 1 rfl ?_
    refine V_i2f hC dX11_onShare_38 ?_
    obtain ⟨hz, hq⟩ := hq
    refine V_fdiv hC dX11_onShare_39 hz ?_
    exact V_fret hC hQ ⟨by decide, by decide⟩ dX11_onShare_40 ⟨_, rfl, rfl, hq⟩
  · have hq := hq.2 hc
    exact V_throwSW hC hQ hG th_354_356 ⟨by decide, by decide⟩ ⟨by decide, by decide⟩ dX11_onShare_15 dX11_onShare_18 dX11_onShare_19 dX11_onShare_22 dX11_onShare_25 ⟨rfl, hq⟩
set_option maxRecDepth 100000 in
set_option maxHeartbeats 4000000 in
theorem ct_X11_meanLevel {G : Gx} (hG : GOK G) (p0 : Nat) (h0 : hw) (post : UInt64 → Prop) (xp : String → Prop) (hq : wp_X11_meanLevel G p0 h0 post xp) : CT G yX11_meanLevel cX11_meanLevel 4 (some .double) 6 94 1 6 [.ref p0] h0 (fun v h1 => ∃ r : UInt64, v = some (.double r) ∧ h1 = h0 ∧ post r) (fun E h1 => h1 = h0 ∧ xp E) := by
  refine CT_of hG (by decide) (Nat.le_of_ble_eq_true rfl) (fun Γ hC hQ hN => ?_)
  have hC : COK G Γ "Bandplan" cX11_meanLevel 4 6 94 1 6 [] := hC
  unfold wp_X11_meanLevel at hq
  show V G Γ 4 0 0 h0 0 [(0, .ref p0)] []
  refine V_aload_n hC dX11_meanLevel_0 0 rfl ?_
  refine U_getR hC fl_X11_19 dX11_meanLevel_1 hq (fun v1 hq => ?_)
  obtain ⟨hz, hq⟩ := hq
  refine clV_X6_onesOn hG hC sv_X11_274 ⟨by decide, by decide⟩ (Nat.le_of_ble_eq_true rfl) ⟨by decide, by decide⟩ dX11_meanLevel_4 hz hq (fun r2 hq => ?_)
  show V G Γ 4 0 0 h0 7 [(0, .ref p0)] [.int r2]
  refine clS_J6_bitCount_0f7a4 hG hC ss_X11_297 ⟨by decide, by decide⟩ (Nat.le_of_ble_eq_true rfl) ⟨by decide, by decide⟩ dX11_meanLevel_7 hq (fun r3 hq => ?_)
  show V G Γ 4 0 0 h0 10 [(0, .ref p0)] [.int r3]
  refine V_istore_n (L' := [(0, .ref p0), (1, .int r3)]) hC dX11_meanLevel_10 rfl (by decide) [1, 0] rfl ?_
  refine V_iload_n hC dX11_meanLevel_11 1 rfl ?_
  refine V_if_ne (tgt := 26) hC dX11_meanLevel_12 (by decide) (fun hc => ?_) (fun hc => ?_)
  · have hq := hq.1 hc
    refine V_iconst (v := 0) hC dX11_meanLevel_26 (by decide) ?_
    refine V_istore_n (L' := [(0, .ref p0), (1, .int r3), (2, .int 0)]) hC dX11_meanLevel_27 rfl (by decide) [1, 2, 0] rfl ?_
    refine V_iconst (v := 0) hC dX11_meanLevel_28 (by decide) ?_
    refine V_istore_n (L' := [(0, .ref p0), (1, .int r3), (2, .int 0), (3, .int 0)]) hC dX11_meanLevel_29 rfl (by decide) [1, 2, 3, 0] rfl ?_
    have hq := hq (fun (x2_4 : Int32) (x3_5 : Int32) => V G Γ 4 0 0 h0 30 [(0, .ref p0), (1, .int r3), (2, .int x2_4), (3, .int x3_5)] []) (by
      intro x2_4 x3_5 hq
      show V G Γ 4 0 0 h0 30 [(0, .ref p0), (1, .int r3), (2, .int x2_4), (3, .int x3_5)] []
      refine V_iload_n hC dX11_meanLevel_30 3 rfl ?_
      refine V_aload_n hC dX11_meanLevel_31 0 rfl ?_
      refine U_getR hC fl_X11_10 dX11_meanLevel_32 hq (fun v6 hq => ?_)
      refine U_getR hC fl_X11_125 dX11_meanLevel_35 hq (fun v7 hq => ?_)
      obtain ⟨hz, hq⟩ := hq
      refine clV_Jx4a65c_size_8abf5 hG hC sv_X11_91 ⟨by decide, by decide⟩ (Nat.le_of_ble_eq_true rfl) ⟨by decide, by decide⟩ dX11_meanLevel_38 hz hq (fun r8 hq => ?_)
      show V G Γ 4 0 0 h0 41 [(0, .ref p0), (1, .int r3), (2, .int x2_4), (3, .int x3_5)] [.int r8, .int x3_5]
      refine V_icmp_ge (tgt := 89) hC dX11_meanLevel_41 (by decide) (fun hc => ?_) (fun hc => ?_)
      · have hq := hq.1 hc
        refine V_iload_n hC dX11_meanLevel_89 2 rfl ?_
        refine V_i2d hC dX11_meanLevel_90 ?_
        refine V_iload_n hC dX11_meanLevel_91 1 rfl ?_
        refine V_i2d hC dX11_meanLevel_92 ?_
        obtain ⟨hz, hq⟩ := hq
        refine V_ddiv hC dX11_meanLevel_93 hz ?_
        exact V_dret hC hQ ⟨by decide, by decide⟩ dX11_meanLevel_94 ⟨_, rfl, rfl, hq⟩
      · have hq := hq.2 hc
        refine V_aload_n hC dX11_meanLevel_44 0 rfl ?_
        refine U_getR hC fl_X11_19 dX11_meanLevel_45 hq (fun v9 hq => ?_)
        refine U_getR hC fl_X11_154 dX11_meanLevel_48 hq (fun v10 hq => ?_)
        refine V_iload_n hC dX11_meanLevel_51 3 rfl ?_
        obtain ⟨hz, hq⟩ := hq
        refine clV_X7_at hG hC sv_X11_226 ⟨by decide, by decide⟩ (Nat.le_of_ble_eq_true rfl) ⟨by decide, by decide⟩ dX11_meanLevel_52 hz hq (fun r11 hq => ?_)
        show V G Γ 4 0 0 h0 55 [(0, .ref p0), (1, .int r3), (2, .int x2_4), (3, .int x3_5)] [.int r11]
        refine V_iconst (v := (-1)) hC dX11_meanLevel_55 (by decide) ?_
        have hq := hq (fun (x2_12 : Int32) => V G Γ 4 0 0 h0 83 [(0, .ref p0), (1, .int r3), (2, .int x2_12), (3, .int x3_5)] []) (by
          intro x2_12 hq
          show V G Γ 4 0 0 h0 83 [(0, .ref p0), (1, .int r3), (2, .int x2_12), (3, .int x3_5)] []
          refine V_iinc (j := 3) (v := (x3_5 + 1)) (L' := [(0, .ref p0), (1, .int r3), (2, .int x2_12), (3, .int (x3_5 + 1))]) hC dX11_meanLevel_83 rfl rfl (by decide) [1, 2, 3, 0] rfl ?_
          refine V_goto (tgt := 30) hC dX11_meanLevel_86 (by decide) ?_
          exact hq)
        refine V_icmp_eq (tgt := 83) hC dX11_meanLevel_56 (by decide) (fun hc => ?_) (fun hc => ?_)
        · have hq := hq.1 hc
          exact hq
        · have hq := hq.2 hc
          refine V_iload_n hC dX11_meanLevel_59 2 rfl ?_
          refine V_aload_n hC dX11_meanLevel_60 0 rfl ?_
          refine U_getR hC fl_X11_10 dX11_meanLevel_61 hq (fun v13 hq => ?_)
          refine V_aload_n hC dX11_meanLevel_64 0 rfl ?_
          refine U_getR hC fl_X11_10 dX11_meanLevel_65 hq (fun v14 hq => ?_)
          refine U_getR hC fl_X11_125 dX11_meanLevel_68 hq (fun v15 hq => ?_)
          refine V_iload_n hC dX11_meanLevel_71 3 rfl ?_
          obtain ⟨hz, hq⟩ := hq
          refine clV_Jx4a65c_get_915e3 hG hC sv_X11_361 ⟨by decide, by decide⟩ (Nat.le_of_ble_eq_true rfl) ⟨by decide, by decide⟩ dX11_meanLevel_72 hz hq (fun r16 hq => ?_)
          show V G Γ 4 0 0 h0 75 [(0, .ref p0), (1, .int r3), (2, .int x2_4), (3, .int x3_5)] [.ref r16, .ref v13, .int x2_4]
          obtain ⟨hz, hq⟩ := hq
          refine V_cast (r9 := (RX10, TX10, 6)) hC aw_3_228 rfl hz dX11_meanLevel_75 ?_
          obtain ⟨hz, hq⟩ := hq
          refine clV_X0_levelOf hG hC sv_X11_147 ⟨by decide, by decide⟩ (Nat.le_of_ble_eq_true rfl) ⟨by decide, by decide⟩ dX11_meanLevel_78 hz hq (fun r17 hq => ?_)
          show V G Γ 4 0 0 h0 81 [(0, .ref p0), (1, .int r3), (2, .int x2_4), (3, .int x3_5)] [.int r17, .int x2_4]
          refine V_iadd hC dX11_meanLevel_81 ?_
          refine V_istore_n (L' := [(0, .ref p0), (1, .int r3), (2, .int (x2_4 + r17)), (3, .int x3_5)]) hC dX11_meanLevel_82 rfl (by decide) [1, 2, 0, 3] rfl ?_
          exact hq)
    exact hq
  · have hq := hq.2 hc
    exact V_throwSW hC hQ hG th_354_359 ⟨by decide, by decide⟩ ⟨by decide, by decide⟩ dX11_meanLevel_15 dX11_meanLevel_18 dX11_meanLevel_19 dX11_meanLevel_22 dX11_meanLevel_25 ⟨rfl, hq⟩
set_option maxRecDepth 100000 in
set_option maxHeartbeats 4000000 in
theorem ct_X11_isSound {G : Gx} (hG : GOK G) (p0 : Nat) (h0 : hw) (post : Int32 → Prop) (hq : wp_X11_isSound G p0 h0 post) : CT G yX11_isSound cX11_isSound 2 (some .boolean) 7 170 0 0 [.ref p0] h0 (fun v h1 => ∃ r : Int32, v = some (.int r) ∧ h1 = h0 ∧ post r) (fun E h1 => False) := by
  refine CT_of hG (by decide) (Nat.le_of_ble_eq_true rfl) (fun Γ hC hQ hN => ?_)
  have hC : COK G Γ "Bandplan" cX11_isSound 2 7 170 0 0 [] := hC
  unfold wp_X11_isSound at hq
  show V G Γ 2 0 0 h0 0 [(0, .ref p0)] []
  refine V_aload_n hC dX11_isSound_0 0 rfl ?_
  refine U_getR hC fl_X11_54 dX11_isSound_1 hq (fun v1 hq => ?_)
  refine U_getI hC fl_X11_365 dX11_isSound_4 hq (fun v2 hq => ?_)
  have hq := hq (fun (t3 : Int32) => V G Γ 2 0 0 h0 32 [(0, .ref p0)] [.int t3]) (by
    intro t3 hq
    show V G Γ 2 0 0 h0 32 [(0, .ref p0)] [.int t3]
    refine V_istore_n (L' := [(0, .ref p0), (1, .int t3)]) hC dX11_isSound_32 rfl (by decide) [1, 0] rfl ?_
    refine V_iload_n hC dX11_isSound_33 1 rfl ?_
    have hq := hq (V G Γ 2 0 0 h0 71 [] []) (by
      intro hq
      show V G Γ 2 0 0 h0 71 [] []
      refine V_iconst (v := 0) hC dX11_isSound_71 (by decide) ?_
      exact V_iret hC hQ rfl rfl ⟨by decide, by decide⟩ dX11_isSound_72 ⟨_, rfl, rfl, hq⟩)
    refine V_if_eq (tgt := 71) hC dX11_isSound_34 (by decide) (fun hc => ?_) (fun hc => ?_)
    · have hq := hq.1 hc
      refine V_sub [] rfl ?_
      exact hq
    · have hq := hq.2 hc
      refine V_aload_n hC dX11_isSound_37 0 rfl ?_
      refine U_getR hC fl_X11_19 dX11_isSound_38 hq (fun v4 hq => ?_)
      obtain ⟨hz, hq⟩ := hq
      refine clV_X6_holdsToday hG hC sv_X11_368 ⟨by decide, by decide⟩ (Nat.le_of_ble_eq_true rfl) ⟨by decide, by decide⟩ dX11_isSound_41 hz hq (fun r5 hq => ?_)
      show V G Γ 2 0 0 h0 44 [(0, .ref p0), (1, .int t3)] [.int r5]
      refine V_if_eq (tgt := 71) hC dX11_isSound_44 (by decide) (fun hc => ?_) (fun hc => ?_)
      · have hq := hq.1 hc
        refine V_sub [] rfl ?_
        exact hq
      · have hq := hq.2 hc
        refine V_aload_n hC dX11_isSound_47 0 rfl ?_
        refine U_getR hC fl_X11_47 dX11_isSound_48 hq (fun v6 hq => ?_)
        obtain ⟨hz, hq⟩ := hq
        refine clV_X2_isFair hG hC sv_X11_372 ⟨by decide, by decide⟩ (Nat.le_of_ble_eq_true rfl) ⟨by decide, by decide⟩ dX11_isSound_51 hz hq (fun r7 hq => ?_)
        show V G Γ 2 0 0 h0 54 [(0, .ref p0), (1, .int t3)] [.int r7]
        refine V_if_eq (tgt := 71) hC dX11_isSound_54 (by decide) (fun hc => ?_) (fun hc => ?_)
        · have hq := hq.1 hc
          refine V_sub [] rfl ?_
          exact hq
        · have hq := hq.2 hc
          refine V_aload_n hC dX11_isSound_57 0 rfl ?_
          refine U_getR hC fl_X11_40 dX11_isSound_58 hq (fun v8 hq => ?_)
          obtain ⟨hz, hq⟩ := hq
          refine clV_X8_isFair hG hC sv_X11_375 ⟨by decide, by decide⟩ (Nat.le_of_ble_eq_true rfl) ⟨by decide, by decide⟩ dX11_isSound_61 hz hq (fun r9 hq => ?_)
          show V G Γ 2 0 0 h0 64 [(0, .ref p0), (1, .int t3)] [.int r9]
          refine V_if_eq (tgt := 71) hC dX11_isSound_64 (by decide) (fun hc => ?_) (fun hc => ?_)
          · have hq := hq.1 hc
            refine V_sub [] rfl ?_
            exact hq
          · have hq := hq.2 hc
            refine V_iconst (v := 1) hC dX11_isSound_67 (by decide) ?_
            refine V_goto (tgt := 72) hC dX11_isSound_68 (by decide) ?_
            exact V_iret hC hQ rfl rfl ⟨by decide, by decide⟩ dX11_isSound_72 ⟨_, rfl, rfl, hq⟩)
  have hq := hq (V G Γ 2 0 0 h0 27 [(0, .ref p0)] []) (by
    intro hq
    show V G Γ 2 0 0 h0 27 [(0, .ref p0)] []
    refine V_iconst (v := 1) hC dX11_isSound_27 (by decide) ?_
    refine V_goto (tgt := 32) hC dX11_isSound_28 (by decide) ?_
    exact hq)
  refine V_if_ne (tgt := 27) hC dX11_isSound_7 (by decide) (fun hc => ?_) (fun hc => ?_)
  · have hq := hq.1 hc
    exact hq
  · have hq := hq.2 hc
    refine V_aload_n hC dX11_isSound_10 0 rfl ?_
    refine U_getR hC fl_X11_10 dX11_isSound_11 hq (fun v10 hq => ?_)
    refine V_aload_n hC dX11_isSound_14 0 rfl ?_
    refine U_getR hC fl_X11_19 dX11_isSound_15 hq (fun v11 hq => ?_)
    refine U_getR hC fl_X11_154 dX11_isSound_18 hq (fun v12 hq => ?_)
    obtain ⟨hz, hq⟩ := hq
    refine clV_X0_allKeep hG hC sv_X11_217 ⟨by decide, by decide⟩ (Nat.le_of_ble_eq_true rfl) ⟨by decide, by decide⟩ dX11_isSound_21 hz hq (fun r13 hq => ?_)
    show V G Γ 2 0 0 h0 24 [(0, .ref p0)] [.int r13]
    refine V_if_eq (tgt := 31) hC dX11_isSound_24 (by decide) (fun hc => ?_) (fun hc => ?_)
    · have hq := hq.1 hc
      refine V_iconst (v := 0) hC dX11_isSound_31 (by decide) ?_
      exact hq
    · have hq := hq.2 hc
      exact hq
set_option maxRecDepth 100000 in
set_option maxHeartbeats 4000000 in
theorem ct_X12_thrown {G : Gx} (hG : GOK G) (p0 : Nat) (h0 : hw) (post : Int32 → Prop) (hq : wp_X12_thrown G p0 h0 post) : CT G yX12_thrown cX12_thrown 1 (some .int) 1 30 0 0 [.ref p0] h0 (fun v h1 => ∃ r : Int32, v = some (.int r) ∧ h1 = h0 ∧ post r) (fun E h1 => False) := by
  refine CT_of hG (by decide) (Nat.le_of_ble_eq_true rfl) (fun Γ hC hQ hN => ?_)
  have hC : COK G Γ "BandplanModel" cX12_thrown 1 1 30 0 0 [] := hC
  unfold wp_X12_thrown at hq
  show V G Γ 1 0 0 h0 0 [(0, .ref p0)] []
  refine V_aload_n hC dX12_thrown_0 0 rfl ?_
  refine U_getI hC fl_X12_98 dX12_thrown_1 hq (fun v1 hq => ?_)
  exact V_iret hC hQ rfl rfl ⟨by decide, by decide⟩ dX12_thrown_4 ⟨_, rfl, rfl, hq⟩
set_option maxRecDepth 100000 in
set_option maxHeartbeats 4000000 in
theorem ct_X12_in {G : Gx} (hG : GOK G) (p0 : Int32) (p1 : Int32) (p2 : Int32) (h0 : hw) (post : Int32 → Prop) (hq : wp_X12_in G p0 p1 p2 h0 post) : CT G yX12_in cX12_in 3 (some .boolean) 1 30 0 0 [.int p0, .int p1, .int p2] h0 (fun v h1 => ∃ r : Int32, v = some (.int r) ∧ h1 = h0 ∧ post r) (fun E h1 => False) := by
  refine CT_of hG (by decide) (Nat.le_of_ble_eq_true rfl) (fun Γ hC hQ hN => ?_)
  have hC : COK G Γ "BandplanModel" cX12_in 3 1 30 0 0 [] := hC
  unfold wp_X12_in at hq
  show V G Γ 3 0 0 h0 0 [(0, .int p0), (1, .int p1), (2, .int p2)] []
  refine V_iload_n hC dX12_in_0 0 rfl ?_
  refine V_iload_n hC dX12_in_1 1 rfl ?_
  have hq := hq (V G Γ 3 0 0 h0 14 [] []) (by
    intro hq
    show V G Γ 3 0 0 h0 14 [] []
    refine V_iconst (v := 0) hC dX12_in_14 (by decide) ?_
    exact V_iret hC hQ rfl rfl ⟨by decide, by decide⟩ dX12_in_15 ⟨_, rfl, rfl, hq⟩)
  refine V_icmp_lt (tgt := 14) hC dX12_in_2 (by decide) (fun hc => ?_) (fun hc => ?_)
  · have hq := hq.1 hc
    refine V_sub [] rfl ?_
    exact hq
  · have hq := hq.2 hc
    refine V_iload_n hC dX12_in_5 0 rfl ?_
    refine V_iload_n hC dX12_in_6 2 rfl ?_
    refine V_icmp_gt (tgt := 14) hC dX12_in_7 (by decide) (fun hc => ?_) (fun hc => ?_)
    · have hq := hq.1 hc
      refine V_sub [] rfl ?_
      exact hq
    · have hq := hq.2 hc
      refine V_iconst (v := 1) hC dX12_in_10 (by decide) ?_
      refine V_goto (tgt := 15) hC dX12_in_11 (by decide) ?_
      exact V_iret hC hQ rfl rfl ⟨by decide, by decide⟩ dX12_in_15 ⟨_, rfl, rfl, hq⟩
theorem clS_X12_in {G : Gx} (hG : GOK G) {Γ : Cx} {own : String} {cc : ByteArray} {nL fr lo mc ms cells slots pc : Nat} {hh : List (Nat × Nat × Nat × Nat)} {h : hw} {L : List (Nat × Value)} {rest : List Value} (hC : COK G Γ own cc nL fr lo mc ms hh) {idx : Nat} (hs : SS own idx yX12_in cX12_in 3 (some .boolean) 3) {p0 : Int32} {p1 : Int32} {p2 : Int32} (hR : 1 + 1 ≤ fr ∧ 8 + (3 + 11) + 30 ≤ lo) (hw8 : (rest.map fun v => v.category).sum ≤ 8) (hcs : cells + 0 ≤ mc ∧ slots + 0 ≤ ms) (hdg : decode cc pc = .ok (.invokestatic idx, 3)) {post : Int32 → Prop} (hq : wp_X12_in G p0 p1 p2 h post) (kk : ∀ (r : Int32) , post r → V G Γ nL (cells + 0) (slots + 0) h (pc + 3) L (.int r :: rest)) : V G Γ nL cells slots h pc L (.int p2 :: .int p1 :: .int p0 :: rest) :=
  V_callS (As := [.int p0, .int p1, .int p2]) hC (ct_X12_in hG p0 p1 p2 h post hq) hs rfl hR hw8 hcs hdg (fun E h1 z => z.elim) (fun v h1 z => by obtain ⟨r, rfl, rfl, hz⟩ := z; exact kk r hz)
set_option maxRecDepth 100000 in
set_option maxHeartbeats 4000000 in
theorem ct_X12_fails {G : Gx} (hG : GOK G) (p0 : Nat) (p1 : Int32) (p2 : Int32) (h0 : hw) (post : Int32 → hw → Prop) (hq : wp_X12_fails G p0 p1 p2 h0 post) : CT G yX12_fails cX12_fails 3 (some .boolean) 1 30 0 0 [.ref p0, .int p1, .int p2] h0 (fun v h1 => ∃ r : Int32, v = some (.int r) ∧ post r h1) (fun E h1 => False) := by
  refine CT_of hG (by decide) (Nat.le_of_ble_eq_true rfl) (fun Γ hC hQ hN => ?_)
  have hC : COK G Γ "BandplanModel" cX12_fails 3 1 30 0 0 [] := hC
  unfold wp_X12_fails at hq
  show V G Γ 3 0 0 h0 0 [(0, .ref p0), (1, .int p1), (2, .int p2)] []
  refine V_iload_n hC dX12_fails_0 1 rfl ?_
  have hq := hq (fun (h1 : hw) => V G Γ 3 0 0 h1 16 [(0, .ref p0)] []) (by
    intro h1 hq
    show V G Γ 3 0 0 h1 16 [(0, .ref p0)] []
    refine V_aload_n hC dX12_fails_16 0 rfl ?_
    refine U_getI hC fl_X12_98 dX12_fails_17 hq (fun v2 hq => ?_)
    refine V_if_eq (tgt := 27) hC dX12_fails_20 (by decide) (fun hc => ?_) (fun hc => ?_)
    · have hq := hq.1 hc
      refine V_iconst (v := 0) hC dX12_fails_27 (by decide) ?_
      exact V_iret hC hQ rfl rfl ⟨by decide, by decide⟩ dX12_fails_28 ⟨_, rfl, hq⟩
    · have hq := hq.2 hc
      refine V_iconst (v := 1) hC dX12_fails_23 (by decide) ?_
      refine V_goto (tgt := 28) hC dX12_fails_24 (by decide) ?_
      exact V_iret hC hQ rfl rfl ⟨by decide, by decide⟩ dX12_fails_28 ⟨_, rfl, hq⟩)
  refine V_if_eq (tgt := 16) hC dX12_fails_1 (by decide) (fun hc => ?_) (fun hc => ?_)
  · have hq := hq.1 hc
    refine V_sub [0] rfl ?_
    exact hq
  · have hq := hq.2 hc
    refine V_aload_n hC dX12_fails_4 0 rfl ?_
    refine U_getI hC fl_X12_98 dX12_fails_5 hq (fun v3 hq => ?_)
    refine V_if_ne (tgt := 16) hC dX12_fails_8 (by decide) (fun hc => ?_) (fun hc => ?_)
    · have hq := hq.1 hc
      refine V_sub [0] rfl ?_
      exact hq
    · have hq := hq.2 hc
      refine V_aload_n hC dX12_fails_11 0 rfl ?_
      refine V_iload_n hC dX12_fails_12 2 rfl ?_
      refine U_put hC fl_X12_98 fin_X12_0 rfl rfl dX12_fails_13 hq (fun h4 hq => ?_)
      refine V_sub [0] rfl ?_
      exact hq
theorem clV_X12_fails {G : Gx} (hG : GOK G) {Γ : Cx} {own : String} {cc : ByteArray} {nL fr lo mc ms cells slots pc : Nat} {hh : List (Nat × Nat × Nat × Nat)} {h : hw} {L : List (Nat × Value)} {rest : List Value} (hC : COK G Γ own cc nL fr lo mc ms hh) {idx : Nat} (hs : SV own idx yX12_fails cX12_fails 3 (some .boolean) 2) {p0 : Nat} {p1 : Int32} {p2 : Int32} (hR : 1 + 1 ≤ fr ∧ 8 + (3 + 11) + 30 ≤ lo) (hw8 : (rest.map fun v => v.category).sum ≤ 8) (hcs : cells + 0 ≤ mc ∧ slots + 0 ≤ ms) (hdg : decode cc pc = .ok (.invokevirtual idx, 3)) (ho : isO h p0 12) {post : Int32 → hw → Prop} (hq : wp_X12_fails G p0 p1 p2 h post) (kk : ∀ (r : Int32) (h1 : hw) , post r h1 → V G Γ nL (cells + 0) (slots + 0) h1 (pc + 3) L (.int r :: rest)) : V G Γ nL cells slots h pc L (.int p2 :: .int p1 :: .ref p0 :: rest) :=
  V_callV (As := [.int p1, .int p2]) (r9 := (RX12, TX12, 36)) hC (ct_X12_fails hG p0 p1 p2 h post hq) hs ho rfl rfl rfl hR hw8 hcs hdg (fun E h1 z => z.elim) (fun v h1 z => by obtain ⟨r, rfl, hz⟩ := z; exact kk r h1 hz)
set_option maxRecDepth 100000 in
set_option maxHeartbeats 4000000 in
theorem ct_X12_noCell {G : Gx} (hG : GOK G) (p0 : Int32) (p1 : Int32) (h0 : hw) (post : Int32 → Prop) (hq : wp_X12_noCell G p0 p1 h0 post) : CT G yX12_noCell cX12_noCell 2 (some .boolean) 2 52 0 0 [.int p0, .int p1] h0 (fun v h1 => ∃ r : Int32, v = some (.int r) ∧ h1 = h0 ∧ post r) (fun E h1 => False) := by
  refine CT_of hG (by decide) (Nat.le_of_ble_eq_true rfl) (fun Γ hC hQ hN => ?_)
  have hC : COK G Γ "BandplanModel" cX12_noCell 2 2 52 0 0 [] := hC
  unfold wp_X12_noCell at hq
  show V G Γ 2 0 0 h0 0 [(0, .int p0), (1, .int p1)] []
  refine V_iload_n hC dX12_noCell_0 0 rfl ?_
  refine V_iconst (v := 0) hC dX12_noCell_1 (by decide) ?_
  refine V_bipush (v := 19) hC dX12_noCell_2 (by decide) ?_
  refine clS_X12_in hG hC ss_X12_101 ⟨by decide, by decide⟩ (Nat.le_of_ble_eq_true rfl) ⟨by decide, by decide⟩ dX12_noCell_4 hq (fun r1 hq => ?_)
  show V G Γ 2 0 0 h0 7 [(0, .int p0), (1, .int p1)] [.int r1]
  have hq := hq (V G Γ 2 0 0 h0 20 [] []) (by
    intro hq
    show V G Γ 2 0 0 h0 20 [] []
    refine V_iconst (v := 1) hC dX12_noCell_20 (by decide) ?_
    refine V_goto (tgt := 25) hC dX12_noCell_21 (by decide) ?_
    exact V_iret hC hQ rfl rfl ⟨by decide, by decide⟩ dX12_noCell_25 ⟨_, rfl, rfl, hq⟩)
  refine V_if_eq (tgt := 20) hC dX12_noCell_7 (by decide) (fun hc => ?_) (fun hc => ?_)
  · have hq := hq.1 hc
    refine V_sub [] rfl ?_
    exact hq
  · have hq := hq.2 hc
    refine V_iload_n hC dX12_noCell_10 1 rfl ?_
    refine V_iconst (v := 0) hC dX12_noCell_11 (by decide) ?_
    refine V_bipush (v := 19) hC dX12_noCell_12 (by decide) ?_
    refine clS_X12_in hG hC ss_X12_101 ⟨by decide, by decide⟩ (Nat.le_of_ble_eq_true rfl) ⟨by decide, by decide⟩ dX12_noCell_14 hq (fun r2 hq => ?_)
    show V G Γ 2 0 0 h0 17 [(0, .int p0), (1, .int p1)] [.int r2]
    refine V_if_ne (tgt := 24) hC dX12_noCell_17 (by decide) (fun hc => ?_) (fun hc => ?_)
    · have hq := hq.1 hc
      refine V_iconst (v := 0) hC dX12_noCell_24 (by decide) ?_
      exact V_iret hC hQ rfl rfl ⟨by decide, by decide⟩ dX12_noCell_25 ⟨_, rfl, rfl, hq⟩
    · have hq := hq.2 hc
      refine V_sub [] rfl ?_
      exact hq
theorem clS_X12_noCell {G : Gx} (hG : GOK G) {Γ : Cx} {own : String} {cc : ByteArray} {nL fr lo mc ms cells slots pc : Nat} {hh : List (Nat × Nat × Nat × Nat)} {h : hw} {L : List (Nat × Value)} {rest : List Value} (hC : COK G Γ own cc nL fr lo mc ms hh) {idx : Nat} (hs : SS own idx yX12_noCell cX12_noCell 2 (some .boolean) 2) {p0 : Int32} {p1 : Int32} (hR : 2 + 1 ≤ fr ∧ 8 + (2 + 11) + 52 ≤ lo) (hw8 : (rest.map fun v => v.category).sum ≤ 8) (hcs : cells + 0 ≤ mc ∧ slots + 0 ≤ ms) (hdg : decode cc pc = .ok (.invokestatic idx, 3)) {post : Int32 → Prop} (hq : wp_X12_noCell G p0 p1 h post) (kk : ∀ (r : Int32) , post r → V G Γ nL (cells + 0) (slots + 0) h (pc + 3) L (.int r :: rest)) : V G Γ nL cells slots h pc L (.int p1 :: .int p0 :: rest) :=
  V_callS (As := [.int p0, .int p1]) hC (ct_X12_noCell hG p0 p1 h post hq) hs rfl hR hw8 hcs hdg (fun E h1 z => z.elim) (fun v h1 z => by obtain ⟨r, rfl, rfl, hz⟩ := z; exact kk r hz)
set_option maxRecDepth 100000 in
set_option maxHeartbeats 4000000 in
theorem ct_X12_noSite {G : Gx} (hG : GOK G) (p0 : Nat) (p1 : Int32) (h0 : hw) (post : Int32 → Prop) (hq : wp_X12_noSite G p0 p1 h0 post) : CT G yX12_noSite cX12_noSite 2 (some .boolean) 2 52 0 0 [.ref p0, .int p1] h0 (fun v h1 => ∃ r : Int32, v = some (.int r) ∧ h1 = h0 ∧ post r) (fun E h1 => False) := by
  refine CT_of hG (by decide) (Nat.le_of_ble_eq_true rfl) (fun Γ hC hQ hN => ?_)
  have hC : COK G Γ "BandplanModel" cX12_noSite 2 2 52 0 0 [] := hC
  unfold wp_X12_noSite at hq
  show V G Γ 2 0 0 h0 0 [(0, .ref p0), (1, .int p1)] []
  refine V_iload_n hC dX12_noSite_0 1 rfl ?_
  refine V_iconst (v := 0) hC dX12_noSite_1 (by decide) ?_
  refine V_aload_n hC dX12_noSite_2 0 rfl ?_
  refine U_getI hC fl_X12_105 dX12_noSite_3 hq (fun v1 hq => ?_)
  refine V_iconst (v := 1) hC dX12_noSite_6 (by decide) ?_
  refine V_isub hC dX12_noSite_7 ?_
  refine clS_X12_in hG hC ss_X12_101 ⟨by decide, by decide⟩ (Nat.le_of_ble_eq_true rfl) ⟨by decide, by decide⟩ dX12_noSite_8 hq (fun r2 hq => ?_)
  show V G Γ 2 0 0 h0 11 [(0, .ref p0), (1, .int p1)] [.int r2]
  refine V_if_ne (tgt := 18) hC dX12_noSite_11 (by decide) (fun hc => ?_) (fun hc => ?_)
  · have hq := hq.1 hc
    refine V_iconst (v := 0) hC dX12_noSite_18 (by decide) ?_
    exact V_iret hC hQ rfl rfl ⟨by decide, by decide⟩ dX12_noSite_19 ⟨_, rfl, rfl, hq⟩
  · have hq := hq.2 hc
    refine V_iconst (v := 1) hC dX12_noSite_14 (by decide) ?_
    refine V_goto (tgt := 19) hC dX12_noSite_15 (by decide) ?_
    exact V_iret hC hQ rfl rfl ⟨by decide, by decide⟩ dX12_noSite_19 ⟨_, rfl, rfl, hq⟩
theorem clV_X12_noSite {G : Gx} (hG : GOK G) {Γ : Cx} {own : String} {cc : ByteArray} {nL fr lo mc ms cells slots pc : Nat} {hh : List (Nat × Nat × Nat × Nat)} {h : hw} {L : List (Nat × Value)} {rest : List Value} (hC : COK G Γ own cc nL fr lo mc ms hh) {idx : Nat} (hs : SV own idx yX12_noSite cX12_noSite 2 (some .boolean) 1) {p0 : Nat} {p1 : Int32} (hR : 2 + 1 ≤ fr ∧ 8 + (2 + 11) + 52 ≤ lo) (hw8 : (rest.map fun v => v.category).sum ≤ 8) (hcs : cells + 0 ≤ mc ∧ slots + 0 ≤ ms) (hdg : decode cc pc = .ok (.invokevirtual idx, 3)) (ho : isO h p0 12) {post : Int32 → Prop} (hq : wp_X12_noSite G p0 p1 h post) (kk : ∀ (r : Int32) , post r → V G Γ nL (cells + 0) (slots + 0) h (pc + 3) L (.int r :: rest)) : V G Γ nL cells slots h pc L (.int p1 :: .ref p0 :: rest) :=
  V_callV (As := [.int p1]) (r9 := (RX12, TX12, 36)) hC (ct_X12_noSite hG p0 p1 h post hq) hs ho rfl rfl rfl hR hw8 hcs hdg (fun E h1 z => z.elim) (fun v h1 z => by obtain ⟨r, rfl, rfl, hz⟩ := z; exact kk r hz)
set_option maxRecDepth 100000 in
set_option maxHeartbeats 4000000 in
theorem ct_X12_no {G : Gx} (hG : GOK G) (p0 : Nat) (p1 : Int32) (h0 : hw) (post : Int32 → Prop) (hq : wp_X12_no G p0 p1 h0 post) : CT G yX12_no cX12_no 2 (some .boolean) 2 52 0 0 [.ref p0, .int p1] h0 (fun v h1 => ∃ r : Int32, v = some (.int r) ∧ h1 = h0 ∧ post r) (fun E h1 => False) := by
  refine CT_of hG (by decide) (Nat.le_of_ble_eq_true rfl) (fun Γ hC hQ hN => ?_)
  have hC : COK G Γ "BandplanModel" cX12_no 2 2 52 0 0 [] := hC
  unfold wp_X12_no at hq
  show V G Γ 2 0 0 h0 0 [(0, .ref p0), (1, .int p1)] []
  refine V_iload_n hC dX12_no_0 1 rfl ?_
  refine V_iconst (v := 0) hC dX12_no_1 (by decide) ?_
  refine V_aload_n hC dX12_no_2 0 rfl ?_
  refine U_getI hC fl_X12_108 dX12_no_3 hq (fun v1 hq => ?_)
  refine V_iconst (v := 1) hC dX12_no_6 (by decide) ?_
  refine V_isub hC dX12_no_7 ?_
  refine clS_X12_in hG hC ss_X12_101 ⟨by decide, by decide⟩ (Nat.le_of_ble_eq_true rfl) ⟨by decide, by decide⟩ dX12_no_8 hq (fun r2 hq => ?_)
  show V G Γ 2 0 0 h0 11 [(0, .ref p0), (1, .int p1)] [.int r2]
  refine V_if_ne (tgt := 18) hC dX12_no_11 (by decide) (fun hc => ?_) (fun hc => ?_)
  · have hq := hq.1 hc
    refine V_iconst (v := 0) hC dX12_no_18 (by decide) ?_
    exact V_iret hC hQ rfl rfl ⟨by decide, by decide⟩ dX12_no_19 ⟨_, rfl, rfl, hq⟩
  · have hq := hq.2 hc
    refine V_iconst (v := 1) hC dX12_no_14 (by decide) ?_
    refine V_goto (tgt := 19) hC dX12_no_15 (by decide) ?_
    exact V_iret hC hQ rfl rfl ⟨by decide, by decide⟩ dX12_no_19 ⟨_, rfl, rfl, hq⟩
theorem clV_X12_no {G : Gx} (hG : GOK G) {Γ : Cx} {own : String} {cc : ByteArray} {nL fr lo mc ms cells slots pc : Nat} {hh : List (Nat × Nat × Nat × Nat)} {h : hw} {L : List (Nat × Value)} {rest : List Value} (hC : COK G Γ own cc nL fr lo mc ms hh) {idx : Nat} (hs : SV own idx yX12_no cX12_no 2 (some .boolean) 1) {p0 : Nat} {p1 : Int32} (hR : 2 + 1 ≤ fr ∧ 8 + (2 + 11) + 52 ≤ lo) (hw8 : (rest.map fun v => v.category).sum ≤ 8) (hcs : cells + 0 ≤ mc ∧ slots + 0 ≤ ms) (hdg : decode cc pc = .ok (.invokevirtual idx, 3)) (ho : isO h p0 12) {post : Int32 → Prop} (hq : wp_X12_no G p0 p1 h post) (kk : ∀ (r : Int32) , post r → V G Γ nL (cells + 0) (slots + 0) h (pc + 3) L (.int r :: rest)) : V G Γ nL cells slots h pc L (.int p1 :: .ref p0 :: rest) :=
  V_callV (As := [.int p1]) (r9 := (RX12, TX12, 36)) hC (ct_X12_no hG p0 p1 h post hq) hs ho rfl rfl rfl hR hw8 hcs hdg (fun E h1 z => z.elim) (fun v h1 z => by obtain ⟨r, rfl, rfl, hz⟩ := z; exact kk r hz)
