set_option maxRecDepth 100000 in
set_option maxHeartbeats 4000000 in
theorem ct_X12_areAllKept {G : Gx} (hG : GOK G) (p0 : Nat) (h0 : hw) (post : Int32 → Prop) (hq : wp_X12_areAllKept G p0 h0 post) : CT G yX12_areAllKept cX12_areAllKept 3 (some .boolean) 6 163 0 0 [.ref p0] h0 (fun v h1 => ∃ r : Int32, v = some (.int r) ∧ h1 = h0 ∧ post r) (fun E h1 => False) := by
  refine CT_of hG (by decide) (Nat.le_of_ble_eq_true rfl) (fun Γ hC hQ hN => ?_)
  have hC : COK G Γ "BandplanModel" cX12_areAllKept 3 6 163 0 0 [] := hC
  unfold wp_X12_areAllKept at hq
  show V G Γ 3 0 0 h0 0 [(0, .ref p0)] []
  refine V_iconst (v := 1) hC dX12_areAllKept_0 (by decide) ?_
  refine V_istore_n (L' := [(0, .ref p0), (1, .int 1)]) hC dX12_areAllKept_1 rfl (by decide) [1, 0] rfl ?_
  refine V_iconst (v := 0) hC dX12_areAllKept_2 (by decide) ?_
  refine V_istore_n (L' := [(0, .ref p0), (1, .int 1), (2, .int 0)]) hC dX12_areAllKept_3 rfl (by decide) [1, 2, 0] rfl ?_
  have hq := hq (fun (x1_1 : Int32) (x2_2 : Int32) => V G Γ 3 0 0 h0 4 [(0, .ref p0), (1, .int x1_1), (2, .int x2_2)] []) (by
    intro x1_1 x2_2 hq
    show V G Γ 3 0 0 h0 4 [(0, .ref p0), (1, .int x1_1), (2, .int x2_2)] []
    refine V_iload_n hC dX12_areAllKept_4 2 rfl ?_
    refine V_aload_n hC dX12_areAllKept_5 0 rfl ?_
    refine U_getI hC fl_X12_108 dX12_areAllKept_6 hq (fun v3 hq => ?_)
    refine V_icmp_ge (tgt := 55) hC dX12_areAllKept_9 (by decide) (fun hc => ?_) (fun hc => ?_)
    · have hq := hq.1 hc
      refine V_iload_n hC dX12_areAllKept_55 1 rfl ?_
      obtain ⟨hz, hq⟩ := hq
      exact V_iret hC hQ rfl (nar_b hz) ⟨by decide, by decide⟩ dX12_areAllKept_56 ⟨_, rfl, rfl, hq⟩
    · have hq := hq.2 hc
      refine V_iload_n hC dX12_areAllKept_12 1 rfl ?_
      have hq := hq (fun (t4 : Int32) => V G Γ 3 0 0 h0 48 [(0, .ref p0), (2, .int x2_2)] [.int t4]) (by
        intro t4 hq
        show V G Γ 3 0 0 h0 48 [(0, .ref p0), (2, .int x2_2)] [.int t4]
        refine V_istore_n (L' := [(0, .ref p0), (1, .int t4), (2, .int x2_2)]) hC dX12_areAllKept_48 rfl (by decide) [1, 0, 2] rfl ?_
        refine V_iinc (j := 2) (v := (x2_2 + 1)) (L' := [(0, .ref p0), (1, .int t4), (2, .int (x2_2 + 1))]) hC dX12_areAllKept_49 rfl rfl (by decide) [1, 2, 0] rfl ?_
        refine V_goto (tgt := 4) hC dX12_areAllKept_52 (by decide) ?_
        exact hq)
      have hq := hq (V G Γ 3 0 0 h0 47 [(0, .ref p0), (2, .int x2_2)] []) (by
        intro hq
        show V G Γ 3 0 0 h0 47 [(0, .ref p0), (2, .int x2_2)] []
        refine V_iconst (v := 0) hC dX12_areAllKept_47 (by decide) ?_
        exact hq)
      refine V_if_eq (tgt := 47) hC dX12_areAllKept_13 (by decide) (fun hc => ?_) (fun hc => ?_)
      · have hq := hq.1 hc
        refine V_sub [0, 2] rfl ?_
        exact hq
      · have hq := hq.2 hc
        refine V_aload_n hC dX12_areAllKept_16 0 rfl ?_
        refine U_getR hC fl_X12_35 dX12_areAllKept_17 hq (fun v5 hq => ?_)
        refine V_iload_n hC dX12_areAllKept_20 2 rfl ?_
        refine U_ldZ hC dX12_areAllKept_21 hq (fun v6 hq => ?_)
        have hq := hq (V G Γ 3 0 0 h0 43 [(0, .ref p0), (2, .int x2_2)] []) (by
          intro hq
          show V G Γ 3 0 0 h0 43 [(0, .ref p0), (2, .int x2_2)] []
          refine V_iconst (v := 1) hC dX12_areAllKept_43 (by decide) ?_
          refine V_goto (tgt := 48) hC dX12_areAllKept_44 (by decide) ?_
          exact hq)
        refine V_if_eq (tgt := 43) hC dX12_areAllKept_22 (by decide) (fun hc => ?_) (fun hc => ?_)
        · have hq := hq.1 hc
          refine V_sub [0, 2] rfl ?_
          exact hq
        · have hq := hq.2 hc
          refine V_aload_n hC dX12_areAllKept_25 0 rfl ?_
          refine U_getR hC fl_X12_39 dX12_areAllKept_26 hq (fun v7 hq => ?_)
          refine V_iload_n hC dX12_areAllKept_29 2 rfl ?_
          refine U_ldI hC dX12_areAllKept_30 hq (fun v8 hq => ?_)
          refine V_iconst (v := (-1)) hC dX12_areAllKept_31 (by decide) ?_
          refine V_icmp_eq (tgt := 43) hC dX12_areAllKept_32 (by decide) (fun hc => ?_) (fun hc => ?_)
          · have hq := hq.1 hc
            refine V_sub [0, 2] rfl ?_
            exact hq
          · have hq := hq.2 hc
            refine V_aload_n hC dX12_areAllKept_35 0 rfl ?_
            refine V_iload_n hC dX12_areAllKept_36 2 rfl ?_
            obtain ⟨hz, hq⟩ := hq
            refine clV_X12_keepsLevel hG hC sv_X12_172 ⟨by decide, by decide⟩ (Nat.le_of_ble_eq_true rfl) ⟨by decide, by decide⟩ dX12_areAllKept_37 hz hq (fun r9 hq => ?_)
            show V G Γ 3 0 0 h0 40 [(0, .ref p0), (1, .int x1_1), (2, .int x2_2)] [.int r9]
            refine V_if_eq (tgt := 47) hC dX12_areAllKept_40 (by decide) (fun hc => ?_) (fun hc => ?_)
            · have hq := hq.1 hc
              refine V_sub [0, 2] rfl ?_
              exact hq
            · have hq := hq.2 hc
              refine V_sub [0, 2] rfl ?_
              exact hq)
  exact hq
theorem clV_X12_areAllKept {G : Gx} (hG : GOK G) {Γ : Cx} {own : String} {cc : ByteArray} {nL fr lo mc ms cells slots pc : Nat} {hh : List (Nat × Nat × Nat × Nat)} {h : hw} {L : List (Nat × Value)} {rest : List Value} (hC : COK G Γ own cc nL fr lo mc ms hh) {idx : Nat} (hs : SV own idx yX12_areAllKept cX12_areAllKept 3 (some .boolean) 0) {p0 : Nat} (hR : 6 + 1 ≤ fr ∧ 8 + (3 + 11) + 163 ≤ lo) (hw8 : (rest.map fun v => v.category).sum ≤ 8) (hcs : cells + 0 ≤ mc ∧ slots + 0 ≤ ms) (hdg : decode cc pc = .ok (.invokevirtual idx, 3)) (ho : isO h p0 12) {post : Int32 → Prop} (hq : wp_X12_areAllKept G p0 h post) (kk : ∀ (r : Int32) , post r → V G Γ nL (cells + 0) (slots + 0) h (pc + 3) L (.int r :: rest)) : V G Γ nL cells slots h pc L (.ref p0 :: rest) :=
  V_callV (As := []) (r9 := (RX12, TX12, 36)) hC (ct_X12_areAllKept hG p0 h post hq) hs ho rfl rfl rfl hR hw8 hcs hdg (fun E h1 z => z.elim) (fun v h1 z => by obtain ⟨r, rfl, rfl, hz⟩ := z; exact kk r hz)
set_option maxRecDepth 100000 in
set_option maxHeartbeats 4000000 in
theorem ct_X12_goesOffFor {G : Gx} (hG : GOK G) (p0 : Nat) (p1 : Int32) (p2 : Int32) (p3 : Int32) (h0 : hw) (post : Int32 → Prop) (hq : wp_X12_goesOffFor G p0 p1 p2 p3 h0 post) : CT G yX12_goesOffFor cX12_goesOffFor 4 (some .boolean) 5 143 0 0 [.ref p0, .int p1, .int p2, .int p3] h0 (fun v h1 => ∃ r : Int32, v = some (.int r) ∧ h1 = h0 ∧ post r) (fun E h1 => False) := by
  refine CT_of hG (by decide) (Nat.le_of_ble_eq_true rfl) (fun Γ hC hQ hN => ?_)
  have hC : COK G Γ "BandplanModel" cX12_goesOffFor 4 5 143 0 0 [] := hC
  unfold wp_X12_goesOffFor at hq
  show V G Γ 4 0 0 h0 0 [(0, .ref p0), (1, .int p1), (2, .int p2), (3, .int p3)] []
  refine V_aload_n hC dX12_goesOffFor_0 0 rfl ?_
  refine U_getR hC fl_X12_35 dX12_goesOffFor_1 hq (fun v1 hq => ?_)
  refine V_iload_n hC dX12_goesOffFor_4 2 rfl ?_
  refine U_ldZ hC dX12_goesOffFor_5 hq (fun v2 hq => ?_)
  have hq := hq (V G Γ 4 0 0 h0 53 [] []) (by
    intro hq
    show V G Γ 4 0 0 h0 53 [] []
    refine V_iconst (v := 0) hC dX12_goesOffFor_53 (by decide) ?_
    exact V_iret hC hQ rfl rfl ⟨by decide, by decide⟩ dX12_goesOffFor_54 ⟨_, rfl, rfl, hq⟩)
  refine V_if_eq (tgt := 53) hC dX12_goesOffFor_6 (by decide) (fun hc => ?_) (fun hc => ?_)
  · have hq := hq.1 hc
    refine V_sub [] rfl ?_
    exact hq
  · have hq := hq.2 hc
    refine V_iload_n hC dX12_goesOffFor_9 1 rfl ?_
    refine V_iload_n hC dX12_goesOffFor_10 2 rfl ?_
    refine V_icmp_eq (tgt := 53) hC dX12_goesOffFor_11 (by decide) (fun hc => ?_) (fun hc => ?_)
    · have hq := hq.1 hc
      refine V_sub [] rfl ?_
      exact hq
    · have hq := hq.2 hc
      refine V_aload_n hC dX12_goesOffFor_14 0 rfl ?_
      refine U_getR hC fl_X12_35 dX12_goesOffFor_15 hq (fun v3 hq => ?_)
      refine V_iload_n hC dX12_goesOffFor_18 1 rfl ?_
      refine U_ldZ hC dX12_goesOffFor_19 hq (fun v4 hq => ?_)
      refine V_if_ne (tgt := 53) hC dX12_goesOffFor_20 (by decide) (fun hc => ?_) (fun hc => ?_)
      · have hq := hq.1 hc
        refine V_sub [] rfl ?_
        exact hq
      · have hq := hq.2 hc
        refine V_aload_n hC dX12_goesOffFor_23 0 rfl ?_
        refine U_getR hC fl_X12_39 dX12_goesOffFor_24 hq (fun v5 hq => ?_)
        refine V_iload_n hC dX12_goesOffFor_27 1 rfl ?_
        refine U_ldI hC dX12_goesOffFor_28 hq (fun v6 hq => ?_)
        refine V_iconst (v := (-1)) hC dX12_goesOffFor_29 (by decide) ?_
        refine V_icmp_eq (tgt := 53) hC dX12_goesOffFor_30 (by decide) (fun hc => ?_) (fun hc => ?_)
        · have hq := hq.1 hc
          refine V_sub [] rfl ?_
          exact hq
        · have hq := hq.2 hc
          refine V_aload_n hC dX12_goesOffFor_33 0 rfl ?_
          refine V_iload_n hC dX12_goesOffFor_34 2 rfl ?_
          refine V_iload_n hC dX12_goesOffFor_35 3 rfl ?_
          refine V_iload_n hC dX12_goesOffFor_36 1 rfl ?_
          refine V_aload_n hC dX12_goesOffFor_37 0 rfl ?_
          refine U_getR hC fl_X12_39 dX12_goesOffFor_38 hq (fun v7 hq => ?_)
          refine V_iload_n hC dX12_goesOffFor_41 1 rfl ?_
          refine U_ldI hC dX12_goesOffFor_42 hq (fun v8 hq => ?_)
          obtain ⟨hz, hq⟩ := hq
          refine clV_X12_areBarred hG hC sv_X12_178 ⟨by decide, by decide⟩ (Nat.le_of_ble_eq_true rfl) ⟨by decide, by decide⟩ dX12_goesOffFor_43 hz hq (fun r9 hq => ?_)
          show V G Γ 4 0 0 h0 46 [(0, .ref p0), (1, .int p1), (2, .int p2), (3, .int p3)] [.int r9]
          refine V_if_eq (tgt := 53) hC dX12_goesOffFor_46 (by decide) (fun hc => ?_) (fun hc => ?_)
          · have hq := hq.1 hc
            refine V_sub [] rfl ?_
            exact hq
          · have hq := hq.2 hc
            refine V_iconst (v := 1) hC dX12_goesOffFor_49 (by decide) ?_
            refine V_goto (tgt := 54) hC dX12_goesOffFor_50 (by decide) ?_
            exact V_iret hC hQ rfl rfl ⟨by decide, by decide⟩ dX12_goesOffFor_54 ⟨_, rfl, rfl, hq⟩
theorem clV_X12_goesOffFor {G : Gx} (hG : GOK G) {Γ : Cx} {own : String} {cc : ByteArray} {nL fr lo mc ms cells slots pc : Nat} {hh : List (Nat × Nat × Nat × Nat)} {h : hw} {L : List (Nat × Value)} {rest : List Value} (hC : COK G Γ own cc nL fr lo mc ms hh) {idx : Nat} (hs : SV own idx yX12_goesOffFor cX12_goesOffFor 4 (some .boolean) 3) {p0 : Nat} {p1 : Int32} {p2 : Int32} {p3 : Int32} (hR : 5 + 1 ≤ fr ∧ 8 + (4 + 11) + 143 ≤ lo) (hw8 : (rest.map fun v => v.category).sum ≤ 8) (hcs : cells + 0 ≤ mc ∧ slots + 0 ≤ ms) (hdg : decode cc pc = .ok (.invokevirtual idx, 3)) (ho : isO h p0 12) {post : Int32 → Prop} (hq : wp_X12_goesOffFor G p0 p1 p2 p3 h post) (kk : ∀ (r : Int32) , post r → V G Γ nL (cells + 0) (slots + 0) h (pc + 3) L (.int r :: rest)) : V G Γ nL cells slots h pc L (.int p3 :: .int p2 :: .int p1 :: .ref p0 :: rest) :=
  V_callV (As := [.int p1, .int p2, .int p3]) (r9 := (RX12, TX12, 36)) hC (ct_X12_goesOffFor hG p0 p1 p2 p3 h post hq) hs ho rfl rfl rfl hR hw8 hcs hdg (fun E h1 z => z.elim) (fun v h1 z => by obtain ⟨r, rfl, rfl, hz⟩ := z; exact kk r hz)
set_option maxRecDepth 100000 in
set_option maxHeartbeats 4000000 in
theorem ct_X12_putOn {G : Gx} (hG : GOK G) (p0 : Nat) (p1 : Int32) (p2 : Int32) (h0 : hw) (bc bs : Nat) (post : Int32 → hw → Prop) (hq : wp_X12_putOn G p0 p1 p2 h0 bc bs post) : CT G yX12_putOn cX12_putOn 6 (some .int) 9 213 bc bs [.ref p0, .int p1, .int p2] h0 (fun v h1 => ∃ r : Int32, v = some (.int r) ∧ post r h1) (fun E h1 => False) := by
  refine CT_of hG (by decide) (Nat.le_of_ble_eq_true rfl) (fun Γ hC hQ hN => ?_)
  have hC : COK G Γ "BandplanModel" cX12_putOn 6 9 213 bc bs [] := hC
  unfold wp_X12_putOn at hq
  show V G Γ 6 0 0 h0 0 [(0, .ref p0), (1, .int p1), (2, .int p2)] []
  refine V_aload_n hC dX12_putOn_0 0 rfl ?_
  refine V_iconst (v := 0) hC dX12_putOn_1 (by decide) ?_
  refine U_putO hC (by decide) fl_X12_98 fin_X12_0 rfl rfl dX12_putOn_2 hq (fun h1 hq => ?_)
  refine V_aload_n hC dX12_putOn_5 0 rfl ?_
  refine V_aload_n hC dX12_putOn_6 0 rfl ?_
  refine V_iload_n hC dX12_putOn_7 1 rfl ?_
  obtain ⟨hz, hq⟩ := hq
  refine clV_X12_no hG hC sv_X12_153 ⟨by decide, by decide⟩ (Nat.le_of_ble_eq_true rfl) ⟨by omega, by omega⟩ dX12_putOn_8 hz hq (fun r2 hq => ?_)
  show V G Γ 6 0 0 h1 11 [(0, .ref p0), (1, .int p1), (2, .int p2)] [.int r2, .ref p0]
  refine V_iconst (v := 1) hC dX12_putOn_11 (by decide) ?_
  obtain ⟨hz, hq⟩ := hq
  refine clV_X12_fails hG hC sv_X12_115 ⟨by decide, by decide⟩ (Nat.le_of_ble_eq_true rfl) ⟨by omega, by omega⟩ dX12_putOn_12 hz hq (fun r3 h4 hq => ?_)
  show V G Γ 6 0 0 h4 15 [(0, .ref p0), (1, .int p1), (2, .int p2)] [.int r3]
  refine V_if_ne (tgt := 61) hC dX12_putOn_15 (by decide) (fun hc => ?_) (fun hc => ?_)
  · have hq := hq.1 hc
    refine V_iconst (v := 0) hC dX12_putOn_61 (by decide) ?_
    obtain ⟨hz1, hz2, hq⟩ := hq
    exact V_iret hC hQ rfl rfl ⟨hz1, hz2⟩ dX12_putOn_62 ⟨_, rfl, hq⟩
  · have hq := hq.2 hc
    refine V_aload_n hC dX12_putOn_18 0 rfl ?_
    refine V_iload_n hC dX12_putOn_19 2 rfl ?_
    refine clS_X12_noChannel hG hC ss_X12_175 ⟨by decide, by decide⟩ (Nat.le_of_ble_eq_true rfl) ⟨by omega, by omega⟩ dX12_putOn_20 hq (fun r5 hq => ?_)
    show V G Γ 6 0 0 h4 23 [(0, .ref p0), (1, .int p1), (2, .int p2)] [.int r5, .ref p0]
    refine V_iconst (v := 2) hC dX12_putOn_23 (by decide) ?_
    obtain ⟨hz, hq⟩ := hq
    refine clV_X12_fails hG hC sv_X12_115 ⟨by decide, by decide⟩ (Nat.le_of_ble_eq_true rfl) ⟨by omega, by omega⟩ dX12_putOn_24 hz hq (fun r6 h7 hq => ?_)
    show V G Γ 6 0 0 h7 27 [(0, .ref p0), (1, .int p1), (2, .int p2)] [.int r6]
    refine V_if_ne (tgt := 61) hC dX12_putOn_27 (by decide) (fun hc => ?_) (fun hc => ?_)
    · have hq := hq.1 hc
      refine V_iconst (v := 0) hC dX12_putOn_61 (by decide) ?_
      obtain ⟨hz1, hz2, hq⟩ := hq
      exact V_iret hC hQ rfl rfl ⟨hz1, hz2⟩ dX12_putOn_62 ⟨_, rfl, hq⟩
    · have hq := hq.2 hc
      refine V_aload_n hC dX12_putOn_30 0 rfl ?_
      refine V_aload_n hC dX12_putOn_31 0 rfl ?_
      refine V_iload_n hC dX12_putOn_32 1 rfl ?_
      refine V_iload_n hC dX12_putOn_33 2 rfl ?_
      obtain ⟨hz, hq⟩ := hq
      refine clV_X12_needsYes hG hC sv_X12_195 ⟨by decide, by decide⟩ (Nat.le_of_ble_eq_true rfl) ⟨by omega, by omega⟩ dX12_putOn_34 hz hq (fun r8 hq => ?_)
      show V G Γ 6 0 0 h7 37 [(0, .ref p0), (1, .int p1), (2, .int p2)] [.int r8, .ref p0]
      have hq := hq (fun (t9 : Nat) (t10 : Int32) => V G Γ 6 0 0 h7 54 [(0, .ref p0), (1, .int p1), (2, .int p2)] [.int t10, .ref t9]) (by
        intro t9 t10 hq
        show V G Γ 6 0 0 h7 54 [(0, .ref p0), (1, .int p1), (2, .int p2)] [.int t10, .ref t9]
        refine V_iconst (v := 3) hC dX12_putOn_54 (by decide) ?_
        obtain ⟨hz, hq⟩ := hq
        refine clV_X12_fails hG hC sv_X12_115 ⟨by decide, by decide⟩ (Nat.le_of_ble_eq_true rfl) ⟨by omega, by omega⟩ dX12_putOn_55 hz hq (fun r11 h12 hq => ?_)
        show V G Γ 6 0 0 h12 58 [(0, .ref p0), (1, .int p1), (2, .int p2)] [.int r11]
        refine V_if_eq (tgt := 63) hC dX12_putOn_58 (by decide) (fun hc => ?_) (fun hc => ?_)
        · have hq := hq.1 hc
          refine V_iconst (v := 0) hC dX12_putOn_63 (by decide) ?_
          refine V_istore_n (L' := [(0, .ref p0), (1, .int p1), (2, .int p2), (3, .int 0)]) hC dX12_putOn_64 rfl (by decide) [1, 2, 3, 0] rfl ?_
          refine V_iconst (v := 0) hC dX12_putOn_65 (by decide) ?_
          refine V_istore (L' := [(0, .ref p0), (1, .int p1), (2, .int p2), (3, .int 0), (4, .int 0)]) hC dX12_putOn_66 (by decide) [1, 2, 3, 4, 0] rfl ?_
          have hq := hq (fun (x4_13 : Int32) (h14 : hw) => V G Γ 6 0 0 h14 68 [(0, .ref p0), (1, .int p1), (2, .int p2), (3, .int 0), (4, .int x4_13)] []) (by
            intro x4_13 h14 hq
            show V G Γ 6 0 0 h14 68 [(0, .ref p0), (1, .int p1), (2, .int p2), (3, .int 0), (4, .int x4_13)] []
            refine V_iload hC dX12_putOn_68 4 rfl ?_
            refine V_aload_n hC dX12_putOn_70 0 rfl ?_
            refine U_getI hC fl_X12_108 dX12_putOn_71 hq (fun v15 hq => ?_)
            refine V_icmp_ge (tgt := 97) hC dX12_putOn_74 (by decide) (fun hc => ?_) (fun hc => ?_)
            · have hq := hq.1 hc
              refine V_aload_n hC dX12_putOn_97 0 rfl ?_
              refine U_getI hC fl_X12_108 dX12_putOn_98 hq (fun v16 hq => ?_)
              refine V_iconst (v := 1) hC dX12_putOn_101 (by decide) ?_
              refine V_isub hC dX12_putOn_102 ?_
              refine V_istore (L' := [(0, .ref p0), (1, .int p1), (2, .int p2), (3, .int 0), (4, .int (v16 - 1))]) hC dX12_putOn_103 (by decide) [1, 2, 3, 4, 0] rfl ?_
              have hq := hq (fun (x3_17 : Int32) (x4_18 : Int32) (h19 : hw) => V G Γ 6 0 0 h19 105 [(0, .ref p0), (1, .int p1), (2, .int p2), (3, .int x3_17), (4, .int x4_18)] []) (by
                intro x3_17 x4_18 h19 hq
                show V G Γ 6 0 0 h19 105 [(0, .ref p0), (1, .int p1), (2, .int p2), (3, .int x3_17), (4, .int x4_18)] []
                refine V_iload hC dX12_putOn_105 4 rfl ?_
                refine V_if_lt (tgt := 138) hC dX12_putOn_107 (by decide) (fun hc => ?_) (fun hc => ?_)
                · have hq := hq.1 hc
                  refine V_aload_n hC dX12_putOn_138 0 rfl ?_
                  refine U_getR hC fl_X12_39 dX12_putOn_139 hq (fun v20 hq => ?_)
                  refine V_iload_n hC dX12_putOn_142 1 rfl ?_
                  refine V_iload_n hC dX12_putOn_143 2 rfl ?_
                  refine U_stI hC dX12_putOn_144 hq (fun h21 hq => ?_)
                  refine V_aload_n hC dX12_putOn_145 0 rfl ?_
                  obtain ⟨hz, hq⟩ := hq
                  refine clV_X12_areAllKept hG hC sv_X12_204 ⟨by decide, by decide⟩ (Nat.le_of_ble_eq_true rfl) ⟨by omega, by omega⟩ dX12_putOn_146 hz hq (fun r22 hq => ?_)
                  show V G Γ 6 0 0 h21 149 [(0, .ref p0), (1, .int p1), (2, .int p2), (3, .int x3_17), (4, .int x4_18)] [.int r22]
                  refine V_istore (L' := [(0, .ref p0), (1, .int p1), (2, .int p2), (3, .int x3_17), (4, .int r22)]) hC dX12_putOn_149 (by decide) [1, 2, 3, 4, 0] rfl ?_
                  refine V_iconst (v := 0) hC dX12_putOn_151 (by decide) ?_
                  refine V_istore (L' := [(0, .ref p0), (1, .int p1), (2, .int p2), (3, .int x3_17), (4, .int r22), (5, .int 0)]) hC dX12_putOn_152 (by decide) [1, 2, 3, 4, 5, 0] rfl ?_
                  have hq := hq (fun (x5_23 : Int32) (h24 : hw) => V G Γ 6 0 0 h24 154 [(0, .ref p0), (3, .int x3_17), (4, .int r22), (5, .int x5_23)] []) (by
                    intro x5_23 h24 hq
                    show V G Γ 6 0 0 h24 154 [(0, .ref p0), (3, .int x3_17), (4, .int r22), (5, .int x5_23)] []
                    refine V_iload hC dX12_putOn_154 3 rfl ?_
                    refine V_aload_n hC dX12_putOn_156 0 rfl ?_
                    refine U_getI hC fl_X12_108 dX12_putOn_157 hq (fun v25 hq => ?_)
                    refine V_icmp_ge (tgt := 197) hC dX12_putOn_160 (by decide) (fun hc => ?_) (fun hc => ?_)
                    · have hq := hq.1 hc
                      refine V_aload_n hC dX12_putOn_197 0 rfl ?_
                      refine V_iload hC dX12_putOn_198 2 rfl ?_
                      have hq := hq (fun (t26 : Nat) (t27 : Int32) => V G Γ 6 0 0 h24 208 [(0, .ref p0), (3, .int x3_17)] [.int t27, .ref t26]) (by
                        intro t26 t27 hq
                        show V G Γ 6 0 0 h24 208 [(0, .ref p0), (3, .int x3_17)] [.int t27, .ref t26]
                        refine V_iconst (v := 4) hC dX12_putOn_208 (by decide) ?_
                        obtain ⟨hz, hq⟩ := hq
                        refine clV_X12_fails hG hC sv_X12_115 ⟨by decide, by decide⟩ (Nat.le_of_ble_eq_true rfl) ⟨by omega, by omega⟩ dX12_putOn_209 hz hq (fun r28 h29 hq => ?_)
                        show V G Γ 6 0 0 h29 212 [(0, .ref p0), (3, .int x3_17)] [.int r28]
                        refine V_if_eq (tgt := 217) hC dX12_putOn_212 (by decide) (fun hc => ?_) (fun hc => ?_)
                        · have hq := hq.1 hc
                          refine V_iconst (v := 0) hC dX12_putOn_217 (by decide) ?_
                          refine V_istore (L' := [(0, .ref p0), (3, .int x3_17), (5, .int 0)]) hC dX12_putOn_218 (by decide) [1, 2, 0] rfl ?_
                          have hq := hq (fun (x5_30 : Int32) (h31 : hw) (uc32 : Nat) (us33 : Nat) => uc32 ≤ bc → us33 ≤ bs → V G Γ 6 uc32 us33 h31 220 [(0, .ref p0), (3, .int x3_17), (5, .int x5_30)] []) (by
                            intro x5_30 h31 uc32 us33 hq hu1 hu2
                            show V G Γ 6 uc32 us33 h31 220 [(0, .ref p0), (3, .int x3_17), (5, .int x5_30)] []
                            refine V_iload hC dX12_putOn_220 2 rfl ?_
                            refine V_aload_n hC dX12_putOn_222 0 rfl ?_
                            refine U_getI hC fl_X12_108 dX12_putOn_223 hq (fun v34 hq => ?_)
                            refine V_icmp_ge (tgt := 265) hC dX12_putOn_226 (by decide) (fun hc => ?_) (fun hc => ?_)
                            · have hq := hq.1 hc
                              refine V_iload_n hC dX12_putOn_265 1 rfl ?_
                              obtain ⟨hz1, hz2, hq⟩ := hq
                              exact V_iret hC hQ rfl rfl ⟨hz1, hz2⟩ dX12_putOn_266 ⟨_, rfl, hq⟩
                            · have hq := hq.2 hc
                              refine V_aload_n hC dX12_putOn_229 0 rfl ?_
                              refine U_getR hC fl_X12_89 dX12_putOn_230 hq (fun v35 hq => ?_)
                              refine V_iload hC dX12_putOn_233 2 rfl ?_
                              refine U_ldI hC dX12_putOn_235 hq (fun v36 hq => ?_)
                              refine V_aload_n hC dX12_putOn_236 0 rfl ?_
                              refine U_getR hC fl_X12_86 dX12_putOn_237 hq (fun v37 hq => ?_)
                              refine V_iload hC dX12_putOn_240 2 rfl ?_
                              refine U_ldI hC dX12_putOn_242 hq (fun v38 hq => ?_)
                              have hq := hq (fun (h39 : hw) (uc40 : Nat) (us41 : Nat) => uc40 ≤ bc → us41 ≤ bs → V G Γ 6 uc40 us41 h39 259 [(0, .ref p0), (3, .int x3_17), (5, .int x5_30)] []) (by
                                intro h39 uc40 us41 hq hu1 hu2
                                show V G Γ 6 uc40 us41 h39 259 [(0, .ref p0), (3, .int x3_17), (5, .int x5_30)] []
                                refine V_iinc (j := 2) (v := (x5_30 + 1)) (L' := [(0, .ref p0), (3, .int x3_17), (5, .int (x5_30 + 1))]) hC dX12_putOn_259 rfl rfl (by decide) [1, 2, 0] rfl ?_
                                refine V_goto (tgt := 220) hC dX12_putOn_262 (by decide) ?_
                                exact hq (by omega) (by omega))
                              refine V_icmp_eq (tgt := 259) hC dX12_putOn_243 (by decide) (fun hc => ?_) (fun hc => ?_)
                              · have hq := hq.1 hc
                                exact hq (by omega) (by omega)
                              · have hq := hq.2 hc
                                refine V_aload_n hC dX12_putOn_246 0 rfl ?_
                                refine V_iload hC dX12_putOn_247 2 rfl ?_
                                refine V_aload_n hC dX12_putOn_249 0 rfl ?_
                                refine U_getR hC fl_X12_89 dX12_putOn_250 hq (fun v42 hq => ?_)
                                refine V_iload hC dX12_putOn_253 2 rfl ?_
                                refine U_ldI hC dX12_putOn_255 hq (fun v43 hq => ?_)
                                obtain ⟨bc44, bs45, hz1, hz2, hq⟩ := hq
                                obtain ⟨hz, hq⟩ := hq
                                refine clV_X12_set hG hC sv_X12_207 ⟨by decide, by decide⟩ (Nat.le_of_ble_eq_true rfl) ⟨hz1, hz2⟩ dX12_putOn_256 hz hq (fun h46 hq => ?_)
                                show V G Γ 6 (uc32 + bc44) (us33 + bs45) h46 259 [(0, .ref p0), (3, .int x3_17), (5, .int x5_30)] []
                                exact hq (by omega) (by omega))
                          exact hq (by omega) (by omega)
                        · have hq := hq.2 hc
                          refine V_iconst (v := 0) hC dX12_putOn_215 (by decide) ?_
                          obtain ⟨hz1, hz2, hq⟩ := hq
                          exact V_iret hC hQ rfl rfl ⟨hz1, hz2⟩ dX12_putOn_216 ⟨_, rfl, hq⟩)
                      refine V_if_ne (tgt := 207) hC dX12_putOn_200 (by decide) (fun hc => ?_) (fun hc => ?_)
                      · have hq := hq.1 hc
                        refine V_iconst (v := 0) hC dX12_putOn_207 (by decide) ?_
                        refine V_sub [0, 1] rfl ?_
                        exact hq
                      · have hq := hq.2 hc
                        refine V_iconst (v := 1) hC dX12_putOn_203 (by decide) ?_
                        refine V_goto (tgt := 208) hC dX12_putOn_204 (by decide) ?_
                        refine V_sub [0, 1] rfl ?_
                        exact hq
                    · have hq := hq.2 hc
                      refine V_aload_n hC dX12_putOn_163 0 rfl ?_
                      refine U_getR hC fl_X12_89 dX12_putOn_164 hq (fun v47 hq => ?_)
                      refine V_iload hC dX12_putOn_167 3 rfl ?_
                      refine V_aload_n hC dX12_putOn_169 0 rfl ?_
                      refine U_getR hC fl_X12_39 dX12_putOn_170 hq (fun v48 hq => ?_)
                      refine V_iload hC dX12_putOn_173 3 rfl ?_
                      refine U_ldI hC dX12_putOn_175 hq (fun v49 hq => ?_)
                      refine U_stI hC dX12_putOn_176 hq (fun h50 hq => ?_)
                      refine V_aload_n hC dX12_putOn_177 0 rfl ?_
                      refine U_getR hC fl_X12_39 dX12_putOn_178 hq (fun v51 hq => ?_)
                      refine V_iload hC dX12_putOn_181 3 rfl ?_
                      refine V_aload_n hC dX12_putOn_183 0 rfl ?_
                      refine U_getR hC fl_X12_86 dX12_putOn_184 hq (fun v52 hq => ?_)
                      refine V_iload hC dX12_putOn_187 3 rfl ?_
                      refine U_ldI hC dX12_putOn_189 hq (fun v53 hq => ?_)
                      refine U_stI hC dX12_putOn_190 hq (fun h54 hq => ?_)
                      refine V_iinc (j := 3) (v := (x5_23 + 1)) (L' := [(0, .ref p0), (3, .int x3_17), (4, .int r22), (5, .int (x5_23 + 1))]) hC dX12_putOn_191 rfl rfl (by decide) [1, 2, 3, 0] rfl ?_
                      refine V_goto (tgt := 154) hC dX12_putOn_194 (by decide) ?_
                      exact hq)
                  refine V_sub [0, 3, 4, 5] rfl ?_
                  exact hq
                · have hq := hq.2 hc
                  refine V_aload_n hC dX12_putOn_110 0 rfl ?_
                  refine V_iload hC dX12_putOn_111 4 rfl ?_
                  refine V_iload_n hC dX12_putOn_113 1 rfl ?_
                  refine V_iload_n hC dX12_putOn_114 2 rfl ?_
                  obtain ⟨hz, hq⟩ := hq
                  refine clV_X12_goesOffFor hG hC sv_X12_201 ⟨by decide, by decide⟩ (Nat.le_of_ble_eq_true rfl) ⟨by omega, by omega⟩ dX12_putOn_115 hz hq (fun r55 hq => ?_)
                  show V G Γ 6 0 0 h19 118 [(0, .ref p0), (1, .int p1), (2, .int p2), (3, .int x3_17), (4, .int x4_18)] [.int r55]
                  have hq := hq (fun (x3_56 : Int32) (h57 : hw) => V G Γ 6 0 0 h57 132 [(0, .ref p0), (1, .int p1), (2, .int p2), (3, .int x3_56), (4, .int x4_18)] []) (by
                    intro x3_56 h57 hq
                    show V G Γ 6 0 0 h57 132 [(0, .ref p0), (1, .int p1), (2, .int p2), (3, .int x3_56), (4, .int x4_18)] []
                    refine V_iinc (j := 4) (v := (x4_18 + (-1))) (L' := [(0, .ref p0), (1, .int p1), (2, .int p2), (3, .int x3_56), (4, .int (x4_18 + (-1)))]) hC dX12_putOn_132 rfl rfl (by decide) [1, 2, 3, 4, 0] rfl ?_
                    refine V_goto (tgt := 105) hC dX12_putOn_135 (by decide) ?_
                    exact hq)
                  refine V_if_eq (tgt := 132) hC dX12_putOn_118 (by decide) (fun hc => ?_) (fun hc => ?_)
                  · have hq := hq.1 hc
                    exact hq
                  · have hq := hq.2 hc
                    refine V_aload_n hC dX12_putOn_121 0 rfl ?_
                    refine U_getR hC fl_X12_39 dX12_putOn_122 hq (fun v58 hq => ?_)
                    refine V_iload hC dX12_putOn_125 4 rfl ?_
                    refine V_iconst (v := (-1)) hC dX12_putOn_127 (by decide) ?_
                    refine U_stI hC dX12_putOn_128 hq (fun h59 hq => ?_)
                    refine V_iinc (j := 3) (v := (x3_17 + 1)) (L' := [(0, .ref p0), (1, .int p1), (2, .int p2), (3, .int (x3_17 + 1)), (4, .int x4_18)]) hC dX12_putOn_129 rfl rfl (by decide) [1, 2, 3, 0, 4] rfl ?_
                    exact hq)
              exact hq
            · have hq := hq.2 hc
              refine V_aload_n hC dX12_putOn_77 0 rfl ?_
              refine U_getR hC fl_X12_86 dX12_putOn_78 hq (fun v60 hq => ?_)
              refine V_iload hC dX12_putOn_81 4 rfl ?_
              refine V_aload_n hC dX12_putOn_83 0 rfl ?_
              refine U_getR hC fl_X12_39 dX12_putOn_84 hq (fun v61 hq => ?_)
              refine V_iload hC dX12_putOn_87 4 rfl ?_
              refine U_ldI hC dX12_putOn_89 hq (fun v62 hq => ?_)
              refine U_stI hC dX12_putOn_90 hq (fun h63 hq => ?_)
              refine V_iinc (j := 4) (v := (x4_13 + 1)) (L' := [(0, .ref p0), (1, .int p1), (2, .int p2), (3, .int 0), (4, .int (x4_13 + 1))]) hC dX12_putOn_91 rfl rfl (by decide) [1, 2, 3, 4, 0] rfl ?_
              refine V_goto (tgt := 68) hC dX12_putOn_94 (by decide) ?_
              exact hq)
          exact hq
        · have hq := hq.2 hc
          refine V_iconst (v := 0) hC dX12_putOn_61 (by decide) ?_
          obtain ⟨hz1, hz2, hq⟩ := hq
          exact V_iret hC hQ rfl rfl ⟨hz1, hz2⟩ dX12_putOn_62 ⟨_, rfl, hq⟩)
      have hq := hq (fun (t64 : Nat) => V G Γ 6 0 0 h7 53 [(0, .ref p0), (1, .int p1), (2, .int p2)] [.ref t64]) (by
        intro t64 hq
        show V G Γ 6 0 0 h7 53 [(0, .ref p0), (1, .int p1), (2, .int p2)] [.ref t64]
        refine V_iconst (v := 0) hC dX12_putOn_53 (by decide) ?_
        exact hq)
      refine V_if_eq (tgt := 53) hC dX12_putOn_37 (by decide) (fun hc => ?_) (fun hc => ?_)
      · have hq := hq.1 hc
        exact hq
      · have hq := hq.2 hc
        refine V_aload_n hC dX12_putOn_40 0 rfl ?_
        refine V_iload_n hC dX12_putOn_41 1 rfl ?_
        refine V_iload_n hC dX12_putOn_42 2 rfl ?_
        obtain ⟨hz, hq⟩ := hq
        refine clV_X12_hasYesFor hG hC sv_X12_198 ⟨by decide, by decide⟩ (Nat.le_of_ble_eq_true rfl) ⟨by omega, by omega⟩ dX12_putOn_43 hz hq (fun r65 hq => ?_)
        show V G Γ 6 0 0 h7 46 [(0, .ref p0), (1, .int p1), (2, .int p2)] [.int r65, .ref p0]
        refine V_if_ne (tgt := 53) hC dX12_putOn_46 (by decide) (fun hc => ?_) (fun hc => ?_)
        · have hq := hq.1 hc
          exact hq
        · have hq := hq.2 hc
          refine V_iconst (v := 1) hC dX12_putOn_49 (by decide) ?_
          refine V_goto (tgt := 54) hC dX12_putOn_50 (by decide) ?_
          exact hq
theorem clV_X12_putOn {G : Gx} (hG : GOK G) {Γ : Cx} {own : String} {cc : ByteArray} {nL fr lo mc ms cells slots pc : Nat} {hh : List (Nat × Nat × Nat × Nat)} {h : hw} {L : List (Nat × Value)} {rest : List Value} (hC : COK G Γ own cc nL fr lo mc ms hh) {idx : Nat} (hs : SV own idx yX12_putOn cX12_putOn 6 (some .int) 2) {bc bs : Nat} {p0 : Nat} {p1 : Int32} {p2 : Int32} (hR : 9 + 1 ≤ fr ∧ 8 + (6 + 11) + 213 ≤ lo) (hw8 : (rest.map fun v => v.category).sum ≤ 8) (hcs : cells + bc ≤ mc ∧ slots + bs ≤ ms) (hdg : decode cc pc = .ok (.invokevirtual idx, 3)) (ho : isO h p0 12) {post : Int32 → hw → Prop} (hq : wp_X12_putOn G p0 p1 p2 h bc bs post) (kk : ∀ (r : Int32) (h1 : hw) , post r h1 → V G Γ nL (cells + bc) (slots + bs) h1 (pc + 3) L (.int r :: rest)) : V G Γ nL cells slots h pc L (.int p2 :: .int p1 :: .ref p0 :: rest) :=
  V_callV (As := [.int p1, .int p2]) (r9 := (RX12, TX12, 36)) hC (ct_X12_putOn hG p0 p1 p2 h bc bs post hq) hs ho rfl rfl rfl hR hw8 hcs hdg (fun E h1 z => z.elim) (fun v h1 z => by obtain ⟨r, rfl, hz⟩ := z; exact kk r h1 hz)
set_option maxRecDepth 100000 in
set_option maxHeartbeats 4000000 in
theorem ct_X12_putOff {G : Gx} (hG : GOK G) (p0 : Nat) (p1 : Int32) (h0 : hw) (bc bs : Nat) (post : Int32 → hw → Prop) (hq : wp_X12_putOff G p0 p1 h0 bc bs post) : CT G yX12_putOff cX12_putOff 3 (some .int) 9 213 bc bs [.ref p0, .int p1] h0 (fun v h1 => ∃ r : Int32, v = some (.int r) ∧ post r h1) (fun E h1 => False) := by
  refine CT_of hG (by decide) (Nat.le_of_ble_eq_true rfl) (fun Γ hC hQ hN => ?_)
  have hC : COK G Γ "BandplanModel" cX12_putOff 3 9 213 bc bs [] := hC
  unfold wp_X12_putOff at hq
  show V G Γ 3 0 0 h0 0 [(0, .ref p0), (1, .int p1)] []
  refine V_aload_n hC dX12_putOff_0 0 rfl ?_
  refine V_iconst (v := 0) hC dX12_putOff_1 (by decide) ?_
  refine U_putO hC (by decide) fl_X12_98 fin_X12_0 rfl rfl dX12_putOff_2 hq (fun h1 hq => ?_)
  refine V_aload_n hC dX12_putOff_5 0 rfl ?_
  refine V_aload_n hC dX12_putOff_6 0 rfl ?_
  refine V_iload_n hC dX12_putOff_7 1 rfl ?_
  obtain ⟨hz, hq⟩ := hq
  refine clV_X12_no hG hC sv_X12_153 ⟨by decide, by decide⟩ (Nat.le_of_ble_eq_true rfl) ⟨by omega, by omega⟩ dX12_putOff_8 hz hq (fun r2 hq => ?_)
  show V G Γ 3 0 0 h1 11 [(0, .ref p0), (1, .int p1)] [.int r2, .ref p0]
  refine V_iconst (v := 1) hC dX12_putOff_11 (by decide) ?_
  obtain ⟨hz, hq⟩ := hq
  refine clV_X12_fails hG hC sv_X12_115 ⟨by decide, by decide⟩ (Nat.le_of_ble_eq_true rfl) ⟨by omega, by omega⟩ dX12_putOff_12 hz hq (fun r3 h4 hq => ?_)
  show V G Γ 3 0 0 h4 15 [(0, .ref p0), (1, .int p1)] [.int r3]
  refine V_if_eq (tgt := 20) hC dX12_putOff_15 (by decide) (fun hc => ?_) (fun hc => ?_)
  · have hq := hq.1 hc
    refine V_aload_n hC dX12_putOff_20 0 rfl ?_
    refine U_getR hC fl_X12_39 dX12_putOff_21 hq (fun v5 hq => ?_)
    refine V_iload_n hC dX12_putOff_24 1 rfl ?_
    refine U_ldI hC dX12_putOff_25 hq (fun v6 hq => ?_)
    refine V_istore_n (L' := [(0, .ref p0), (1, .int p1), (2, .int v6)]) hC dX12_putOff_26 rfl (by decide) [1, 2, 0] rfl ?_
    refine V_aload_n hC dX12_putOff_27 0 rfl ?_
    refine V_iload_n hC dX12_putOff_28 1 rfl ?_
    refine V_iconst (v := (-1)) hC dX12_putOff_29 (by decide) ?_
    obtain ⟨bc7, bs8, hz1, hz2, hq⟩ := hq
    obtain ⟨hz, hq⟩ := hq
    refine clV_X12_set hG hC sv_X12_207 ⟨by decide, by decide⟩ (Nat.le_of_ble_eq_true rfl) ⟨hz1, hz2⟩ dX12_putOff_30 hz hq (fun h9 hq => ?_)
    show V G Γ 3 (0 + bc7) (0 + bs8) h9 33 [(0, .ref p0), (1, .int p1), (2, .int v6)] []
    refine V_iload_n hC dX12_putOff_33 2 rfl ?_
    obtain ⟨hz1, hz2, hq⟩ := hq
    exact V_iret hC hQ rfl rfl ⟨hz1, hz2⟩ dX12_putOff_34 ⟨_, rfl, hq⟩
  · have hq := hq.2 hc
    refine V_iconst (v := 0) hC dX12_putOff_18 (by decide) ?_
    obtain ⟨hz1, hz2, hq⟩ := hq
    exact V_iret hC hQ rfl rfl ⟨hz1, hz2⟩ dX12_putOff_19 ⟨_, rfl, hq⟩
theorem clV_X12_putOff {G : Gx} (hG : GOK G) {Γ : Cx} {own : String} {cc : ByteArray} {nL fr lo mc ms cells slots pc : Nat} {hh : List (Nat × Nat × Nat × Nat)} {h : hw} {L : List (Nat × Value)} {rest : List Value} (hC : COK G Γ own cc nL fr lo mc ms hh) {idx : Nat} (hs : SV own idx yX12_putOff cX12_putOff 3 (some .int) 1) {bc bs : Nat} {p0 : Nat} {p1 : Int32} (hR : 9 + 1 ≤ fr ∧ 8 + (3 + 11) + 213 ≤ lo) (hw8 : (rest.map fun v => v.category).sum ≤ 8) (hcs : cells + bc ≤ mc ∧ slots + bs ≤ ms) (hdg : decode cc pc = .ok (.invokevirtual idx, 3)) (ho : isO h p0 12) {post : Int32 → hw → Prop} (hq : wp_X12_putOff G p0 p1 h bc bs post) (kk : ∀ (r : Int32) (h1 : hw) , post r h1 → V G Γ nL (cells + bc) (slots + bs) h1 (pc + 3) L (.int r :: rest)) : V G Γ nL cells slots h pc L (.int p1 :: .ref p0 :: rest) :=
  V_callV (As := [.int p1]) (r9 := (RX12, TX12, 36)) hC (ct_X12_putOff hG p0 p1 h bc bs post hq) hs ho rfl rfl rfl hR hw8 hcs hdg (fun E h1 z => z.elim) (fun v h1 z => by obtain ⟨r, rfl, hz⟩ := z; exact kk r h1 hz)
set_option maxRecDepth 100000 in
set_option maxHeartbeats 4000000 in
theorem ct_J6_intValue_8abf5 {G : Gx} (hG : GOK G) (p0 : Nat) (h0 : hw) (post : Int32 → Prop) (hq : wp_J6_intValue_8abf5 G p0 h0 post) : CT G yJ6_intValue_8abf5 cJ6_intValue_8abf5 1 (some .int) 1 30 0 0 [.ref p0] h0 (fun v h1 => ∃ r : Int32, v = some (.int r) ∧ h1 = h0 ∧ post r) (fun E h1 => False) := by
  refine CT_of hG (by decide) (Nat.le_of_ble_eq_true rfl) (fun Γ hC hQ hN => ?_)
  have hC : COK G Γ "java/lang/Integer" cJ6_intValue_8abf5 1 1 30 0 0 [] := hC
  unfold wp_J6_intValue_8abf5 at hq
  show V G Γ 1 0 0 h0 0 [(0, .ref p0)] []
  refine V_aload_n hC dJ6_intValue_8abf5_0 0 rfl ?_
  refine U_getI hC fl_J6_205 dJ6_intValue_8abf5_1 hq (fun v1 hq => ?_)
  exact V_iret hC hQ rfl rfl ⟨by decide, by decide⟩ dJ6_intValue_8abf5_4 ⟨_, rfl, rfl, hq⟩
theorem clV_J6_intValue_8abf5 {G : Gx} (hG : GOK G) {Γ : Cx} {own : String} {cc : ByteArray} {nL fr lo mc ms cells slots pc : Nat} {hh : List (Nat × Nat × Nat × Nat)} {h : hw} {L : List (Nat × Value)} {rest : List Value} (hC : COK G Γ own cc nL fr lo mc ms hh) {idx : Nat} (hs : SV own idx yJ6_intValue_8abf5 cJ6_intValue_8abf5 1 (some .int) 0) {p0 : Nat} (hR : 1 + 1 ≤ fr ∧ 8 + (1 + 11) + 30 ≤ lo) (hw8 : (rest.map fun v => v.category).sum ≤ 8) (hcs : cells + 0 ≤ mc ∧ slots + 0 ≤ ms) (hdg : decode cc pc = .ok (.invokevirtual idx, 3)) (ho : isO h p0 13) {post : Int32 → Prop} (hq : wp_J6_intValue_8abf5 G p0 h post) (kk : ∀ (r : Int32) , post r → V G Γ nL (cells + 0) (slots + 0) h (pc + 3) L (.int r :: rest)) : V G Γ nL cells slots h pc L (.ref p0 :: rest) :=
  V_callV (As := []) (r9 := (RJ6, TJ6, 1)) hC (ct_J6_intValue_8abf5 hG p0 h post hq) hs ho rfl rfl rfl hR hw8 hcs hdg (fun E h1 z => z.elim) (fun v h1 z => by obtain ⟨r, rfl, rfl, hz⟩ := z; exact kk r hz)
set_option maxRecDepth 100000 in
set_option maxHeartbeats 4000000 in
theorem ct_X12_channelOf {G : Gx} (hG : GOK G) (p0 : Nat) (p1 : Int32) (p2 : Int32) (h0 : hw) (post : Int32 → hw → Prop) (hq : wp_X12_channelOf G p0 p1 p2 h0 post) : CT G yX12_channelOf cX12_channelOf 6 (some .int) 4 94 0 0 [.ref p0, .int p1, .int p2] h0 (fun v h1 => ∃ r : Int32, v = some (.int r) ∧ post r h1) (fun E h1 => False) := by
  refine CT_of hG (by decide) (Nat.le_of_ble_eq_true rfl) (fun Γ hC hQ hN => ?_)
  have hC : COK G Γ "BandplanModel" cX12_channelOf 6 4 94 0 0 [] := hC
  unfold wp_X12_channelOf at hq
  show V G Γ 6 0 0 h0 0 [(0, .ref p0), (1, .int p1), (2, .int p2)] []
  refine V_aload_n hC dX12_channelOf_0 0 rfl ?_
  refine V_iconst (v := 0) hC dX12_channelOf_1 (by decide) ?_
  refine U_putO hC (by decide) fl_X12_98 fin_X12_0 rfl rfl dX12_channelOf_2 hq (fun h1 hq => ?_)
  refine V_aload_n hC dX12_channelOf_5 0 rfl ?_
  refine V_aload_n hC dX12_channelOf_6 0 rfl ?_
  refine V_iload_n hC dX12_channelOf_7 1 rfl ?_
  obtain ⟨hz, hq⟩ := hq
  refine clV_X12_no hG hC sv_X12_153 ⟨by decide, by decide⟩ (Nat.le_of_ble_eq_true rfl) ⟨by decide, by decide⟩ dX12_channelOf_8 hz hq (fun r2 hq => ?_)
  show V G Γ 6 0 0 h1 11 [(0, .ref p0), (1, .int p1), (2, .int p2)] [.int r2, .ref p0]
  refine V_iconst (v := 1) hC dX12_channelOf_11 (by decide) ?_
  obtain ⟨hz, hq⟩ := hq
  refine clV_X12_fails hG hC sv_X12_115 ⟨by decide, by decide⟩ (Nat.le_of_ble_eq_true rfl) ⟨by decide, by decide⟩ dX12_channelOf_12 hz hq (fun r3 h4 hq => ?_)
  show V G Γ 6 0 0 h4 15 [(0, .ref p0), (1, .int p1), (2, .int p2)] [.int r3]
  refine V_if_ne (tgt := 43) hC dX12_channelOf_15 (by decide) (fun hc => ?_) (fun hc => ?_)
  · have hq := hq.1 hc
    refine V_iconst (v := 0) hC dX12_channelOf_43 (by decide) ?_
    exact V_iret hC hQ rfl rfl ⟨by decide, by decide⟩ dX12_channelOf_44 ⟨_, rfl, hq⟩
  · have hq := hq.2 hc
    refine V_aload_n hC dX12_channelOf_18 0 rfl ?_
    refine V_iload_n hC dX12_channelOf_19 2 rfl ?_
    refine V_iconst (v := 0) hC dX12_channelOf_20 (by decide) ?_
    refine V_aload_n hC dX12_channelOf_21 0 rfl ?_
    refine U_getI hC fl_X12_186 dX12_channelOf_22 hq (fun v5 hq => ?_)
    refine clS_X12_in hG hC ss_X12_101 ⟨by decide, by decide⟩ (Nat.le_of_ble_eq_true rfl) ⟨by decide, by decide⟩ dX12_channelOf_25 hq (fun r6 hq => ?_)
    show V G Γ 6 0 0 h4 28 [(0, .ref p0), (1, .int p1), (2, .int p2)] [.int r6, .ref p0]
    have hq := hq (fun (t7 : Nat) (t8 : Int32) => V G Γ 6 0 0 h4 36 [(0, .ref p0), (1, .int p1), (2, .int p2)] [.int t8, .ref t7]) (by
      intro t7 t8 hq
      show V G Γ 6 0 0 h4 36 [(0, .ref p0), (1, .int p1), (2, .int p2)] [.int t8, .ref t7]
      refine V_iconst (v := 2) hC dX12_channelOf_36 (by decide) ?_
      obtain ⟨hz, hq⟩ := hq
      refine clV_X12_fails hG hC sv_X12_115 ⟨by decide, by decide⟩ (Nat.le_of_ble_eq_true rfl) ⟨by decide, by decide⟩ dX12_channelOf_37 hz hq (fun r9 h10 hq => ?_)
      show V G Γ 6 0 0 h10 40 [(0, .ref p0), (1, .int p1), (2, .int p2)] [.int r9]
      refine V_if_eq (tgt := 45) hC dX12_channelOf_40 (by decide) (fun hc => ?_) (fun hc => ?_)
      · have hq := hq.1 hc
        refine V_iconst (v := (-1)) hC dX12_channelOf_45 (by decide) ?_
        refine V_istore_n (L' := [(0, .ref p0), (1, .int p1), (2, .int p2), (3, .int (-1))]) hC dX12_channelOf_46 rfl (by decide) [1, 2, 3, 0] rfl ?_
        refine V_aload_n hC dX12_channelOf_47 0 rfl ?_
        refine U_getR hC fl_X12_48 dX12_channelOf_48 hq (fun v11 hq => ?_)
        refine V_iload_n hC dX12_channelOf_51 1 rfl ?_
        obtain ⟨hz, hq⟩ := hq
        refine clV_Jx4a65c_get_915e3 hG hC sv_X12_182 ⟨by decide, by decide⟩ (Nat.le_of_ble_eq_true rfl) ⟨by decide, by decide⟩ dX12_channelOf_52 hz hq (fun r12 hq => ?_)
        show V G Γ 6 0 0 h10 55 [(0, .ref p0), (1, .int p1), (2, .int p2), (3, .int (-1))] [.ref r12]
        obtain ⟨hz, hq⟩ := hq
        refine V_cast (r9 := (RJx4a65c, TJx4a65c, 3)) hC aw_6_17 rfl hz dX12_channelOf_55 ?_
        refine V_astore (L' := [(0, .ref p0), (1, .int p1), (2, .int p2), (3, .int (-1)), (4, .ref r12)]) hC dX12_channelOf_58 (by decide) [1, 2, 3, 4, 0] rfl ?_
        refine V_iconst (v := 0) hC dX12_channelOf_60 (by decide) ?_
        refine V_istore (L' := [(0, .ref p0), (1, .int p1), (2, .int p2), (3, .int (-1)), (4, .ref r12), (5, .int 0)]) hC dX12_channelOf_61 (by decide) [1, 2, 3, 4, 5, 0] rfl ?_
        have hq := hq (fun (x3_13 : Int32) (x5_14 : Int32) => V G Γ 6 0 0 h10 63 [(2, .int p2), (3, .int x3_13), (4, .ref r12), (5, .int x5_14)] []) (by
          intro x3_13 x5_14 hq
          show V G Γ 6 0 0 h10 63 [(2, .int p2), (3, .int x3_13), (4, .ref r12), (5, .int x5_14)] []
          refine V_iload hC dX12_channelOf_63 3 rfl ?_
          refine V_aload hC dX12_channelOf_65 2 rfl ?_
          obtain ⟨hz, hq⟩ := hq
          refine clV_Jx4a65c_size_8abf5 hG hC sv_X12_211 ⟨by decide, by decide⟩ (Nat.le_of_ble_eq_true rfl) ⟨by decide, by decide⟩ dX12_channelOf_67 hz hq (fun r15 hq => ?_)
          show V G Γ 6 0 0 h10 70 [(2, .int p2), (3, .int x3_13), (4, .ref r12), (5, .int x5_14)] [.int r15, .int x5_14]
          refine V_icmp_ge (tgt := 116) hC dX12_channelOf_70 (by decide) (fun hc => ?_) (fun hc => ?_)
          · have hq := hq.1 hc
            refine V_iload_n hC dX12_channelOf_116 1 rfl ?_
            exact V_iret hC hQ rfl rfl ⟨by decide, by decide⟩ dX12_channelOf_117 ⟨_, rfl, hq⟩
          · have hq := hq.2 hc
            refine V_aload hC dX12_channelOf_73 2 rfl ?_
            refine V_iload hC dX12_channelOf_75 3 rfl ?_
            obtain ⟨hz, hq⟩ := hq
            refine clV_Jx4a65c_get_915e3 hG hC sv_X12_182 ⟨by decide, by decide⟩ (Nat.le_of_ble_eq_true rfl) ⟨by decide, by decide⟩ dX12_channelOf_77 hz hq (fun r16 hq => ?_)
            show V G Γ 6 0 0 h10 80 [(2, .int p2), (3, .int x3_13), (4, .ref r12), (5, .int x5_14)] [.ref r16]
            obtain ⟨hz, hq⟩ := hq
            refine V_cast (r9 := (RJ6, TJ6, 1)) hC aw_7_50 rfl hz dX12_channelOf_80 ?_
            obtain ⟨hz, hq⟩ := hq
            refine clV_J6_intValue_8abf5 hG hC sv_X12_215 ⟨by decide, by decide⟩ (Nat.le_of_ble_eq_true rfl) ⟨by decide, by decide⟩ dX12_channelOf_83 hz hq (fun r17 hq => ?_)
            show V G Γ 6 0 0 h10 86 [(2, .int p2), (3, .int x3_13), (4, .ref r12), (5, .int x5_14)] [.int r17]
            refine V_iload_n hC dX12_channelOf_86 0 rfl ?_
            have hq := hq (fun (t18 : Int32) => V G Γ 6 0 0 h10 109 [(2, .int p2), (4, .ref r12), (5, .int x5_14)] [.int t18]) (by
              intro t18 hq
              show V G Γ 6 0 0 h10 109 [(2, .int p2), (4, .ref r12), (5, .int x5_14)] [.int t18]
              refine V_istore_n (L' := [(2, .int p2), (3, .int t18), (4, .ref r12), (5, .int x5_14)]) hC dX12_channelOf_109 rfl (by decide) [1, 0, 2, 3] rfl ?_
              refine V_iinc (j := 3) (v := (x5_14 + 2)) (L' := [(2, .int p2), (3, .int t18), (4, .ref r12), (5, .int (x5_14 + 2))]) hC dX12_channelOf_110 rfl rfl (by decide) [1, 2, 3, 0] rfl ?_
              refine V_goto (tgt := 63) hC dX12_channelOf_113 (by decide) ?_
              exact hq)
            refine V_icmp_gt (tgt := 108) hC dX12_channelOf_87 (by decide) (fun hc => ?_) (fun hc => ?_)
            · have hq := hq.1 hc
              refine V_iload_n hC dX12_channelOf_108 1 rfl ?_
              refine V_sub [0, 2, 3] rfl ?_
              exact hq
            · have hq := hq.2 hc
              refine V_aload hC dX12_channelOf_90 2 rfl ?_
              refine V_iload hC dX12_channelOf_92 3 rfl ?_
              refine V_iconst (v := 1) hC dX12_channelOf_94 (by decide) ?_
              refine V_iadd hC dX12_channelOf_95 ?_
              obtain ⟨hz, hq⟩ := hq
              refine clV_Jx4a65c_get_915e3 hG hC sv_X12_182 ⟨by decide, by decide⟩ (Nat.le_of_ble_eq_true rfl) ⟨by decide, by decide⟩ dX12_channelOf_96 hz hq (fun r19 hq => ?_)
              show V G Γ 6 0 0 h10 99 [(2, .int p2), (3, .int x3_13), (4, .ref r12), (5, .int x5_14)] [.ref r19]
              obtain ⟨hz, hq⟩ := hq
              refine V_cast (r9 := (RJ6, TJ6, 1)) hC aw_7_50 rfl hz dX12_channelOf_99 ?_
              obtain ⟨hz, hq⟩ := hq
              refine clV_J6_intValue_8abf5 hG hC sv_X12_215 ⟨by decide, by decide⟩ (Nat.le_of_ble_eq_true rfl) ⟨by decide, by decide⟩ dX12_channelOf_102 hz hq (fun r20 hq => ?_)
              show V G Γ 6 0 0 h10 105 [(2, .int p2), (3, .int x3_13), (4, .ref r12), (5, .int x5_14)] [.int r20]
              refine V_goto (tgt := 109) hC dX12_channelOf_105 (by decide) ?_
              refine V_sub [0, 2, 3] rfl ?_
              exact hq)
        refine V_sub [2, 3, 4, 5] rfl ?_
        exact hq
      · have hq := hq.2 hc
        refine V_iconst (v := 0) hC dX12_channelOf_43 (by decide) ?_
        exact V_iret hC hQ rfl rfl ⟨by decide, by decide⟩ dX12_channelOf_44 ⟨_, rfl, hq⟩)
    refine V_if_ne (tgt := 35) hC dX12_channelOf_28 (by decide) (fun hc => ?_) (fun hc => ?_)
    · have hq := hq.1 hc
      refine V_iconst (v := 0) hC dX12_channelOf_35 (by decide) ?_
      exact hq
    · have hq := hq.2 hc
      refine V_iconst (v := 1) hC dX12_channelOf_31 (by decide) ?_
      refine V_goto (tgt := 36) hC dX12_channelOf_32 (by decide) ?_
      exact hq
theorem clV_X12_channelOf {G : Gx} (hG : GOK G) {Γ : Cx} {own : String} {cc : ByteArray} {nL fr lo mc ms cells slots pc : Nat} {hh : List (Nat × Nat × Nat × Nat)} {h : hw} {L : List (Nat × Value)} {rest : List Value} (hC : COK G Γ own cc nL fr lo mc ms hh) {idx : Nat} (hs : SV own idx yX12_channelOf cX12_channelOf 6 (some .int) 2) {p0 : Nat} {p1 : Int32} {p2 : Int32} (hR : 4 + 1 ≤ fr ∧ 8 + (6 + 11) + 94 ≤ lo) (hw8 : (rest.map fun v => v.category).sum ≤ 8) (hcs : cells + 0 ≤ mc ∧ slots + 0 ≤ ms) (hdg : decode cc pc = .ok (.invokevirtual idx, 3)) (ho : isO h p0 12) {post : Int32 → hw → Prop} (hq : wp_X12_channelOf G p0 p1 p2 h post) (kk : ∀ (r : Int32) (h1 : hw) , post r h1 → V G Γ nL (cells + 0) (slots + 0) h1 (pc + 3) L (.int r :: rest)) : V G Γ nL cells slots h pc L (.int p2 :: .int p1 :: .ref p0 :: rest) :=
  V_callV (As := [.int p1, .int p2]) (r9 := (RX12, TX12, 36)) hC (ct_X12_channelOf hG p0 p1 p2 h post hq) hs ho rfl rfl rfl hR hw8 hcs hdg (fun E h1 z => z.elim) (fun v h1 z => by obtain ⟨r, rfl, hz⟩ := z; exact kk r h1 hz)
set_option maxRecDepth 100000 in
set_option maxHeartbeats 4000000 in
theorem ct_X12_setForeign {G : Gx} (hG : GOK G) (p0 : Nat) (p1 : Int32) (p2 : Int32) (h0 : hw) (post : Int32 → hw → Prop) (hq : wp_X12_setForeign G p0 p1 p2 h0 post) : CT G yX12_setForeign cX12_setForeign 4 (some .boolean) 3 72 0 0 [.ref p0, .int p1, .int p2] h0 (fun v h1 => ∃ r : Int32, v = some (.int r) ∧ post r h1) (fun E h1 => False) := by
  refine CT_of hG (by decide) (Nat.le_of_ble_eq_true rfl) (fun Γ hC hQ hN => ?_)
  have hC : COK G Γ "BandplanModel" cX12_setForeign 4 3 72 0 0 [] := hC
  unfold wp_X12_setForeign at hq
  show V G Γ 4 0 0 h0 0 [(0, .ref p0), (1, .int p1), (2, .int p2)] []
  refine V_aload_n hC dX12_setForeign_0 0 rfl ?_
  refine V_iconst (v := 0) hC dX12_setForeign_1 (by decide) ?_
  refine U_putO hC (by decide) fl_X12_98 fin_X12_0 rfl rfl dX12_setForeign_2 hq (fun h1 hq => ?_)
  refine V_aload_n hC dX12_setForeign_5 0 rfl ?_
  refine V_iload_n hC dX12_setForeign_6 1 rfl ?_
  refine clS_X12_noChannel hG hC ss_X12_175 ⟨by decide, by decide⟩ (Nat.le_of_ble_eq_true rfl) ⟨by decide, by decide⟩ dX12_setForeign_7 hq (fun r2 hq => ?_)
  show V G Γ 4 0 0 h1 10 [(0, .ref p0), (1, .int p1), (2, .int p2)] [.int r2, .ref p0]
  refine V_iconst (v := 1) hC dX12_setForeign_10 (by decide) ?_
  obtain ⟨hz, hq⟩ := hq
  refine clV_X12_fails hG hC sv_X12_115 ⟨by decide, by decide⟩ (Nat.le_of_ble_eq_true rfl) ⟨by decide, by decide⟩ dX12_setForeign_11 hz hq (fun r3 h4 hq => ?_)
  show V G Γ 4 0 0 h4 14 [(0, .ref p0), (1, .int p1), (2, .int p2)] [.int r3]
  refine V_if_eq (tgt := 19) hC dX12_setForeign_14 (by decide) (fun hc => ?_) (fun hc => ?_)
  · have hq := hq.1 hc
    refine V_aload_n hC dX12_setForeign_19 0 rfl ?_
    refine U_getR hC fl_X12_52 dX12_setForeign_20 hq (fun v5 hq => ?_)
    refine V_iload_n hC dX12_setForeign_23 1 rfl ?_
    refine U_ldZ hC dX12_setForeign_24 hq (fun v6 hq => ?_)
    refine V_istore_n (L' := [(0, .ref p0), (1, .int p1), (2, .int p2), (3, .int v6)]) hC dX12_setForeign_25 rfl (by decide) [1, 2, 3, 0] rfl ?_
    refine V_aload_n hC dX12_setForeign_26 0 rfl ?_
    refine U_getR hC fl_X12_52 dX12_setForeign_27 hq (fun v7 hq => ?_)
    refine V_iload_n hC dX12_setForeign_30 1 rfl ?_
    refine V_iload_n hC dX12_setForeign_31 2 rfl ?_
    refine U_stZ hC dX12_setForeign_32 hq (fun h8 hq => ?_)
    refine V_iload_n hC dX12_setForeign_33 3 rfl ?_
    obtain ⟨hz, hq⟩ := hq
    exact V_iret hC hQ rfl (nar_b hz) ⟨by decide, by decide⟩ dX12_setForeign_34 ⟨_, rfl, hq⟩
  · have hq := hq.2 hc
    refine V_iconst (v := 0) hC dX12_setForeign_17 (by decide) ?_
    exact V_iret hC hQ rfl rfl ⟨by decide, by decide⟩ dX12_setForeign_18 ⟨_, rfl, hq⟩
theorem clV_X12_setForeign {G : Gx} (hG : GOK G) {Γ : Cx} {own : String} {cc : ByteArray} {nL fr lo mc ms cells slots pc : Nat} {hh : List (Nat × Nat × Nat × Nat)} {h : hw} {L : List (Nat × Value)} {rest : List Value} (hC : COK G Γ own cc nL fr lo mc ms hh) {idx : Nat} (hs : SV own idx yX12_setForeign cX12_setForeign 4 (some .boolean) 2) {p0 : Nat} {p1 : Int32} {p2 : Int32} (hR : 3 + 1 ≤ fr ∧ 8 + (4 + 11) + 72 ≤ lo) (hw8 : (rest.map fun v => v.category).sum ≤ 8) (hcs : cells + 0 ≤ mc ∧ slots + 0 ≤ ms) (hdg : decode cc pc = .ok (.invokevirtual idx, 3)) (ho : isO h p0 12) {post : Int32 → hw → Prop} (hq : wp_X12_setForeign G p0 p1 p2 h post) (kk : ∀ (r : Int32) (h1 : hw) , post r h1 → V G Γ nL (cells + 0) (slots + 0) h1 (pc + 3) L (.int r :: rest)) : V G Γ nL cells slots h pc L (.int p2 :: .int p1 :: .ref p0 :: rest) :=
  V_callV (As := [.int p1, .int p2]) (r9 := (RX12, TX12, 36)) hC (ct_X12_setForeign hG p0 p1 p2 h post hq) hs ho rfl rfl rfl hR hw8 hcs hdg (fun E h1 z => z.elim) (fun v h1 z => by obtain ⟨r, rfl, hz⟩ := z; exact kk r h1 hz)
set_option maxRecDepth 100000 in
set_option maxHeartbeats 4000000 in
theorem ct_X12_askAbroad {G : Gx} (hG : GOK G) (p0 : Nat) (p1 : Int32) (p2 : Int32) (h0 : hw) (post : Int32 → hw → Prop) (hq : wp_X12_askAbroad G p0 p1 p2 h0 post) : CT G yX12_askAbroad cX12_askAbroad 3 (some .int) 3 73 0 0 [.ref p0, .int p1, .int p2] h0 (fun v h1 => ∃ r : Int32, v = some (.int r) ∧ post r h1) (fun E h1 => False) := by
  refine CT_of hG (by decide) (Nat.le_of_ble_eq_true rfl) (fun Γ hC hQ hN => ?_)
  have hC : COK G Γ "BandplanModel" cX12_askAbroad 3 3 73 0 0 [] := hC
  unfold wp_X12_askAbroad at hq
  show V G Γ 3 0 0 h0 0 [(0, .ref p0), (1, .int p1), (2, .int p2)] []
  refine V_aload_n hC dX12_askAbroad_0 0 rfl ?_
  refine V_iconst (v := 0) hC dX12_askAbroad_1 (by decide) ?_
  refine U_putO hC (by decide) fl_X12_98 fin_X12_0 rfl rfl dX12_askAbroad_2 hq (fun h1 hq => ?_)
  refine V_aload_n hC dX12_askAbroad_5 0 rfl ?_
  refine V_aload_n hC dX12_askAbroad_6 0 rfl ?_
  refine V_iload_n hC dX12_askAbroad_7 1 rfl ?_
  obtain ⟨hz, hq⟩ := hq
  refine clV_X12_no hG hC sv_X12_153 ⟨by decide, by decide⟩ (Nat.le_of_ble_eq_true rfl) ⟨by decide, by decide⟩ dX12_askAbroad_8 hz hq (fun r2 hq => ?_)
  show V G Γ 3 0 0 h1 11 [(0, .ref p0), (1, .int p1), (2, .int p2)] [.int r2, .ref p0]
  refine V_iconst (v := 1) hC dX12_askAbroad_11 (by decide) ?_
  obtain ⟨hz, hq⟩ := hq
  refine clV_X12_fails hG hC sv_X12_115 ⟨by decide, by decide⟩ (Nat.le_of_ble_eq_true rfl) ⟨by decide, by decide⟩ dX12_askAbroad_12 hz hq (fun r3 h4 hq => ?_)
  show V G Γ 3 0 0 h4 15 [(0, .ref p0), (1, .int p1), (2, .int p2)] [.int r3]
  refine V_if_ne (tgt := 30) hC dX12_askAbroad_15 (by decide) (fun hc => ?_) (fun hc => ?_)
  · have hq := hq.1 hc
    refine V_iconst (v := 0) hC dX12_askAbroad_30 (by decide) ?_
    exact V_iret hC hQ rfl rfl ⟨by decide, by decide⟩ dX12_askAbroad_31 ⟨_, rfl, hq⟩
  · have hq := hq.2 hc
    refine V_aload_n hC dX12_askAbroad_18 0 rfl ?_
    refine V_iload_n hC dX12_askAbroad_19 2 rfl ?_
    refine clS_X12_noChannel hG hC ss_X12_175 ⟨by decide, by decide⟩ (Nat.le_of_ble_eq_true rfl) ⟨by decide, by decide⟩ dX12_askAbroad_20 hq (fun r5 hq => ?_)
    show V G Γ 3 0 0 h4 23 [(0, .ref p0), (1, .int p1), (2, .int p2)] [.int r5, .ref p0]
    refine V_iconst (v := 2) hC dX12_askAbroad_23 (by decide) ?_
    obtain ⟨hz, hq⟩ := hq
    refine clV_X12_fails hG hC sv_X12_115 ⟨by decide, by decide⟩ (Nat.le_of_ble_eq_true rfl) ⟨by decide, by decide⟩ dX12_askAbroad_24 hz hq (fun r6 h7 hq => ?_)
    show V G Γ 3 0 0 h7 27 [(0, .ref p0), (1, .int p1), (2, .int p2)] [.int r6]
    refine V_if_eq (tgt := 32) hC dX12_askAbroad_27 (by decide) (fun hc => ?_) (fun hc => ?_)
    · have hq := hq.1 hc
      refine V_aload_n hC dX12_askAbroad_32 0 rfl ?_
      refine U_getR hC fl_X12_55 dX12_askAbroad_33 hq (fun v8 hq => ?_)
      refine V_bipush (v := 8) hC dX12_askAbroad_36 (by decide) ?_
      refine V_iload_n hC dX12_askAbroad_38 1 rfl ?_
      refine V_imul hC dX12_askAbroad_39 ?_
      refine V_iload_n hC dX12_askAbroad_40 2 rfl ?_
      refine V_iadd hC dX12_askAbroad_41 ?_
      refine V_aload_n hC dX12_askAbroad_42 0 rfl ?_
      refine U_getI hC fl_X12_186 dX12_askAbroad_43 hq (fun v9 hq => ?_)
      refine U_stI hC dX12_askAbroad_46 hq (fun h10 hq => ?_)
      refine V_aload_n hC dX12_askAbroad_47 0 rfl ?_
      refine U_getR hC fl_X12_58 dX12_askAbroad_48 hq (fun v11 hq => ?_)
      refine V_bipush (v := 8) hC dX12_askAbroad_51 (by decide) ?_
      refine V_iload_n hC dX12_askAbroad_53 1 rfl ?_
      refine V_imul hC dX12_askAbroad_54 ?_
      refine V_iload_n hC dX12_askAbroad_55 2 rfl ?_
      refine V_iadd hC dX12_askAbroad_56 ?_
      refine V_iconst (v := 0) hC dX12_askAbroad_57 (by decide) ?_
      refine U_stZ hC dX12_askAbroad_58 hq (fun h12 hq => ?_)
      refine V_aload_n hC dX12_askAbroad_59 0 rfl ?_
      refine U_getI hC fl_X12_186 dX12_askAbroad_60 hq (fun v13 hq => ?_)
      refine V_iconst (v := 3) hC dX12_askAbroad_63 (by decide) ?_
      refine V_iadd hC dX12_askAbroad_64 ?_
      exact V_iret hC hQ rfl rfl ⟨by decide, by decide⟩ dX12_askAbroad_65 ⟨_, rfl, hq⟩
    · have hq := hq.2 hc
      refine V_iconst (v := 0) hC dX12_askAbroad_30 (by decide) ?_
      exact V_iret hC hQ rfl rfl ⟨by decide, by decide⟩ dX12_askAbroad_31 ⟨_, rfl, hq⟩
theorem clV_X12_askAbroad {G : Gx} (hG : GOK G) {Γ : Cx} {own : String} {cc : ByteArray} {nL fr lo mc ms cells slots pc : Nat} {hh : List (Nat × Nat × Nat × Nat)} {h : hw} {L : List (Nat × Value)} {rest : List Value} (hC : COK G Γ own cc nL fr lo mc ms hh) {idx : Nat} (hs : SV own idx yX12_askAbroad cX12_askAbroad 3 (some .int) 2) {p0 : Nat} {p1 : Int32} {p2 : Int32} (hR : 3 + 1 ≤ fr ∧ 8 + (3 + 11) + 73 ≤ lo) (hw8 : (rest.map fun v => v.category).sum ≤ 8) (hcs : cells + 0 ≤ mc ∧ slots + 0 ≤ ms) (hdg : decode cc pc = .ok (.invokevirtual idx, 3)) (ho : isO h p0 12) {post : Int32 → hw → Prop} (hq : wp_X12_askAbroad G p0 p1 p2 h post) (kk : ∀ (r : Int32) (h1 : hw) , post r h1 → V G Γ nL (cells + 0) (slots + 0) h1 (pc + 3) L (.int r :: rest)) : V G Γ nL cells slots h pc L (.int p2 :: .int p1 :: .ref p0 :: rest) :=
  V_callV (As := [.int p1, .int p2]) (r9 := (RX12, TX12, 36)) hC (ct_X12_askAbroad hG p0 p1 p2 h post hq) hs ho rfl rfl rfl hR hw8 hcs hdg (fun E h1 z => z.elim) (fun v h1 z => by obtain ⟨r, rfl, hz⟩ := z; exact kk r h1 hz)
set_option maxRecDepth 100000 in
set_option maxHeartbeats 4000000 in
theorem ct_X12_object {G : Gx} (hG : GOK G) (p0 : Nat) (p1 : Int32) (p2 : Int32) (h0 : hw) (post : Int32 → hw → Prop) (hq : wp_X12_object G p0 p1 p2 h0 post) : CT G yX12_object cX12_object 4 (some .boolean) 3 73 0 0 [.ref p0, .int p1, .int p2] h0 (fun v h1 => ∃ r : Int32, v = some (.int r) ∧ post r h1) (fun E h1 => False) := by
  refine CT_of hG (by decide) (Nat.le_of_ble_eq_true rfl) (fun Γ hC hQ hN => ?_)
  have hC : COK G Γ "BandplanModel" cX12_object 4 3 73 0 0 [] := hC
  unfold wp_X12_object at hq
  show V G Γ 4 0 0 h0 0 [(0, .ref p0), (1, .int p1), (2, .int p2)] []
  refine V_aload_n hC dX12_object_0 0 rfl ?_
  refine V_iconst (v := 0) hC dX12_object_1 (by decide) ?_
  refine U_putO hC (by decide) fl_X12_98 fin_X12_0 rfl rfl dX12_object_2 hq (fun h1 hq => ?_)
  refine V_aload_n hC dX12_object_5 0 rfl ?_
  refine V_aload_n hC dX12_object_6 0 rfl ?_
  refine V_iload_n hC dX12_object_7 1 rfl ?_
  obtain ⟨hz, hq⟩ := hq
  refine clV_X12_no hG hC sv_X12_153 ⟨by decide, by decide⟩ (Nat.le_of_ble_eq_true rfl) ⟨by decide, by decide⟩ dX12_object_8 hz hq (fun r2 hq => ?_)
  show V G Γ 4 0 0 h1 11 [(0, .ref p0), (1, .int p1), (2, .int p2)] [.int r2, .ref p0]
  refine V_iconst (v := 1) hC dX12_object_11 (by decide) ?_
  obtain ⟨hz, hq⟩ := hq
  refine clV_X12_fails hG hC sv_X12_115 ⟨by decide, by decide⟩ (Nat.le_of_ble_eq_true rfl) ⟨by decide, by decide⟩ dX12_object_12 hz hq (fun r3 h4 hq => ?_)
  show V G Γ 4 0 0 h4 15 [(0, .ref p0), (1, .int p1), (2, .int p2)] [.int r3]
  refine V_if_ne (tgt := 30) hC dX12_object_15 (by decide) (fun hc => ?_) (fun hc => ?_)
  · have hq := hq.1 hc
    refine V_iconst (v := 0) hC dX12_object_30 (by decide) ?_
    exact V_iret hC hQ rfl rfl ⟨by decide, by decide⟩ dX12_object_31 ⟨_, rfl, hq⟩
  · have hq := hq.2 hc
    refine V_aload_n hC dX12_object_18 0 rfl ?_
    refine V_iload_n hC dX12_object_19 2 rfl ?_
    refine clS_X12_noChannel hG hC ss_X12_175 ⟨by decide, by decide⟩ (Nat.le_of_ble_eq_true rfl) ⟨by decide, by decide⟩ dX12_object_20 hq (fun r5 hq => ?_)
    show V G Γ 4 0 0 h4 23 [(0, .ref p0), (1, .int p1), (2, .int p2)] [.int r5, .ref p0]
    refine V_iconst (v := 2) hC dX12_object_23 (by decide) ?_
    obtain ⟨hz, hq⟩ := hq
    refine clV_X12_fails hG hC sv_X12_115 ⟨by decide, by decide⟩ (Nat.le_of_ble_eq_true rfl) ⟨by decide, by decide⟩ dX12_object_24 hz hq (fun r6 h7 hq => ?_)
    show V G Γ 4 0 0 h7 27 [(0, .ref p0), (1, .int p1), (2, .int p2)] [.int r6]
    refine V_if_eq (tgt := 32) hC dX12_object_27 (by decide) (fun hc => ?_) (fun hc => ?_)
    · have hq := hq.1 hc
      refine V_bipush (v := 8) hC dX12_object_32 (by decide) ?_
      refine V_iload_n hC dX12_object_34 1 rfl ?_
      refine V_imul hC dX12_object_35 ?_
      refine V_iload_n hC dX12_object_36 2 rfl ?_
      refine V_iadd hC dX12_object_37 ?_
      refine V_istore_n (L' := [(0, .ref p0), (1, .int p1), (2, .int p2), (3, .int ((8 * p1) + p2))]) hC dX12_object_38 rfl (by decide) [1, 2, 3, 0] rfl ?_
      refine V_aload_n hC dX12_object_39 0 rfl ?_
      refine V_aload_n hC dX12_object_40 0 rfl ?_
      refine U_getR hC fl_X12_55 dX12_object_41 hq (fun v8 hq => ?_)
      refine V_iload_n hC dX12_object_44 3 rfl ?_
      refine U_ldI hC dX12_object_45 hq (fun v9 hq => ?_)
      refine V_iconst (v := (-1)) hC dX12_object_46 (by decide) ?_
      have hq := hq (fun (t10 : Nat) (t11 : Int32) => V G Γ 4 0 0 h7 55 [(0, .ref p0), (3, .int ((8 * p1) + p2))] [.int t11, .ref t10]) (by
        intro t10 t11 hq
        show V G Γ 4 0 0 h7 55 [(0, .ref p0), (3, .int ((8 * p1) + p2))] [.int t11, .ref t10]
        refine V_iconst (v := 3) hC dX12_object_55 (by decide) ?_
        obtain ⟨hz, hq⟩ := hq
        refine clV_X12_fails hG hC sv_X12_115 ⟨by decide, by decide⟩ (Nat.le_of_ble_eq_true rfl) ⟨by decide, by decide⟩ dX12_object_56 hz hq (fun r12 h13 hq => ?_)
        show V G Γ 4 0 0 h13 59 [(0, .ref p0), (3, .int ((8 * p1) + p2))] [.int r12]
        refine V_if_ne (tgt := 77) hC dX12_object_59 (by decide) (fun hc => ?_) (fun hc => ?_)
        · have hq := hq.1 hc
          refine V_iconst (v := 0) hC dX12_object_77 (by decide) ?_
          exact V_iret hC hQ rfl rfl ⟨by decide, by decide⟩ dX12_object_78 ⟨_, rfl, hq⟩
        · have hq := hq.2 hc
          refine V_aload_n hC dX12_object_62 0 rfl ?_
          refine U_getI hC fl_X12_186 dX12_object_63 hq (fun v14 hq => ?_)
          refine V_aload_n hC dX12_object_66 0 rfl ?_
          refine U_getR hC fl_X12_55 dX12_object_67 hq (fun v15 hq => ?_)
          refine V_iload_n hC dX12_object_70 1 rfl ?_
          refine U_ldI hC dX12_object_71 hq (fun v16 hq => ?_)
          refine V_iconst (v := 2) hC dX12_object_72 (by decide) ?_
          refine V_iadd hC dX12_object_73 ?_
          refine V_icmp_le (tgt := 79) hC dX12_object_74 (by decide) (fun hc => ?_) (fun hc => ?_)
          · have hq := hq.1 hc
            refine V_aload_n hC dX12_object_79 0 rfl ?_
            refine U_getR hC fl_X12_58 dX12_object_80 hq (fun v17 hq => ?_)
            refine V_iload_n hC dX12_object_83 1 rfl ?_
            refine V_iconst (v := 1) hC dX12_object_84 (by decide) ?_
            refine U_stZ hC dX12_object_85 hq (fun h18 hq => ?_)
            refine V_iconst (v := 1) hC dX12_object_86 (by decide) ?_
            exact V_iret hC hQ rfl rfl ⟨by decide, by decide⟩ dX12_object_87 ⟨_, rfl, hq⟩
          · have hq := hq.2 hc
            refine V_iconst (v := 0) hC dX12_object_77 (by decide) ?_
            exact V_iret hC hQ rfl rfl ⟨by decide, by decide⟩ dX12_object_78 ⟨_, rfl, hq⟩)
      refine V_icmp_ne (tgt := 54) hC dX12_object_47 (by decide) (fun hc => ?_) (fun hc => ?_)
      · have hq := hq.1 hc
        refine V_iconst (v := 0) hC dX12_object_54 (by decide) ?_
        refine V_sub [0, 3] rfl ?_
        exact hq
      · have hq := hq.2 hc
        refine V_iconst (v := 1) hC dX12_object_50 (by decide) ?_
        refine V_goto (tgt := 55) hC dX12_object_51 (by decide) ?_
        refine V_sub [0, 3] rfl ?_
        exact hq
    · have hq := hq.2 hc
      refine V_iconst (v := 0) hC dX12_object_30 (by decide) ?_
      exact V_iret hC hQ rfl rfl ⟨by decide, by decide⟩ dX12_object_31 ⟨_, rfl, hq⟩
theorem clV_X12_object {G : Gx} (hG : GOK G) {Γ : Cx} {own : String} {cc : ByteArray} {nL fr lo mc ms cells slots pc : Nat} {hh : List (Nat × Nat × Nat × Nat)} {h : hw} {L : List (Nat × Value)} {rest : List Value} (hC : COK G Γ own cc nL fr lo mc ms hh) {idx : Nat} (hs : SV own idx yX12_object cX12_object 4 (some .boolean) 2) {p0 : Nat} {p1 : Int32} {p2 : Int32} (hR : 3 + 1 ≤ fr ∧ 8 + (4 + 11) + 73 ≤ lo) (hw8 : (rest.map fun v => v.category).sum ≤ 8) (hcs : cells + 0 ≤ mc ∧ slots + 0 ≤ ms) (hdg : decode cc pc = .ok (.invokevirtual idx, 3)) (ho : isO h p0 12) {post : Int32 → hw → Prop} (hq : wp_X12_object G p0 p1 p2 h post) (kk : ∀ (r : Int32) (h1 : hw) , post r h1 → V G Γ nL (cells + 0) (slots + 0) h1 (pc + 3) L (.int r :: rest)) : V G Γ nL cells slots h pc L (.int p2 :: .int p1 :: .ref p0 :: rest) :=
  V_callV (As := [.int p1, .int p2]) (r9 := (RX12, TX12, 36)) hC (ct_X12_object hG p0 p1 p2 h post hq) hs ho rfl rfl rfl hR hw8 hcs hdg (fun E h1 z => z.elim) (fun v h1 z => by obtain ⟨r, rfl, hz⟩ := z; exact kk r h1 hz)
set_option maxRecDepth 100000 in
set_option maxHeartbeats 4000000 in
theorem ct_X12_hasYes {G : Gx} (hG : GOK G) (p0 : Nat) (p1 : Int32) (p2 : Int32) (h0 : hw) (post : Int32 → hw → Prop) (hq : wp_X12_hasYes G p0 p1 p2 h0 post) : CT G yX12_hasYes cX12_hasYes 3 (some .boolean) 3 73 0 0 [.ref p0, .int p1, .int p2] h0 (fun v h1 => ∃ r : Int32, v = some (.int r) ∧ post r h1) (fun E h1 => False) := by
  refine CT_of hG (by decide) (Nat.le_of_ble_eq_true rfl) (fun Γ hC hQ hN => ?_)
  have hC : COK G Γ "BandplanModel" cX12_hasYes 3 3 73 0 0 [] := hC
  unfold wp_X12_hasYes at hq
  show V G Γ 3 0 0 h0 0 [(0, .ref p0), (1, .int p1), (2, .int p2)] []
  refine V_aload_n hC dX12_hasYes_0 0 rfl ?_
  refine V_iconst (v := 0) hC dX12_hasYes_1 (by decide) ?_
  refine U_putO hC (by decide) fl_X12_98 fin_X12_0 rfl rfl dX12_hasYes_2 hq (fun h1 hq => ?_)
  refine V_aload_n hC dX12_hasYes_5 0 rfl ?_
  refine V_aload_n hC dX12_hasYes_6 0 rfl ?_
  refine V_iload_n hC dX12_hasYes_7 1 rfl ?_
  obtain ⟨hz, hq⟩ := hq
  refine clV_X12_no hG hC sv_X12_153 ⟨by decide, by decide⟩ (Nat.le_of_ble_eq_true rfl) ⟨by decide, by decide⟩ dX12_hasYes_8 hz hq (fun r2 hq => ?_)
  show V G Γ 3 0 0 h1 11 [(0, .ref p0), (1, .int p1), (2, .int p2)] [.int r2, .ref p0]
  refine V_iconst (v := 1) hC dX12_hasYes_11 (by decide) ?_
  obtain ⟨hz, hq⟩ := hq
  refine clV_X12_fails hG hC sv_X12_115 ⟨by decide, by decide⟩ (Nat.le_of_ble_eq_true rfl) ⟨by decide, by decide⟩ dX12_hasYes_12 hz hq (fun r3 h4 hq => ?_)
  show V G Γ 3 0 0 h4 15 [(0, .ref p0), (1, .int p1), (2, .int p2)] [.int r3]
  have hq := hq (fun (h5 : hw) => V G Γ 3 0 0 h5 43 [] []) (by
    intro h5 hq
    show V G Γ 3 0 0 h5 43 [] []
    refine V_iconst (v := 0) hC dX12_hasYes_43 (by decide) ?_
    exact V_iret hC hQ rfl rfl ⟨by decide, by decide⟩ dX12_hasYes_44 ⟨_, rfl, hq⟩)
  refine V_if_ne (tgt := 43) hC dX12_hasYes_15 (by decide) (fun hc => ?_) (fun hc => ?_)
  · have hq := hq.1 hc
    refine V_sub [] rfl ?_
    exact hq
  · have hq := hq.2 hc
    refine V_aload_n hC dX12_hasYes_18 0 rfl ?_
    refine V_iload_n hC dX12_hasYes_19 2 rfl ?_
    refine clS_X12_noChannel hG hC ss_X12_175 ⟨by decide, by decide⟩ (Nat.le_of_ble_eq_true rfl) ⟨by decide, by decide⟩ dX12_hasYes_20 hq (fun r6 hq => ?_)
    show V G Γ 3 0 0 h4 23 [(0, .ref p0), (1, .int p1), (2, .int p2)] [.int r6, .ref p0]
    refine V_iconst (v := 2) hC dX12_hasYes_23 (by decide) ?_
    obtain ⟨hz, hq⟩ := hq
    refine clV_X12_fails hG hC sv_X12_115 ⟨by decide, by decide⟩ (Nat.le_of_ble_eq_true rfl) ⟨by decide, by decide⟩ dX12_hasYes_24 hz hq (fun r7 h8 hq => ?_)
    show V G Γ 3 0 0 h8 27 [(0, .ref p0), (1, .int p1), (2, .int p2)] [.int r7]
    refine V_if_ne (tgt := 43) hC dX12_hasYes_27 (by decide) (fun hc => ?_) (fun hc => ?_)
    · have hq := hq.1 hc
      refine V_sub [] rfl ?_
      exact hq
    · have hq := hq.2 hc
      refine V_aload_n hC dX12_hasYes_30 0 rfl ?_
      refine V_iload_n hC dX12_hasYes_31 1 rfl ?_
      refine V_iload_n hC dX12_hasYes_32 2 rfl ?_
      obtain ⟨hz, hq⟩ := hq
      refine clV_X12_hasYesFor hG hC sv_X12_198 ⟨by decide, by decide⟩ (Nat.le_of_ble_eq_true rfl) ⟨by decide, by decide⟩ dX12_hasYes_33 hz hq (fun r9 hq => ?_)
      show V G Γ 3 0 0 h8 36 [(0, .ref p0), (1, .int p1), (2, .int p2)] [.int r9]
      refine V_if_eq (tgt := 43) hC dX12_hasYes_36 (by decide) (fun hc => ?_) (fun hc => ?_)
      · have hq := hq.1 hc
        refine V_sub [] rfl ?_
        exact hq
      · have hq := hq.2 hc
        refine V_iconst (v := 1) hC dX12_hasYes_39 (by decide) ?_
        refine V_goto (tgt := 44) hC dX12_hasYes_40 (by decide) ?_
        exact V_iret hC hQ rfl rfl ⟨by decide, by decide⟩ dX12_hasYes_44 ⟨_, rfl, hq⟩
theorem clV_X12_hasYes {G : Gx} (hG : GOK G) {Γ : Cx} {own : String} {cc : ByteArray} {nL fr lo mc ms cells slots pc : Nat} {hh : List (Nat × Nat × Nat × Nat)} {h : hw} {L : List (Nat × Value)} {rest : List Value} (hC : COK G Γ own cc nL fr lo mc ms hh) {idx : Nat} (hs : SV own idx yX12_hasYes cX12_hasYes 3 (some .boolean) 2) {p0 : Nat} {p1 : Int32} {p2 : Int32} (hR : 3 + 1 ≤ fr ∧ 8 + (3 + 11) + 73 ≤ lo) (hw8 : (rest.map fun v => v.category).sum ≤ 8) (hcs : cells + 0 ≤ mc ∧ slots + 0 ≤ ms) (hdg : decode cc pc = .ok (.invokevirtual idx, 3)) (ho : isO h p0 12) {post : Int32 → hw → Prop} (hq : wp_X12_hasYes G p0 p1 p2 h post) (kk : ∀ (r : Int32) (h1 : hw) , post r h1 → V G Γ nL (cells + 0) (slots + 0) h1 (pc + 3) L (.int r :: rest)) : V G Γ nL cells slots h pc L (.int p2 :: .int p1 :: .ref p0 :: rest) :=
  V_callV (As := [.int p1, .int p2]) (r9 := (RX12, TX12, 36)) hC (ct_X12_hasYes hG p0 p1 p2 h post hq) hs ho rfl rfl rfl hR hw8 hcs hdg (fun E h1 z => z.elim) (fun v h1 z => by obtain ⟨r, rfl, hz⟩ := z; exact kk r h1 hz)
set_option maxRecDepth 100000 in
set_option maxHeartbeats 4000000 in
theorem ct_X12_goOn {G : Gx} (hG : GOK G) (p0 : Nat) (p1 : Int32) (h0 : hw) (post : Int32 → hw → Prop) (hq : wp_X12_goOn G p0 p1 h0 post) : CT G yX12_goOn cX12_goOn 2 (some .int) 2 52 0 0 [.ref p0, .int p1] h0 (fun v h1 => ∃ r : Int32, v = some (.int r) ∧ post r h1) (fun E h1 => False) := by
  refine CT_of hG (by decide) (Nat.le_of_ble_eq_true rfl) (fun Γ hC hQ hN => ?_)
  have hC : COK G Γ "BandplanModel" cX12_goOn 2 2 52 0 0 [] := hC
  unfold wp_X12_goOn at hq
  show V G Γ 2 0 0 h0 0 [(0, .ref p0), (1, .int p1)] []
  refine V_aload_n hC dX12_goOn_0 0 rfl ?_
  refine V_iconst (v := 0) hC dX12_goOn_1 (by decide) ?_
  refine U_putO hC (by decide) fl_X12_98 fin_X12_0 rfl rfl dX12_goOn_2 hq (fun h1 hq => ?_)
  refine V_aload_n hC dX12_goOn_5 0 rfl ?_
  refine V_iload_n hC dX12_goOn_6 1 rfl ?_
  refine V_iconst (v := 1) hC dX12_goOn_7 (by decide) ?_
  refine V_bipush (v := 99) hC dX12_goOn_8 (by decide) ?_
  refine clS_X12_in hG hC ss_X12_101 ⟨by decide, by decide⟩ (Nat.le_of_ble_eq_true rfl) ⟨by decide, by decide⟩ dX12_goOn_10 hq (fun r2 hq => ?_)
  show V G Γ 2 0 0 h1 13 [(0, .ref p0), (1, .int p1)] [.int r2, .ref p0]
  have hq := hq (fun (t3 : Nat) (t4 : Int32) => V G Γ 2 0 0 h1 21 [(0, .ref p0), (1, .int p1)] [.int t4, .ref t3]) (by
    intro t3 t4 hq
    show V G Γ 2 0 0 h1 21 [(0, .ref p0), (1, .int p1)] [.int t4, .ref t3]
    refine V_iconst (v := 1) hC dX12_goOn_21 (by decide) ?_
    obtain ⟨hz, hq⟩ := hq
    refine clV_X12_fails hG hC sv_X12_115 ⟨by decide, by decide⟩ (Nat.le_of_ble_eq_true rfl) ⟨by decide, by decide⟩ dX12_goOn_22 hz hq (fun r5 h6 hq => ?_)
    show V G Γ 2 0 0 h6 25 [(0, .ref p0), (1, .int p1)] [.int r5]
    refine V_if_eq (tgt := 30) hC dX12_goOn_25 (by decide) (fun hc => ?_) (fun hc => ?_)
    · have hq := hq.1 hc
      refine V_aload_n hC dX12_goOn_30 0 rfl ?_
      refine V_dup hC dX12_goOn_31 rfl ?_
      refine U_getI hC fl_X12_186 dX12_goOn_32 hq (fun v7 hq => ?_)
      refine V_iload_n hC dX12_goOn_35 1 rfl ?_
      refine V_iadd hC dX12_goOn_36 ?_
      refine U_putO hC (by decide) fl_X12_186 fin_X12_1 rfl rfl dX12_goOn_37 hq (fun h8 hq => ?_)
      refine V_aload_n hC dX12_goOn_40 0 rfl ?_
      refine U_getI hC fl_X12_186 dX12_goOn_41 hq (fun v9 hq => ?_)
      exact V_iret hC hQ rfl rfl ⟨by decide, by decide⟩ dX12_goOn_44 ⟨_, rfl, hq⟩
    · have hq := hq.2 hc
      refine V_iconst (v := 0) hC dX12_goOn_28 (by decide) ?_
      exact V_iret hC hQ rfl rfl ⟨by decide, by decide⟩ dX12_goOn_29 ⟨_, rfl, hq⟩)
  refine V_if_ne (tgt := 20) hC dX12_goOn_13 (by decide) (fun hc => ?_) (fun hc => ?_)
  · have hq := hq.1 hc
    refine V_iconst (v := 0) hC dX12_goOn_20 (by decide) ?_
    exact hq
  · have hq := hq.2 hc
    refine V_iconst (v := 1) hC dX12_goOn_16 (by decide) ?_
    refine V_goto (tgt := 21) hC dX12_goOn_17 (by decide) ?_
    exact hq
theorem clV_X12_goOn {G : Gx} (hG : GOK G) {Γ : Cx} {own : String} {cc : ByteArray} {nL fr lo mc ms cells slots pc : Nat} {hh : List (Nat × Nat × Nat × Nat)} {h : hw} {L : List (Nat × Value)} {rest : List Value} (hC : COK G Γ own cc nL fr lo mc ms hh) {idx : Nat} (hs : SV own idx yX12_goOn cX12_goOn 2 (some .int) 1) {p0 : Nat} {p1 : Int32} (hR : 2 + 1 ≤ fr ∧ 8 + (2 + 11) + 52 ≤ lo) (hw8 : (rest.map fun v => v.category).sum ≤ 8) (hcs : cells + 0 ≤ mc ∧ slots + 0 ≤ ms) (hdg : decode cc pc = .ok (.invokevirtual idx, 3)) (ho : isO h p0 12) {post : Int32 → hw → Prop} (hq : wp_X12_goOn G p0 p1 h post) (kk : ∀ (r : Int32) (h1 : hw) , post r h1 → V G Γ nL (cells + 0) (slots + 0) h1 (pc + 3) L (.int r :: rest)) : V G Γ nL cells slots h pc L (.int p1 :: .ref p0 :: rest) :=
  V_callV (As := [.int p1]) (r9 := (RX12, TX12, 36)) hC (ct_X12_goOn hG p0 p1 h post hq) hs ho rfl rfl rfl hR hw8 hcs hdg (fun E h1 z => z.elim) (fun v h1 z => by obtain ⟨r, rfl, hz⟩ := z; exact kk r h1 hz)
set_option maxRecDepth 100000 in
set_option maxHeartbeats 4000000 in
theorem ct_X12_fits {G : Gx} (hG : GOK G) (p0 : Nat) (p1 : Int32) (h0 : hw) (post : Int32 → Prop) (hq : wp_X12_fits G p0 p1 h0 post) : CT G yX12_fits cX12_fits 4 (some .boolean) 5 143 0 0 [.ref p0, .int p1] h0 (fun v h1 => ∃ r : Int32, v = some (.int r) ∧ h1 = h0 ∧ post r) (fun E h1 => False) := by
  refine CT_of hG (by decide) (Nat.le_of_ble_eq_true rfl) (fun Γ hC hQ hN => ?_)
  have hC : COK G Γ "BandplanModel" cX12_fits 4 5 143 0 0 [] := hC
  unfold wp_X12_fits at hq
  show V G Γ 4 0 0 h0 0 [(0, .ref p0), (1, .int p1)] []
  refine V_iconst (v := 1) hC dX12_fits_0 (by decide) ?_
  refine V_istore_n (L' := [(0, .ref p0), (1, .int p1), (2, .int 1)]) hC dX12_fits_1 rfl (by decide) [1, 2, 0] rfl ?_
  refine V_iconst (v := 0) hC dX12_fits_2 (by decide) ?_
  refine V_istore_n (L' := [(0, .ref p0), (1, .int p1), (2, .int 1), (3, .int 0)]) hC dX12_fits_3 rfl (by decide) [1, 2, 3, 0] rfl ?_
  have hq := hq (fun (x2_1 : Int32) (x3_2 : Int32) => V G Γ 4 0 0 h0 4 [(0, .ref p0), (1, .int p1), (2, .int x2_1), (3, .int x3_2)] []) (by
    intro x2_1 x3_2 hq
    show V G Γ 4 0 0 h0 4 [(0, .ref p0), (1, .int p1), (2, .int x2_1), (3, .int x3_2)] []
    refine V_iload_n hC dX12_fits_4 3 rfl ?_
    refine V_iload_n hC dX12_fits_5 1 rfl ?_
    refine V_icmp_ge (tgt := 55) hC dX12_fits_6 (by decide) (fun hc => ?_) (fun hc => ?_)
    · have hq := hq.1 hc
      refine V_iload_n hC dX12_fits_55 2 rfl ?_
      obtain ⟨hz, hq⟩ := hq
      exact V_iret hC hQ rfl (nar_b hz) ⟨by decide, by decide⟩ dX12_fits_56 ⟨_, rfl, rfl, hq⟩
    · have hq := hq.2 hc
      refine V_iload_n hC dX12_fits_9 2 rfl ?_
      have hq := hq (fun (t3 : Int32) => V G Γ 4 0 0 h0 48 [(0, .ref p0), (1, .int p1), (3, .int x3_2)] [.int t3]) (by
        intro t3 hq
        show V G Γ 4 0 0 h0 48 [(0, .ref p0), (1, .int p1), (3, .int x3_2)] [.int t3]
        refine V_istore_n (L' := [(0, .ref p0), (1, .int p1), (2, .int t3), (3, .int x3_2)]) hC dX12_fits_48 rfl (by decide) [1, 2, 0, 3] rfl ?_
        refine V_iinc (j := 3) (v := (x3_2 + 1)) (L' := [(0, .ref p0), (1, .int p1), (2, .int t3), (3, .int (x3_2 + 1))]) hC dX12_fits_49 rfl rfl (by decide) [1, 2, 3, 0] rfl ?_
        refine V_goto (tgt := 4) hC dX12_fits_52 (by decide) ?_
        exact hq)
      have hq := hq (V G Γ 4 0 0 h0 47 [(0, .ref p0), (1, .int p1), (3, .int x3_2)] []) (by
        intro hq
        show V G Γ 4 0 0 h0 47 [(0, .ref p0), (1, .int p1), (3, .int x3_2)] []
        refine V_iconst (v := 0) hC dX12_fits_47 (by decide) ?_
        exact hq)
      refine V_if_eq (tgt := 47) hC dX12_fits_10 (by decide) (fun hc => ?_) (fun hc => ?_)
      · have hq := hq.1 hc
        refine V_sub [0, 1, 3] rfl ?_
        exact hq
      · have hq := hq.2 hc
        refine V_aload_n hC dX12_fits_13 0 rfl ?_
        refine U_getR hC fl_X12_80 dX12_fits_14 hq (fun v4 hq => ?_)
        refine V_iload_n hC dX12_fits_17 3 rfl ?_
        refine U_ldZ hC dX12_fits_18 hq (fun v5 hq => ?_)
        have hq := hq (V G Γ 4 0 0 h0 43 [(0, .ref p0), (1, .int p1), (3, .int x3_2)] []) (by
          intro hq
          show V G Γ 4 0 0 h0 43 [(0, .ref p0), (1, .int p1), (3, .int x3_2)] []
          refine V_iconst (v := 1) hC dX12_fits_43 (by decide) ?_
          refine V_goto (tgt := 48) hC dX12_fits_44 (by decide) ?_
          exact hq)
        refine V_if_eq (tgt := 43) hC dX12_fits_19 (by decide) (fun hc => ?_) (fun hc => ?_)
        · have hq := hq.1 hc
          refine V_sub [0, 1, 3] rfl ?_
          exact hq
        · have hq := hq.2 hc
          refine V_aload_n hC dX12_fits_22 0 rfl ?_
          refine V_iload_n hC dX12_fits_23 3 rfl ?_
          refine V_aload_n hC dX12_fits_24 0 rfl ?_
          refine U_getR hC fl_X12_83 dX12_fits_25 hq (fun v6 hq => ?_)
          refine V_iload_n hC dX12_fits_28 3 rfl ?_
          refine U_ldI hC dX12_fits_29 hq (fun v7 hq => ?_)
          refine V_iload_n hC dX12_fits_30 1 rfl ?_
          refine V_aload_n hC dX12_fits_31 0 rfl ?_
          refine U_getR hC fl_X12_83 dX12_fits_32 hq (fun v8 hq => ?_)
          refine V_iload_n hC dX12_fits_35 1 rfl ?_
          refine U_ldI hC dX12_fits_36 hq (fun v9 hq => ?_)
          obtain ⟨hz, hq⟩ := hq
          refine clV_X12_areBarred hG hC sv_X12_178 ⟨by decide, by decide⟩ (Nat.le_of_ble_eq_true rfl) ⟨by decide, by decide⟩ dX12_fits_37 hz hq (fun r10 hq => ?_)
          show V G Γ 4 0 0 h0 40 [(0, .ref p0), (1, .int p1), (2, .int x2_1), (3, .int x3_2)] [.int r10]
          refine V_if_ne (tgt := 47) hC dX12_fits_40 (by decide) (fun hc => ?_) (fun hc => ?_)
          · have hq := hq.1 hc
            refine V_sub [0, 1, 3] rfl ?_
            exact hq
          · have hq := hq.2 hc
            refine V_sub [0, 1, 3] rfl ?_
            exact hq)
  exact hq
theorem clV_X12_fits {G : Gx} (hG : GOK G) {Γ : Cx} {own : String} {cc : ByteArray} {nL fr lo mc ms cells slots pc : Nat} {hh : List (Nat × Nat × Nat × Nat)} {h : hw} {L : List (Nat × Value)} {rest : List Value} (hC : COK G Γ own cc nL fr lo mc ms hh) {idx : Nat} (hs : SV own idx yX12_fits cX12_fits 4 (some .boolean) 1) {p0 : Nat} {p1 : Int32} (hR : 5 + 1 ≤ fr ∧ 8 + (4 + 11) + 143 ≤ lo) (hw8 : (rest.map fun v => v.category).sum ≤ 8) (hcs : cells + 0 ≤ mc ∧ slots + 0 ≤ ms) (hdg : decode cc pc = .ok (.invokevirtual idx, 3)) (ho : isO h p0 12) {post : Int32 → Prop} (hq : wp_X12_fits G p0 p1 h post) (kk : ∀ (r : Int32) , post r → V G Γ nL (cells + 0) (slots + 0) h (pc + 3) L (.int r :: rest)) : V G Γ nL cells slots h pc L (.int p1 :: .ref p0 :: rest) :=
  V_callV (As := [.int p1]) (r9 := (RX12, TX12, 36)) hC (ct_X12_fits hG p0 p1 h post hq) hs ho rfl rfl rfl hR hw8 hcs hdg (fun E h1 z => z.elim) (fun v h1 z => by obtain ⟨r, rfl, rfl, hz⟩ := z; exact kk r hz)
set_option maxRecDepth 100000 in
set_option maxHeartbeats 4000000 in
theorem ct_X12_packs {G : Gx} (hG : GOK G) : ∀ (d : Nat) (p0 : Nat) (p1 : Int32) (p2 : Int32) (h0 : hw) (post : Int32 → hw → Prop) (hq : wp_X12_packs G d p0 p1 p2 h0 post), CT G yX12_packs cX12_packs 4 (some .boolean) (6 + d) (166 + d * 23) 0 0 [.ref p0, .int p1, .int p2] h0 (fun v h1 => ∃ r : Int32, v = some (.int r) ∧ post r h1) (fun E h1 => False) := by
  intro d
  induction d with
  | zero => intro p0 p1 p2 h0 post hq; exact hq.elim
  | succ d ih =>
    intro p0 p1 p2 h0 post hq
    refine CT_of hG (by decide) (Nat.le_of_ble_eq_true rfl) (fun Γ hC hQ hN => ?_)
    have hC : COK G Γ "BandplanModel" cX12_packs 4 (6 + (d + 1)) (166 + (d + 1) * 23) 0 0 [] := hC
    simp only [wp_X12_packs] at hq
    show V G Γ 4 0 0 h0 0 [(0, .ref p0), (1, .int p1), (2, .int p2)] []
    refine V_iload_n hC dX12_packs_0 1 rfl ?_
    refine V_aload_n hC dX12_packs_1 0 rfl ?_
    refine U_getI hC fl_X12_108 dX12_packs_2 hq (fun v1 hq => ?_)
    refine V_icmp_ne (tgt := 10) hC dX12_packs_5 (by decide) (fun hc => ?_) (fun hc => ?_)
    · have hq := hq.1 hc
      refine V_aload_n hC dX12_packs_10 0 rfl ?_
      refine U_getR hC fl_X12_80 dX12_packs_11 hq (fun v2 hq => ?_)
      refine V_iload_n hC dX12_packs_14 1 rfl ?_
      refine U_ldZ hC dX12_packs_15 hq (fun v3 hq => ?_)
      refine V_if_ne (tgt := 28) hC dX12_packs_16 (by decide) (fun hc => ?_) (fun hc => ?_)
      · have hq := hq.1 hc
        refine V_iconst (v := 0) hC dX12_packs_28 (by decide) ?_
        refine V_istore_n (L' := [(0, .ref p0), (1, .int p1), (2, .int p2), (3, .int 0)]) hC dX12_packs_29 rfl (by decide) [1, 2, 3, 0] rfl ?_
        have hq := hq (fun (x3_4 : Int32) (h5 : hw) => V G Γ 4 0 0 h5 30 [(0, .ref p0), (1, .int p1), (2, .int p2), (3, .int x3_4)] []) (by
          intro x3_4 h5 hq
          show V G Γ 4 0 0 h5 30 [(0, .ref p0), (1, .int p1), (2, .int p2), (3, .int x3_4)] []
          refine V_iload_n hC dX12_packs_30 3 rfl ?_
          refine V_iload_n hC dX12_packs_31 2 rfl ?_
          refine V_icmp_ge (tgt := 69) hC dX12_packs_32 (by decide) (fun hc => ?_) (fun hc => ?_)
          · have hq := hq.1 hc
            refine V_iconst (v := 0) hC dX12_packs_69 (by decide) ?_
            exact V_iret hC hQ rfl rfl ⟨by decide, by decide⟩ dX12_packs_70 ⟨_, rfl, hq⟩
          · have hq := hq.2 hc
            refine V_aload_n hC dX12_packs_35 0 rfl ?_
            refine U_getR hC fl_X12_83 dX12_packs_36 hq (fun v6 hq => ?_)
            refine V_iload_n hC dX12_packs_39 1 rfl ?_
            refine V_iload_n hC dX12_packs_40 3 rfl ?_
            refine U_stI hC dX12_packs_41 hq (fun h7 hq => ?_)
            refine V_aload_n hC dX12_packs_42 0 rfl ?_
            refine V_iload_n hC dX12_packs_43 1 rfl ?_
            obtain ⟨hz, hq⟩ := hq
            refine clV_X12_fits hG hC sv_X12_221 ⟨by omega, by omega⟩ (Nat.le_of_ble_eq_true rfl) ⟨by decide, by decide⟩ dX12_packs_44 hz hq (fun r8 hq => ?_)
            show V G Γ 4 0 0 h7 47 [(0, .ref p0), (1, .int p1), (2, .int p2), (3, .int x3_4)] [.int r8]
            have hq := hq (fun (h9 : hw) => V G Γ 4 0 0 h9 63 [(0, .ref p0), (1, .int p1), (2, .int p2), (3, .int x3_4)] []) (by
              intro h9 hq
              show V G Γ 4 0 0 h9 63 [(0, .ref p0), (1, .int p1), (2, .int p2), (3, .int x3_4)] []
              refine V_iinc (j := 3) (v := (x3_4 + 1)) (L' := [(0, .ref p0), (1, .int p1), (2, .int p2), (3, .int (x3_4 + 1))]) hC dX12_packs_63 rfl rfl (by decide) [1, 2, 3, 0] rfl ?_
              refine V_goto (tgt := 30) hC dX12_packs_66 (by decide) ?_
              exact hq)
            refine V_if_eq (tgt := 63) hC dX12_packs_47 (by decide) (fun hc => ?_) (fun hc => ?_)
            · have hq := hq.1 hc
              exact hq
            · have hq := hq.2 hc
              refine V_aload_n hC dX12_packs_50 0 rfl ?_
              refine V_iload_n hC dX12_packs_51 1 rfl ?_
              refine V_iconst (v := 1) hC dX12_packs_52 (by decide) ?_
              refine V_iadd hC dX12_packs_53 ?_
              refine V_iload_n hC dX12_packs_54 2 rfl ?_
              obtain ⟨hz, hq⟩ := hq
              refine V_callV (As := [.int (p1 + 1), .int p2]) (r9 := (RX12, TX12, 36)) hC (ih _ _ _ _ _ hq) sv_X12_218 hz rfl rfl rfl ⟨by omega, by omega⟩ (Nat.le_of_ble_eq_true rfl) ⟨by decide, by decide⟩ dX12_packs_55 (fun E h1 z => z.elim) (fun v h11 z => ?_)
              obtain ⟨r10, rfl, hq⟩ := z
              show V G Γ 4 0 0 h11 58 [(0, .ref p0), (1, .int p1), (2, .int p2), (3, .int x3_4)] [.int r10]
              refine V_if_eq (tgt := 63) hC dX12_packs_58 (by decide) (fun hc => ?_) (fun hc => ?_)
              · have hq := hq.1 hc
                exact hq
              · have hq := hq.2 hc
                refine V_iconst (v := 1) hC dX12_packs_61 (by decide) ?_
                exact V_iret hC hQ rfl rfl ⟨by decide, by decide⟩ dX12_packs_62 ⟨_, rfl, hq⟩)
        exact hq
      · have hq := hq.2 hc
        refine V_aload_n hC dX12_packs_19 0 rfl ?_
        refine V_iload_n hC dX12_packs_20 1 rfl ?_
        refine V_iconst (v := 1) hC dX12_packs_21 (by decide) ?_
        refine V_iadd hC dX12_packs_22 ?_
        refine V_iload_n hC dX12_packs_23 2 rfl ?_
        obtain ⟨hz, hq⟩ := hq
        refine V_callV (As := [.int (p1 + 1), .int p2]) (r9 := (RX12, TX12, 36)) hC (ih _ _ _ _ _ hq) sv_X12_218 hz rfl rfl rfl ⟨by omega, by omega⟩ (Nat.le_of_ble_eq_true rfl) ⟨by decide, by decide⟩ dX12_packs_24 (fun E h1 z => z.elim) (fun v h13 z => ?_)
        obtain ⟨r12, rfl, hq⟩ := z
        show V G Γ 4 0 0 h13 27 [(0, .ref p0), (1, .int p1), (2, .int p2)] [.int r12]
        obtain ⟨hz, hq⟩ := hq
        exact V_iret hC hQ rfl (nar_b hz) ⟨by decide, by decide⟩ dX12_packs_27 ⟨_, rfl, hq⟩
    · have hq := hq.2 hc
      refine V_iconst (v := 1) hC dX12_packs_8 (by decide) ?_
      exact V_iret hC hQ rfl rfl ⟨by decide, by decide⟩ dX12_packs_9 ⟨_, rfl, hq⟩
theorem clV_X12_packs {G : Gx} (hG : GOK G) {Γ : Cx} {own : String} {cc : ByteArray} {nL fr lo mc ms cells slots pc : Nat} {hh : List (Nat × Nat × Nat × Nat)} {h : hw} {L : List (Nat × Value)} {rest : List Value} (hC : COK G Γ own cc nL fr lo mc ms hh) {idx : Nat} (hs : SV own idx yX12_packs cX12_packs 4 (some .boolean) 2) {p0 : Nat} {p1 : Int32} {p2 : Int32} (hR : 16 + 1 ≤ fr ∧ 8 + (4 + 11) + 396 ≤ lo) (hw8 : (rest.map fun v => v.category).sum ≤ 8) (hcs : cells + 0 ≤ mc ∧ slots + 0 ≤ ms) (hdg : decode cc pc = .ok (.invokevirtual idx, 3)) (ho : isO h p0 12) {post : Int32 → hw → Prop} (hq : wp_X12_packs G 10 p0 p1 p2 h post) (kk : ∀ (r : Int32) (h1 : hw) , post r h1 → V G Γ nL (cells + 0) (slots + 0) h1 (pc + 3) L (.int r :: rest)) : V G Γ nL cells slots h pc L (.int p2 :: .int p1 :: .ref p0 :: rest) :=
  V_callV (As := [.int p1, .int p2]) (r9 := (RX12, TX12, 36)) hC (ct_X12_packs hG 10 p0 p1 p2 h post hq) hs ho rfl rfl rfl hR hw8 hcs hdg (fun E h1 z => z.elim) (fun v h1 z => by obtain ⟨r, rfl, hz⟩ := z; exact kk r h1 hz)
set_option maxRecDepth 100000 in
set_option maxHeartbeats 4000000 in
theorem ct_X12_packsAll {G : Gx} (hG : GOK G) (p0 : Nat) (p1 : Int32) (h0 : hw) (post : Int32 → hw → Prop) (hq : wp_X12_packsAll G p0 p1 h0 post) : CT G yX12_packsAll cX12_packsAll 3 (some .boolean) 17 419 0 0 [.ref p0, .int p1] h0 (fun v h1 => ∃ r : Int32, v = some (.int r) ∧ post r h1) (fun E h1 => False) := by
  refine CT_of hG (by decide) (Nat.le_of_ble_eq_true rfl) (fun Γ hC hQ hN => ?_)
  have hC : COK G Γ "BandplanModel" cX12_packsAll 3 17 419 0 0 [] := hC
  unfold wp_X12_packsAll at hq
  show V G Γ 3 0 0 h0 0 [(0, .ref p0), (1, .int p1)] []
  refine V_iconst (v := 0) hC dX12_packsAll_0 (by decide) ?_
  refine V_istore_n (L' := [(0, .ref p0), (1, .int p1), (2, .int 0)]) hC dX12_packsAll_1 rfl (by decide) [1, 2, 0] rfl ?_
  have hq := hq (fun (x2_1 : Int32) (h2 : hw) => V G Γ 3 0 0 h2 2 [(0, .ref p0), (1, .int p1), (2, .int x2_1)] []) (by
    intro x2_1 h2 hq
    show V G Γ 3 0 0 h2 2 [(0, .ref p0), (1, .int p1), (2, .int x2_1)] []
    refine V_iload_n hC dX12_packsAll_2 2 rfl ?_
    refine V_aload_n hC dX12_packsAll_3 0 rfl ?_
    refine U_getI hC fl_X12_108 dX12_packsAll_4 hq (fun v3 hq => ?_)
    refine V_icmp_ge (tgt := 28) hC dX12_packsAll_7 (by decide) (fun hc => ?_) (fun hc => ?_)
    · have hq := hq.1 hc
      refine V_aload_n hC dX12_packsAll_28 0 rfl ?_
      refine V_iconst (v := 0) hC dX12_packsAll_29 (by decide) ?_
      refine V_iload_n hC dX12_packsAll_30 1 rfl ?_
      obtain ⟨hz, hq⟩ := hq
      refine clV_X12_packs hG hC sv_X12_218 ⟨by decide, by decide⟩ (Nat.le_of_ble_eq_true rfl) ⟨by decide, by decide⟩ dX12_packsAll_31 hz hq (fun r4 h5 hq => ?_)
      show V G Γ 3 0 0 h5 34 [(0, .ref p0), (1, .int p1), (2, .int x2_1)] [.int r4]
      obtain ⟨hz, hq⟩ := hq
      exact V_iret hC hQ rfl (nar_b hz) ⟨by decide, by decide⟩ dX12_packsAll_34 ⟨_, rfl, hq⟩
    · have hq := hq.2 hc
      refine V_aload_n hC dX12_packsAll_10 0 rfl ?_
      refine U_getR hC fl_X12_80 dX12_packsAll_11 hq (fun v6 hq => ?_)
      refine V_iload_n hC dX12_packsAll_14 2 rfl ?_
      refine V_aload_n hC dX12_packsAll_15 0 rfl ?_
      refine U_getR hC fl_X12_35 dX12_packsAll_16 hq (fun v7 hq => ?_)
      refine V_iload_n hC dX12_packsAll_19 2 rfl ?_
      refine U_ldZ hC dX12_packsAll_20 hq (fun v8 hq => ?_)
      refine U_stZ hC dX12_packsAll_21 hq (fun h9 hq => ?_)
      refine V_iinc (j := 2) (v := (x2_1 + 1)) (L' := [(0, .ref p0), (1, .int p1), (2, .int (x2_1 + 1))]) hC dX12_packsAll_22 rfl rfl (by decide) [1, 2, 0] rfl ?_
      refine V_goto (tgt := 2) hC dX12_packsAll_25 (by decide) ?_
      exact hq)
  exact hq
theorem clV_X12_packsAll {G : Gx} (hG : GOK G) {Γ : Cx} {own : String} {cc : ByteArray} {nL fr lo mc ms cells slots pc : Nat} {hh : List (Nat × Nat × Nat × Nat)} {h : hw} {L : List (Nat × Value)} {rest : List Value} (hC : COK G Γ own cc nL fr lo mc ms hh) {idx : Nat} (hs : SV own idx yX12_packsAll cX12_packsAll 3 (some .boolean) 1) {p0 : Nat} {p1 : Int32} (hR : 17 + 1 ≤ fr ∧ 8 + (3 + 11) + 419 ≤ lo) (hw8 : (rest.map fun v => v.category).sum ≤ 8) (hcs : cells + 0 ≤ mc ∧ slots + 0 ≤ ms) (hdg : decode cc pc = .ok (.invokevirtual idx, 3)) (ho : isO h p0 12) {post : Int32 → hw → Prop} (hq : wp_X12_packsAll G p0 p1 h post) (kk : ∀ (r : Int32) (h1 : hw) , post r h1 → V G Γ nL (cells + 0) (slots + 0) h1 (pc + 3) L (.int r :: rest)) : V G Γ nL cells slots h pc L (.int p1 :: .ref p0 :: rest) :=
  V_callV (As := [.int p1]) (r9 := (RX12, TX12, 36)) hC (ct_X12_packsAll hG p0 p1 h post hq) hs ho rfl rfl rfl hR hw8 hcs hdg (fun E h1 z => z.elim) (fun v h1 z => by obtain ⟨r, rfl, hz⟩ := z; exact kk r h1 hz)
set_option maxRecDepth 100000 in
set_option maxHeartbeats 4000000 in
theorem ct_X12_canPack {G : Gx} (hG : GOK G) (p0 : Nat) (p1 : Int32) (h0 : hw) (post : Int32 → hw → Prop) (hq : wp_X12_canPack G p0 p1 h0 post) : CT G yX12_canPack cX12_canPack 2 (some .boolean) 18 441 0 0 [.ref p0, .int p1] h0 (fun v h1 => ∃ r : Int32, v = some (.int r) ∧ post r h1) (fun E h1 => False) := by
  refine CT_of hG (by decide) (Nat.le_of_ble_eq_true rfl) (fun Γ hC hQ hN => ?_)
  have hC : COK G Γ "BandplanModel" cX12_canPack 2 18 441 0 0 [] := hC
  unfold wp_X12_canPack at hq
  show V G Γ 2 0 0 h0 0 [(0, .ref p0), (1, .int p1)] []
  refine V_aload_n hC dX12_canPack_0 0 rfl ?_
  refine V_iconst (v := 0) hC dX12_canPack_1 (by decide) ?_
  refine U_putO hC (by decide) fl_X12_98 fin_X12_0 rfl rfl dX12_canPack_2 hq (fun h1 hq => ?_)
  refine V_aload_n hC dX12_canPack_5 0 rfl ?_
  refine V_iload_n hC dX12_canPack_6 1 rfl ?_
  refine V_iconst (v := 1) hC dX12_canPack_7 (by decide) ?_
  refine V_bipush (v := 8) hC dX12_canPack_8 (by decide) ?_
  refine clS_X12_in hG hC ss_X12_101 ⟨by decide, by decide⟩ (Nat.le_of_ble_eq_true rfl) ⟨by decide, by decide⟩ dX12_canPack_10 hq (fun r2 hq => ?_)
  show V G Γ 2 0 0 h1 13 [(0, .ref p0), (1, .int p1)] [.int r2, .ref p0]
  have hq := hq (fun (t3 : Nat) (t4 : Int32) => V G Γ 2 0 0 h1 21 [(0, .ref p0), (1, .int p1)] [.int t4, .ref t3]) (by
    intro t3 t4 hq
    show V G Γ 2 0 0 h1 21 [(0, .ref p0), (1, .int p1)] [.int t4, .ref t3]
    refine V_iconst (v := 1) hC dX12_canPack_21 (by decide) ?_
    obtain ⟨hz, hq⟩ := hq
    refine clV_X12_fails hG hC sv_X12_115 ⟨by decide, by decide⟩ (Nat.le_of_ble_eq_true rfl) ⟨by decide, by decide⟩ dX12_canPack_22 hz hq (fun r5 h6 hq => ?_)
    show V G Γ 2 0 0 h6 25 [(0, .ref p0), (1, .int p1)] [.int r5]
    have hq := hq (fun (h7 : hw) => V G Γ 2 0 0 h7 40 [] []) (by
      intro h7 hq
      show V G Γ 2 0 0 h7 40 [] []
      refine V_iconst (v := 0) hC dX12_canPack_40 (by decide) ?_
      exact V_iret hC hQ rfl rfl ⟨by decide, by decide⟩ dX12_canPack_41 ⟨_, rfl, hq⟩)
    refine V_if_ne (tgt := 40) hC dX12_canPack_25 (by decide) (fun hc => ?_) (fun hc => ?_)
    · have hq := hq.1 hc
      refine V_sub [] rfl ?_
      exact hq
    · have hq := hq.2 hc
      refine V_aload_n hC dX12_canPack_28 0 rfl ?_
      refine V_iload_n hC dX12_canPack_29 1 rfl ?_
      obtain ⟨hz, hq⟩ := hq
      refine clV_X12_packsAll hG hC sv_X12_224 ⟨by decide, by decide⟩ (Nat.le_of_ble_eq_true rfl) ⟨by decide, by decide⟩ dX12_canPack_30 hz hq (fun r8 h9 hq => ?_)
      show V G Γ 2 0 0 h9 33 [(0, .ref p0), (1, .int p1)] [.int r8]
      refine V_if_eq (tgt := 40) hC dX12_canPack_33 (by decide) (fun hc => ?_) (fun hc => ?_)
      · have hq := hq.1 hc
        refine V_sub [] rfl ?_
        exact hq
      · have hq := hq.2 hc
        refine V_iconst (v := 1) hC dX12_canPack_36 (by decide) ?_
        refine V_goto (tgt := 41) hC dX12_canPack_37 (by decide) ?_
        exact V_iret hC hQ rfl rfl ⟨by decide, by decide⟩ dX12_canPack_41 ⟨_, rfl, hq⟩)
  refine V_if_ne (tgt := 20) hC dX12_canPack_13 (by decide) (fun hc => ?_) (fun hc => ?_)
  · have hq := hq.1 hc
    refine V_iconst (v := 0) hC dX12_canPack_20 (by decide) ?_
    exact hq
  · have hq := hq.2 hc
    refine V_iconst (v := 1) hC dX12_canPack_16 (by decide) ?_
    refine V_goto (tgt := 21) hC dX12_canPack_17 (by decide) ?_
    exact hq
theorem clV_X12_canPack {G : Gx} (hG : GOK G) {Γ : Cx} {own : String} {cc : ByteArray} {nL fr lo mc ms cells slots pc : Nat} {hh : List (Nat × Nat × Nat × Nat)} {h : hw} {L : List (Nat × Value)} {rest : List Value} (hC : COK G Γ own cc nL fr lo mc ms hh) {idx : Nat} (hs : SV own idx yX12_canPack cX12_canPack 2 (some .boolean) 1) {p0 : Nat} {p1 : Int32} (hR : 18 + 1 ≤ fr ∧ 8 + (2 + 11) + 441 ≤ lo) (hw8 : (rest.map fun v => v.category).sum ≤ 8) (hcs : cells + 0 ≤ mc ∧ slots + 0 ≤ ms) (hdg : decode cc pc = .ok (.invokevirtual idx, 3)) (ho : isO h p0 12) {post : Int32 → hw → Prop} (hq : wp_X12_canPack G p0 p1 h post) (kk : ∀ (r : Int32) (h1 : hw) , post r h1 → V G Γ nL (cells + 0) (slots + 0) h1 (pc + 3) L (.int r :: rest)) : V G Γ nL cells slots h pc L (.int p1 :: .ref p0 :: rest) :=
  V_callV (As := [.int p1]) (r9 := (RX12, TX12, 36)) hC (ct_X12_canPack hG p0 p1 h post hq) hs ho rfl rfl rfl hR hw8 hcs hdg (fun E h1 z => z.elim) (fun v h1 z => by obtain ⟨r, rfl, hz⟩ := z; exact kk r h1 hz)
set_option maxRecDepth 100000 in
set_option maxHeartbeats 4000000 in
theorem ct_X12_packed {G : Gx} (hG : GOK G) (p0 : Nat) (p1 : Int32) (p2 : Int32) (h0 : hw) (post : Int32 → hw → Prop) (hq : wp_X12_packed G p0 p1 p2 h0 post) : CT G yX12_packed cX12_packed 3 (some .int) 18 441 0 0 [.ref p0, .int p1, .int p2] h0 (fun v h1 => ∃ r : Int32, v = some (.int r) ∧ post r h1) (fun E h1 => False) := by
  refine CT_of hG (by decide) (Nat.le_of_ble_eq_true rfl) (fun Γ hC hQ hN => ?_)
  have hC : COK G Γ "BandplanModel" cX12_packed 3 18 441 0 0 [] := hC
  unfold wp_X12_packed at hq
  show V G Γ 3 0 0 h0 0 [(0, .ref p0), (1, .int p1), (2, .int p2)] []
  refine V_aload_n hC dX12_packed_0 0 rfl ?_
  refine V_iconst (v := 0) hC dX12_packed_1 (by decide) ?_
  refine U_putO hC (by decide) fl_X12_98 fin_X12_0 rfl rfl dX12_packed_2 hq (fun h1 hq => ?_)
  refine V_aload_n hC dX12_packed_5 0 rfl ?_
  refine V_iload_n hC dX12_packed_6 1 rfl ?_
  refine V_iconst (v := 1) hC dX12_packed_7 (by decide) ?_
  refine V_bipush (v := 8) hC dX12_packed_8 (by decide) ?_
  refine clS_X12_in hG hC ss_X12_101 ⟨by decide, by decide⟩ (Nat.le_of_ble_eq_true rfl) ⟨by decide, by decide⟩ dX12_packed_10 hq (fun r2 hq => ?_)
  show V G Γ 3 0 0 h1 13 [(0, .ref p0), (1, .int p1), (2, .int p2)] [.int r2, .ref p0]
  have hq := hq (fun (t3 : Nat) (t4 : Int32) => V G Γ 3 0 0 h1 21 [(0, .ref p0), (1, .int p1), (2, .int p2)] [.int t4, .ref t3]) (by
    intro t3 t4 hq
    show V G Γ 3 0 0 h1 21 [(0, .ref p0), (1, .int p1), (2, .int p2)] [.int t4, .ref t3]
    refine V_iconst (v := 1) hC dX12_packed_21 (by decide) ?_
    obtain ⟨hz, hq⟩ := hq
    refine clV_X12_fails hG hC sv_X12_115 ⟨by decide, by decide⟩ (Nat.le_of_ble_eq_true rfl) ⟨by decide, by decide⟩ dX12_packed_22 hz hq (fun r5 h6 hq => ?_)
    show V G Γ 3 0 0 h6 25 [(0, .ref p0), (1, .int p1), (2, .int p2)] [.int r5]
    refine V_if_ne (tgt := 63) hC dX12_packed_25 (by decide) (fun hc => ?_) (fun hc => ?_)
    · have hq := hq.1 hc
      refine V_iconst (v := 0) hC dX12_packed_63 (by decide) ?_
      exact V_iret hC hQ rfl rfl ⟨by decide, by decide⟩ dX12_packed_64 ⟨_, rfl, hq⟩
    · have hq := hq.2 hc
      refine V_aload_n hC dX12_packed_28 0 rfl ?_
      refine V_aload_n hC dX12_packed_29 0 rfl ?_
      refine V_iload_n hC dX12_packed_30 2 rfl ?_
      obtain ⟨hz, hq⟩ := hq
      refine clV_X12_no hG hC sv_X12_153 ⟨by decide, by decide⟩ (Nat.le_of_ble_eq_true rfl) ⟨by decide, by decide⟩ dX12_packed_31 hz hq (fun r7 hq => ?_)
      show V G Γ 3 0 0 h6 34 [(0, .ref p0), (1, .int p1), (2, .int p2)] [.int r7, .ref p0]
      refine V_iconst (v := 2) hC dX12_packed_34 (by decide) ?_
      obtain ⟨hz, hq⟩ := hq
      refine clV_X12_fails hG hC sv_X12_115 ⟨by decide, by decide⟩ (Nat.le_of_ble_eq_true rfl) ⟨by decide, by decide⟩ dX12_packed_35 hz hq (fun r8 h9 hq => ?_)
      show V G Γ 3 0 0 h9 38 [(0, .ref p0), (1, .int p1), (2, .int p2)] [.int r8]
      refine V_if_ne (tgt := 63) hC dX12_packed_38 (by decide) (fun hc => ?_) (fun hc => ?_)
      · have hq := hq.1 hc
        refine V_iconst (v := 0) hC dX12_packed_63 (by decide) ?_
        exact V_iret hC hQ rfl rfl ⟨by decide, by decide⟩ dX12_packed_64 ⟨_, rfl, hq⟩
      · have hq := hq.2 hc
        refine V_aload_n hC dX12_packed_41 0 rfl ?_
        refine V_aload_n hC dX12_packed_42 0 rfl ?_
        refine U_getR hC fl_X12_35 dX12_packed_43 hq (fun v10 hq => ?_)
        refine V_iload_n hC dX12_packed_46 2 rfl ?_
        refine U_ldZ hC dX12_packed_47 hq (fun v11 hq => ?_)
        have hq := hq (fun (t12 : Nat) (t13 : Int32) => V G Γ 3 0 0 h9 56 [(0, .ref p0), (1, .int p1), (2, .int p2)] [.int t13, .ref t12]) (by
          intro t12 t13 hq
          show V G Γ 3 0 0 h9 56 [(0, .ref p0), (1, .int p1), (2, .int p2)] [.int t13, .ref t12]
          refine V_iconst (v := 3) hC dX12_packed_56 (by decide) ?_
          obtain ⟨hz, hq⟩ := hq
          refine clV_X12_fails hG hC sv_X12_115 ⟨by decide, by decide⟩ (Nat.le_of_ble_eq_true rfl) ⟨by decide, by decide⟩ dX12_packed_57 hz hq (fun r14 h15 hq => ?_)
          show V G Γ 3 0 0 h15 60 [(0, .ref p0), (1, .int p1), (2, .int p2)] [.int r14]
          refine V_if_eq (tgt := 65) hC dX12_packed_60 (by decide) (fun hc => ?_) (fun hc => ?_)
          · have hq := hq.1 hc
            refine V_aload_n hC dX12_packed_65 0 rfl ?_
            refine V_aload_n hC dX12_packed_66 0 rfl ?_
            refine V_iload_n hC dX12_packed_67 1 rfl ?_
            obtain ⟨hz, hq⟩ := hq
            refine clV_X12_packsAll hG hC sv_X12_224 ⟨by decide, by decide⟩ (Nat.le_of_ble_eq_true rfl) ⟨by decide, by decide⟩ dX12_packed_68 hz hq (fun r16 h17 hq => ?_)
            show V G Γ 3 0 0 h17 71 [(0, .ref p0), (1, .int p1), (2, .int p2)] [.int r16, .ref p0]
            have hq := hq (fun (t18 : Nat) (t19 : Int32) => V G Γ 3 0 0 h17 79 [(0, .ref p0), (2, .int p2)] [.int t19, .ref t18]) (by
              intro t18 t19 hq
              show V G Γ 3 0 0 h17 79 [(0, .ref p0), (2, .int p2)] [.int t19, .ref t18]
              refine V_iconst (v := 4) hC dX12_packed_79 (by decide) ?_
              obtain ⟨hz, hq⟩ := hq
              refine clV_X12_fails hG hC sv_X12_115 ⟨by decide, by decide⟩ (Nat.le_of_ble_eq_true rfl) ⟨by decide, by decide⟩ dX12_packed_80 hz hq (fun r20 h21 hq => ?_)
              show V G Γ 3 0 0 h21 83 [(0, .ref p0), (2, .int p2)] [.int r20]
              refine V_if_eq (tgt := 90) hC dX12_packed_83 (by decide) (fun hc => ?_) (fun hc => ?_)
              · have hq := hq.1 hc
                refine V_aload_n hC dX12_packed_90 0 rfl ?_
                refine U_getR hC fl_X12_83 dX12_packed_91 hq (fun v22 hq => ?_)
                refine V_iload_n hC dX12_packed_94 1 rfl ?_
                refine U_ldI hC dX12_packed_95 hq (fun v23 hq => ?_)
                exact V_iret hC hQ rfl rfl ⟨by decide, by decide⟩ dX12_packed_96 ⟨_, rfl, hq⟩
              · have hq := hq.2 hc
                refine V_iconst (v := 0) hC dX12_packed_86 (by decide) ?_
                refine V_goto (tgt := 96) hC dX12_packed_87 (by decide) ?_
                exact V_iret hC hQ rfl rfl ⟨by decide, by decide⟩ dX12_packed_96 ⟨_, rfl, hq⟩)
            refine V_if_ne (tgt := 78) hC dX12_packed_71 (by decide) (fun hc => ?_) (fun hc => ?_)
            · have hq := hq.1 hc
              refine V_iconst (v := 0) hC dX12_packed_78 (by decide) ?_
              refine V_sub [0, 2] rfl ?_
              exact hq
            · have hq := hq.2 hc
              refine V_iconst (v := 1) hC dX12_packed_74 (by decide) ?_
              refine V_goto (tgt := 79) hC dX12_packed_75 (by decide) ?_
              refine V_sub [0, 2] rfl ?_
              exact hq
          · have hq := hq.2 hc
            refine V_iconst (v := 0) hC dX12_packed_63 (by decide) ?_
            exact V_iret hC hQ rfl rfl ⟨by decide, by decide⟩ dX12_packed_64 ⟨_, rfl, hq⟩)
        refine V_if_ne (tgt := 55) hC dX12_packed_48 (by decide) (fun hc => ?_) (fun hc => ?_)
        · have hq := hq.1 hc
          refine V_iconst (v := 0) hC dX12_packed_55 (by decide) ?_
          exact hq
        · have hq := hq.2 hc
          refine V_iconst (v := 1) hC dX12_packed_51 (by decide) ?_
          refine V_goto (tgt := 56) hC dX12_packed_52 (by decide) ?_
          exact hq)
  refine V_if_ne (tgt := 20) hC dX12_packed_13 (by decide) (fun hc => ?_) (fun hc => ?_)
  · have hq := hq.1 hc
    refine V_iconst (v := 0) hC dX12_packed_20 (by decide) ?_
    exact hq
  · have hq := hq.2 hc
    refine V_iconst (v := 1) hC dX12_packed_16 (by decide) ?_
    refine V_goto (tgt := 21) hC dX12_packed_17 (by decide) ?_
    exact hq
theorem clV_X12_packed {G : Gx} (hG : GOK G) {Γ : Cx} {own : String} {cc : ByteArray} {nL fr lo mc ms cells slots pc : Nat} {hh : List (Nat × Nat × Nat × Nat)} {h : hw} {L : List (Nat × Value)} {rest : List Value} (hC : COK G Γ own cc nL fr lo mc ms hh) {idx : Nat} (hs : SV own idx yX12_packed cX12_packed 3 (some .int) 2) {p0 : Nat} {p1 : Int32} {p2 : Int32} (hR : 18 + 1 ≤ fr ∧ 8 + (3 + 11) + 441 ≤ lo) (hw8 : (rest.map fun v => v.category).sum ≤ 8) (hcs : cells + 0 ≤ mc ∧ slots + 0 ≤ ms) (hdg : decode cc pc = .ok (.invokevirtual idx, 3)) (ho : isO h p0 12) {post : Int32 → hw → Prop} (hq : wp_X12_packed G p0 p1 p2 h post) (kk : ∀ (r : Int32) (h1 : hw) , post r h1 → V G Γ nL (cells + 0) (slots + 0) h1 (pc + 3) L (.int r :: rest)) : V G Γ nL cells slots h pc L (.int p2 :: .int p1 :: .ref p0 :: rest) :=
  V_callV (As := [.int p1, .int p2]) (r9 := (RX12, TX12, 36)) hC (ct_X12_packed hG p0 p1 p2 h post hq) hs ho rfl rfl rfl hR hw8 hcs hdg (fun E h1 z => z.elim) (fun v h1 z => by obtain ⟨r, rfl, hz⟩ := z; exact kk r h1 hz)
set_option maxRecDepth 100000 in
set_option maxHeartbeats 4000000 in
theorem ct_X12_setAsked {G : Gx} (hG : GOK G) (p0 : Nat) (p1 : Int32) (p2 : Int32) (h0 : hw) (post : Int32 → hw → Prop) (hq : wp_X12_setAsked G p0 p1 p2 h0 post) : CT G yX12_setAsked cX12_setAsked 4 (some .int) 3 73 0 0 [.ref p0, .int p1, .int p2] h0 (fun v h1 => ∃ r : Int32, v = some (.int r) ∧ post r h1) (fun E h1 => False) := by
  refine CT_of hG (by decide) (Nat.le_of_ble_eq_true rfl) (fun Γ hC hQ hN => ?_)
  have hC : COK G Γ "BandplanModel" cX12_setAsked 4 3 73 0 0 [] := hC
  unfold wp_X12_setAsked at hq
  show V G Γ 4 0 0 h0 0 [(0, .ref p0), (1, .int p1), (2, .int p2)] []
  refine V_aload_n hC dX12_setAsked_0 0 rfl ?_
  refine V_iconst (v := 0) hC dX12_setAsked_1 (by decide) ?_
  refine U_putO hC (by decide) fl_X12_98 fin_X12_0 rfl rfl dX12_setAsked_2 hq (fun h1 hq => ?_)
  refine V_aload_n hC dX12_setAsked_5 0 rfl ?_
  refine V_aload_n hC dX12_setAsked_6 0 rfl ?_
  refine V_iload_n hC dX12_setAsked_7 1 rfl ?_
  obtain ⟨hz, hq⟩ := hq
  refine clV_X12_no hG hC sv_X12_153 ⟨by decide, by decide⟩ (Nat.le_of_ble_eq_true rfl) ⟨by decide, by decide⟩ dX12_setAsked_8 hz hq (fun r2 hq => ?_)
  show V G Γ 4 0 0 h1 11 [(0, .ref p0), (1, .int p1), (2, .int p2)] [.int r2, .ref p0]
  refine V_iconst (v := 1) hC dX12_setAsked_11 (by decide) ?_
  obtain ⟨hz, hq⟩ := hq
  refine clV_X12_fails hG hC sv_X12_115 ⟨by decide, by decide⟩ (Nat.le_of_ble_eq_true rfl) ⟨by decide, by decide⟩ dX12_setAsked_12 hz hq (fun r3 h4 hq => ?_)
  show V G Γ 4 0 0 h4 15 [(0, .ref p0), (1, .int p1), (2, .int p2)] [.int r3]
  refine V_if_ne (tgt := 42) hC dX12_setAsked_15 (by decide) (fun hc => ?_) (fun hc => ?_)
  · have hq := hq.1 hc
    refine V_iconst (v := 0) hC dX12_setAsked_42 (by decide) ?_
    exact V_iret hC hQ rfl rfl ⟨by decide, by decide⟩ dX12_setAsked_43 ⟨_, rfl, hq⟩
  · have hq := hq.2 hc
    refine V_aload_n hC dX12_setAsked_18 0 rfl ?_
    refine V_iload_n hC dX12_setAsked_19 2 rfl ?_
    refine V_iconst (v := 0) hC dX12_setAsked_20 (by decide) ?_
    refine V_sipush (v := 9999) hC dX12_setAsked_21 (by decide) ?_
    refine clS_X12_in hG hC ss_X12_101 ⟨by decide, by decide⟩ (Nat.le_of_ble_eq_true rfl) ⟨by decide, by decide⟩ dX12_setAsked_24 hq (fun r5 hq => ?_)
    show V G Γ 4 0 0 h4 27 [(0, .ref p0), (1, .int p1), (2, .int p2)] [.int r5, .ref p0]
    have hq := hq (fun (t6 : Nat) (t7 : Int32) => V G Γ 4 0 0 h4 35 [(0, .ref p0), (1, .int p1), (2, .int p2)] [.int t7, .ref t6]) (by
      intro t6 t7 hq
      show V G Γ 4 0 0 h4 35 [(0, .ref p0), (1, .int p1), (2, .int p2)] [.int t7, .ref t6]
      refine V_iconst (v := 2) hC dX12_setAsked_35 (by decide) ?_
      obtain ⟨hz, hq⟩ := hq
      refine clV_X12_fails hG hC sv_X12_115 ⟨by decide, by decide⟩ (Nat.le_of_ble_eq_true rfl) ⟨by decide, by decide⟩ dX12_setAsked_36 hz hq (fun r8 h9 hq => ?_)
      show V G Γ 4 0 0 h9 39 [(0, .ref p0), (1, .int p1), (2, .int p2)] [.int r8]
      refine V_if_eq (tgt := 44) hC dX12_setAsked_39 (by decide) (fun hc => ?_) (fun hc => ?_)
      · have hq := hq.1 hc
        refine V_aload_n hC dX12_setAsked_44 0 rfl ?_
        refine U_getR hC fl_X12_42 dX12_setAsked_45 hq (fun v10 hq => ?_)
        refine V_iload_n hC dX12_setAsked_48 1 rfl ?_
        refine U_ldI hC dX12_setAsked_49 hq (fun v11 hq => ?_)
        refine V_istore_n (L' := [(0, .ref p0), (1, .int p1), (2, .int p2), (3, .int v11)]) hC dX12_setAsked_50 rfl (by decide) [1, 2, 3, 0] rfl ?_
        refine V_aload_n hC dX12_setAsked_51 0 rfl ?_
        refine U_getR hC fl_X12_42 dX12_setAsked_52 hq (fun v12 hq => ?_)
        refine V_iload_n hC dX12_setAsked_55 1 rfl ?_
        refine V_iload_n hC dX12_setAsked_56 2 rfl ?_
        refine U_stI hC dX12_setAsked_57 hq (fun h13 hq => ?_)
        refine V_iload_n hC dX12_setAsked_58 3 rfl ?_
        exact V_iret hC hQ rfl rfl ⟨by decide, by decide⟩ dX12_setAsked_59 ⟨_, rfl, hq⟩
      · have hq := hq.2 hc
        refine V_iconst (v := 0) hC dX12_setAsked_42 (by decide) ?_
        exact V_iret hC hQ rfl rfl ⟨by decide, by decide⟩ dX12_setAsked_43 ⟨_, rfl, hq⟩)
    refine V_if_ne (tgt := 34) hC dX12_setAsked_27 (by decide) (fun hc => ?_) (fun hc => ?_)
    · have hq := hq.1 hc
      refine V_iconst (v := 0) hC dX12_setAsked_34 (by decide) ?_
      exact hq
    · have hq := hq.2 hc
      refine V_iconst (v := 1) hC dX12_setAsked_30 (by decide) ?_
      refine V_goto (tgt := 35) hC dX12_setAsked_31 (by decide) ?_
      exact hq
theorem clV_X12_setAsked {G : Gx} (hG : GOK G) {Γ : Cx} {own : String} {cc : ByteArray} {nL fr lo mc ms cells slots pc : Nat} {hh : List (Nat × Nat × Nat × Nat)} {h : hw} {L : List (Nat × Value)} {rest : List Value} (hC : COK G Γ own cc nL fr lo mc ms hh) {idx : Nat} (hs : SV own idx yX12_setAsked cX12_setAsked 4 (some .int) 2) {p0 : Nat} {p1 : Int32} {p2 : Int32} (hR : 3 + 1 ≤ fr ∧ 8 + (4 + 11) + 73 ≤ lo) (hw8 : (rest.map fun v => v.category).sum ≤ 8) (hcs : cells + 0 ≤ mc ∧ slots + 0 ≤ ms) (hdg : decode cc pc = .ok (.invokevirtual idx, 3)) (ho : isO h p0 12) {post : Int32 → hw → Prop} (hq : wp_X12_setAsked G p0 p1 p2 h post) (kk : ∀ (r : Int32) (h1 : hw) , post r h1 → V G Γ nL (cells + 0) (slots + 0) h1 (pc + 3) L (.int r :: rest)) : V G Γ nL cells slots h pc L (.int p2 :: .int p1 :: .ref p0 :: rest) :=
  V_callV (As := [.int p1, .int p2]) (r9 := (RX12, TX12, 36)) hC (ct_X12_setAsked hG p0 p1 p2 h post hq) hs ho rfl rfl rfl hR hw8 hcs hdg (fun E h1 z => z.elim) (fun v h1 z => by obtain ⟨r, rfl, hz⟩ := z; exact kk r h1 hz)
set_option maxRecDepth 100000 in
set_option maxHeartbeats 4000000 in
theorem ct_X12_canStay {G : Gx} (hG : GOK G) (p0 : Nat) (p1 : Int32) (p2 : Int32) (h0 : hw) (post : Int32 → hw → Prop) (hq : wp_X12_canStay G p0 p1 p2 h0 post) : CT G yX12_canStay cX12_canStay 4 (some .boolean) 17 419 0 0 [.ref p0, .int p1, .int p2] h0 (fun v h1 => ∃ r : Int32, v = some (.int r) ∧ post r h1) (fun E h1 => False) := by
  refine CT_of hG (by decide) (Nat.le_of_ble_eq_true rfl) (fun Γ hC hQ hN => ?_)
  have hC : COK G Γ "BandplanModel" cX12_canStay 4 17 419 0 0 [] := hC
  unfold wp_X12_canStay at hq
  show V G Γ 4 0 0 h0 0 [(0, .ref p0), (1, .int p1), (2, .int p2)] []
  refine V_iconst (v := 0) hC dX12_canStay_0 (by decide) ?_
  refine V_istore_n (L' := [(0, .ref p0), (1, .int p1), (2, .int p2), (3, .int 0)]) hC dX12_canStay_1 rfl (by decide) [1, 2, 3, 0] rfl ?_
  have hq := hq (fun (x3_1 : Int32) (h2 : hw) => V G Γ 4 0 0 h2 2 [(0, .ref p0), (1, .int p1), (2, .int p2), (3, .int x3_1)] []) (by
    intro x3_1 h2 hq
    show V G Γ 4 0 0 h2 2 [(0, .ref p0), (1, .int p1), (2, .int p2), (3, .int x3_1)] []
    refine V_iload_n hC dX12_canStay_2 3 rfl ?_
    refine V_aload_n hC dX12_canStay_3 0 rfl ?_
    refine U_getI hC fl_X12_108 dX12_canStay_4 hq (fun v3 hq => ?_)
    refine V_icmp_ge (tgt := 56) hC dX12_canStay_7 (by decide) (fun hc => ?_) (fun hc => ?_)
    · have hq := hq.1 hc
      refine V_aload_n hC dX12_canStay_56 0 rfl ?_
      refine V_iconst (v := 0) hC dX12_canStay_57 (by decide) ?_
      refine V_iload_n hC dX12_canStay_58 2 rfl ?_
      obtain ⟨hz, hq⟩ := hq
      refine clV_X12_packs hG hC sv_X12_218 ⟨by decide, by decide⟩ (Nat.le_of_ble_eq_true rfl) ⟨by decide, by decide⟩ dX12_canStay_59 hz hq (fun r4 h5 hq => ?_)
      show V G Γ 4 0 0 h5 62 [(0, .ref p0), (1, .int p1), (2, .int p2), (3, .int x3_1)] [.int r4]
      obtain ⟨hz, hq⟩ := hq
      exact V_iret hC hQ rfl (nar_b hz) ⟨by decide, by decide⟩ dX12_canStay_62 ⟨_, rfl, hq⟩
    · have hq := hq.2 hc
      refine V_aload_n hC dX12_canStay_10 0 rfl ?_
      refine U_getR hC fl_X12_80 dX12_canStay_11 hq (fun v6 hq => ?_)
      refine V_iload_n hC dX12_canStay_14 3 rfl ?_
      refine V_aload_n hC dX12_canStay_15 0 rfl ?_
      refine U_getR hC fl_X12_35 dX12_canStay_16 hq (fun v7 hq => ?_)
      refine V_iload_n hC dX12_canStay_19 3 rfl ?_
      refine U_ldZ hC dX12_canStay_20 hq (fun v8 hq => ?_)
      have hq := hq (fun (t9 : Nat) (t10 : Int32) (t11 : Int32) => V G Γ 4 0 0 h2 49 [(0, .ref p0), (1, .int p1), (2, .int p2), (3, .int x3_1)] [.int t11, .int t10, .ref t9]) (by
        intro t9 t10 t11 hq
        show V G Γ 4 0 0 h2 49 [(0, .ref p0), (1, .int p1), (2, .int p2), (3, .int x3_1)] [.int t11, .int t10, .ref t9]
        refine U_stZ hC dX12_canStay_49 hq (fun h12 hq => ?_)
        refine V_iinc (j := 3) (v := (x3_1 + 1)) (L' := [(0, .ref p0), (1, .int p1), (2, .int p2), (3, .int (x3_1 + 1))]) hC dX12_canStay_50 rfl rfl (by decide) [1, 2, 3, 0] rfl ?_
        refine V_goto (tgt := 2) hC dX12_canStay_53 (by decide) ?_
        exact hq)
      have hq := hq (fun (t13 : Nat) (t14 : Int32) => V G Γ 4 0 0 h2 48 [(0, .ref p0), (1, .int p1), (2, .int p2), (3, .int x3_1)] [.int t14, .ref t13]) (by
        intro t13 t14 hq
        show V G Γ 4 0 0 h2 48 [(0, .ref p0), (1, .int p1), (2, .int p2), (3, .int x3_1)] [.int t14, .ref t13]
        refine V_iconst (v := 0) hC dX12_canStay_48 (by decide) ?_
        exact hq)
      refine V_if_eq (tgt := 48) hC dX12_canStay_21 (by decide) (fun hc => ?_) (fun hc => ?_)
      · have hq := hq.1 hc
        exact hq
      · have hq := hq.2 hc
        refine V_aload_n hC dX12_canStay_24 0 rfl ?_
        refine U_getR hC fl_X12_39 dX12_canStay_25 hq (fun v15 hq => ?_)
        refine V_iload_n hC dX12_canStay_28 3 rfl ?_
        refine U_ldI hC dX12_canStay_29 hq (fun v16 hq => ?_)
        refine V_iconst (v := (-1)) hC dX12_canStay_30 (by decide) ?_
        refine V_icmp_eq (tgt := 48) hC dX12_canStay_31 (by decide) (fun hc => ?_) (fun hc => ?_)
        · have hq := hq.1 hc
          exact hq
        · have hq := hq.2 hc
          refine V_aload_n hC dX12_canStay_34 0 rfl ?_
          refine U_getR hC fl_X12_42 dX12_canStay_35 hq (fun v17 hq => ?_)
          refine V_iload_n hC dX12_canStay_38 3 rfl ?_
          refine U_ldI hC dX12_canStay_39 hq (fun v18 hq => ?_)
          refine V_iload_n hC dX12_canStay_40 1 rfl ?_
          refine V_icmp_le (tgt := 48) hC dX12_canStay_41 (by decide) (fun hc => ?_) (fun hc => ?_)
          · have hq := hq.1 hc
            exact hq
          · have hq := hq.2 hc
            refine V_iconst (v := 1) hC dX12_canStay_44 (by decide) ?_
            refine V_goto (tgt := 49) hC dX12_canStay_45 (by decide) ?_
            exact hq)
  exact hq
theorem clV_X12_canStay {G : Gx} (hG : GOK G) {Γ : Cx} {own : String} {cc : ByteArray} {nL fr lo mc ms cells slots pc : Nat} {hh : List (Nat × Nat × Nat × Nat)} {h : hw} {L : List (Nat × Value)} {rest : List Value} (hC : COK G Γ own cc nL fr lo mc ms hh) {idx : Nat} (hs : SV own idx yX12_canStay cX12_canStay 4 (some .boolean) 2) {p0 : Nat} {p1 : Int32} {p2 : Int32} (hR : 17 + 1 ≤ fr ∧ 8 + (4 + 11) + 419 ≤ lo) (hw8 : (rest.map fun v => v.category).sum ≤ 8) (hcs : cells + 0 ≤ mc ∧ slots + 0 ≤ ms) (hdg : decode cc pc = .ok (.invokevirtual idx, 3)) (ho : isO h p0 12) {post : Int32 → hw → Prop} (hq : wp_X12_canStay G p0 p1 p2 h post) (kk : ∀ (r : Int32) (h1 : hw) , post r h1 → V G Γ nL (cells + 0) (slots + 0) h1 (pc + 3) L (.int r :: rest)) : V G Γ nL cells slots h pc L (.int p2 :: .int p1 :: .ref p0 :: rest) :=
  V_callV (As := [.int p1, .int p2]) (r9 := (RX12, TX12, 36)) hC (ct_X12_canStay hG p0 p1 p2 h post hq) hs ho rfl rfl rfl hR hw8 hcs hdg (fun E h1 z => z.elim) (fun v h1 z => by obtain ⟨r, rfl, hz⟩ := z; exact kk r h1 hz)
set_option maxRecDepth 100000 in
set_option maxHeartbeats 4000000 in
theorem ct_X12_canStayToo {G : Gx} (hG : GOK G) (p0 : Nat) (p1 : Int32) (p2 : Int32) (h0 : hw) (post : Int32 → hw → Prop) (hq : wp_X12_canStayToo G p0 p1 p2 h0 post) : CT G yX12_canStayToo cX12_canStayToo 4 (some .boolean) 17 419 0 0 [.ref p0, .int p1, .int p2] h0 (fun v h1 => ∃ r : Int32, v = some (.int r) ∧ post r h1) (fun E h1 => False) := by
  refine CT_of hG (by decide) (Nat.le_of_ble_eq_true rfl) (fun Γ hC hQ hN => ?_)
  have hC : COK G Γ "BandplanModel" cX12_canStayToo 4 17 419 0 0 [] := hC
  unfold wp_X12_canStayToo at hq
  show V G Γ 4 0 0 h0 0 [(0, .ref p0), (1, .int p1), (2, .int p2)] []
  refine V_iconst (v := 0) hC dX12_canStayToo_0 (by decide) ?_
  refine V_istore_n (L' := [(0, .ref p0), (1, .int p1), (2, .int p2), (3, .int 0)]) hC dX12_canStayToo_1 rfl (by decide) [1, 2, 3, 0] rfl ?_
  have hq := hq (fun (x3_1 : Int32) (h2 : hw) => V G Γ 4 0 0 h2 2 [(0, .ref p0), (1, .int p1), (2, .int p2), (3, .int x3_1)] []) (by
    intro x3_1 h2 hq
    show V G Γ 4 0 0 h2 2 [(0, .ref p0), (1, .int p1), (2, .int p2), (3, .int x3_1)] []
    refine V_iload_n hC dX12_canStayToo_2 3 rfl ?_
    refine V_aload_n hC dX12_canStayToo_3 0 rfl ?_
    refine U_getI hC fl_X12_108 dX12_canStayToo_4 hq (fun v3 hq => ?_)
    refine V_icmp_ge (tgt := 41) hC dX12_canStayToo_7 (by decide) (fun hc => ?_) (fun hc => ?_)
    · have hq := hq.1 hc
      refine V_aload_n hC dX12_canStayToo_41 0 rfl ?_
      refine V_iconst (v := 0) hC dX12_canStayToo_42 (by decide) ?_
      refine V_iload_n hC dX12_canStayToo_43 2 rfl ?_
      obtain ⟨hz, hq⟩ := hq
      refine clV_X12_packs hG hC sv_X12_218 ⟨by decide, by decide⟩ (Nat.le_of_ble_eq_true rfl) ⟨by decide, by decide⟩ dX12_canStayToo_44 hz hq (fun r4 h5 hq => ?_)
      show V G Γ 4 0 0 h5 47 [(0, .ref p0), (1, .int p1), (2, .int p2), (3, .int x3_1)] [.int r4]
      obtain ⟨hz, hq⟩ := hq
      exact V_iret hC hQ rfl (nar_b hz) ⟨by decide, by decide⟩ dX12_canStayToo_47 ⟨_, rfl, hq⟩
    · have hq := hq.2 hc
      refine V_aload_n hC dX12_canStayToo_10 0 rfl ?_
      refine U_getR hC fl_X12_80 dX12_canStayToo_11 hq (fun v6 hq => ?_)
      refine V_iload_n hC dX12_canStayToo_14 3 rfl ?_
      refine V_iload_n hC dX12_canStayToo_15 3 rfl ?_
      refine V_iload_n hC dX12_canStayToo_16 1 rfl ?_
      have hq := hq (fun (t7 : Nat) (t8 : Int32) (t9 : Int32) => V G Γ 4 0 0 h2 34 [(0, .ref p0), (1, .int p1), (2, .int p2), (3, .int x3_1)] [.int t9, .int t8, .ref t7]) (by
        intro t7 t8 t9 hq
        show V G Γ 4 0 0 h2 34 [(0, .ref p0), (1, .int p1), (2, .int p2), (3, .int x3_1)] [.int t9, .int t8, .ref t7]
        refine U_stZ hC dX12_canStayToo_34 hq (fun h10 hq => ?_)
        refine V_iinc (j := 3) (v := (x3_1 + 1)) (L' := [(0, .ref p0), (1, .int p1), (2, .int p2), (3, .int (x3_1 + 1))]) hC dX12_canStayToo_35 rfl rfl (by decide) [1, 2, 3, 0] rfl ?_
        refine V_goto (tgt := 2) hC dX12_canStayToo_38 (by decide) ?_
        exact hq)
      have hq := hq (fun (t11 : Nat) (t12 : Int32) => V G Γ 4 0 0 h2 29 [(0, .ref p0), (1, .int p1), (2, .int p2), (3, .int x3_1)] [.int t12, .ref t11]) (by
        intro t11 t12 hq
        show V G Γ 4 0 0 h2 29 [(0, .ref p0), (1, .int p1), (2, .int p2), (3, .int x3_1)] [.int t12, .ref t11]
        refine V_iconst (v := 1) hC dX12_canStayToo_29 (by decide) ?_
        refine V_goto (tgt := 34) hC dX12_canStayToo_30 (by decide) ?_
        exact hq)
      refine V_icmp_eq (tgt := 29) hC dX12_canStayToo_17 (by decide) (fun hc => ?_) (fun hc => ?_)
      · have hq := hq.1 hc
        exact hq
      · have hq := hq.2 hc
        refine V_aload_n hC dX12_canStayToo_20 0 rfl ?_
        refine U_getR hC fl_X12_64 dX12_canStayToo_21 hq (fun v13 hq => ?_)
        refine V_iload_n hC dX12_canStayToo_24 3 rfl ?_
        refine U_ldZ hC dX12_canStayToo_25 hq (fun v14 hq => ?_)
        refine V_if_eq (tgt := 33) hC dX12_canStayToo_26 (by decide) (fun hc => ?_) (fun hc => ?_)
        · have hq := hq.1 hc
          refine V_iconst (v := 0) hC dX12_canStayToo_33 (by decide) ?_
          exact hq
        · have hq := hq.2 hc
          exact hq)
  exact hq
theorem clV_X12_canStayToo {G : Gx} (hG : GOK G) {Γ : Cx} {own : String} {cc : ByteArray} {nL fr lo mc ms cells slots pc : Nat} {hh : List (Nat × Nat × Nat × Nat)} {h : hw} {L : List (Nat × Value)} {rest : List Value} (hC : COK G Γ own cc nL fr lo mc ms hh) {idx : Nat} (hs : SV own idx yX12_canStayToo cX12_canStayToo 4 (some .boolean) 2) {p0 : Nat} {p1 : Int32} {p2 : Int32} (hR : 17 + 1 ≤ fr ∧ 8 + (4 + 11) + 419 ≤ lo) (hw8 : (rest.map fun v => v.category).sum ≤ 8) (hcs : cells + 0 ≤ mc ∧ slots + 0 ≤ ms) (hdg : decode cc pc = .ok (.invokevirtual idx, 3)) (ho : isO h p0 12) {post : Int32 → hw → Prop} (hq : wp_X12_canStayToo G p0 p1 p2 h post) (kk : ∀ (r : Int32) (h1 : hw) , post r h1 → V G Γ nL (cells + 0) (slots + 0) h1 (pc + 3) L (.int r :: rest)) : V G Γ nL cells slots h pc L (.int p2 :: .int p1 :: .ref p0 :: rest) :=
  V_callV (As := [.int p1, .int p2]) (r9 := (RX12, TX12, 36)) hC (ct_X12_canStayToo hG p0 p1 p2 h post hq) hs ho rfl rfl rfl hR hw8 hcs hdg (fun E h1 z => z.elim) (fun v h1 z => by obtain ⟨r, rfl, hz⟩ := z; exact kk r h1 hz)
set_option maxRecDepth 100000 in
set_option maxHeartbeats 4000000 in
theorem ct_X12_sell {G : Gx} (hG : GOK G) (p0 : Nat) (p1 : Int32) (p2 : Int32) (p3 : Int32) (h0 : hw) (bc bs : Nat) (post : Int32 → hw → Prop) (hq : wp_X12_sell G p0 p1 p2 p3 h0 bc bs post) : CT G yX12_sell cX12_sell 9 (some .int) 18 442 bc bs [.ref p0, .int p1, .int p2, .int p3] h0 (fun v h1 => ∃ r : Int32, v = some (.int r) ∧ post r h1) (fun E h1 => False) := by
  refine CT_of hG (by decide) (Nat.le_of_ble_eq_true rfl) (fun Γ hC hQ hN => ?_)
  have hC : COK G Γ "BandplanModel" cX12_sell 9 18 442 bc bs [] := hC
  unfold wp_X12_sell at hq
  show V G Γ 9 0 0 h0 0 [(0, .ref p0), (1, .int p1), (2, .int p2), (3, .int p3)] []
  refine V_aload_n hC dX12_sell_0 0 rfl ?_
  refine V_iconst (v := 0) hC dX12_sell_1 (by decide) ?_
  refine U_putO hC (by decide) fl_X12_98 fin_X12_0 rfl rfl dX12_sell_2 hq (fun h1 hq => ?_)
  refine V_aload_n hC dX12_sell_5 0 rfl ?_
  refine V_iload_n hC dX12_sell_6 1 rfl ?_
  refine V_iconst (v := 1) hC dX12_sell_7 (by decide) ?_
  refine V_sipush (v := 9999) hC dX12_sell_8 (by decide) ?_
  refine clS_X12_in hG hC ss_X12_101 ⟨by decide, by decide⟩ (Nat.le_of_ble_eq_true rfl) ⟨by omega, by omega⟩ dX12_sell_11 hq (fun r2 hq => ?_)
  show V G Γ 9 0 0 h1 14 [(0, .ref p0), (1, .int p1), (2, .int p2), (3, .int p3)] [.int r2, .ref p0]
  have hq := hq (fun (t3 : Nat) (t4 : Int32) => V G Γ 9 0 0 h1 43 [(0, .ref p0), (1, .int p1), (2, .int p2), (3, .int p3)] [.int t4, .ref t3]) (by
    intro t3 t4 hq
    show V G Γ 9 0 0 h1 43 [(0, .ref p0), (1, .int p1), (2, .int p2), (3, .int p3)] [.int t4, .ref t3]
    refine V_iconst (v := 1) hC dX12_sell_43 (by decide) ?_
    obtain ⟨hz, hq⟩ := hq
    refine clV_X12_fails hG hC sv_X12_115 ⟨by decide, by decide⟩ (Nat.le_of_ble_eq_true rfl) ⟨by omega, by omega⟩ dX12_sell_44 hz hq (fun r5 h6 hq => ?_)
    show V G Γ 9 0 0 h6 47 [(0, .ref p0), (1, .int p1), (2, .int p2), (3, .int p3)] [.int r5]
    refine V_if_eq (tgt := 52) hC dX12_sell_47 (by decide) (fun hc => ?_) (fun hc => ?_)
    · have hq := hq.1 hc
      refine V_iconst (v := 0) hC dX12_sell_52 (by decide) ?_
      refine V_istore (L' := [(0, .ref p0), (1, .int p1), (2, .int p2), (3, .int p3), (4, .int 0)]) hC dX12_sell_53 (by decide) [1, 2, 3, 4, 0] rfl ?_
      refine V_iconst (v := 0) hC dX12_sell_55 (by decide) ?_
      refine V_istore (L' := [(0, .ref p0), (1, .int p1), (2, .int p2), (3, .int p3), (4, .int 0), (5, .int 0)]) hC dX12_sell_56 (by decide) [1, 2, 3, 4, 5, 0] rfl ?_
      have hq := hq (fun (x4_7 : Int32) (x5_8 : Int32) => V G Γ 9 0 0 h6 58 [(0, .ref p0), (1, .int p1), (2, .int p2), (3, .int p3), (4, .int x4_7), (5, .int x5_8)] []) (by
        intro x4_7 x5_8 hq
        show V G Γ 9 0 0 h6 58 [(0, .ref p0), (1, .int p1), (2, .int p2), (3, .int p3), (4, .int x4_7), (5, .int x5_8)] []
        refine V_iload hC dX12_sell_58 5 rfl ?_
        refine V_aload_n hC dX12_sell_60 0 rfl ?_
        refine U_getI hC fl_X12_108 dX12_sell_61 hq (fun v9 hq => ?_)
        refine V_icmp_ge (tgt := 104) hC dX12_sell_64 (by decide) (fun hc => ?_) (fun hc => ?_)
        · have hq := hq.1 hc
          refine V_aload_n hC dX12_sell_104 0 rfl ?_
          refine V_iload hC dX12_sell_105 4 rfl ?_
          have hq := hq (fun (t10 : Nat) (t11 : Int32) (h12 : hw) => V G Γ 9 0 0 h12 124 [(0, .ref p0), (1, .int p1), (2, .int p2), (3, .int p3)] [.int t11, .ref t10]) (by
            intro t10 t11 h12 hq
            show V G Γ 9 0 0 h12 124 [(0, .ref p0), (1, .int p1), (2, .int p2), (3, .int p3)] [.int t11, .ref t10]
            refine V_iconst (v := 2) hC dX12_sell_124 (by decide) ?_
            obtain ⟨hz, hq⟩ := hq
            refine clV_X12_fails hG hC sv_X12_115 ⟨by decide, by decide⟩ (Nat.le_of_ble_eq_true rfl) ⟨by omega, by omega⟩ dX12_sell_125 hz hq (fun r13 h14 hq => ?_)
            show V G Γ 9 0 0 h14 128 [(0, .ref p0), (1, .int p1), (2, .int p2), (3, .int p3)] [.int r13]
            refine V_if_eq (tgt := 133) hC dX12_sell_128 (by decide) (fun hc => ?_) (fun hc => ?_)
            · have hq := hq.1 hc
              refine V_iconst (v := 0) hC dX12_sell_133 (by decide) ?_
              refine V_istore (L' := [(0, .ref p0), (1, .int p1), (2, .int p2), (3, .int p3), (5, .int 0)]) hC dX12_sell_134 (by decide) [1, 2, 3, 4, 0] rfl ?_
              refine V_iconst (v := 0) hC dX12_sell_136 (by decide) ?_
              refine V_istore (L' := [(0, .ref p0), (1, .int p1), (2, .int p2), (3, .int p3), (5, .int 0), (6, .int 0)]) hC dX12_sell_137 (by decide) [1, 2, 3, 4, 5, 0] rfl ?_
              have hq := hq (fun (x5_15 : Int32) (x6_16 : Int32) (h17 : hw) => V G Γ 9 0 0 h17 139 [(0, .ref p0), (1, .int p1), (2, .int p2), (3, .int p3), (5, .int x5_15), (6, .int x6_16)] []) (by
                intro x5_15 x6_16 h17 hq
                show V G Γ 9 0 0 h17 139 [(0, .ref p0), (1, .int p1), (2, .int p2), (3, .int p3), (5, .int x5_15), (6, .int x6_16)] []
                refine V_iload hC dX12_sell_139 5 rfl ?_
                refine V_bipush (v := 8) hC dX12_sell_141 (by decide) ?_
                refine V_icmp_ge (tgt := 272) hC dX12_sell_143 (by decide) (fun hc => ?_) (fun hc => ?_)
                · have hq := hq.1 hc
                  refine V_iload_n hC dX12_sell_272 1 rfl ?_
                  refine V_istore (L' := [(0, .ref p0), (1, .int p1), (2, .int p2), (3, .int p3), (5, .int x5_15), (6, .int p1)]) hC dX12_sell_273 (by decide) [1, 2, 3, 4, 5, 0] rfl ?_
                  refine V_aload_n hC dX12_sell_275 0 rfl ?_
                  refine V_iconst (v := 1) hC dX12_sell_276 (by decide) ?_
                  refine U_putO hC (by decide) fl_X12_230 fin_X12_19 rfl rfl dX12_sell_277 hq (fun h18 hq => ?_)
                  refine V_aload_n hC dX12_sell_280 0 rfl ?_
                  refine V_iload_n hC dX12_sell_281 3 rfl ?_
                  refine U_putO hC (by decide) fl_X12_234 fin_X12_21 rfl rfl dX12_sell_282 hq (fun h19 hq => ?_)
                  refine V_aload_n hC dX12_sell_285 0 rfl ?_
                  refine V_iconst (v := 0) hC dX12_sell_286 (by decide) ?_
                  refine U_putO hC (by decide) fl_X12_237 fin_X12_20 rfl rfl dX12_sell_287 hq (fun h20 hq => ?_)
                  have hq := hq (fun (x5_21 : Int32) (x6_22 : Int32) (h23 : hw) => V G Γ 9 0 0 h23 290 [(0, .ref p0), (2, .int p2), (3, .int p3), (5, .int x5_21), (6, .int x6_22)] []) (by
                    intro x5_21 x6_22 h23 hq
                    show V G Γ 9 0 0 h23 290 [(0, .ref p0), (2, .int p2), (3, .int p3), (5, .int x5_21), (6, .int x6_22)] []
                    refine V_iload hC dX12_sell_290 3 rfl ?_
                    have hq := hq (V G Γ 9 0 0 h23 453 [(0, .ref p0), (6, .int x6_22)] []) (by
                      intro hq
                      show V G Γ 9 0 0 h23 453 [(0, .ref p0), (6, .int x6_22)] []
                      refine V_iconst (v := 0) hC dX12_sell_453 (by decide) ?_
                      refine V_istore (L' := [(0, .ref p0), (6, .int x6_22), (7, .int 0)]) hC dX12_sell_454 (by decide) [1, 2, 0] rfl ?_
                      refine V_iconst (v := 0) hC dX12_sell_456 (by decide) ?_
                      refine V_istore (L' := [(0, .ref p0), (6, .int x6_22), (7, .int 0), (8, .int 0)]) hC dX12_sell_457 (by decide) [1, 2, 3, 0] rfl ?_
                      have hq := hq (fun (x7_24 : Int32) (x8_25 : Int32) (h26 : hw) (uc27 : Nat) (us28 : Nat) => uc27 ≤ bc → us28 ≤ bs → V G Γ 9 uc27 us28 h26 459 [(0, .ref p0), (6, .int x6_22), (7, .int x7_24), (8, .int x8_25)] []) (by
                        intro x7_24 x8_25 h26 uc27 us28 hq hu1 hu2
                        show V G Γ 9 uc27 us28 h26 459 [(0, .ref p0), (6, .int x6_22), (7, .int x7_24), (8, .int x8_25)] []
                        refine V_iload hC dX12_sell_459 3 rfl ?_
                        refine V_aload_n hC dX12_sell_461 0 rfl ?_
                        refine U_getI hC fl_X12_108 dX12_sell_462 hq (fun v29 hq => ?_)
                        refine V_icmp_ge (tgt := 524) hC dX12_sell_465 (by decide) (fun hc => ?_) (fun hc => ?_)
                        · have hq := hq.1 hc
                          refine V_iload hC dX12_sell_524 2 rfl ?_
                          obtain ⟨hz1, hz2, hq⟩ := hq
                          exact V_iret hC hQ rfl rfl ⟨hz1, hz2⟩ dX12_sell_526 ⟨_, rfl, hq⟩
                        · have hq := hq.2 hc
                          refine V_aload_n hC dX12_sell_468 0 rfl ?_
                          refine U_getR hC fl_X12_61 dX12_sell_469 hq (fun v30 hq => ?_)
                          refine V_iload hC dX12_sell_472 3 rfl ?_
                          refine V_aload_n hC dX12_sell_474 0 rfl ?_
                          refine U_getR hC fl_X12_92 dX12_sell_475 hq (fun v31 hq => ?_)
                          refine V_iload hC dX12_sell_478 3 rfl ?_
                          refine U_ldZ hC dX12_sell_480 hq (fun v32 hq => ?_)
                          have hq := hq (fun (t33 : Nat) (t34 : Int32) (t35 : Int32) => V G Γ 9 uc27 us28 h26 496 [(0, .ref p0), (6, .int x6_22), (7, .int x7_24), (8, .int x8_25)] [.int t35, .int t34, .ref t33]) (by
                            intro t33 t34 t35 hq
                            show V G Γ 9 uc27 us28 h26 496 [(0, .ref p0), (6, .int x6_22), (7, .int x7_24), (8, .int x8_25)] [.int t35, .int t34, .ref t33]
                            refine U_stI hC dX12_sell_496 hq (fun h36 hq => ?_)
                            refine V_aload_n hC dX12_sell_497 0 rfl ?_
                            refine U_getR hC fl_X12_61 dX12_sell_498 hq (fun v37 hq => ?_)
                            refine V_iload hC dX12_sell_501 3 rfl ?_
                            refine U_ldI hC dX12_sell_503 hq (fun v38 hq => ?_)
                            refine V_iconst (v := (-1)) hC dX12_sell_504 (by decide) ?_
                            have hq := hq (fun (x7_39 : Int32) (h40 : hw) (uc41 : Nat) (us42 : Nat) => uc41 ≤ bc → us42 ≤ bs → V G Γ 9 uc41 us42 h40 518 [(0, .ref p0), (6, .int x6_22), (7, .int x7_39), (8, .int x8_25)] []) (by
                              intro x7_39 h40 uc41 us42 hq hu1 hu2
                              show V G Γ 9 uc41 us42 h40 518 [(0, .ref p0), (6, .int x6_22), (7, .int x7_39), (8, .int x8_25)] []
                              refine V_iinc (j := 3) (v := (x8_25 + 1)) (L' := [(0, .ref p0), (6, .int x6_22), (7, .int x7_39), (8, .int (x8_25 + 1))]) hC dX12_sell_518 rfl rfl (by decide) [1, 2, 3, 0] rfl ?_
                              refine V_goto (tgt := 459) hC dX12_sell_521 (by decide) ?_
                              exact hq (by omega) (by omega))
                            refine V_icmp_eq (tgt := 518) hC dX12_sell_505 (by decide) (fun hc => ?_) (fun hc => ?_)
                            · have hq := hq.1 hc
                              exact hq (by omega) (by omega)
                            · have hq := hq.2 hc
                              refine V_aload_n hC dX12_sell_508 0 rfl ?_
                              refine V_iload hC dX12_sell_509 3 rfl ?_
                              refine V_iconst (v := (-1)) hC dX12_sell_511 (by decide) ?_
                              obtain ⟨bc43, bs44, hz1, hz2, hq⟩ := hq
                              obtain ⟨hz, hq⟩ := hq
                              refine clV_X12_set hG hC sv_X12_207 ⟨by decide, by decide⟩ (Nat.le_of_ble_eq_true rfl) ⟨hz1, hz2⟩ dX12_sell_512 hz hq (fun h45 hq => ?_)
                              show V G Γ 9 (uc27 + bc43) (us28 + bs44) h45 515 [(0, .ref p0), (6, .int x6_22), (7, .int x7_24), (8, .int x8_25)] []
                              refine V_iinc (j := 2) (v := (x7_24 + 1)) (L' := [(0, .ref p0), (6, .int x6_22), (7, .int (x7_24 + 1)), (8, .int x8_25)]) hC dX12_sell_515 rfl rfl (by decide) [1, 2, 0, 3] rfl ?_
                              exact hq (by omega) (by omega))
                          refine V_if_eq (tgt := 489) hC dX12_sell_481 (by decide) (fun hc => ?_) (fun hc => ?_)
                          · have hq := hq.1 hc
                            refine V_aload_n hC dX12_sell_489 0 rfl ?_
                            refine U_getR hC fl_X12_61 dX12_sell_490 hq (fun v46 hq => ?_)
                            refine V_iload hC dX12_sell_493 3 rfl ?_
                            refine U_ldI hC dX12_sell_495 hq (fun v47 hq => ?_)
                            exact hq
                          · have hq := hq.2 hc
                            refine V_iload hC dX12_sell_484 1 rfl ?_
                            refine V_goto (tgt := 496) hC dX12_sell_486 (by decide) ?_
                            exact hq)
                      exact hq (by omega) (by omega))
                    refine V_if_le (tgt := 453) hC dX12_sell_292 (by decide) (fun hc => ?_) (fun hc => ?_)
                    · have hq := hq.1 hc
                      refine V_sub [0, 4] rfl ?_
                      exact hq
                    · have hq := hq.2 hc
                      refine V_iload hC dX12_sell_295 4 rfl ?_
                      refine V_iload_n hC dX12_sell_297 1 rfl ?_
                      refine V_icmp_lt (tgt := 453) hC dX12_sell_298 (by decide) (fun hc => ?_) (fun hc => ?_)
                      · have hq := hq.1 hc
                        refine V_sub [0, 4] rfl ?_
                        exact hq
                      · have hq := hq.2 hc
                        refine V_aload_n hC dX12_sell_301 0 rfl ?_
                        refine V_dup hC dX12_sell_302 rfl ?_
                        refine U_getI hC fl_X12_237 dX12_sell_303 hq (fun v48 hq => ?_)
                        refine V_iconst (v := 1) hC dX12_sell_306 (by decide) ?_
                        refine V_iadd hC dX12_sell_307 ?_
                        refine U_putO hC (by decide) fl_X12_237 fin_X12_20 rfl rfl dX12_sell_308 hq (fun h49 hq => ?_)
                        refine V_iconst (v := 0) hC dX12_sell_311 (by decide) ?_
                        refine V_istore (L' := [(0, .ref p0), (2, .int p2), (3, .int p3), (5, .int x5_21), (6, .int x6_22), (7, .int 0)]) hC dX12_sell_312 (by decide) [1, 2, 3, 4, 5, 0] rfl ?_
                        have hq := hq (fun (x5_50 : Int32) (x7_51 : Int32) (h52 : hw) => V G Γ 9 0 0 h52 314 [(0, .ref p0), (2, .int p2), (3, .int p3), (5, .int x5_50), (6, .int x6_22), (7, .int x7_51)] []) (by
                          intro x5_50 x7_51 h52 hq
                          show V G Γ 9 0 0 h52 314 [(0, .ref p0), (2, .int p2), (3, .int p3), (5, .int x5_50), (6, .int x6_22), (7, .int x7_51)] []
                          refine V_iload hC dX12_sell_314 5 rfl ?_
                          refine V_aload_n hC dX12_sell_316 0 rfl ?_
                          refine U_getI hC fl_X12_108 dX12_sell_317 hq (fun v53 hq => ?_)
                          refine V_icmp_ge (tgt := 444) hC dX12_sell_320 (by decide) (fun hc => ?_) (fun hc => ?_)
                          · have hq := hq.1 hc
                            refine V_iload hC dX12_sell_444 4 rfl ?_
                            refine V_iload_n hC dX12_sell_446 1 rfl ?_
                            refine V_isub hC dX12_sell_447 ?_
                            refine V_istore (L' := [(0, .ref p0), (2, .int p2), (3, .int p3), (5, .int x5_50), (6, .int (x6_22 - p2)), (7, .int x7_51)]) hC dX12_sell_448 (by decide) [1, 2, 3, 4, 0, 5] rfl ?_
                            refine V_goto (tgt := 290) hC dX12_sell_450 (by decide) ?_
                            refine V_sub [0, 1, 2, 3, 4] rfl ?_
                            exact hq
                          · have hq := hq.2 hc
                            refine V_aload_n hC dX12_sell_323 0 rfl ?_
                            refine U_getR hC fl_X12_92 dX12_sell_324 hq (fun v54 hq => ?_)
                            refine V_iload hC dX12_sell_327 5 rfl ?_
                            refine U_ldZ hC dX12_sell_329 hq (fun v55 hq => ?_)
                            have hq := hq (fun (x5_56 : Int32) (h57 : hw) => V G Γ 9 0 0 h57 438 [(0, .ref p0), (2, .int p2), (3, .int p3), (5, .int x5_56), (6, .int x6_22), (7, .int x7_51)] []) (by
                              intro x5_56 h57 hq
                              show V G Γ 9 0 0 h57 438 [(0, .ref p0), (2, .int p2), (3, .int p3), (5, .int x5_56), (6, .int x6_22), (7, .int x7_51)] []
                              refine V_iinc (j := 5) (v := (x7_51 + 1)) (L' := [(0, .ref p0), (2, .int p2), (3, .int p3), (5, .int x5_56), (6, .int x6_22), (7, .int (x7_51 + 1))]) hC dX12_sell_438 rfl rfl (by decide) [1, 2, 3, 4, 5, 0] rfl ?_
                              refine V_goto (tgt := 314) hC dX12_sell_441 (by decide) ?_
                              exact hq)
                            refine V_if_eq (tgt := 438) hC dX12_sell_330 (by decide) (fun hc => ?_) (fun hc => ?_)
                            · have hq := hq.1 hc
                              exact hq
                            · have hq := hq.2 hc
                              refine V_aload_n hC dX12_sell_333 0 rfl ?_
                              refine V_iload hC dX12_sell_334 5 rfl ?_
                              refine V_iload_n hC dX12_sell_336 2 rfl ?_
                              obtain ⟨hz, hq⟩ := hq
                              refine clV_X12_canStayToo hG hC sv_X12_240 ⟨by decide, by decide⟩ (Nat.le_of_ble_eq_true rfl) ⟨by omega, by omega⟩ dX12_sell_337 hz hq (fun r58 h59 hq => ?_)
                              show V G Γ 9 0 0 h59 340 [(0, .ref p0), (2, .int p2), (3, .int p3), (5, .int x5_50), (6, .int x6_22), (7, .int x7_51)] [.int r58]
                              refine V_istore (L' := [(0, .ref p0), (2, .int p2), (3, .int p3), (5, .int x5_50), (6, .int x6_22), (7, .int x7_51), (8, .int r58)]) hC dX12_sell_340 (by decide) [1, 2, 3, 4, 5, 6, 0] rfl ?_
                              refine V_aload_n hC dX12_sell_342 0 rfl ?_
                              refine U_getR hC fl_X12_61 dX12_sell_343 hq (fun v60 hq => ?_)
                              refine V_iload hC dX12_sell_346 5 rfl ?_
                              refine V_iload hC dX12_sell_348 6 rfl ?_
                              have hq := hq (fun (t61 : Nat) (t62 : Int32) (t63 : Int32) => V G Γ 9 0 0 h59 359 [(0, .ref p0), (2, .int p2), (3, .int p3), (5, .int x5_50), (6, .int x6_22), (7, .int x7_51), (8, .int r58)] [.int t63, .int t62, .ref t61]) (by
                                intro t61 t62 t63 hq
                                show V G Γ 9 0 0 h59 359 [(0, .ref p0), (2, .int p2), (3, .int p3), (5, .int x5_50), (6, .int x6_22), (7, .int x7_51), (8, .int r58)] [.int t63, .int t62, .ref t61]
                                refine U_stI hC dX12_sell_359 hq (fun h64 hq => ?_)
                                refine V_aload_n hC dX12_sell_360 0 rfl ?_
                                refine U_getR hC fl_X12_64 dX12_sell_361 hq (fun v65 hq => ?_)
                                refine V_iload hC dX12_sell_364 5 rfl ?_
                                refine V_iload hC dX12_sell_366 6 rfl ?_
                                have hq := hq (fun (t66 : Nat) (t67 : Int32) (t68 : Int32) => V G Γ 9 0 0 h64 390 [(0, .ref p0), (2, .int p2), (3, .int p3), (5, .int x5_50), (6, .int x6_22), (7, .int x7_51), (8, .int r58)] [.int t68, .int t67, .ref t66]) (by
                                  intro t66 t67 t68 hq
                                  show V G Γ 9 0 0 h64 390 [(0, .ref p0), (2, .int p2), (3, .int p3), (5, .int x5_50), (6, .int x6_22), (7, .int x7_51), (8, .int r58)] [.int t68, .int t67, .ref t66]
                                  refine U_stZ hC dX12_sell_390 hq (fun h69 hq => ?_)
                                  refine V_aload_n hC dX12_sell_391 0 rfl ?_
                                  refine U_getR hC fl_X12_92 dX12_sell_392 hq (fun v70 hq => ?_)
                                  refine V_iload hC dX12_sell_395 5 rfl ?_
                                  refine V_iload hC dX12_sell_397 6 rfl ?_
                                  have hq := hq (fun (t71 : Nat) (t72 : Int32) (t73 : Int32) => V G Γ 9 0 0 h69 417 [(0, .ref p0), (2, .int p2), (3, .int p3), (5, .int x5_50), (6, .int x6_22), (7, .int x7_51)] [.int t73, .int t72, .ref t71]) (by
                                    intro t71 t72 t73 hq
                                    show V G Γ 9 0 0 h69 417 [(0, .ref p0), (2, .int p2), (3, .int p3), (5, .int x5_50), (6, .int x6_22), (7, .int x7_51)] [.int t73, .int t72, .ref t71]
                                    refine U_stZ hC dX12_sell_417 hq (fun h74 hq => ?_)
                                    refine V_iload hC dX12_sell_418 3 rfl ?_
                                    refine V_aload_n hC dX12_sell_420 0 rfl ?_
                                    refine U_getR hC fl_X12_92 dX12_sell_421 hq (fun v75 hq => ?_)
                                    refine V_iload hC dX12_sell_424 5 rfl ?_
                                    refine U_ldZ hC dX12_sell_426 hq (fun v76 hq => ?_)
                                    have hq := hq (fun (t77 : Int32) (t78 : Int32) => V G Γ 9 0 0 h74 435 [(0, .ref p0), (2, .int p2), (3, .int p3), (6, .int x6_22), (7, .int x7_51)] [.int t78, .int t77]) (by
                                      intro t77 t78 hq
                                      show V G Γ 9 0 0 h74 435 [(0, .ref p0), (2, .int p2), (3, .int p3), (6, .int x6_22), (7, .int x7_51)] [.int t78, .int t77]
                                      refine V_isub hC dX12_sell_435 ?_
                                      refine V_istore (L' := [(0, .ref p0), (2, .int p2), (3, .int p3), (5, .int (t77 - t78)), (6, .int x6_22), (7, .int x7_51)]) hC dX12_sell_436 (by decide) [1, 2, 3, 0, 4, 5] rfl ?_
                                      exact hq)
                                    refine V_if_eq (tgt := 434) hC dX12_sell_427 (by decide) (fun hc => ?_) (fun hc => ?_)
                                    · have hq := hq.1 hc
                                      refine V_iconst (v := 1) hC dX12_sell_434 (by decide) ?_
                                      refine V_sub [0, 1, 2, 4, 5] rfl ?_
                                      exact hq
                                    · have hq := hq.2 hc
                                      refine V_iconst (v := 0) hC dX12_sell_430 (by decide) ?_
                                      refine V_goto (tgt := 435) hC dX12_sell_431 (by decide) ?_
                                      refine V_sub [0, 1, 2, 4, 5] rfl ?_
                                      exact hq)
                                  have hq := hq (fun (t79 : Nat) (t80 : Int32) => V G Γ 9 0 0 h69 416 [(0, .ref p0), (2, .int p2), (3, .int p3), (5, .int x5_50), (6, .int x6_22), (7, .int x7_51)] [.int t80, .ref t79]) (by
                                    intro t79 t80 hq
                                    show V G Γ 9 0 0 h69 416 [(0, .ref p0), (2, .int p2), (3, .int p3), (5, .int x5_50), (6, .int x6_22), (7, .int x7_51)] [.int t80, .ref t79]
                                    refine V_iconst (v := 0) hC dX12_sell_416 (by decide) ?_
                                    exact hq)
                                  refine V_if_eq (tgt := 416) hC dX12_sell_399 (by decide) (fun hc => ?_) (fun hc => ?_)
                                  · have hq := hq.1 hc
                                    refine V_sub [0, 1, 2, 3, 4, 5] rfl ?_
                                    exact hq
                                  · have hq := hq.2 hc
                                    refine V_aload_n hC dX12_sell_402 0 rfl ?_
                                    refine U_getR hC fl_X12_64 dX12_sell_403 hq (fun v81 hq => ?_)
                                    refine V_iload hC dX12_sell_406 5 rfl ?_
                                    refine U_ldZ hC dX12_sell_408 hq (fun v82 hq => ?_)
                                    refine V_if_ne (tgt := 416) hC dX12_sell_409 (by decide) (fun hc => ?_) (fun hc => ?_)
                                    · have hq := hq.1 hc
                                      refine V_sub [0, 1, 2, 3, 4, 5] rfl ?_
                                      exact hq
                                    · have hq := hq.2 hc
                                      refine V_iconst (v := 1) hC dX12_sell_412 (by decide) ?_
                                      refine V_goto (tgt := 417) hC dX12_sell_413 (by decide) ?_
                                      refine V_sub [0, 1, 2, 3, 4, 5] rfl ?_
                                      exact hq)
                                have hq := hq (fun (t83 : Nat) (t84 : Int32) => V G Γ 9 0 0 h64 389 [(0, .ref p0), (2, .int p2), (3, .int p3), (5, .int x5_50), (6, .int x6_22), (7, .int x7_51), (8, .int r58)] [.int t84, .ref t83]) (by
                                  intro t83 t84 hq
                                  show V G Γ 9 0 0 h64 389 [(0, .ref p0), (2, .int p2), (3, .int p3), (5, .int x5_50), (6, .int x6_22), (7, .int x7_51), (8, .int r58)] [.int t84, .ref t83]
                                  refine V_iconst (v := 0) hC dX12_sell_389 (by decide) ?_
                                  exact hq)
                                refine V_if_eq (tgt := 389) hC dX12_sell_368 (by decide) (fun hc => ?_) (fun hc => ?_)
                                · have hq := hq.1 hc
                                  exact hq
                                · have hq := hq.2 hc
                                  refine V_aload_n hC dX12_sell_371 0 rfl ?_
                                  refine U_getR hC fl_X12_42 dX12_sell_372 hq (fun v85 hq => ?_)
                                  refine V_iload hC dX12_sell_375 5 rfl ?_
                                  refine U_ldI hC dX12_sell_377 hq (fun v86 hq => ?_)
                                  refine V_iload hC dX12_sell_378 4 rfl ?_
                                  refine V_iload_n hC dX12_sell_380 1 rfl ?_
                                  refine V_isub hC dX12_sell_381 ?_
                                  refine V_icmp_le (tgt := 389) hC dX12_sell_382 (by decide) (fun hc => ?_) (fun hc => ?_)
                                  · have hq := hq.1 hc
                                    exact hq
                                  · have hq := hq.2 hc
                                    refine V_iconst (v := 1) hC dX12_sell_385 (by decide) ?_
                                    refine V_goto (tgt := 390) hC dX12_sell_386 (by decide) ?_
                                    exact hq)
                              refine V_if_eq (tgt := 357) hC dX12_sell_350 (by decide) (fun hc => ?_) (fun hc => ?_)
                              · have hq := hq.1 hc
                                refine V_iload hC dX12_sell_357 4 rfl ?_
                                exact hq
                              · have hq := hq.2 hc
                                refine V_iconst (v := (-1)) hC dX12_sell_353 (by decide) ?_
                                refine V_goto (tgt := 359) hC dX12_sell_354 (by decide) ?_
                                exact hq)
                        exact hq)
                  refine V_sub [0, 2, 3, 4, 5] rfl ?_
                  exact hq
                · have hq := hq.2 hc
                  refine V_iload hC dX12_sell_146 5 rfl ?_
                  refine V_aload_n hC dX12_sell_148 0 rfl ?_
                  refine U_getI hC fl_X12_108 dX12_sell_149 hq (fun v87 hq => ?_)
                  have hq := hq (fun (t88 : Int32) => V G Γ 9 0 0 h17 181 [(0, .ref p0), (1, .int p1), (2, .int p2), (3, .int p3), (5, .int x5_15), (6, .int x6_16)] [.int t88]) (by
                    intro t88 hq
                    show V G Γ 9 0 0 h17 181 [(0, .ref p0), (1, .int p1), (2, .int p2), (3, .int p3), (5, .int x5_15), (6, .int x6_16)] [.int t88]
                    refine V_istore (L' := [(0, .ref p0), (1, .int p1), (2, .int p2), (3, .int p3), (5, .int x5_15), (6, .int x6_16), (7, .int t88)]) hC dX12_sell_181 (by decide) [1, 2, 3, 4, 5, 6, 0] rfl ?_
                    refine V_aload_n hC dX12_sell_183 0 rfl ?_
                    refine U_getR hC fl_X12_64 dX12_sell_184 hq (fun v89 hq => ?_)
                    refine V_iload hC dX12_sell_187 5 rfl ?_
                    refine V_iload hC dX12_sell_189 6 rfl ?_
                    have hq := hq (fun (t90 : Nat) (t91 : Int32) (t92 : Int32) => V G Γ 9 0 0 h17 210 [(0, .ref p0), (1, .int p1), (2, .int p2), (3, .int p3), (5, .int x5_15), (6, .int x6_16), (7, .int t88)] [.int t92, .int t91, .ref t90]) (by
                      intro t90 t91 t92 hq
                      show V G Γ 9 0 0 h17 210 [(0, .ref p0), (1, .int p1), (2, .int p2), (3, .int p3), (5, .int x5_15), (6, .int x6_16), (7, .int t88)] [.int t92, .int t91, .ref t90]
                      refine U_stZ hC dX12_sell_210 hq (fun h93 hq => ?_)
                      refine V_aload_n hC dX12_sell_211 0 rfl ?_
                      refine U_getR hC fl_X12_92 dX12_sell_212 hq (fun v94 hq => ?_)
                      refine V_iload hC dX12_sell_215 5 rfl ?_
                      refine V_iload hC dX12_sell_217 6 rfl ?_
                      have hq := hq (fun (t95 : Nat) (t96 : Int32) (t97 : Int32) => V G Γ 9 0 0 h93 237 [(0, .ref p0), (1, .int p1), (2, .int p2), (3, .int p3), (5, .int x5_15), (6, .int x6_16)] [.int t97, .int t96, .ref t95]) (by
                        intro t95 t96 t97 hq
                        show V G Γ 9 0 0 h93 237 [(0, .ref p0), (1, .int p1), (2, .int p2), (3, .int p3), (5, .int x5_15), (6, .int x6_16)] [.int t97, .int t96, .ref t95]
                        refine U_stZ hC dX12_sell_237 hq (fun h98 hq => ?_)
                        refine V_aload_n hC dX12_sell_238 0 rfl ?_
                        refine U_getR hC fl_X12_61 dX12_sell_239 hq (fun v99 hq => ?_)
                        refine V_iload hC dX12_sell_242 5 rfl ?_
                        refine V_iconst (v := (-1)) hC dX12_sell_244 (by decide) ?_
                        refine U_stI hC dX12_sell_245 hq (fun h100 hq => ?_)
                        refine V_iload hC dX12_sell_246 4 rfl ?_
                        refine V_aload_n hC dX12_sell_248 0 rfl ?_
                        refine U_getR hC fl_X12_92 dX12_sell_249 hq (fun v101 hq => ?_)
                        refine V_iload hC dX12_sell_252 5 rfl ?_
                        refine U_ldZ hC dX12_sell_254 hq (fun v102 hq => ?_)
                        have hq := hq (fun (t103 : Int32) (t104 : Int32) => V G Γ 9 0 0 h100 263 [(0, .ref p0), (1, .int p1), (2, .int p2), (3, .int p3), (6, .int x6_16)] [.int t104, .int t103]) (by
                          intro t103 t104 hq
                          show V G Γ 9 0 0 h100 263 [(0, .ref p0), (1, .int p1), (2, .int p2), (3, .int p3), (6, .int x6_16)] [.int t104, .int t103]
                          refine V_iadd hC dX12_sell_263 ?_
                          refine V_istore (L' := [(0, .ref p0), (1, .int p1), (2, .int p2), (3, .int p3), (5, .int (t103 + t104)), (6, .int x6_16)]) hC dX12_sell_264 (by decide) [1, 2, 3, 4, 0, 5] rfl ?_
                          refine V_iinc (j := 5) (v := (x6_16 + 1)) (L' := [(0, .ref p0), (1, .int p1), (2, .int p2), (3, .int p3), (5, .int (t103 + t104)), (6, .int (x6_16 + 1))]) hC dX12_sell_266 rfl rfl (by decide) [1, 2, 3, 4, 5, 0] rfl ?_
                          refine V_goto (tgt := 139) hC dX12_sell_269 (by decide) ?_
                          exact hq)
                        refine V_if_eq (tgt := 262) hC dX12_sell_255 (by decide) (fun hc => ?_) (fun hc => ?_)
                        · have hq := hq.1 hc
                          refine V_iconst (v := 0) hC dX12_sell_262 (by decide) ?_
                          refine V_sub [0, 1, 2, 3, 5] rfl ?_
                          exact hq
                        · have hq := hq.2 hc
                          refine V_iconst (v := 1) hC dX12_sell_258 (by decide) ?_
                          refine V_goto (tgt := 263) hC dX12_sell_259 (by decide) ?_
                          refine V_sub [0, 1, 2, 3, 5] rfl ?_
                          exact hq)
                      have hq := hq (fun (t105 : Nat) (t106 : Int32) => V G Γ 9 0 0 h93 236 [(0, .ref p0), (1, .int p1), (2, .int p2), (3, .int p3), (5, .int x5_15), (6, .int x6_16)] [.int t106, .ref t105]) (by
                        intro t105 t106 hq
                        show V G Γ 9 0 0 h93 236 [(0, .ref p0), (1, .int p1), (2, .int p2), (3, .int p3), (5, .int x5_15), (6, .int x6_16)] [.int t106, .ref t105]
                        refine V_iconst (v := 0) hC dX12_sell_236 (by decide) ?_
                        exact hq)
                      refine V_if_eq (tgt := 236) hC dX12_sell_219 (by decide) (fun hc => ?_) (fun hc => ?_)
                      · have hq := hq.1 hc
                        refine V_sub [0, 1, 2, 3, 4, 5] rfl ?_
                        exact hq
                      · have hq := hq.2 hc
                        refine V_aload_n hC dX12_sell_222 0 rfl ?_
                        refine U_getR hC fl_X12_64 dX12_sell_223 hq (fun v107 hq => ?_)
                        refine V_iload hC dX12_sell_226 5 rfl ?_
                        refine U_ldZ hC dX12_sell_228 hq (fun v108 hq => ?_)
                        refine V_if_ne (tgt := 236) hC dX12_sell_229 (by decide) (fun hc => ?_) (fun hc => ?_)
                        · have hq := hq.1 hc
                          refine V_sub [0, 1, 2, 3, 4, 5] rfl ?_
                          exact hq
                        · have hq := hq.2 hc
                          refine V_iconst (v := 1) hC dX12_sell_232 (by decide) ?_
                          refine V_goto (tgt := 237) hC dX12_sell_233 (by decide) ?_
                          refine V_sub [0, 1, 2, 3, 4, 5] rfl ?_
                          exact hq)
                    have hq := hq (fun (t109 : Nat) (t110 : Int32) => V G Γ 9 0 0 h17 209 [(0, .ref p0), (1, .int p1), (2, .int p2), (3, .int p3), (5, .int x5_15), (6, .int x6_16), (7, .int t88)] [.int t110, .ref t109]) (by
                      intro t109 t110 hq
                      show V G Γ 9 0 0 h17 209 [(0, .ref p0), (1, .int p1), (2, .int p2), (3, .int p3), (5, .int x5_15), (6, .int x6_16), (7, .int t88)] [.int t110, .ref t109]
                      refine V_iconst (v := 0) hC dX12_sell_209 (by decide) ?_
                      exact hq)
                    refine V_if_eq (tgt := 209) hC dX12_sell_191 (by decide) (fun hc => ?_) (fun hc => ?_)
                    · have hq := hq.1 hc
                      exact hq
                    · have hq := hq.2 hc
                      refine V_aload_n hC dX12_sell_194 0 rfl ?_
                      refine U_getR hC fl_X12_42 dX12_sell_195 hq (fun v111 hq => ?_)
                      refine V_iload hC dX12_sell_198 5 rfl ?_
                      refine U_ldI hC dX12_sell_200 hq (fun v112 hq => ?_)
                      refine V_iload_n hC dX12_sell_201 1 rfl ?_
                      refine V_icmp_le (tgt := 209) hC dX12_sell_202 (by decide) (fun hc => ?_) (fun hc => ?_)
                      · have hq := hq.1 hc
                        exact hq
                      · have hq := hq.2 hc
                        refine V_iconst (v := 1) hC dX12_sell_205 (by decide) ?_
                        refine V_goto (tgt := 210) hC dX12_sell_206 (by decide) ?_
                        exact hq)
                  have hq := hq (V G Γ 9 0 0 h17 180 [(0, .ref p0), (1, .int p1), (2, .int p2), (3, .int p3), (5, .int x5_15), (6, .int x6_16)] []) (by
                    intro hq
                    show V G Γ 9 0 0 h17 180 [(0, .ref p0), (1, .int p1), (2, .int p2), (3, .int p3), (5, .int x5_15), (6, .int x6_16)] []
                    refine V_iconst (v := 0) hC dX12_sell_180 (by decide) ?_
                    exact hq)
                  refine V_icmp_ge (tgt := 180) hC dX12_sell_152 (by decide) (fun hc => ?_) (fun hc => ?_)
                  · have hq := hq.1 hc
                    exact hq
                  · have hq := hq.2 hc
                    refine V_aload_n hC dX12_sell_155 0 rfl ?_
                    refine U_getR hC fl_X12_35 dX12_sell_156 hq (fun v113 hq => ?_)
                    refine V_iload hC dX12_sell_159 5 rfl ?_
                    refine U_ldZ hC dX12_sell_161 hq (fun v114 hq => ?_)
                    refine V_if_eq (tgt := 180) hC dX12_sell_162 (by decide) (fun hc => ?_) (fun hc => ?_)
                    · have hq := hq.1 hc
                      exact hq
                    · have hq := hq.2 hc
                      refine V_aload_n hC dX12_sell_165 0 rfl ?_
                      refine U_getR hC fl_X12_39 dX12_sell_166 hq (fun v115 hq => ?_)
                      refine V_iload hC dX12_sell_169 5 rfl ?_
                      refine U_ldI hC dX12_sell_171 hq (fun v116 hq => ?_)
                      refine V_iconst (v := (-1)) hC dX12_sell_172 (by decide) ?_
                      refine V_icmp_eq (tgt := 180) hC dX12_sell_173 (by decide) (fun hc => ?_) (fun hc => ?_)
                      · have hq := hq.1 hc
                        exact hq
                      · have hq := hq.2 hc
                        refine V_iconst (v := 1) hC dX12_sell_176 (by decide) ?_
                        refine V_goto (tgt := 181) hC dX12_sell_177 (by decide) ?_
                        exact hq)
              exact hq
            · have hq := hq.2 hc
              refine V_iconst (v := 0) hC dX12_sell_131 (by decide) ?_
              obtain ⟨hz1, hz2, hq⟩ := hq
              exact V_iret hC hQ rfl rfl ⟨hz1, hz2⟩ dX12_sell_132 ⟨_, rfl, hq⟩)
          have hq := hq (fun (t117 : Nat) (h118 : hw) => V G Γ 9 0 0 h118 119 [(0, .ref p0), (1, .int p1), (2, .int p2), (3, .int p3)] [.ref t117]) (by
            intro t117 h118 hq
            show V G Γ 9 0 0 h118 119 [(0, .ref p0), (1, .int p1), (2, .int p2), (3, .int p3)] [.ref t117]
            refine V_iconst (v := 1) hC dX12_sell_119 (by decide) ?_
            refine V_goto (tgt := 124) hC dX12_sell_120 (by decide) ?_
            exact hq)
          refine V_if_eq (tgt := 119) hC dX12_sell_107 (by decide) (fun hc => ?_) (fun hc => ?_)
          · have hq := hq.1 hc
            refine V_sub [0, 1, 2, 3] rfl ?_
            exact hq
          · have hq := hq.2 hc
            refine V_aload_n hC dX12_sell_110 0 rfl ?_
            refine V_iload_n hC dX12_sell_111 1 rfl ?_
            refine V_iload_n hC dX12_sell_112 3 rfl ?_
            obtain ⟨hz, hq⟩ := hq
            refine clV_X12_canStay hG hC sv_X12_227 ⟨by decide, by decide⟩ (Nat.le_of_ble_eq_true rfl) ⟨by omega, by omega⟩ dX12_sell_113 hz hq (fun r119 h120 hq => ?_)
            show V G Γ 9 0 0 h120 116 [(0, .ref p0), (1, .int p1), (2, .int p2), (3, .int p3), (4, .int x4_7), (5, .int x5_8)] [.int r119, .ref p0]
            refine V_if_ne (tgt := 123) hC dX12_sell_116 (by decide) (fun hc => ?_) (fun hc => ?_)
            · have hq := hq.1 hc
              refine V_iconst (v := 0) hC dX12_sell_123 (by decide) ?_
              refine V_sub [0, 1, 2, 3] rfl ?_
              exact hq
            · have hq := hq.2 hc
              refine V_sub [0, 1, 2, 3] rfl ?_
              exact hq
        · have hq := hq.2 hc
          refine V_iload hC dX12_sell_67 4 rfl ?_
          refine V_aload_n hC dX12_sell_69 0 rfl ?_
          refine U_getR hC fl_X12_35 dX12_sell_70 hq (fun v121 hq => ?_)
          refine V_iload hC dX12_sell_73 5 rfl ?_
          refine U_ldZ hC dX12_sell_75 hq (fun v122 hq => ?_)
          have hq := hq (fun (t123 : Int32) (t124 : Int32) => V G Γ 9 0 0 h6 95 [(0, .ref p0), (1, .int p1), (2, .int p2), (3, .int p3), (5, .int x5_8)] [.int t124, .int t123]) (by
            intro t123 t124 hq
            show V G Γ 9 0 0 h6 95 [(0, .ref p0), (1, .int p1), (2, .int p2), (3, .int p3), (5, .int x5_8)] [.int t124, .int t123]
            refine V_iadd hC dX12_sell_95 ?_
            refine V_istore (L' := [(0, .ref p0), (1, .int p1), (2, .int p2), (3, .int p3), (4, .int (t123 + t124)), (5, .int x5_8)]) hC dX12_sell_96 (by decide) [1, 2, 3, 4, 0, 5] rfl ?_
            refine V_iinc (j := 5) (v := (x5_8 + 1)) (L' := [(0, .ref p0), (1, .int p1), (2, .int p2), (3, .int p3), (4, .int (t123 + t124)), (5, .int (x5_8 + 1))]) hC dX12_sell_98 rfl rfl (by decide) [1, 2, 3, 4, 5, 0] rfl ?_
            refine V_goto (tgt := 58) hC dX12_sell_101 (by decide) ?_
            exact hq)
          have hq := hq (fun (t125 : Int32) => V G Γ 9 0 0 h6 94 [(0, .ref p0), (1, .int p1), (2, .int p2), (3, .int p3), (5, .int x5_8)] [.int t125]) (by
            intro t125 hq
            show V G Γ 9 0 0 h6 94 [(0, .ref p0), (1, .int p1), (2, .int p2), (3, .int p3), (5, .int x5_8)] [.int t125]
            refine V_iconst (v := 0) hC dX12_sell_94 (by decide) ?_
            exact hq)
          refine V_if_eq (tgt := 94) hC dX12_sell_76 (by decide) (fun hc => ?_) (fun hc => ?_)
          · have hq := hq.1 hc
            refine V_sub [0, 1, 2, 3, 5] rfl ?_
            exact hq
          · have hq := hq.2 hc
            refine V_aload_n hC dX12_sell_79 0 rfl ?_
            refine U_getR hC fl_X12_39 dX12_sell_80 hq (fun v126 hq => ?_)
            refine V_iload hC dX12_sell_83 5 rfl ?_
            refine U_ldI hC dX12_sell_85 hq (fun v127 hq => ?_)
            refine V_iconst (v := (-1)) hC dX12_sell_86 (by decide) ?_
            refine V_icmp_eq (tgt := 94) hC dX12_sell_87 (by decide) (fun hc => ?_) (fun hc => ?_)
            · have hq := hq.1 hc
              refine V_sub [0, 1, 2, 3, 5] rfl ?_
              exact hq
            · have hq := hq.2 hc
              refine V_iconst (v := 1) hC dX12_sell_90 (by decide) ?_
              refine V_goto (tgt := 95) hC dX12_sell_91 (by decide) ?_
              refine V_sub [0, 1, 2, 3, 5] rfl ?_
              exact hq)
      exact hq
    · have hq := hq.2 hc
      refine V_iconst (v := 0) hC dX12_sell_50 (by decide) ?_
      obtain ⟨hz1, hz2, hq⟩ := hq
      exact V_iret hC hQ rfl rfl ⟨hz1, hz2⟩ dX12_sell_51 ⟨_, rfl, hq⟩)
  have hq := hq (fun (t128 : Nat) => V G Γ 9 0 0 h1 38 [(0, .ref p0), (1, .int p1), (2, .int p2), (3, .int p3)] [.ref t128]) (by
    intro t128 hq
    show V G Γ 9 0 0 h1 38 [(0, .ref p0), (1, .int p1), (2, .int p2), (3, .int p3)] [.ref t128]
    refine V_iconst (v := 1) hC dX12_sell_38 (by decide) ?_
    refine V_goto (tgt := 43) hC dX12_sell_39 (by decide) ?_
    exact hq)
  refine V_if_eq (tgt := 38) hC dX12_sell_14 (by decide) (fun hc => ?_) (fun hc => ?_)
  · have hq := hq.1 hc
    exact hq
  · have hq := hq.2 hc
    refine V_iload_n hC dX12_sell_17 2 rfl ?_
    refine V_iconst (v := 1) hC dX12_sell_18 (by decide) ?_
    refine V_sipush (v := 999) hC dX12_sell_19 (by decide) ?_
    refine clS_X12_in hG hC ss_X12_101 ⟨by decide, by decide⟩ (Nat.le_of_ble_eq_true rfl) ⟨by omega, by omega⟩ dX12_sell_22 hq (fun r129 hq => ?_)
    show V G Γ 9 0 0 h1 25 [(0, .ref p0), (1, .int p1), (2, .int p2), (3, .int p3)] [.int r129, .ref p0]
    refine V_if_eq (tgt := 38) hC dX12_sell_25 (by decide) (fun hc => ?_) (fun hc => ?_)
    · have hq := hq.1 hc
      exact hq
    · have hq := hq.2 hc
      refine V_iload_n hC dX12_sell_28 3 rfl ?_
      refine V_iconst (v := 1) hC dX12_sell_29 (by decide) ?_
      refine V_bipush (v := 8) hC dX12_sell_30 (by decide) ?_
      refine clS_X12_in hG hC ss_X12_101 ⟨by decide, by decide⟩ (Nat.le_of_ble_eq_true rfl) ⟨by omega, by omega⟩ dX12_sell_32 hq (fun r130 hq => ?_)
      show V G Γ 9 0 0 h1 35 [(0, .ref p0), (1, .int p1), (2, .int p2), (3, .int p3)] [.int r130, .ref p0]
      refine V_if_ne (tgt := 42) hC dX12_sell_35 (by decide) (fun hc => ?_) (fun hc => ?_)
      · have hq := hq.1 hc
        refine V_iconst (v := 0) hC dX12_sell_42 (by decide) ?_
        exact hq
      · have hq := hq.2 hc
        exact hq
theorem clV_X12_sell {G : Gx} (hG : GOK G) {Γ : Cx} {own : String} {cc : ByteArray} {nL fr lo mc ms cells slots pc : Nat} {hh : List (Nat × Nat × Nat × Nat)} {h : hw} {L : List (Nat × Value)} {rest : List Value} (hC : COK G Γ own cc nL fr lo mc ms hh) {idx : Nat} (hs : SV own idx yX12_sell cX12_sell 9 (some .int) 3) {bc bs : Nat} {p0 : Nat} {p1 : Int32} {p2 : Int32} {p3 : Int32} (hR : 18 + 1 ≤ fr ∧ 8 + (9 + 11) + 442 ≤ lo) (hw8 : (rest.map fun v => v.category).sum ≤ 8) (hcs : cells + bc ≤ mc ∧ slots + bs ≤ ms) (hdg : decode cc pc = .ok (.invokevirtual idx, 3)) (ho : isO h p0 12) {post : Int32 → hw → Prop} (hq : wp_X12_sell G p0 p1 p2 p3 h bc bs post) (kk : ∀ (r : Int32) (h1 : hw) , post r h1 → V G Γ nL (cells + bc) (slots + bs) h1 (pc + 3) L (.int r :: rest)) : V G Γ nL cells slots h pc L (.int p3 :: .int p2 :: .int p1 :: .ref p0 :: rest) :=
  V_callV (As := [.int p1, .int p2, .int p3]) (r9 := (RX12, TX12, 36)) hC (ct_X12_sell hG p0 p1 p2 p3 h bc bs post hq) hs ho rfl rfl rfl hR hw8 hcs hdg (fun E h1 z => z.elim) (fun v h1 z => by obtain ⟨r, rfl, hz⟩ := z; exact kk r h1 hz)
