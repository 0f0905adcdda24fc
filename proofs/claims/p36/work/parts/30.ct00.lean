set_option maxRecDepth 100000 in
set_option maxHeartbeats 4000000 in
theorem ct_Jxa1e45_init_da8c8 {G : Gx} (hG : GOK G) (p0 : Nat) (h0 : hw) (post : Prop) (hq : wp_Jxa1e45_init_da8c8 G p0 h0 post) : CT G yJxa1e45_init_da8c8 cJxa1e45_init_da8c8 1 none 2 60 0 0 [.ref p0] h0 (fun v h1 => v = none ∧ h1 = h0 ∧ post) (fun E h1 => False) := by
  refine CT_of hG (by decide) (Nat.le_of_ble_eq_true rfl) (fun Γ hC hQ hN => ?_)
  have hC : COK G Γ "java/util/AbstractCollection" cJxa1e45_init_da8c8 1 2 60 0 0 [] := hC
  have hin := HIN hN rfl
  unfold wp_Jxa1e45_init_da8c8 at hq
  show V G Γ 1 0 0 h0 0 [(0, .ref p0)] []
  refine V_aload_n hC dJxa1e45_init_da8c8_0 0 rfl ?_
  refine V_objInit hC so_Jxa1e45_1 (by decide) (Nat.le_of_ble_eq_true rfl) dJxa1e45_init_da8c8_1 ?_
  exact V_vret hC hQ ⟨by decide, by decide⟩ dJxa1e45_init_da8c8_4 ⟨rfl, rfl, hq⟩
theorem clI_Jxa1e45_init_da8c8 {G : Gx} (hG : GOK G) {Γ : Cx} {own : String} {cc : ByteArray} {nL fr lo mc ms cells slots pc : Nat} {hh : List (Nat × Nat × Nat × Nat)} {h : hw} {L : List (Nat × Value)} {rest : List Value} (hC : COK G Γ own cc nL fr lo mc ms hh) {idx : Nat} (hs : SI own idx yJxa1e45_init_da8c8 cJxa1e45_init_da8c8 1 0) {p0 : Nat} (hR : 2 + 1 ≤ fr ∧ 8 + (1 + 11) + 60 ≤ lo) (hw8 : (rest.map fun v => v.category).sum ≤ 8) (hcs : cells + 0 ≤ mc ∧ slots + 0 ≤ ms) (hdg : decode cc pc = .ok (.invokespecial idx, 3)) {post : Prop} (hq : wp_Jxa1e45_init_da8c8 G p0 h post) (kk : post → V G Γ nL (cells + 0) (slots + 0) h (pc + 3) L rest) : V G Γ nL cells slots h pc L (.ref p0 :: rest) :=
  V_callI (As := []) hC (ct_Jxa1e45_init_da8c8 hG p0 h post hq) hs rfl hR hw8 hcs hdg (fun E h1 z => z.elim) (fun v h1 z => by obtain ⟨rfl, rfl, hz⟩ := z; exact kk hz)
set_option maxRecDepth 100000 in
set_option maxHeartbeats 4000000 in
theorem ct_Jxc12de_init_da8c8 {G : Gx} (hG : GOK G) (p0 : Nat) (h0 : hw) (post : hw → Prop) (hq : wp_Jxc12de_init_da8c8 G p0 h0 post) : CT G yJxc12de_init_da8c8 cJxc12de_init_da8c8 1 none 3 80 0 0 [.ref p0] h0 (fun v h1 => v = none ∧ post h1) (fun E h1 => False) := by
  refine CT_of hG (by decide) (Nat.le_of_ble_eq_true rfl) (fun Γ hC hQ hN => ?_)
  have hC : COK G Γ "java/util/AbstractList" cJxc12de_init_da8c8 1 3 80 0 0 [] := hC
  have hin := HIN hN rfl
  unfold wp_Jxc12de_init_da8c8 at hq
  show V G Γ 1 0 0 h0 0 [(0, .ref p0)] []
  refine V_aload_n hC dJxc12de_init_da8c8_0 0 rfl ?_
  refine clI_Jxa1e45_init_da8c8 hG hC si_Jxc12de_1 ⟨by decide, by decide⟩ (Nat.le_of_ble_eq_true rfl) ⟨by decide, by decide⟩ dJxc12de_init_da8c8_1 hq (fun hq => ?_)
  show V G Γ 1 0 0 h0 4 [(0, .ref p0)] []
  refine V_aload_n hC dJxc12de_init_da8c8_4 0 rfl ?_
  refine V_iconst (v := 0) hC dJxc12de_init_da8c8_5 (by decide) ?_
  refine U_putO hC (by decide) fl_Jxc12de_7 fin_Jx4a65c_0 rfl rfl dJxc12de_init_da8c8_6 hq (fun h1 hq => ?_)
  exact V_vret hC hQ ⟨by decide, by decide⟩ dJxc12de_init_da8c8_9 ⟨rfl, hq⟩
theorem clI_Jxc12de_init_da8c8 {G : Gx} (hG : GOK G) {Γ : Cx} {own : String} {cc : ByteArray} {nL fr lo mc ms cells slots pc : Nat} {hh : List (Nat × Nat × Nat × Nat)} {h : hw} {L : List (Nat × Value)} {rest : List Value} (hC : COK G Γ own cc nL fr lo mc ms hh) {idx : Nat} (hs : SI own idx yJxc12de_init_da8c8 cJxc12de_init_da8c8 1 0) {p0 : Nat} (hR : 3 + 1 ≤ fr ∧ 8 + (1 + 11) + 80 ≤ lo) (hw8 : (rest.map fun v => v.category).sum ≤ 8) (hcs : cells + 0 ≤ mc ∧ slots + 0 ≤ ms) (hdg : decode cc pc = .ok (.invokespecial idx, 3)) {post : hw → Prop} (hq : wp_Jxc12de_init_da8c8 G p0 h post) (kk : ∀ (h1 : hw) , post h1 → V G Γ nL (cells + 0) (slots + 0) h1 (pc + 3) L (rest)) : V G Γ nL cells slots h pc L (.ref p0 :: rest) :=
  V_callI (As := []) hC (ct_Jxc12de_init_da8c8 hG p0 h post hq) hs rfl hR hw8 hcs hdg (fun E h1 z => z.elim) (fun v h1 z => by obtain ⟨rfl, hz⟩ := z; exact kk h1 hz)
set_option maxRecDepth 100000 in
set_option maxHeartbeats 4000000 in
theorem ct_Jx4a65c_init_da8c8 {G : Gx} (hG : GOK G) (p0 : Nat) (h0 : hw) (post : hw → Prop) (hq : wp_Jx4a65c_init_da8c8 G p0 h0 post) : CT G yJx4a65c_init_da8c8 cJx4a65c_init_da8c8 1 none 4 100 0 0 [.ref p0] h0 (fun v h1 => v = none ∧ post h1) (fun E h1 => False) := by
  refine CT_of hG (by decide) (Nat.le_of_ble_eq_true rfl) (fun Γ hC hQ hN => ?_)
  have hC : COK G Γ "java/util/ArrayList" cJx4a65c_init_da8c8 1 4 100 0 0 [] := hC
  have hin := HIN hN rfl
  unfold wp_Jx4a65c_init_da8c8 at hq
  show V G Γ 1 0 0 h0 0 [(0, .ref p0)] []
  refine V_aload_n hC dJx4a65c_init_da8c8_0 0 rfl ?_
  refine clI_Jxc12de_init_da8c8 hG hC si_Jx4a65c_1 ⟨by decide, by decide⟩ (Nat.le_of_ble_eq_true rfl) ⟨by decide, by decide⟩ dJx4a65c_init_da8c8_1 hq (fun h1 hq => ?_)
  show V G Γ 1 0 0 h1 4 [(0, .ref p0)] []
  refine V_aload_n hC dJx4a65c_init_da8c8_4 0 rfl ?_
  refine U_gst0 hC aw_1_66 dJx4a65c_init_da8c8_5 ?_
  refine U_putO hC (by decide) fl_Jx4a65c_9 fin_Jx4a65c_1 rfl rfl dJx4a65c_init_da8c8_8 hq (fun h2 hq => ?_)
  exact V_vret hC hQ ⟨by decide, by decide⟩ dJx4a65c_init_da8c8_11 ⟨rfl, hq⟩
theorem clI_Jx4a65c_init_da8c8 {G : Gx} (hG : GOK G) {Γ : Cx} {own : String} {cc : ByteArray} {nL fr lo mc ms cells slots pc : Nat} {hh : List (Nat × Nat × Nat × Nat)} {h : hw} {L : List (Nat × Value)} {rest : List Value} (hC : COK G Γ own cc nL fr lo mc ms hh) {idx : Nat} (hs : SI own idx yJx4a65c_init_da8c8 cJx4a65c_init_da8c8 1 0) {p0 : Nat} (hR : 4 + 1 ≤ fr ∧ 8 + (1 + 11) + 100 ≤ lo) (hw8 : (rest.map fun v => v.category).sum ≤ 8) (hcs : cells + 0 ≤ mc ∧ slots + 0 ≤ ms) (hdg : decode cc pc = .ok (.invokespecial idx, 3)) {post : hw → Prop} (hq : wp_Jx4a65c_init_da8c8 G p0 h post) (kk : ∀ (h1 : hw) , post h1 → V G Γ nL (cells + 0) (slots + 0) h1 (pc + 3) L (rest)) : V G Γ nL cells slots h pc L (.ref p0 :: rest) :=
  V_callI (As := []) hC (ct_Jx4a65c_init_da8c8 hG p0 h post hq) hs rfl hR hw8 hcs hdg (fun E h1 z => z.elim) (fun v h1 z => by obtain ⟨rfl, hz⟩ := z; exact kk h1 hz)
set_option maxRecDepth 100000 in
set_option maxHeartbeats 4000000 in
theorem ct_X7_init {G : Gx} (hG : GOK G) (p0 : Nat) (p1 : Int32) (p2 : Int32) (h0 : hw) (bc bs : Nat) (post : hw → Prop) (hq : wp_X7_init G p0 p1 p2 h0 bc bs post) : CT G yX7_init cX7_init 4 none 2 60 bc bs [.ref p0, .int p1, .int p2] h0 (fun v h1 => v = none ∧ post h1) (fun E h1 => False) := by
  refine CT_of hG (by decide) (Nat.le_of_ble_eq_true rfl) (fun Γ hC hQ hN => ?_)
  have hC : COK G Γ "Bandplan$Row" cX7_init 4 2 60 bc bs [] := hC
  have hin := HIN hN rfl
  unfold wp_X7_init at hq
  show V G Γ 4 0 0 h0 0 [(0, .ref p0), (1, .int p1), (2, .int p2)] []
  refine V_aload_n hC dX7_init_0 0 rfl ?_
  refine V_objInit hC so_X7_1 (by decide) (Nat.le_of_ble_eq_true rfl) dX7_init_1 ?_
  refine V_aload_n hC dX7_init_4 0 rfl ?_
  refine V_iload_n hC dX7_init_5 1 rfl ?_
  have hq := hq (fun (t1 : Nat) (t2 : Int32) => V G Γ 4 0 0 h0 14 [(0, .ref p0), (2, .int p2)] [.int t2, .ref t1]) (by
    intro t1 t2 hq
    show V G Γ 4 0 0 h0 14 [(0, .ref p0), (2, .int p2)] [.int t2, .ref t1]
    obtain ⟨hz1, hz2, hq⟩ := hq
    refine U_newaI (room := (bs - 0)) hC aw_1_90 ⟨hz1, by omega⟩ dX7_init_14 hq (fun a3 h4 hq => ?_)
    refine U_putF hC (Or.inl (by decide)) fl_X7_7 fin_X7_0 hin rfl rfl dX7_init_16 hq (fun h5 hq => ?_)
    refine V_iconst (v := 0) hC dX7_init_19 (by decide) ?_
    refine V_istore_n (L' := [(0, .ref p0), (2, .int p2), (3, .int 0)]) hC dX7_init_20 rfl (by decide) [1, 2, 0] rfl ?_
    have hq := hq (fun (x3_6 : Int32) (h7 : hw) => V G Γ 4 (0 + 1) (0 + (bs - 0)) h7 21 [(0, .ref p0), (2, .int p2), (3, .int x3_6)] []) (by
      intro x3_6 h7 hq
      show V G Γ 4 (0 + 1) (0 + (bs - 0)) h7 21 [(0, .ref p0), (2, .int p2), (3, .int x3_6)] []
      refine V_iload_n hC dX7_init_21 2 rfl ?_
      refine V_aload_n hC dX7_init_22 0 rfl ?_
      refine U_getR hC fl_X7_7 dX7_init_23 hq (fun v8 hq => ?_)
      refine U_lnI hC dX7_init_26 hq (fun v9 hq => ?_)
      refine V_icmp_ge (tgt := 43) hC dX7_init_27 (by decide) (fun hc => ?_) (fun hc => ?_)
      · have hq := hq.1 hc
        obtain ⟨hz1, hz2, hq⟩ := hq
        exact V_vret hC hQ ⟨hz1, hz2⟩ dX7_init_43 ⟨rfl, hq⟩
      · have hq := hq.2 hc
        refine V_aload_n hC dX7_init_30 0 rfl ?_
        refine U_getR hC fl_X7_7 dX7_init_31 hq (fun v10 hq => ?_)
        refine V_iload_n hC dX7_init_34 2 rfl ?_
        refine V_iload_n hC dX7_init_35 1 rfl ?_
        refine U_stI hC dX7_init_36 hq (fun h11 hq => ?_)
        refine V_iinc (j := 2) (v := (x3_6 + 1)) (L' := [(0, .ref p0), (2, .int p2), (3, .int (x3_6 + 1))]) hC dX7_init_37 rfl rfl (by decide) [1, 2, 0] rfl ?_
        refine V_goto (tgt := 21) hC dX7_init_40 (by decide) ?_
        exact hq)
    exact hq)
  refine V_if_ge (tgt := 13) hC dX7_init_6 (by decide) (fun hc => ?_) (fun hc => ?_)
  · have hq := hq.1 hc
    refine V_iload_n hC dX7_init_13 1 rfl ?_
    refine V_sub [0, 2] rfl ?_
    exact hq
  · have hq := hq.2 hc
    refine V_iconst (v := 0) hC dX7_init_9 (by decide) ?_
    refine V_goto (tgt := 14) hC dX7_init_10 (by decide) ?_
    refine V_sub [0, 2] rfl ?_
    exact hq
theorem clI_X7_init {G : Gx} (hG : GOK G) {Γ : Cx} {own : String} {cc : ByteArray} {nL fr lo mc ms cells slots pc : Nat} {hh : List (Nat × Nat × Nat × Nat)} {h : hw} {L : List (Nat × Value)} {rest : List Value} (hC : COK G Γ own cc nL fr lo mc ms hh) {idx : Nat} (hs : SI own idx yX7_init cX7_init 4 2) {bc bs : Nat} {p0 : Nat} {p1 : Int32} {p2 : Int32} (hR : 2 + 1 ≤ fr ∧ 8 + (4 + 11) + 60 ≤ lo) (hw8 : (rest.map fun v => v.category).sum ≤ 8) (hcs : cells + bc ≤ mc ∧ slots + bs ≤ ms) (hdg : decode cc pc = .ok (.invokespecial idx, 3)) {post : hw → Prop} (hq : wp_X7_init G p0 p1 p2 h bc bs post) (kk : ∀ (h1 : hw) , post h1 → V G Γ nL (cells + bc) (slots + bs) h1 (pc + 3) L (rest)) : V G Γ nL cells slots h pc L (.int p2 :: .int p1 :: .ref p0 :: rest) :=
  V_callI (As := [.int p1, .int p2]) hC (ct_X7_init hG p0 p1 p2 h bc bs post hq) hs rfl hR hw8 hcs hdg (fun E h1 z => z.elim) (fun v h1 z => by obtain ⟨rfl, hz⟩ := z; exact kk h1 hz)
set_option maxRecDepth 100000 in
set_option maxHeartbeats 4000000 in
theorem ct_X3_init {G : Gx} (hG : GOK G) (p0 : Nat) (h0 : hw) (post : hw → Prop) (hq : wp_X3_init G p0 h0 post) : CT G yX3_init cX3_init 1 none 5 120 5 505 [.ref p0] h0 (fun v h1 => v = none ∧ post h1) (fun E h1 => False) := by
  refine CT_of hG (by decide) (Nat.le_of_ble_eq_true rfl) (fun Γ hC hQ hN => ?_)
  have hC : COK G Γ "Bandplan$Land" cX3_init 1 5 120 5 505 [] := hC
  have hin := HIN hN rfl
  unfold wp_X3_init at hq
  show V G Γ 1 0 0 h0 0 [(0, .ref p0)] []
  refine V_aload_n hC dX3_init_0 0 rfl ?_
  refine V_objInit hC so_X3_3 (by decide) (Nat.le_of_ble_eq_true rfl) dX3_init_1 ?_
  refine V_aload_n hC dX3_init_4 0 rfl ?_
  refine U_new hC no_X3_9 ⟨by decide, by decide⟩ dX3_init_5 hq (fun a1 h2 hq => ?_)
  refine V_dup hC dX3_init_8 rfl ?_
  refine clI_Jx4a65c_init_da8c8 hG hC si_X3_11 ⟨by decide, by decide⟩ (Nat.le_of_ble_eq_true rfl) ⟨by decide, by decide⟩ dX3_init_9 hq (fun h3 hq => ?_)
  show V G Γ 1 1 3 h3 12 [(0, .ref p0)] [.ref a1, .ref p0]
  refine U_putF hC (Or.inl (by decide)) fl_X3_12 fin_X3_0 hin rfl rfl dX3_init_12 hq (fun h4 hq => ?_)
  refine V_aload_n hC dX3_init_15 0 rfl ?_
  refine U_new hC no_X3_18 ⟨by decide, by decide⟩ dX3_init_16 hq (fun a5 h6 hq => ?_)
  refine V_dup hC dX3_init_19 rfl ?_
  refine V_sipush (v := 400) hC dX3_init_20 (by decide) ?_
  refine V_iconst (v := 0) hC dX3_init_23 (by decide) ?_
  refine clI_X7_init hG hC si_X3_20 ⟨by decide, by decide⟩ (Nat.le_of_ble_eq_true rfl) ⟨by decide, by decide⟩ dX3_init_24 hq (fun h7 hq => ?_)
  show V G Γ 1 3 404 h7 27 [(0, .ref p0)] [.ref a5, .ref p0]
  refine U_putF hC (Or.inl (by decide)) fl_X3_23 fin_X3_1 hin rfl rfl dX3_init_27 hq (fun h8 hq => ?_)
  refine V_aload_n hC dX3_init_30 0 rfl ?_
  refine U_new hC no_X3_18 ⟨by decide, by decide⟩ dX3_init_31 hq (fun a9 h10 hq => ?_)
  refine V_dup hC dX3_init_34 rfl ?_
  refine V_bipush (v := 100) hC dX3_init_35 (by decide) ?_
  refine V_iconst (v := 0) hC dX3_init_37 (by decide) ?_
  refine clI_X7_init hG hC si_X3_20 ⟨by decide, by decide⟩ (Nat.le_of_ble_eq_true rfl) ⟨by decide, by decide⟩ dX3_init_38 hq (fun h11 hq => ?_)
  show V G Γ 1 5 505 h11 41 [(0, .ref p0)] [.ref a9, .ref p0]
  refine U_putF hC (Or.inl (by decide)) fl_X3_27 fin_X3_2 hin rfl rfl dX3_init_41 hq (fun h12 hq => ?_)
  exact V_vret hC hQ ⟨by decide, by decide⟩ dX3_init_44 ⟨rfl, hq⟩
theorem clIN_X3_init {G : Gx} (hG : GOK G) {Γ : Cx} {own : String} {cc : ByteArray} {nL fr lo mc ms cells slots pc : Nat} {hh : List (Nat × Nat × Nat × Nat)} {h : hw} {L : List (Nat × Value)} {rest : List Value} (hC : COK G Γ own cc nL fr lo mc ms hh) {idx : Nat} {host : String} (hs : SIN own idx yX3_init host cX3_init 1 0) {p0 : Nat} (hR : 5 + 1 ≤ fr ∧ 8 + (1 + 11) + 120 ≤ lo) (hw8 : (rest.map fun v => v.category).sum ≤ 8) (hcs : cells + 5 ≤ mc ∧ slots + 505 ≤ ms) (hdg : decode cc pc = .ok (.invokespecial idx, 3)) {post : hw → Prop} (hq : wp_X3_init G p0 h post) (kk : ∀ (h1 : hw) , post h1 → V G Γ nL (cells + 5) (slots + 505) h1 (pc + 3) L (rest)) : V G Γ nL cells slots h pc L (.ref p0 :: rest) :=
  V_callIN (As := []) hC (ct_X3_init hG p0 h post hq) hs rfl hR hw8 hcs hdg (fun E h1 z => z.elim) (fun v h1 z => by obtain ⟨rfl, hz⟩ := z; exact kk h1 hz)
set_option maxRecDepth 100000 in
set_option maxHeartbeats 4000000 in
theorem ct_X0_init {G : Gx} (hG : GOK G) (p0 : Nat) (h0 : hw) (post : hw → Prop) (hq : wp_X0_init G p0 h0 post) : CT G yX0_init cX0_init 1 none 6 140 7 511 [.ref p0] h0 (fun v h1 => v = none ∧ post h1) (fun E h1 => False) := by
  refine CT_of hG (by decide) (Nat.le_of_ble_eq_true rfl) (fun Γ hC hQ hN => ?_)
  have hC : COK G Γ "Bandplan$Air" cX0_init 1 6 140 7 511 [] := hC
  have hin := HIN hN rfl
  unfold wp_X0_init at hq
  show V G Γ 1 0 0 h0 0 [(0, .ref p0)] []
  refine V_aload_n hC dX0_init_0 0 rfl ?_
  refine V_objInit hC so_X0_3 (by decide) (Nat.le_of_ble_eq_true rfl) dX0_init_1 ?_
  refine V_aload_n hC dX0_init_4 0 rfl ?_
  refine U_new hC no_X0_9 ⟨by decide, by decide⟩ dX0_init_5 hq (fun a1 h2 hq => ?_)
  refine V_dup hC dX0_init_8 rfl ?_
  refine clIN_X3_init hG hC sin_X0_11 ⟨by decide, by decide⟩ (Nat.le_of_ble_eq_true rfl) ⟨by decide, by decide⟩ dX0_init_9 hq (fun h3 hq => ?_)
  show V G Γ 1 6 508 h3 12 [(0, .ref p0)] [.ref a1, .ref p0]
  refine U_putF hC (Or.inl (by decide)) fl_X0_12 fin_X0_0 hin rfl rfl dX0_init_12 hq (fun h4 hq => ?_)
  refine V_aload_n hC dX0_init_15 0 rfl ?_
  refine U_new hC no_X0_18 ⟨by decide, by decide⟩ dX0_init_16 hq (fun a5 h6 hq => ?_)
  refine V_dup hC dX0_init_19 rfl ?_
  refine clI_Jx4a65c_init_da8c8 hG hC si_X0_20 ⟨by decide, by decide⟩ (Nat.le_of_ble_eq_true rfl) ⟨by decide, by decide⟩ dX0_init_20 hq (fun h7 hq => ?_)
  show V G Γ 1 7 511 h7 23 [(0, .ref p0)] [.ref a5, .ref p0]
  refine U_putF hC (Or.inl (by decide)) fl_X0_21 fin_X0_1 hin rfl rfl dX0_init_23 hq (fun h8 hq => ?_)
  refine V_aload_n hC dX0_init_26 0 rfl ?_
  refine V_sipush (v := 170) hC dX0_init_27 (by decide) ?_
  refine U_putO hC (by decide) fl_X0_25 fin_X0_2 rfl rfl dX0_init_30 hq (fun h9 hq => ?_)
  exact V_vret hC hQ ⟨by decide, by decide⟩ dX0_init_33 ⟨rfl, hq⟩
theorem clIN_X0_init {G : Gx} (hG : GOK G) {Γ : Cx} {own : String} {cc : ByteArray} {nL fr lo mc ms cells slots pc : Nat} {hh : List (Nat × Nat × Nat × Nat)} {h : hw} {L : List (Nat × Value)} {rest : List Value} (hC : COK G Γ own cc nL fr lo mc ms hh) {idx : Nat} {host : String} (hs : SIN own idx yX0_init host cX0_init 1 0) {p0 : Nat} (hR : 6 + 1 ≤ fr ∧ 8 + (1 + 11) + 140 ≤ lo) (hw8 : (rest.map fun v => v.category).sum ≤ 8) (hcs : cells + 7 ≤ mc ∧ slots + 511 ≤ ms) (hdg : decode cc pc = .ok (.invokespecial idx, 3)) {post : hw → Prop} (hq : wp_X0_init G p0 h post) (kk : ∀ (h1 : hw) , post h1 → V G Γ nL (cells + 7) (slots + 511) h1 (pc + 3) L (rest)) : V G Γ nL cells slots h pc L (.ref p0 :: rest) :=
  V_callIN (As := []) hC (ct_X0_init hG p0 h post hq) hs rfl hR hw8 hcs hdg (fun E h1 z => z.elim) (fun v h1 z => by obtain ⟨rfl, hz⟩ := z; exact kk h1 hz)
set_option maxRecDepth 100000 in
set_option maxHeartbeats 4000000 in
theorem ct_X7_at {G : Gx} (hG : GOK G) (p0 : Nat) (p1 : Int32) (h0 : hw) (post : Int32 → Prop) (hq : wp_X7_at G p0 p1 h0 post) : CT G yX7_at cX7_at 2 (some .int) 1 30 0 0 [.ref p0, .int p1] h0 (fun v h1 => ∃ r : Int32, v = some (.int r) ∧ h1 = h0 ∧ post r) (fun E h1 => False) := by
  refine CT_of hG (by decide) (Nat.le_of_ble_eq_true rfl) (fun Γ hC hQ hN => ?_)
  have hC : COK G Γ "Bandplan$Row" cX7_at 2 1 30 0 0 [] := hC
  unfold wp_X7_at at hq
  show V G Γ 2 0 0 h0 0 [(0, .ref p0), (1, .int p1)] []
  refine V_iload_n hC dX7_at_0 1 rfl ?_
  have hq := hq (V G Γ 2 0 0 h0 22 [] []) (by
    intro hq
    show V G Γ 2 0 0 h0 22 [] []
    refine V_iconst (v := 0) hC dX7_at_22 (by decide) ?_
    exact V_iret hC hQ rfl rfl ⟨by decide, by decide⟩ dX7_at_23 ⟨_, rfl, rfl, hq⟩)
  refine V_if_lt (tgt := 22) hC dX7_at_1 (by decide) (fun hc => ?_) (fun hc => ?_)
  · have hq := hq.1 hc
    refine V_sub [] rfl ?_
    exact hq
  · have hq := hq.2 hc
    refine V_iload_n hC dX7_at_4 1 rfl ?_
    refine V_aload_n hC dX7_at_5 0 rfl ?_
    refine U_getR hC fl_X7_7 dX7_at_6 hq (fun v1 hq => ?_)
    refine U_lnI hC dX7_at_9 hq (fun v2 hq => ?_)
    refine V_icmp_ge (tgt := 22) hC dX7_at_10 (by decide) (fun hc => ?_) (fun hc => ?_)
    · have hq := hq.1 hc
      refine V_sub [] rfl ?_
      exact hq
    · have hq := hq.2 hc
      refine V_aload_n hC dX7_at_13 0 rfl ?_
      refine U_getR hC fl_X7_7 dX7_at_14 hq (fun v3 hq => ?_)
      refine V_iload_n hC dX7_at_17 1 rfl ?_
      refine U_ldI hC dX7_at_18 hq (fun v4 hq => ?_)
      refine V_goto (tgt := 23) hC dX7_at_19 (by decide) ?_
      exact V_iret hC hQ rfl rfl ⟨by decide, by decide⟩ dX7_at_23 ⟨_, rfl, rfl, hq⟩
theorem clV_X7_at {G : Gx} (hG : GOK G) {Γ : Cx} {own : String} {cc : ByteArray} {nL fr lo mc ms cells slots pc : Nat} {hh : List (Nat × Nat × Nat × Nat)} {h : hw} {L : List (Nat × Value)} {rest : List Value} (hC : COK G Γ own cc nL fr lo mc ms hh) {idx : Nat} (hs : SV own idx yX7_at cX7_at 2 (some .int) 1) {p0 : Nat} {p1 : Int32} (hR : 1 + 1 ≤ fr ∧ 8 + (2 + 11) + 30 ≤ lo) (hw8 : (rest.map fun v => v.category).sum ≤ 8) (hcs : cells + 0 ≤ mc ∧ slots + 0 ≤ ms) (hdg : decode cc pc = .ok (.invokevirtual idx, 3)) (ho : isO h p0 7) {post : Int32 → Prop} (hq : wp_X7_at G p0 p1 h post) (kk : ∀ (r : Int32) , post r → V G Γ nL (cells + 0) (slots + 0) h (pc + 3) L (.int r :: rest)) : V G Γ nL cells slots h pc L (.int p1 :: .ref p0 :: rest) :=
  V_callV (As := [.int p1]) (r9 := (RX7, TX7, 1)) hC (ct_X7_at hG p0 p1 h post hq) hs ho rfl rfl rfl hR hw8 hcs hdg (fun E h1 z => z.elim) (fun v h1 z => by obtain ⟨r, rfl, rfl, hz⟩ := z; exact kk r hz)
set_option maxRecDepth 100000 in
set_option maxHeartbeats 4000000 in
theorem ct_X3_lossBetween {G : Gx} (hG : GOK G) (p0 : Nat) (p1 : Int32) (p2 : Int32) (h0 : hw) (post : Int32 → Prop) (hq : wp_X3_lossBetween G p0 p1 p2 h0 post) : CT G yX3_lossBetween cX3_lossBetween 3 (some .int) 2 51 0 0 [.ref p0, .int p1, .int p2] h0 (fun v h1 => ∃ r : Int32, v = some (.int r) ∧ h1 = h0 ∧ post r) (fun E h1 => False) := by
  refine CT_of hG (by decide) (Nat.le_of_ble_eq_true rfl) (fun Γ hC hQ hN => ?_)
  have hC : COK G Γ "Bandplan$Land" cX3_lossBetween 3 2 51 0 0 [] := hC
  unfold wp_X3_lossBetween at hq
  show V G Γ 3 0 0 h0 0 [(0, .ref p0), (1, .int p1), (2, .int p2)] []
  refine V_aload_n hC dX3_lossBetween_0 0 rfl ?_
  refine U_getR hC fl_X3_27 dX3_lossBetween_1 hq (fun v1 hq => ?_)
  refine V_iload_n hC dX3_lossBetween_4 1 rfl ?_
  refine V_bipush (v := 10) hC dX3_lossBetween_5 (by decide) ?_
  refine V_imul hC dX3_lossBetween_7 ?_
  refine V_iload_n hC dX3_lossBetween_8 2 rfl ?_
  refine V_iadd hC dX3_lossBetween_9 ?_
  obtain ⟨hz, hq⟩ := hq
  refine clV_X7_at hG hC sv_X3_48 ⟨by decide, by decide⟩ (Nat.le_of_ble_eq_true rfl) ⟨by decide, by decide⟩ dX3_lossBetween_10 hz hq (fun r2 hq => ?_)
  show V G Γ 3 0 0 h0 13 [(0, .ref p0), (1, .int p1), (2, .int p2)] [.int r2]
  exact V_iret hC hQ rfl rfl ⟨by decide, by decide⟩ dX3_lossBetween_13 ⟨_, rfl, rfl, hq⟩
theorem clV_X3_lossBetween {G : Gx} (hG : GOK G) {Γ : Cx} {own : String} {cc : ByteArray} {nL fr lo mc ms cells slots pc : Nat} {hh : List (Nat × Nat × Nat × Nat)} {h : hw} {L : List (Nat × Value)} {rest : List Value} (hC : COK G Γ own cc nL fr lo mc ms hh) {idx : Nat} (hs : SV own idx yX3_lossBetween cX3_lossBetween 3 (some .int) 2) {p0 : Nat} {p1 : Int32} {p2 : Int32} (hR : 2 + 1 ≤ fr ∧ 8 + (3 + 11) + 51 ≤ lo) (hw8 : (rest.map fun v => v.category).sum ≤ 8) (hcs : cells + 0 ≤ mc ∧ slots + 0 ≤ ms) (hdg : decode cc pc = .ok (.invokevirtual idx, 3)) (ho : isO h p0 3) {post : Int32 → Prop} (hq : wp_X3_lossBetween G p0 p1 p2 h post) (kk : ∀ (r : Int32) , post r → V G Γ nL (cells + 0) (slots + 0) h (pc + 3) L (.int r :: rest)) : V G Γ nL cells slots h pc L (.int p2 :: .int p1 :: .ref p0 :: rest) :=
  V_callV (As := [.int p1, .int p2]) (r9 := (RX3, TX3, 3)) hC (ct_X3_lossBetween hG p0 p1 p2 h post hq) hs ho rfl rfl rfl hR hw8 hcs hdg (fun E h1 z => z.elim) (fun v h1 z => by obtain ⟨r, rfl, rfl, hz⟩ := z; exact kk r hz)
set_option maxRecDepth 100000 in
set_option maxHeartbeats 4000000 in
theorem ct_X0_levelOf {G : Gx} (hG : GOK G) (p0 : Nat) (p1 : Nat) (h0 : hw) (post : Int32 → Prop) (hq : wp_X0_levelOf G p0 p1 h0 post) : CT G yX0_levelOf cX0_levelOf 2 (some .int) 3 73 0 0 [.ref p0, .ref p1] h0 (fun v h1 => ∃ r : Int32, v = some (.int r) ∧ h1 = h0 ∧ post r) (fun E h1 => False) := by
  refine CT_of hG (by decide) (Nat.le_of_ble_eq_true rfl) (fun Γ hC hQ hN => ?_)
  have hC : COK G Γ "Bandplan$Air" cX0_levelOf 2 3 73 0 0 [] := hC
  unfold wp_X0_levelOf at hq
  show V G Γ 2 0 0 h0 0 [(0, .ref p0), (1, .ref p1)] []
  refine V_aload_n hC dX0_levelOf_0 1 rfl ?_
  refine U_getI hC fl_X0_29 dX0_levelOf_1 hq (fun v1 hq => ?_)
  refine V_aload_n hC dX0_levelOf_4 0 rfl ?_
  refine U_getR hC fl_X0_12 dX0_levelOf_5 hq (fun v2 hq => ?_)
  refine V_aload_n hC dX0_levelOf_8 1 rfl ?_
  refine U_getI hC fl_X0_34 dX0_levelOf_9 hq (fun v3 hq => ?_)
  refine V_aload_n hC dX0_levelOf_12 1 rfl ?_
  refine U_getI hC fl_X0_37 dX0_levelOf_13 hq (fun v4 hq => ?_)
  obtain ⟨hz, hq⟩ := hq
  refine clV_X3_lossBetween hG hC sv_X0_40 ⟨by decide, by decide⟩ (Nat.le_of_ble_eq_true rfl) ⟨by decide, by decide⟩ dX0_levelOf_16 hz hq (fun r5 hq => ?_)
  show V G Γ 2 0 0 h0 19 [(0, .ref p0), (1, .ref p1)] [.int r5, .int v1]
  refine V_isub hC dX0_levelOf_19 ?_
  exact V_iret hC hQ rfl rfl ⟨by decide, by decide⟩ dX0_levelOf_20 ⟨_, rfl, rfl, hq⟩
theorem clV_X0_levelOf {G : Gx} (hG : GOK G) {Γ : Cx} {own : String} {cc : ByteArray} {nL fr lo mc ms cells slots pc : Nat} {hh : List (Nat × Nat × Nat × Nat)} {h : hw} {L : List (Nat × Value)} {rest : List Value} (hC : COK G Γ own cc nL fr lo mc ms hh) {idx : Nat} (hs : SV own idx yX0_levelOf cX0_levelOf 2 (some .int) 1) {p0 : Nat} {p1 : Nat} (hR : 3 + 1 ≤ fr ∧ 8 + (2 + 11) + 73 ≤ lo) (hw8 : (rest.map fun v => v.category).sum ≤ 8) (hcs : cells + 0 ≤ mc ∧ slots + 0 ≤ ms) (hdg : decode cc pc = .ok (.invokevirtual idx, 3)) (ho : isO h p0 0) {post : Int32 → Prop} (hq : wp_X0_levelOf G p0 p1 h post) (kk : ∀ (r : Int32) , post r → V G Γ nL (cells + 0) (slots + 0) h (pc + 3) L (.int r :: rest)) : V G Γ nL cells slots h pc L (.ref p1 :: .ref p0 :: rest) :=
  V_callV (As := [.ref p1]) (r9 := (RX0, TX0, 3)) hC (ct_X0_levelOf hG p0 p1 h post hq) hs ho rfl rfl rfl hR hw8 hcs hdg (fun E h1 z => z.elim) (fun v h1 z => by obtain ⟨r, rfl, rfl, hz⟩ := z; exact kk r hz)
set_option maxRecDepth 100000 in
set_option maxHeartbeats 4000000 in
theorem ct_Jx4a65c_size_8abf5 {G : Gx} (hG : GOK G) (p0 : Nat) (h0 : hw) (post : Int32 → Prop) (hq : wp_Jx4a65c_size_8abf5 G p0 h0 post) : CT G yJx4a65c_size_8abf5 cJx4a65c_size_8abf5 1 (some .int) 1 30 0 0 [.ref p0] h0 (fun v h1 => ∃ r : Int32, v = some (.int r) ∧ h1 = h0 ∧ post r) (fun E h1 => False) := by
  refine CT_of hG (by decide) (Nat.le_of_ble_eq_true rfl) (fun Γ hC hQ hN => ?_)
  have hC : COK G Γ "java/util/ArrayList" cJx4a65c_size_8abf5 1 1 30 0 0 [] := hC
  unfold wp_Jx4a65c_size_8abf5 at hq
  show V G Γ 1 0 0 h0 0 [(0, .ref p0)] []
  refine V_aload_n hC dJx4a65c_size_8abf5_0 0 rfl ?_
  refine U_getI hC fl_Jx4a65c_48 dJx4a65c_size_8abf5_1 hq (fun v1 hq => ?_)
  exact V_iret hC hQ rfl rfl ⟨by decide, by decide⟩ dJx4a65c_size_8abf5_4 ⟨_, rfl, rfl, hq⟩
theorem clV_Jx4a65c_size_8abf5 {G : Gx} (hG : GOK G) {Γ : Cx} {own : String} {cc : ByteArray} {nL fr lo mc ms cells slots pc : Nat} {hh : List (Nat × Nat × Nat × Nat)} {h : hw} {L : List (Nat × Value)} {rest : List Value} (hC : COK G Γ own cc nL fr lo mc ms hh) {idx : Nat} (hs : SV own idx yJx4a65c_size_8abf5 cJx4a65c_size_8abf5 1 (some .int) 0) {p0 : Nat} (hR : 1 + 1 ≤ fr ∧ 8 + (1 + 11) + 30 ≤ lo) (hw8 : (rest.map fun v => v.category).sum ≤ 8) (hcs : cells + 0 ≤ mc ∧ slots + 0 ≤ ms) (hdg : decode cc pc = .ok (.invokevirtual idx, 3)) (ho : isO h p0 14) {post : Int32 → Prop} (hq : wp_Jx4a65c_size_8abf5 G p0 h post) (kk : ∀ (r : Int32) , post r → V G Γ nL (cells + 0) (slots + 0) h (pc + 3) L (.int r :: rest)) : V G Γ nL cells slots h pc L (.ref p0 :: rest) :=
  V_callV (As := []) (r9 := (RJx4a65c, TJx4a65c, 3)) hC (ct_Jx4a65c_size_8abf5 hG p0 h post hq) hs ho rfl rfl rfl hR hw8 hcs hdg (fun E h1 z => z.elim) (fun v h1 z => by obtain ⟨r, rfl, rfl, hz⟩ := z; exact kk r hz)
set_option maxRecDepth 100000 in
set_option maxHeartbeats 4000000 in
theorem ct_J3_checkIndex_8e157 {G : Gx} (hG : GOK G) (p0 : Int32) (p1 : Int32) (h0 : hw) (post : Int32 → Prop) (hq : wp_J3_checkIndex_8e157 G p0 p1 h0 post) : CT G yJ3_checkIndex_8e157 cJ3_checkIndex_8e157 3 (some .int) 1 30 0 0 [.int p0, .int p1, .null] h0 (fun v h1 => ∃ r : Int32, v = some (.int r) ∧ h1 = h0 ∧ post r) (fun E h1 => False) := by
  refine CT_of hG (by decide) (Nat.le_of_ble_eq_true rfl) (fun Γ hC hQ hN => ?_)
  have hC : COK G Γ "jdk/internal/util/Preconditions" cJ3_checkIndex_8e157 3 1 30 0 0 [] := hC
  unfold wp_J3_checkIndex_8e157 at hq
  show V G Γ 3 0 0 h0 0 [(0, .int p0), (1, .int p1), (2, .null)] []
  refine V_iload_n hC dJ3_checkIndex_8e157_0 0 rfl ?_
  have hq := hq (V G Γ 3 0 0 h0 9 [(0, .int p0), (1, .int p1), (2, .null)] []) (by
    intro hq
    show V G Γ 3 0 0 h0 9 [(0, .int p0), (1, .int p1), (2, .null)] []
    exact hq.elim)
  refine V_if_lt (tgt := 9) hC dJ3_checkIndex_8e157_1 (by decide) (fun hc => ?_) (fun hc => ?_)
  · have hq := hq.1 hc
    exact hq
  · have hq := hq.2 hc
    refine V_iload_n hC dJ3_checkIndex_8e157_4 0 rfl ?_
    refine V_iload_n hC dJ3_checkIndex_8e157_5 1 rfl ?_
    refine V_icmp_lt (tgt := 16) hC dJ3_checkIndex_8e157_6 (by decide) (fun hc => ?_) (fun hc => ?_)
    · have hq := hq.1 hc
      refine V_iload_n hC dJ3_checkIndex_8e157_16 0 rfl ?_
      exact V_iret hC hQ rfl rfl ⟨by decide, by decide⟩ dJ3_checkIndex_8e157_17 ⟨_, rfl, rfl, hq⟩
    · have hq := hq.2 hc
      exact hq
theorem clS_J3_checkIndex_8e157 {G : Gx} (hG : GOK G) {Γ : Cx} {own : String} {cc : ByteArray} {nL fr lo mc ms cells slots pc : Nat} {hh : List (Nat × Nat × Nat × Nat)} {h : hw} {L : List (Nat × Value)} {rest : List Value} (hC : COK G Γ own cc nL fr lo mc ms hh) {idx : Nat} (hs : SS own idx yJ3_checkIndex_8e157 cJ3_checkIndex_8e157 3 (some .int) 3) {p0 : Int32} {p1 : Int32} (hR : 1 + 1 ≤ fr ∧ 8 + (3 + 11) + 30 ≤ lo) (hw8 : (rest.map fun v => v.category).sum ≤ 8) (hcs : cells + 0 ≤ mc ∧ slots + 0 ≤ ms) (hdg : decode cc pc = .ok (.invokestatic idx, 3)) {post : Int32 → Prop} (hq : wp_J3_checkIndex_8e157 G p0 p1 h post) (kk : ∀ (r : Int32) , post r → V G Γ nL (cells + 0) (slots + 0) h (pc + 3) L (.int r :: rest)) : V G Γ nL cells slots h pc L (.null :: .int p1 :: .int p0 :: rest) :=
  V_callS (As := [.int p0, .int p1, .null]) hC (ct_J3_checkIndex_8e157 hG p0 p1 h post hq) hs rfl hR hw8 hcs hdg (fun E h1 z => z.elim) (fun v h1 z => by obtain ⟨r, rfl, rfl, hz⟩ := z; exact kk r hz)
set_option maxRecDepth 100000 in
set_option maxHeartbeats 4000000 in
theorem ct_J15_checkIndex_7cf53 {G : Gx} (hG : GOK G) (p0 : Int32) (p1 : Int32) (h0 : hw) (post : Int32 → Prop) (hq : wp_J15_checkIndex_7cf53 G p0 p1 h0 post) : CT G yJ15_checkIndex_7cf53 cJ15_checkIndex_7cf53 2 (some .int) 2 52 0 0 [.int p0, .int p1] h0 (fun v h1 => ∃ r : Int32, v = some (.int r) ∧ h1 = h0 ∧ post r) (fun E h1 => False) := by
  refine CT_of hG (by decide) (Nat.le_of_ble_eq_true rfl) (fun Γ hC hQ hN => ?_)
  have hC : COK G Γ "java/util/Objects" cJ15_checkIndex_7cf53 2 2 52 0 0 [] := hC
  unfold wp_J15_checkIndex_7cf53 at hq
  show V G Γ 2 0 0 h0 0 [(0, .int p0), (1, .int p1)] []
  refine V_iload_n hC dJ15_checkIndex_7cf53_0 0 rfl ?_
  refine V_iload_n hC dJ15_checkIndex_7cf53_1 1 rfl ?_
  refine V_null hC dJ15_checkIndex_7cf53_2 ?_
  refine clS_J3_checkIndex_8e157 hG hC ss_J15_105 ⟨by decide, by decide⟩ (Nat.le_of_ble_eq_true rfl) ⟨by decide, by decide⟩ dJ15_checkIndex_7cf53_3 hq (fun r1 hq => ?_)
  show V G Γ 2 0 0 h0 6 [(0, .int p0), (1, .int p1)] [.int r1]
  exact V_iret hC hQ rfl rfl ⟨by decide, by decide⟩ dJ15_checkIndex_7cf53_6 ⟨_, rfl, rfl, hq⟩
theorem clS_J15_checkIndex_7cf53 {G : Gx} (hG : GOK G) {Γ : Cx} {own : String} {cc : ByteArray} {nL fr lo mc ms cells slots pc : Nat} {hh : List (Nat × Nat × Nat × Nat)} {h : hw} {L : List (Nat × Value)} {rest : List Value} (hC : COK G Γ own cc nL fr lo mc ms hh) {idx : Nat} (hs : SS own idx yJ15_checkIndex_7cf53 cJ15_checkIndex_7cf53 2 (some .int) 2) {p0 : Int32} {p1 : Int32} (hR : 2 + 1 ≤ fr ∧ 8 + (2 + 11) + 52 ≤ lo) (hw8 : (rest.map fun v => v.category).sum ≤ 8) (hcs : cells + 0 ≤ mc ∧ slots + 0 ≤ ms) (hdg : decode cc pc = .ok (.invokestatic idx, 3)) {post : Int32 → Prop} (hq : wp_J15_checkIndex_7cf53 G p0 p1 h post) (kk : ∀ (r : Int32) , post r → V G Γ nL (cells + 0) (slots + 0) h (pc + 3) L (.int r :: rest)) : V G Γ nL cells slots h pc L (.int p1 :: .int p0 :: rest) :=
  V_callS (As := [.int p0, .int p1]) hC (ct_J15_checkIndex_7cf53 hG p0 p1 h post hq) hs rfl hR hw8 hcs hdg (fun E h1 z => z.elim) (fun v h1 z => by obtain ⟨r, rfl, rfl, hz⟩ := z; exact kk r hz)
set_option maxRecDepth 100000 in
set_option maxHeartbeats 4000000 in
theorem ct_Jx4a65c_elementData_915e3 {G : Gx} (hG : GOK G) (p0 : Nat) (p1 : Int32) (h0 : hw) (post : Nat → Prop) (hq : wp_Jx4a65c_elementData_915e3 G p0 p1 h0 post) : CT G yJx4a65c_elementData_915e3 cJx4a65c_elementData_915e3 2 (some (.object "java/lang/Object")) 1 30 0 0 [.ref p0, .int p1] h0 (fun v h1 => ∃ r : Nat, v = some (.ref r) ∧ h1 = h0 ∧ post r) (fun E h1 => False) := by
  refine CT_of hG (by decide) (Nat.le_of_ble_eq_true rfl) (fun Γ hC hQ hN => ?_)
  have hC : COK G Γ "java/util/ArrayList" cJx4a65c_elementData_915e3 2 1 30 0 0 [] := hC
  unfold wp_Jx4a65c_elementData_915e3 at hq
  show V G Γ 2 0 0 h0 0 [(0, .ref p0), (1, .int p1)] []
  refine V_aload_n hC dJx4a65c_elementData_915e3_0 0 rfl ?_
  refine U_getR hC fl_Jx4a65c_9 dJx4a65c_elementData_915e3_1 hq (fun v1 hq => ?_)
  refine V_iload_n hC dJx4a65c_elementData_915e3_4 1 rfl ?_
  refine U_ldA hC dJx4a65c_elementData_915e3_5 hq (fun v2 hq => ?_)
  exact V_aret hC hQ rfl (by first | exact Or.inl ⟨_, rfl⟩ | exact Or.inr ⟨_, rfl⟩) ⟨by decide, by decide⟩ dJx4a65c_elementData_915e3_6 ⟨_, rfl, rfl, hq⟩
theorem clV_Jx4a65c_elementData_915e3 {G : Gx} (hG : GOK G) {Γ : Cx} {own : String} {cc : ByteArray} {nL fr lo mc ms cells slots pc : Nat} {hh : List (Nat × Nat × Nat × Nat)} {h : hw} {L : List (Nat × Value)} {rest : List Value} (hC : COK G Γ own cc nL fr lo mc ms hh) {idx : Nat} (hs : SV own idx yJx4a65c_elementData_915e3 cJx4a65c_elementData_915e3 2 (some (.object "java/lang/Object")) 1) {p0 : Nat} {p1 : Int32} (hR : 1 + 1 ≤ fr ∧ 8 + (2 + 11) + 30 ≤ lo) (hw8 : (rest.map fun v => v.category).sum ≤ 8) (hcs : cells + 0 ≤ mc ∧ slots + 0 ≤ ms) (hdg : decode cc pc = .ok (.invokevirtual idx, 3)) (ho : isO h p0 14) {post : Nat → Prop} (hq : wp_Jx4a65c_elementData_915e3 G p0 p1 h post) (kk : ∀ (r : Nat) , post r → V G Γ nL (cells + 0) (slots + 0) h (pc + 3) L (.ref r :: rest)) : V G Γ nL cells slots h pc L (.int p1 :: .ref p0 :: rest) :=
  V_callV (As := [.int p1]) (r9 := (RJx4a65c, TJx4a65c, 3)) hC (ct_Jx4a65c_elementData_915e3 hG p0 p1 h post hq) hs ho rfl rfl rfl hR hw8 hcs hdg (fun E h1 z => z.elim) (fun v h1 z => by obtain ⟨r, rfl, rfl, hz⟩ := z; exact kk r hz)
set_option maxRecDepth 100000 in
set_option maxHeartbeats 4000000 in
theorem ct_Jx4a65c_get_915e3 {G : Gx} (hG : GOK G) (p0 : Nat) (p1 : Int32) (h0 : hw) (post : Nat → Prop) (hq : wp_Jx4a65c_get_915e3 G p0 p1 h0 post) : CT G yJx4a65c_get_915e3 cJx4a65c_get_915e3 2 (some (.object "java/lang/Object")) 3 73 0 0 [.ref p0, .int p1] h0 (fun v h1 => ∃ r : Nat, v = some (.ref r) ∧ h1 = h0 ∧ post r) (fun E h1 => False) := by
  refine CT_of hG (by decide) (Nat.le_of_ble_eq_true rfl) (fun Γ hC hQ hN => ?_)
  have hC : COK G Γ "java/util/ArrayList" cJx4a65c_get_915e3 2 3 73 0 0 [] := hC
  unfold wp_Jx4a65c_get_915e3 at hq
  show V G Γ 2 0 0 h0 0 [(0, .ref p0), (1, .int p1)] []
  refine V_iload_n hC dJx4a65c_get_915e3_0 1 rfl ?_
  refine V_aload_n hC dJx4a65c_get_915e3_1 0 rfl ?_
  refine U_getI hC fl_Jx4a65c_48 dJx4a65c_get_915e3_2 hq (fun v1 hq => ?_)
  refine clS_J15_checkIndex_7cf53 hG hC ss_Jx4a65c_118 ⟨by decide, by decide⟩ (Nat.le_of_ble_eq_true rfl) ⟨by decide, by decide⟩ dJx4a65c_get_915e3_5 hq (fun r2 hq => ?_)
  show V G Γ 2 0 0 h0 8 [(0, .ref p0), (1, .int p1)] [.int r2]
  refine V_pop hC dJx4a65c_get_915e3_8 rfl ?_
  refine V_aload_n hC dJx4a65c_get_915e3_9 0 rfl ?_
  refine V_iload_n hC dJx4a65c_get_915e3_10 1 rfl ?_
  obtain ⟨hz, hq⟩ := hq
  refine clV_Jx4a65c_elementData_915e3 hG hC sv_Jx4a65c_123 ⟨by decide, by decide⟩ (Nat.le_of_ble_eq_true rfl) ⟨by decide, by decide⟩ dJx4a65c_get_915e3_11 hz hq (fun r3 hq => ?_)
  show V G Γ 2 0 0 h0 14 [(0, .ref p0), (1, .int p1)] [.ref r3]
  exact V_aret hC hQ rfl (by first | exact Or.inl ⟨_, rfl⟩ | exact Or.inr ⟨_, rfl⟩) ⟨by decide, by decide⟩ dJx4a65c_get_915e3_14 ⟨_, rfl, rfl, hq⟩
theorem clV_Jx4a65c_get_915e3 {G : Gx} (hG : GOK G) {Γ : Cx} {own : String} {cc : ByteArray} {nL fr lo mc ms cells slots pc : Nat} {hh : List (Nat × Nat × Nat × Nat)} {h : hw} {L : List (Nat × Value)} {rest : List Value} (hC : COK G Γ own cc nL fr lo mc ms hh) {idx : Nat} (hs : SV own idx yJx4a65c_get_915e3 cJx4a65c_get_915e3 2 (some (.object "java/lang/Object")) 1) {p0 : Nat} {p1 : Int32} (hR : 3 + 1 ≤ fr ∧ 8 + (2 + 11) + 73 ≤ lo) (hw8 : (rest.map fun v => v.category).sum ≤ 8) (hcs : cells + 0 ≤ mc ∧ slots + 0 ≤ ms) (hdg : decode cc pc = .ok (.invokevirtual idx, 3)) (ho : isO h p0 14) {post : Nat → Prop} (hq : wp_Jx4a65c_get_915e3 G p0 p1 h post) (kk : ∀ (r : Nat) , post r → V G Γ nL (cells + 0) (slots + 0) h (pc + 3) L (.ref r :: rest)) : V G Γ nL cells slots h pc L (.int p1 :: .ref p0 :: rest) :=
  V_callV (As := [.int p1]) (r9 := (RJx4a65c, TJx4a65c, 3)) hC (ct_Jx4a65c_get_915e3 hG p0 p1 h post hq) hs ho rfl rfl rfl hR hw8 hcs hdg (fun E h1 z => z.elim) (fun v h1 z => by obtain ⟨r, rfl, rfl, hz⟩ := z; exact kk r hz)
set_option maxRecDepth 100000 in
set_option maxHeartbeats 4000000 in
theorem ct_X0_harmOf {G : Gx} (hG : GOK G) (p0 : Nat) (p1 : Nat) (p2 : Nat) (p3 : Int32) (h0 : hw) (post : Int32 → Prop) (hq : wp_X0_harmOf G p0 p1 p2 p3 h0 post) : CT G yX0_harmOf cX0_harmOf 5 (some .int) 3 73 0 0 [.ref p0, .ref p1, .ref p2, .int p3] h0 (fun v h1 => ∃ r : Int32, v = some (.int r) ∧ h1 = h0 ∧ post r) (fun E h1 => False) := by
  refine CT_of hG (by decide) (Nat.le_of_ble_eq_true rfl) (fun Γ hC hQ hN => ?_)
  have hC : COK G Γ "Bandplan$Air" cX0_harmOf 5 3 73 0 0 [] := hC
  unfold wp_X0_harmOf at hq
  show V G Γ 5 0 0 h0 0 [(0, .ref p0), (1, .ref p1), (2, .ref p2), (3, .int p3)] []
  refine V_iload_n hC dX0_harmOf_0 3 rfl ?_
  have hq := hq (fun (t1 : Int32) => V G Γ 5 0 0 h0 22 [(0, .ref p0), (1, .ref p1), (2, .ref p2)] [.int t1]) (by
    intro t1 hq
    show V G Γ 5 0 0 h0 22 [(0, .ref p0), (1, .ref p1), (2, .ref p2)] [.int t1]
    refine V_istore (L' := [(0, .ref p0), (1, .ref p1), (2, .ref p2), (4, .int t1)]) hC dX0_harmOf_22 (by decide) [1, 2, 3, 0] rfl ?_
    refine V_aload_n hC dX0_harmOf_24 1 rfl ?_
    refine U_getI hC fl_X0_29 dX0_harmOf_25 hq (fun v2 hq => ?_)
    refine V_aload_n hC dX0_harmOf_28 0 rfl ?_
    refine U_getR hC fl_X0_12 dX0_harmOf_29 hq (fun v3 hq => ?_)
    refine V_aload_n hC dX0_harmOf_32 1 rfl ?_
    refine U_getI hC fl_X0_34 dX0_harmOf_33 hq (fun v4 hq => ?_)
    refine V_aload_n hC dX0_harmOf_36 2 rfl ?_
    refine U_getI hC fl_X0_37 dX0_harmOf_37 hq (fun v5 hq => ?_)
    obtain ⟨hz, hq⟩ := hq
    refine clV_X3_lossBetween hG hC sv_X0_40 ⟨by decide, by decide⟩ (Nat.le_of_ble_eq_true rfl) ⟨by decide, by decide⟩ dX0_harmOf_40 hz hq (fun r6 hq => ?_)
    show V G Γ 5 0 0 h0 43 [(0, .ref p0), (1, .ref p1), (2, .ref p2), (4, .int t1)] [.int r6, .int v2]
    refine V_isub hC dX0_harmOf_43 ?_
    refine V_iload hC dX0_harmOf_44 3 rfl ?_
    refine V_isub hC dX0_harmOf_46 ?_
    exact V_iret hC hQ rfl rfl ⟨by decide, by decide⟩ dX0_harmOf_47 ⟨_, rfl, rfl, hq⟩)
  refine V_if_ne (tgt := 8) hC dX0_harmOf_1 (by decide) (fun hc => ?_) (fun hc => ?_)
  · have hq := hq.1 hc
    refine V_iload_n hC dX0_harmOf_8 3 rfl ?_
    refine V_iconst (v := 1) hC dX0_harmOf_9 (by decide) ?_
    refine V_icmp_ne (tgt := 19) hC dX0_harmOf_10 (by decide) (fun hc => ?_) (fun hc => ?_)
    · have hq := hq.1 hc
      refine V_sipush (v := 500) hC dX0_harmOf_19 (by decide) ?_
      refine V_sub [0, 1, 2] rfl ?_
      exact hq
    · have hq := hq.2 hc
      refine V_sipush (v := 300) hC dX0_harmOf_13 (by decide) ?_
      refine V_goto (tgt := 22) hC dX0_harmOf_16 (by decide) ?_
      refine V_sub [0, 1, 2] rfl ?_
      exact hq
  · have hq := hq.2 hc
    refine V_iconst (v := 0) hC dX0_harmOf_4 (by decide) ?_
    refine V_goto (tgt := 22) hC dX0_harmOf_5 (by decide) ?_
    refine V_sub [0, 1, 2] rfl ?_
    exact hq
theorem clV_X0_harmOf {G : Gx} (hG : GOK G) {Γ : Cx} {own : String} {cc : ByteArray} {nL fr lo mc ms cells slots pc : Nat} {hh : List (Nat × Nat × Nat × Nat)} {h : hw} {L : List (Nat × Value)} {rest : List Value} (hC : COK G Γ own cc nL fr lo mc ms hh) {idx : Nat} (hs : SV own idx yX0_harmOf cX0_harmOf 5 (some .int) 3) {p0 : Nat} {p1 : Nat} {p2 : Nat} {p3 : Int32} (hR : 3 + 1 ≤ fr ∧ 8 + (5 + 11) + 73 ≤ lo) (hw8 : (rest.map fun v => v.category).sum ≤ 8) (hcs : cells + 0 ≤ mc ∧ slots + 0 ≤ ms) (hdg : decode cc pc = .ok (.invokevirtual idx, 3)) (ho : isO h p0 0) {post : Int32 → Prop} (hq : wp_X0_harmOf G p0 p1 p2 p3 h post) (kk : ∀ (r : Int32) , post r → V G Γ nL (cells + 0) (slots + 0) h (pc + 3) L (.int r :: rest)) : V G Γ nL cells slots h pc L (.int p3 :: .ref p2 :: .ref p1 :: .ref p0 :: rest) :=
  V_callV (As := [.ref p1, .ref p2, .int p3]) (r9 := (RX0, TX0, 3)) hC (ct_X0_harmOf hG p0 p1 p2 p3 h post hq) hs ho rfl rfl rfl hR hw8 hcs hdg (fun E h1 z => z.elim) (fun v h1 z => by obtain ⟨r, rfl, rfl, hz⟩ := z; exact kk r hz)
set_option maxRecDepth 100000 in
set_option maxHeartbeats 4000000 in
theorem ct_X0_together {G : Gx} (hG : GOK G) (p0 : Int32) (p1 : Int32) (h0 : hw) (post : Int32 → Prop) (hq : wp_X0_together G p0 p1 h0 post) : CT G yX0_together cX0_together 3 (some .int) 2 60 0 0 [.int p0, .int p1] h0 (fun v h1 => ∃ r : Int32, v = some (.int r) ∧ h1 = h0 ∧ post r) (fun E h1 => False) := by
  refine CT_of hG (by decide) (Nat.le_of_ble_eq_true rfl) (fun Γ hC hQ hN => ?_)
  have hC : COK G Γ "Bandplan$Air" cX0_together 3 2 60 0 0 [] := hC
  unfold wp_X0_together at hq
  show V G Γ 3 0 0 h0 0 [(0, .int p0), (1, .int p1)] []
  refine V_bipush (v := 30) hC dX0_together_0 (by decide) ?_
  refine V_iload_n hC dX0_together_2 0 rfl ?_
  refine V_iload_n hC dX0_together_3 1 rfl ?_
  refine V_isub hC dX0_together_4 ?_
  refine V_abs hC sm_X0_62 (by decide) (Nat.le_of_ble_eq_true rfl) (by decide) (by decide) dX0_together_5 ?_
  refine V_iconst (v := 4) hC dX0_together_8 (by decide) ?_
  obtain ⟨hz, hq⟩ := hq
  refine V_idiv hC dX0_together_9 hz ?_
  refine V_isub hC dX0_together_10 ?_
  refine V_istore_n (L' := [(0, .int p0), (1, .int p1), (2, .int (30 - ((jabs (p0 - p1)) / 4)))]) hC dX0_together_11 rfl (by decide) [1, 2, 0] rfl ?_
  refine V_iload_n hC dX0_together_12 0 rfl ?_
  refine V_iload_n hC dX0_together_13 1 rfl ?_
  refine V_max hC sm_X0_109 (by decide) (Nat.le_of_ble_eq_true rfl) (by decide) (by decide) dX0_together_14 ?_
  refine V_iload_n hC dX0_together_17 2 rfl ?_
  refine V_iconst (v := 0) hC dX0_together_18 (by decide) ?_
  refine V_max hC sm_X0_109 (by decide) (Nat.le_of_ble_eq_true rfl) (by decide) (by decide) dX0_together_19 ?_
  refine V_iadd hC dX0_together_22 ?_
  exact V_iret hC hQ rfl rfl ⟨by decide, by decide⟩ dX0_together_23 ⟨_, rfl, rfl, hq⟩
theorem clS_X0_together {G : Gx} (hG : GOK G) {Γ : Cx} {own : String} {cc : ByteArray} {nL fr lo mc ms cells slots pc : Nat} {hh : List (Nat × Nat × Nat × Nat)} {h : hw} {L : List (Nat × Value)} {rest : List Value} (hC : COK G Γ own cc nL fr lo mc ms hh) {idx : Nat} (hs : SS own idx yX0_together cX0_together 3 (some .int) 2) {p0 : Int32} {p1 : Int32} (hR : 2 + 1 ≤ fr ∧ 8 + (3 + 11) + 60 ≤ lo) (hw8 : (rest.map fun v => v.category).sum ≤ 8) (hcs : cells + 0 ≤ mc ∧ slots + 0 ≤ ms) (hdg : decode cc pc = .ok (.invokestatic idx, 3)) {post : Int32 → Prop} (hq : wp_X0_together G p0 p1 h post) (kk : ∀ (r : Int32) , post r → V G Γ nL (cells + 0) (slots + 0) h (pc + 3) L (.int r :: rest)) : V G Γ nL cells slots h pc L (.int p1 :: .int p0 :: rest) :=
  V_callS (As := [.int p0, .int p1]) hC (ct_X0_together hG p0 p1 h post hq) hs rfl hR hw8 hcs hdg (fun E h1 z => z.elim) (fun v h1 z => by obtain ⟨r, rfl, rfl, hz⟩ := z; exact kk r hz)
set_option maxRecDepth 100000 in
set_option maxHeartbeats 4000000 in
theorem ct_X0_allHarm {G : Gx} (hG : GOK G) (p0 : Nat) (p1 : Nat) (p2 : Nat) (h0 : hw) (post : Int32 → Prop) (hq : wp_X0_allHarm G p0 p1 p2 h0 post) : CT G yX0_allHarm cX0_allHarm 8 (some .int) 4 97 0 0 [.ref p0, .ref p1, .ref p2] h0 (fun v h1 => ∃ r : Int32, v = some (.int r) ∧ h1 = h0 ∧ post r) (fun E h1 => False) := by
  refine CT_of hG (by decide) (Nat.le_of_ble_eq_true rfl) (fun Γ hC hQ hN => ?_)
  have hC : COK G Γ "Bandplan$Air" cX0_allHarm 8 4 97 0 0 [] := hC
  unfold wp_X0_allHarm at hq
  show V G Γ 8 0 0 h0 0 [(0, .ref p0), (1, .ref p1), (2, .ref p2)] []
  refine V_ldc (v := (-1000000)) hC aw_4_37 dX0_allHarm_0 ?_
  refine V_istore_n (L' := [(0, .ref p0), (1, .ref p1), (2, .ref p2), (3, .int (-1000000))]) hC dX0_allHarm_2 rfl (by decide) [1, 2, 3, 0] rfl ?_
  refine V_iconst (v := 0) hC dX0_allHarm_3 (by decide) ?_
  refine V_istore (L' := [(0, .ref p0), (1, .ref p1), (2, .ref p2), (3, .int (-1000000)), (4, .int 0)]) hC dX0_allHarm_4 (by decide) [1, 2, 3, 4, 0] rfl ?_
  have hq := hq (fun (x3_1 : Int32) (x4_2 : Int32) => V G Γ 8 0 0 h0 6 [(0, .ref p0), (1, .ref p1), (2, .ref p2), (3, .int x3_1), (4, .int x4_2)] []) (by
    intro x3_1 x4_2 hq
    show V G Γ 8 0 0 h0 6 [(0, .ref p0), (1, .ref p1), (2, .ref p2), (3, .int x3_1), (4, .int x4_2)] []
    refine V_iload hC dX0_allHarm_6 4 rfl ?_
    refine V_aload_n hC dX0_allHarm_8 0 rfl ?_
    refine U_getR hC fl_X0_21 dX0_allHarm_9 hq (fun v3 hq => ?_)
    obtain ⟨hz, hq⟩ := hq
    refine clV_Jx4a65c_size_8abf5 hG hC sv_X0_45 ⟨by decide, by decide⟩ (Nat.le_of_ble_eq_true rfl) ⟨by decide, by decide⟩ dX0_allHarm_12 hz hq (fun r4 hq => ?_)
    show V G Γ 8 0 0 h0 15 [(0, .ref p0), (1, .ref p1), (2, .ref p2), (3, .int x3_1), (4, .int x4_2)] [.int r4, .int x4_2]
    refine V_icmp_ge (tgt := 109) hC dX0_allHarm_15 (by decide) (fun hc => ?_) (fun hc => ?_)
    · have hq := hq.1 hc
      refine V_iload_n hC dX0_allHarm_109 3 rfl ?_
      exact V_iret hC hQ rfl rfl ⟨by decide, by decide⟩ dX0_allHarm_110 ⟨_, rfl, rfl, hq⟩
    · have hq := hq.2 hc
      refine V_aload_n hC dX0_allHarm_18 0 rfl ?_
      refine U_getR hC fl_X0_21 dX0_allHarm_19 hq (fun v5 hq => ?_)
      refine V_iload hC dX0_allHarm_22 4 rfl ?_
      obtain ⟨hz, hq⟩ := hq
      refine clV_Jx4a65c_get_915e3 hG hC sv_X0_49 ⟨by decide, by decide⟩ (Nat.le_of_ble_eq_true rfl) ⟨by decide, by decide⟩ dX0_allHarm_24 hz hq (fun r6 hq => ?_)
      show V G Γ 8 0 0 h0 27 [(0, .ref p0), (1, .ref p1), (2, .ref p2), (3, .int x3_1), (4, .int x4_2)] [.ref r6]
      obtain ⟨hz, hq⟩ := hq
      refine V_cast (r9 := (RX10, TX10, 6)) hC aw_4_27 rfl hz dX0_allHarm_27 ?_
      refine V_astore (L' := [(0, .ref p0), (1, .ref p1), (2, .ref p2), (3, .int x3_1), (4, .int x4_2), (5, .ref r6)]) hC dX0_allHarm_30 (by decide) [1, 2, 3, 4, 5, 0] rfl ?_
      refine V_aload_n hC dX0_allHarm_32 2 rfl ?_
      refine V_iload hC dX0_allHarm_33 4 rfl ?_
      obtain ⟨hz, hq⟩ := hq
      refine clV_X7_at hG hC sv_X0_53 ⟨by decide, by decide⟩ (Nat.le_of_ble_eq_true rfl) ⟨by decide, by decide⟩ dX0_allHarm_35 hz hq (fun r7 hq => ?_)
      show V G Γ 8 0 0 h0 38 [(0, .ref p0), (1, .ref p1), (2, .ref p2), (3, .int x3_1), (4, .int x4_2), (5, .ref r6)] [.int r7]
      refine V_aload_n hC dX0_allHarm_38 2 rfl ?_
      refine V_aload_n hC dX0_allHarm_39 1 rfl ?_
      refine U_getI hC fl_X0_59 dX0_allHarm_40 hq (fun v8 hq => ?_)
      obtain ⟨hz, hq⟩ := hq
      refine clV_X7_at hG hC sv_X0_53 ⟨by decide, by decide⟩ (Nat.le_of_ble_eq_true rfl) ⟨by decide, by decide⟩ dX0_allHarm_43 hz hq (fun r9 hq => ?_)
      show V G Γ 8 0 0 h0 46 [(0, .ref p0), (1, .ref p1), (2, .ref p2), (3, .int x3_1), (4, .int x4_2), (5, .ref r6)] [.int r9, .int r7]
      refine V_isub hC dX0_allHarm_46 ?_
      refine V_abs hC sm_X0_62 (by decide) (Nat.le_of_ble_eq_true rfl) (by decide) (by decide) dX0_allHarm_47 ?_
      refine V_istore (L' := [(0, .ref p0), (1, .ref p1), (2, .ref p2), (3, .int x3_1), (4, .int x4_2), (5, .ref r6), (6, .int (jabs (r7 - r9)))]) hC dX0_allHarm_50 (by decide) [1, 2, 3, 4, 5, 6, 0] rfl ?_
      refine V_aload hC dX0_allHarm_52 5 rfl ?_
      refine V_aload_n hC dX0_allHarm_54 1 rfl ?_
      have hq := hq (fun (x3_10 : Int32) => V G Γ 8 0 0 h0 103 [(0, .ref p0), (1, .ref p1), (2, .ref p2), (3, .int x3_10), (4, .int x4_2)] []) (by
        intro x3_10 hq
        show V G Γ 8 0 0 h0 103 [(0, .ref p0), (1, .ref p1), (2, .ref p2), (3, .int x3_10), (4, .int x4_2)] []
        refine V_iinc (j := 4) (v := (x4_2 + 1)) (L' := [(0, .ref p0), (1, .ref p1), (2, .ref p2), (3, .int x3_10), (4, .int (x4_2 + 1))]) hC dX0_allHarm_103 rfl rfl (by decide) [1, 2, 3, 4, 0] rfl ?_
        refine V_goto (tgt := 6) hC dX0_allHarm_106 (by decide) ?_
        exact hq)
      refine U_acmp_eq (tgt := 103) hC dX0_allHarm_55 (by decide) (fun hc => ?_) (fun hc => ?_)
      · have hq := hq.1 hc
        refine V_sub [0, 1, 2, 3, 4] rfl ?_
        exact hq
      · have hq := hq.2 hc
        refine V_aload_n hC dX0_allHarm_58 2 rfl ?_
        refine V_iload hC dX0_allHarm_59 4 rfl ?_
        obtain ⟨hz, hq⟩ := hq
        refine clV_X7_at hG hC sv_X0_53 ⟨by decide, by decide⟩ (Nat.le_of_ble_eq_true rfl) ⟨by decide, by decide⟩ dX0_allHarm_61 hz hq (fun r11 hq => ?_)
        show V G Γ 8 0 0 h0 64 [(0, .ref p0), (1, .ref p1), (2, .ref p2), (3, .int x3_1), (4, .int x4_2), (5, .ref r6), (6, .int (jabs (r7 - r9)))] [.int r11]
        refine V_iconst (v := (-1)) hC dX0_allHarm_64 (by decide) ?_
        refine V_icmp_eq (tgt := 103) hC dX0_allHarm_65 (by decide) (fun hc => ?_) (fun hc => ?_)
        · have hq := hq.1 hc
          refine V_sub [0, 1, 2, 3, 4] rfl ?_
          exact hq
        · have hq := hq.2 hc
          refine V_iload hC dX0_allHarm_68 6 rfl ?_
          refine V_iconst (v := 3) hC dX0_allHarm_70 (by decide) ?_
          refine V_icmp_ge (tgt := 103) hC dX0_allHarm_71 (by decide) (fun hc => ?_) (fun hc => ?_)
          · have hq := hq.1 hc
            refine V_sub [0, 1, 2, 3, 4] rfl ?_
            exact hq
          · have hq := hq.2 hc
            refine V_aload_n hC dX0_allHarm_74 0 rfl ?_
            refine V_aload hC dX0_allHarm_75 5 rfl ?_
            refine V_aload_n hC dX0_allHarm_77 1 rfl ?_
            refine V_iload hC dX0_allHarm_78 6 rfl ?_
            obtain ⟨hz, hq⟩ := hq
            refine clV_X0_harmOf hG hC sv_X0_67 ⟨by decide, by decide⟩ (Nat.le_of_ble_eq_true rfl) ⟨by decide, by decide⟩ dX0_allHarm_80 hz hq (fun r12 hq => ?_)
            show V G Γ 8 0 0 h0 83 [(0, .ref p0), (1, .ref p1), (2, .ref p2), (3, .int x3_1), (4, .int x4_2), (5, .ref r6), (6, .int (jabs (r7 - r9)))] [.int r12]
            refine V_istore (L' := [(0, .ref p0), (1, .ref p1), (2, .ref p2), (3, .int x3_1), (4, .int x4_2), (5, .ref r6), (6, .int (jabs (r7 - r9))), (7, .int r12)]) hC dX0_allHarm_83 (by decide) [1, 2, 3, 4, 5, 6, 7, 0] rfl ?_
            refine V_iload_n hC dX0_allHarm_85 3 rfl ?_
            refine V_ldc (v := (-1000000)) hC aw_4_37 dX0_allHarm_86 ?_
            have hq := hq (fun (t13 : Int32) => V G Γ 8 0 0 h0 102 [(0, .ref p0), (1, .ref p1), (2, .ref p2), (4, .int x4_2)] [.int t13]) (by
              intro t13 hq
              show V G Γ 8 0 0 h0 102 [(0, .ref p0), (1, .ref p1), (2, .ref p2), (4, .int x4_2)] [.int t13]
              refine V_istore_n (L' := [(0, .ref p0), (1, .ref p1), (2, .ref p2), (3, .int t13), (4, .int x4_2)]) hC dX0_allHarm_102 rfl (by decide) [1, 2, 3, 0, 4] rfl ?_
              exact hq)
            refine V_icmp_ne (tgt := 96) hC dX0_allHarm_88 (by decide) (fun hc => ?_) (fun hc => ?_)
            · have hq := hq.1 hc
              refine V_iload_n hC dX0_allHarm_96 3 rfl ?_
              refine V_iload hC dX0_allHarm_97 7 rfl ?_
              refine clS_X0_together hG hC ss_X0_71 ⟨by decide, by decide⟩ (Nat.le_of_ble_eq_true rfl) ⟨by decide, by decide⟩ dX0_allHarm_99 hq (fun r14 hq => ?_)
              show V G Γ 8 0 0 h0 102 [(0, .ref p0), (1, .ref p1), (2, .ref p2), (3, .int x3_1), (4, .int x4_2), (5, .ref r6), (6, .int (jabs (r7 - r9))), (7, .int r12)] [.int r14]
              refine V_sub [0, 1, 2, 4] rfl ?_
              exact hq
            · have hq := hq.2 hc
              refine V_iload hC dX0_allHarm_91 7 rfl ?_
              refine V_goto (tgt := 102) hC dX0_allHarm_93 (by decide) ?_
              refine V_sub [0, 1, 2, 4] rfl ?_
              exact hq)
  exact hq
theorem clV_X0_allHarm {G : Gx} (hG : GOK G) {Γ : Cx} {own : String} {cc : ByteArray} {nL fr lo mc ms cells slots pc : Nat} {hh : List (Nat × Nat × Nat × Nat)} {h : hw} {L : List (Nat × Value)} {rest : List Value} (hC : COK G Γ own cc nL fr lo mc ms hh) {idx : Nat} (hs : SV own idx yX0_allHarm cX0_allHarm 8 (some .int) 2) {p0 : Nat} {p1 : Nat} {p2 : Nat} (hR : 4 + 1 ≤ fr ∧ 8 + (8 + 11) + 97 ≤ lo) (hw8 : (rest.map fun v => v.category).sum ≤ 8) (hcs : cells + 0 ≤ mc ∧ slots + 0 ≤ ms) (hdg : decode cc pc = .ok (.invokevirtual idx, 3)) (ho : isO h p0 0) {post : Int32 → Prop} (hq : wp_X0_allHarm G p0 p1 p2 h post) (kk : ∀ (r : Int32) , post r → V G Γ nL (cells + 0) (slots + 0) h (pc + 3) L (.int r :: rest)) : V G Γ nL cells slots h pc L (.ref p2 :: .ref p1 :: .ref p0 :: rest) :=
  V_callV (As := [.ref p1, .ref p2]) (r9 := (RX0, TX0, 3)) hC (ct_X0_allHarm hG p0 p1 p2 h post hq) hs ho rfl rfl rfl hR hw8 hcs hdg (fun E h1 z => z.elim) (fun v h1 z => by obtain ⟨r, rfl, rfl, hz⟩ := z; exact kk r hz)
set_option maxRecDepth 100000 in
set_option maxHeartbeats 4000000 in
theorem ct_X0_keepsLevel {G : Gx} (hG : GOK G) (p0 : Nat) (p1 : Nat) (p2 : Nat) (h0 : hw) (post : Int32 → Prop) (hq : wp_X0_keepsLevel G p0 p1 p2 h0 post) : CT G yX0_keepsLevel cX0_keepsLevel 4 (some .boolean) 5 124 0 0 [.ref p0, .ref p1, .ref p2] h0 (fun v h1 => ∃ r : Int32, v = some (.int r) ∧ h1 = h0 ∧ post r) (fun E h1 => False) := by
  refine CT_of hG (by decide) (Nat.le_of_ble_eq_true rfl) (fun Γ hC hQ hN => ?_)
  have hC : COK G Γ "Bandplan$Air" cX0_keepsLevel 4 5 124 0 0 [] := hC
  unfold wp_X0_keepsLevel at hq
  show V G Γ 4 0 0 h0 0 [(0, .ref p0), (1, .ref p1), (2, .ref p2)] []
  refine V_aload_n hC dX0_keepsLevel_0 0 rfl ?_
  refine V_aload_n hC dX0_keepsLevel_1 1 rfl ?_
  refine V_aload_n hC dX0_keepsLevel_2 2 rfl ?_
  obtain ⟨hz, hq⟩ := hq
  refine clV_X0_allHarm hG hC sv_X0_74 ⟨by decide, by decide⟩ (Nat.le_of_ble_eq_true rfl) ⟨by decide, by decide⟩ dX0_keepsLevel_3 hz hq (fun r1 hq => ?_)
  show V G Γ 4 0 0 h0 6 [(0, .ref p0), (1, .ref p1), (2, .ref p2)] [.int r1]
  refine V_istore_n (L' := [(0, .ref p0), (1, .ref p1), (2, .ref p2), (3, .int r1)]) hC dX0_keepsLevel_6 rfl (by decide) [1, 2, 3, 0] rfl ?_
  refine V_iload_n hC dX0_keepsLevel_7 3 rfl ?_
  refine V_ldc (v := (-1000000)) hC aw_4_37 dX0_keepsLevel_8 ?_
  have hq := hq (V G Γ 4 0 0 h0 27 [] []) (by
    intro hq
    show V G Γ 4 0 0 h0 27 [] []
    refine V_iconst (v := 1) hC dX0_keepsLevel_27 (by decide) ?_
    refine V_goto (tgt := 32) hC dX0_keepsLevel_28 (by decide) ?_
    exact V_iret hC hQ rfl rfl ⟨by decide, by decide⟩ dX0_keepsLevel_32 ⟨_, rfl, rfl, hq⟩)
  refine V_icmp_eq (tgt := 27) hC dX0_keepsLevel_10 (by decide) (fun hc => ?_) (fun hc => ?_)
  · have hq := hq.1 hc
    refine V_sub [] rfl ?_
    exact hq
  · have hq := hq.2 hc
    refine V_aload_n hC dX0_keepsLevel_13 0 rfl ?_
    refine V_aload_n hC dX0_keepsLevel_14 1 rfl ?_
    obtain ⟨hz, hq⟩ := hq
    refine clV_X0_levelOf hG hC sv_X0_78 ⟨by decide, by decide⟩ (Nat.le_of_ble_eq_true rfl) ⟨by decide, by decide⟩ dX0_keepsLevel_15 hz hq (fun r2 hq => ?_)
    show V G Γ 4 0 0 h0 18 [(0, .ref p0), (1, .ref p1), (2, .ref p2), (3, .int r1)] [.int r2]
    refine V_iload_n hC dX0_keepsLevel_18 3 rfl ?_
    refine V_isub hC dX0_keepsLevel_19 ?_
    refine V_aload_n hC dX0_keepsLevel_20 0 rfl ?_
    refine U_getI hC fl_X0_25 dX0_keepsLevel_21 hq (fun v3 hq => ?_)
    refine V_icmp_lt (tgt := 31) hC dX0_keepsLevel_24 (by decide) (fun hc => ?_) (fun hc => ?_)
    · have hq := hq.1 hc
      refine V_iconst (v := 0) hC dX0_keepsLevel_31 (by decide) ?_
      exact V_iret hC hQ rfl rfl ⟨by decide, by decide⟩ dX0_keepsLevel_32 ⟨_, rfl, rfl, hq⟩
    · have hq := hq.2 hc
      refine V_sub [] rfl ?_
      exact hq
theorem clV_X0_keepsLevel {G : Gx} (hG : GOK G) {Γ : Cx} {own : String} {cc : ByteArray} {nL fr lo mc ms cells slots pc : Nat} {hh : List (Nat × Nat × Nat × Nat)} {h : hw} {L : List (Nat × Value)} {rest : List Value} (hC : COK G Γ own cc nL fr lo mc ms hh) {idx : Nat} (hs : SV own idx yX0_keepsLevel cX0_keepsLevel 4 (some .boolean) 2) {p0 : Nat} {p1 : Nat} {p2 : Nat} (hR : 5 + 1 ≤ fr ∧ 8 + (4 + 11) + 124 ≤ lo) (hw8 : (rest.map fun v => v.category).sum ≤ 8) (hcs : cells + 0 ≤ mc ∧ slots + 0 ≤ ms) (hdg : decode cc pc = .ok (.invokevirtual idx, 3)) (ho : isO h p0 0) {post : Int32 → Prop} (hq : wp_X0_keepsLevel G p0 p1 p2 h post) (kk : ∀ (r : Int32) , post r → V G Γ nL (cells + 0) (slots + 0) h (pc + 3) L (.int r :: rest)) : V G Γ nL cells slots h pc L (.ref p2 :: .ref p1 :: .ref p0 :: rest) :=
  V_callV (As := [.ref p1, .ref p2]) (r9 := (RX0, TX0, 3)) hC (ct_X0_keepsLevel hG p0 p1 p2 h post hq) hs ho rfl rfl rfl hR hw8 hcs hdg (fun E h1 z => z.elim) (fun v h1 z => by obtain ⟨r, rfl, rfl, hz⟩ := z; exact kk r hz)
set_option maxRecDepth 100000 in
set_option maxHeartbeats 4000000 in
theorem ct_X0_allKeep {G : Gx} (hG : GOK G) (p0 : Nat) (p1 : Nat) (h0 : hw) (post : Int32 → Prop) (hq : wp_X0_allKeep G p0 p1 h0 post) : CT G yX0_allKeep cX0_allKeep 4 (some .boolean) 6 147 0 0 [.ref p0, .ref p1] h0 (fun v h1 => ∃ r : Int32, v = some (.int r) ∧ h1 = h0 ∧ post r) (fun E h1 => False) := by
  refine CT_of hG (by decide) (Nat.le_of_ble_eq_true rfl) (fun Γ hC hQ hN => ?_)
  have hC : COK G Γ "Bandplan$Air" cX0_allKeep 4 6 147 0 0 [] := hC
  unfold wp_X0_allKeep at hq
  show V G Γ 4 0 0 h0 0 [(0, .ref p0), (1, .ref p1)] []
  refine V_iconst (v := 0) hC dX0_allKeep_0 (by decide) ?_
  refine V_istore_n (L' := [(0, .ref p0), (1, .ref p1), (2, .int 0)]) hC dX0_allKeep_1 rfl (by decide) [1, 2, 0] rfl ?_
  have hq := hq (fun (x2_1 : Int32) => V G Γ 4 0 0 h0 2 [(0, .ref p0), (1, .ref p1), (2, .int x2_1)] []) (by
    intro x2_1 hq
    show V G Γ 4 0 0 h0 2 [(0, .ref p0), (1, .ref p1), (2, .int x2_1)] []
    refine V_iload_n hC dX0_allKeep_2 2 rfl ?_
    refine V_aload_n hC dX0_allKeep_3 0 rfl ?_
    refine U_getR hC fl_X0_21 dX0_allKeep_4 hq (fun v2 hq => ?_)
    obtain ⟨hz, hq⟩ := hq
    refine clV_Jx4a65c_size_8abf5 hG hC sv_X0_45 ⟨by decide, by decide⟩ (Nat.le_of_ble_eq_true rfl) ⟨by decide, by decide⟩ dX0_allKeep_7 hz hq (fun r3 hq => ?_)
    show V G Γ 4 0 0 h0 10 [(0, .ref p0), (1, .ref p1), (2, .int x2_1)] [.int r3, .int x2_1]
    refine V_icmp_ge (tgt := 58) hC dX0_allKeep_10 (by decide) (fun hc => ?_) (fun hc => ?_)
    · have hq := hq.1 hc
      refine V_iconst (v := 1) hC dX0_allKeep_58 (by decide) ?_
      exact V_iret hC hQ rfl rfl ⟨by decide, by decide⟩ dX0_allKeep_59 ⟨_, rfl, rfl, hq⟩
    · have hq := hq.2 hc
      refine V_aload_n hC dX0_allKeep_13 0 rfl ?_
      refine U_getR hC fl_X0_21 dX0_allKeep_14 hq (fun v4 hq => ?_)
      refine V_iload_n hC dX0_allKeep_17 2 rfl ?_
      obtain ⟨hz, hq⟩ := hq
      refine clV_Jx4a65c_get_915e3 hG hC sv_X0_49 ⟨by decide, by decide⟩ (Nat.le_of_ble_eq_true rfl) ⟨by decide, by decide⟩ dX0_allKeep_18 hz hq (fun r5 hq => ?_)
      show V G Γ 4 0 0 h0 21 [(0, .ref p0), (1, .ref p1), (2, .int x2_1)] [.ref r5]
      obtain ⟨hz, hq⟩ := hq
      refine V_cast (r9 := (RX10, TX10, 6)) hC aw_4_27 rfl hz dX0_allKeep_21 ?_
      refine V_astore_n (L' := [(0, .ref p0), (1, .ref p1), (2, .int x2_1), (3, .ref r5)]) hC dX0_allKeep_24 rfl (by decide) [1, 2, 3, 0] rfl ?_
      refine V_aload_n hC dX0_allKeep_25 3 rfl ?_
      refine U_getI hC fl_X0_82 dX0_allKeep_26 hq (fun v6 hq => ?_)
      have hq := hq (V G Γ 4 0 0 h0 52 [(0, .ref p0), (1, .ref p1), (2, .int x2_1)] []) (by
        intro hq
        show V G Γ 4 0 0 h0 52 [(0, .ref p0), (1, .ref p1), (2, .int x2_1)] []
        refine V_iinc (j := 2) (v := (x2_1 + 1)) (L' := [(0, .ref p0), (1, .ref p1), (2, .int (x2_1 + 1))]) hC dX0_allKeep_52 rfl rfl (by decide) [1, 2, 0] rfl ?_
        refine V_goto (tgt := 2) hC dX0_allKeep_55 (by decide) ?_
        exact hq)
      refine V_if_eq (tgt := 52) hC dX0_allKeep_29 (by decide) (fun hc => ?_) (fun hc => ?_)
      · have hq := hq.1 hc
        refine V_sub [0, 1, 2] rfl ?_
        exact hq
      · have hq := hq.2 hc
        refine V_aload_n hC dX0_allKeep_32 1 rfl ?_
        refine V_iload_n hC dX0_allKeep_33 2 rfl ?_
        obtain ⟨hz, hq⟩ := hq
        refine clV_X7_at hG hC sv_X0_53 ⟨by decide, by decide⟩ (Nat.le_of_ble_eq_true rfl) ⟨by decide, by decide⟩ dX0_allKeep_34 hz hq (fun r7 hq => ?_)
        show V G Γ 4 0 0 h0 37 [(0, .ref p0), (1, .ref p1), (2, .int x2_1), (3, .ref r5)] [.int r7]
        refine V_iconst (v := (-1)) hC dX0_allKeep_37 (by decide) ?_
        refine V_icmp_eq (tgt := 52) hC dX0_allKeep_38 (by decide) (fun hc => ?_) (fun hc => ?_)
        · have hq := hq.1 hc
          refine V_sub [0, 1, 2] rfl ?_
          exact hq
        · have hq := hq.2 hc
          refine V_aload_n hC dX0_allKeep_41 0 rfl ?_
          refine V_aload_n hC dX0_allKeep_42 3 rfl ?_
          refine V_aload_n hC dX0_allKeep_43 1 rfl ?_
          obtain ⟨hz, hq⟩ := hq
          refine clV_X0_keepsLevel hG hC sv_X0_86 ⟨by decide, by decide⟩ (Nat.le_of_ble_eq_true rfl) ⟨by decide, by decide⟩ dX0_allKeep_44 hz hq (fun r8 hq => ?_)
          show V G Γ 4 0 0 h0 47 [(0, .ref p0), (1, .ref p1), (2, .int x2_1), (3, .ref r5)] [.int r8]
          refine V_if_ne (tgt := 52) hC dX0_allKeep_47 (by decide) (fun hc => ?_) (fun hc => ?_)
          · have hq := hq.1 hc
            refine V_sub [0, 1, 2] rfl ?_
            exact hq
          · have hq := hq.2 hc
            refine V_iconst (v := 0) hC dX0_allKeep_50 (by decide) ?_
            exact V_iret hC hQ rfl rfl ⟨by decide, by decide⟩ dX0_allKeep_51 ⟨_, rfl, rfl, hq⟩)
  exact hq
theorem clV_X0_allKeep {G : Gx} (hG : GOK G) {Γ : Cx} {own : String} {cc : ByteArray} {nL fr lo mc ms cells slots pc : Nat} {hh : List (Nat × Nat × Nat × Nat)} {h : hw} {L : List (Nat × Value)} {rest : List Value} (hC : COK G Γ own cc nL fr lo mc ms hh) {idx : Nat} (hs : SV own idx yX0_allKeep cX0_allKeep 4 (some .boolean) 1) {p0 : Nat} {p1 : Nat} (hR : 6 + 1 ≤ fr ∧ 8 + (4 + 11) + 147 ≤ lo) (hw8 : (rest.map fun v => v.category).sum ≤ 8) (hcs : cells + 0 ≤ mc ∧ slots + 0 ≤ ms) (hdg : decode cc pc = .ok (.invokevirtual idx, 3)) (ho : isO h p0 0) {post : Int32 → Prop} (hq : wp_X0_allKeep G p0 p1 h post) (kk : ∀ (r : Int32) , post r → V G Γ nL (cells + 0) (slots + 0) h (pc + 3) L (.int r :: rest)) : V G Γ nL cells slots h pc L (.ref p1 :: .ref p0 :: rest) :=
  V_callV (As := [.ref p1]) (r9 := (RX0, TX0, 3)) hC (ct_X0_allKeep hG p0 p1 h post hq) hs ho rfl rfl rfl hR hw8 hcs hdg (fun E h1 z => z.elim) (fun v h1 z => by obtain ⟨r, rfl, rfl, hz⟩ := z; exact kk r hz)
set_option maxRecDepth 100000 in
set_option maxHeartbeats 4000000 in
theorem ct_X0_suffers {G : Gx} (hG : GOK G) (p0 : Nat) (p1 : Nat) (p2 : Nat) (p3 : Int32) (h0 : hw) (post : Int32 → Prop) (hq : wp_X0_suffers G p0 p1 p2 p3 h0 post) : CT G yX0_suffers cX0_suffers 4 (some .boolean) 4 97 0 0 [.ref p0, .ref p1, .ref p2, .int p3] h0 (fun v h1 => ∃ r : Int32, v = some (.int r) ∧ h1 = h0 ∧ post r) (fun E h1 => False) := by
  refine CT_of hG (by decide) (Nat.le_of_ble_eq_true rfl) (fun Γ hC hQ hN => ?_)
  have hC : COK G Γ "Bandplan$Air" cX0_suffers 4 4 97 0 0 [] := hC
  unfold wp_X0_suffers at hq
  show V G Γ 4 0 0 h0 0 [(0, .ref p0), (1, .ref p1), (2, .ref p2), (3, .int p3)] []
  refine V_aload_n hC dX0_suffers_0 1 rfl ?_
  refine U_getI hC fl_X0_82 dX0_suffers_1 hq (fun v1 hq => ?_)
  have hq := hq (V G Γ 4 0 0 h0 36 [] []) (by
    intro hq
    show V G Γ 4 0 0 h0 36 [] []
    refine V_iconst (v := 0) hC dX0_suffers_36 (by decide) ?_
    exact V_iret hC hQ rfl rfl ⟨by decide, by decide⟩ dX0_suffers_37 ⟨_, rfl, rfl, hq⟩)
  refine V_if_eq (tgt := 36) hC dX0_suffers_4 (by decide) (fun hc => ?_) (fun hc => ?_)
  · have hq := hq.1 hc
    refine V_sub [] rfl ?_
    exact hq
  · have hq := hq.2 hc
    refine V_iload_n hC dX0_suffers_7 3 rfl ?_
    refine V_iconst (v := 3) hC dX0_suffers_8 (by decide) ?_
    refine V_icmp_ge (tgt := 36) hC dX0_suffers_9 (by decide) (fun hc => ?_) (fun hc => ?_)
    · have hq := hq.1 hc
      refine V_sub [] rfl ?_
      exact hq
    · have hq := hq.2 hc
      refine V_aload_n hC dX0_suffers_12 0 rfl ?_
      refine V_aload_n hC dX0_suffers_13 1 rfl ?_
      obtain ⟨hz, hq⟩ := hq
      refine clV_X0_levelOf hG hC sv_X0_78 ⟨by decide, by decide⟩ (Nat.le_of_ble_eq_true rfl) ⟨by decide, by decide⟩ dX0_suffers_14 hz hq (fun r2 hq => ?_)
      show V G Γ 4 0 0 h0 17 [(0, .ref p0), (1, .ref p1), (2, .ref p2), (3, .int p3)] [.int r2]
      refine V_aload_n hC dX0_suffers_17 0 rfl ?_
      refine V_aload_n hC dX0_suffers_18 2 rfl ?_
      refine V_aload_n hC dX0_suffers_19 1 rfl ?_
      refine V_iload_n hC dX0_suffers_20 3 rfl ?_
      obtain ⟨hz, hq⟩ := hq
      refine clV_X0_harmOf hG hC sv_X0_67 ⟨by decide, by decide⟩ (Nat.le_of_ble_eq_true rfl) ⟨by decide, by decide⟩ dX0_suffers_21 hz hq (fun r3 hq => ?_)
      show V G Γ 4 0 0 h0 24 [(0, .ref p0), (1, .ref p1), (2, .ref p2), (3, .int p3)] [.int r3, .int r2]
      refine V_isub hC dX0_suffers_24 ?_
      refine V_aload_n hC dX0_suffers_25 0 rfl ?_
      refine U_getI hC fl_X0_25 dX0_suffers_26 hq (fun v4 hq => ?_)
      refine V_icmp_ge (tgt := 36) hC dX0_suffers_29 (by decide) (fun hc => ?_) (fun hc => ?_)
      · have hq := hq.1 hc
        refine V_sub [] rfl ?_
        exact hq
      · have hq := hq.2 hc
        refine V_iconst (v := 1) hC dX0_suffers_32 (by decide) ?_
        refine V_goto (tgt := 37) hC dX0_suffers_33 (by decide) ?_
        exact V_iret hC hQ rfl rfl ⟨by decide, by decide⟩ dX0_suffers_37 ⟨_, rfl, rfl, hq⟩
theorem clV_X0_suffers {G : Gx} (hG : GOK G) {Γ : Cx} {own : String} {cc : ByteArray} {nL fr lo mc ms cells slots pc : Nat} {hh : List (Nat × Nat × Nat × Nat)} {h : hw} {L : List (Nat × Value)} {rest : List Value} (hC : COK G Γ own cc nL fr lo mc ms hh) {idx : Nat} (hs : SV own idx yX0_suffers cX0_suffers 4 (some .boolean) 3) {p0 : Nat} {p1 : Nat} {p2 : Nat} {p3 : Int32} (hR : 4 + 1 ≤ fr ∧ 8 + (4 + 11) + 97 ≤ lo) (hw8 : (rest.map fun v => v.category).sum ≤ 8) (hcs : cells + 0 ≤ mc ∧ slots + 0 ≤ ms) (hdg : decode cc pc = .ok (.invokevirtual idx, 3)) (ho : isO h p0 0) {post : Int32 → Prop} (hq : wp_X0_suffers G p0 p1 p2 p3 h post) (kk : ∀ (r : Int32) , post r → V G Γ nL (cells + 0) (slots + 0) h (pc + 3) L (.int r :: rest)) : V G Γ nL cells slots h pc L (.int p3 :: .ref p2 :: .ref p1 :: .ref p0 :: rest) :=
  V_callV (As := [.ref p1, .ref p2, .int p3]) (r9 := (RX0, TX0, 3)) hC (ct_X0_suffers hG p0 p1 p2 p3 h post hq) hs ho rfl rfl rfl hR hw8 hcs hdg (fun E h1 z => z.elim) (fun v h1 z => by obtain ⟨r, rfl, rfl, hz⟩ := z; exact kk r hz)
set_option maxRecDepth 100000 in
set_option maxHeartbeats 4000000 in
theorem ct_X0_barEachOther {G : Gx} (hG : GOK G) (p0 : Nat) (p1 : Nat) (p2 : Nat) (p3 : Int32) (h0 : hw) (post : Int32 → Prop) (hq : wp_X0_barEachOther G p0 p1 p2 p3 h0 post) : CT G yX0_barEachOther cX0_barEachOther 4 (some .boolean) 5 120 0 0 [.ref p0, .ref p1, .ref p2, .int p3] h0 (fun v h1 => ∃ r : Int32, v = some (.int r) ∧ h1 = h0 ∧ post r) (fun E h1 => False) := by
  refine CT_of hG (by decide) (Nat.le_of_ble_eq_true rfl) (fun Γ hC hQ hN => ?_)
  have hC : COK G Γ "Bandplan$Air" cX0_barEachOther 4 5 120 0 0 [] := hC
  unfold wp_X0_barEachOther at hq
  show V G Γ 4 0 0 h0 0 [(0, .ref p0), (1, .ref p1), (2, .ref p2), (3, .int p3)] []
  refine V_aload_n hC dX0_barEachOther_0 0 rfl ?_
  refine V_aload_n hC dX0_barEachOther_1 1 rfl ?_
  refine V_aload_n hC dX0_barEachOther_2 2 rfl ?_
  refine V_iload_n hC dX0_barEachOther_3 3 rfl ?_
  obtain ⟨hz, hq⟩ := hq
  refine clV_X0_suffers hG hC sv_X0_90 ⟨by decide, by decide⟩ (Nat.le_of_ble_eq_true rfl) ⟨by decide, by decide⟩ dX0_barEachOther_4 hz hq (fun r1 hq => ?_)
  show V G Γ 4 0 0 h0 7 [(0, .ref p0), (1, .ref p1), (2, .ref p2), (3, .int p3)] [.int r1]
  have hq := hq (V G Γ 4 0 0 h0 20 [] []) (by
    intro hq
    show V G Γ 4 0 0 h0 20 [] []
    refine V_iconst (v := 1) hC dX0_barEachOther_20 (by decide) ?_
    refine V_goto (tgt := 25) hC dX0_barEachOther_21 (by decide) ?_
    exact V_iret hC hQ rfl rfl ⟨by decide, by decide⟩ dX0_barEachOther_25 ⟨_, rfl, rfl, hq⟩)
  refine V_if_ne (tgt := 20) hC dX0_barEachOther_7 (by decide) (fun hc => ?_) (fun hc => ?_)
  · have hq := hq.1 hc
    refine V_sub [] rfl ?_
    exact hq
  · have hq := hq.2 hc
    refine V_aload_n hC dX0_barEachOther_10 0 rfl ?_
    refine V_aload_n hC dX0_barEachOther_11 2 rfl ?_
    refine V_aload_n hC dX0_barEachOther_12 1 rfl ?_
    refine V_iload_n hC dX0_barEachOther_13 3 rfl ?_
    obtain ⟨hz, hq⟩ := hq
    refine clV_X0_suffers hG hC sv_X0_90 ⟨by decide, by decide⟩ (Nat.le_of_ble_eq_true rfl) ⟨by decide, by decide⟩ dX0_barEachOther_14 hz hq (fun r2 hq => ?_)
    show V G Γ 4 0 0 h0 17 [(0, .ref p0), (1, .ref p1), (2, .ref p2), (3, .int p3)] [.int r2]
    refine V_if_eq (tgt := 24) hC dX0_barEachOther_17 (by decide) (fun hc => ?_) (fun hc => ?_)
    · have hq := hq.1 hc
      refine V_iconst (v := 0) hC dX0_barEachOther_24 (by decide) ?_
      exact V_iret hC hQ rfl rfl ⟨by decide, by decide⟩ dX0_barEachOther_25 ⟨_, rfl, rfl, hq⟩
    · have hq := hq.2 hc
      refine V_sub [] rfl ?_
      exact hq
theorem clV_X0_barEachOther {G : Gx} (hG : GOK G) {Γ : Cx} {own : String} {cc : ByteArray} {nL fr lo mc ms cells slots pc : Nat} {hh : List (Nat × Nat × Nat × Nat)} {h : hw} {L : List (Nat × Value)} {rest : List Value} (hC : COK G Γ own cc nL fr lo mc ms hh) {idx : Nat} (hs : SV own idx yX0_barEachOther cX0_barEachOther 4 (some .boolean) 3) {p0 : Nat} {p1 : Nat} {p2 : Nat} {p3 : Int32} (hR : 5 + 1 ≤ fr ∧ 8 + (4 + 11) + 120 ≤ lo) (hw8 : (rest.map fun v => v.category).sum ≤ 8) (hcs : cells + 0 ≤ mc ∧ slots + 0 ≤ ms) (hdg : decode cc pc = .ok (.invokevirtual idx, 3)) (ho : isO h p0 0) {post : Int32 → Prop} (hq : wp_X0_barEachOther G p0 p1 p2 p3 h post) (kk : ∀ (r : Int32) , post r → V G Γ nL (cells + 0) (slots + 0) h (pc + 3) L (.int r :: rest)) : V G Γ nL cells slots h pc L (.int p3 :: .ref p2 :: .ref p1 :: .ref p0 :: rest) :=
  V_callV (As := [.ref p1, .ref p2, .int p3]) (r9 := (RX0, TX0, 3)) hC (ct_X0_barEachOther hG p0 p1 p2 p3 h post hq) hs ho rfl rfl rfl hR hw8 hcs hdg (fun E h1 z => z.elim) (fun v h1 z => by obtain ⟨r, rfl, rfl, hz⟩ := z; exact kk r hz)
set_option maxRecDepth 100000 in
set_option maxHeartbeats 4000000 in
theorem ct_X0_isBeyond {G : Gx} (hG : GOK G) (p0 : Nat) (p1 : Int32) (h0 : hw) (post : Int32 → Prop) (hq : wp_X0_isBeyond G p0 p1 h0 post) : CT G yX0_isBeyond cX0_isBeyond 2 (some .boolean) 4 94 0 0 [.ref p0, .int p1] h0 (fun v h1 => ∃ r : Int32, v = some (.int r) ∧ h1 = h0 ∧ post r) (fun E h1 => False) := by
  refine CT_of hG (by decide) (Nat.le_of_ble_eq_true rfl) (fun Γ hC hQ hN => ?_)
  have hC : COK G Γ "Bandplan$Air" cX0_isBeyond 2 4 94 0 0 [] := hC
  unfold wp_X0_isBeyond at hq
  show V G Γ 2 0 0 h0 0 [(0, .ref p0), (1, .int p1)] []
  refine V_iload_n hC dX0_isBeyond_0 1 rfl ?_
  have hq := hq (V G Γ 2 0 0 h0 44 [] []) (by
    intro hq
    show V G Γ 2 0 0 h0 44 [] []
    refine V_iconst (v := 0) hC dX0_isBeyond_44 (by decide) ?_
    exact V_iret hC hQ rfl rfl ⟨by decide, by decide⟩ dX0_isBeyond_45 ⟨_, rfl, rfl, hq⟩)
  refine V_if_lt (tgt := 44) hC dX0_isBeyond_1 (by decide) (fun hc => ?_) (fun hc => ?_)
  · have hq := hq.1 hc
    refine V_sub [] rfl ?_
    exact hq
  · have hq := hq.2 hc
    refine V_iload_n hC dX0_isBeyond_4 1 rfl ?_
    refine V_aload_n hC dX0_isBeyond_5 0 rfl ?_
    refine U_getR hC fl_X0_12 dX0_isBeyond_6 hq (fun v1 hq => ?_)
    refine U_getR hC fl_X0_101 dX0_isBeyond_9 hq (fun v2 hq => ?_)
    obtain ⟨hz, hq⟩ := hq
    refine clV_Jx4a65c_size_8abf5 hG hC sv_X0_45 ⟨by decide, by decide⟩ (Nat.le_of_ble_eq_true rfl) ⟨by decide, by decide⟩ dX0_isBeyond_12 hz hq (fun r3 hq => ?_)
    show V G Γ 2 0 0 h0 15 [(0, .ref p0), (1, .int p1)] [.int r3, .int p1]
    refine V_icmp_ge (tgt := 44) hC dX0_isBeyond_15 (by decide) (fun hc => ?_) (fun hc => ?_)
    · have hq := hq.1 hc
      refine V_sub [] rfl ?_
      exact hq
    · have hq := hq.2 hc
      refine V_aload_n hC dX0_isBeyond_18 0 rfl ?_
      refine U_getR hC fl_X0_12 dX0_isBeyond_19 hq (fun v4 hq => ?_)
      refine U_getR hC fl_X0_101 dX0_isBeyond_22 hq (fun v5 hq => ?_)
      refine V_iload_n hC dX0_isBeyond_25 1 rfl ?_
      obtain ⟨hz, hq⟩ := hq
      refine clV_Jx4a65c_get_915e3 hG hC sv_X0_49 ⟨by decide, by decide⟩ (Nat.le_of_ble_eq_true rfl) ⟨by decide, by decide⟩ dX0_isBeyond_26 hz hq (fun r6 hq => ?_)
      show V G Γ 2 0 0 h0 29 [(0, .ref p0), (1, .int p1)] [.ref r6]
      obtain ⟨hz, hq⟩ := hq
      refine V_cast (r9 := (RX9, TX9, 3)) hC aw_3_221 rfl hz dX0_isBeyond_29 ?_
      refine U_getI hC fl_X0_106 dX0_isBeyond_32 hq (fun v7 hq => ?_)
      refine V_bipush (v := 15) hC dX0_isBeyond_35 (by decide) ?_
      refine V_icmp_lt (tgt := 44) hC dX0_isBeyond_37 (by decide) (fun hc => ?_) (fun hc => ?_)
      · have hq := hq.1 hc
        refine V_sub [] rfl ?_
        exact hq
      · have hq := hq.2 hc
        refine V_iconst (v := 1) hC dX0_isBeyond_40 (by decide) ?_
        refine V_goto (tgt := 45) hC dX0_isBeyond_41 (by decide) ?_
        exact V_iret hC hQ rfl rfl ⟨by decide, by decide⟩ dX0_isBeyond_45 ⟨_, rfl, rfl, hq⟩
theorem clV_X0_isBeyond {G : Gx} (hG : GOK G) {Γ : Cx} {own : String} {cc : ByteArray} {nL fr lo mc ms cells slots pc : Nat} {hh : List (Nat × Nat × Nat × Nat)} {h : hw} {L : List (Nat × Value)} {rest : List Value} (hC : COK G Γ own cc nL fr lo mc ms hh) {idx : Nat} (hs : SV own idx yX0_isBeyond cX0_isBeyond 2 (some .boolean) 1) {p0 : Nat} {p1 : Int32} (hR : 4 + 1 ≤ fr ∧ 8 + (2 + 11) + 94 ≤ lo) (hw8 : (rest.map fun v => v.category).sum ≤ 8) (hcs : cells + 0 ≤ mc ∧ slots + 0 ≤ ms) (hdg : decode cc pc = .ok (.invokevirtual idx, 3)) (ho : isO h p0 0) {post : Int32 → Prop} (hq : wp_X0_isBeyond G p0 p1 h post) (kk : ∀ (r : Int32) , post r → V G Γ nL (cells + 0) (slots + 0) h (pc + 3) L (.int r :: rest)) : V G Γ nL cells slots h pc L (.int p1 :: .ref p0 :: rest) :=
  V_callV (As := [.int p1]) (r9 := (RX0, TX0, 3)) hC (ct_X0_isBeyond hG p0 p1 h post hq) hs ho rfl rfl rfl hR hw8 hcs hdg (fun E h1 z => z.elim) (fun v h1 z => by obtain ⟨r, rfl, rfl, hz⟩ := z; exact kk r hz)
set_option maxRecDepth 100000 in
set_option maxHeartbeats 4000000 in
theorem ct_X0_isNearBorder {G : Gx} (hG : GOK G) (p0 : Nat) (p1 : Nat) (h0 : hw) (post : Int32 → Prop) (hq : wp_X0_isNearBorder G p0 p1 h0 post) : CT G yX0_isNearBorder cX0_isNearBorder 2 (some .boolean) 5 115 0 0 [.ref p0, .ref p1] h0 (fun v h1 => ∃ r : Int32, v = some (.int r) ∧ h1 = h0 ∧ post r) (fun E h1 => False) := by
  refine CT_of hG (by decide) (Nat.le_of_ble_eq_true rfl) (fun Γ hC hQ hN => ?_)
  have hC : COK G Γ "Bandplan$Air" cX0_isNearBorder 2 5 115 0 0 [] := hC
  unfold wp_X0_isNearBorder at hq
  show V G Γ 2 0 0 h0 0 [(0, .ref p0), (1, .ref p1)] []
  refine V_aload_n hC dX0_isNearBorder_0 0 rfl ?_
  refine V_aload_n hC dX0_isNearBorder_1 1 rfl ?_
  refine U_getI hC fl_X0_34 dX0_isNearBorder_2 hq (fun v1 hq => ?_)
  obtain ⟨hz, hq⟩ := hq
  refine clV_X0_isBeyond hG hC sv_X0_94 ⟨by decide, by decide⟩ (Nat.le_of_ble_eq_true rfl) ⟨by decide, by decide⟩ dX0_isNearBorder_5 hz hq (fun r2 hq => ?_)
  show V G Γ 2 0 0 h0 8 [(0, .ref p0), (1, .ref p1)] [.int r2]
  have hq := hq (V G Γ 2 0 0 h0 22 [] []) (by
    intro hq
    show V G Γ 2 0 0 h0 22 [] []
    refine V_iconst (v := 1) hC dX0_isNearBorder_22 (by decide) ?_
    refine V_goto (tgt := 27) hC dX0_isNearBorder_23 (by decide) ?_
    exact V_iret hC hQ rfl rfl ⟨by decide, by decide⟩ dX0_isNearBorder_27 ⟨_, rfl, rfl, hq⟩)
  refine V_if_ne (tgt := 22) hC dX0_isNearBorder_8 (by decide) (fun hc => ?_) (fun hc => ?_)
  · have hq := hq.1 hc
    refine V_sub [] rfl ?_
    exact hq
  · have hq := hq.2 hc
    refine V_aload_n hC dX0_isNearBorder_11 0 rfl ?_
    refine V_aload_n hC dX0_isNearBorder_12 1 rfl ?_
    refine U_getI hC fl_X0_37 dX0_isNearBorder_13 hq (fun v3 hq => ?_)
    obtain ⟨hz, hq⟩ := hq
    refine clV_X0_isBeyond hG hC sv_X0_94 ⟨by decide, by decide⟩ (Nat.le_of_ble_eq_true rfl) ⟨by decide, by decide⟩ dX0_isNearBorder_16 hz hq (fun r4 hq => ?_)
    show V G Γ 2 0 0 h0 19 [(0, .ref p0), (1, .ref p1)] [.int r4]
    refine V_if_eq (tgt := 26) hC dX0_isNearBorder_19 (by decide) (fun hc => ?_) (fun hc => ?_)
    · have hq := hq.1 hc
      refine V_iconst (v := 0) hC dX0_isNearBorder_26 (by decide) ?_
      exact V_iret hC hQ rfl rfl ⟨by decide, by decide⟩ dX0_isNearBorder_27 ⟨_, rfl, rfl, hq⟩
    · have hq := hq.2 hc
      refine V_sub [] rfl ?_
      exact hq
theorem clV_X0_isNearBorder {G : Gx} (hG : GOK G) {Γ : Cx} {own : String} {cc : ByteArray} {nL fr lo mc ms cells slots pc : Nat} {hh : List (Nat × Nat × Nat × Nat)} {h : hw} {L : List (Nat × Value)} {rest : List Value} (hC : COK G Γ own cc nL fr lo mc ms hh) {idx : Nat} (hs : SV own idx yX0_isNearBorder cX0_isNearBorder 2 (some .boolean) 1) {p0 : Nat} {p1 : Nat} (hR : 5 + 1 ≤ fr ∧ 8 + (2 + 11) + 115 ≤ lo) (hw8 : (rest.map fun v => v.category).sum ≤ 8) (hcs : cells + 0 ≤ mc ∧ slots + 0 ≤ ms) (hdg : decode cc pc = .ok (.invokevirtual idx, 3)) (ho : isO h p0 0) {post : Int32 → Prop} (hq : wp_X0_isNearBorder G p0 p1 h post) (kk : ∀ (r : Int32) , post r → V G Γ nL (cells + 0) (slots + 0) h (pc + 3) L (.int r :: rest)) : V G Γ nL cells slots h pc L (.ref p1 :: .ref p0 :: rest) :=
  V_callV (As := [.ref p1]) (r9 := (RX0, TX0, 3)) hC (ct_X0_isNearBorder hG p0 p1 h post hq) hs ho rfl rfl rfl hR hw8 hcs hdg (fun E h1 z => z.elim) (fun v h1 z => by obtain ⟨r, rfl, rfl, hz⟩ := z; exact kk r hz)
set_option maxRecDepth 100000 in
set_option maxHeartbeats 4000000 in
theorem ct_X0_protectedOnes {G : Gx} (hG : GOK G) (p0 : Nat) (h0 : hw) (post : Int32 → Prop) (hq : wp_X0_protectedOnes G p0 h0 post) : CT G yX0_protectedOnes cX0_protectedOnes 3 (some .int) 4 94 0 0 [.ref p0] h0 (fun v h1 => ∃ r : Int32, v = some (.int r) ∧ h1 = h0 ∧ post r) (fun E h1 => False) := by
  refine CT_of hG (by decide) (Nat.le_of_ble_eq_true rfl) (fun Γ hC hQ hN => ?_)
  have hC : COK G Γ "Bandplan$Air" cX0_protectedOnes 3 4 94 0 0 [] := hC
  unfold wp_X0_protectedOnes at hq
  show V G Γ 3 0 0 h0 0 [(0, .ref p0)] []
  refine V_iconst (v := 0) hC dX0_protectedOnes_0 (by decide) ?_
  refine V_istore_n (L' := [(0, .ref p0), (1, .int 0)]) hC dX0_protectedOnes_1 rfl (by decide) [1, 0] rfl ?_
  refine V_iconst (v := 0) hC dX0_protectedOnes_2 (by decide) ?_
  refine V_istore_n (L' := [(0, .ref p0), (1, .int 0), (2, .int 0)]) hC dX0_protectedOnes_3 rfl (by decide) [1, 2, 0] rfl ?_
  have hq := hq (fun (x1_1 : Int32) (x2_2 : Int32) => V G Γ 3 0 0 h0 4 [(0, .ref p0), (1, .int x1_1), (2, .int x2_2)] []) (by
    intro x1_1 x2_2 hq
    show V G Γ 3 0 0 h0 4 [(0, .ref p0), (1, .int x1_1), (2, .int x2_2)] []
    refine V_iload_n hC dX0_protectedOnes_4 2 rfl ?_
    refine V_aload_n hC dX0_protectedOnes_5 0 rfl ?_
    refine U_getR hC fl_X0_21 dX0_protectedOnes_6 hq (fun v3 hq => ?_)
    obtain ⟨hz, hq⟩ := hq
    refine clV_Jx4a65c_size_8abf5 hG hC sv_X0_45 ⟨by decide, by decide⟩ (Nat.le_of_ble_eq_true rfl) ⟨by decide, by decide⟩ dX0_protectedOnes_9 hz hq (fun r4 hq => ?_)
    show V G Γ 3 0 0 h0 12 [(0, .ref p0), (1, .int x1_1), (2, .int x2_2)] [.int r4, .int x2_2]
    refine V_icmp_ge (tgt := 44) hC dX0_protectedOnes_12 (by decide) (fun hc => ?_) (fun hc => ?_)
    · have hq := hq.1 hc
      refine V_iload_n hC dX0_protectedOnes_44 1 rfl ?_
      exact V_iret hC hQ rfl rfl ⟨by decide, by decide⟩ dX0_protectedOnes_45 ⟨_, rfl, rfl, hq⟩
    · have hq := hq.2 hc
      refine V_aload_n hC dX0_protectedOnes_15 0 rfl ?_
      refine U_getR hC fl_X0_21 dX0_protectedOnes_16 hq (fun v5 hq => ?_)
      refine V_iload_n hC dX0_protectedOnes_19 2 rfl ?_
      obtain ⟨hz, hq⟩ := hq
      refine clV_Jx4a65c_get_915e3 hG hC sv_X0_49 ⟨by decide, by decide⟩ (Nat.le_of_ble_eq_true rfl) ⟨by decide, by decide⟩ dX0_protectedOnes_20 hz hq (fun r6 hq => ?_)
      show V G Γ 3 0 0 h0 23 [(0, .ref p0), (1, .int x1_1), (2, .int x2_2)] [.ref r6]
      obtain ⟨hz, hq⟩ := hq
      refine V_cast (r9 := (RX10, TX10, 6)) hC aw_4_27 rfl hz dX0_protectedOnes_23 ?_
      refine U_getI hC fl_X0_82 dX0_protectedOnes_26 hq (fun v7 hq => ?_)
      have hq := hq (fun (x1_8 : Int32) => V G Γ 3 0 0 h0 38 [(0, .ref p0), (1, .int x1_8), (2, .int x2_2)] []) (by
        intro x1_8 hq
        show V G Γ 3 0 0 h0 38 [(0, .ref p0), (1, .int x1_8), (2, .int x2_2)] []
        refine V_iinc (j := 2) (v := (x2_2 + 1)) (L' := [(0, .ref p0), (1, .int x1_8), (2, .int (x2_2 + 1))]) hC dX0_protectedOnes_38 rfl rfl (by decide) [1, 2, 0] rfl ?_
        refine V_goto (tgt := 4) hC dX0_protectedOnes_41 (by decide) ?_
        exact hq)
      refine V_if_eq (tgt := 38) hC dX0_protectedOnes_29 (by decide) (fun hc => ?_) (fun hc => ?_)
      · have hq := hq.1 hc
        exact hq
      · have hq := hq.2 hc
        refine V_iload_n hC dX0_protectedOnes_32 1 rfl ?_
        refine V_iconst (v := 1) hC dX0_protectedOnes_33 (by decide) ?_
        refine V_iload_n hC dX0_protectedOnes_34 2 rfl ?_
        refine V_ishl hC dX0_protectedOnes_35 ?_
        refine V_ior hC dX0_protectedOnes_36 ?_
        refine V_istore_n (L' := [(0, .ref p0), (1, .int (x1_1 ||| ((1 : Int32) <<< (x2_2 &&& 31)))), (2, .int x2_2)]) hC dX0_protectedOnes_37 rfl (by decide) [1, 0, 2] rfl ?_
        exact hq)
  exact hq
theorem clV_X0_protectedOnes {G : Gx} (hG : GOK G) {Γ : Cx} {own : String} {cc : ByteArray} {nL fr lo mc ms cells slots pc : Nat} {hh : List (Nat × Nat × Nat × Nat)} {h : hw} {L : List (Nat × Value)} {rest : List Value} (hC : COK G Γ own cc nL fr lo mc ms hh) {idx : Nat} (hs : SV own idx yX0_protectedOnes cX0_protectedOnes 3 (some .int) 0) {p0 : Nat} (hR : 4 + 1 ≤ fr ∧ 8 + (3 + 11) + 94 ≤ lo) (hw8 : (rest.map fun v => v.category).sum ≤ 8) (hcs : cells + 0 ≤ mc ∧ slots + 0 ≤ ms) (hdg : decode cc pc = .ok (.invokevirtual idx, 3)) (ho : isO h p0 0) {post : Int32 → Prop} (hq : wp_X0_protectedOnes G p0 h post) (kk : ∀ (r : Int32) , post r → V G Γ nL (cells + 0) (slots + 0) h (pc + 3) L (.int r :: rest)) : V G Γ nL cells slots h pc L (.ref p0 :: rest) :=
  V_callV (As := []) (r9 := (RX0, TX0, 3)) hC (ct_X0_protectedOnes hG p0 h post hq) hs ho rfl rfl rfl hR hw8 hcs hdg (fun E h1 z => z.elim) (fun v h1 z => by obtain ⟨r, rfl, rfl, hz⟩ := z; exact kk r hz)
set_option maxRecDepth 100000 in
set_option maxHeartbeats 4000000 in
theorem ct_X0_askingMoreThan {G : Gx} (hG : GOK G) (p0 : Nat) (p1 : Int32) (h0 : hw) (post : Int32 → Prop) (hq : wp_X0_askingMoreThan G p0 p1 h0 post) : CT G yX0_askingMoreThan cX0_askingMoreThan 4 (some .int) 4 94 0 0 [.ref p0, .int p1] h0 (fun v h1 => ∃ r : Int32, v = some (.int r) ∧ h1 = h0 ∧ post r) (fun E h1 => False) := by
  refine CT_of hG (by decide) (Nat.le_of_ble_eq_true rfl) (fun Γ hC hQ hN => ?_)
  have hC : COK G Γ "Bandplan$Air" cX0_askingMoreThan 4 4 94 0 0 [] := hC
  unfold wp_X0_askingMoreThan at hq
  show V G Γ 4 0 0 h0 0 [(0, .ref p0), (1, .int p1)] []
  refine V_iconst (v := 0) hC dX0_askingMoreThan_0 (by decide) ?_
  refine V_istore_n (L' := [(0, .ref p0), (1, .int p1), (2, .int 0)]) hC dX0_askingMoreThan_1 rfl (by decide) [1, 2, 0] rfl ?_
  refine V_iconst (v := 0) hC dX0_askingMoreThan_2 (by decide) ?_
  refine V_istore_n (L' := [(0, .ref p0), (1, .int p1), (2, .int 0), (3, .int 0)]) hC dX0_askingMoreThan_3 rfl (by decide) [1, 2, 3, 0] rfl ?_
  have hq := hq (fun (x2_1 : Int32) (x3_2 : Int32) => V G Γ 4 0 0 h0 4 [(0, .ref p0), (1, .int p1), (2, .int x2_1), (3, .int x3_2)] []) (by
    intro x2_1 x3_2 hq
    show V G Γ 4 0 0 h0 4 [(0, .ref p0), (1, .int p1), (2, .int x2_1), (3, .int x3_2)] []
    refine V_iload_n hC dX0_askingMoreThan_4 3 rfl ?_
    refine V_aload_n hC dX0_askingMoreThan_5 0 rfl ?_
    refine U_getR hC fl_X0_21 dX0_askingMoreThan_6 hq (fun v3 hq => ?_)
    obtain ⟨hz, hq⟩ := hq
    refine clV_Jx4a65c_size_8abf5 hG hC sv_X0_45 ⟨by decide, by decide⟩ (Nat.le_of_ble_eq_true rfl) ⟨by decide, by decide⟩ dX0_askingMoreThan_9 hz hq (fun r4 hq => ?_)
    show V G Γ 4 0 0 h0 12 [(0, .ref p0), (1, .int p1), (2, .int x2_1), (3, .int x3_2)] [.int r4, .int x3_2]
    refine V_icmp_ge (tgt := 45) hC dX0_askingMoreThan_12 (by decide) (fun hc => ?_) (fun hc => ?_)
    · have hq := hq.1 hc
      refine V_iload_n hC dX0_askingMoreThan_45 2 rfl ?_
      exact V_iret hC hQ rfl rfl ⟨by decide, by decide⟩ dX0_askingMoreThan_46 ⟨_, rfl, rfl, hq⟩
    · have hq := hq.2 hc
      refine V_aload_n hC dX0_askingMoreThan_15 0 rfl ?_
      refine U_getR hC fl_X0_21 dX0_askingMoreThan_16 hq (fun v5 hq => ?_)
      refine V_iload_n hC dX0_askingMoreThan_19 3 rfl ?_
      obtain ⟨hz, hq⟩ := hq
      refine clV_Jx4a65c_get_915e3 hG hC sv_X0_49 ⟨by decide, by decide⟩ (Nat.le_of_ble_eq_true rfl) ⟨by decide, by decide⟩ dX0_askingMoreThan_20 hz hq (fun r6 hq => ?_)
      show V G Γ 4 0 0 h0 23 [(0, .ref p0), (1, .int p1), (2, .int x2_1), (3, .int x3_2)] [.ref r6]
      obtain ⟨hz, hq⟩ := hq
      refine V_cast (r9 := (RX10, TX10, 6)) hC aw_4_27 rfl hz dX0_askingMoreThan_23 ?_
      refine U_getI hC fl_X0_98 dX0_askingMoreThan_26 hq (fun v7 hq => ?_)
      refine V_iload_n hC dX0_askingMoreThan_29 1 rfl ?_
      have hq := hq (fun (x2_8 : Int32) => V G Γ 4 0 0 h0 39 [(0, .ref p0), (1, .int p1), (2, .int x2_8), (3, .int x3_2)] []) (by
        intro x2_8 hq
        show V G Γ 4 0 0 h0 39 [(0, .ref p0), (1, .int p1), (2, .int x2_8), (3, .int x3_2)] []
        refine V_iinc (j := 3) (v := (x3_2 + 1)) (L' := [(0, .ref p0), (1, .int p1), (2, .int x2_8), (3, .int (x3_2 + 1))]) hC dX0_askingMoreThan_39 rfl rfl (by decide) [1, 2, 3, 0] rfl ?_
        refine V_goto (tgt := 4) hC dX0_askingMoreThan_42 (by decide) ?_
        exact hq)
      refine V_icmp_le (tgt := 39) hC dX0_askingMoreThan_30 (by decide) (fun hc => ?_) (fun hc => ?_)
      · have hq := hq.1 hc
        exact hq
      · have hq := hq.2 hc
        refine V_iload_n hC dX0_askingMoreThan_33 2 rfl ?_
        refine V_iconst (v := 1) hC dX0_askingMoreThan_34 (by decide) ?_
        refine V_iload_n hC dX0_askingMoreThan_35 3 rfl ?_
        refine V_ishl hC dX0_askingMoreThan_36 ?_
        refine V_ior hC dX0_askingMoreThan_37 ?_
        refine V_istore_n (L' := [(0, .ref p0), (1, .int p1), (2, .int (x2_1 ||| ((1 : Int32) <<< (x3_2 &&& 31)))), (3, .int x3_2)]) hC dX0_askingMoreThan_38 rfl (by decide) [1, 2, 0, 3] rfl ?_
        exact hq)
  exact hq
theorem clV_X0_askingMoreThan {G : Gx} (hG : GOK G) {Γ : Cx} {own : String} {cc : ByteArray} {nL fr lo mc ms cells slots pc : Nat} {hh : List (Nat × Nat × Nat × Nat)} {h : hw} {L : List (Nat × Value)} {rest : List Value} (hC : COK G Γ own cc nL fr lo mc ms hh) {idx : Nat} (hs : SV own idx yX0_askingMoreThan cX0_askingMoreThan 4 (some .int) 1) {p0 : Nat} {p1 : Int32} (hR : 4 + 1 ≤ fr ∧ 8 + (4 + 11) + 94 ≤ lo) (hw8 : (rest.map fun v => v.category).sum ≤ 8) (hcs : cells + 0 ≤ mc ∧ slots + 0 ≤ ms) (hdg : decode cc pc = .ok (.invokevirtual idx, 3)) (ho : isO h p0 0) {post : Int32 → Prop} (hq : wp_X0_askingMoreThan G p0 p1 h post) (kk : ∀ (r : Int32) , post r → V G Γ nL (cells + 0) (slots + 0) h (pc + 3) L (.int r :: rest)) : V G Γ nL cells slots h pc L (.int p1 :: .ref p0 :: rest) :=
  V_callV (As := [.int p1]) (r9 := (RX0, TX0, 3)) hC (ct_X0_askingMoreThan hG p0 p1 h post hq) hs ho rfl rfl rfl hR hw8 hcs hdg (fun E h1 z => z.elim) (fun v h1 z => by obtain ⟨r, rfl, rfl, hz⟩ := z; exact kk r hz)
set_option maxRecDepth 100000 in
set_option maxHeartbeats 4000000 in
theorem ct_X1_init {G : Gx} (hG : GOK G) (p0 : Nat) (h0 : hw) (post : hw → Prop) (hq : wp_X1_init G p0 h0 post) : CT G yX1_init cX1_init 1 none 3 83 6 139 [.ref p0] h0 (fun v h1 => v = none ∧ post h1) (fun E h1 => False) := by
  refine CT_of hG (by decide) (Nat.le_of_ble_eq_true rfl) (fun Γ hC hQ hN => ?_)
  have hC : COK G Γ "Bandplan$Border" cX1_init 1 3 83 6 139 [] := hC
  have hin := HIN hN rfl
  unfold wp_X1_init at hq
  show V G Γ 1 0 0 h0 0 [(0, .ref p0)] []
  refine V_aload_n hC dX1_init_0 0 rfl ?_
  refine V_objInit hC so_X1_3 (by decide) (Nat.le_of_ble_eq_true rfl) dX1_init_1 ?_
  refine V_aload_n hC dX1_init_4 0 rfl ?_
  refine U_new hC no_X1_9 ⟨by decide, by decide⟩ dX1_init_5 hq (fun a1 h2 hq => ?_)
  refine V_dup hC dX1_init_8 rfl ?_
  refine V_bipush (v := 8) hC dX1_init_9 (by decide) ?_
  refine V_iconst (v := 0) hC dX1_init_11 (by decide) ?_
  refine clI_X7_init hG hC si_X1_11 ⟨by decide, by decide⟩ (Nat.le_of_ble_eq_true rfl) ⟨by decide, by decide⟩ dX1_init_12 hq (fun h3 hq => ?_)
  show V G Γ 1 2 9 h3 15 [(0, .ref p0)] [.ref a1, .ref p0]
  refine U_putF hC (Or.inl (by decide)) fl_X1_14 fin_X1_0 hin rfl rfl dX1_init_15 hq (fun h4 hq => ?_)
  refine V_aload_n hC dX1_init_18 0 rfl ?_
  refine U_new hC no_X1_9 ⟨by decide, by decide⟩ dX1_init_19 hq (fun a5 h6 hq => ?_)
  refine V_dup hC dX1_init_22 rfl ?_
  refine V_bipush (v := 64) hC dX1_init_23 (by decide) ?_
  refine V_iconst (v := (-1)) hC dX1_init_25 (by decide) ?_
  refine clI_X7_init hG hC si_X1_11 ⟨by decide, by decide⟩ (Nat.le_of_ble_eq_true rfl) ⟨by decide, by decide⟩ dX1_init_26 hq (fun h7 hq => ?_)
  show V G Γ 1 4 74 h7 29 [(0, .ref p0)] [.ref a5, .ref p0]
  refine U_putF hC (Or.inl (by decide)) fl_X1_20 fin_X1_1 hin rfl rfl dX1_init_29 hq (fun h8 hq => ?_)
  refine V_aload_n hC dX1_init_32 0 rfl ?_
  refine U_new hC no_X1_9 ⟨by decide, by decide⟩ dX1_init_33 hq (fun a9 h10 hq => ?_)
  refine V_dup hC dX1_init_36 rfl ?_
  refine V_bipush (v := 64) hC dX1_init_37 (by decide) ?_
  refine V_iconst (v := 0) hC dX1_init_39 (by decide) ?_
  refine clI_X7_init hG hC si_X1_11 ⟨by decide, by decide⟩ (Nat.le_of_ble_eq_true rfl) ⟨by decide, by decide⟩ dX1_init_40 hq (fun h11 hq => ?_)
  show V G Γ 1 6 139 h11 43 [(0, .ref p0)] [.ref a9, .ref p0]
  refine U_putF hC (Or.inl (by decide)) fl_X1_23 fin_X1_2 hin rfl rfl dX1_init_43 hq (fun h12 hq => ?_)
  exact V_vret hC hQ ⟨by decide, by decide⟩ dX1_init_46 ⟨rfl, hq⟩
theorem clIN_X1_init {G : Gx} (hG : GOK G) {Γ : Cx} {own : String} {cc : ByteArray} {nL fr lo mc ms cells slots pc : Nat} {hh : List (Nat × Nat × Nat × Nat)} {h : hw} {L : List (Nat × Value)} {rest : List Value} (hC : COK G Γ own cc nL fr lo mc ms hh) {idx : Nat} {host : String} (hs : SIN own idx yX1_init host cX1_init 1 0) {p0 : Nat} (hR : 3 + 1 ≤ fr ∧ 8 + (1 + 11) + 83 ≤ lo) (hw8 : (rest.map fun v => v.category).sum ≤ 8) (hcs : cells + 6 ≤ mc ∧ slots + 139 ≤ ms) (hdg : decode cc pc = .ok (.invokespecial idx, 3)) {post : hw → Prop} (hq : wp_X1_init G p0 h post) (kk : ∀ (h1 : hw) , post h1 → V G Γ nL (cells + 6) (slots + 139) h1 (pc + 3) L (rest)) : V G Γ nL cells slots h pc L (.ref p0 :: rest) :=
  V_callIN (As := []) hC (ct_X1_init hG p0 h post hq) hs rfl hR hw8 hcs hdg (fun E h1 z => z.elim) (fun v h1 z => by obtain ⟨rfl, hz⟩ := z; exact kk h1 hz)
set_option maxRecDepth 100000 in
set_option maxHeartbeats 4000000 in
theorem ct_X1_isForeign {G : Gx} (hG : GOK G) (p0 : Nat) (p1 : Int32) (h0 : hw) (post : Int32 → Prop) (hq : wp_X1_isForeign G p0 p1 h0 post) : CT G yX1_isForeign cX1_isForeign 2 (some .boolean) 2 51 0 0 [.ref p0, .int p1] h0 (fun v h1 => ∃ r : Int32, v = some (.int r) ∧ h1 = h0 ∧ post r) (fun E h1 => False) := by
  refine CT_of hG (by decide) (Nat.le_of_ble_eq_true rfl) (fun Γ hC hQ hN => ?_)
  have hC : COK G Γ "Bandplan$Border" cX1_isForeign 2 2 51 0 0 [] := hC
  unfold wp_X1_isForeign at hq
  show V G Γ 2 0 0 h0 0 [(0, .ref p0), (1, .int p1)] []
  refine V_aload_n hC dX1_isForeign_0 0 rfl ?_
  refine U_getR hC fl_X1_14 dX1_isForeign_1 hq (fun v1 hq => ?_)
  refine V_iload_n hC dX1_isForeign_4 1 rfl ?_
  obtain ⟨hz, hq⟩ := hq
  refine clV_X7_at hG hC sv_X1_26 ⟨by decide, by decide⟩ (Nat.le_of_ble_eq_true rfl) ⟨by decide, by decide⟩ dX1_isForeign_5 hz hq (fun r2 hq => ?_)
  show V G Γ 2 0 0 h0 8 [(0, .ref p0), (1, .int p1)] [.int r2]
  refine V_iconst (v := 1) hC dX1_isForeign_8 (by decide) ?_
  refine V_icmp_ne (tgt := 16) hC dX1_isForeign_9 (by decide) (fun hc => ?_) (fun hc => ?_)
  · have hq := hq.1 hc
    refine V_iconst (v := 0) hC dX1_isForeign_16 (by decide) ?_
    exact V_iret hC hQ rfl rfl ⟨by decide, by decide⟩ dX1_isForeign_17 ⟨_, rfl, rfl, hq⟩
  · have hq := hq.2 hc
    refine V_iconst (v := 1) hC dX1_isForeign_12 (by decide) ?_
    refine V_goto (tgt := 17) hC dX1_isForeign_13 (by decide) ?_
    exact V_iret hC hQ rfl rfl ⟨by decide, by decide⟩ dX1_isForeign_17 ⟨_, rfl, rfl, hq⟩
theorem clV_X1_isForeign {G : Gx} (hG : GOK G) {Γ : Cx} {own : String} {cc : ByteArray} {nL fr lo mc ms cells slots pc : Nat} {hh : List (Nat × Nat × Nat × Nat)} {h : hw} {L : List (Nat × Value)} {rest : List Value} (hC : COK G Γ own cc nL fr lo mc ms hh) {idx : Nat} (hs : SV own idx yX1_isForeign cX1_isForeign 2 (some .boolean) 1) {p0 : Nat} {p1 : Int32} (hR : 2 + 1 ≤ fr ∧ 8 + (2 + 11) + 51 ≤ lo) (hw8 : (rest.map fun v => v.category).sum ≤ 8) (hcs : cells + 0 ≤ mc ∧ slots + 0 ≤ ms) (hdg : decode cc pc = .ok (.invokevirtual idx, 3)) (ho : isO h p0 1) {post : Int32 → Prop} (hq : wp_X1_isForeign G p0 p1 h post) (kk : ∀ (r : Int32) , post r → V G Γ nL (cells + 0) (slots + 0) h (pc + 3) L (.int r :: rest)) : V G Γ nL cells slots h pc L (.int p1 :: .ref p0 :: rest) :=
  V_callV (As := [.int p1]) (r9 := (RX1, TX1, 3)) hC (ct_X1_isForeign hG p0 p1 h post hq) hs ho rfl rfl rfl hR hw8 hcs hdg (fun E h1 z => z.elim) (fun v h1 z => by obtain ⟨r, rfl, rfl, hz⟩ := z; exact kk r hz)
set_option maxRecDepth 100000 in
set_option maxHeartbeats 4000000 in
theorem ct_X7_put {G : Gx} (hG : GOK G) (p0 : Nat) (p1 : Int32) (p2 : Int32) (h0 : hw) (post : hw → Prop) (hq : wp_X7_put G p0 p1 p2 h0 post) : CT G yX7_put cX7_put 3 none 1 30 0 0 [.ref p0, .int p1, .int p2] h0 (fun v h1 => v = none ∧ post h1) (fun E h1 => False) := by
  refine CT_of hG (by decide) (Nat.le_of_ble_eq_true rfl) (fun Γ hC hQ hN => ?_)
  have hC : COK G Γ "Bandplan$Row" cX7_put 3 1 30 0 0 [] := hC
  unfold wp_X7_put at hq
  show V G Γ 3 0 0 h0 0 [(0, .ref p0), (1, .int p1), (2, .int p2)] []
  refine V_iload_n hC dX7_put_0 1 rfl ?_
  refine V_if_lt (tgt := 20) hC dX7_put_1 (by decide) (fun hc => ?_) (fun hc => ?_)
  · have hq := hq.1 hc
    exact V_vret hC hQ ⟨by decide, by decide⟩ dX7_put_20 ⟨rfl, hq⟩
  · have hq := hq.2 hc
    refine V_iload_n hC dX7_put_4 1 rfl ?_
    refine V_aload_n hC dX7_put_5 0 rfl ?_
    refine U_getR hC fl_X7_7 dX7_put_6 hq (fun v1 hq => ?_)
    refine U_lnI hC dX7_put_9 hq (fun v2 hq => ?_)
    refine V_icmp_ge (tgt := 20) hC dX7_put_10 (by decide) (fun hc => ?_) (fun hc => ?_)
    · have hq := hq.1 hc
      exact V_vret hC hQ ⟨by decide, by decide⟩ dX7_put_20 ⟨rfl, hq⟩
    · have hq := hq.2 hc
      refine V_aload_n hC dX7_put_13 0 rfl ?_
      refine U_getR hC fl_X7_7 dX7_put_14 hq (fun v3 hq => ?_)
      refine V_iload_n hC dX7_put_17 1 rfl ?_
      refine V_iload_n hC dX7_put_18 2 rfl ?_
      refine U_stI hC dX7_put_19 hq (fun h4 hq => ?_)
      exact V_vret hC hQ ⟨by decide, by decide⟩ dX7_put_20 ⟨rfl, hq⟩
theorem clV_X7_put {G : Gx} (hG : GOK G) {Γ : Cx} {own : String} {cc : ByteArray} {nL fr lo mc ms cells slots pc : Nat} {hh : List (Nat × Nat × Nat × Nat)} {h : hw} {L : List (Nat × Value)} {rest : List Value} (hC : COK G Γ own cc nL fr lo mc ms hh) {idx : Nat} (hs : SV own idx yX7_put cX7_put 3 none 2) {p0 : Nat} {p1 : Int32} {p2 : Int32} (hR : 1 + 1 ≤ fr ∧ 8 + (3 + 11) + 30 ≤ lo) (hw8 : (rest.map fun v => v.category).sum ≤ 8) (hcs : cells + 0 ≤ mc ∧ slots + 0 ≤ ms) (hdg : decode cc pc = .ok (.invokevirtual idx, 3)) (ho : isO h p0 7) {post : hw → Prop} (hq : wp_X7_put G p0 p1 p2 h post) (kk : ∀ (h1 : hw) , post h1 → V G Γ nL (cells + 0) (slots + 0) h1 (pc + 3) L (rest)) : V G Γ nL cells slots h pc L (.int p2 :: .int p1 :: .ref p0 :: rest) :=
  V_callV (As := [.int p1, .int p2]) (r9 := (RX7, TX7, 1)) hC (ct_X7_put hG p0 p1 p2 h post hq) hs ho rfl rfl rfl hR hw8 hcs hdg (fun E h1 z => z.elim) (fun v h1 z => by obtain ⟨rfl, hz⟩ := z; exact kk h1 hz)
set_option maxRecDepth 100000 in
set_option maxHeartbeats 4000000 in
theorem ct_X1_makeForeign {G : Gx} (hG : GOK G) (p0 : Nat) (p1 : Int32) (p2 : Int32) (h0 : hw) (post : hw → Prop) (hq : wp_X1_makeForeign G p0 p1 p2 h0 post) : CT G yX1_makeForeign cX1_makeForeign 3 none 2 52 0 0 [.ref p0, .int p1, .int p2] h0 (fun v h1 => v = none ∧ post h1) (fun E h1 => False) := by
  refine CT_of hG (by decide) (Nat.le_of_ble_eq_true rfl) (fun Γ hC hQ hN => ?_)
  have hC : COK G Γ "Bandplan$Border" cX1_makeForeign 3 2 52 0 0 [] := hC
  unfold wp_X1_makeForeign at hq
  show V G Γ 3 0 0 h0 0 [(0, .ref p0), (1, .int p1), (2, .int p2)] []
  refine V_aload_n hC dX1_makeForeign_0 0 rfl ?_
  refine U_getR hC fl_X1_14 dX1_makeForeign_1 hq (fun v1 hq => ?_)
  refine V_iload_n hC dX1_makeForeign_4 1 rfl ?_
  refine V_iload_n hC dX1_makeForeign_5 2 rfl ?_
  have hq := hq (fun (t2 : Nat) (t3 : Int32) (t4 : Int32) => V G Γ 3 0 0 h0 14 [] [.int t4, .int t3, .ref t2]) (by
    intro t2 t3 t4 hq
    show V G Γ 3 0 0 h0 14 [] [.int t4, .int t3, .ref t2]
    obtain ⟨hz, hq⟩ := hq
    refine clV_X7_put hG hC sv_X1_30 ⟨by decide, by decide⟩ (Nat.le_of_ble_eq_true rfl) ⟨by decide, by decide⟩ dX1_makeForeign_14 hz hq (fun h5 hq => ?_)
    show V G Γ 3 0 0 h5 17 [] []
    exact V_vret hC hQ ⟨by decide, by decide⟩ dX1_makeForeign_17 ⟨rfl, hq⟩)
  refine V_if_eq (tgt := 13) hC dX1_makeForeign_6 (by decide) (fun hc => ?_) (fun hc => ?_)
  · have hq := hq.1 hc
    refine V_iconst (v := 0) hC dX1_makeForeign_13 (by decide) ?_
    refine V_sub [] rfl ?_
    exact hq
  · have hq := hq.2 hc
    refine V_iconst (v := 1) hC dX1_makeForeign_9 (by decide) ?_
    refine V_goto (tgt := 14) hC dX1_makeForeign_10 (by decide) ?_
    refine V_sub [] rfl ?_
    exact hq
theorem clV_X1_makeForeign {G : Gx} (hG : GOK G) {Γ : Cx} {own : String} {cc : ByteArray} {nL fr lo mc ms cells slots pc : Nat} {hh : List (Nat × Nat × Nat × Nat)} {h : hw} {L : List (Nat × Value)} {rest : List Value} (hC : COK G Γ own cc nL fr lo mc ms hh) {idx : Nat} (hs : SV own idx yX1_makeForeign cX1_makeForeign 3 none 2) {p0 : Nat} {p1 : Int32} {p2 : Int32} (hR : 2 + 1 ≤ fr ∧ 8 + (3 + 11) + 52 ≤ lo) (hw8 : (rest.map fun v => v.category).sum ≤ 8) (hcs : cells + 0 ≤ mc ∧ slots + 0 ≤ ms) (hdg : decode cc pc = .ok (.invokevirtual idx, 3)) (ho : isO h p0 1) {post : hw → Prop} (hq : wp_X1_makeForeign G p0 p1 p2 h post) (kk : ∀ (h1 : hw) , post h1 → V G Γ nL (cells + 0) (slots + 0) h1 (pc + 3) L (rest)) : V G Γ nL cells slots h pc L (.int p2 :: .int p1 :: .ref p0 :: rest) :=
  V_callV (As := [.int p1, .int p2]) (r9 := (RX1, TX1, 3)) hC (ct_X1_makeForeign hG p0 p1 p2 h post hq) hs ho rfl rfl rfl hR hw8 hcs hdg (fun E h1 z => z.elim) (fun v h1 z => by obtain ⟨rfl, hz⟩ := z; exact kk h1 hz)
set_option maxRecDepth 100000 in
set_option maxHeartbeats 4000000 in
theorem ct_X1_ask {G : Gx} (hG : GOK G) (p0 : Nat) (p1 : Int32) (p2 : Int32) (p3 : Int32) (h0 : hw) (post : Int32 → hw → Prop) (hq : wp_X1_ask G p0 p1 p2 p3 h0 post) : CT G yX1_ask cX1_ask 4 (some .int) 2 52 0 0 [.ref p0, .int p1, .int p2, .int p3] h0 (fun v h1 => ∃ r : Int32, v = some (.int r) ∧ post r h1) (fun E h1 => False) := by
  refine CT_of hG (by decide) (Nat.le_of_ble_eq_true rfl) (fun Γ hC hQ hN => ?_)
  have hC : COK G Γ "Bandplan$Border" cX1_ask 4 2 52 0 0 [] := hC
  unfold wp_X1_ask at hq
  show V G Γ 4 0 0 h0 0 [(0, .ref p0), (1, .int p1), (2, .int p2), (3, .int p3)] []
  refine V_aload_n hC dX1_ask_0 0 rfl ?_
  refine U_getR hC fl_X1_20 dX1_ask_1 hq (fun v1 hq => ?_)
  refine V_iload_n hC dX1_ask_4 1 rfl ?_
  refine V_bipush (v := 8) hC dX1_ask_5 (by decide) ?_
  refine V_imul hC dX1_ask_7 ?_
  refine V_iload_n hC dX1_ask_8 2 rfl ?_
  refine V_iadd hC dX1_ask_9 ?_
  refine V_iload_n hC dX1_ask_10 3 rfl ?_
  obtain ⟨hz, hq⟩ := hq
  refine clV_X7_put hG hC sv_X1_30 ⟨by decide, by decide⟩ (Nat.le_of_ble_eq_true rfl) ⟨by decide, by decide⟩ dX1_ask_11 hz hq (fun h2 hq => ?_)
  show V G Γ 4 0 0 h2 14 [(0, .ref p0), (1, .int p1), (2, .int p2), (3, .int p3)] []
  refine V_aload_n hC dX1_ask_14 0 rfl ?_
  refine U_getR hC fl_X1_23 dX1_ask_15 hq (fun v3 hq => ?_)
  refine V_iload_n hC dX1_ask_18 1 rfl ?_
  refine V_bipush (v := 8) hC dX1_ask_19 (by decide) ?_
  refine V_imul hC dX1_ask_21 ?_
  refine V_iload_n hC dX1_ask_22 2 rfl ?_
  refine V_iadd hC dX1_ask_23 ?_
  refine V_iconst (v := 0) hC dX1_ask_24 (by decide) ?_
  obtain ⟨hz, hq⟩ := hq
  refine clV_X7_put hG hC sv_X1_30 ⟨by decide, by decide⟩ (Nat.le_of_ble_eq_true rfl) ⟨by decide, by decide⟩ dX1_ask_25 hz hq (fun h4 hq => ?_)
  show V G Γ 4 0 0 h4 28 [(0, .ref p0), (1, .int p1), (2, .int p2), (3, .int p3)] []
  refine V_iload_n hC dX1_ask_28 3 rfl ?_
  refine V_iconst (v := 3) hC dX1_ask_29 (by decide) ?_
  refine V_iadd hC dX1_ask_30 ?_
  exact V_iret hC hQ rfl rfl ⟨by decide, by decide⟩ dX1_ask_31 ⟨_, rfl, hq⟩
theorem clV_X1_ask {G : Gx} (hG : GOK G) {Γ : Cx} {own : String} {cc : ByteArray} {nL fr lo mc ms cells slots pc : Nat} {hh : List (Nat × Nat × Nat × Nat)} {h : hw} {L : List (Nat × Value)} {rest : List Value} (hC : COK G Γ own cc nL fr lo mc ms hh) {idx : Nat} (hs : SV own idx yX1_ask cX1_ask 4 (some .int) 3) {p0 : Nat} {p1 : Int32} {p2 : Int32} {p3 : Int32} (hR : 2 + 1 ≤ fr ∧ 8 + (4 + 11) + 52 ≤ lo) (hw8 : (rest.map fun v => v.category).sum ≤ 8) (hcs : cells + 0 ≤ mc ∧ slots + 0 ≤ ms) (hdg : decode cc pc = .ok (.invokevirtual idx, 3)) (ho : isO h p0 1) {post : Int32 → hw → Prop} (hq : wp_X1_ask G p0 p1 p2 p3 h post) (kk : ∀ (r : Int32) (h1 : hw) , post r h1 → V G Γ nL (cells + 0) (slots + 0) h1 (pc + 3) L (.int r :: rest)) : V G Γ nL cells slots h pc L (.int p3 :: .int p2 :: .int p1 :: .ref p0 :: rest) :=
  V_callV (As := [.int p1, .int p2, .int p3]) (r9 := (RX1, TX1, 3)) hC (ct_X1_ask hG p0 p1 p2 p3 h post hq) hs ho rfl rfl rfl hR hw8 hcs hdg (fun E h1 z => z.elim) (fun v h1 z => by obtain ⟨r, rfl, hz⟩ := z; exact kk r h1 hz)
set_option maxRecDepth 100000 in
set_option maxHeartbeats 4000000 in
theorem ct_X1_wasAsked {G : Gx} (hG : GOK G) (p0 : Nat) (p1 : Int32) (p2 : Int32) (h0 : hw) (post : Int32 → Prop) (hq : wp_X1_wasAsked G p0 p1 p2 h0 post) : CT G yX1_wasAsked cX1_wasAsked 3 (some .boolean) 2 51 0 0 [.ref p0, .int p1, .int p2] h0 (fun v h1 => ∃ r : Int32, v = some (.int r) ∧ h1 = h0 ∧ post r) (fun E h1 => False) := by
  refine CT_of hG (by decide) (Nat.le_of_ble_eq_true rfl) (fun Γ hC hQ hN => ?_)
  have hC : COK G Γ "Bandplan$Border" cX1_wasAsked 3 2 51 0 0 [] := hC
  unfold wp_X1_wasAsked at hq
  show V G Γ 3 0 0 h0 0 [(0, .ref p0), (1, .int p1), (2, .int p2)] []
  refine V_aload_n hC dX1_wasAsked_0 0 rfl ?_
  refine U_getR hC fl_X1_20 dX1_wasAsked_1 hq (fun v1 hq => ?_)
  refine V_iload_n hC dX1_wasAsked_4 1 rfl ?_
  refine V_bipush (v := 8) hC dX1_wasAsked_5 (by decide) ?_
  refine V_imul hC dX1_wasAsked_7 ?_
  refine V_iload_n hC dX1_wasAsked_8 2 rfl ?_
  refine V_iadd hC dX1_wasAsked_9 ?_
  obtain ⟨hz, hq⟩ := hq
  refine clV_X7_at hG hC sv_X1_26 ⟨by decide, by decide⟩ (Nat.le_of_ble_eq_true rfl) ⟨by decide, by decide⟩ dX1_wasAsked_10 hz hq (fun r2 hq => ?_)
  show V G Γ 3 0 0 h0 13 [(0, .ref p0), (1, .int p1), (2, .int p2)] [.int r2]
  refine V_iconst (v := (-1)) hC dX1_wasAsked_13 (by decide) ?_
  refine V_icmp_eq (tgt := 21) hC dX1_wasAsked_14 (by decide) (fun hc => ?_) (fun hc => ?_)
  · have hq := hq.1 hc
    refine V_iconst (v := 0) hC dX1_wasAsked_21 (by decide) ?_
    exact V_iret hC hQ rfl rfl ⟨by decide, by decide⟩ dX1_wasAsked_22 ⟨_, rfl, rfl, hq⟩
  · have hq := hq.2 hc
    refine V_iconst (v := 1) hC dX1_wasAsked_17 (by decide) ?_
    refine V_goto (tgt := 22) hC dX1_wasAsked_18 (by decide) ?_
    exact V_iret hC hQ rfl rfl ⟨by decide, by decide⟩ dX1_wasAsked_22 ⟨_, rfl, rfl, hq⟩
theorem clV_X1_wasAsked {G : Gx} (hG : GOK G) {Γ : Cx} {own : String} {cc : ByteArray} {nL fr lo mc ms cells slots pc : Nat} {hh : List (Nat × Nat × Nat × Nat)} {h : hw} {L : List (Nat × Value)} {rest : List Value} (hC : COK G Γ own cc nL fr lo mc ms hh) {idx : Nat} (hs : SV own idx yX1_wasAsked cX1_wasAsked 3 (some .boolean) 2) {p0 : Nat} {p1 : Int32} {p2 : Int32} (hR : 2 + 1 ≤ fr ∧ 8 + (3 + 11) + 51 ≤ lo) (hw8 : (rest.map fun v => v.category).sum ≤ 8) (hcs : cells + 0 ≤ mc ∧ slots + 0 ≤ ms) (hdg : decode cc pc = .ok (.invokevirtual idx, 3)) (ho : isO h p0 1) {post : Int32 → Prop} (hq : wp_X1_wasAsked G p0 p1 p2 h post) (kk : ∀ (r : Int32) , post r → V G Γ nL (cells + 0) (slots + 0) h (pc + 3) L (.int r :: rest)) : V G Γ nL cells slots h pc L (.int p2 :: .int p1 :: .ref p0 :: rest) :=
  V_callV (As := [.int p1, .int p2]) (r9 := (RX1, TX1, 3)) hC (ct_X1_wasAsked hG p0 p1 p2 h post hq) hs ho rfl rfl rfl hR hw8 hcs hdg (fun E h1 z => z.elim) (fun v h1 z => by obtain ⟨r, rfl, rfl, hz⟩ := z; exact kk r hz)
set_option maxRecDepth 100000 in
set_option maxHeartbeats 4000000 in
theorem ct_X1_protest {G : Gx} (hG : GOK G) (p0 : Nat) (p1 : Int32) (p2 : Int32) (p3 : Int32) (h0 : hw) (post : Int32 → hw → Prop) (hq : wp_X1_protest G p0 p1 p2 p3 h0 post) : CT G yX1_protest cX1_protest 5 (some .boolean) 2 52 0 0 [.ref p0, .int p1, .int p2, .int p3] h0 (fun v h1 => ∃ r : Int32, v = some (.int r) ∧ post r h1) (fun E h1 => False) := by
  refine CT_of hG (by decide) (Nat.le_of_ble_eq_true rfl) (fun Γ hC hQ hN => ?_)
  have hC : COK G Γ "Bandplan$Border" cX1_protest 5 2 52 0 0 [] := hC
  unfold wp_X1_protest at hq
  show V G Γ 5 0 0 h0 0 [(0, .ref p0), (1, .int p1), (2, .int p2), (3, .int p3)] []
  refine V_iload_n hC dX1_protest_0 3 rfl ?_
  refine V_aload_n hC dX1_protest_1 0 rfl ?_
  refine U_getR hC fl_X1_20 dX1_protest_2 hq (fun v1 hq => ?_)
  refine V_iload_n hC dX1_protest_5 1 rfl ?_
  refine V_bipush (v := 8) hC dX1_protest_6 (by decide) ?_
  refine V_imul hC dX1_protest_8 ?_
  refine V_iload_n hC dX1_protest_9 2 rfl ?_
  refine V_iadd hC dX1_protest_10 ?_
  obtain ⟨hz, hq⟩ := hq
  refine clV_X7_at hG hC sv_X1_26 ⟨by decide, by decide⟩ (Nat.le_of_ble_eq_true rfl) ⟨by decide, by decide⟩ dX1_protest_11 hz hq (fun r2 hq => ?_)
  show V G Γ 5 0 0 h0 14 [(0, .ref p0), (1, .int p1), (2, .int p2), (3, .int p3)] [.int r2, .int p3]
  refine V_iconst (v := 3) hC dX1_protest_14 (by decide) ?_
  refine V_iadd hC dX1_protest_15 ?_
  have hq := hq (fun (t3 : Int32) => V G Γ 5 0 0 h0 24 [(0, .ref p0), (1, .int p1), (2, .int p2)] [.int t3]) (by
    intro t3 hq
    show V G Γ 5 0 0 h0 24 [(0, .ref p0), (1, .int p1), (2, .int p2)] [.int t3]
    refine V_istore (L' := [(0, .ref p0), (1, .int p1), (2, .int p2), (4, .int t3)]) hC dX1_protest_24 (by decide) [1, 2, 3, 0] rfl ?_
    refine V_iload hC dX1_protest_26 3 rfl ?_
    refine V_if_eq (tgt := 45) hC dX1_protest_28 (by decide) (fun hc => ?_) (fun hc => ?_)
    · have hq := hq.1 hc
      refine V_iload hC dX1_protest_45 3 rfl ?_
      obtain ⟨hz, hq⟩ := hq
      exact V_iret hC hQ rfl (nar_b hz) ⟨by decide, by decide⟩ dX1_protest_47 ⟨_, rfl, hq⟩
    · have hq := hq.2 hc
      refine V_aload_n hC dX1_protest_31 0 rfl ?_
      refine U_getR hC fl_X1_23 dX1_protest_32 hq (fun v4 hq => ?_)
      refine V_iload_n hC dX1_protest_35 1 rfl ?_
      refine V_bipush (v := 8) hC dX1_protest_36 (by decide) ?_
      refine V_imul hC dX1_protest_38 ?_
      refine V_iload_n hC dX1_protest_39 2 rfl ?_
      refine V_iadd hC dX1_protest_40 ?_
      refine V_iconst (v := 1) hC dX1_protest_41 (by decide) ?_
      obtain ⟨hz, hq⟩ := hq
      refine clV_X7_put hG hC sv_X1_30 ⟨by decide, by decide⟩ (Nat.le_of_ble_eq_true rfl) ⟨by decide, by decide⟩ dX1_protest_42 hz hq (fun h5 hq => ?_)
      show V G Γ 5 0 0 h5 45 [(0, .ref p0), (1, .int p1), (2, .int p2), (4, .int t3)] []
      refine V_iload hC dX1_protest_45 3 rfl ?_
      obtain ⟨hz, hq⟩ := hq
      exact V_iret hC hQ rfl (nar_b hz) ⟨by decide, by decide⟩ dX1_protest_47 ⟨_, rfl, hq⟩)
  refine V_icmp_ge (tgt := 23) hC dX1_protest_16 (by decide) (fun hc => ?_) (fun hc => ?_)
  · have hq := hq.1 hc
    refine V_iconst (v := 0) hC dX1_protest_23 (by decide) ?_
    refine V_sub [0, 1, 2] rfl ?_
    exact hq
  · have hq := hq.2 hc
    refine V_iconst (v := 1) hC dX1_protest_19 (by decide) ?_
    refine V_goto (tgt := 24) hC dX1_protest_20 (by decide) ?_
    refine V_sub [0, 1, 2] rfl ?_
    exact hq
theorem clV_X1_protest {G : Gx} (hG : GOK G) {Γ : Cx} {own : String} {cc : ByteArray} {nL fr lo mc ms cells slots pc : Nat} {hh : List (Nat × Nat × Nat × Nat)} {h : hw} {L : List (Nat × Value)} {rest : List Value} (hC : COK G Γ own cc nL fr lo mc ms hh) {idx : Nat} (hs : SV own idx yX1_protest cX1_protest 5 (some .boolean) 3) {p0 : Nat} {p1 : Int32} {p2 : Int32} {p3 : Int32} (hR : 2 + 1 ≤ fr ∧ 8 + (5 + 11) + 52 ≤ lo) (hw8 : (rest.map fun v => v.category).sum ≤ 8) (hcs : cells + 0 ≤ mc ∧ slots + 0 ≤ ms) (hdg : decode cc pc = .ok (.invokevirtual idx, 3)) (ho : isO h p0 1) {post : Int32 → hw → Prop} (hq : wp_X1_protest G p0 p1 p2 p3 h post) (kk : ∀ (r : Int32) (h1 : hw) , post r h1 → V G Γ nL (cells + 0) (slots + 0) h1 (pc + 3) L (.int r :: rest)) : V G Γ nL cells slots h pc L (.int p3 :: .int p2 :: .int p1 :: .ref p0 :: rest) :=
  V_callV (As := [.int p1, .int p2, .int p3]) (r9 := (RX1, TX1, 3)) hC (ct_X1_protest hG p0 p1 p2 p3 h post hq) hs ho rfl rfl rfl hR hw8 hcs hdg (fun E h1 z => z.elim) (fun v h1 z => by obtain ⟨r, rfl, hz⟩ := z; exact kk r h1 hz)
set_option maxRecDepth 100000 in
set_option maxHeartbeats 4000000 in
theorem ct_X1_yesCounts {G : Gx} (hG : GOK G) (p0 : Nat) (p1 : Int32) (p2 : Int32) (p3 : Int32) (h0 : hw) (post : Int32 → Prop) (hq : wp_X1_yesCounts G p0 p1 p2 p3 h0 post) : CT G yX1_yesCounts cX1_yesCounts 4 (some .boolean) 3 73 0 0 [.ref p0, .int p1, .int p2, .int p3] h0 (fun v h1 => ∃ r : Int32, v = some (.int r) ∧ h1 = h0 ∧ post r) (fun E h1 => False) := by
  refine CT_of hG (by decide) (Nat.le_of_ble_eq_true rfl) (fun Γ hC hQ hN => ?_)
  have hC : COK G Γ "Bandplan$Border" cX1_yesCounts 4 3 73 0 0 [] := hC
  unfold wp_X1_yesCounts at hq
  show V G Γ 4 0 0 h0 0 [(0, .ref p0), (1, .int p1), (2, .int p2), (3, .int p3)] []
  refine V_aload_n hC dX1_yesCounts_0 0 rfl ?_
  refine V_iload_n hC dX1_yesCounts_1 1 rfl ?_
  refine V_iload_n hC dX1_yesCounts_2 2 rfl ?_
  obtain ⟨hz, hq⟩ := hq
  refine clV_X1_wasAsked hG hC sv_X1_33 ⟨by decide, by decide⟩ (Nat.le_of_ble_eq_true rfl) ⟨by decide, by decide⟩ dX1_yesCounts_3 hz hq (fun r1 hq => ?_)
  show V G Γ 4 0 0 h0 6 [(0, .ref p0), (1, .int p1), (2, .int p2), (3, .int p3)] [.int r1]
  have hq := hq (V G Γ 4 0 0 h0 48 [] []) (by
    intro hq
    show V G Γ 4 0 0 h0 48 [] []
    refine V_iconst (v := 0) hC dX1_yesCounts_48 (by decide) ?_
    exact V_iret hC hQ rfl rfl ⟨by decide, by decide⟩ dX1_yesCounts_49 ⟨_, rfl, rfl, hq⟩)
  refine V_if_eq (tgt := 48) hC dX1_yesCounts_6 (by decide) (fun hc => ?_) (fun hc => ?_)
  · have hq := hq.1 hc
    refine V_sub [] rfl ?_
    exact hq
  · have hq := hq.2 hc
    refine V_aload_n hC dX1_yesCounts_9 0 rfl ?_
    refine U_getR hC fl_X1_23 dX1_yesCounts_10 hq (fun v2 hq => ?_)
    refine V_iload_n hC dX1_yesCounts_13 1 rfl ?_
    refine V_bipush (v := 8) hC dX1_yesCounts_14 (by decide) ?_
    refine V_imul hC dX1_yesCounts_16 ?_
    refine V_iload_n hC dX1_yesCounts_17 2 rfl ?_
    refine V_iadd hC dX1_yesCounts_18 ?_
    obtain ⟨hz, hq⟩ := hq
    refine clV_X7_at hG hC sv_X1_26 ⟨by decide, by decide⟩ (Nat.le_of_ble_eq_true rfl) ⟨by decide, by decide⟩ dX1_yesCounts_19 hz hq (fun r3 hq => ?_)
    show V G Γ 4 0 0 h0 22 [(0, .ref p0), (1, .int p1), (2, .int p2), (3, .int p3)] [.int r3]
    refine V_if_ne (tgt := 48) hC dX1_yesCounts_22 (by decide) (fun hc => ?_) (fun hc => ?_)
    · have hq := hq.1 hc
      refine V_sub [] rfl ?_
      exact hq
    · have hq := hq.2 hc
      refine V_iload_n hC dX1_yesCounts_25 3 rfl ?_
      refine V_aload_n hC dX1_yesCounts_26 0 rfl ?_
      refine U_getR hC fl_X1_20 dX1_yesCounts_27 hq (fun v4 hq => ?_)
      refine V_iload_n hC dX1_yesCounts_30 1 rfl ?_
      refine V_bipush (v := 8) hC dX1_yesCounts_31 (by decide) ?_
      refine V_imul hC dX1_yesCounts_33 ?_
      refine V_iload_n hC dX1_yesCounts_34 2 rfl ?_
      refine V_iadd hC dX1_yesCounts_35 ?_
      obtain ⟨hz, hq⟩ := hq
      refine clV_X7_at hG hC sv_X1_26 ⟨by decide, by decide⟩ (Nat.le_of_ble_eq_true rfl) ⟨by decide, by decide⟩ dX1_yesCounts_36 hz hq (fun r5 hq => ?_)
      show V G Γ 4 0 0 h0 39 [(0, .ref p0), (1, .int p1), (2, .int p2), (3, .int p3)] [.int r5, .int p3]
      refine V_iconst (v := 3) hC dX1_yesCounts_39 (by decide) ?_
      refine V_iadd hC dX1_yesCounts_40 ?_
      refine V_icmp_lt (tgt := 48) hC dX1_yesCounts_41 (by decide) (fun hc => ?_) (fun hc => ?_)
      · have hq := hq.1 hc
        refine V_sub [] rfl ?_
        exact hq
      · have hq := hq.2 hc
        refine V_iconst (v := 1) hC dX1_yesCounts_44 (by decide) ?_
        refine V_goto (tgt := 49) hC dX1_yesCounts_45 (by decide) ?_
        exact V_iret hC hQ rfl rfl ⟨by decide, by decide⟩ dX1_yesCounts_49 ⟨_, rfl, rfl, hq⟩
theorem clV_X1_yesCounts {G : Gx} (hG : GOK G) {Γ : Cx} {own : String} {cc : ByteArray} {nL fr lo mc ms cells slots pc : Nat} {hh : List (Nat × Nat × Nat × Nat)} {h : hw} {L : List (Nat × Value)} {rest : List Value} (hC : COK G Γ own cc nL fr lo mc ms hh) {idx : Nat} (hs : SV own idx yX1_yesCounts cX1_yesCounts 4 (some .boolean) 3) {p0 : Nat} {p1 : Int32} {p2 : Int32} {p3 : Int32} (hR : 3 + 1 ≤ fr ∧ 8 + (4 + 11) + 73 ≤ lo) (hw8 : (rest.map fun v => v.category).sum ≤ 8) (hcs : cells + 0 ≤ mc ∧ slots + 0 ≤ ms) (hdg : decode cc pc = .ok (.invokevirtual idx, 3)) (ho : isO h p0 1) {post : Int32 → Prop} (hq : wp_X1_yesCounts G p0 p1 p2 p3 h post) (kk : ∀ (r : Int32) , post r → V G Γ nL (cells + 0) (slots + 0) h (pc + 3) L (.int r :: rest)) : V G Γ nL cells slots h pc L (.int p3 :: .int p2 :: .int p1 :: .ref p0 :: rest) :=
  V_callV (As := [.int p1, .int p2, .int p3]) (r9 := (RX1, TX1, 3)) hC (ct_X1_yesCounts hG p0 p1 p2 p3 h post hq) hs ho rfl rfl rfl hR hw8 hcs hdg (fun E h1 z => z.elim) (fun v h1 z => by obtain ⟨r, rfl, rfl, hz⟩ := z; exact kk r hz)
set_option maxRecDepth 100000 in
set_option maxHeartbeats 4000000 in
theorem ct_X2_init {G : Gx} (hG : GOK G) (p0 : Nat) (h0 : hw) (post : hw → Prop) (hq : wp_X2_init G p0 h0 post) : CT G yX2_init cX2_init 1 none 3 83 8 28 [.ref p0] h0 (fun v h1 => v = none ∧ post h1) (fun E h1 => False) := by
  refine CT_of hG (by decide) (Nat.le_of_ble_eq_true rfl) (fun Γ hC hQ hN => ?_)
  have hC : COK G Γ "Bandplan$Buying" cX2_init 1 3 83 8 28 [] := hC
  have hin := HIN hN rfl
  unfold wp_X2_init at hq
  show V G Γ 1 0 0 h0 0 [(0, .ref p0)] []
  refine V_aload_n hC dX2_init_0 0 rfl ?_
  refine V_objInit hC so_X2_3 (by decide) (Nat.le_of_ble_eq_true rfl) dX2_init_1 ?_
  refine V_aload_n hC dX2_init_4 0 rfl ?_
  refine U_new hC no_X2_9 ⟨by decide, by decide⟩ dX2_init_5 hq (fun a1 h2 hq => ?_)
  refine V_dup hC dX2_init_8 rfl ?_
  refine V_iconst (v := 4) hC dX2_init_9 (by decide) ?_
  refine V_iconst (v := 0) hC dX2_init_10 (by decide) ?_
  refine clI_X7_init hG hC si_X2_11 ⟨by decide, by decide⟩ (Nat.le_of_ble_eq_true rfl) ⟨by decide, by decide⟩ dX2_init_11 hq (fun h3 hq => ?_)
  show V G Γ 1 2 5 h3 14 [(0, .ref p0)] [.ref a1, .ref p0]
  refine U_putF hC (Or.inl (by decide)) fl_X2_14 fin_X2_0 hin rfl rfl dX2_init_14 hq (fun h4 hq => ?_)
  refine V_aload_n hC dX2_init_17 0 rfl ?_
  refine U_new hC no_X2_9 ⟨by decide, by decide⟩ dX2_init_18 hq (fun a5 h6 hq => ?_)
  refine V_dup hC dX2_init_21 rfl ?_
  refine V_iconst (v := 4) hC dX2_init_22 (by decide) ?_
  refine V_iconst (v := 0) hC dX2_init_23 (by decide) ?_
  refine clI_X7_init hG hC si_X2_11 ⟨by decide, by decide⟩ (Nat.le_of_ble_eq_true rfl) ⟨by decide, by decide⟩ dX2_init_24 hq (fun h7 hq => ?_)
  show V G Γ 1 4 10 h7 27 [(0, .ref p0)] [.ref a5, .ref p0]
  refine U_putF hC (Or.inl (by decide)) fl_X2_20 fin_X2_1 hin rfl rfl dX2_init_27 hq (fun h8 hq => ?_)
  refine V_aload_n hC dX2_init_30 0 rfl ?_
  refine U_new hC no_X2_9 ⟨by decide, by decide⟩ dX2_init_31 hq (fun a9 h10 hq => ?_)
  refine V_dup hC dX2_init_34 rfl ?_
  refine V_bipush (v := 12) hC dX2_init_35 (by decide) ?_
  refine V_iconst (v := 0) hC dX2_init_37 (by decide) ?_
  refine clI_X7_init hG hC si_X2_11 ⟨by decide, by decide⟩ (Nat.le_of_ble_eq_true rfl) ⟨by decide, by decide⟩ dX2_init_38 hq (fun h11 hq => ?_)
  show V G Γ 1 6 23 h11 41 [(0, .ref p0)] [.ref a9, .ref p0]
  refine U_putF hC (Or.inl (by decide)) fl_X2_23 fin_X2_3 hin rfl rfl dX2_init_41 hq (fun h12 hq => ?_)
  refine V_aload_n hC dX2_init_44 0 rfl ?_
  refine U_new hC no_X2_9 ⟨by decide, by decide⟩ dX2_init_45 hq (fun a13 h14 hq => ?_)
  refine V_dup hC dX2_init_48 rfl ?_
  refine V_iconst (v := 4) hC dX2_init_49 (by decide) ?_
  refine V_iconst (v := 0) hC dX2_init_50 (by decide) ?_
  refine clI_X7_init hG hC si_X2_11 ⟨by decide, by decide⟩ (Nat.le_of_ble_eq_true rfl) ⟨by decide, by decide⟩ dX2_init_51 hq (fun h15 hq => ?_)
  show V G Γ 1 8 28 h15 54 [(0, .ref p0)] [.ref a13, .ref p0]
  refine U_putF hC (Or.inl (by decide)) fl_X2_26 fin_X2_4 hin rfl rfl dX2_init_54 hq (fun h16 hq => ?_)
  exact V_vret hC hQ ⟨by decide, by decide⟩ dX2_init_57 ⟨rfl, hq⟩
theorem clIN_X2_init {G : Gx} (hG : GOK G) {Γ : Cx} {own : String} {cc : ByteArray} {nL fr lo mc ms cells slots pc : Nat} {hh : List (Nat × Nat × Nat × Nat)} {h : hw} {L : List (Nat × Value)} {rest : List Value} (hC : COK G Γ own cc nL fr lo mc ms hh) {idx : Nat} {host : String} (hs : SIN own idx yX2_init host cX2_init 1 0) {p0 : Nat} (hR : 3 + 1 ≤ fr ∧ 8 + (1 + 11) + 83 ≤ lo) (hw8 : (rest.map fun v => v.category).sum ≤ 8) (hcs : cells + 8 ≤ mc ∧ slots + 28 ≤ ms) (hdg : decode cc pc = .ok (.invokespecial idx, 3)) {post : hw → Prop} (hq : wp_X2_init G p0 h post) (kk : ∀ (h1 : hw) , post h1 → V G Γ nL (cells + 8) (slots + 28) h1 (pc + 3) L (rest)) : V G Γ nL cells slots h pc L (.ref p0 :: rest) :=
  V_callIN (As := []) hC (ct_X2_init hG p0 h post hq) hs rfl hR hw8 hcs hdg (fun E h1 z => z.elim) (fun v h1 z => by obtain ⟨rfl, hz⟩ := z; exact kk h1 hz)
set_option maxRecDepth 100000 in
set_option maxHeartbeats 4000000 in
theorem ct_X2_admit {G : Gx} (hG : GOK G) (p0 : Nat) (p1 : Int32) (p2 : Int32) (p3 : Int32) (h0 : hw) (post : Int32 → hw → Prop) (hq : wp_X2_admit G p0 p1 p2 p3 h0 post) : CT G yX2_admit cX2_admit 4 (some .int) 2 52 0 0 [.ref p0, .int p1, .int p2, .int p3] h0 (fun v h1 => ∃ r : Int32, v = some (.int r) ∧ post r h1) (fun E h1 => False) := by
  refine CT_of hG (by decide) (Nat.le_of_ble_eq_true rfl) (fun Γ hC hQ hN => ?_)
  have hC : COK G Γ "Bandplan$Buying" cX2_admit 4 2 52 0 0 [] := hC
  unfold wp_X2_admit at hq
  show V G Γ 4 0 0 h0 0 [(0, .ref p0), (1, .int p1), (2, .int p2), (3, .int p3)] []
  refine V_aload_n hC dX2_admit_0 0 rfl ?_
  refine U_getR hC fl_X2_23 dX2_admit_1 hq (fun v1 hq => ?_)
  refine V_aload_n hC dX2_admit_4 0 rfl ?_
  refine U_getI hC fl_X2_29 dX2_admit_5 hq (fun v2 hq => ?_)
  refine V_iconst (v := 3) hC dX2_admit_8 (by decide) ?_
  refine V_imul hC dX2_admit_9 ?_
  refine V_iload_n hC dX2_admit_10 1 rfl ?_
  obtain ⟨hz, hq⟩ := hq
  refine clV_X7_put hG hC sv_X2_33 ⟨by decide, by decide⟩ (Nat.le_of_ble_eq_true rfl) ⟨by decide, by decide⟩ dX2_admit_11 hz hq (fun h3 hq => ?_)
  show V G Γ 4 0 0 h3 14 [(0, .ref p0), (1, .int p1), (2, .int p2), (3, .int p3)] []
  refine V_aload_n hC dX2_admit_14 0 rfl ?_
  refine U_getR hC fl_X2_23 dX2_admit_15 hq (fun v4 hq => ?_)
  refine V_aload_n hC dX2_admit_18 0 rfl ?_
  refine U_getI hC fl_X2_29 dX2_admit_19 hq (fun v5 hq => ?_)
  refine V_iconst (v := 3) hC dX2_admit_22 (by decide) ?_
  refine V_imul hC dX2_admit_23 ?_
  refine V_iconst (v := 1) hC dX2_admit_24 (by decide) ?_
  refine V_iadd hC dX2_admit_25 ?_
  refine V_iload_n hC dX2_admit_26 2 rfl ?_
  obtain ⟨hz, hq⟩ := hq
  refine clV_X7_put hG hC sv_X2_33 ⟨by decide, by decide⟩ (Nat.le_of_ble_eq_true rfl) ⟨by decide, by decide⟩ dX2_admit_27 hz hq (fun h6 hq => ?_)
  show V G Γ 4 0 0 h6 30 [(0, .ref p0), (1, .int p1), (2, .int p2), (3, .int p3)] []
  refine V_aload_n hC dX2_admit_30 0 rfl ?_
  refine U_getR hC fl_X2_23 dX2_admit_31 hq (fun v7 hq => ?_)
  refine V_aload_n hC dX2_admit_34 0 rfl ?_
  refine U_getI hC fl_X2_29 dX2_admit_35 hq (fun v8 hq => ?_)
  refine V_iconst (v := 3) hC dX2_admit_38 (by decide) ?_
  refine V_imul hC dX2_admit_39 ?_
  refine V_iconst (v := 2) hC dX2_admit_40 (by decide) ?_
  refine V_iadd hC dX2_admit_41 ?_
  refine V_iload_n hC dX2_admit_42 3 rfl ?_
  obtain ⟨hz, hq⟩ := hq
  refine clV_X7_put hG hC sv_X2_33 ⟨by decide, by decide⟩ (Nat.le_of_ble_eq_true rfl) ⟨by decide, by decide⟩ dX2_admit_43 hz hq (fun h9 hq => ?_)
  show V G Γ 4 0 0 h9 46 [(0, .ref p0), (1, .int p1), (2, .int p2), (3, .int p3)] []
  refine V_aload_n hC dX2_admit_46 0 rfl ?_
  refine V_dup hC dX2_admit_47 rfl ?_
  refine U_getI hC fl_X2_29 dX2_admit_48 hq (fun v10 hq => ?_)
  refine V_iconst (v := 1) hC dX2_admit_51 (by decide) ?_
  refine V_iadd hC dX2_admit_52 ?_
  refine U_putO hC (by decide) fl_X2_29 fin_X2_2 rfl rfl dX2_admit_53 hq (fun h11 hq => ?_)
  refine V_aload_n hC dX2_admit_56 0 rfl ?_
  refine U_getI hC fl_X2_29 dX2_admit_57 hq (fun v12 hq => ?_)
  refine V_iconst (v := 1) hC dX2_admit_60 (by decide) ?_
  refine V_isub hC dX2_admit_61 ?_
  exact V_iret hC hQ rfl rfl ⟨by decide, by decide⟩ dX2_admit_62 ⟨_, rfl, hq⟩
theorem clV_X2_admit {G : Gx} (hG : GOK G) {Γ : Cx} {own : String} {cc : ByteArray} {nL fr lo mc ms cells slots pc : Nat} {hh : List (Nat × Nat × Nat × Nat)} {h : hw} {L : List (Nat × Value)} {rest : List Value} (hC : COK G Γ own cc nL fr lo mc ms hh) {idx : Nat} (hs : SV own idx yX2_admit cX2_admit 4 (some .int) 3) {p0 : Nat} {p1 : Int32} {p2 : Int32} {p3 : Int32} (hR : 2 + 1 ≤ fr ∧ 8 + (4 + 11) + 52 ≤ lo) (hw8 : (rest.map fun v => v.category).sum ≤ 8) (hcs : cells + 0 ≤ mc ∧ slots + 0 ≤ ms) (hdg : decode cc pc = .ok (.invokevirtual idx, 3)) (ho : isO h p0 2) {post : Int32 → hw → Prop} (hq : wp_X2_admit G p0 p1 p2 p3 h post) (kk : ∀ (r : Int32) (h1 : hw) , post r h1 → V G Γ nL (cells + 0) (slots + 0) h1 (pc + 3) L (.int r :: rest)) : V G Γ nL cells slots h pc L (.int p3 :: .int p2 :: .int p1 :: .ref p0 :: rest) :=
  V_callV (As := [.int p1, .int p2, .int p3]) (r9 := (RX2, TX2, 5)) hC (ct_X2_admit hG p0 p1 p2 p3 h post hq) hs ho rfl rfl rfl hR hw8 hcs hdg (fun E h1 z => z.elim) (fun v h1 z => by obtain ⟨r, rfl, hz⟩ := z; exact kk r h1 hz)
set_option maxRecDepth 100000 in
set_option maxHeartbeats 4000000 in
theorem ct_X7_fillWith {G : Gx} (hG : GOK G) (p0 : Nat) (p1 : Int32) (h0 : hw) (post : hw → Prop) (hq : wp_X7_fillWith G p0 p1 h0 post) : CT G yX7_fillWith cX7_fillWith 3 none 1 30 0 0 [.ref p0, .int p1] h0 (fun v h1 => v = none ∧ post h1) (fun E h1 => False) := by
  refine CT_of hG (by decide) (Nat.le_of_ble_eq_true rfl) (fun Γ hC hQ hN => ?_)
  have hC : COK G Γ "Bandplan$Row" cX7_fillWith 3 1 30 0 0 [] := hC
  unfold wp_X7_fillWith at hq
  show V G Γ 3 0 0 h0 0 [(0, .ref p0), (1, .int p1)] []
  refine V_iconst (v := 0) hC dX7_fillWith_0 (by decide) ?_
  refine V_istore_n (L' := [(0, .ref p0), (1, .int p1), (2, .int 0)]) hC dX7_fillWith_1 rfl (by decide) [1, 2, 0] rfl ?_
  have hq := hq (fun (x2_1 : Int32) (h2 : hw) => V G Γ 3 0 0 h2 2 [(0, .ref p0), (1, .int p1), (2, .int x2_1)] []) (by
    intro x2_1 h2 hq
    show V G Γ 3 0 0 h2 2 [(0, .ref p0), (1, .int p1), (2, .int x2_1)] []
    refine V_iload_n hC dX7_fillWith_2 2 rfl ?_
    refine V_aload_n hC dX7_fillWith_3 0 rfl ?_
    refine U_getR hC fl_X7_7 dX7_fillWith_4 hq (fun v3 hq => ?_)
    refine U_lnI hC dX7_fillWith_7 hq (fun v4 hq => ?_)
    refine V_icmp_ge (tgt := 24) hC dX7_fillWith_8 (by decide) (fun hc => ?_) (fun hc => ?_)
    · have hq := hq.1 hc
      exact V_vret hC hQ ⟨by decide, by decide⟩ dX7_fillWith_24 ⟨rfl, hq⟩
    · have hq := hq.2 hc
      refine V_aload_n hC dX7_fillWith_11 0 rfl ?_
      refine U_getR hC fl_X7_7 dX7_fillWith_12 hq (fun v5 hq => ?_)
      refine V_iload_n hC dX7_fillWith_15 2 rfl ?_
      refine V_iload_n hC dX7_fillWith_16 1 rfl ?_
      refine U_stI hC dX7_fillWith_17 hq (fun h6 hq => ?_)
      refine V_iinc (j := 2) (v := (x2_1 + 1)) (L' := [(0, .ref p0), (1, .int p1), (2, .int (x2_1 + 1))]) hC dX7_fillWith_18 rfl rfl (by decide) [1, 2, 0] rfl ?_
      refine V_goto (tgt := 2) hC dX7_fillWith_21 (by decide) ?_
      exact hq)
  exact hq
theorem clV_X7_fillWith {G : Gx} (hG : GOK G) {Γ : Cx} {own : String} {cc : ByteArray} {nL fr lo mc ms cells slots pc : Nat} {hh : List (Nat × Nat × Nat × Nat)} {h : hw} {L : List (Nat × Value)} {rest : List Value} (hC : COK G Γ own cc nL fr lo mc ms hh) {idx : Nat} (hs : SV own idx yX7_fillWith cX7_fillWith 3 none 1) {p0 : Nat} {p1 : Int32} (hR : 1 + 1 ≤ fr ∧ 8 + (3 + 11) + 30 ≤ lo) (hw8 : (rest.map fun v => v.category).sum ≤ 8) (hcs : cells + 0 ≤ mc ∧ slots + 0 ≤ ms) (hdg : decode cc pc = .ok (.invokevirtual idx, 3)) (ho : isO h p0 7) {post : hw → Prop} (hq : wp_X7_fillWith G p0 p1 h post) (kk : ∀ (h1 : hw) , post h1 → V G Γ nL (cells + 0) (slots + 0) h1 (pc + 3) L (rest)) : V G Γ nL cells slots h pc L (.int p1 :: .ref p0 :: rest) :=
  V_callV (As := [.int p1]) (r9 := (RX7, TX7, 1)) hC (ct_X7_fillWith hG p0 p1 h post hq) hs ho rfl rfl rfl hR hw8 hcs hdg (fun E h1 z => z.elim) (fun v h1 z => by obtain ⟨rfl, hz⟩ := z; exact kk h1 hz)
