set_option maxRecDepth 100000 in
set_option maxHeartbeats 4000000 in
theorem ct_L_phaseOf {G : Gx} (hG : GOK G) (p0 : Nat) (p1 : Int32) (p2 : Nat) (h0 : hw) (post : Int32 → hw → Prop) (hq : wp_L_phaseOf G p0 p1 p2 h0 post) : CTW G yL_phaseOf cL_phaseOf 4 (some .int) [(0, 9, 12, 13), (0, 9, 15, 42)] 8 138 2 12 [.ref p0, .int p1, .ref p2] h0 (fun v h1 => ∃ r : Int32, v = some (.int r) ∧ post r h1) (fun E h1 => False) := by
  refine CTW_of hG (by decide) (Nat.le_of_ble_eq_true rfl) (fun Γ hC hQ => ?_)
  have hC : COK G Γ "BandplanLaw" cL_phaseOf 4 8 138 2 12 [(0, 9, 12, 13), (0, 9, 15, 42)] := hC
  unfold wp_L_phaseOf at hq
  show V G Γ 4 0 0 h0 0 [(0, .ref p0), (1, .int p1), (2, .ref p2)] []
  refine V_aload_n hC dL_phaseOf_0 2 rfl ?_
  refine V_iconst (v := 0) hC dL_phaseOf_1 (by decide) ?_
  refine V_aload_n hC dL_phaseOf_2 0 rfl ?_
  refine V_iload_n hC dL_phaseOf_3 1 rfl ?_
  obtain ⟨hz, hq⟩ := hq
  refine clV_X11_phaseOf hG hC sv_L_109 ⟨by decide, by decide⟩ (Nat.le_of_ble_eq_true rfl) ⟨by decide, by decide⟩ dL_phaseOf_4 hz hq ?_ (fun r1 hq => ?_)
  · intro E hx
    obtain ⟨k0, k1, ho⟩ := hx
    rcases ho with rfl | rfl
    · have hq := k0 rfl
      refine VX_catch (E := "java/lang/IndexOutOfBoundsException") hC [] (0, 9, 12, 13) [(0, 9, 15, 42)] rfl (fun _ h9 => nomatch h9) rfl (by decide) aw_2_164 (List.mem_filter.mpr ⟨nw_3_16, rfl⟩) (fun q => ?_)
      show V G Γ 4 2 12 h0 12 [(0, .ref p0), (1, .int p1), (2, .ref p2)] [.ref q]
      refine V_astore_n (L' := [(0, .ref p0), (1, .int p1), (2, .ref p2), (3, .ref q)]) hC dL_phaseOf_12 rfl (by decide) [1, 2, 3, 0] rfl ?_
      refine V_iconst (v := 1) hC dL_phaseOf_13 (by decide) ?_
      exact V_iret hC hQ rfl rfl ⟨by decide, by decide⟩ dL_phaseOf_14 ⟨_, rfl, hq⟩
    · have hq := k1 rfl
      refine VX_catch (E := "java/util/NoSuchElementException") hC [(0, 9, 12, 13)] (0, 9, 15, 42) [] rfl (List.forall_mem_cons.mpr ⟨⟨by decide, "java/lang/IndexOutOfBoundsException", aw_2_164, by decide⟩, (fun _ h9 => nomatch h9)⟩) rfl (by decide) aw_4_50 (List.mem_filter.mpr ⟨nw_4_80, rfl⟩) (fun q => ?_)
      show V G Γ 4 2 12 h0 15 [(0, .ref p0), (1, .int p1), (2, .ref p2)] [.ref q]
      refine V_astore_n (L' := [(0, .ref p0), (1, .int p1), (2, .ref p2), (3, .ref q)]) hC dL_phaseOf_15 rfl (by decide) [1, 2, 3, 0] rfl ?_
      refine V_iconst (v := 2) hC dL_phaseOf_16 (by decide) ?_
      exact V_iret hC hQ rfl rfl ⟨by decide, by decide⟩ dL_phaseOf_17 ⟨_, rfl, hq⟩
  show V G Γ 4 2 12 h0 7 [(0, .ref p0), (1, .int p1), (2, .ref p2)] [.int r1, .int 0, .ref p2]
  refine V_i2l hC dL_phaseOf_7 ?_
  refine U_stJ hC dL_phaseOf_8 hq (fun h2 hq => ?_)
  refine V_goto (tgt := 18) hC dL_phaseOf_9 (by decide) ?_
  refine V_iconst (v := 0) hC dL_phaseOf_18 (by decide) ?_
  exact V_iret hC hQ rfl rfl ⟨by decide, by decide⟩ dL_phaseOf_19 ⟨_, rfl, hq⟩
theorem clSX_L_phaseOf {G : Gx} (hG : GOK G) {Γ : Cx} {own : String} {cc : ByteArray} {nL fr lo mc ms cells slots pc : Nat} {hh : List (Nat × Nat × Nat × Nat)} {h : hw} {L : List (Nat × Value)} {rest : List Value} (hC : COK G Γ own cc nL fr lo mc ms hh) {idx : Nat} (hs : SSX own idx yL_phaseOf cL_phaseOf 4 (some .int) [(0, 9, 12, 13), (0, 9, 15, 42)] 3) {p0 : Nat} {p1 : Int32} {p2 : Nat} (hR : 8 + 1 ≤ fr ∧ 8 + (4 + 11) + 138 ≤ lo) (hw8 : (rest.map fun v => v.category).sum ≤ 8) (hcs : cells + 2 ≤ mc ∧ slots + 12 ≤ ms) (hdg : decode cc pc = .ok (.invokestatic idx, 3)) {post : Int32 → hw → Prop} (hq : wp_L_phaseOf G p0 p1 p2 h post) (kk : ∀ (r : Int32) (h1 : hw), post r h1 → V G Γ nL (cells + 2) (slots + 12) h1 (pc + 3) L (.int r :: rest)) : V G Γ nL cells slots h pc L (.ref p2 :: .int p1 :: .ref p0 :: rest) :=
  V_callSX (As := [.ref p0, .int p1, .ref p2]) hC (ct_L_phaseOf hG p0 p1 p2 h post hq) hs rfl hR hw8 hcs hdg (fun E h1 z => z.elim) (fun v h1 z => by obtain ⟨r, rfl, hz⟩ := z; exact kk r h1 hz)
set_option maxRecDepth 100000 in
set_option maxHeartbeats 4000000 in
theorem ct_L_onShare {G : Gx} (hG : GOK G) (p0 : Nat) (p1 : Nat) (h0 : hw) (post : Int32 → hw → Prop) (hq : wp_L_onShare G p0 p1 h0 post) : CTW G yL_onShare cL_onShare 3 (some .int) [(0, 8, 11, 116)] 7 111 1 6 [.ref p0, .ref p1] h0 (fun v h1 => ∃ r : Int32, v = some (.int r) ∧ post r h1) (fun E h1 => False) := by
  refine CTW_of hG (by decide) (Nat.le_of_ble_eq_true rfl) (fun Γ hC hQ => ?_)
  have hC : COK G Γ "BandplanLaw" cL_onShare 3 7 111 1 6 [(0, 8, 11, 116)] := hC
  unfold wp_L_onShare at hq
  show V G Γ 3 0 0 h0 0 [(0, .ref p0), (1, .ref p1)] []
  refine V_aload_n hC dL_onShare_0 1 rfl ?_
  refine V_iconst (v := 0) hC dL_onShare_1 (by decide) ?_
  refine V_aload_n hC dL_onShare_2 0 rfl ?_
  obtain ⟨hz, hq⟩ := hq
  refine clV_X11_onShare hG hC sv_L_112 ⟨by decide, by decide⟩ (Nat.le_of_ble_eq_true rfl) ⟨by decide, by decide⟩ dL_onShare_3 hz hq ?_ (fun r1 hq => ?_)
  · intro E hx
    obtain ⟨k0, ho⟩ := hx
    subst ho
    have hq := k0 rfl
    refine VX_catch (E := "java/lang/ArithmeticException") hC [] (0, 8, 11, 116) [] rfl (fun _ h9 => nomatch h9) rfl (by decide) aw_5_222 (List.mem_filter.mpr ⟨nw_5_234, rfl⟩) (fun q => ?_)
    show V G Γ 3 1 6 h0 11 [(0, .ref p0), (1, .ref p1)] [.ref q]
    refine V_astore_n (L' := [(0, .ref p0), (1, .ref p1), (2, .ref q)]) hC dL_onShare_11 rfl (by decide) [1, 2, 0] rfl ?_
    refine V_iconst (v := 1) hC dL_onShare_12 (by decide) ?_
    exact V_iret hC hQ rfl rfl ⟨by decide, by decide⟩ dL_onShare_13 ⟨_, rfl, hq⟩
  show V G Γ 3 1 6 h0 6 [(0, .ref p0), (1, .ref p1)] [.float r1, .int 0, .ref p1]
  obtain ⟨hz, hq⟩ := hq
  refine V_f2d hC dL_onShare_6 hz ?_
  refine U_stD hC dL_onShare_7 hq (fun h2 hq => ?_)
  refine V_goto (tgt := 14) hC dL_onShare_8 (by decide) ?_
  refine V_iconst (v := 0) hC dL_onShare_14 (by decide) ?_
  exact V_iret hC hQ rfl rfl ⟨by decide, by decide⟩ dL_onShare_15 ⟨_, rfl, hq⟩
theorem clSX_L_onShare {G : Gx} (hG : GOK G) {Γ : Cx} {own : String} {cc : ByteArray} {nL fr lo mc ms cells slots pc : Nat} {hh : List (Nat × Nat × Nat × Nat)} {h : hw} {L : List (Nat × Value)} {rest : List Value} (hC : COK G Γ own cc nL fr lo mc ms hh) {idx : Nat} (hs : SSX own idx yL_onShare cL_onShare 3 (some .int) [(0, 8, 11, 116)] 2) {p0 : Nat} {p1 : Nat} (hR : 7 + 1 ≤ fr ∧ 8 + (3 + 11) + 111 ≤ lo) (hw8 : (rest.map fun v => v.category).sum ≤ 8) (hcs : cells + 1 ≤ mc ∧ slots + 6 ≤ ms) (hdg : decode cc pc = .ok (.invokestatic idx, 3)) {post : Int32 → hw → Prop} (hq : wp_L_onShare G p0 p1 h post) (kk : ∀ (r : Int32) (h1 : hw), post r h1 → V G Γ nL (cells + 1) (slots + 6) h1 (pc + 3) L (.int r :: rest)) : V G Γ nL cells slots h pc L (.ref p1 :: .ref p0 :: rest) :=
  V_callSX (As := [.ref p0, .ref p1]) hC (ct_L_onShare hG p0 p1 h post hq) hs rfl hR hw8 hcs hdg (fun E h1 z => z.elim) (fun v h1 z => by obtain ⟨r, rfl, hz⟩ := z; exact kk r h1 hz)
set_option maxRecDepth 100000 in
set_option maxHeartbeats 4000000 in
theorem ct_L_meanLevel {G : Gx} (hG : GOK G) (p0 : Nat) (p1 : Nat) (h0 : hw) (post : Int32 → hw → Prop) (hq : wp_L_meanLevel G p0 p1 h0 post) : CTW G yL_meanLevel cL_meanLevel 3 (some .int) [(0, 7, 10, 116)] 7 117 1 6 [.ref p0, .ref p1] h0 (fun v h1 => ∃ r : Int32, v = some (.int r) ∧ post r h1) (fun E h1 => False) := by
  refine CTW_of hG (by decide) (Nat.le_of_ble_eq_true rfl) (fun Γ hC hQ => ?_)
  have hC : COK G Γ "BandplanLaw" cL_meanLevel 3 7 117 1 6 [(0, 7, 10, 116)] := hC
  unfold wp_L_meanLevel at hq
  show V G Γ 3 0 0 h0 0 [(0, .ref p0), (1, .ref p1)] []
  refine V_aload_n hC dL_meanLevel_0 1 rfl ?_
  refine V_iconst (v := 0) hC dL_meanLevel_1 (by decide) ?_
  refine V_aload_n hC dL_meanLevel_2 0 rfl ?_
  obtain ⟨hz, hq⟩ := hq
  refine clV_X11_meanLevel hG hC sv_L_118 ⟨by decide, by decide⟩ (Nat.le_of_ble_eq_true rfl) ⟨by decide, by decide⟩ dL_meanLevel_3 hz hq ?_ (fun r1 hq => ?_)
  · intro E hx
    obtain ⟨k0, ho⟩ := hx
    subst ho
    have hq := k0 rfl
    refine VX_catch (E := "java/lang/ArithmeticException") hC [] (0, 7, 10, 116) [] rfl (fun _ h9 => nomatch h9) rfl (by decide) aw_5_222 (List.mem_filter.mpr ⟨nw_5_234, rfl⟩) (fun q => ?_)
    show V G Γ 3 1 6 h0 10 [(0, .ref p0), (1, .ref p1)] [.ref q]
    refine V_astore_n (L' := [(0, .ref p0), (1, .ref p1), (2, .ref q)]) hC dL_meanLevel_10 rfl (by decide) [1, 2, 0] rfl ?_
    refine V_iconst (v := 1) hC dL_meanLevel_11 (by decide) ?_
    exact V_iret hC hQ rfl rfl ⟨by decide, by decide⟩ dL_meanLevel_12 ⟨_, rfl, hq⟩
  show V G Γ 3 1 6 h0 6 [(0, .ref p0), (1, .ref p1)] [.double r1, .int 0, .ref p1]
  refine U_stD hC dL_meanLevel_6 hq (fun h2 hq => ?_)
  refine V_goto (tgt := 13) hC dL_meanLevel_7 (by decide) ?_
  refine V_iconst (v := 0) hC dL_meanLevel_13 (by decide) ?_
  exact V_iret hC hQ rfl rfl ⟨by decide, by decide⟩ dL_meanLevel_14 ⟨_, rfl, hq⟩
theorem clSX_L_meanLevel {G : Gx} (hG : GOK G) {Γ : Cx} {own : String} {cc : ByteArray} {nL fr lo mc ms cells slots pc : Nat} {hh : List (Nat × Nat × Nat × Nat)} {h : hw} {L : List (Nat × Value)} {rest : List Value} (hC : COK G Γ own cc nL fr lo mc ms hh) {idx : Nat} (hs : SSX own idx yL_meanLevel cL_meanLevel 3 (some .int) [(0, 7, 10, 116)] 2) {p0 : Nat} {p1 : Nat} (hR : 7 + 1 ≤ fr ∧ 8 + (3 + 11) + 117 ≤ lo) (hw8 : (rest.map fun v => v.category).sum ≤ 8) (hcs : cells + 1 ≤ mc ∧ slots + 6 ≤ ms) (hdg : decode cc pc = .ok (.invokestatic idx, 3)) {post : Int32 → hw → Prop} (hq : wp_L_meanLevel G p0 p1 h post) (kk : ∀ (r : Int32) (h1 : hw), post r h1 → V G Γ nL (cells + 1) (slots + 6) h1 (pc + 3) L (.int r :: rest)) : V G Γ nL cells slots h pc L (.ref p1 :: .ref p0 :: rest) :=
  V_callSX (As := [.ref p0, .ref p1]) hC (ct_L_meanLevel hG p0 p1 h post hq) hs rfl hR hw8 hcs hdg (fun E h1 z => z.elim) (fun v h1 z => by obtain ⟨r, rfl, hz⟩ := z; exact kk r h1 hz)
set_option maxRecDepth 100000 in
set_option maxHeartbeats 4000000 in
theorem ct_law_192 {G : Gx} (hG : GOK G) {Γ : Cx} (hC : COK G Γ "BandplanLaw" cL_law 9 2048 94400 603072 7219306 []) (hE : LEND G Γ) {b N : Nat} {xs : Nat → Int32} (hX : LSCR G Γ b N xs) (px pm po pd : Nat) (i : Int32) (h0 : hw) (uc us : Nat) (J : hw → Nat → Nat → Prop) (hJ : ∀ (h1 : hw) (c1 u1 : Nat), J h1 c1 u1 → c1 ≤ 603072 → u1 ≤ 7219306 → V G Γ 9 c1 u1 h1 2279 [(0, .ref b), (1, .ref px), (2, .ref pm), (3, .ref po), (4, .ref pd), (5, .int i)] []) (hq : wp_law_192 G N xs px pm po pd i h0 uc us J) (hu1 : uc ≤ 603072) (hu2 : us ≤ 7219306) : V G Γ 9 uc us h0 192 [(0, .ref b), (1, .ref px), (2, .ref pm), (3, .ref po), (4, .ref pd), (5, .int i)] [] := by
  unfold wp_law_192 at hq
  refine V_aload_n hC dL_law_192 1 rfl ?_
  refine V_aload_n hC dL_law_193 0 rfl ?_
  refine V_iload hC dL_law_194 5 rfl ?_
  refine V_iconst (v := 1) hC dL_law_196 (by decide) ?_
  refine V_iadd hC dL_law_197 ?_
  obtain ⟨hz, hq⟩ := hq
  refine V_sld hC hX hz dL_law_198 ?_
  refine V_aload_n hC dL_law_199 0 rfl ?_
  refine V_iload hC dL_law_200 5 rfl ?_
  refine V_iconst (v := 2) hC dL_law_202 (by decide) ?_
  refine V_iadd hC dL_law_203 ?_
  obtain ⟨hz, hq⟩ := hq
  refine V_sld hC hX hz dL_law_204 ?_
  refine V_aload_n hC dL_law_205 0 rfl ?_
  refine V_iload hC dL_law_206 5 rfl ?_
  refine V_iconst (v := 3) hC dL_law_208 (by decide) ?_
  refine V_iadd hC dL_law_209 ?_
  obtain ⟨hz, hq⟩ := hq
  refine V_sld hC hX hz dL_law_210 ?_
  refine V_aload_n hC dL_law_211 3 rfl ?_
  obtain ⟨hz1, hz2, hq⟩ := hq
  refine clSX_L_setGround hG hC ssx_L_126 ⟨by decide, by decide⟩ (Nat.le_of_ble_eq_true rfl) ⟨hz1, hz2⟩ dL_law_212 hq (fun r1 h2 hq => ?_)
  show V G Γ 9 (uc + 3) (us + 18) h2 215 [(0, .ref b), (1, .ref px), (2, .ref pm), (3, .ref po), (4, .ref pd), (5, .int i)] [.int r1]
  refine V_istore (L' := [(0, .ref b), (1, .ref px), (2, .ref pm), (3, .ref po), (4, .ref pd), (5, .int i), (6, .int r1)]) hC dL_law_215 (by decide) [1, 2, 3, 4, 5, 6, 0] rfl ?_
  refine V_aload_n hC dL_law_217 2 rfl ?_
  refine V_aload_n hC dL_law_218 0 rfl ?_
  refine V_iload hC dL_law_219 5 rfl ?_
  refine V_iconst (v := 1) hC dL_law_221 (by decide) ?_
  refine V_iadd hC dL_law_222 ?_
  obtain ⟨hz, hq⟩ := hq
  refine V_sld hC hX hz dL_law_223 ?_
  refine V_aload_n hC dL_law_224 0 rfl ?_
  refine V_iload hC dL_law_225 5 rfl ?_
  refine V_iconst (v := 2) hC dL_law_227 (by decide) ?_
  refine V_iadd hC dL_law_228 ?_
  obtain ⟨hz, hq⟩ := hq
  refine V_sld hC hX hz dL_law_229 ?_
  refine V_aload_n hC dL_law_230 0 rfl ?_
  refine V_iload hC dL_law_231 5 rfl ?_
  refine V_iconst (v := 3) hC dL_law_233 (by decide) ?_
  refine V_iadd hC dL_law_234 ?_
  obtain ⟨hz, hq⟩ := hq
  refine V_sld hC hX hz dL_law_235 ?_
  obtain ⟨hz, hq⟩ := hq
  refine clV_X12_setGround hG hC sv_L_131 ⟨by decide, by decide⟩ (Nat.le_of_ble_eq_true rfl) ⟨by omega, by omega⟩ dL_law_236 hz hq (fun r3 h4 hq => ?_)
  show V G Γ 9 (uc + 3) (us + 18) h4 239 [(0, .ref b), (1, .ref px), (2, .ref pm), (3, .ref po), (4, .ref pd), (5, .int i), (6, .int r1)] [.int r3]
  refine V_istore (L' := [(0, .ref b), (1, .ref px), (2, .ref pm), (3, .ref po), (4, .ref pd), (5, .int i), (6, .int r1), (7, .int r3)]) hC dL_law_239 (by decide) [1, 2, 3, 4, 5, 6, 7, 0] rfl ?_
  refine V_aload_n hC dL_law_241 2 rfl ?_
  obtain ⟨hz, hq⟩ := hq
  refine clV_X12_thrown hG hC sv_L_132 ⟨by decide, by decide⟩ (Nat.le_of_ble_eq_true rfl) ⟨by omega, by omega⟩ dL_law_242 hz hq (fun r5 hq => ?_)
  show V G Γ 9 (uc + 3) (us + 18) h4 245 [(0, .ref b), (1, .ref px), (2, .ref pm), (3, .ref po), (4, .ref pd), (5, .int i), (6, .int r1), (7, .int r3)] [.int r5]
  refine V_iload hC dL_law_245 6 rfl ?_
  refine V_icmp_eq (tgt := 252) hC dL_law_247 (by decide) (fun hc => ?_) (fun hc => ?_)
  · have hq := hq.1 hc
    refine V_iload hC dL_law_252 6 rfl ?_
    have hq := hq (V G Γ 9 (uc + 3) (us + 18) h4 269 [(0, .ref b), (1, .ref px), (2, .ref pm), (3, .ref po), (4, .ref pd), (5, .int i)] []) (by
      intro hq
      show V G Γ 9 (uc + 3) (us + 18) h4 269 [(0, .ref b), (1, .ref px), (2, .ref pm), (3, .ref po), (4, .ref pd), (5, .int i)] []
      refine V_goto (tgt := 2279) hC dL_law_269 (by decide) ?_
      exact hJ _ _ _ hq (by omega) (by omega))
    refine V_if_ne (tgt := 269) hC dL_law_254 (by decide) (fun hc => ?_) (fun hc => ?_)
    · have hq := hq.1 hc
      refine V_sub [0, 1, 2, 3, 4, 5] rfl ?_
      exact hq
    · have hq := hq.2 hc
      refine V_aload_n hC dL_law_257 3 rfl ?_
      refine V_iconst (v := 0) hC dL_law_258 (by decide) ?_
      refine U_ldJ hC dL_law_259 hq (fun v6 hq => ?_)
      refine V_iload hC dL_law_260 7 rfl ?_
      refine V_i2l hC dL_law_262 ?_
      refine V_lcmp hC dL_law_263 ?_
      refine V_if_eq (tgt := 269) hC dL_law_264 (by decide) (fun hc => ?_) (fun hc => ?_)
      · have hq := hq.1 hc
        refine V_sub [0, 1, 2, 3, 4, 5] rfl ?_
        exact hq
      · have hq := hq.2 hc
        refine V_iconst (v := 0) hC dL_law_267 (by decide) ?_
        exact hq.elim
  · have hq := hq.2 hc
    refine V_iconst (v := 0) hC dL_law_250 (by decide) ?_
    exact hq.elim
set_option maxRecDepth 100000 in
set_option maxHeartbeats 4000000 in
theorem ct_law_272 {G : Gx} (hG : GOK G) {Γ : Cx} (hC : COK G Γ "BandplanLaw" cL_law 9 2048 94400 603072 7219306 []) (hE : LEND G Γ) {b N : Nat} {xs : Nat → Int32} (hX : LSCR G Γ b N xs) (px pm po pd : Nat) (i : Int32) (h0 : hw) (uc us : Nat) (J : hw → Nat → Nat → Prop) (hJ : ∀ (h1 : hw) (c1 u1 : Nat), J h1 c1 u1 → c1 ≤ 603072 → u1 ≤ 7219306 → V G Γ 9 c1 u1 h1 2279 [(0, .ref b), (1, .ref px), (2, .ref pm), (3, .ref po), (4, .ref pd), (5, .int i)] []) (hq : wp_law_272 G N xs px pm po pd i h0 uc us J) (hu1 : uc ≤ 603072) (hu2 : us ≤ 7219306) : V G Γ 9 uc us h0 272 [(0, .ref b), (1, .ref px), (2, .ref pm), (3, .ref po), (4, .ref pd), (5, .int i)] [] := by
  unfold wp_law_272 at hq
  refine V_aload_n hC dL_law_272 1 rfl ?_
  refine V_aload_n hC dL_law_273 0 rfl ?_
  refine V_iload hC dL_law_274 5 rfl ?_
  refine V_iconst (v := 1) hC dL_law_276 (by decide) ?_
  refine V_iadd hC dL_law_277 ?_
  obtain ⟨hz, hq⟩ := hq
  refine V_sld hC hX hz dL_law_278 ?_
  refine V_aload_n hC dL_law_279 0 rfl ?_
  refine V_iload hC dL_law_280 5 rfl ?_
  refine V_iconst (v := 2) hC dL_law_282 (by decide) ?_
  refine V_iadd hC dL_law_283 ?_
  obtain ⟨hz, hq⟩ := hq
  refine V_sld hC hX hz dL_law_284 ?_
  refine V_aload_n hC dL_law_285 0 rfl ?_
  refine V_iload hC dL_law_286 5 rfl ?_
  refine V_iconst (v := 3) hC dL_law_288 (by decide) ?_
  refine V_iadd hC dL_law_289 ?_
  obtain ⟨hz, hq⟩ := hq
  refine V_sld hC hX hz dL_law_290 ?_
  refine V_aload_n hC dL_law_291 3 rfl ?_
  obtain ⟨hz1, hz2, hq⟩ := hq
  refine clSX_L_addSite hG hC ssx_L_136 ⟨by decide, by decide⟩ (Nat.le_of_ble_eq_true rfl) ⟨hz1, hz2⟩ dL_law_292 hq (fun r1 h2 hq => ?_)
  show V G Γ 9 (uc + 4) (us + 25) h2 295 [(0, .ref b), (1, .ref px), (2, .ref pm), (3, .ref po), (4, .ref pd), (5, .int i)] [.int r1]
  refine V_istore (L' := [(0, .ref b), (1, .ref px), (2, .ref pm), (3, .ref po), (4, .ref pd), (5, .int i), (6, .int r1)]) hC dL_law_295 (by decide) [1, 2, 3, 4, 5, 6, 0] rfl ?_
  refine V_aload_n hC dL_law_297 2 rfl ?_
  refine V_aload_n hC dL_law_298 0 rfl ?_
  refine V_iload hC dL_law_299 5 rfl ?_
  refine V_iconst (v := 1) hC dL_law_301 (by decide) ?_
  refine V_iadd hC dL_law_302 ?_
  obtain ⟨hz, hq⟩ := hq
  refine V_sld hC hX hz dL_law_303 ?_
  refine V_aload_n hC dL_law_304 0 rfl ?_
  refine V_iload hC dL_law_305 5 rfl ?_
  refine V_iconst (v := 2) hC dL_law_307 (by decide) ?_
  refine V_iadd hC dL_law_308 ?_
  obtain ⟨hz, hq⟩ := hq
  refine V_sld hC hX hz dL_law_309 ?_
  refine V_aload_n hC dL_law_310 0 rfl ?_
  refine V_iload hC dL_law_311 5 rfl ?_
  refine V_iconst (v := 3) hC dL_law_313 (by decide) ?_
  refine V_iadd hC dL_law_314 ?_
  obtain ⟨hz, hq⟩ := hq
  refine V_sld hC hX hz dL_law_315 ?_
  obtain ⟨hz, hq⟩ := hq
  refine clV_X12_addSite hG hC sv_L_138 ⟨by decide, by decide⟩ (Nat.le_of_ble_eq_true rfl) ⟨by omega, by omega⟩ dL_law_316 hz hq (fun r3 h4 hq => ?_)
  show V G Γ 9 (uc + 4) (us + 25) h4 319 [(0, .ref b), (1, .ref px), (2, .ref pm), (3, .ref po), (4, .ref pd), (5, .int i), (6, .int r1)] [.int r3]
  refine V_istore (L' := [(0, .ref b), (1, .ref px), (2, .ref pm), (3, .ref po), (4, .ref pd), (5, .int i), (6, .int r1), (7, .int r3)]) hC dL_law_319 (by decide) [1, 2, 3, 4, 5, 6, 7, 0] rfl ?_
  refine V_aload_n hC dL_law_321 2 rfl ?_
  obtain ⟨hz, hq⟩ := hq
  refine clV_X12_thrown hG hC sv_L_132 ⟨by decide, by decide⟩ (Nat.le_of_ble_eq_true rfl) ⟨by omega, by omega⟩ dL_law_322 hz hq (fun r5 hq => ?_)
  show V G Γ 9 (uc + 4) (us + 25) h4 325 [(0, .ref b), (1, .ref px), (2, .ref pm), (3, .ref po), (4, .ref pd), (5, .int i), (6, .int r1), (7, .int r3)] [.int r5]
  refine V_iload hC dL_law_325 6 rfl ?_
  refine V_icmp_eq (tgt := 332) hC dL_law_327 (by decide) (fun hc => ?_) (fun hc => ?_)
  · have hq := hq.1 hc
    refine V_iload hC dL_law_332 6 rfl ?_
    have hq := hq (V G Γ 9 (uc + 4) (us + 25) h4 349 [(0, .ref b), (1, .ref px), (2, .ref pm), (3, .ref po), (4, .ref pd), (5, .int i)] []) (by
      intro hq
      show V G Γ 9 (uc + 4) (us + 25) h4 349 [(0, .ref b), (1, .ref px), (2, .ref pm), (3, .ref po), (4, .ref pd), (5, .int i)] []
      refine V_goto (tgt := 2279) hC dL_law_349 (by decide) ?_
      exact hJ _ _ _ hq (by omega) (by omega))
    refine V_if_ne (tgt := 349) hC dL_law_334 (by decide) (fun hc => ?_) (fun hc => ?_)
    · have hq := hq.1 hc
      refine V_sub [0, 1, 2, 3, 4, 5] rfl ?_
      exact hq
    · have hq := hq.2 hc
      refine V_aload_n hC dL_law_337 3 rfl ?_
      refine V_iconst (v := 0) hC dL_law_338 (by decide) ?_
      refine U_ldJ hC dL_law_339 hq (fun v6 hq => ?_)
      refine V_iload hC dL_law_340 7 rfl ?_
      refine V_i2l hC dL_law_342 ?_
      refine V_lcmp hC dL_law_343 ?_
      refine V_if_eq (tgt := 349) hC dL_law_344 (by decide) (fun hc => ?_) (fun hc => ?_)
      · have hq := hq.1 hc
        refine V_sub [0, 1, 2, 3, 4, 5] rfl ?_
        exact hq
      · have hq := hq.2 hc
        refine V_iconst (v := 0) hC dL_law_347 (by decide) ?_
        exact hq.elim
  · have hq := hq.2 hc
    refine V_iconst (v := 0) hC dL_law_330 (by decide) ?_
    exact hq.elim
set_option maxRecDepth 100000 in
set_option maxHeartbeats 4000000 in
theorem ct_law_352 {G : Gx} (hG : GOK G) {Γ : Cx} (hC : COK G Γ "BandplanLaw" cL_law 9 2048 94400 603072 7219306 []) (hE : LEND G Γ) {b N : Nat} {xs : Nat → Int32} (hX : LSCR G Γ b N xs) (px pm po pd : Nat) (i : Int32) (h0 : hw) (uc us : Nat) (J : hw → Nat → Nat → Prop) (hJ : ∀ (h1 : hw) (c1 u1 : Nat), J h1 c1 u1 → c1 ≤ 603072 → u1 ≤ 7219306 → V G Γ 9 c1 u1 h1 2279 [(0, .ref b), (1, .ref px), (2, .ref pm), (3, .ref po), (4, .ref pd), (5, .int i)] []) (hq : wp_law_352 G N xs px pm po pd i h0 uc us J) (hu1 : uc ≤ 603072) (hu2 : us ≤ 7219306) : V G Γ 9 uc us h0 352 [(0, .ref b), (1, .ref px), (2, .ref pm), (3, .ref po), (4, .ref pd), (5, .int i)] [] := by
  unfold wp_law_352 at hq
  refine V_aload_n hC dL_law_352 1 rfl ?_
  refine V_aload_n hC dL_law_353 0 rfl ?_
  refine V_iload hC dL_law_354 5 rfl ?_
  refine V_iconst (v := 1) hC dL_law_356 (by decide) ?_
  refine V_iadd hC dL_law_357 ?_
  obtain ⟨hz, hq⟩ := hq
  refine V_sld hC hX hz dL_law_358 ?_
  refine V_aload_n hC dL_law_359 0 rfl ?_
  refine V_iload hC dL_law_360 5 rfl ?_
  refine V_iconst (v := 2) hC dL_law_362 (by decide) ?_
  refine V_iadd hC dL_law_363 ?_
  obtain ⟨hz, hq⟩ := hq
  refine V_sld hC hX hz dL_law_364 ?_
  refine V_aload_n hC dL_law_365 3 rfl ?_
  obtain ⟨hz1, hz2, hq⟩ := hq
  refine clSX_L_loss hG hC ssx_L_139 ⟨by decide, by decide⟩ (Nat.le_of_ble_eq_true rfl) ⟨hz1, hz2⟩ dL_law_366 hq (fun r1 h2 hq => ?_)
  show V G Γ 9 (uc + 2) (us + 12) h2 369 [(0, .ref b), (1, .ref px), (2, .ref pm), (3, .ref po), (4, .ref pd), (5, .int i)] [.int r1]
  refine V_istore (L' := [(0, .ref b), (1, .ref px), (2, .ref pm), (3, .ref po), (4, .ref pd), (5, .int i), (6, .int r1)]) hC dL_law_369 (by decide) [1, 2, 3, 4, 5, 6, 0] rfl ?_
  refine V_aload_n hC dL_law_371 2 rfl ?_
  refine V_aload_n hC dL_law_372 0 rfl ?_
  refine V_iload hC dL_law_373 5 rfl ?_
  refine V_iconst (v := 1) hC dL_law_375 (by decide) ?_
  refine V_iadd hC dL_law_376 ?_
  obtain ⟨hz, hq⟩ := hq
  refine V_sld hC hX hz dL_law_377 ?_
  refine V_aload_n hC dL_law_378 0 rfl ?_
  refine V_iload hC dL_law_379 5 rfl ?_
  refine V_iconst (v := 2) hC dL_law_381 (by decide) ?_
  refine V_iadd hC dL_law_382 ?_
  obtain ⟨hz, hq⟩ := hq
  refine V_sld hC hX hz dL_law_383 ?_
  obtain ⟨hz, hq⟩ := hq
  refine clV_X12_loss hG hC sv_L_142 ⟨by decide, by decide⟩ (Nat.le_of_ble_eq_true rfl) ⟨by omega, by omega⟩ dL_law_384 hz hq (fun r3 h4 hq => ?_)
  show V G Γ 9 (uc + 2) (us + 12) h4 387 [(0, .ref b), (1, .ref px), (2, .ref pm), (3, .ref po), (4, .ref pd), (5, .int i), (6, .int r1)] [.int r3]
  refine V_istore (L' := [(0, .ref b), (1, .ref px), (2, .ref pm), (3, .ref po), (4, .ref pd), (5, .int i), (6, .int r1), (7, .int r3)]) hC dL_law_387 (by decide) [1, 2, 3, 4, 5, 6, 7, 0] rfl ?_
  refine V_aload_n hC dL_law_389 2 rfl ?_
  obtain ⟨hz, hq⟩ := hq
  refine clV_X12_thrown hG hC sv_L_132 ⟨by decide, by decide⟩ (Nat.le_of_ble_eq_true rfl) ⟨by omega, by omega⟩ dL_law_390 hz hq (fun r5 hq => ?_)
  show V G Γ 9 (uc + 2) (us + 12) h4 393 [(0, .ref b), (1, .ref px), (2, .ref pm), (3, .ref po), (4, .ref pd), (5, .int i), (6, .int r1), (7, .int r3)] [.int r5]
  refine V_iload hC dL_law_393 6 rfl ?_
  refine V_icmp_eq (tgt := 400) hC dL_law_395 (by decide) (fun hc => ?_) (fun hc => ?_)
  · have hq := hq.1 hc
    refine V_iload hC dL_law_400 6 rfl ?_
    have hq := hq (V G Γ 9 (uc + 2) (us + 12) h4 417 [(0, .ref b), (1, .ref px), (2, .ref pm), (3, .ref po), (4, .ref pd), (5, .int i)] []) (by
      intro hq
      show V G Γ 9 (uc + 2) (us + 12) h4 417 [(0, .ref b), (1, .ref px), (2, .ref pm), (3, .ref po), (4, .ref pd), (5, .int i)] []
      refine V_goto (tgt := 2279) hC dL_law_417 (by decide) ?_
      exact hJ _ _ _ hq (by omega) (by omega))
    refine V_if_ne (tgt := 417) hC dL_law_402 (by decide) (fun hc => ?_) (fun hc => ?_)
    · have hq := hq.1 hc
      refine V_sub [0, 1, 2, 3, 4, 5] rfl ?_
      exact hq
    · have hq := hq.2 hc
      refine V_aload_n hC dL_law_405 3 rfl ?_
      refine V_iconst (v := 0) hC dL_law_406 (by decide) ?_
      refine U_ldJ hC dL_law_407 hq (fun v6 hq => ?_)
      refine V_iload hC dL_law_408 7 rfl ?_
      refine V_i2l hC dL_law_410 ?_
      refine V_lcmp hC dL_law_411 ?_
      refine V_if_eq (tgt := 417) hC dL_law_412 (by decide) (fun hc => ?_) (fun hc => ?_)
      · have hq := hq.1 hc
        refine V_sub [0, 1, 2, 3, 4, 5] rfl ?_
        exact hq
      · have hq := hq.2 hc
        refine V_iconst (v := 0) hC dL_law_415 (by decide) ?_
        exact hq.elim
  · have hq := hq.2 hc
    refine V_iconst (v := 0) hC dL_law_398 (by decide) ?_
    exact hq.elim
set_option maxRecDepth 100000 in
set_option maxHeartbeats 4000000 in
theorem ct_law_420 {G : Gx} (hG : GOK G) {Γ : Cx} (hC : COK G Γ "BandplanLaw" cL_law 9 2048 94400 603072 7219306 []) (hE : LEND G Γ) {b N : Nat} {xs : Nat → Int32} (hX : LSCR G Γ b N xs) (px pm po pd : Nat) (i : Int32) (h0 : hw) (uc us : Nat) (J : hw → Nat → Nat → Prop) (hJ : ∀ (h1 : hw) (c1 u1 : Nat), J h1 c1 u1 → c1 ≤ 603072 → u1 ≤ 7219306 → V G Γ 9 c1 u1 h1 2279 [(0, .ref b), (1, .ref px), (2, .ref pm), (3, .ref po), (4, .ref pd), (5, .int i)] []) (hq : wp_law_420 G N xs px pm po pd i h0 uc us J) (hu1 : uc ≤ 603072) (hu2 : us ≤ 7219306) : V G Γ 9 uc us h0 420 [(0, .ref b), (1, .ref px), (2, .ref pm), (3, .ref po), (4, .ref pd), (5, .int i)] [] := by
  unfold wp_law_420 at hq
  refine V_aload_n hC dL_law_420 1 rfl ?_
  refine V_aload_n hC dL_law_421 0 rfl ?_
  refine V_iload hC dL_law_422 5 rfl ?_
  refine V_iconst (v := 1) hC dL_law_424 (by decide) ?_
  refine V_iadd hC dL_law_425 ?_
  obtain ⟨hz, hq⟩ := hq
  refine V_sld hC hX hz dL_law_426 ?_
  refine V_aload_n hC dL_law_427 0 rfl ?_
  refine V_iload hC dL_law_428 5 rfl ?_
  refine V_iconst (v := 2) hC dL_law_430 (by decide) ?_
  refine V_iadd hC dL_law_431 ?_
  obtain ⟨hz, hq⟩ := hq
  refine V_sld hC hX hz dL_law_432 ?_
  refine V_aload_n hC dL_law_433 0 rfl ?_
  refine V_iload hC dL_law_434 5 rfl ?_
  refine V_iconst (v := 3) hC dL_law_436 (by decide) ?_
  refine V_iadd hC dL_law_437 ?_
  obtain ⟨hz, hq⟩ := hq
  refine V_sld hC hX hz dL_law_438 ?_
  refine V_aload_n hC dL_law_439 0 rfl ?_
  refine V_iload hC dL_law_440 5 rfl ?_
  refine V_iconst (v := 4) hC dL_law_442 (by decide) ?_
  refine V_iadd hC dL_law_443 ?_
  obtain ⟨hz, hq⟩ := hq
  refine V_sld hC hX hz dL_law_444 ?_
  have hq := hq (fun (t1 : Nat) (t2 : Int32) (t3 : Int32) (t4 : Int32) (t5 : Int32) => V G Γ 9 uc us h0 453 [(0, .ref b), (1, .ref px), (2, .ref pm), (3, .ref po), (4, .ref pd), (5, .int i)] [.int t5, .int t4, .int t3, .int t2, .ref t1]) (by
    intro t1 t2 t3 t4 t5 hq
    show V G Γ 9 uc us h0 453 [(0, .ref b), (1, .ref px), (2, .ref pm), (3, .ref po), (4, .ref pd), (5, .int i)] [.int t5, .int t4, .int t3, .int t2, .ref t1]
    refine V_aload_n hC dL_law_453 3 rfl ?_
    obtain ⟨hz1, hz2, hq⟩ := hq
    refine clSX_L_addStation hG hC ssx_L_143 ⟨by decide, by decide⟩ (Nat.le_of_ble_eq_true rfl) ⟨hz1, hz2⟩ dL_law_454 hq (fun r6 h7 hq => ?_)
    show V G Γ 9 (uc + 5) (us + 34) h7 457 [(0, .ref b), (1, .ref px), (2, .ref pm), (3, .ref po), (4, .ref pd), (5, .int i)] [.int r6]
    refine V_istore (L' := [(0, .ref b), (1, .ref px), (2, .ref pm), (3, .ref po), (4, .ref pd), (5, .int i), (6, .int r6)]) hC dL_law_457 (by decide) [1, 2, 3, 4, 5, 6, 0] rfl ?_
    refine V_aload_n hC dL_law_459 2 rfl ?_
    refine V_aload_n hC dL_law_460 0 rfl ?_
    refine V_iload hC dL_law_461 5 rfl ?_
    refine V_iconst (v := 1) hC dL_law_463 (by decide) ?_
    refine V_iadd hC dL_law_464 ?_
    obtain ⟨hz, hq⟩ := hq
    refine V_sld hC hX hz dL_law_465 ?_
    refine V_aload_n hC dL_law_466 0 rfl ?_
    refine V_iload hC dL_law_467 5 rfl ?_
    refine V_iconst (v := 2) hC dL_law_469 (by decide) ?_
    refine V_iadd hC dL_law_470 ?_
    obtain ⟨hz, hq⟩ := hq
    refine V_sld hC hX hz dL_law_471 ?_
    refine V_aload_n hC dL_law_472 0 rfl ?_
    refine V_iload hC dL_law_473 5 rfl ?_
    refine V_iconst (v := 3) hC dL_law_475 (by decide) ?_
    refine V_iadd hC dL_law_476 ?_
    obtain ⟨hz, hq⟩ := hq
    refine V_sld hC hX hz dL_law_477 ?_
    refine V_aload_n hC dL_law_478 0 rfl ?_
    refine V_iload hC dL_law_479 5 rfl ?_
    refine V_iconst (v := 4) hC dL_law_481 (by decide) ?_
    refine V_iadd hC dL_law_482 ?_
    obtain ⟨hz, hq⟩ := hq
    refine V_sld hC hX hz dL_law_483 ?_
    have hq := hq (fun (t8 : Nat) (t9 : Int32) (t10 : Int32) (t11 : Int32) (t12 : Int32) => V G Γ 9 (uc + 5) (us + 34) h7 492 [(0, .ref b), (1, .ref px), (2, .ref pm), (3, .ref po), (4, .ref pd), (5, .int i), (6, .int r6)] [.int t12, .int t11, .int t10, .int t9, .ref t8]) (by
      intro t8 t9 t10 t11 t12 hq
      show V G Γ 9 (uc + 5) (us + 34) h7 492 [(0, .ref b), (1, .ref px), (2, .ref pm), (3, .ref po), (4, .ref pd), (5, .int i), (6, .int r6)] [.int t12, .int t11, .int t10, .int t9, .ref t8]
      obtain ⟨hz1, hz2, hq⟩ := hq
      obtain ⟨hz, hq⟩ := hq
      refine clV_X12_addStation hG hC sv_L_146 ⟨by decide, by decide⟩ (Nat.le_of_ble_eq_true rfl) ⟨hz1, hz2⟩ dL_law_492 hz hq (fun r13 h14 hq => ?_)
      show V G Γ 9 ((uc + 5) + 2) ((us + 34) + 13) h14 495 [(0, .ref b), (1, .ref px), (2, .ref pm), (3, .ref po), (4, .ref pd), (5, .int i), (6, .int r6)] [.int r13]
      refine V_istore (L' := [(0, .ref b), (1, .ref px), (2, .ref pm), (3, .ref po), (4, .ref pd), (5, .int i), (6, .int r6), (7, .int r13)]) hC dL_law_495 (by decide) [1, 2, 3, 4, 5, 6, 7, 0] rfl ?_
      refine V_aload_n hC dL_law_497 2 rfl ?_
      obtain ⟨hz, hq⟩ := hq
      refine clV_X12_thrown hG hC sv_L_132 ⟨by decide, by decide⟩ (Nat.le_of_ble_eq_true rfl) ⟨by omega, by omega⟩ dL_law_498 hz hq (fun r15 hq => ?_)
      show V G Γ 9 ((uc + 5) + 2) ((us + 34) + 13) h14 501 [(0, .ref b), (1, .ref px), (2, .ref pm), (3, .ref po), (4, .ref pd), (5, .int i), (6, .int r6), (7, .int r13)] [.int r15]
      refine V_iload hC dL_law_501 6 rfl ?_
      refine V_icmp_eq (tgt := 508) hC dL_law_503 (by decide) (fun hc => ?_) (fun hc => ?_)
      · have hq := hq.1 hc
        refine V_iload hC dL_law_508 6 rfl ?_
        have hq := hq (V G Γ 9 ((uc + 5) + 2) ((us + 34) + 13) h14 525 [(0, .ref b), (1, .ref px), (2, .ref pm), (3, .ref po), (4, .ref pd), (5, .int i)] []) (by
          intro hq
          show V G Γ 9 ((uc + 5) + 2) ((us + 34) + 13) h14 525 [(0, .ref b), (1, .ref px), (2, .ref pm), (3, .ref po), (4, .ref pd), (5, .int i)] []
          refine V_goto (tgt := 2279) hC dL_law_525 (by decide) ?_
          exact hJ _ _ _ hq (by omega) (by omega))
        refine V_if_ne (tgt := 525) hC dL_law_510 (by decide) (fun hc => ?_) (fun hc => ?_)
        · have hq := hq.1 hc
          refine V_sub [0, 1, 2, 3, 4, 5] rfl ?_
          exact hq
        · have hq := hq.2 hc
          refine V_aload_n hC dL_law_513 3 rfl ?_
          refine V_iconst (v := 0) hC dL_law_514 (by decide) ?_
          refine U_ldJ hC dL_law_515 hq (fun v16 hq => ?_)
          refine V_iload hC dL_law_516 7 rfl ?_
          refine V_i2l hC dL_law_518 ?_
          refine V_lcmp hC dL_law_519 ?_
          refine V_if_eq (tgt := 525) hC dL_law_520 (by decide) (fun hc => ?_) (fun hc => ?_)
          · have hq := hq.1 hc
            refine V_sub [0, 1, 2, 3, 4, 5] rfl ?_
            exact hq
          · have hq := hq.2 hc
            refine V_iconst (v := 0) hC dL_law_523 (by decide) ?_
            exact hq.elim
      · have hq := hq.2 hc
        refine V_iconst (v := 0) hC dL_law_506 (by decide) ?_
        exact hq.elim)
    refine V_if_eq (tgt := 491) hC dL_law_484 (by decide) (fun hc => ?_) (fun hc => ?_)
    · have hq := hq.1 hc
      refine V_iconst (v := 0) hC dL_law_491 (by decide) ?_
      exact hq
    · have hq := hq.2 hc
      refine V_iconst (v := 1) hC dL_law_487 (by decide) ?_
      refine V_goto (tgt := 492) hC dL_law_488 (by decide) ?_
      exact hq)
  refine V_if_eq (tgt := 452) hC dL_law_445 (by decide) (fun hc => ?_) (fun hc => ?_)
  · have hq := hq.1 hc
    refine V_iconst (v := 0) hC dL_law_452 (by decide) ?_
    exact hq
  · have hq := hq.2 hc
    refine V_iconst (v := 1) hC dL_law_448 (by decide) ?_
    refine V_goto (tgt := 453) hC dL_law_449 (by decide) ?_
    exact hq
set_option maxRecDepth 100000 in
set_option maxHeartbeats 4000000 in
theorem ct_law_528 {G : Gx} (hG : GOK G) {Γ : Cx} (hC : COK G Γ "BandplanLaw" cL_law 9 2048 94400 603072 7219306 []) (hE : LEND G Γ) {b N : Nat} {xs : Nat → Int32} (hX : LSCR G Γ b N xs) (px pm po pd : Nat) (i : Int32) (h0 : hw) (uc us : Nat) (J : hw → Nat → Nat → Prop) (hJ : ∀ (h1 : hw) (c1 u1 : Nat), J h1 c1 u1 → c1 ≤ 603072 → u1 ≤ 7219306 → V G Γ 9 c1 u1 h1 2279 [(0, .ref b), (1, .ref px), (2, .ref pm), (3, .ref po), (4, .ref pd), (5, .int i)] []) (hq : wp_law_528 G N xs px pm po pd i h0 uc us J) (hu1 : uc ≤ 603072) (hu2 : us ≤ 7219306) : V G Γ 9 uc us h0 528 [(0, .ref b), (1, .ref px), (2, .ref pm), (3, .ref po), (4, .ref pd), (5, .int i)] [] := by
  unfold wp_law_528 at hq
  refine V_aload_n hC dL_law_528 1 rfl ?_
  refine V_aload_n hC dL_law_529 0 rfl ?_
  refine V_iload hC dL_law_530 5 rfl ?_
  refine V_iconst (v := 1) hC dL_law_532 (by decide) ?_
  refine V_iadd hC dL_law_533 ?_
  obtain ⟨hz, hq⟩ := hq
  refine V_sld hC hX hz dL_law_534 ?_
  refine V_aload_n hC dL_law_535 3 rfl ?_
  obtain ⟨hz1, hz2, hq⟩ := hq
  refine clSX_L_setRatio hG hC ssx_L_147 ⟨by decide, by decide⟩ (Nat.le_of_ble_eq_true rfl) ⟨hz1, hz2⟩ dL_law_536 hq (fun r1 h2 hq => ?_)
  show V G Γ 9 (uc + 2) (us + 12) h2 539 [(0, .ref b), (1, .ref px), (2, .ref pm), (3, .ref po), (4, .ref pd), (5, .int i)] [.int r1]
  refine V_istore (L' := [(0, .ref b), (1, .ref px), (2, .ref pm), (3, .ref po), (4, .ref pd), (5, .int i), (6, .int r1)]) hC dL_law_539 (by decide) [1, 2, 3, 4, 5, 6, 0] rfl ?_
  refine V_aload_n hC dL_law_541 2 rfl ?_
  refine V_aload_n hC dL_law_542 0 rfl ?_
  refine V_iload hC dL_law_543 5 rfl ?_
  refine V_iconst (v := 1) hC dL_law_545 (by decide) ?_
  refine V_iadd hC dL_law_546 ?_
  obtain ⟨hz, hq⟩ := hq
  refine V_sld hC hX hz dL_law_547 ?_
  obtain ⟨hz, hq⟩ := hq
  refine clV_X12_setRatio hG hC sv_L_150 ⟨by decide, by decide⟩ (Nat.le_of_ble_eq_true rfl) ⟨by omega, by omega⟩ dL_law_548 hz hq (fun r3 h4 hq => ?_)
  show V G Γ 9 (uc + 2) (us + 12) h4 551 [(0, .ref b), (1, .ref px), (2, .ref pm), (3, .ref po), (4, .ref pd), (5, .int i), (6, .int r1)] [.int r3]
  refine V_istore (L' := [(0, .ref b), (1, .ref px), (2, .ref pm), (3, .ref po), (4, .ref pd), (5, .int i), (6, .int r1), (7, .int r3)]) hC dL_law_551 (by decide) [1, 2, 3, 4, 5, 6, 7, 0] rfl ?_
  refine V_aload_n hC dL_law_553 2 rfl ?_
  obtain ⟨hz, hq⟩ := hq
  refine clV_X12_thrown hG hC sv_L_132 ⟨by decide, by decide⟩ (Nat.le_of_ble_eq_true rfl) ⟨by omega, by omega⟩ dL_law_554 hz hq (fun r5 hq => ?_)
  show V G Γ 9 (uc + 2) (us + 12) h4 557 [(0, .ref b), (1, .ref px), (2, .ref pm), (3, .ref po), (4, .ref pd), (5, .int i), (6, .int r1), (7, .int r3)] [.int r5]
  refine V_iload hC dL_law_557 6 rfl ?_
  refine V_icmp_eq (tgt := 564) hC dL_law_559 (by decide) (fun hc => ?_) (fun hc => ?_)
  · have hq := hq.1 hc
    refine V_iload hC dL_law_564 6 rfl ?_
    have hq := hq (V G Γ 9 (uc + 2) (us + 12) h4 581 [(0, .ref b), (1, .ref px), (2, .ref pm), (3, .ref po), (4, .ref pd), (5, .int i)] []) (by
      intro hq
      show V G Γ 9 (uc + 2) (us + 12) h4 581 [(0, .ref b), (1, .ref px), (2, .ref pm), (3, .ref po), (4, .ref pd), (5, .int i)] []
      refine V_goto (tgt := 2279) hC dL_law_581 (by decide) ?_
      exact hJ _ _ _ hq (by omega) (by omega))
    refine V_if_ne (tgt := 581) hC dL_law_566 (by decide) (fun hc => ?_) (fun hc => ?_)
    · have hq := hq.1 hc
      refine V_sub [0, 1, 2, 3, 4, 5] rfl ?_
      exact hq
    · have hq := hq.2 hc
      refine V_aload_n hC dL_law_569 3 rfl ?_
      refine V_iconst (v := 0) hC dL_law_570 (by decide) ?_
      refine U_ldJ hC dL_law_571 hq (fun v6 hq => ?_)
      refine V_iload hC dL_law_572 7 rfl ?_
      refine V_i2l hC dL_law_574 ?_
      refine V_lcmp hC dL_law_575 ?_
      refine V_if_eq (tgt := 581) hC dL_law_576 (by decide) (fun hc => ?_) (fun hc => ?_)
      · have hq := hq.1 hc
        refine V_sub [0, 1, 2, 3, 4, 5] rfl ?_
        exact hq
      · have hq := hq.2 hc
        refine V_iconst (v := 0) hC dL_law_579 (by decide) ?_
        exact hq.elim
  · have hq := hq.2 hc
    refine V_iconst (v := 0) hC dL_law_562 (by decide) ?_
    exact hq.elim
set_option maxRecDepth 100000 in
set_option maxHeartbeats 4000000 in
theorem ct_law_584 {G : Gx} (hG : GOK G) {Γ : Cx} (hC : COK G Γ "BandplanLaw" cL_law 9 2048 94400 603072 7219306 []) (hE : LEND G Γ) {b N : Nat} {xs : Nat → Int32} (hX : LSCR G Γ b N xs) (px pm po pd : Nat) (i : Int32) (h0 : hw) (uc us : Nat) (J : hw → Nat → Nat → Prop) (hJ : ∀ (h1 : hw) (c1 u1 : Nat), J h1 c1 u1 → c1 ≤ 603072 → u1 ≤ 7219306 → V G Γ 9 c1 u1 h1 2279 [(0, .ref b), (1, .ref px), (2, .ref pm), (3, .ref po), (4, .ref pd), (5, .int i)] []) (hq : wp_law_584 G N xs px pm po pd i h0 uc us J) (hu1 : uc ≤ 603072) (hu2 : us ≤ 7219306) : V G Γ 9 uc us h0 584 [(0, .ref b), (1, .ref px), (2, .ref pm), (3, .ref po), (4, .ref pd), (5, .int i)] [] := by
  unfold wp_law_584 at hq
  refine V_aload_n hC dL_law_584 1 rfl ?_
  refine V_aload_n hC dL_law_585 0 rfl ?_
  refine V_iload hC dL_law_586 5 rfl ?_
  refine V_iconst (v := 1) hC dL_law_588 (by decide) ?_
  refine V_iadd hC dL_law_589 ?_
  obtain ⟨hz, hq⟩ := hq
  refine V_sld hC hX hz dL_law_590 ?_
  refine V_aload_n hC dL_law_591 3 rfl ?_
  obtain ⟨hz1, hz2, hq⟩ := hq
  refine clSX_L_level hG hC ssx_L_151 ⟨by decide, by decide⟩ (Nat.le_of_ble_eq_true rfl) ⟨hz1, hz2⟩ dL_law_592 hq (fun r1 h2 hq => ?_)
  show V G Γ 9 (uc + 1) (us + 6) h2 595 [(0, .ref b), (1, .ref px), (2, .ref pm), (3, .ref po), (4, .ref pd), (5, .int i)] [.int r1]
  refine V_istore (L' := [(0, .ref b), (1, .ref px), (2, .ref pm), (3, .ref po), (4, .ref pd), (5, .int i), (6, .int r1)]) hC dL_law_595 (by decide) [1, 2, 3, 4, 5, 6, 0] rfl ?_
  refine V_aload_n hC dL_law_597 2 rfl ?_
  refine V_aload_n hC dL_law_598 0 rfl ?_
  refine V_iload hC dL_law_599 5 rfl ?_
  refine V_iconst (v := 1) hC dL_law_601 (by decide) ?_
  refine V_iadd hC dL_law_602 ?_
  obtain ⟨hz, hq⟩ := hq
  refine V_sld hC hX hz dL_law_603 ?_
  obtain ⟨hz, hq⟩ := hq
  refine clV_X12_level hG hC sv_L_153 ⟨by decide, by decide⟩ (Nat.le_of_ble_eq_true rfl) ⟨by omega, by omega⟩ dL_law_604 hz hq (fun r3 h4 hq => ?_)
  show V G Γ 9 (uc + 1) (us + 6) h4 607 [(0, .ref b), (1, .ref px), (2, .ref pm), (3, .ref po), (4, .ref pd), (5, .int i), (6, .int r1)] [.int r3]
  refine V_istore (L' := [(0, .ref b), (1, .ref px), (2, .ref pm), (3, .ref po), (4, .ref pd), (5, .int i), (6, .int r1), (7, .int r3)]) hC dL_law_607 (by decide) [1, 2, 3, 4, 5, 6, 7, 0] rfl ?_
  refine V_aload_n hC dL_law_609 2 rfl ?_
  obtain ⟨hz, hq⟩ := hq
  refine clV_X12_thrown hG hC sv_L_132 ⟨by decide, by decide⟩ (Nat.le_of_ble_eq_true rfl) ⟨by omega, by omega⟩ dL_law_610 hz hq (fun r5 hq => ?_)
  show V G Γ 9 (uc + 1) (us + 6) h4 613 [(0, .ref b), (1, .ref px), (2, .ref pm), (3, .ref po), (4, .ref pd), (5, .int i), (6, .int r1), (7, .int r3)] [.int r5]
  refine V_iload hC dL_law_613 6 rfl ?_
  refine V_icmp_eq (tgt := 620) hC dL_law_615 (by decide) (fun hc => ?_) (fun hc => ?_)
  · have hq := hq.1 hc
    refine V_iload hC dL_law_620 6 rfl ?_
    have hq := hq (V G Γ 9 (uc + 1) (us + 6) h4 637 [(0, .ref b), (1, .ref px), (2, .ref pm), (3, .ref po), (4, .ref pd), (5, .int i)] []) (by
      intro hq
      show V G Γ 9 (uc + 1) (us + 6) h4 637 [(0, .ref b), (1, .ref px), (2, .ref pm), (3, .ref po), (4, .ref pd), (5, .int i)] []
      refine V_goto (tgt := 2279) hC dL_law_637 (by decide) ?_
      exact hJ _ _ _ hq (by omega) (by omega))
    refine V_if_ne (tgt := 637) hC dL_law_622 (by decide) (fun hc => ?_) (fun hc => ?_)
    · have hq := hq.1 hc
      refine V_sub [0, 1, 2, 3, 4, 5] rfl ?_
      exact hq
    · have hq := hq.2 hc
      refine V_aload_n hC dL_law_625 3 rfl ?_
      refine V_iconst (v := 0) hC dL_law_626 (by decide) ?_
      refine U_ldJ hC dL_law_627 hq (fun v6 hq => ?_)
      refine V_iload hC dL_law_628 7 rfl ?_
      refine V_i2l hC dL_law_630 ?_
      refine V_lcmp hC dL_law_631 ?_
      refine V_if_eq (tgt := 637) hC dL_law_632 (by decide) (fun hc => ?_) (fun hc => ?_)
      · have hq := hq.1 hc
        refine V_sub [0, 1, 2, 3, 4, 5] rfl ?_
        exact hq
      · have hq := hq.2 hc
        refine V_iconst (v := 0) hC dL_law_635 (by decide) ?_
        exact hq.elim
  · have hq := hq.2 hc
    refine V_iconst (v := 0) hC dL_law_618 (by decide) ?_
    exact hq.elim
set_option maxRecDepth 100000 in
set_option maxHeartbeats 4000000 in
theorem ct_law_640 {G : Gx} (hG : GOK G) {Γ : Cx} (hC : COK G Γ "BandplanLaw" cL_law 9 2048 94400 603072 7219306 []) (hE : LEND G Γ) {b N : Nat} {xs : Nat → Int32} (hX : LSCR G Γ b N xs) (px pm po pd : Nat) (i : Int32) (h0 : hw) (uc us : Nat) (J : hw → Nat → Nat → Prop) (hJ : ∀ (h1 : hw) (c1 u1 : Nat), J h1 c1 u1 → c1 ≤ 603072 → u1 ≤ 7219306 → V G Γ 9 c1 u1 h1 2279 [(0, .ref b), (1, .ref px), (2, .ref pm), (3, .ref po), (4, .ref pd), (5, .int i)] []) (hq : wp_law_640 G N xs px pm po pd i h0 uc us J) (hu1 : uc ≤ 603072) (hu2 : us ≤ 7219306) : V G Γ 9 uc us h0 640 [(0, .ref b), (1, .ref px), (2, .ref pm), (3, .ref po), (4, .ref pd), (5, .int i)] [] := by
  unfold wp_law_640 at hq
  refine V_aload_n hC dL_law_640 1 rfl ?_
  refine V_aload_n hC dL_law_641 0 rfl ?_
  refine V_iload hC dL_law_642 5 rfl ?_
  refine V_iconst (v := 1) hC dL_law_644 (by decide) ?_
  refine V_iadd hC dL_law_645 ?_
  obtain ⟨hz, hq⟩ := hq
  refine V_sld hC hX hz dL_law_646 ?_
  refine V_aload_n hC dL_law_647 3 rfl ?_
  obtain ⟨hz1, hz2, hq⟩ := hq
  refine clSX_L_harm hG hC ssx_L_154 ⟨by decide, by decide⟩ (Nat.le_of_ble_eq_true rfl) ⟨hz1, hz2⟩ dL_law_648 hq (fun r1 h2 hq => ?_)
  show V G Γ 9 (uc + 3) (us + 18) h2 651 [(0, .ref b), (1, .ref px), (2, .ref pm), (3, .ref po), (4, .ref pd), (5, .int i)] [.int r1]
  refine V_istore (L' := [(0, .ref b), (1, .ref px), (2, .ref pm), (3, .ref po), (4, .ref pd), (5, .int i), (6, .int r1)]) hC dL_law_651 (by decide) [1, 2, 3, 4, 5, 6, 0] rfl ?_
  refine V_aload_n hC dL_law_653 2 rfl ?_
  refine V_aload_n hC dL_law_654 0 rfl ?_
  refine V_iload hC dL_law_655 5 rfl ?_
  refine V_iconst (v := 1) hC dL_law_657 (by decide) ?_
  refine V_iadd hC dL_law_658 ?_
  obtain ⟨hz, hq⟩ := hq
  refine V_sld hC hX hz dL_law_659 ?_
  obtain ⟨hz, hq⟩ := hq
  refine clV_X12_harm hG hC sv_L_156 ⟨by decide, by decide⟩ (Nat.le_of_ble_eq_true rfl) ⟨by omega, by omega⟩ dL_law_660 hz hq (fun r3 h4 hq => ?_)
  show V G Γ 9 (uc + 3) (us + 18) h4 663 [(0, .ref b), (1, .ref px), (2, .ref pm), (3, .ref po), (4, .ref pd), (5, .int i), (6, .int r1)] [.int r3]
  refine V_istore (L' := [(0, .ref b), (1, .ref px), (2, .ref pm), (3, .ref po), (4, .ref pd), (5, .int i), (6, .int r1), (7, .int r3)]) hC dL_law_663 (by decide) [1, 2, 3, 4, 5, 6, 7, 0] rfl ?_
  refine V_aload_n hC dL_law_665 2 rfl ?_
  obtain ⟨hz, hq⟩ := hq
  refine clV_X12_thrown hG hC sv_L_132 ⟨by decide, by decide⟩ (Nat.le_of_ble_eq_true rfl) ⟨by omega, by omega⟩ dL_law_666 hz hq (fun r5 hq => ?_)
  show V G Γ 9 (uc + 3) (us + 18) h4 669 [(0, .ref b), (1, .ref px), (2, .ref pm), (3, .ref po), (4, .ref pd), (5, .int i), (6, .int r1), (7, .int r3)] [.int r5]
  refine V_iload hC dL_law_669 6 rfl ?_
  refine V_icmp_eq (tgt := 676) hC dL_law_671 (by decide) (fun hc => ?_) (fun hc => ?_)
  · have hq := hq.1 hc
    refine V_iload hC dL_law_676 6 rfl ?_
    have hq := hq (V G Γ 9 (uc + 3) (us + 18) h4 693 [(0, .ref b), (1, .ref px), (2, .ref pm), (3, .ref po), (4, .ref pd), (5, .int i)] []) (by
      intro hq
      show V G Γ 9 (uc + 3) (us + 18) h4 693 [(0, .ref b), (1, .ref px), (2, .ref pm), (3, .ref po), (4, .ref pd), (5, .int i)] []
      refine V_goto (tgt := 2279) hC dL_law_693 (by decide) ?_
      exact hJ _ _ _ hq (by omega) (by omega))
    refine V_if_ne (tgt := 693) hC dL_law_678 (by decide) (fun hc => ?_) (fun hc => ?_)
    · have hq := hq.1 hc
      refine V_sub [0, 1, 2, 3, 4, 5] rfl ?_
      exact hq
    · have hq := hq.2 hc
      refine V_aload_n hC dL_law_681 3 rfl ?_
      refine V_iconst (v := 0) hC dL_law_682 (by decide) ?_
      refine U_ldJ hC dL_law_683 hq (fun v6 hq => ?_)
      refine V_iload hC dL_law_684 7 rfl ?_
      refine V_i2l hC dL_law_686 ?_
      refine V_lcmp hC dL_law_687 ?_
      refine V_if_eq (tgt := 693) hC dL_law_688 (by decide) (fun hc => ?_) (fun hc => ?_)
      · have hq := hq.1 hc
        refine V_sub [0, 1, 2, 3, 4, 5] rfl ?_
        exact hq
      · have hq := hq.2 hc
        refine V_iconst (v := 0) hC dL_law_691 (by decide) ?_
        exact hq.elim
  · have hq := hq.2 hc
    refine V_iconst (v := 0) hC dL_law_674 (by decide) ?_
    exact hq.elim
set_option maxRecDepth 100000 in
set_option maxHeartbeats 4000000 in
theorem ct_law_696 {G : Gx} (hG : GOK G) {Γ : Cx} (hC : COK G Γ "BandplanLaw" cL_law 9 2048 94400 603072 7219306 []) (hE : LEND G Γ) {b N : Nat} {xs : Nat → Int32} (hX : LSCR G Γ b N xs) (px pm po pd : Nat) (i : Int32) (h0 : hw) (uc us : Nat) (J : hw → Nat → Nat → Prop) (hJ : ∀ (h1 : hw) (c1 u1 : Nat), J h1 c1 u1 → c1 ≤ 603072 → u1 ≤ 7219306 → V G Γ 9 c1 u1 h1 2279 [(0, .ref b), (1, .ref px), (2, .ref pm), (3, .ref po), (4, .ref pd), (5, .int i)] []) (hq : wp_law_696 G N xs px pm po pd i h0 uc us J) (hu1 : uc ≤ 603072) (hu2 : us ≤ 7219306) : V G Γ 9 uc us h0 696 [(0, .ref b), (1, .ref px), (2, .ref pm), (3, .ref po), (4, .ref pd), (5, .int i)] [] := by
  unfold wp_law_696 at hq
  refine V_aload_n hC dL_law_696 1 rfl ?_
  refine V_aload_n hC dL_law_697 0 rfl ?_
  refine V_iload hC dL_law_698 5 rfl ?_
  refine V_iconst (v := 1) hC dL_law_700 (by decide) ?_
  refine V_iadd hC dL_law_701 ?_
  obtain ⟨hz, hq⟩ := hq
  refine V_sld hC hX hz dL_law_702 ?_
  refine V_aload_n hC dL_law_703 3 rfl ?_
  obtain ⟨hz1, hz2, hq⟩ := hq
  refine clSX_L_keeps hG hC ssx_L_157 ⟨by decide, by decide⟩ (Nat.le_of_ble_eq_true rfl) ⟨hz1, hz2⟩ dL_law_704 hq (fun r1 h2 hq => ?_)
  show V G Γ 9 (uc + 2) (us + 12) h2 707 [(0, .ref b), (1, .ref px), (2, .ref pm), (3, .ref po), (4, .ref pd), (5, .int i)] [.int r1]
  refine V_istore (L' := [(0, .ref b), (1, .ref px), (2, .ref pm), (3, .ref po), (4, .ref pd), (5, .int i), (6, .int r1)]) hC dL_law_707 (by decide) [1, 2, 3, 4, 5, 6, 0] rfl ?_
  refine V_aload_n hC dL_law_709 2 rfl ?_
  refine V_aload_n hC dL_law_710 0 rfl ?_
  refine V_iload hC dL_law_711 5 rfl ?_
  refine V_iconst (v := 1) hC dL_law_713 (by decide) ?_
  refine V_iadd hC dL_law_714 ?_
  obtain ⟨hz, hq⟩ := hq
  refine V_sld hC hX hz dL_law_715 ?_
  obtain ⟨hz, hq⟩ := hq
  refine clV_X12_keeps hG hC sv_L_159 ⟨by decide, by decide⟩ (Nat.le_of_ble_eq_true rfl) ⟨by omega, by omega⟩ dL_law_716 hz hq (fun r3 h4 hq => ?_)
  show V G Γ 9 (uc + 2) (us + 12) h4 719 [(0, .ref b), (1, .ref px), (2, .ref pm), (3, .ref po), (4, .ref pd), (5, .int i), (6, .int r1)] [.int r3]
  refine V_istore (L' := [(0, .ref b), (1, .ref px), (2, .ref pm), (3, .ref po), (4, .ref pd), (5, .int i), (6, .int r1), (7, .int r3)]) hC dL_law_719 (by decide) [1, 2, 3, 4, 5, 6, 7, 0] rfl ?_
  refine V_aload_n hC dL_law_721 2 rfl ?_
  obtain ⟨hz, hq⟩ := hq
  refine clV_X12_thrown hG hC sv_L_132 ⟨by decide, by decide⟩ (Nat.le_of_ble_eq_true rfl) ⟨by omega, by omega⟩ dL_law_722 hz hq (fun r5 hq => ?_)
  show V G Γ 9 (uc + 2) (us + 12) h4 725 [(0, .ref b), (1, .ref px), (2, .ref pm), (3, .ref po), (4, .ref pd), (5, .int i), (6, .int r1), (7, .int r3)] [.int r5]
  refine V_iload hC dL_law_725 6 rfl ?_
  refine V_icmp_eq (tgt := 732) hC dL_law_727 (by decide) (fun hc => ?_) (fun hc => ?_)
  · have hq := hq.1 hc
    refine V_iload hC dL_law_732 6 rfl ?_
    have hq := hq (V G Γ 9 (uc + 2) (us + 12) h4 756 [(0, .ref b), (1, .ref px), (2, .ref pm), (3, .ref po), (4, .ref pd), (5, .int i)] []) (by
      intro hq
      show V G Γ 9 (uc + 2) (us + 12) h4 756 [(0, .ref b), (1, .ref px), (2, .ref pm), (3, .ref po), (4, .ref pd), (5, .int i)] []
      refine V_goto (tgt := 2279) hC dL_law_756 (by decide) ?_
      exact hJ _ _ _ hq (by omega) (by omega))
    refine V_if_ne (tgt := 756) hC dL_law_734 (by decide) (fun hc => ?_) (fun hc => ?_)
    · have hq := hq.1 hc
      refine V_sub [0, 1, 2, 3, 4, 5] rfl ?_
      exact hq
    · have hq := hq.2 hc
      refine V_aload_n hC dL_law_737 3 rfl ?_
      refine V_iconst (v := 0) hC dL_law_738 (by decide) ?_
      refine U_ldJ hC dL_law_739 hq (fun v6 hq => ?_)
      refine V_iload hC dL_law_740 7 rfl ?_
      have hq := hq (fun (t7 : Int64) (t8 : Int64) => V G Γ 9 (uc + 2) (us + 12) h4 750 [(0, .ref b), (1, .ref px), (2, .ref pm), (3, .ref po), (4, .ref pd), (5, .int i)] [.long t8, .long t7]) (by
        intro t7 t8 hq
        show V G Γ 9 (uc + 2) (us + 12) h4 750 [(0, .ref b), (1, .ref px), (2, .ref pm), (3, .ref po), (4, .ref pd), (5, .int i)] [.long t8, .long t7]
        refine V_lcmp hC dL_law_750 ?_
        refine V_if_eq (tgt := 756) hC dL_law_751 (by decide) (fun hc => ?_) (fun hc => ?_)
        · have hq := hq.1 hc
          exact hq
        · have hq := hq.2 hc
          refine V_iconst (v := 0) hC dL_law_754 (by decide) ?_
          exact hq.elim)
      refine V_if_eq (tgt := 749) hC dL_law_742 (by decide) (fun hc => ?_) (fun hc => ?_)
      · have hq := hq.1 hc
        refine V_lconst (v := 0) hC dL_law_749 (by decide) ?_
        refine V_sub [0, 1, 2, 3, 4, 5] rfl ?_
        exact hq
      · have hq := hq.2 hc
        refine V_lconst (v := 1) hC dL_law_745 (by decide) ?_
        refine V_goto (tgt := 750) hC dL_law_746 (by decide) ?_
        refine V_sub [0, 1, 2, 3, 4, 5] rfl ?_
        exact hq
  · have hq := hq.2 hc
    refine V_iconst (v := 0) hC dL_law_730 (by decide) ?_
    exact hq.elim
set_option maxRecDepth 100000 in
set_option maxHeartbeats 4000000 in
theorem ct_law_759 {G : Gx} (hG : GOK G) {Γ : Cx} (hC : COK G Γ "BandplanLaw" cL_law 9 2048 94400 603072 7219306 []) (hE : LEND G Γ) {b N : Nat} {xs : Nat → Int32} (hX : LSCR G Γ b N xs) (px pm po pd : Nat) (i : Int32) (h0 : hw) (uc us : Nat) (J : hw → Nat → Nat → Prop) (hJ : ∀ (h1 : hw) (c1 u1 : Nat), J h1 c1 u1 → c1 ≤ 603072 → u1 ≤ 7219306 → V G Γ 9 c1 u1 h1 2279 [(0, .ref b), (1, .ref px), (2, .ref pm), (3, .ref po), (4, .ref pd), (5, .int i)] []) (hq : wp_law_759 G N xs px pm po pd i h0 uc us J) (hu1 : uc ≤ 603072) (hu2 : us ≤ 7219306) : V G Γ 9 uc us h0 759 [(0, .ref b), (1, .ref px), (2, .ref pm), (3, .ref po), (4, .ref pd), (5, .int i)] [] := by
  unfold wp_law_759 at hq
  refine V_aload_n hC dL_law_759 1 rfl ?_
  refine V_aload_n hC dL_law_760 0 rfl ?_
  refine V_iload hC dL_law_761 5 rfl ?_
  refine V_iconst (v := 1) hC dL_law_763 (by decide) ?_
  refine V_iadd hC dL_law_764 ?_
  obtain ⟨hz, hq⟩ := hq
  refine V_sld hC hX hz dL_law_765 ?_
  refine V_aload_n hC dL_law_766 0 rfl ?_
  refine V_iload hC dL_law_767 5 rfl ?_
  refine V_iconst (v := 2) hC dL_law_769 (by decide) ?_
  refine V_iadd hC dL_law_770 ?_
  obtain ⟨hz, hq⟩ := hq
  refine V_sld hC hX hz dL_law_771 ?_
  refine V_aload_n hC dL_law_772 0 rfl ?_
  refine V_iload hC dL_law_773 5 rfl ?_
  refine V_iconst (v := 3) hC dL_law_775 (by decide) ?_
  refine V_iadd hC dL_law_776 ?_
  obtain ⟨hz, hq⟩ := hq
  refine V_sld hC hX hz dL_law_777 ?_
  refine V_aload_n hC dL_law_778 0 rfl ?_
  refine V_iload hC dL_law_779 5 rfl ?_
  refine V_iconst (v := 4) hC dL_law_781 (by decide) ?_
  refine V_iadd hC dL_law_782 ?_
  obtain ⟨hz, hq⟩ := hq
  refine V_sld hC hX hz dL_law_783 ?_
  refine V_aload_n hC dL_law_784 3 rfl ?_
  obtain ⟨hz1, hz2, hq⟩ := hq
  refine clSX_L_bars hG hC ssx_L_160 ⟨by decide, by decide⟩ (Nat.le_of_ble_eq_true rfl) ⟨hz1, hz2⟩ dL_law_785 hq (fun r1 h2 hq => ?_)
  show V G Γ 9 (uc + 4) (us + 24) h2 788 [(0, .ref b), (1, .ref px), (2, .ref pm), (3, .ref po), (4, .ref pd), (5, .int i)] [.int r1]
  refine V_istore (L' := [(0, .ref b), (1, .ref px), (2, .ref pm), (3, .ref po), (4, .ref pd), (5, .int i), (6, .int r1)]) hC dL_law_788 (by decide) [1, 2, 3, 4, 5, 6, 0] rfl ?_
  refine V_aload_n hC dL_law_790 2 rfl ?_
  refine V_aload_n hC dL_law_791 0 rfl ?_
  refine V_iload hC dL_law_792 5 rfl ?_
  refine V_iconst (v := 1) hC dL_law_794 (by decide) ?_
  refine V_iadd hC dL_law_795 ?_
  obtain ⟨hz, hq⟩ := hq
  refine V_sld hC hX hz dL_law_796 ?_
  refine V_aload_n hC dL_law_797 0 rfl ?_
  refine V_iload hC dL_law_798 5 rfl ?_
  refine V_iconst (v := 2) hC dL_law_800 (by decide) ?_
  refine V_iadd hC dL_law_801 ?_
  obtain ⟨hz, hq⟩ := hq
  refine V_sld hC hX hz dL_law_802 ?_
  refine V_aload_n hC dL_law_803 0 rfl ?_
  refine V_iload hC dL_law_804 5 rfl ?_
  refine V_iconst (v := 3) hC dL_law_806 (by decide) ?_
  refine V_iadd hC dL_law_807 ?_
  obtain ⟨hz, hq⟩ := hq
  refine V_sld hC hX hz dL_law_808 ?_
  refine V_aload_n hC dL_law_809 0 rfl ?_
  refine V_iload hC dL_law_810 5 rfl ?_
  refine V_iconst (v := 4) hC dL_law_812 (by decide) ?_
  refine V_iadd hC dL_law_813 ?_
  obtain ⟨hz, hq⟩ := hq
  refine V_sld hC hX hz dL_law_814 ?_
  obtain ⟨hz, hq⟩ := hq
  refine clV_X12_bars hG hC sv_L_163 ⟨by decide, by decide⟩ (Nat.le_of_ble_eq_true rfl) ⟨by omega, by omega⟩ dL_law_815 hz hq (fun r3 h4 hq => ?_)
  show V G Γ 9 (uc + 4) (us + 24) h4 818 [(0, .ref b), (1, .ref px), (2, .ref pm), (3, .ref po), (4, .ref pd), (5, .int i), (6, .int r1)] [.int r3]
  refine V_istore (L' := [(0, .ref b), (1, .ref px), (2, .ref pm), (3, .ref po), (4, .ref pd), (5, .int i), (6, .int r1), (7, .int r3)]) hC dL_law_818 (by decide) [1, 2, 3, 4, 5, 6, 7, 0] rfl ?_
  refine V_aload_n hC dL_law_820 2 rfl ?_
  obtain ⟨hz, hq⟩ := hq
  refine clV_X12_thrown hG hC sv_L_132 ⟨by decide, by decide⟩ (Nat.le_of_ble_eq_true rfl) ⟨by omega, by omega⟩ dL_law_821 hz hq (fun r5 hq => ?_)
  show V G Γ 9 (uc + 4) (us + 24) h4 824 [(0, .ref b), (1, .ref px), (2, .ref pm), (3, .ref po), (4, .ref pd), (5, .int i), (6, .int r1), (7, .int r3)] [.int r5]
  refine V_iload hC dL_law_824 6 rfl ?_
  refine V_icmp_eq (tgt := 831) hC dL_law_826 (by decide) (fun hc => ?_) (fun hc => ?_)
  · have hq := hq.1 hc
    refine V_iload hC dL_law_831 6 rfl ?_
    have hq := hq (V G Γ 9 (uc + 4) (us + 24) h4 855 [(0, .ref b), (1, .ref px), (2, .ref pm), (3, .ref po), (4, .ref pd), (5, .int i)] []) (by
      intro hq
      show V G Γ 9 (uc + 4) (us + 24) h4 855 [(0, .ref b), (1, .ref px), (2, .ref pm), (3, .ref po), (4, .ref pd), (5, .int i)] []
      refine V_goto (tgt := 2279) hC dL_law_855 (by decide) ?_
      exact hJ _ _ _ hq (by omega) (by omega))
    refine V_if_ne (tgt := 855) hC dL_law_833 (by decide) (fun hc => ?_) (fun hc => ?_)
    · have hq := hq.1 hc
      refine V_sub [0, 1, 2, 3, 4, 5] rfl ?_
      exact hq
    · have hq := hq.2 hc
      refine V_aload_n hC dL_law_836 3 rfl ?_
      refine V_iconst (v := 0) hC dL_law_837 (by decide) ?_
      refine U_ldJ hC dL_law_838 hq (fun v6 hq => ?_)
      refine V_iload hC dL_law_839 7 rfl ?_
      have hq := hq (fun (t7 : Int64) (t8 : Int64) => V G Γ 9 (uc + 4) (us + 24) h4 849 [(0, .ref b), (1, .ref px), (2, .ref pm), (3, .ref po), (4, .ref pd), (5, .int i)] [.long t8, .long t7]) (by
        intro t7 t8 hq
        show V G Γ 9 (uc + 4) (us + 24) h4 849 [(0, .ref b), (1, .ref px), (2, .ref pm), (3, .ref po), (4, .ref pd), (5, .int i)] [.long t8, .long t7]
        refine V_lcmp hC dL_law_849 ?_
        refine V_if_eq (tgt := 855) hC dL_law_850 (by decide) (fun hc => ?_) (fun hc => ?_)
        · have hq := hq.1 hc
          exact hq
        · have hq := hq.2 hc
          refine V_iconst (v := 0) hC dL_law_853 (by decide) ?_
          exact hq.elim)
      refine V_if_eq (tgt := 848) hC dL_law_841 (by decide) (fun hc => ?_) (fun hc => ?_)
      · have hq := hq.1 hc
        refine V_lconst (v := 0) hC dL_law_848 (by decide) ?_
        refine V_sub [0, 1, 2, 3, 4, 5] rfl ?_
        exact hq
      · have hq := hq.2 hc
        refine V_lconst (v := 1) hC dL_law_844 (by decide) ?_
        refine V_goto (tgt := 849) hC dL_law_845 (by decide) ?_
        refine V_sub [0, 1, 2, 3, 4, 5] rfl ?_
        exact hq
  · have hq := hq.2 hc
    refine V_iconst (v := 0) hC dL_law_829 (by decide) ?_
    exact hq.elim
set_option maxRecDepth 100000 in
set_option maxHeartbeats 4000000 in
theorem ct_law_858 {G : Gx} (hG : GOK G) {Γ : Cx} (hC : COK G Γ "BandplanLaw" cL_law 9 2048 94400 603072 7219306 []) (hE : LEND G Γ) {b N : Nat} {xs : Nat → Int32} (hX : LSCR G Γ b N xs) (px pm po pd : Nat) (i : Int32) (h0 : hw) (uc us : Nat) (J : hw → Nat → Nat → Prop) (hJ : ∀ (h1 : hw) (c1 u1 : Nat), J h1 c1 u1 → c1 ≤ 603072 → u1 ≤ 7219306 → V G Γ 9 c1 u1 h1 2279 [(0, .ref b), (1, .ref px), (2, .ref pm), (3, .ref po), (4, .ref pd), (5, .int i)] []) (hq : wp_law_858 G N xs px pm po pd i h0 uc us J) (hu1 : uc ≤ 603072) (hu2 : us ≤ 7219306) : V G Γ 9 uc us h0 858 [(0, .ref b), (1, .ref px), (2, .ref pm), (3, .ref po), (4, .ref pd), (5, .int i)] [] := by
  unfold wp_law_858 at hq
  refine V_aload_n hC dL_law_858 1 rfl ?_
  refine V_aload_n hC dL_law_859 0 rfl ?_
  refine V_iload hC dL_law_860 5 rfl ?_
  refine V_iconst (v := 1) hC dL_law_862 (by decide) ?_
  refine V_iadd hC dL_law_863 ?_
  obtain ⟨hz, hq⟩ := hq
  refine V_sld hC hX hz dL_law_864 ?_
  refine V_aload_n hC dL_law_865 0 rfl ?_
  refine V_iload hC dL_law_866 5 rfl ?_
  refine V_iconst (v := 2) hC dL_law_868 (by decide) ?_
  refine V_iadd hC dL_law_869 ?_
  obtain ⟨hz, hq⟩ := hq
  refine V_sld hC hX hz dL_law_870 ?_
  refine V_aload_n hC dL_law_871 3 rfl ?_
  obtain ⟨hz1, hz2, hq⟩ := hq
  refine clSX_L_putOn hG hC ssx_L_164 ⟨by decide, by decide⟩ (Nat.le_of_ble_eq_true rfl) ⟨hz1, hz2⟩ dL_law_872 hq (fun r1 h2 hq => ?_)
  show V G Γ 9 (uc + 3) (us + 18) h2 875 [(0, .ref b), (1, .ref px), (2, .ref pm), (3, .ref po), (4, .ref pd), (5, .int i)] [.int r1]
  refine V_istore (L' := [(0, .ref b), (1, .ref px), (2, .ref pm), (3, .ref po), (4, .ref pd), (5, .int i), (6, .int r1)]) hC dL_law_875 (by decide) [1, 2, 3, 4, 5, 6, 0] rfl ?_
  refine V_aload_n hC dL_law_877 2 rfl ?_
  refine V_aload_n hC dL_law_878 0 rfl ?_
  refine V_iload hC dL_law_879 5 rfl ?_
  refine V_iconst (v := 1) hC dL_law_881 (by decide) ?_
  refine V_iadd hC dL_law_882 ?_
  obtain ⟨hz, hq⟩ := hq
  refine V_sld hC hX hz dL_law_883 ?_
  refine V_aload_n hC dL_law_884 0 rfl ?_
  refine V_iload hC dL_law_885 5 rfl ?_
  refine V_iconst (v := 2) hC dL_law_887 (by decide) ?_
  refine V_iadd hC dL_law_888 ?_
  obtain ⟨hz, hq⟩ := hq
  refine V_sld hC hX hz dL_law_889 ?_
  obtain ⟨bc3, bs4, hz1, hz2, hq⟩ := hq
  obtain ⟨hz, hq⟩ := hq
  refine clV_X12_putOn hG hC sv_L_166 ⟨by decide, by decide⟩ (Nat.le_of_ble_eq_true rfl) ⟨hz1, hz2⟩ dL_law_890 hz hq (fun r5 h6 hq => ?_)
  show V G Γ 9 ((uc + 3) + bc3) ((us + 18) + bs4) h6 893 [(0, .ref b), (1, .ref px), (2, .ref pm), (3, .ref po), (4, .ref pd), (5, .int i), (6, .int r1)] [.int r5]
  refine V_istore (L' := [(0, .ref b), (1, .ref px), (2, .ref pm), (3, .ref po), (4, .ref pd), (5, .int i), (6, .int r1), (7, .int r5)]) hC dL_law_893 (by decide) [1, 2, 3, 4, 5, 6, 7, 0] rfl ?_
  refine V_aload_n hC dL_law_895 2 rfl ?_
  obtain ⟨hz, hq⟩ := hq
  refine clV_X12_thrown hG hC sv_L_132 ⟨by decide, by decide⟩ (Nat.le_of_ble_eq_true rfl) ⟨by omega, by omega⟩ dL_law_896 hz hq (fun r7 hq => ?_)
  show V G Γ 9 ((uc + 3) + bc3) ((us + 18) + bs4) h6 899 [(0, .ref b), (1, .ref px), (2, .ref pm), (3, .ref po), (4, .ref pd), (5, .int i), (6, .int r1), (7, .int r5)] [.int r7]
  refine V_iload hC dL_law_899 6 rfl ?_
  refine V_icmp_eq (tgt := 906) hC dL_law_901 (by decide) (fun hc => ?_) (fun hc => ?_)
  · have hq := hq.1 hc
    refine V_iload hC dL_law_906 6 rfl ?_
    have hq := hq (V G Γ 9 ((uc + 3) + bc3) ((us + 18) + bs4) h6 923 [(0, .ref b), (1, .ref px), (2, .ref pm), (3, .ref po), (4, .ref pd), (5, .int i)] []) (by
      intro hq
      show V G Γ 9 ((uc + 3) + bc3) ((us + 18) + bs4) h6 923 [(0, .ref b), (1, .ref px), (2, .ref pm), (3, .ref po), (4, .ref pd), (5, .int i)] []
      refine V_goto (tgt := 2279) hC dL_law_923 (by decide) ?_
      exact hJ _ _ _ hq (by omega) (by omega))
    refine V_if_ne (tgt := 923) hC dL_law_908 (by decide) (fun hc => ?_) (fun hc => ?_)
    · have hq := hq.1 hc
      refine V_sub [0, 1, 2, 3, 4, 5] rfl ?_
      exact hq
    · have hq := hq.2 hc
      refine V_aload_n hC dL_law_911 3 rfl ?_
      refine V_iconst (v := 0) hC dL_law_912 (by decide) ?_
      refine U_ldJ hC dL_law_913 hq (fun v8 hq => ?_)
      refine V_iload hC dL_law_914 7 rfl ?_
      refine V_i2l hC dL_law_916 ?_
      refine V_lcmp hC dL_law_917 ?_
      refine V_if_eq (tgt := 923) hC dL_law_918 (by decide) (fun hc => ?_) (fun hc => ?_)
      · have hq := hq.1 hc
        refine V_sub [0, 1, 2, 3, 4, 5] rfl ?_
        exact hq
      · have hq := hq.2 hc
        refine V_iconst (v := 0) hC dL_law_921 (by decide) ?_
        exact hq.elim
  · have hq := hq.2 hc
    refine V_iconst (v := 0) hC dL_law_904 (by decide) ?_
    exact hq.elim
set_option maxRecDepth 100000 in
set_option maxHeartbeats 4000000 in
theorem ct_law_926 {G : Gx} (hG : GOK G) {Γ : Cx} (hC : COK G Γ "BandplanLaw" cL_law 9 2048 94400 603072 7219306 []) (hE : LEND G Γ) {b N : Nat} {xs : Nat → Int32} (hX : LSCR G Γ b N xs) (px pm po pd : Nat) (i : Int32) (h0 : hw) (uc us : Nat) (J : hw → Nat → Nat → Prop) (hJ : ∀ (h1 : hw) (c1 u1 : Nat), J h1 c1 u1 → c1 ≤ 603072 → u1 ≤ 7219306 → V G Γ 9 c1 u1 h1 2279 [(0, .ref b), (1, .ref px), (2, .ref pm), (3, .ref po), (4, .ref pd), (5, .int i)] []) (hq : wp_law_926 G N xs px pm po pd i h0 uc us J) (hu1 : uc ≤ 603072) (hu2 : us ≤ 7219306) : V G Γ 9 uc us h0 926 [(0, .ref b), (1, .ref px), (2, .ref pm), (3, .ref po), (4, .ref pd), (5, .int i)] [] := by
  unfold wp_law_926 at hq
  refine V_aload_n hC dL_law_926 1 rfl ?_
  refine V_aload_n hC dL_law_927 0 rfl ?_
  refine V_iload hC dL_law_928 5 rfl ?_
  refine V_iconst (v := 1) hC dL_law_930 (by decide) ?_
  refine V_iadd hC dL_law_931 ?_
  obtain ⟨hz, hq⟩ := hq
  refine V_sld hC hX hz dL_law_932 ?_
  refine V_aload_n hC dL_law_933 3 rfl ?_
  obtain ⟨hz1, hz2, hq⟩ := hq
  refine clSX_L_putOff hG hC ssx_L_167 ⟨by decide, by decide⟩ (Nat.le_of_ble_eq_true rfl) ⟨hz1, hz2⟩ dL_law_934 hq (fun r1 h2 hq => ?_)
  show V G Γ 9 (uc + 1) (us + 6) h2 937 [(0, .ref b), (1, .ref px), (2, .ref pm), (3, .ref po), (4, .ref pd), (5, .int i)] [.int r1]
  refine V_istore (L' := [(0, .ref b), (1, .ref px), (2, .ref pm), (3, .ref po), (4, .ref pd), (5, .int i), (6, .int r1)]) hC dL_law_937 (by decide) [1, 2, 3, 4, 5, 6, 0] rfl ?_
  refine V_aload_n hC dL_law_939 2 rfl ?_
  refine V_aload_n hC dL_law_940 0 rfl ?_
  refine V_iload hC dL_law_941 5 rfl ?_
  refine V_iconst (v := 1) hC dL_law_943 (by decide) ?_
  refine V_iadd hC dL_law_944 ?_
  obtain ⟨hz, hq⟩ := hq
  refine V_sld hC hX hz dL_law_945 ?_
  obtain ⟨bc3, bs4, hz1, hz2, hq⟩ := hq
  obtain ⟨hz, hq⟩ := hq
  refine clV_X12_putOff hG hC sv_L_169 ⟨by decide, by decide⟩ (Nat.le_of_ble_eq_true rfl) ⟨hz1, hz2⟩ dL_law_946 hz hq (fun r5 h6 hq => ?_)
  show V G Γ 9 ((uc + 1) + bc3) ((us + 6) + bs4) h6 949 [(0, .ref b), (1, .ref px), (2, .ref pm), (3, .ref po), (4, .ref pd), (5, .int i), (6, .int r1)] [.int r5]
  refine V_istore (L' := [(0, .ref b), (1, .ref px), (2, .ref pm), (3, .ref po), (4, .ref pd), (5, .int i), (6, .int r1), (7, .int r5)]) hC dL_law_949 (by decide) [1, 2, 3, 4, 5, 6, 7, 0] rfl ?_
  refine V_aload_n hC dL_law_951 2 rfl ?_
  obtain ⟨hz, hq⟩ := hq
  refine clV_X12_thrown hG hC sv_L_132 ⟨by decide, by decide⟩ (Nat.le_of_ble_eq_true rfl) ⟨by omega, by omega⟩ dL_law_952 hz hq (fun r7 hq => ?_)
  show V G Γ 9 ((uc + 1) + bc3) ((us + 6) + bs4) h6 955 [(0, .ref b), (1, .ref px), (2, .ref pm), (3, .ref po), (4, .ref pd), (5, .int i), (6, .int r1), (7, .int r5)] [.int r7]
  refine V_iload hC dL_law_955 6 rfl ?_
  refine V_icmp_eq (tgt := 962) hC dL_law_957 (by decide) (fun hc => ?_) (fun hc => ?_)
  · have hq := hq.1 hc
    refine V_iload hC dL_law_962 6 rfl ?_
    have hq := hq (V G Γ 9 ((uc + 1) + bc3) ((us + 6) + bs4) h6 979 [(0, .ref b), (1, .ref px), (2, .ref pm), (3, .ref po), (4, .ref pd), (5, .int i)] []) (by
      intro hq
      show V G Γ 9 ((uc + 1) + bc3) ((us + 6) + bs4) h6 979 [(0, .ref b), (1, .ref px), (2, .ref pm), (3, .ref po), (4, .ref pd), (5, .int i)] []
      refine V_goto (tgt := 2279) hC dL_law_979 (by decide) ?_
      exact hJ _ _ _ hq (by omega) (by omega))
    refine V_if_ne (tgt := 979) hC dL_law_964 (by decide) (fun hc => ?_) (fun hc => ?_)
    · have hq := hq.1 hc
      refine V_sub [0, 1, 2, 3, 4, 5] rfl ?_
      exact hq
    · have hq := hq.2 hc
      refine V_aload_n hC dL_law_967 3 rfl ?_
      refine V_iconst (v := 0) hC dL_law_968 (by decide) ?_
      refine U_ldJ hC dL_law_969 hq (fun v8 hq => ?_)
      refine V_iload hC dL_law_970 7 rfl ?_
      refine V_i2l hC dL_law_972 ?_
      refine V_lcmp hC dL_law_973 ?_
      refine V_if_eq (tgt := 979) hC dL_law_974 (by decide) (fun hc => ?_) (fun hc => ?_)
      · have hq := hq.1 hc
        refine V_sub [0, 1, 2, 3, 4, 5] rfl ?_
        exact hq
      · have hq := hq.2 hc
        refine V_iconst (v := 0) hC dL_law_977 (by decide) ?_
        exact hq.elim
  · have hq := hq.2 hc
    refine V_iconst (v := 0) hC dL_law_960 (by decide) ?_
    exact hq.elim
set_option maxRecDepth 100000 in
set_option maxHeartbeats 4000000 in
theorem ct_law_982 {G : Gx} (hG : GOK G) {Γ : Cx} (hC : COK G Γ "BandplanLaw" cL_law 9 2048 94400 603072 7219306 []) (hE : LEND G Γ) {b N : Nat} {xs : Nat → Int32} (hX : LSCR G Γ b N xs) (px pm po pd : Nat) (i : Int32) (h0 : hw) (uc us : Nat) (J : hw → Nat → Nat → Prop) (hJ : ∀ (h1 : hw) (c1 u1 : Nat), J h1 c1 u1 → c1 ≤ 603072 → u1 ≤ 7219306 → V G Γ 9 c1 u1 h1 2279 [(0, .ref b), (1, .ref px), (2, .ref pm), (3, .ref po), (4, .ref pd), (5, .int i)] []) (hq : wp_law_982 G N xs px pm po pd i h0 uc us J) (hu1 : uc ≤ 603072) (hu2 : us ≤ 7219306) : V G Γ 9 uc us h0 982 [(0, .ref b), (1, .ref px), (2, .ref pm), (3, .ref po), (4, .ref pd), (5, .int i)] [] := by
  unfold wp_law_982 at hq
  refine V_aload_n hC dL_law_982 1 rfl ?_
  refine V_aload_n hC dL_law_983 0 rfl ?_
  refine V_iload hC dL_law_984 5 rfl ?_
  refine V_iconst (v := 1) hC dL_law_986 (by decide) ?_
  refine V_iadd hC dL_law_987 ?_
  obtain ⟨hz, hq⟩ := hq
  refine V_sld hC hX hz dL_law_988 ?_
  refine V_aload_n hC dL_law_989 0 rfl ?_
  refine V_iload hC dL_law_990 5 rfl ?_
  refine V_iconst (v := 2) hC dL_law_992 (by decide) ?_
  refine V_iadd hC dL_law_993 ?_
  obtain ⟨hz, hq⟩ := hq
  refine V_sld hC hX hz dL_law_994 ?_
  refine V_aload_n hC dL_law_995 3 rfl ?_
  obtain ⟨hz1, hz2, hq⟩ := hq
  refine clSX_L_channelOf hG hC ssx_L_170 ⟨by decide, by decide⟩ (Nat.le_of_ble_eq_true rfl) ⟨hz1, hz2⟩ dL_law_996 hq (fun r1 h2 hq => ?_)
  show V G Γ 9 (uc + 2) (us + 12) h2 999 [(0, .ref b), (1, .ref px), (2, .ref pm), (3, .ref po), (4, .ref pd), (5, .int i)] [.int r1]
  refine V_istore (L' := [(0, .ref b), (1, .ref px), (2, .ref pm), (3, .ref po), (4, .ref pd), (5, .int i), (6, .int r1)]) hC dL_law_999 (by decide) [1, 2, 3, 4, 5, 6, 0] rfl ?_
  refine V_aload_n hC dL_law_1001 2 rfl ?_
  refine V_aload_n hC dL_law_1002 0 rfl ?_
  refine V_iload hC dL_law_1003 5 rfl ?_
  refine V_iconst (v := 1) hC dL_law_1005 (by decide) ?_
  refine V_iadd hC dL_law_1006 ?_
  obtain ⟨hz, hq⟩ := hq
  refine V_sld hC hX hz dL_law_1007 ?_
  refine V_aload_n hC dL_law_1008 0 rfl ?_
  refine V_iload hC dL_law_1009 5 rfl ?_
  refine V_iconst (v := 2) hC dL_law_1011 (by decide) ?_
  refine V_iadd hC dL_law_1012 ?_
  obtain ⟨hz, hq⟩ := hq
  refine V_sld hC hX hz dL_law_1013 ?_
  obtain ⟨hz, hq⟩ := hq
  refine clV_X12_channelOf hG hC sv_L_172 ⟨by decide, by decide⟩ (Nat.le_of_ble_eq_true rfl) ⟨by omega, by omega⟩ dL_law_1014 hz hq (fun r3 h4 hq => ?_)
  show V G Γ 9 (uc + 2) (us + 12) h4 1017 [(0, .ref b), (1, .ref px), (2, .ref pm), (3, .ref po), (4, .ref pd), (5, .int i), (6, .int r1)] [.int r3]
  refine V_istore (L' := [(0, .ref b), (1, .ref px), (2, .ref pm), (3, .ref po), (4, .ref pd), (5, .int i), (6, .int r1), (7, .int r3)]) hC dL_law_1017 (by decide) [1, 2, 3, 4, 5, 6, 7, 0] rfl ?_
  refine V_aload_n hC dL_law_1019 2 rfl ?_
  obtain ⟨hz, hq⟩ := hq
  refine clV_X12_thrown hG hC sv_L_132 ⟨by decide, by decide⟩ (Nat.le_of_ble_eq_true rfl) ⟨by omega, by omega⟩ dL_law_1020 hz hq (fun r5 hq => ?_)
  show V G Γ 9 (uc + 2) (us + 12) h4 1023 [(0, .ref b), (1, .ref px), (2, .ref pm), (3, .ref po), (4, .ref pd), (5, .int i), (6, .int r1), (7, .int r3)] [.int r5]
  refine V_iload hC dL_law_1023 6 rfl ?_
  refine V_icmp_eq (tgt := 1030) hC dL_law_1025 (by decide) (fun hc => ?_) (fun hc => ?_)
  · have hq := hq.1 hc
    refine V_iload hC dL_law_1030 6 rfl ?_
    have hq := hq (V G Γ 9 (uc + 2) (us + 12) h4 1047 [(0, .ref b), (1, .ref px), (2, .ref pm), (3, .ref po), (4, .ref pd), (5, .int i)] []) (by
      intro hq
      show V G Γ 9 (uc + 2) (us + 12) h4 1047 [(0, .ref b), (1, .ref px), (2, .ref pm), (3, .ref po), (4, .ref pd), (5, .int i)] []
      refine V_goto (tgt := 2279) hC dL_law_1047 (by decide) ?_
      exact hJ _ _ _ hq (by omega) (by omega))
    refine V_if_ne (tgt := 1047) hC dL_law_1032 (by decide) (fun hc => ?_) (fun hc => ?_)
    · have hq := hq.1 hc
      refine V_sub [0, 1, 2, 3, 4, 5] rfl ?_
      exact hq
    · have hq := hq.2 hc
      refine V_aload_n hC dL_law_1035 3 rfl ?_
      refine V_iconst (v := 0) hC dL_law_1036 (by decide) ?_
      refine U_ldJ hC dL_law_1037 hq (fun v6 hq => ?_)
      refine V_iload hC dL_law_1038 7 rfl ?_
      refine V_i2l hC dL_law_1040 ?_
      refine V_lcmp hC dL_law_1041 ?_
      refine V_if_eq (tgt := 1047) hC dL_law_1042 (by decide) (fun hc => ?_) (fun hc => ?_)
      · have hq := hq.1 hc
        refine V_sub [0, 1, 2, 3, 4, 5] rfl ?_
        exact hq
      · have hq := hq.2 hc
        refine V_iconst (v := 0) hC dL_law_1045 (by decide) ?_
        exact hq.elim
  · have hq := hq.2 hc
    refine V_iconst (v := 0) hC dL_law_1028 (by decide) ?_
    exact hq.elim
set_option maxRecDepth 100000 in
set_option maxHeartbeats 4000000 in
theorem ct_law_1050 {G : Gx} (hG : GOK G) {Γ : Cx} (hC : COK G Γ "BandplanLaw" cL_law 9 2048 94400 603072 7219306 []) (hE : LEND G Γ) {b N : Nat} {xs : Nat → Int32} (hX : LSCR G Γ b N xs) (px pm po pd : Nat) (i : Int32) (h0 : hw) (uc us : Nat) (J : hw → Nat → Nat → Prop) (hJ : ∀ (h1 : hw) (c1 u1 : Nat), J h1 c1 u1 → c1 ≤ 603072 → u1 ≤ 7219306 → V G Γ 9 c1 u1 h1 2279 [(0, .ref b), (1, .ref px), (2, .ref pm), (3, .ref po), (4, .ref pd), (5, .int i)] []) (hq : wp_law_1050 G N xs px pm po pd i h0 uc us J) (hu1 : uc ≤ 603072) (hu2 : us ≤ 7219306) : V G Γ 9 uc us h0 1050 [(0, .ref b), (1, .ref px), (2, .ref pm), (3, .ref po), (4, .ref pd), (5, .int i)] [] := by
  unfold wp_law_1050 at hq
  refine V_aload_n hC dL_law_1050 1 rfl ?_
  refine V_aload_n hC dL_law_1051 0 rfl ?_
  refine V_iload hC dL_law_1052 5 rfl ?_
  refine V_iconst (v := 1) hC dL_law_1054 (by decide) ?_
  refine V_iadd hC dL_law_1055 ?_
  obtain ⟨hz, hq⟩ := hq
  refine V_sld hC hX hz dL_law_1056 ?_
  refine V_aload_n hC dL_law_1057 0 rfl ?_
  refine V_iload hC dL_law_1058 5 rfl ?_
  refine V_iconst (v := 2) hC dL_law_1060 (by decide) ?_
  refine V_iadd hC dL_law_1061 ?_
  obtain ⟨hz, hq⟩ := hq
  refine V_sld hC hX hz dL_law_1062 ?_
  have hq := hq (fun (t1 : Nat) (t2 : Int32) (t3 : Int32) => V G Γ 9 uc us h0 1071 [(0, .ref b), (1, .ref px), (2, .ref pm), (3, .ref po), (4, .ref pd), (5, .int i)] [.int t3, .int t2, .ref t1]) (by
    intro t1 t2 t3 hq
    show V G Γ 9 uc us h0 1071 [(0, .ref b), (1, .ref px), (2, .ref pm), (3, .ref po), (4, .ref pd), (5, .int i)] [.int t3, .int t2, .ref t1]
    refine V_aload_n hC dL_law_1071 3 rfl ?_
    obtain ⟨hz1, hz2, hq⟩ := hq
    refine clSX_L_setForeign hG hC ssx_L_173 ⟨by decide, by decide⟩ (Nat.le_of_ble_eq_true rfl) ⟨hz1, hz2⟩ dL_law_1072 hq (fun r4 h5 hq => ?_)
    show V G Γ 9 (uc + 1) (us + 6) h5 1075 [(0, .ref b), (1, .ref px), (2, .ref pm), (3, .ref po), (4, .ref pd), (5, .int i)] [.int r4]
    refine V_istore (L' := [(0, .ref b), (1, .ref px), (2, .ref pm), (3, .ref po), (4, .ref pd), (5, .int i), (6, .int r4)]) hC dL_law_1075 (by decide) [1, 2, 3, 4, 5, 6, 0] rfl ?_
    refine V_aload_n hC dL_law_1077 2 rfl ?_
    refine V_aload_n hC dL_law_1078 0 rfl ?_
    refine V_iload hC dL_law_1079 5 rfl ?_
    refine V_iconst (v := 1) hC dL_law_1081 (by decide) ?_
    refine V_iadd hC dL_law_1082 ?_
    obtain ⟨hz, hq⟩ := hq
    refine V_sld hC hX hz dL_law_1083 ?_
    refine V_aload_n hC dL_law_1084 0 rfl ?_
    refine V_iload hC dL_law_1085 5 rfl ?_
    refine V_iconst (v := 2) hC dL_law_1087 (by decide) ?_
    refine V_iadd hC dL_law_1088 ?_
    obtain ⟨hz, hq⟩ := hq
    refine V_sld hC hX hz dL_law_1089 ?_
    have hq := hq (fun (t6 : Nat) (t7 : Int32) (t8 : Int32) => V G Γ 9 (uc + 1) (us + 6) h5 1098 [(0, .ref b), (1, .ref px), (2, .ref pm), (3, .ref po), (4, .ref pd), (5, .int i), (6, .int r4)] [.int t8, .int t7, .ref t6]) (by
      intro t6 t7 t8 hq
      show V G Γ 9 (uc + 1) (us + 6) h5 1098 [(0, .ref b), (1, .ref px), (2, .ref pm), (3, .ref po), (4, .ref pd), (5, .int i), (6, .int r4)] [.int t8, .int t7, .ref t6]
      obtain ⟨hz, hq⟩ := hq
      refine clV_X12_setForeign hG hC sv_L_176 ⟨by decide, by decide⟩ (Nat.le_of_ble_eq_true rfl) ⟨by omega, by omega⟩ dL_law_1098 hz hq (fun r9 h10 hq => ?_)
      show V G Γ 9 (uc + 1) (us + 6) h10 1101 [(0, .ref b), (1, .ref px), (2, .ref pm), (3, .ref po), (4, .ref pd), (5, .int i), (6, .int r4)] [.int r9]
      refine V_istore (L' := [(0, .ref b), (1, .ref px), (2, .ref pm), (3, .ref po), (4, .ref pd), (5, .int i), (6, .int r4), (7, .int r9)]) hC dL_law_1101 (by decide) [1, 2, 3, 4, 5, 6, 7, 0] rfl ?_
      refine V_aload_n hC dL_law_1103 2 rfl ?_
      obtain ⟨hz, hq⟩ := hq
      refine clV_X12_thrown hG hC sv_L_132 ⟨by decide, by decide⟩ (Nat.le_of_ble_eq_true rfl) ⟨by omega, by omega⟩ dL_law_1104 hz hq (fun r11 hq => ?_)
      show V G Γ 9 (uc + 1) (us + 6) h10 1107 [(0, .ref b), (1, .ref px), (2, .ref pm), (3, .ref po), (4, .ref pd), (5, .int i), (6, .int r4), (7, .int r9)] [.int r11]
      refine V_iload hC dL_law_1107 6 rfl ?_
      refine V_icmp_eq (tgt := 1114) hC dL_law_1109 (by decide) (fun hc => ?_) (fun hc => ?_)
      · have hq := hq.1 hc
        refine V_iload hC dL_law_1114 6 rfl ?_
        have hq := hq (V G Γ 9 (uc + 1) (us + 6) h10 1138 [(0, .ref b), (1, .ref px), (2, .ref pm), (3, .ref po), (4, .ref pd), (5, .int i)] []) (by
          intro hq
          show V G Γ 9 (uc + 1) (us + 6) h10 1138 [(0, .ref b), (1, .ref px), (2, .ref pm), (3, .ref po), (4, .ref pd), (5, .int i)] []
          refine V_goto (tgt := 2279) hC dL_law_1138 (by decide) ?_
          exact hJ _ _ _ hq (by omega) (by omega))
        refine V_if_ne (tgt := 1138) hC dL_law_1116 (by decide) (fun hc => ?_) (fun hc => ?_)
        · have hq := hq.1 hc
          refine V_sub [0, 1, 2, 3, 4, 5] rfl ?_
          exact hq
        · have hq := hq.2 hc
          refine V_aload_n hC dL_law_1119 3 rfl ?_
          refine V_iconst (v := 0) hC dL_law_1120 (by decide) ?_
          refine U_ldJ hC dL_law_1121 hq (fun v12 hq => ?_)
          refine V_iload hC dL_law_1122 7 rfl ?_
          have hq := hq (fun (t13 : Int64) (t14 : Int64) => V G Γ 9 (uc + 1) (us + 6) h10 1132 [(0, .ref b), (1, .ref px), (2, .ref pm), (3, .ref po), (4, .ref pd), (5, .int i)] [.long t14, .long t13]) (by
            intro t13 t14 hq
            show V G Γ 9 (uc + 1) (us + 6) h10 1132 [(0, .ref b), (1, .ref px), (2, .ref pm), (3, .ref po), (4, .ref pd), (5, .int i)] [.long t14, .long t13]
            refine V_lcmp hC dL_law_1132 ?_
            refine V_if_eq (tgt := 1138) hC dL_law_1133 (by decide) (fun hc => ?_) (fun hc => ?_)
            · have hq := hq.1 hc
              exact hq
            · have hq := hq.2 hc
              refine V_iconst (v := 0) hC dL_law_1136 (by decide) ?_
              exact hq.elim)
          refine V_if_eq (tgt := 1131) hC dL_law_1124 (by decide) (fun hc => ?_) (fun hc => ?_)
          · have hq := hq.1 hc
            refine V_lconst (v := 0) hC dL_law_1131 (by decide) ?_
            refine V_sub [0, 1, 2, 3, 4, 5] rfl ?_
            exact hq
          · have hq := hq.2 hc
            refine V_lconst (v := 1) hC dL_law_1127 (by decide) ?_
            refine V_goto (tgt := 1132) hC dL_law_1128 (by decide) ?_
            refine V_sub [0, 1, 2, 3, 4, 5] rfl ?_
            exact hq
      · have hq := hq.2 hc
        refine V_iconst (v := 0) hC dL_law_1112 (by decide) ?_
        exact hq.elim)
    refine V_if_eq (tgt := 1097) hC dL_law_1090 (by decide) (fun hc => ?_) (fun hc => ?_)
    · have hq := hq.1 hc
      refine V_iconst (v := 0) hC dL_law_1097 (by decide) ?_
      exact hq
    · have hq := hq.2 hc
      refine V_iconst (v := 1) hC dL_law_1093 (by decide) ?_
      refine V_goto (tgt := 1098) hC dL_law_1094 (by decide) ?_
      exact hq)
  refine V_if_eq (tgt := 1070) hC dL_law_1063 (by decide) (fun hc => ?_) (fun hc => ?_)
  · have hq := hq.1 hc
    refine V_iconst (v := 0) hC dL_law_1070 (by decide) ?_
    exact hq
  · have hq := hq.2 hc
    refine V_iconst (v := 1) hC dL_law_1066 (by decide) ?_
    refine V_goto (tgt := 1071) hC dL_law_1067 (by decide) ?_
    exact hq
set_option maxRecDepth 100000 in
set_option maxHeartbeats 4000000 in
theorem ct_law_1141 {G : Gx} (hG : GOK G) {Γ : Cx} (hC : COK G Γ "BandplanLaw" cL_law 9 2048 94400 603072 7219306 []) (hE : LEND G Γ) {b N : Nat} {xs : Nat → Int32} (hX : LSCR G Γ b N xs) (px pm po pd : Nat) (i : Int32) (h0 : hw) (uc us : Nat) (J : hw → Nat → Nat → Prop) (hJ : ∀ (h1 : hw) (c1 u1 : Nat), J h1 c1 u1 → c1 ≤ 603072 → u1 ≤ 7219306 → V G Γ 9 c1 u1 h1 2279 [(0, .ref b), (1, .ref px), (2, .ref pm), (3, .ref po), (4, .ref pd), (5, .int i)] []) (hq : wp_law_1141 G N xs px pm po pd i h0 uc us J) (hu1 : uc ≤ 603072) (hu2 : us ≤ 7219306) : V G Γ 9 uc us h0 1141 [(0, .ref b), (1, .ref px), (2, .ref pm), (3, .ref po), (4, .ref pd), (5, .int i)] [] := by
  unfold wp_law_1141 at hq
  refine V_aload_n hC dL_law_1141 1 rfl ?_
  refine V_aload_n hC dL_law_1142 0 rfl ?_
  refine V_iload hC dL_law_1143 5 rfl ?_
  refine V_iconst (v := 1) hC dL_law_1145 (by decide) ?_
  refine V_iadd hC dL_law_1146 ?_
  obtain ⟨hz, hq⟩ := hq
  refine V_sld hC hX hz dL_law_1147 ?_
  refine V_aload_n hC dL_law_1148 0 rfl ?_
  refine V_iload hC dL_law_1149 5 rfl ?_
  refine V_iconst (v := 2) hC dL_law_1151 (by decide) ?_
  refine V_iadd hC dL_law_1152 ?_
  obtain ⟨hz, hq⟩ := hq
  refine V_sld hC hX hz dL_law_1153 ?_
  refine V_aload_n hC dL_law_1154 3 rfl ?_
  obtain ⟨hz1, hz2, hq⟩ := hq
  refine clSX_L_askAbroad hG hC ssx_L_177 ⟨by decide, by decide⟩ (Nat.le_of_ble_eq_true rfl) ⟨hz1, hz2⟩ dL_law_1155 hq (fun r1 h2 hq => ?_)
  show V G Γ 9 (uc + 2) (us + 12) h2 1158 [(0, .ref b), (1, .ref px), (2, .ref pm), (3, .ref po), (4, .ref pd), (5, .int i)] [.int r1]
  refine V_istore (L' := [(0, .ref b), (1, .ref px), (2, .ref pm), (3, .ref po), (4, .ref pd), (5, .int i), (6, .int r1)]) hC dL_law_1158 (by decide) [1, 2, 3, 4, 5, 6, 0] rfl ?_
  refine V_aload_n hC dL_law_1160 2 rfl ?_
  refine V_aload_n hC dL_law_1161 0 rfl ?_
  refine V_iload hC dL_law_1162 5 rfl ?_
  refine V_iconst (v := 1) hC dL_law_1164 (by decide) ?_
  refine V_iadd hC dL_law_1165 ?_
  obtain ⟨hz, hq⟩ := hq
  refine V_sld hC hX hz dL_law_1166 ?_
  refine V_aload_n hC dL_law_1167 0 rfl ?_
  refine V_iload hC dL_law_1168 5 rfl ?_
  refine V_iconst (v := 2) hC dL_law_1170 (by decide) ?_
  refine V_iadd hC dL_law_1171 ?_
  obtain ⟨hz, hq⟩ := hq
  refine V_sld hC hX hz dL_law_1172 ?_
  obtain ⟨hz, hq⟩ := hq
  refine clV_X12_askAbroad hG hC sv_L_179 ⟨by decide, by decide⟩ (Nat.le_of_ble_eq_true rfl) ⟨by omega, by omega⟩ dL_law_1173 hz hq (fun r3 h4 hq => ?_)
  show V G Γ 9 (uc + 2) (us + 12) h4 1176 [(0, .ref b), (1, .ref px), (2, .ref pm), (3, .ref po), (4, .ref pd), (5, .int i), (6, .int r1)] [.int r3]
  refine V_istore (L' := [(0, .ref b), (1, .ref px), (2, .ref pm), (3, .ref po), (4, .ref pd), (5, .int i), (6, .int r1), (7, .int r3)]) hC dL_law_1176 (by decide) [1, 2, 3, 4, 5, 6, 7, 0] rfl ?_
  refine V_aload_n hC dL_law_1178 2 rfl ?_
  obtain ⟨hz, hq⟩ := hq
  refine clV_X12_thrown hG hC sv_L_132 ⟨by decide, by decide⟩ (Nat.le_of_ble_eq_true rfl) ⟨by omega, by omega⟩ dL_law_1179 hz hq (fun r5 hq => ?_)
  show V G Γ 9 (uc + 2) (us + 12) h4 1182 [(0, .ref b), (1, .ref px), (2, .ref pm), (3, .ref po), (4, .ref pd), (5, .int i), (6, .int r1), (7, .int r3)] [.int r5]
  refine V_iload hC dL_law_1182 6 rfl ?_
  refine V_icmp_eq (tgt := 1189) hC dL_law_1184 (by decide) (fun hc => ?_) (fun hc => ?_)
  · have hq := hq.1 hc
    refine V_iload hC dL_law_1189 6 rfl ?_
    have hq := hq (V G Γ 9 (uc + 2) (us + 12) h4 1206 [(0, .ref b), (1, .ref px), (2, .ref pm), (3, .ref po), (4, .ref pd), (5, .int i)] []) (by
      intro hq
      show V G Γ 9 (uc + 2) (us + 12) h4 1206 [(0, .ref b), (1, .ref px), (2, .ref pm), (3, .ref po), (4, .ref pd), (5, .int i)] []
      refine V_goto (tgt := 2279) hC dL_law_1206 (by decide) ?_
      exact hJ _ _ _ hq (by omega) (by omega))
    refine V_if_ne (tgt := 1206) hC dL_law_1191 (by decide) (fun hc => ?_) (fun hc => ?_)
    · have hq := hq.1 hc
      refine V_sub [0, 1, 2, 3, 4, 5] rfl ?_
      exact hq
    · have hq := hq.2 hc
      refine V_aload_n hC dL_law_1194 3 rfl ?_
      refine V_iconst (v := 0) hC dL_law_1195 (by decide) ?_
      refine U_ldJ hC dL_law_1196 hq (fun v6 hq => ?_)
      refine V_iload hC dL_law_1197 7 rfl ?_
      refine V_i2l hC dL_law_1199 ?_
      refine V_lcmp hC dL_law_1200 ?_
      refine V_if_eq (tgt := 1206) hC dL_law_1201 (by decide) (fun hc => ?_) (fun hc => ?_)
      · have hq := hq.1 hc
        refine V_sub [0, 1, 2, 3, 4, 5] rfl ?_
        exact hq
      · have hq := hq.2 hc
        refine V_iconst (v := 0) hC dL_law_1204 (by decide) ?_
        exact hq.elim
  · have hq := hq.2 hc
    refine V_iconst (v := 0) hC dL_law_1187 (by decide) ?_
    exact hq.elim
set_option maxRecDepth 100000 in
set_option maxHeartbeats 4000000 in
theorem ct_law_1209 {G : Gx} (hG : GOK G) {Γ : Cx} (hC : COK G Γ "BandplanLaw" cL_law 9 2048 94400 603072 7219306 []) (hE : LEND G Γ) {b N : Nat} {xs : Nat → Int32} (hX : LSCR G Γ b N xs) (px pm po pd : Nat) (i : Int32) (h0 : hw) (uc us : Nat) (J : hw → Nat → Nat → Prop) (hJ : ∀ (h1 : hw) (c1 u1 : Nat), J h1 c1 u1 → c1 ≤ 603072 → u1 ≤ 7219306 → V G Γ 9 c1 u1 h1 2279 [(0, .ref b), (1, .ref px), (2, .ref pm), (3, .ref po), (4, .ref pd), (5, .int i)] []) (hq : wp_law_1209 G N xs px pm po pd i h0 uc us J) (hu1 : uc ≤ 603072) (hu2 : us ≤ 7219306) : V G Γ 9 uc us h0 1209 [(0, .ref b), (1, .ref px), (2, .ref pm), (3, .ref po), (4, .ref pd), (5, .int i)] [] := by
  unfold wp_law_1209 at hq
  refine V_aload_n hC dL_law_1209 1 rfl ?_
  refine V_aload_n hC dL_law_1210 0 rfl ?_
  refine V_iload hC dL_law_1211 5 rfl ?_
  refine V_iconst (v := 1) hC dL_law_1213 (by decide) ?_
  refine V_iadd hC dL_law_1214 ?_
  obtain ⟨hz, hq⟩ := hq
  refine V_sld hC hX hz dL_law_1215 ?_
  refine V_aload_n hC dL_law_1216 0 rfl ?_
  refine V_iload hC dL_law_1217 5 rfl ?_
  refine V_iconst (v := 2) hC dL_law_1219 (by decide) ?_
  refine V_iadd hC dL_law_1220 ?_
  obtain ⟨hz, hq⟩ := hq
  refine V_sld hC hX hz dL_law_1221 ?_
  refine V_aload_n hC dL_law_1222 3 rfl ?_
  obtain ⟨hz1, hz2, hq⟩ := hq
  refine clSX_L_object hG hC ssx_L_180 ⟨by decide, by decide⟩ (Nat.le_of_ble_eq_true rfl) ⟨hz1, hz2⟩ dL_law_1223 hq (fun r1 h2 hq => ?_)
  show V G Γ 9 (uc + 3) (us + 18) h2 1226 [(0, .ref b), (1, .ref px), (2, .ref pm), (3, .ref po), (4, .ref pd), (5, .int i)] [.int r1]
  refine V_istore (L' := [(0, .ref b), (1, .ref px), (2, .ref pm), (3, .ref po), (4, .ref pd), (5, .int i), (6, .int r1)]) hC dL_law_1226 (by decide) [1, 2, 3, 4, 5, 6, 0] rfl ?_
  refine V_aload_n hC dL_law_1228 2 rfl ?_
  refine V_aload_n hC dL_law_1229 0 rfl ?_
  refine V_iload hC dL_law_1230 5 rfl ?_
  refine V_iconst (v := 1) hC dL_law_1232 (by decide) ?_
  refine V_iadd hC dL_law_1233 ?_
  obtain ⟨hz, hq⟩ := hq
  refine V_sld hC hX hz dL_law_1234 ?_
  refine V_aload_n hC dL_law_1235 0 rfl ?_
  refine V_iload hC dL_law_1236 5 rfl ?_
  refine V_iconst (v := 2) hC dL_law_1238 (by decide) ?_
  refine V_iadd hC dL_law_1239 ?_
  obtain ⟨hz, hq⟩ := hq
  refine V_sld hC hX hz dL_law_1240 ?_
  obtain ⟨hz, hq⟩ := hq
  refine clV_X12_object hG hC sv_L_182 ⟨by decide, by decide⟩ (Nat.le_of_ble_eq_true rfl) ⟨by omega, by omega⟩ dL_law_1241 hz hq (fun r3 h4 hq => ?_)
  show V G Γ 9 (uc + 3) (us + 18) h4 1244 [(0, .ref b), (1, .ref px), (2, .ref pm), (3, .ref po), (4, .ref pd), (5, .int i), (6, .int r1)] [.int r3]
  refine V_istore (L' := [(0, .ref b), (1, .ref px), (2, .ref pm), (3, .ref po), (4, .ref pd), (5, .int i), (6, .int r1), (7, .int r3)]) hC dL_law_1244 (by decide) [1, 2, 3, 4, 5, 6, 7, 0] rfl ?_
  refine V_aload_n hC dL_law_1246 2 rfl ?_
  obtain ⟨hz, hq⟩ := hq
  refine clV_X12_thrown hG hC sv_L_132 ⟨by decide, by decide⟩ (Nat.le_of_ble_eq_true rfl) ⟨by omega, by omega⟩ dL_law_1247 hz hq (fun r5 hq => ?_)
  show V G Γ 9 (uc + 3) (us + 18) h4 1250 [(0, .ref b), (1, .ref px), (2, .ref pm), (3, .ref po), (4, .ref pd), (5, .int i), (6, .int r1), (7, .int r3)] [.int r5]
  refine V_iload hC dL_law_1250 6 rfl ?_
  refine V_icmp_eq (tgt := 1257) hC dL_law_1252 (by decide) (fun hc => ?_) (fun hc => ?_)
  · have hq := hq.1 hc
    refine V_iload hC dL_law_1257 6 rfl ?_
    have hq := hq (V G Γ 9 (uc + 3) (us + 18) h4 1281 [(0, .ref b), (1, .ref px), (2, .ref pm), (3, .ref po), (4, .ref pd), (5, .int i)] []) (by
      intro hq
      show V G Γ 9 (uc + 3) (us + 18) h4 1281 [(0, .ref b), (1, .ref px), (2, .ref pm), (3, .ref po), (4, .ref pd), (5, .int i)] []
      refine V_goto (tgt := 2279) hC dL_law_1281 (by decide) ?_
      exact hJ _ _ _ hq (by omega) (by omega))
    refine V_if_ne (tgt := 1281) hC dL_law_1259 (by decide) (fun hc => ?_) (fun hc => ?_)
    · have hq := hq.1 hc
      refine V_sub [0, 1, 2, 3, 4, 5] rfl ?_
      exact hq
    · have hq := hq.2 hc
      refine V_aload_n hC dL_law_1262 3 rfl ?_
      refine V_iconst (v := 0) hC dL_law_1263 (by decide) ?_
      refine U_ldJ hC dL_law_1264 hq (fun v6 hq => ?_)
      refine V_iload hC dL_law_1265 7 rfl ?_
      have hq := hq (fun (t7 : Int64) (t8 : Int64) => V G Γ 9 (uc + 3) (us + 18) h4 1275 [(0, .ref b), (1, .ref px), (2, .ref pm), (3, .ref po), (4, .ref pd), (5, .int i)] [.long t8, .long t7]) (by
        intro t7 t8 hq
        show V G Γ 9 (uc + 3) (us + 18) h4 1275 [(0, .ref b), (1, .ref px), (2, .ref pm), (3, .ref po), (4, .ref pd), (5, .int i)] [.long t8, .long t7]
        refine V_lcmp hC dL_law_1275 ?_
        refine V_if_eq (tgt := 1281) hC dL_law_1276 (by decide) (fun hc => ?_) (fun hc => ?_)
        · have hq := hq.1 hc
          exact hq
        · have hq := hq.2 hc
          refine V_iconst (v := 0) hC dL_law_1279 (by decide) ?_
          exact hq.elim)
      refine V_if_eq (tgt := 1274) hC dL_law_1267 (by decide) (fun hc => ?_) (fun hc => ?_)
      · have hq := hq.1 hc
        refine V_lconst (v := 0) hC dL_law_1274 (by decide) ?_
        refine V_sub [0, 1, 2, 3, 4, 5] rfl ?_
        exact hq
      · have hq := hq.2 hc
        refine V_lconst (v := 1) hC dL_law_1270 (by decide) ?_
        refine V_goto (tgt := 1275) hC dL_law_1271 (by decide) ?_
        refine V_sub [0, 1, 2, 3, 4, 5] rfl ?_
        exact hq
  · have hq := hq.2 hc
    refine V_iconst (v := 0) hC dL_law_1255 (by decide) ?_
    exact hq.elim
set_option maxRecDepth 100000 in
set_option maxHeartbeats 4000000 in
theorem ct_law_1284 {G : Gx} (hG : GOK G) {Γ : Cx} (hC : COK G Γ "BandplanLaw" cL_law 9 2048 94400 603072 7219306 []) (hE : LEND G Γ) {b N : Nat} {xs : Nat → Int32} (hX : LSCR G Γ b N xs) (px pm po pd : Nat) (i : Int32) (h0 : hw) (uc us : Nat) (J : hw → Nat → Nat → Prop) (hJ : ∀ (h1 : hw) (c1 u1 : Nat), J h1 c1 u1 → c1 ≤ 603072 → u1 ≤ 7219306 → V G Γ 9 c1 u1 h1 2279 [(0, .ref b), (1, .ref px), (2, .ref pm), (3, .ref po), (4, .ref pd), (5, .int i)] []) (hq : wp_law_1284 G N xs px pm po pd i h0 uc us J) (hu1 : uc ≤ 603072) (hu2 : us ≤ 7219306) : V G Γ 9 uc us h0 1284 [(0, .ref b), (1, .ref px), (2, .ref pm), (3, .ref po), (4, .ref pd), (5, .int i)] [] := by
  unfold wp_law_1284 at hq
  refine V_aload_n hC dL_law_1284 1 rfl ?_
  refine V_aload_n hC dL_law_1285 0 rfl ?_
  refine V_iload hC dL_law_1286 5 rfl ?_
  refine V_iconst (v := 1) hC dL_law_1288 (by decide) ?_
  refine V_iadd hC dL_law_1289 ?_
  obtain ⟨hz, hq⟩ := hq
  refine V_sld hC hX hz dL_law_1290 ?_
  refine V_aload_n hC dL_law_1291 0 rfl ?_
  refine V_iload hC dL_law_1292 5 rfl ?_
  refine V_iconst (v := 2) hC dL_law_1294 (by decide) ?_
  refine V_iadd hC dL_law_1295 ?_
  obtain ⟨hz, hq⟩ := hq
  refine V_sld hC hX hz dL_law_1296 ?_
  refine V_aload_n hC dL_law_1297 3 rfl ?_
  obtain ⟨hz1, hz2, hq⟩ := hq
  refine clSX_L_hasYes hG hC ssx_L_183 ⟨by decide, by decide⟩ (Nat.le_of_ble_eq_true rfl) ⟨hz1, hz2⟩ dL_law_1298 hq (fun r1 h2 hq => ?_)
  show V G Γ 9 (uc + 2) (us + 12) h2 1301 [(0, .ref b), (1, .ref px), (2, .ref pm), (3, .ref po), (4, .ref pd), (5, .int i)] [.int r1]
  refine V_istore (L' := [(0, .ref b), (1, .ref px), (2, .ref pm), (3, .ref po), (4, .ref pd), (5, .int i), (6, .int r1)]) hC dL_law_1301 (by decide) [1, 2, 3, 4, 5, 6, 0] rfl ?_
  refine V_aload_n hC dL_law_1303 2 rfl ?_
  refine V_aload_n hC dL_law_1304 0 rfl ?_
  refine V_iload hC dL_law_1305 5 rfl ?_
  refine V_iconst (v := 1) hC dL_law_1307 (by decide) ?_
  refine V_iadd hC dL_law_1308 ?_
  obtain ⟨hz, hq⟩ := hq
  refine V_sld hC hX hz dL_law_1309 ?_
  refine V_aload_n hC dL_law_1310 0 rfl ?_
  refine V_iload hC dL_law_1311 5 rfl ?_
  refine V_iconst (v := 2) hC dL_law_1313 (by decide) ?_
  refine V_iadd hC dL_law_1314 ?_
  obtain ⟨hz, hq⟩ := hq
  refine V_sld hC hX hz dL_law_1315 ?_
  obtain ⟨hz, hq⟩ := hq
  refine clV_X12_hasYes hG hC sv_L_185 ⟨by decide, by decide⟩ (Nat.le_of_ble_eq_true rfl) ⟨by omega, by omega⟩ dL_law_1316 hz hq (fun r3 h4 hq => ?_)
  show V G Γ 9 (uc + 2) (us + 12) h4 1319 [(0, .ref b), (1, .ref px), (2, .ref pm), (3, .ref po), (4, .ref pd), (5, .int i), (6, .int r1)] [.int r3]
  refine V_istore (L' := [(0, .ref b), (1, .ref px), (2, .ref pm), (3, .ref po), (4, .ref pd), (5, .int i), (6, .int r1), (7, .int r3)]) hC dL_law_1319 (by decide) [1, 2, 3, 4, 5, 6, 7, 0] rfl ?_
  refine V_aload_n hC dL_law_1321 2 rfl ?_
  obtain ⟨hz, hq⟩ := hq
  refine clV_X12_thrown hG hC sv_L_132 ⟨by decide, by decide⟩ (Nat.le_of_ble_eq_true rfl) ⟨by omega, by omega⟩ dL_law_1322 hz hq (fun r5 hq => ?_)
  show V G Γ 9 (uc + 2) (us + 12) h4 1325 [(0, .ref b), (1, .ref px), (2, .ref pm), (3, .ref po), (4, .ref pd), (5, .int i), (6, .int r1), (7, .int r3)] [.int r5]
  refine V_iload hC dL_law_1325 6 rfl ?_
  refine V_icmp_eq (tgt := 1332) hC dL_law_1327 (by decide) (fun hc => ?_) (fun hc => ?_)
  · have hq := hq.1 hc
    refine V_iload hC dL_law_1332 6 rfl ?_
    have hq := hq (V G Γ 9 (uc + 2) (us + 12) h4 1356 [(0, .ref b), (1, .ref px), (2, .ref pm), (3, .ref po), (4, .ref pd), (5, .int i)] []) (by
      intro hq
      show V G Γ 9 (uc + 2) (us + 12) h4 1356 [(0, .ref b), (1, .ref px), (2, .ref pm), (3, .ref po), (4, .ref pd), (5, .int i)] []
      refine V_goto (tgt := 2279) hC dL_law_1356 (by decide) ?_
      exact hJ _ _ _ hq (by omega) (by omega))
    refine V_if_ne (tgt := 1356) hC dL_law_1334 (by decide) (fun hc => ?_) (fun hc => ?_)
    · have hq := hq.1 hc
      refine V_sub [0, 1, 2, 3, 4, 5] rfl ?_
      exact hq
    · have hq := hq.2 hc
      refine V_aload_n hC dL_law_1337 3 rfl ?_
      refine V_iconst (v := 0) hC dL_law_1338 (by decide) ?_
      refine U_ldJ hC dL_law_1339 hq (fun v6 hq => ?_)
      refine V_iload hC dL_law_1340 7 rfl ?_
      have hq := hq (fun (t7 : Int64) (t8 : Int64) => V G Γ 9 (uc + 2) (us + 12) h4 1350 [(0, .ref b), (1, .ref px), (2, .ref pm), (3, .ref po), (4, .ref pd), (5, .int i)] [.long t8, .long t7]) (by
        intro t7 t8 hq
        show V G Γ 9 (uc + 2) (us + 12) h4 1350 [(0, .ref b), (1, .ref px), (2, .ref pm), (3, .ref po), (4, .ref pd), (5, .int i)] [.long t8, .long t7]
        refine V_lcmp hC dL_law_1350 ?_
        refine V_if_eq (tgt := 1356) hC dL_law_1351 (by decide) (fun hc => ?_) (fun hc => ?_)
        · have hq := hq.1 hc
          exact hq
        · have hq := hq.2 hc
          refine V_iconst (v := 0) hC dL_law_1354 (by decide) ?_
          exact hq.elim)
      refine V_if_eq (tgt := 1349) hC dL_law_1342 (by decide) (fun hc => ?_) (fun hc => ?_)
      · have hq := hq.1 hc
        refine V_lconst (v := 0) hC dL_law_1349 (by decide) ?_
        refine V_sub [0, 1, 2, 3, 4, 5] rfl ?_
        exact hq
      · have hq := hq.2 hc
        refine V_lconst (v := 1) hC dL_law_1345 (by decide) ?_
        refine V_goto (tgt := 1350) hC dL_law_1346 (by decide) ?_
        refine V_sub [0, 1, 2, 3, 4, 5] rfl ?_
        exact hq
  · have hq := hq.2 hc
    refine V_iconst (v := 0) hC dL_law_1330 (by decide) ?_
    exact hq.elim
set_option maxRecDepth 100000 in
set_option maxHeartbeats 4000000 in
theorem ct_law_1359 {G : Gx} (hG : GOK G) {Γ : Cx} (hC : COK G Γ "BandplanLaw" cL_law 9 2048 94400 603072 7219306 []) (hE : LEND G Γ) {b N : Nat} {xs : Nat → Int32} (hX : LSCR G Γ b N xs) (px pm po pd : Nat) (i : Int32) (h0 : hw) (uc us : Nat) (J : hw → Nat → Nat → Prop) (hJ : ∀ (h1 : hw) (c1 u1 : Nat), J h1 c1 u1 → c1 ≤ 603072 → u1 ≤ 7219306 → V G Γ 9 c1 u1 h1 2279 [(0, .ref b), (1, .ref px), (2, .ref pm), (3, .ref po), (4, .ref pd), (5, .int i)] []) (hq : wp_law_1359 G N xs px pm po pd i h0 uc us J) (hu1 : uc ≤ 603072) (hu2 : us ≤ 7219306) : V G Γ 9 uc us h0 1359 [(0, .ref b), (1, .ref px), (2, .ref pm), (3, .ref po), (4, .ref pd), (5, .int i)] [] := by
  unfold wp_law_1359 at hq
  refine V_aload_n hC dL_law_1359 1 rfl ?_
  refine V_aload_n hC dL_law_1360 0 rfl ?_
  refine V_iload hC dL_law_1361 5 rfl ?_
  refine V_iconst (v := 1) hC dL_law_1363 (by decide) ?_
  refine V_iadd hC dL_law_1364 ?_
  obtain ⟨hz, hq⟩ := hq
  refine V_sld hC hX hz dL_law_1365 ?_
  refine V_aload_n hC dL_law_1366 3 rfl ?_
  obtain ⟨hz1, hz2, hq⟩ := hq
  refine clSX_L_goOn hG hC ssx_L_186 ⟨by decide, by decide⟩ (Nat.le_of_ble_eq_true rfl) ⟨hz1, hz2⟩ dL_law_1367 hq (fun r1 h2 hq => ?_)
  show V G Γ 9 (uc + 1) (us + 6) h2 1370 [(0, .ref b), (1, .ref px), (2, .ref pm), (3, .ref po), (4, .ref pd), (5, .int i)] [.int r1]
  refine V_istore (L' := [(0, .ref b), (1, .ref px), (2, .ref pm), (3, .ref po), (4, .ref pd), (5, .int i), (6, .int r1)]) hC dL_law_1370 (by decide) [1, 2, 3, 4, 5, 6, 0] rfl ?_
  refine V_aload_n hC dL_law_1372 2 rfl ?_
  refine V_aload_n hC dL_law_1373 0 rfl ?_
  refine V_iload hC dL_law_1374 5 rfl ?_
  refine V_iconst (v := 1) hC dL_law_1376 (by decide) ?_
  refine V_iadd hC dL_law_1377 ?_
  obtain ⟨hz, hq⟩ := hq
  refine V_sld hC hX hz dL_law_1378 ?_
  obtain ⟨hz, hq⟩ := hq
  refine clV_X12_goOn hG hC sv_L_188 ⟨by decide, by decide⟩ (Nat.le_of_ble_eq_true rfl) ⟨by omega, by omega⟩ dL_law_1379 hz hq (fun r3 h4 hq => ?_)
  show V G Γ 9 (uc + 1) (us + 6) h4 1382 [(0, .ref b), (1, .ref px), (2, .ref pm), (3, .ref po), (4, .ref pd), (5, .int i), (6, .int r1)] [.int r3]
  refine V_istore (L' := [(0, .ref b), (1, .ref px), (2, .ref pm), (3, .ref po), (4, .ref pd), (5, .int i), (6, .int r1), (7, .int r3)]) hC dL_law_1382 (by decide) [1, 2, 3, 4, 5, 6, 7, 0] rfl ?_
  refine V_aload_n hC dL_law_1384 2 rfl ?_
  obtain ⟨hz, hq⟩ := hq
  refine clV_X12_thrown hG hC sv_L_132 ⟨by decide, by decide⟩ (Nat.le_of_ble_eq_true rfl) ⟨by omega, by omega⟩ dL_law_1385 hz hq (fun r5 hq => ?_)
  show V G Γ 9 (uc + 1) (us + 6) h4 1388 [(0, .ref b), (1, .ref px), (2, .ref pm), (3, .ref po), (4, .ref pd), (5, .int i), (6, .int r1), (7, .int r3)] [.int r5]
  refine V_iload hC dL_law_1388 6 rfl ?_
  refine V_icmp_eq (tgt := 1395) hC dL_law_1390 (by decide) (fun hc => ?_) (fun hc => ?_)
  · have hq := hq.1 hc
    refine V_iload hC dL_law_1395 6 rfl ?_
    have hq := hq (V G Γ 9 (uc + 1) (us + 6) h4 1412 [(0, .ref b), (1, .ref px), (2, .ref pm), (3, .ref po), (4, .ref pd), (5, .int i)] []) (by
      intro hq
      show V G Γ 9 (uc + 1) (us + 6) h4 1412 [(0, .ref b), (1, .ref px), (2, .ref pm), (3, .ref po), (4, .ref pd), (5, .int i)] []
      refine V_goto (tgt := 2279) hC dL_law_1412 (by decide) ?_
      exact hJ _ _ _ hq (by omega) (by omega))
    refine V_if_ne (tgt := 1412) hC dL_law_1397 (by decide) (fun hc => ?_) (fun hc => ?_)
    · have hq := hq.1 hc
      refine V_sub [0, 1, 2, 3, 4, 5] rfl ?_
      exact hq
    · have hq := hq.2 hc
      refine V_aload_n hC dL_law_1400 3 rfl ?_
      refine V_iconst (v := 0) hC dL_law_1401 (by decide) ?_
      refine U_ldJ hC dL_law_1402 hq (fun v6 hq => ?_)
      refine V_iload hC dL_law_1403 7 rfl ?_
      refine V_i2l hC dL_law_1405 ?_
      refine V_lcmp hC dL_law_1406 ?_
      refine V_if_eq (tgt := 1412) hC dL_law_1407 (by decide) (fun hc => ?_) (fun hc => ?_)
      · have hq := hq.1 hc
        refine V_sub [0, 1, 2, 3, 4, 5] rfl ?_
        exact hq
      · have hq := hq.2 hc
        refine V_iconst (v := 0) hC dL_law_1410 (by decide) ?_
        exact hq.elim
  · have hq := hq.2 hc
    refine V_iconst (v := 0) hC dL_law_1393 (by decide) ?_
    exact hq.elim
set_option maxRecDepth 100000 in
set_option maxHeartbeats 4000000 in
theorem ct_law_1415 {G : Gx} (hG : GOK G) {Γ : Cx} (hC : COK G Γ "BandplanLaw" cL_law 9 2048 94400 603072 7219306 []) (hE : LEND G Γ) {b N : Nat} {xs : Nat → Int32} (hX : LSCR G Γ b N xs) (px pm po pd : Nat) (i : Int32) (h0 : hw) (uc us : Nat) (J : hw → Nat → Nat → Prop) (hJ : ∀ (h1 : hw) (c1 u1 : Nat), J h1 c1 u1 → c1 ≤ 603072 → u1 ≤ 7219306 → V G Γ 9 c1 u1 h1 2279 [(0, .ref b), (1, .ref px), (2, .ref pm), (3, .ref po), (4, .ref pd), (5, .int i)] []) (hq : wp_law_1415 G N xs px pm po pd i h0 uc us J) (hu1 : uc ≤ 603072) (hu2 : us ≤ 7219306) : V G Γ 9 uc us h0 1415 [(0, .ref b), (1, .ref px), (2, .ref pm), (3, .ref po), (4, .ref pd), (5, .int i)] [] := by
  unfold wp_law_1415 at hq
  refine V_aload_n hC dL_law_1415 1 rfl ?_
  refine V_aload_n hC dL_law_1416 0 rfl ?_
  refine V_iload hC dL_law_1417 5 rfl ?_
  refine V_iconst (v := 1) hC dL_law_1419 (by decide) ?_
  refine V_iadd hC dL_law_1420 ?_
  obtain ⟨hz, hq⟩ := hq
  refine V_sld hC hX hz dL_law_1421 ?_
  refine V_aload_n hC dL_law_1422 3 rfl ?_
  obtain ⟨hz1, hz2, hq⟩ := hq
  refine clSX_L_canPack hG hC ssx_L_189 ⟨by decide, by decide⟩ (Nat.le_of_ble_eq_true rfl) ⟨hz1, hz2⟩ dL_law_1423 hq (fun r1 h2 hq => ?_)
  show V G Γ 9 (uc + 1) (us + 6) h2 1426 [(0, .ref b), (1, .ref px), (2, .ref pm), (3, .ref po), (4, .ref pd), (5, .int i)] [.int r1]
  refine V_istore (L' := [(0, .ref b), (1, .ref px), (2, .ref pm), (3, .ref po), (4, .ref pd), (5, .int i), (6, .int r1)]) hC dL_law_1426 (by decide) [1, 2, 3, 4, 5, 6, 0] rfl ?_
  refine V_aload_n hC dL_law_1428 2 rfl ?_
  refine V_aload_n hC dL_law_1429 0 rfl ?_
  refine V_iload hC dL_law_1430 5 rfl ?_
  refine V_iconst (v := 1) hC dL_law_1432 (by decide) ?_
  refine V_iadd hC dL_law_1433 ?_
  obtain ⟨hz, hq⟩ := hq
  refine V_sld hC hX hz dL_law_1434 ?_
  obtain ⟨hz, hq⟩ := hq
  refine clV_X12_canPack hG hC sv_L_191 ⟨by decide, by decide⟩ (Nat.le_of_ble_eq_true rfl) ⟨by omega, by omega⟩ dL_law_1435 hz hq (fun r3 h4 hq => ?_)
  show V G Γ 9 (uc + 1) (us + 6) h4 1438 [(0, .ref b), (1, .ref px), (2, .ref pm), (3, .ref po), (4, .ref pd), (5, .int i), (6, .int r1)] [.int r3]
  refine V_istore (L' := [(0, .ref b), (1, .ref px), (2, .ref pm), (3, .ref po), (4, .ref pd), (5, .int i), (6, .int r1), (7, .int r3)]) hC dL_law_1438 (by decide) [1, 2, 3, 4, 5, 6, 7, 0] rfl ?_
  refine V_aload_n hC dL_law_1440 2 rfl ?_
  obtain ⟨hz, hq⟩ := hq
  refine clV_X12_thrown hG hC sv_L_132 ⟨by decide, by decide⟩ (Nat.le_of_ble_eq_true rfl) ⟨by omega, by omega⟩ dL_law_1441 hz hq (fun r5 hq => ?_)
  show V G Γ 9 (uc + 1) (us + 6) h4 1444 [(0, .ref b), (1, .ref px), (2, .ref pm), (3, .ref po), (4, .ref pd), (5, .int i), (6, .int r1), (7, .int r3)] [.int r5]
  refine V_iload hC dL_law_1444 6 rfl ?_
  refine V_icmp_eq (tgt := 1451) hC dL_law_1446 (by decide) (fun hc => ?_) (fun hc => ?_)
  · have hq := hq.1 hc
    refine V_iload hC dL_law_1451 6 rfl ?_
    have hq := hq (V G Γ 9 (uc + 1) (us + 6) h4 1475 [(0, .ref b), (1, .ref px), (2, .ref pm), (3, .ref po), (4, .ref pd), (5, .int i)] []) (by
      intro hq
      show V G Γ 9 (uc + 1) (us + 6) h4 1475 [(0, .ref b), (1, .ref px), (2, .ref pm), (3, .ref po), (4, .ref pd), (5, .int i)] []
      refine V_goto (tgt := 2279) hC dL_law_1475 (by decide) ?_
      exact hJ _ _ _ hq (by omega) (by omega))
    refine V_if_ne (tgt := 1475) hC dL_law_1453 (by decide) (fun hc => ?_) (fun hc => ?_)
    · have hq := hq.1 hc
      refine V_sub [0, 1, 2, 3, 4, 5] rfl ?_
      exact hq
    · have hq := hq.2 hc
      refine V_aload_n hC dL_law_1456 3 rfl ?_
      refine V_iconst (v := 0) hC dL_law_1457 (by decide) ?_
      refine U_ldJ hC dL_law_1458 hq (fun v6 hq => ?_)
      refine V_iload hC dL_law_1459 7 rfl ?_
      have hq := hq (fun (t7 : Int64) (t8 : Int64) => V G Γ 9 (uc + 1) (us + 6) h4 1469 [(0, .ref b), (1, .ref px), (2, .ref pm), (3, .ref po), (4, .ref pd), (5, .int i)] [.long t8, .long t7]) (by
        intro t7 t8 hq
        show V G Γ 9 (uc + 1) (us + 6) h4 1469 [(0, .ref b), (1, .ref px), (2, .ref pm), (3, .ref po), (4, .ref pd), (5, .int i)] [.long t8, .long t7]
        refine V_lcmp hC dL_law_1469 ?_
        refine V_if_eq (tgt := 1475) hC dL_law_1470 (by decide) (fun hc => ?_) (fun hc => ?_)
        · have hq := hq.1 hc
          exact hq
        · have hq := hq.2 hc
          refine V_iconst (v := 0) hC dL_law_1473 (by decide) ?_
          exact hq.elim)
      refine V_if_eq (tgt := 1468) hC dL_law_1461 (by decide) (fun hc => ?_) (fun hc => ?_)
      · have hq := hq.1 hc
        refine V_lconst (v := 0) hC dL_law_1468 (by decide) ?_
        refine V_sub [0, 1, 2, 3, 4, 5] rfl ?_
        exact hq
      · have hq := hq.2 hc
        refine V_lconst (v := 1) hC dL_law_1464 (by decide) ?_
        refine V_goto (tgt := 1469) hC dL_law_1465 (by decide) ?_
        refine V_sub [0, 1, 2, 3, 4, 5] rfl ?_
        exact hq
  · have hq := hq.2 hc
    refine V_iconst (v := 0) hC dL_law_1449 (by decide) ?_
    exact hq.elim
set_option maxRecDepth 100000 in
set_option maxHeartbeats 4000000 in
theorem ct_law_1478 {G : Gx} (hG : GOK G) {Γ : Cx} (hC : COK G Γ "BandplanLaw" cL_law 9 2048 94400 603072 7219306 []) (hE : LEND G Γ) {b N : Nat} {xs : Nat → Int32} (hX : LSCR G Γ b N xs) (px pm po pd : Nat) (i : Int32) (h0 : hw) (uc us : Nat) (J : hw → Nat → Nat → Prop) (hJ : ∀ (h1 : hw) (c1 u1 : Nat), J h1 c1 u1 → c1 ≤ 603072 → u1 ≤ 7219306 → V G Γ 9 c1 u1 h1 2279 [(0, .ref b), (1, .ref px), (2, .ref pm), (3, .ref po), (4, .ref pd), (5, .int i)] []) (hq : wp_law_1478 G N xs px pm po pd i h0 uc us J) (hu1 : uc ≤ 603072) (hu2 : us ≤ 7219306) : V G Γ 9 uc us h0 1478 [(0, .ref b), (1, .ref px), (2, .ref pm), (3, .ref po), (4, .ref pd), (5, .int i)] [] := by
  unfold wp_law_1478 at hq
  refine V_aload_n hC dL_law_1478 1 rfl ?_
  refine V_aload_n hC dL_law_1479 0 rfl ?_
  refine V_iload hC dL_law_1480 5 rfl ?_
  refine V_iconst (v := 1) hC dL_law_1482 (by decide) ?_
  refine V_iadd hC dL_law_1483 ?_
  obtain ⟨hz, hq⟩ := hq
  refine V_sld hC hX hz dL_law_1484 ?_
  refine V_aload_n hC dL_law_1485 0 rfl ?_
  refine V_iload hC dL_law_1486 5 rfl ?_
  refine V_iconst (v := 2) hC dL_law_1488 (by decide) ?_
  refine V_iadd hC dL_law_1489 ?_
  obtain ⟨hz, hq⟩ := hq
  refine V_sld hC hX hz dL_law_1490 ?_
  refine V_aload_n hC dL_law_1491 3 rfl ?_
  obtain ⟨hz1, hz2, hq⟩ := hq
  refine clSX_L_packed hG hC ssx_L_192 ⟨by decide, by decide⟩ (Nat.le_of_ble_eq_true rfl) ⟨hz1, hz2⟩ dL_law_1492 hq (fun r1 h2 hq => ?_)
  show V G Γ 9 (uc + 3) (us + 18) h2 1495 [(0, .ref b), (1, .ref px), (2, .ref pm), (3, .ref po), (4, .ref pd), (5, .int i)] [.int r1]
  refine V_istore (L' := [(0, .ref b), (1, .ref px), (2, .ref pm), (3, .ref po), (4, .ref pd), (5, .int i), (6, .int r1)]) hC dL_law_1495 (by decide) [1, 2, 3, 4, 5, 6, 0] rfl ?_
  refine V_aload_n hC dL_law_1497 2 rfl ?_
  refine V_aload_n hC dL_law_1498 0 rfl ?_
  refine V_iload hC dL_law_1499 5 rfl ?_
  refine V_iconst (v := 1) hC dL_law_1501 (by decide) ?_
  refine V_iadd hC dL_law_1502 ?_
  obtain ⟨hz, hq⟩ := hq
  refine V_sld hC hX hz dL_law_1503 ?_
  refine V_aload_n hC dL_law_1504 0 rfl ?_
  refine V_iload hC dL_law_1505 5 rfl ?_
  refine V_iconst (v := 2) hC dL_law_1507 (by decide) ?_
  refine V_iadd hC dL_law_1508 ?_
  obtain ⟨hz, hq⟩ := hq
  refine V_sld hC hX hz dL_law_1509 ?_
  obtain ⟨hz, hq⟩ := hq
  refine clV_X12_packed hG hC sv_L_194 ⟨by decide, by decide⟩ (Nat.le_of_ble_eq_true rfl) ⟨by omega, by omega⟩ dL_law_1510 hz hq (fun r3 h4 hq => ?_)
  show V G Γ 9 (uc + 3) (us + 18) h4 1513 [(0, .ref b), (1, .ref px), (2, .ref pm), (3, .ref po), (4, .ref pd), (5, .int i), (6, .int r1)] [.int r3]
  refine V_istore (L' := [(0, .ref b), (1, .ref px), (2, .ref pm), (3, .ref po), (4, .ref pd), (5, .int i), (6, .int r1), (7, .int r3)]) hC dL_law_1513 (by decide) [1, 2, 3, 4, 5, 6, 7, 0] rfl ?_
  refine V_aload_n hC dL_law_1515 2 rfl ?_
  obtain ⟨hz, hq⟩ := hq
  refine clV_X12_thrown hG hC sv_L_132 ⟨by decide, by decide⟩ (Nat.le_of_ble_eq_true rfl) ⟨by omega, by omega⟩ dL_law_1516 hz hq (fun r5 hq => ?_)
  show V G Γ 9 (uc + 3) (us + 18) h4 1519 [(0, .ref b), (1, .ref px), (2, .ref pm), (3, .ref po), (4, .ref pd), (5, .int i), (6, .int r1), (7, .int r3)] [.int r5]
  refine V_iload hC dL_law_1519 6 rfl ?_
  refine V_icmp_eq (tgt := 1526) hC dL_law_1521 (by decide) (fun hc => ?_) (fun hc => ?_)
  · have hq := hq.1 hc
    refine V_iload hC dL_law_1526 6 rfl ?_
    have hq := hq (V G Γ 9 (uc + 3) (us + 18) h4 1543 [(0, .ref b), (1, .ref px), (2, .ref pm), (3, .ref po), (4, .ref pd), (5, .int i)] []) (by
      intro hq
      show V G Γ 9 (uc + 3) (us + 18) h4 1543 [(0, .ref b), (1, .ref px), (2, .ref pm), (3, .ref po), (4, .ref pd), (5, .int i)] []
      refine V_goto (tgt := 2279) hC dL_law_1543 (by decide) ?_
      exact hJ _ _ _ hq (by omega) (by omega))
    refine V_if_ne (tgt := 1543) hC dL_law_1528 (by decide) (fun hc => ?_) (fun hc => ?_)
    · have hq := hq.1 hc
      refine V_sub [0, 1, 2, 3, 4, 5] rfl ?_
      exact hq
    · have hq := hq.2 hc
      refine V_aload_n hC dL_law_1531 3 rfl ?_
      refine V_iconst (v := 0) hC dL_law_1532 (by decide) ?_
      refine U_ldJ hC dL_law_1533 hq (fun v6 hq => ?_)
      refine V_iload hC dL_law_1534 7 rfl ?_
      refine V_i2l hC dL_law_1536 ?_
      refine V_lcmp hC dL_law_1537 ?_
      refine V_if_eq (tgt := 1543) hC dL_law_1538 (by decide) (fun hc => ?_) (fun hc => ?_)
      · have hq := hq.1 hc
        refine V_sub [0, 1, 2, 3, 4, 5] rfl ?_
        exact hq
      · have hq := hq.2 hc
        refine V_iconst (v := 0) hC dL_law_1541 (by decide) ?_
        exact hq.elim
  · have hq := hq.2 hc
    refine V_iconst (v := 0) hC dL_law_1524 (by decide) ?_
    exact hq.elim
set_option maxRecDepth 100000 in
set_option maxHeartbeats 4000000 in
theorem ct_law_1546 {G : Gx} (hG : GOK G) {Γ : Cx} (hC : COK G Γ "BandplanLaw" cL_law 9 2048 94400 603072 7219306 []) (hE : LEND G Γ) {b N : Nat} {xs : Nat → Int32} (hX : LSCR G Γ b N xs) (px pm po pd : Nat) (i : Int32) (h0 : hw) (uc us : Nat) (J : hw → Nat → Nat → Prop) (hJ : ∀ (h1 : hw) (c1 u1 : Nat), J h1 c1 u1 → c1 ≤ 603072 → u1 ≤ 7219306 → V G Γ 9 c1 u1 h1 2279 [(0, .ref b), (1, .ref px), (2, .ref pm), (3, .ref po), (4, .ref pd), (5, .int i)] []) (hq : wp_law_1546 G N xs px pm po pd i h0 uc us J) (hu1 : uc ≤ 603072) (hu2 : us ≤ 7219306) : V G Γ 9 uc us h0 1546 [(0, .ref b), (1, .ref px), (2, .ref pm), (3, .ref po), (4, .ref pd), (5, .int i)] [] := by
  unfold wp_law_1546 at hq
  refine V_aload_n hC dL_law_1546 1 rfl ?_
  refine V_aload_n hC dL_law_1547 0 rfl ?_
  refine V_iload hC dL_law_1548 5 rfl ?_
  refine V_iconst (v := 1) hC dL_law_1550 (by decide) ?_
  refine V_iadd hC dL_law_1551 ?_
  obtain ⟨hz, hq⟩ := hq
  refine V_sld hC hX hz dL_law_1552 ?_
  refine V_aload_n hC dL_law_1553 0 rfl ?_
  refine V_iload hC dL_law_1554 5 rfl ?_
  refine V_iconst (v := 2) hC dL_law_1556 (by decide) ?_
  refine V_iadd hC dL_law_1557 ?_
  obtain ⟨hz, hq⟩ := hq
  refine V_sld hC hX hz dL_law_1558 ?_
  refine V_aload_n hC dL_law_1559 3 rfl ?_
  obtain ⟨hz1, hz2, hq⟩ := hq
  refine clSX_L_setAsked hG hC ssx_L_195 ⟨by decide, by decide⟩ (Nat.le_of_ble_eq_true rfl) ⟨hz1, hz2⟩ dL_law_1560 hq (fun r1 h2 hq => ?_)
  show V G Γ 9 (uc + 2) (us + 12) h2 1563 [(0, .ref b), (1, .ref px), (2, .ref pm), (3, .ref po), (4, .ref pd), (5, .int i)] [.int r1]
  refine V_istore (L' := [(0, .ref b), (1, .ref px), (2, .ref pm), (3, .ref po), (4, .ref pd), (5, .int i), (6, .int r1)]) hC dL_law_1563 (by decide) [1, 2, 3, 4, 5, 6, 0] rfl ?_
  refine V_aload_n hC dL_law_1565 2 rfl ?_
  refine V_aload_n hC dL_law_1566 0 rfl ?_
  refine V_iload hC dL_law_1567 5 rfl ?_
  refine V_iconst (v := 1) hC dL_law_1569 (by decide) ?_
  refine V_iadd hC dL_law_1570 ?_
  obtain ⟨hz, hq⟩ := hq
  refine V_sld hC hX hz dL_law_1571 ?_
  refine V_aload_n hC dL_law_1572 0 rfl ?_
  refine V_iload hC dL_law_1573 5 rfl ?_
  refine V_iconst (v := 2) hC dL_law_1575 (by decide) ?_
  refine V_iadd hC dL_law_1576 ?_
  obtain ⟨hz, hq⟩ := hq
  refine V_sld hC hX hz dL_law_1577 ?_
  obtain ⟨hz, hq⟩ := hq
  refine clV_X12_setAsked hG hC sv_L_197 ⟨by decide, by decide⟩ (Nat.le_of_ble_eq_true rfl) ⟨by omega, by omega⟩ dL_law_1578 hz hq (fun r3 h4 hq => ?_)
  show V G Γ 9 (uc + 2) (us + 12) h4 1581 [(0, .ref b), (1, .ref px), (2, .ref pm), (3, .ref po), (4, .ref pd), (5, .int i), (6, .int r1)] [.int r3]
  refine V_istore (L' := [(0, .ref b), (1, .ref px), (2, .ref pm), (3, .ref po), (4, .ref pd), (5, .int i), (6, .int r1), (7, .int r3)]) hC dL_law_1581 (by decide) [1, 2, 3, 4, 5, 6, 7, 0] rfl ?_
  refine V_aload_n hC dL_law_1583 2 rfl ?_
  obtain ⟨hz, hq⟩ := hq
  refine clV_X12_thrown hG hC sv_L_132 ⟨by decide, by decide⟩ (Nat.le_of_ble_eq_true rfl) ⟨by omega, by omega⟩ dL_law_1584 hz hq (fun r5 hq => ?_)
  show V G Γ 9 (uc + 2) (us + 12) h4 1587 [(0, .ref b), (1, .ref px), (2, .ref pm), (3, .ref po), (4, .ref pd), (5, .int i), (6, .int r1), (7, .int r3)] [.int r5]
  refine V_iload hC dL_law_1587 6 rfl ?_
  refine V_icmp_eq (tgt := 1594) hC dL_law_1589 (by decide) (fun hc => ?_) (fun hc => ?_)
  · have hq := hq.1 hc
    refine V_iload hC dL_law_1594 6 rfl ?_
    have hq := hq (V G Γ 9 (uc + 2) (us + 12) h4 1611 [(0, .ref b), (1, .ref px), (2, .ref pm), (3, .ref po), (4, .ref pd), (5, .int i)] []) (by
      intro hq
      show V G Γ 9 (uc + 2) (us + 12) h4 1611 [(0, .ref b), (1, .ref px), (2, .ref pm), (3, .ref po), (4, .ref pd), (5, .int i)] []
      refine V_goto (tgt := 2279) hC dL_law_1611 (by decide) ?_
      exact hJ _ _ _ hq (by omega) (by omega))
    refine V_if_ne (tgt := 1611) hC dL_law_1596 (by decide) (fun hc => ?_) (fun hc => ?_)
    · have hq := hq.1 hc
      refine V_sub [0, 1, 2, 3, 4, 5] rfl ?_
      exact hq
    · have hq := hq.2 hc
      refine V_aload_n hC dL_law_1599 3 rfl ?_
      refine V_iconst (v := 0) hC dL_law_1600 (by decide) ?_
      refine U_ldJ hC dL_law_1601 hq (fun v6 hq => ?_)
      refine V_iload hC dL_law_1602 7 rfl ?_
      refine V_i2l hC dL_law_1604 ?_
      refine V_lcmp hC dL_law_1605 ?_
      refine V_if_eq (tgt := 1611) hC dL_law_1606 (by decide) (fun hc => ?_) (fun hc => ?_)
      · have hq := hq.1 hc
        refine V_sub [0, 1, 2, 3, 4, 5] rfl ?_
        exact hq
      · have hq := hq.2 hc
        refine V_iconst (v := 0) hC dL_law_1609 (by decide) ?_
        exact hq.elim
  · have hq := hq.2 hc
    refine V_iconst (v := 0) hC dL_law_1592 (by decide) ?_
    exact hq.elim
set_option maxRecDepth 100000 in
set_option maxHeartbeats 4000000 in
theorem ct_law_1614 {G : Gx} (hG : GOK G) {Γ : Cx} (hC : COK G Γ "BandplanLaw" cL_law 9 2048 94400 603072 7219306 []) (hE : LEND G Γ) {b N : Nat} {xs : Nat → Int32} (hX : LSCR G Γ b N xs) (px pm po pd : Nat) (i : Int32) (h0 : hw) (uc us : Nat) (J : hw → Nat → Nat → Prop) (hJ : ∀ (h1 : hw) (c1 u1 : Nat), J h1 c1 u1 → c1 ≤ 603072 → u1 ≤ 7219306 → V G Γ 9 c1 u1 h1 2279 [(0, .ref b), (1, .ref px), (2, .ref pm), (3, .ref po), (4, .ref pd), (5, .int i)] []) (hq : wp_law_1614 G N xs px pm po pd i h0 uc us J) (hu1 : uc ≤ 603072) (hu2 : us ≤ 7219306) : V G Γ 9 uc us h0 1614 [(0, .ref b), (1, .ref px), (2, .ref pm), (3, .ref po), (4, .ref pd), (5, .int i)] [] := by
  unfold wp_law_1614 at hq
  refine V_aload_n hC dL_law_1614 1 rfl ?_
  refine V_aload_n hC dL_law_1615 0 rfl ?_
  refine V_iload hC dL_law_1616 5 rfl ?_
  refine V_iconst (v := 1) hC dL_law_1618 (by decide) ?_
  refine V_iadd hC dL_law_1619 ?_
  obtain ⟨hz, hq⟩ := hq
  refine V_sld hC hX hz dL_law_1620 ?_
  refine V_aload_n hC dL_law_1621 0 rfl ?_
  refine V_iload hC dL_law_1622 5 rfl ?_
  refine V_iconst (v := 2) hC dL_law_1624 (by decide) ?_
  refine V_iadd hC dL_law_1625 ?_
  obtain ⟨hz, hq⟩ := hq
  refine V_sld hC hX hz dL_law_1626 ?_
  refine V_aload_n hC dL_law_1627 0 rfl ?_
  refine V_iload hC dL_law_1628 5 rfl ?_
  refine V_iconst (v := 3) hC dL_law_1630 (by decide) ?_
  refine V_iadd hC dL_law_1631 ?_
  obtain ⟨hz, hq⟩ := hq
  refine V_sld hC hX hz dL_law_1632 ?_
  refine V_aload_n hC dL_law_1633 3 rfl ?_
  obtain ⟨hz1, hz2, hq⟩ := hq
  refine clSX_L_sell hG hC ssx_L_198 ⟨by decide, by decide⟩ (Nat.le_of_ble_eq_true rfl) ⟨hz1, hz2⟩ dL_law_1634 hq (fun r1 h2 hq => ?_)
  show V G Γ 9 (uc + 4) (us + 24) h2 1637 [(0, .ref b), (1, .ref px), (2, .ref pm), (3, .ref po), (4, .ref pd), (5, .int i)] [.int r1]
  refine V_istore (L' := [(0, .ref b), (1, .ref px), (2, .ref pm), (3, .ref po), (4, .ref pd), (5, .int i), (6, .int r1)]) hC dL_law_1637 (by decide) [1, 2, 3, 4, 5, 6, 0] rfl ?_
  refine V_aload_n hC dL_law_1639 2 rfl ?_
  refine V_aload_n hC dL_law_1640 0 rfl ?_
  refine V_iload hC dL_law_1641 5 rfl ?_
  refine V_iconst (v := 1) hC dL_law_1643 (by decide) ?_
  refine V_iadd hC dL_law_1644 ?_
  obtain ⟨hz, hq⟩ := hq
  refine V_sld hC hX hz dL_law_1645 ?_
  refine V_aload_n hC dL_law_1646 0 rfl ?_
  refine V_iload hC dL_law_1647 5 rfl ?_
  refine V_iconst (v := 2) hC dL_law_1649 (by decide) ?_
  refine V_iadd hC dL_law_1650 ?_
  obtain ⟨hz, hq⟩ := hq
  refine V_sld hC hX hz dL_law_1651 ?_
  refine V_aload_n hC dL_law_1652 0 rfl ?_
  refine V_iload hC dL_law_1653 5 rfl ?_
  refine V_iconst (v := 3) hC dL_law_1655 (by decide) ?_
  refine V_iadd hC dL_law_1656 ?_
  obtain ⟨hz, hq⟩ := hq
  refine V_sld hC hX hz dL_law_1657 ?_
  obtain ⟨bc3, bs4, hz1, hz2, hq⟩ := hq
  obtain ⟨hz, hq⟩ := hq
  refine clV_X12_sell hG hC sv_L_200 ⟨by decide, by decide⟩ (Nat.le_of_ble_eq_true rfl) ⟨hz1, hz2⟩ dL_law_1658 hz hq (fun r5 h6 hq => ?_)
  show V G Γ 9 ((uc + 4) + bc3) ((us + 24) + bs4) h6 1661 [(0, .ref b), (1, .ref px), (2, .ref pm), (3, .ref po), (4, .ref pd), (5, .int i), (6, .int r1)] [.int r5]
  refine V_istore (L' := [(0, .ref b), (1, .ref px), (2, .ref pm), (3, .ref po), (4, .ref pd), (5, .int i), (6, .int r1), (7, .int r5)]) hC dL_law_1661 (by decide) [1, 2, 3, 4, 5, 6, 7, 0] rfl ?_
  refine V_aload_n hC dL_law_1663 2 rfl ?_
  obtain ⟨hz, hq⟩ := hq
  refine clV_X12_thrown hG hC sv_L_132 ⟨by decide, by decide⟩ (Nat.le_of_ble_eq_true rfl) ⟨by omega, by omega⟩ dL_law_1664 hz hq (fun r7 hq => ?_)
  show V G Γ 9 ((uc + 4) + bc3) ((us + 24) + bs4) h6 1667 [(0, .ref b), (1, .ref px), (2, .ref pm), (3, .ref po), (4, .ref pd), (5, .int i), (6, .int r1), (7, .int r5)] [.int r7]
  refine V_iload hC dL_law_1667 6 rfl ?_
  refine V_icmp_eq (tgt := 1674) hC dL_law_1669 (by decide) (fun hc => ?_) (fun hc => ?_)
  · have hq := hq.1 hc
    refine V_iload hC dL_law_1674 6 rfl ?_
    have hq := hq (V G Γ 9 ((uc + 4) + bc3) ((us + 24) + bs4) h6 1691 [(0, .ref b), (1, .ref px), (2, .ref pm), (3, .ref po), (4, .ref pd), (5, .int i)] []) (by
      intro hq
      show V G Γ 9 ((uc + 4) + bc3) ((us + 24) + bs4) h6 1691 [(0, .ref b), (1, .ref px), (2, .ref pm), (3, .ref po), (4, .ref pd), (5, .int i)] []
      refine V_goto (tgt := 2279) hC dL_law_1691 (by decide) ?_
      exact hJ _ _ _ hq (by omega) (by omega))
    refine V_if_ne (tgt := 1691) hC dL_law_1676 (by decide) (fun hc => ?_) (fun hc => ?_)
    · have hq := hq.1 hc
      refine V_sub [0, 1, 2, 3, 4, 5] rfl ?_
      exact hq
    · have hq := hq.2 hc
      refine V_aload_n hC dL_law_1679 3 rfl ?_
      refine V_iconst (v := 0) hC dL_law_1680 (by decide) ?_
      refine U_ldJ hC dL_law_1681 hq (fun v8 hq => ?_)
      refine V_iload hC dL_law_1682 7 rfl ?_
      refine V_i2l hC dL_law_1684 ?_
      refine V_lcmp hC dL_law_1685 ?_
      refine V_if_eq (tgt := 1691) hC dL_law_1686 (by decide) (fun hc => ?_) (fun hc => ?_)
      · have hq := hq.1 hc
        refine V_sub [0, 1, 2, 3, 4, 5] rfl ?_
        exact hq
      · have hq := hq.2 hc
        refine V_iconst (v := 0) hC dL_law_1689 (by decide) ?_
        exact hq.elim
  · have hq := hq.2 hc
    refine V_iconst (v := 0) hC dL_law_1672 (by decide) ?_
    exact hq.elim
set_option maxRecDepth 100000 in
set_option maxHeartbeats 4000000 in
theorem ct_law_1694 {G : Gx} (hG : GOK G) {Γ : Cx} (hC : COK G Γ "BandplanLaw" cL_law 9 2048 94400 603072 7219306 []) (hE : LEND G Γ) {b N : Nat} {xs : Nat → Int32} (hX : LSCR G Γ b N xs) (px pm po pd : Nat) (i : Int32) (h0 : hw) (uc us : Nat) (J : hw → Nat → Nat → Prop) (hJ : ∀ (h1 : hw) (c1 u1 : Nat), J h1 c1 u1 → c1 ≤ 603072 → u1 ≤ 7219306 → V G Γ 9 c1 u1 h1 2279 [(0, .ref b), (1, .ref px), (2, .ref pm), (3, .ref po), (4, .ref pd), (5, .int i)] []) (hq : wp_law_1694 G N xs px pm po pd i h0 uc us J) (hu1 : uc ≤ 603072) (hu2 : us ≤ 7219306) : V G Γ 9 uc us h0 1694 [(0, .ref b), (1, .ref px), (2, .ref pm), (3, .ref po), (4, .ref pd), (5, .int i)] [] := by
  unfold wp_law_1694 at hq
  refine V_aload_n hC dL_law_1694 1 rfl ?_
  refine V_aload_n hC dL_law_1695 0 rfl ?_
  refine V_iload hC dL_law_1696 5 rfl ?_
  refine V_iconst (v := 1) hC dL_law_1698 (by decide) ?_
  refine V_iadd hC dL_law_1699 ?_
  obtain ⟨hz, hq⟩ := hq
  refine V_sld hC hX hz dL_law_1700 ?_
  refine V_aload_n hC dL_law_1701 3 rfl ?_
  obtain ⟨hz1, hz2, hq⟩ := hq
  refine clSX_L_priceOf hG hC ssx_L_201 ⟨by decide, by decide⟩ (Nat.le_of_ble_eq_true rfl) ⟨hz1, hz2⟩ dL_law_1702 hq (fun r1 h2 hq => ?_)
  show V G Γ 9 (uc + 2) (us + 12) h2 1705 [(0, .ref b), (1, .ref px), (2, .ref pm), (3, .ref po), (4, .ref pd), (5, .int i)] [.int r1]
  refine V_istore (L' := [(0, .ref b), (1, .ref px), (2, .ref pm), (3, .ref po), (4, .ref pd), (5, .int i), (6, .int r1)]) hC dL_law_1705 (by decide) [1, 2, 3, 4, 5, 6, 0] rfl ?_
  refine V_aload_n hC dL_law_1707 2 rfl ?_
  refine V_aload_n hC dL_law_1708 0 rfl ?_
  refine V_iload hC dL_law_1709 5 rfl ?_
  refine V_iconst (v := 1) hC dL_law_1711 (by decide) ?_
  refine V_iadd hC dL_law_1712 ?_
  obtain ⟨hz, hq⟩ := hq
  refine V_sld hC hX hz dL_law_1713 ?_
  obtain ⟨hz, hq⟩ := hq
  refine clV_X12_priceOf hG hC sv_L_203 ⟨by decide, by decide⟩ (Nat.le_of_ble_eq_true rfl) ⟨by omega, by omega⟩ dL_law_1714 hz hq (fun r3 h4 hq => ?_)
  show V G Γ 9 (uc + 2) (us + 12) h4 1717 [(0, .ref b), (1, .ref px), (2, .ref pm), (3, .ref po), (4, .ref pd), (5, .int i), (6, .int r1)] [.int r3]
  refine V_istore (L' := [(0, .ref b), (1, .ref px), (2, .ref pm), (3, .ref po), (4, .ref pd), (5, .int i), (6, .int r1), (7, .int r3)]) hC dL_law_1717 (by decide) [1, 2, 3, 4, 5, 6, 7, 0] rfl ?_
  refine V_aload_n hC dL_law_1719 2 rfl ?_
  obtain ⟨hz, hq⟩ := hq
  refine clV_X12_thrown hG hC sv_L_132 ⟨by decide, by decide⟩ (Nat.le_of_ble_eq_true rfl) ⟨by omega, by omega⟩ dL_law_1720 hz hq (fun r5 hq => ?_)
  show V G Γ 9 (uc + 2) (us + 12) h4 1723 [(0, .ref b), (1, .ref px), (2, .ref pm), (3, .ref po), (4, .ref pd), (5, .int i), (6, .int r1), (7, .int r3)] [.int r5]
  refine V_iload hC dL_law_1723 6 rfl ?_
  refine V_icmp_eq (tgt := 1730) hC dL_law_1725 (by decide) (fun hc => ?_) (fun hc => ?_)
  · have hq := hq.1 hc
    refine V_iload hC dL_law_1730 6 rfl ?_
    have hq := hq (V G Γ 9 (uc + 2) (us + 12) h4 1747 [(0, .ref b), (1, .ref px), (2, .ref pm), (3, .ref po), (4, .ref pd), (5, .int i)] []) (by
      intro hq
      show V G Γ 9 (uc + 2) (us + 12) h4 1747 [(0, .ref b), (1, .ref px), (2, .ref pm), (3, .ref po), (4, .ref pd), (5, .int i)] []
      refine V_goto (tgt := 2279) hC dL_law_1747 (by decide) ?_
      exact hJ _ _ _ hq (by omega) (by omega))
    refine V_if_ne (tgt := 1747) hC dL_law_1732 (by decide) (fun hc => ?_) (fun hc => ?_)
    · have hq := hq.1 hc
      refine V_sub [0, 1, 2, 3, 4, 5] rfl ?_
      exact hq
    · have hq := hq.2 hc
      refine V_aload_n hC dL_law_1735 3 rfl ?_
      refine V_iconst (v := 0) hC dL_law_1736 (by decide) ?_
      refine U_ldJ hC dL_law_1737 hq (fun v6 hq => ?_)
      refine V_iload hC dL_law_1738 7 rfl ?_
      refine V_i2l hC dL_law_1740 ?_
      refine V_lcmp hC dL_law_1741 ?_
      refine V_if_eq (tgt := 1747) hC dL_law_1742 (by decide) (fun hc => ?_) (fun hc => ?_)
      · have hq := hq.1 hc
        refine V_sub [0, 1, 2, 3, 4, 5] rfl ?_
        exact hq
      · have hq := hq.2 hc
        refine V_iconst (v := 0) hC dL_law_1745 (by decide) ?_
        exact hq.elim
  · have hq := hq.2 hc
    refine V_iconst (v := 0) hC dL_law_1728 (by decide) ?_
    exact hq.elim
