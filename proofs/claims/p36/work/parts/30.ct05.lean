set_option maxRecDepth 100000 in
set_option maxHeartbeats 4000000 in
theorem ct_L_build {G : Gx} (hG : GOK G) (p0 : Nat) (p1 : Nat) (h0 : hw) (bc bs : Nat) (post : hw → Prop) (hq : wp_L_build G p0 p1 h0 bc bs post) : CT G yL_build cL_build 4 none 22 559 bc bs [.ref p0, .ref p1] h0 (fun v h1 => v = none ∧ post h1) (fun E h1 => False) := by
  refine CT_of hG (by decide) (Nat.le_of_ble_eq_true rfl) (fun Γ hC hQ hN => ?_)
  have hC : COK G Γ "BandplanLaw" cL_build 4 22 559 bc bs [] := hC
  unfold wp_L_build at hq
  show V G Γ 4 0 0 h0 0 [(0, .ref p0), (1, .ref p1)] []
  refine V_iconst (v := 0) hC dL_build_0 (by decide) ?_
  refine V_istore_n (L' := [(0, .ref p0), (1, .ref p1), (2, .int 0)]) hC dL_build_1 rfl (by decide) [1, 2, 0] rfl ?_
  have hq := hq (fun (x2_1 : Int32) (h2 : hw) (uc3 : Nat) (us4 : Nat) => uc3 ≤ bc → us4 ≤ bs → V G Γ 4 uc3 us4 h2 2 [(0, .ref p0), (1, .ref p1), (2, .int x2_1)] []) (by
    intro x2_1 h2 uc3 us4 hq hu1 hu2
    show V G Γ 4 uc3 us4 h2 2 [(0, .ref p0), (1, .ref p1), (2, .int x2_1)] []
    refine V_iload_n hC dL_build_2 2 rfl ?_
    refine V_bipush (v := 30) hC dL_build_3 (by decide) ?_
    refine V_icmp_ge (tgt := 52) hC dL_build_5 (by decide) (fun hc => ?_) (fun hc => ?_)
    · have hq := hq.1 hc
      refine V_iconst (v := 0) hC dL_build_52 (by decide) ?_
      refine V_istore_n (L' := [(0, .ref p0), (1, .ref p1), (2, .int 0)]) hC dL_build_53 rfl (by decide) [1, 2, 0] rfl ?_
      have hq := hq (fun (x2_5 : Int32) (h6 : hw) (uc7 : Nat) (us8 : Nat) => uc7 ≤ bc → us8 ≤ bs → V G Γ 4 uc7 us8 h6 54 [(0, .ref p0), (1, .ref p1), (2, .int x2_5)] []) (by
        intro x2_5 h6 uc7 us8 hq hu1 hu2
        show V G Γ 4 uc7 us8 h6 54 [(0, .ref p0), (1, .ref p1), (2, .int x2_5)] []
        refine V_iload_n hC dL_build_54 2 rfl ?_
        refine V_bipush (v := 10) hC dL_build_55 (by decide) ?_
        refine V_icmp_ge (tgt := 117) hC dL_build_57 (by decide) (fun hc => ?_) (fun hc => ?_)
        · have hq := hq.1 hc
          refine V_iconst (v := 0) hC dL_build_117 (by decide) ?_
          refine V_istore_n (L' := [(0, .ref p0), (1, .ref p1), (2, .int 0)]) hC dL_build_118 rfl (by decide) [1, 2, 0] rfl ?_
          have hq := hq (fun (x2_9 : Int32) (h10 : hw) (uc11 : Nat) (us12 : Nat) => uc11 ≤ bc → us12 ≤ bs → V G Γ 4 uc11 us12 h10 119 [(0, .ref p0), (1, .ref p1), (2, .int x2_9)] []) (by
            intro x2_9 h10 uc11 us12 hq hu1 hu2
            show V G Γ 4 uc11 us12 h10 119 [(0, .ref p0), (1, .ref p1), (2, .int x2_9)] []
            refine V_iload_n hC dL_build_119 2 rfl ?_
            refine V_bipush (v := 6) hC dL_build_120 (by decide) ?_
            refine V_icmp_ge (tgt := 230) hC dL_build_122 (by decide) (fun hc => ?_) (fun hc => ?_)
            · have hq := hq.1 hc
              refine V_aload_n hC dL_build_230 0 rfl ?_
              refine V_iconst (v := 3) hC dL_build_231 (by decide) ?_
              refine V_aload_n hC dL_build_232 1 rfl ?_
              refine V_sipush (v := 180) hC dL_build_233 (by decide) ?_
              refine V_sipush (v := 300) hC dL_build_236 (by decide) ?_
              refine clS_L_pick hG hC ss_L_134 ⟨by decide, by decide⟩ (Nat.le_of_ble_eq_true rfl) ⟨by omega, by omega⟩ dL_build_239 hq (fun r13 hq => ?_)
              show V G Γ 4 uc11 us12 h10 242 [(0, .ref p0), (1, .ref p1), (2, .int x2_9)] [.int r13, .int 3, .ref p0]
              refine V_iconst (v := 0) hC dL_build_242 (by decide) ?_
              obtain ⟨hz1, hz2, hq⟩ := hq
              refine clS_L_ask hG hC ss_L_138 ⟨by decide, by decide⟩ (Nat.le_of_ble_eq_true rfl) ⟨hz1, hz2⟩ dL_build_243 hq (fun r14 h15 hq => ?_)
              show V G Γ 4 (uc11 + 5) (us12 + 34) h15 246 [(0, .ref p0), (1, .ref p1), (2, .int x2_9)] [.int r14]
              refine V_pop hC dL_build_246 rfl ?_
              refine V_aload_n hC dL_build_247 0 rfl ?_
              refine V_bipush (v := 6) hC dL_build_248 (by decide) ?_
              refine V_aload_n hC dL_build_250 1 rfl ?_
              refine V_sipush (v := 181) hC dL_build_251 (by decide) ?_
              refine V_bipush (v := 8) hC dL_build_254 (by decide) ?_
              refine clS_L_pick hG hC ss_L_134 ⟨by decide, by decide⟩ (Nat.le_of_ble_eq_true rfl) ⟨by omega, by omega⟩ dL_build_256 hq (fun r16 hq => ?_)
              show V G Γ 4 (uc11 + 5) (us12 + 34) h15 259 [(0, .ref p0), (1, .ref p1), (2, .int x2_9)] [.int r16, .int 6, .ref p0]
              refine V_iconst (v := 1) hC dL_build_259 (by decide) ?_
              obtain ⟨hz1, hz2, hq⟩ := hq
              refine clS_L_ask hG hC ss_L_138 ⟨by decide, by decide⟩ (Nat.le_of_ble_eq_true rfl) ⟨hz1, hz2⟩ dL_build_260 hq (fun r17 h18 hq => ?_)
              show V G Γ 4 ((uc11 + 5) + 5) ((us12 + 34) + 34) h18 263 [(0, .ref p0), (1, .ref p1), (2, .int x2_9)] [.int r17]
              refine V_pop hC dL_build_263 rfl ?_
              obtain ⟨hz1, hz2, hq⟩ := hq
              exact V_vret hC hQ ⟨hz1, hz2⟩ dL_build_264 ⟨rfl, hq⟩
            · have hq := hq.2 hc
              refine V_aload_n hC dL_build_125 1 rfl ?_
              refine V_sipush (v := 140) hC dL_build_126 (by decide) ?_
              refine V_iconst (v := 3) hC dL_build_129 (by decide) ?_
              refine V_iload_n hC dL_build_130 2 rfl ?_
              refine V_imul hC dL_build_131 ?_
              refine V_iadd hC dL_build_132 ?_
              refine V_bipush (v := 10) hC dL_build_133 (by decide) ?_
              refine clS_L_pick hG hC ss_L_134 ⟨by decide, by decide⟩ (Nat.le_of_ble_eq_true rfl) ⟨by omega, by omega⟩ dL_build_135 hq (fun r19 hq => ?_)
              show V G Γ 4 uc11 us12 h10 138 [(0, .ref p0), (1, .ref p1), (2, .int x2_9)] [.int r19]
              refine V_istore_n (L' := [(0, .ref p0), (1, .ref p1), (2, .int x2_9), (3, .int r19)]) hC dL_build_138 rfl (by decide) [1, 2, 3, 0] rfl ?_
              refine V_aload_n hC dL_build_139 0 rfl ?_
              refine V_iconst (v := 2) hC dL_build_140 (by decide) ?_
              refine V_iload_n hC dL_build_141 3 rfl ?_
              refine V_iload_n hC dL_build_142 3 rfl ?_
              refine V_iconst (v := 1) hC dL_build_143 (by decide) ?_
              refine V_iadd hC dL_build_144 ?_
              refine V_aload_n hC dL_build_145 1 rfl ?_
              refine V_sipush (v := 141) hC dL_build_146 (by decide) ?_
              refine V_iconst (v := 3) hC dL_build_149 (by decide) ?_
              refine V_iload_n hC dL_build_150 2 rfl ?_
              refine V_imul hC dL_build_151 ?_
              refine V_iadd hC dL_build_152 ?_
              refine V_bipush (v := 9) hC dL_build_153 (by decide) ?_
              refine clS_L_pick hG hC ss_L_134 ⟨by decide, by decide⟩ (Nat.le_of_ble_eq_true rfl) ⟨by omega, by omega⟩ dL_build_155 hq (fun r20 hq => ?_)
              show V G Γ 4 uc11 us12 h10 158 [(0, .ref p0), (1, .ref p1), (2, .int x2_9), (3, .int r19)] [.int r20, .int (r19 + 1), .int r19, .int 2, .ref p0]
              refine V_iadd hC dL_build_158 ?_
              refine V_bipush (v := 10) hC dL_build_159 (by decide) ?_
              obtain ⟨hz, hq⟩ := hq
              refine V_irem hC dL_build_161 hz ?_
              refine V_sipush (v := 200) hC dL_build_162 (by decide) ?_
              refine V_aload_n hC dL_build_165 1 rfl ?_
              refine V_sipush (v := 142) hC dL_build_166 (by decide) ?_
              refine V_iconst (v := 3) hC dL_build_169 (by decide) ?_
              refine V_iload_n hC dL_build_170 2 rfl ?_
              refine V_imul hC dL_build_171 ?_
              refine V_iadd hC dL_build_172 ?_
              refine V_sipush (v := 301) hC dL_build_173 (by decide) ?_
              refine clS_L_pick hG hC ss_L_134 ⟨by decide, by decide⟩ (Nat.le_of_ble_eq_true rfl) ⟨by omega, by omega⟩ dL_build_176 hq (fun r21 hq => ?_)
              show V G Γ 4 uc11 us12 h10 179 [(0, .ref p0), (1, .ref p1), (2, .int x2_9), (3, .int r19)] [.int r21, .int 200, .int (((r19 + 1) + r20) - ((r19 + 1) + r20) / 10 * 10), .int r19, .int 2, .ref p0]
              refine V_iadd hC dL_build_179 ?_
              refine V_aload_n hC dL_build_180 1 rfl ?_
              refine V_sipush (v := 160) hC dL_build_181 (by decide) ?_
              refine V_iload_n hC dL_build_184 2 rfl ?_
              refine V_iadd hC dL_build_185 ?_
              refine V_iconst (v := 4) hC dL_build_186 (by decide) ?_
              refine clS_L_pick hG hC ss_L_134 ⟨by decide, by decide⟩ (Nat.le_of_ble_eq_true rfl) ⟨by omega, by omega⟩ dL_build_187 hq (fun r22 hq => ?_)
              show V G Γ 4 uc11 us12 h10 190 [(0, .ref p0), (1, .ref p1), (2, .int x2_9), (3, .int r19)] [.int r22, .int (200 + r21), .int (((r19 + 1) + r20) - ((r19 + 1) + r20) / 10 * 10), .int r19, .int 2, .ref p0]
              have hq := hq (fun (t23 : Nat) (t24 : Int32) (t25 : Int32) (t26 : Int32) (t27 : Int32) (t28 : Int32) => V G Γ 4 uc11 us12 h10 198 [(0, .ref p0), (1, .ref p1), (2, .int x2_9)] [.int t28, .int t27, .int t26, .int t25, .int t24, .ref t23]) (by
                intro t23 t24 t25 t26 t27 t28 hq
                show V G Γ 4 uc11 us12 h10 198 [(0, .ref p0), (1, .ref p1), (2, .int x2_9)] [.int t28, .int t27, .int t26, .int t25, .int t24, .ref t23]
                refine clS_L_told hG hC ss_L_43 ⟨by decide, by decide⟩ (Nat.le_of_ble_eq_true rfl) ⟨by omega, by omega⟩ dL_build_198 hq (fun r29 hq => ?_)
                show V G Γ 4 uc11 us12 h10 201 [(0, .ref p0), (1, .ref p1), (2, .int x2_9)] [.int r29, .int t27, .int t26, .int t25, .int t24, .ref t23]
                obtain ⟨hz1, hz2, hq⟩ := hq
                refine clSX_L_deed hG hC ssx_L_131 ⟨by decide, by decide⟩ (Nat.le_of_ble_eq_true rfl) ⟨hz1, hz2⟩ dL_build_201 hq (fun r30 h31 hq => ?_)
                show V G Γ 4 (uc11 + 5) (us12 + 34) h31 204 [(0, .ref p0), (1, .ref p1), (2, .int x2_9)] [.int r30]
                refine V_pop hC dL_build_204 rfl ?_
                refine V_aload_n hC dL_build_205 0 rfl ?_
                refine V_bipush (v := 10) hC dL_build_206 (by decide) ?_
                refine V_iload_n hC dL_build_208 2 rfl ?_
                refine V_aload_n hC dL_build_209 1 rfl ?_
                refine V_sipush (v := 170) hC dL_build_210 (by decide) ?_
                refine V_iload_n hC dL_build_213 2 rfl ?_
                refine V_iadd hC dL_build_214 ?_
                refine V_bipush (v := 60) hC dL_build_215 (by decide) ?_
                refine clS_L_pick hG hC ss_L_134 ⟨by decide, by decide⟩ (Nat.le_of_ble_eq_true rfl) ⟨by omega, by omega⟩ dL_build_217 hq (fun r32 hq => ?_)
                show V G Γ 4 (uc11 + 5) (us12 + 34) h31 220 [(0, .ref p0), (1, .ref p1), (2, .int x2_9)] [.int r32, .int x2_9, .int 10, .ref p0]
                obtain ⟨hz1, hz2, hq⟩ := hq
                refine clS_L_ask hG hC ss_L_138 ⟨by decide, by decide⟩ (Nat.le_of_ble_eq_true rfl) ⟨hz1, hz2⟩ dL_build_220 hq (fun r33 h34 hq => ?_)
                show V G Γ 4 ((uc11 + 5) + 5) ((us12 + 34) + 34) h34 223 [(0, .ref p0), (1, .ref p1), (2, .int x2_9)] [.int r33]
                refine V_pop hC dL_build_223 rfl ?_
                refine V_iinc (j := 2) (v := (x2_9 + 1)) (L' := [(0, .ref p0), (1, .ref p1), (2, .int (x2_9 + 1))]) hC dL_build_224 rfl rfl (by decide) [1, 2, 0] rfl ?_
                refine V_goto (tgt := 119) hC dL_build_227 (by decide) ?_
                exact hq (by omega) (by omega))
              refine V_if_le (tgt := 197) hC dL_build_190 (by decide) (fun hc => ?_) (fun hc => ?_)
              · have hq := hq.1 hc
                refine V_iconst (v := 0) hC dL_build_197 (by decide) ?_
                refine V_sub [0, 1, 2] rfl ?_
                exact hq
              · have hq := hq.2 hc
                refine V_iconst (v := 1) hC dL_build_193 (by decide) ?_
                refine V_goto (tgt := 198) hC dL_build_194 (by decide) ?_
                refine V_sub [0, 1, 2] rfl ?_
                exact hq)
          exact hq (by omega) (by omega)
        · have hq := hq.2 hc
          refine V_aload_n hC dL_build_60 0 rfl ?_
          refine V_iconst (v := 1) hC dL_build_61 (by decide) ?_
          refine V_aload_n hC dL_build_62 1 rfl ?_
          refine V_bipush (v := 100) hC dL_build_63 (by decide) ?_
          refine V_iconst (v := 3) hC dL_build_65 (by decide) ?_
          refine V_iload_n hC dL_build_66 2 rfl ?_
          refine V_imul hC dL_build_67 ?_
          refine V_iadd hC dL_build_68 ?_
          refine V_bipush (v := 20) hC dL_build_69 (by decide) ?_
          refine clS_L_pick hG hC ss_L_134 ⟨by decide, by decide⟩ (Nat.le_of_ble_eq_true rfl) ⟨by omega, by omega⟩ dL_build_71 hq (fun r35 hq => ?_)
          show V G Γ 4 uc7 us8 h6 74 [(0, .ref p0), (1, .ref p1), (2, .int x2_5)] [.int r35, .int 1, .ref p0]
          refine V_aload_n hC dL_build_74 1 rfl ?_
          refine V_bipush (v := 101) hC dL_build_75 (by decide) ?_
          refine V_iconst (v := 3) hC dL_build_77 (by decide) ?_
          refine V_iload_n hC dL_build_78 2 rfl ?_
          refine V_imul hC dL_build_79 ?_
          refine V_iadd hC dL_build_80 ?_
          refine V_aload_n hC dL_build_81 1 rfl ?_
          refine V_bipush (v := 99) hC dL_build_82 (by decide) ?_
          refine V_bipush (v := 20) hC dL_build_84 (by decide) ?_
          refine clS_L_pick hG hC ss_L_134 ⟨by decide, by decide⟩ (Nat.le_of_ble_eq_true rfl) ⟨by omega, by omega⟩ dL_build_86 hq (fun r36 hq => ?_)
          show V G Γ 4 uc7 us8 h6 89 [(0, .ref p0), (1, .ref p1), (2, .int x2_5)] [.int r36, .int (101 + (3 * x2_5)), .ref p1, .int r35, .int 1, .ref p0]
          refine V_iconst (v := 1) hC dL_build_89 (by decide) ?_
          refine V_iadd hC dL_build_90 ?_
          refine clS_L_pick hG hC ss_L_134 ⟨by decide, by decide⟩ (Nat.le_of_ble_eq_true rfl) ⟨by omega, by omega⟩ dL_build_91 hq (fun r37 hq => ?_)
          show V G Γ 4 uc7 us8 h6 94 [(0, .ref p0), (1, .ref p1), (2, .int x2_5)] [.int r37, .int r35, .int 1, .ref p0]
          refine V_aload_n hC dL_build_94 1 rfl ?_
          refine V_bipush (v := 102) hC dL_build_95 (by decide) ?_
          refine V_iconst (v := 3) hC dL_build_97 (by decide) ?_
          refine V_iload_n hC dL_build_98 2 rfl ?_
          refine V_imul hC dL_build_99 ?_
          refine V_iadd hC dL_build_100 ?_
          refine V_bipush (v := 100) hC dL_build_101 (by decide) ?_
          refine clS_L_pick hG hC ss_L_134 ⟨by decide, by decide⟩ (Nat.le_of_ble_eq_true rfl) ⟨by omega, by omega⟩ dL_build_103 hq (fun r38 hq => ?_)
          show V G Γ 4 uc7 us8 h6 106 [(0, .ref p0), (1, .ref p1), (2, .int x2_5)] [.int r38, .int r37, .int r35, .int 1, .ref p0]
          refine V_iconst (v := 0) hC dL_build_106 (by decide) ?_
          obtain ⟨hz1, hz2, hq⟩ := hq
          refine clSX_L_deed hG hC ssx_L_131 ⟨by decide, by decide⟩ (Nat.le_of_ble_eq_true rfl) ⟨hz1, hz2⟩ dL_build_107 hq (fun r39 h40 hq => ?_)
          show V G Γ 4 (uc7 + 5) (us8 + 34) h40 110 [(0, .ref p0), (1, .ref p1), (2, .int x2_5)] [.int r39]
          refine V_pop hC dL_build_110 rfl ?_
          refine V_iinc (j := 2) (v := (x2_5 + 1)) (L' := [(0, .ref p0), (1, .ref p1), (2, .int (x2_5 + 1))]) hC dL_build_111 rfl rfl (by decide) [1, 2, 0] rfl ?_
          refine V_goto (tgt := 54) hC dL_build_114 (by decide) ?_
          exact hq (by omega) (by omega))
      exact hq (by omega) (by omega)
    · have hq := hq.2 hc
      refine V_aload_n hC dL_build_8 0 rfl ?_
      refine V_iconst (v := 0) hC dL_build_9 (by decide) ?_
      refine V_aload_n hC dL_build_10 1 rfl ?_
      refine V_iconst (v := 3) hC dL_build_11 (by decide) ?_
      refine V_iload_n hC dL_build_12 2 rfl ?_
      refine V_imul hC dL_build_13 ?_
      refine V_bipush (v := 20) hC dL_build_14 (by decide) ?_
      refine clS_L_pick hG hC ss_L_134 ⟨by decide, by decide⟩ (Nat.le_of_ble_eq_true rfl) ⟨by omega, by omega⟩ dL_build_16 hq (fun r41 hq => ?_)
      show V G Γ 4 uc3 us4 h2 19 [(0, .ref p0), (1, .ref p1), (2, .int x2_1)] [.int r41, .int 0, .ref p0]
      refine V_aload_n hC dL_build_19 1 rfl ?_
      refine V_iconst (v := 3) hC dL_build_20 (by decide) ?_
      refine V_iload_n hC dL_build_21 2 rfl ?_
      refine V_imul hC dL_build_22 ?_
      refine V_iconst (v := 1) hC dL_build_23 (by decide) ?_
      refine V_iadd hC dL_build_24 ?_
      refine V_bipush (v := 20) hC dL_build_25 (by decide) ?_
      refine clS_L_pick hG hC ss_L_134 ⟨by decide, by decide⟩ (Nat.le_of_ble_eq_true rfl) ⟨by omega, by omega⟩ dL_build_27 hq (fun r42 hq => ?_)
      show V G Γ 4 uc3 us4 h2 30 [(0, .ref p0), (1, .ref p1), (2, .int x2_1)] [.int r42, .int r41, .int 0, .ref p0]
      refine V_aload_n hC dL_build_30 1 rfl ?_
      refine V_iconst (v := 3) hC dL_build_31 (by decide) ?_
      refine V_iload_n hC dL_build_32 2 rfl ?_
      refine V_imul hC dL_build_33 ?_
      refine V_iconst (v := 2) hC dL_build_34 (by decide) ?_
      refine V_iadd hC dL_build_35 ?_
      refine V_bipush (v := 100) hC dL_build_36 (by decide) ?_
      refine clS_L_pick hG hC ss_L_134 ⟨by decide, by decide⟩ (Nat.le_of_ble_eq_true rfl) ⟨by omega, by omega⟩ dL_build_38 hq (fun r43 hq => ?_)
      show V G Γ 4 uc3 us4 h2 41 [(0, .ref p0), (1, .ref p1), (2, .int x2_1)] [.int r43, .int r42, .int r41, .int 0, .ref p0]
      refine V_iconst (v := 0) hC dL_build_41 (by decide) ?_
      obtain ⟨hz1, hz2, hq⟩ := hq
      refine clSX_L_deed hG hC ssx_L_131 ⟨by decide, by decide⟩ (Nat.le_of_ble_eq_true rfl) ⟨hz1, hz2⟩ dL_build_42 hq (fun r44 h45 hq => ?_)
      show V G Γ 4 (uc3 + 5) (us4 + 34) h45 45 [(0, .ref p0), (1, .ref p1), (2, .int x2_1)] [.int r44]
      refine V_pop hC dL_build_45 rfl ?_
      refine V_iinc (j := 2) (v := (x2_1 + 1)) (L' := [(0, .ref p0), (1, .ref p1), (2, .int (x2_1 + 1))]) hC dL_build_46 rfl rfl (by decide) [1, 2, 0] rfl ?_
      refine V_goto (tgt := 2) hC dL_build_49 (by decide) ?_
      exact hq (by omega) (by omega))
  exact hq (by omega) (by omega)
theorem clS_L_build {G : Gx} (hG : GOK G) {Γ : Cx} {own : String} {cc : ByteArray} {nL fr lo mc ms cells slots pc : Nat} {hh : List (Nat × Nat × Nat × Nat)} {h : hw} {L : List (Nat × Value)} {rest : List Value} (hC : COK G Γ own cc nL fr lo mc ms hh) {idx : Nat} (hs : SS own idx yL_build cL_build 4 none 2) {bc bs : Nat} {p0 : Nat} {p1 : Nat} (hR : 22 + 1 ≤ fr ∧ 8 + (4 + 11) + 559 ≤ lo) (hw8 : (rest.map fun v => v.category).sum ≤ 8) (hcs : cells + bc ≤ mc ∧ slots + bs ≤ ms) (hdg : decode cc pc = .ok (.invokestatic idx, 3)) {post : hw → Prop} (hq : wp_L_build G p0 p1 h bc bs post) (kk : ∀ (h1 : hw) , post h1 → V G Γ nL (cells + bc) (slots + bs) h1 (pc + 3) L (rest)) : V G Γ nL cells slots h pc L (.ref p1 :: .ref p0 :: rest) :=
  V_callS (As := [.ref p0, .ref p1]) hC (ct_L_build hG p0 p1 h bc bs post hq) hs rfl hR hw8 hcs hdg (fun E h1 z => z.elim) (fun v h1 z => by obtain ⟨rfl, hz⟩ := z; exact kk h1 hz)
set_option maxRecDepth 100000 in
set_option maxHeartbeats 4000000 in
theorem ct_L_isProtected {G : Gx} (hG : GOK G) (p0 : Nat) (p1 : Int32) (h0 : hw) (post : Int32 → Prop) (hq : wp_L_isProtected G p0 p1 h0 post) : CT G yL_isProtected cL_isProtected 2 (some .boolean) 3 74 0 0 [.ref p0, .int p1] h0 (fun v h1 => ∃ r : Int32, v = some (.int r) ∧ h1 = h0 ∧ post r) (fun E h1 => False) := by
  refine CT_of hG (by decide) (Nat.le_of_ble_eq_true rfl) (fun Γ hC hQ hN => ?_)
  have hC : COK G Γ "BandplanLaw" cL_isProtected 2 3 74 0 0 [] := hC
  unfold wp_L_isProtected at hq
  show V G Γ 2 0 0 h0 0 [(0, .ref p0), (1, .int p1)] []
  refine V_aload_n hC dL_isProtected_0 0 rfl ?_
  refine V_sipush (v := 160) hC dL_isProtected_1 (by decide) ?_
  refine V_iload_n hC dL_isProtected_4 1 rfl ?_
  refine V_iadd hC dL_isProtected_5 ?_
  refine V_iconst (v := 4) hC dL_isProtected_6 (by decide) ?_
  refine clS_L_pick hG hC ss_L_134 ⟨by decide, by decide⟩ (Nat.le_of_ble_eq_true rfl) ⟨by decide, by decide⟩ dL_isProtected_7 hq (fun r1 hq => ?_)
  show V G Γ 2 0 0 h0 10 [(0, .ref p0), (1, .int p1)] [.int r1]
  refine V_if_le (tgt := 17) hC dL_isProtected_10 (by decide) (fun hc => ?_) (fun hc => ?_)
  · have hq := hq.1 hc
    refine V_iconst (v := 0) hC dL_isProtected_17 (by decide) ?_
    exact V_iret hC hQ rfl rfl ⟨by decide, by decide⟩ dL_isProtected_18 ⟨_, rfl, rfl, hq⟩
  · have hq := hq.2 hc
    refine V_iconst (v := 1) hC dL_isProtected_13 (by decide) ?_
    refine V_goto (tgt := 18) hC dL_isProtected_14 (by decide) ?_
    exact V_iret hC hQ rfl rfl ⟨by decide, by decide⟩ dL_isProtected_18 ⟨_, rfl, rfl, hq⟩
theorem clS_L_isProtected {G : Gx} (hG : GOK G) {Γ : Cx} {own : String} {cc : ByteArray} {nL fr lo mc ms cells slots pc : Nat} {hh : List (Nat × Nat × Nat × Nat)} {h : hw} {L : List (Nat × Value)} {rest : List Value} (hC : COK G Γ own cc nL fr lo mc ms hh) {idx : Nat} (hs : SS own idx yL_isProtected cL_isProtected 2 (some .boolean) 2) {p0 : Nat} {p1 : Int32} (hR : 3 + 1 ≤ fr ∧ 8 + (2 + 11) + 74 ≤ lo) (hw8 : (rest.map fun v => v.category).sum ≤ 8) (hcs : cells + 0 ≤ mc ∧ slots + 0 ≤ ms) (hdg : decode cc pc = .ok (.invokestatic idx, 3)) {post : Int32 → Prop} (hq : wp_L_isProtected G p0 p1 h post) (kk : ∀ (r : Int32) , post r → V G Γ nL (cells + 0) (slots + 0) h (pc + 3) L (.int r :: rest)) : V G Γ nL cells slots h pc L (.int p1 :: .ref p0 :: rest) :=
  V_callS (As := [.ref p0, .int p1]) hC (ct_L_isProtected hG p0 p1 h post hq) hs rfl hR hw8 hcs hdg (fun E h1 z => z.elim) (fun v h1 z => by obtain ⟨r, rfl, rfl, hz⟩ := z; exact kk r hz)
set_option maxRecDepth 100000 in
set_option maxHeartbeats 4000000 in
theorem ct_L_areLosses {G : Gx} (hG : GOK G) (p0 : Nat) (h0 : hw) (bc bs : Nat) (post : Int32 → hw → Prop) (hq : wp_L_areLosses G p0 h0 bc bs post) : CT G yL_areLosses cL_areLosses 5 (some .boolean) 22 559 bc bs [.ref p0] h0 (fun v h1 => ∃ r : Int32, v = some (.int r) ∧ post r h1) (fun E h1 => False) := by
  refine CT_of hG (by decide) (Nat.le_of_ble_eq_true rfl) (fun Γ hC hQ hN => ?_)
  have hC : COK G Γ "BandplanLaw" cL_areLosses 5 22 559 bc bs [] := hC
  unfold wp_L_areLosses at hq
  show V G Γ 5 0 0 h0 0 [(0, .ref p0)] []
  refine V_iconst (v := 1) hC dL_areLosses_0 (by decide) ?_
  refine V_istore_n (L' := [(0, .ref p0), (1, .int 1)]) hC dL_areLosses_1 rfl (by decide) [1, 0] rfl ?_
  refine V_iconst (v := 0) hC dL_areLosses_2 (by decide) ?_
  refine V_istore_n (L' := [(0, .ref p0), (1, .int 1), (2, .int 0)]) hC dL_areLosses_3 rfl (by decide) [1, 2, 0] rfl ?_
  have hq := hq (fun (x1_1 : Int32) (x2_2 : Int32) (h3 : hw) (uc4 : Nat) (us5 : Nat) => uc4 ≤ bc → us5 ≤ bs → V G Γ 5 uc4 us5 h3 4 [(0, .ref p0), (1, .int x1_1), (2, .int x2_2)] []) (by
    intro x1_1 x2_2 h3 uc4 us5 hq hu1 hu2
    show V G Γ 5 uc4 us5 h3 4 [(0, .ref p0), (1, .int x1_1), (2, .int x2_2)] []
    refine V_iload_n hC dL_areLosses_4 2 rfl ?_
    refine V_bipush (v := 10) hC dL_areLosses_5 (by decide) ?_
    refine V_icmp_ge (tgt := 95) hC dL_areLosses_7 (by decide) (fun hc => ?_) (fun hc => ?_)
    · have hq := hq.1 hc
      refine V_iload_n hC dL_areLosses_95 1 rfl ?_
      obtain ⟨hz1, hz2, hq⟩ := hq
      obtain ⟨hz, hq⟩ := hq
      exact V_iret hC hQ rfl (nar_b hz) ⟨hz1, hz2⟩ dL_areLosses_96 ⟨_, rfl, hq⟩
    · have hq := hq.2 hc
      refine V_iconst (v := 0) hC dL_areLosses_10 (by decide) ?_
      refine V_istore_n (L' := [(0, .ref p0), (1, .int x1_1), (2, .int x2_2), (3, .int 0)]) hC dL_areLosses_11 rfl (by decide) [1, 2, 3, 0] rfl ?_
      have hq := hq (fun (x1_6 : Int32) (x3_7 : Int32) (h8 : hw) (uc9 : Nat) (us10 : Nat) => uc9 ≤ bc → us10 ≤ bs → V G Γ 5 uc9 us10 h8 12 [(0, .ref p0), (1, .int x1_6), (2, .int x2_2), (3, .int x3_7)] []) (by
        intro x1_6 x3_7 h8 uc9 us10 hq hu1 hu2
        show V G Γ 5 uc9 us10 h8 12 [(0, .ref p0), (1, .int x1_6), (2, .int x2_2), (3, .int x3_7)] []
        refine V_iload_n hC dL_areLosses_12 3 rfl ?_
        refine V_bipush (v := 10) hC dL_areLosses_13 (by decide) ?_
        refine V_icmp_ge (tgt := 89) hC dL_areLosses_15 (by decide) (fun hc => ?_) (fun hc => ?_)
        · have hq := hq.1 hc
          refine V_iinc (j := 2) (v := (x2_2 + 1)) (L' := [(0, .ref p0), (1, .int x1_6), (2, .int (x2_2 + 1)), (3, .int x3_7)]) hC dL_areLosses_89 rfl rfl (by decide) [1, 2, 0, 3] rfl ?_
          refine V_goto (tgt := 4) hC dL_areLosses_92 (by decide) ?_
          refine V_sub [0, 1, 2] rfl ?_
          exact hq (by omega) (by omega)
        · have hq := hq.2 hc
          refine V_aload_n hC dL_areLosses_18 0 rfl ?_
          refine V_bipush (v := 20) hC dL_areLosses_19 (by decide) ?_
          refine V_iload_n hC dL_areLosses_21 2 rfl ?_
          refine V_iload_n hC dL_areLosses_22 3 rfl ?_
          obtain ⟨hz1, hz2, hq⟩ := hq
          refine clS_L_ask hG hC ss_L_138 ⟨by decide, by decide⟩ (Nat.le_of_ble_eq_true rfl) ⟨hz1, hz2⟩ dL_areLosses_23 hq (fun r11 h12 hq => ?_)
          show V G Γ 5 (uc9 + 5) (us10 + 34) h12 26 [(0, .ref p0), (1, .int x1_6), (2, .int x2_2), (3, .int x3_7)] [.int r11]
          refine V_istore (L' := [(0, .ref p0), (1, .int x1_6), (2, .int x2_2), (3, .int x3_7), (4, .int r11)]) hC dL_areLosses_26 (by decide) [1, 2, 3, 4, 0] rfl ?_
          refine V_iload_n hC dL_areLosses_28 1 rfl ?_
          have hq := hq (fun (t13 : Int32) (h14 : hw) (uc15 : Nat) (us16 : Nat) => uc15 ≤ bc → us16 ≤ bs → V G Γ 5 uc15 us16 h14 82 [(0, .ref p0), (2, .int x2_2), (3, .int x3_7)] [.int t13]) (by
            intro t13 h14 uc15 us16 hq hu1 hu2
            show V G Γ 5 uc15 us16 h14 82 [(0, .ref p0), (2, .int x2_2), (3, .int x3_7)] [.int t13]
            refine V_istore_n (L' := [(0, .ref p0), (1, .int t13), (2, .int x2_2), (3, .int x3_7)]) hC dL_areLosses_82 rfl (by decide) [1, 0, 2, 3] rfl ?_
            refine V_iinc (j := 3) (v := (x3_7 + 1)) (L' := [(0, .ref p0), (1, .int t13), (2, .int x2_2), (3, .int (x3_7 + 1))]) hC dL_areLosses_83 rfl rfl (by decide) [1, 2, 3, 0] rfl ?_
            refine V_goto (tgt := 12) hC dL_areLosses_86 (by decide) ?_
            exact hq (by omega) (by omega))
          have hq := hq (fun (h17 : hw) (uc18 : Nat) (us19 : Nat) => uc18 ≤ bc → us19 ≤ bs → V G Γ 5 uc18 us19 h17 81 [(0, .ref p0), (2, .int x2_2), (3, .int x3_7)] []) (by
            intro h17 uc18 us19 hq hu1 hu2
            show V G Γ 5 uc18 us19 h17 81 [(0, .ref p0), (2, .int x2_2), (3, .int x3_7)] []
            refine V_iconst (v := 0) hC dL_areLosses_81 (by decide) ?_
            exact hq (by omega) (by omega))
          refine V_if_eq (tgt := 81) hC dL_areLosses_29 (by decide) (fun hc => ?_) (fun hc => ?_)
          · have hq := hq.1 hc
            refine V_sub [0, 2, 3] rfl ?_
            exact hq (by omega) (by omega)
          · have hq := hq.2 hc
            refine V_iload hC dL_areLosses_32 4 rfl ?_
            refine V_aload_n hC dL_areLosses_34 0 rfl ?_
            refine V_bipush (v := 20) hC dL_areLosses_35 (by decide) ?_
            refine V_iload_n hC dL_areLosses_37 3 rfl ?_
            refine V_iload_n hC dL_areLosses_38 2 rfl ?_
            obtain ⟨hz1, hz2, hq⟩ := hq
            refine clS_L_ask hG hC ss_L_138 ⟨by decide, by decide⟩ (Nat.le_of_ble_eq_true rfl) ⟨hz1, hz2⟩ dL_areLosses_39 hq (fun r20 h21 hq => ?_)
            show V G Γ 5 ((uc9 + 5) + 5) ((us10 + 34) + 34) h21 42 [(0, .ref p0), (1, .int x1_6), (2, .int x2_2), (3, .int x3_7), (4, .int r11)] [.int r20, .int r11]
            refine V_icmp_ne (tgt := 81) hC dL_areLosses_42 (by decide) (fun hc => ?_) (fun hc => ?_)
            · have hq := hq.1 hc
              refine V_sub [0, 2, 3] rfl ?_
              exact hq (by omega) (by omega)
            · have hq := hq.2 hc
              refine V_iload_n hC dL_areLosses_45 2 rfl ?_
              refine V_iload_n hC dL_areLosses_46 3 rfl ?_
              have hq := hq (V G Γ 5 ((uc9 + 5) + 5) ((us10 + 34) + 34) h21 77 [(0, .ref p0), (2, .int x2_2), (3, .int x3_7)] []) (by
                intro hq
                show V G Γ 5 ((uc9 + 5) + 5) ((us10 + 34) + 34) h21 77 [(0, .ref p0), (2, .int x2_2), (3, .int x3_7)] []
                refine V_iconst (v := 1) hC dL_areLosses_77 (by decide) ?_
                refine V_goto (tgt := 82) hC dL_areLosses_78 (by decide) ?_
                exact hq (by omega) (by omega))
              refine V_icmp_ne (tgt := 58) hC dL_areLosses_47 (by decide) (fun hc => ?_) (fun hc => ?_)
              · have hq := hq.1 hc
                refine V_iload hC dL_areLosses_58 4 rfl ?_
                refine V_sipush (v := 200) hC dL_areLosses_60 (by decide) ?_
                refine V_icmp_lt (tgt := 81) hC dL_areLosses_63 (by decide) (fun hc => ?_) (fun hc => ?_)
                · have hq := hq.1 hc
                  refine V_sub [0, 2, 3] rfl ?_
                  exact hq (by omega) (by omega)
                · have hq := hq.2 hc
                  refine V_iload hC dL_areLosses_66 4 rfl ?_
                  refine V_sipush (v := 200) hC dL_areLosses_68 (by decide) ?_
                  refine V_isub hC dL_areLosses_71 ?_
                  refine V_iconst (v := 4) hC dL_areLosses_72 (by decide) ?_
                  obtain ⟨hz, hq⟩ := hq
                  refine V_irem hC dL_areLosses_73 hz ?_
                  refine V_if_ne (tgt := 81) hC dL_areLosses_74 (by decide) (fun hc => ?_) (fun hc => ?_)
                  · have hq := hq.1 hc
                    refine V_sub [0, 2, 3] rfl ?_
                    exact hq (by omega) (by omega)
                  · have hq := hq.2 hc
                    refine V_sub [0, 2, 3] rfl ?_
                    exact hq
              · have hq := hq.2 hc
                refine V_iload hC dL_areLosses_50 4 rfl ?_
                refine V_if_ne (tgt := 81) hC dL_areLosses_52 (by decide) (fun hc => ?_) (fun hc => ?_)
                · have hq := hq.1 hc
                  refine V_sub [0, 2, 3] rfl ?_
                  exact hq (by omega) (by omega)
                · have hq := hq.2 hc
                  refine V_goto (tgt := 77) hC dL_areLosses_55 (by decide) ?_
                  refine V_sub [0, 2, 3] rfl ?_
                  exact hq)
      exact hq (by omega) (by omega))
  exact hq (by omega) (by omega)
theorem clS_L_areLosses {G : Gx} (hG : GOK G) {Γ : Cx} {own : String} {cc : ByteArray} {nL fr lo mc ms cells slots pc : Nat} {hh : List (Nat × Nat × Nat × Nat)} {h : hw} {L : List (Nat × Value)} {rest : List Value} (hC : COK G Γ own cc nL fr lo mc ms hh) {idx : Nat} (hs : SS own idx yL_areLosses cL_areLosses 5 (some .boolean) 1) {bc bs : Nat} {p0 : Nat} (hR : 22 + 1 ≤ fr ∧ 8 + (5 + 11) + 559 ≤ lo) (hw8 : (rest.map fun v => v.category).sum ≤ 8) (hcs : cells + bc ≤ mc ∧ slots + bs ≤ ms) (hdg : decode cc pc = .ok (.invokestatic idx, 3)) {post : Int32 → hw → Prop} (hq : wp_L_areLosses G p0 h bc bs post) (kk : ∀ (r : Int32) (h1 : hw) , post r h1 → V G Γ nL (cells + bc) (slots + bs) h1 (pc + 3) L (.int r :: rest)) : V G Γ nL cells slots h pc L (.ref p0 :: rest) :=
  V_callS (As := [.ref p0]) hC (ct_L_areLosses hG p0 h bc bs post hq) hs rfl hR hw8 hcs hdg (fun E h1 z => z.elim) (fun v h1 z => by obtain ⟨r, rfl, hz⟩ := z; exact kk r h1 hz)
set_option maxRecDepth 100000 in
set_option maxHeartbeats 4000000 in
theorem ct_L_areKept {G : Gx} (hG : GOK G) (p0 : Nat) (p1 : Nat) (p2 : Int32) (p3 : Int32) (h0 : hw) (bc bs : Nat) (post : Int32 → hw → Prop) (xp : String → hw → Prop) (hq : wp_L_areKept G p0 p1 p2 p3 h0 bc bs post xp) : CT G yL_areKept cL_areKept 12 (some .boolean) 22 559 bc bs [.ref p0, .ref p1, .int p2, .int p3] h0 (fun v h1 => ∃ r : Int32, v = some (.int r) ∧ post r h1) (fun E h1 => xp E h1) := by
  refine CT_of hG (by decide) (Nat.le_of_ble_eq_true rfl) (fun Γ hC hQ hN => ?_)
  have hC : COK G Γ "BandplanLaw" cL_areKept 12 22 559 bc bs [] := hC
  unfold wp_L_areKept at hq
  show V G Γ 12 0 0 h0 0 [(0, .ref p0), (1, .ref p1), (2, .int p2), (3, .int p3)] []
  refine V_aload_n hC dL_areKept_0 0 rfl ?_
  obtain ⟨hz, hq⟩ := hq
  refine clV_X11_isSound hG hC sv_L_142 ⟨by decide, by decide⟩ (Nat.le_of_ble_eq_true rfl) ⟨by omega, by omega⟩ dL_areKept_1 hz hq (fun r1 hq => ?_)
  show V G Γ 12 0 0 h0 4 [(0, .ref p0), (1, .ref p1), (2, .int p2), (3, .int p3)] [.int r1]
  refine V_istore (L' := [(0, .ref p0), (1, .ref p1), (2, .int p2), (3, .int p3), (4, .int r1)]) hC dL_areKept_4 (by decide) [1, 2, 3, 4, 0] rfl ?_
  refine V_iconst (v := 0) hC dL_areKept_6 (by decide) ?_
  refine V_istore (L' := [(0, .ref p0), (1, .ref p1), (2, .int p2), (3, .int p3), (4, .int r1), (5, .int 0)]) hC dL_areKept_7 (by decide) [1, 2, 3, 4, 5, 0] rfl ?_
  refine V_iconst (v := 0) hC dL_areKept_9 (by decide) ?_
  refine V_istore (L' := [(0, .ref p0), (1, .ref p1), (2, .int p2), (3, .int p3), (4, .int r1), (5, .int 0), (6, .int 0)]) hC dL_areKept_10 (by decide) [1, 2, 3, 4, 5, 6, 0] rfl ?_
  have hq := hq (fun (x4_2 : Int32) (x5_3 : Int32) (x6_4 : Int32) (h5 : hw) (uc6 : Nat) (us7 : Nat) => uc6 ≤ bc → us7 ≤ bs → V G Γ 12 uc6 us7 h5 12 [(0, .ref p0), (1, .ref p1), (2, .int p2), (3, .int p3), (4, .int x4_2), (5, .int x5_3), (6, .int x6_4)] []) (by
    intro x4_2 x5_3 x6_4 h5 uc6 us7 hq hu1 hu2
    show V G Γ 12 uc6 us7 h5 12 [(0, .ref p0), (1, .ref p1), (2, .int p2), (3, .int p3), (4, .int x4_2), (5, .int x5_3), (6, .int x6_4)] []
    refine V_iload hC dL_areKept_12 6 rfl ?_
    refine V_bipush (v := 6) hC dL_areKept_14 (by decide) ?_
    have hq := hq (V G Γ 12 uc6 us7 h5 255 [(0, .ref p0), (4, .int x4_2), (5, .int x5_3)] []) (by
      intro hq
      show V G Γ 12 uc6 us7 h5 255 [(0, .ref p0), (4, .int x4_2), (5, .int x5_3)] []
      refine V_iload hC dL_areKept_255 1 rfl ?_
      have hq := hq (fun (uc8 : Nat) (us9 : Nat) => uc8 ≤ bc → us9 ≤ bs → V G Γ 12 uc8 us9 h5 278 [] []) (by
        intro uc8 us9 hq hu1 hu2
        show V G Γ 12 uc8 us9 h5 278 [] []
        refine V_iconst (v := 0) hC dL_areKept_278 (by decide) ?_
        obtain ⟨hz1, hz2, hq⟩ := hq
        exact V_iret hC hQ rfl rfl ⟨hz1, hz2⟩ dL_areKept_279 ⟨_, rfl, hq⟩)
      refine V_if_eq (tgt := 278) hC dL_areKept_257 (by decide) (fun hc => ?_) (fun hc => ?_)
      · have hq := hq.1 hc
        refine V_sub [] rfl ?_
        exact hq (by omega) (by omega)
      · have hq := hq.2 hc
        refine V_aload_n hC dL_areKept_260 0 rfl ?_
        obtain ⟨hz1, hz2, hq⟩ := hq
        obtain ⟨hz, hq⟩ := hq
        refine clV_X11_onShare hG hC sv_L_150 ⟨by decide, by decide⟩ (Nat.le_of_ble_eq_true rfl) ⟨hz1, hz2⟩ dL_areKept_261 hz hq (fun E hx => VX_out hC hQ ⟨by omega, by omega⟩ hx) (fun r10 hq => ?_)
        show V G Γ 12 (uc6 + 1) (us7 + 6) h5 264 [(0, .ref p0), (4, .int x4_2), (5, .int x5_3)] [.float r10]
        refine V_iload hC dL_areKept_264 2 rfl ?_
        refine V_i2f hC dL_areKept_266 ?_
        refine V_ldcf (v := 1086324736) hC aw_5_177 dL_areKept_267 ?_
        obtain ⟨hz, hq⟩ := hq
        refine V_fdiv hC dL_areKept_269 hz ?_
        refine V_fcmp hC dL_areKept_270 ?_
        refine V_if_ne (tgt := 278) hC dL_areKept_271 (by decide) (fun hc => ?_) (fun hc => ?_)
        · have hq := hq.1 hc
          refine V_sub [] rfl ?_
          exact hq (by omega) (by omega)
        · have hq := hq.2 hc
          refine V_iconst (v := 1) hC dL_areKept_274 (by decide) ?_
          refine V_goto (tgt := 279) hC dL_areKept_275 (by decide) ?_
          obtain ⟨hz1, hz2, hq⟩ := hq
          exact V_iret hC hQ rfl rfl ⟨hz1, hz2⟩ dL_areKept_279 ⟨_, rfl, hq⟩)
    refine V_icmp_ge (tgt := 255) hC dL_areKept_16 (by decide) (fun hc => ?_) (fun hc => ?_)
    · have hq := hq.1 hc
      refine V_sub [0, 4, 5] rfl ?_
      exact hq
    · have hq := hq.2 hc
      refine V_iload hC dL_areKept_19 4 rfl ?_
      refine V_if_eq (tgt := 255) hC dL_areKept_21 (by decide) (fun hc => ?_) (fun hc => ?_)
      · have hq := hq.1 hc
        refine V_sub [0, 4, 5] rfl ?_
        exact hq
      · have hq := hq.2 hc
        refine V_aload_n hC dL_areKept_24 0 rfl ?_
        refine V_bipush (v := 25) hC dL_areKept_25 (by decide) ?_
        refine V_iload hC dL_areKept_27 6 rfl ?_
        refine V_iload_n hC dL_areKept_29 2 rfl ?_
        obtain ⟨hz1, hz2, hq⟩ := hq
        refine clS_L_ask hG hC ss_L_138 ⟨by decide, by decide⟩ (Nat.le_of_ble_eq_true rfl) ⟨hz1, hz2⟩ dL_areKept_30 hq (fun r11 h12 hq => ?_)
        show V G Γ 12 (uc6 + 5) (us7 + 34) h12 33 [(0, .ref p0), (1, .ref p1), (2, .int p2), (3, .int p3), (4, .int x4_2), (5, .int x5_3), (6, .int x6_4)] [.int r11]
        refine V_istore (L' := [(0, .ref p0), (1, .ref p1), (2, .int p2), (3, .int p3), (4, .int x4_2), (5, .int x5_3), (6, .int x6_4), (7, .int r11)]) hC dL_areKept_33 (by decide) [1, 2, 3, 4, 5, 6, 7, 0] rfl ?_
        refine V_aload_n hC dL_areKept_35 0 rfl ?_
        refine V_bipush (v := 23) hC dL_areKept_36 (by decide) ?_
        refine V_iload hC dL_areKept_38 6 rfl ?_
        refine V_iconst (v := 0) hC dL_areKept_40 (by decide) ?_
        obtain ⟨hz1, hz2, hq⟩ := hq
        refine clS_L_ask hG hC ss_L_138 ⟨by decide, by decide⟩ (Nat.le_of_ble_eq_true rfl) ⟨hz1, hz2⟩ dL_areKept_41 hq (fun r13 h14 hq => ?_)
        show V G Γ 12 ((uc6 + 5) + 5) ((us7 + 34) + 34) h14 44 [(0, .ref p0), (1, .ref p1), (2, .int p2), (3, .int p3), (4, .int x4_2), (5, .int x5_3), (6, .int x6_4), (7, .int r11)] [.int r13]
        refine V_istore (L' := [(0, .ref p0), (1, .ref p1), (2, .int p2), (3, .int p3), (4, .int x4_2), (5, .int x5_3), (6, .int x6_4), (7, .int r11), (8, .int r13)]) hC dL_areKept_44 (by decide) [1, 2, 3, 4, 5, 6, 7, 8, 0] rfl ?_
        refine V_aload_n hC dL_areKept_46 0 rfl ?_
        refine V_bipush (v := 22) hC dL_areKept_47 (by decide) ?_
        refine V_iload hC dL_areKept_49 6 rfl ?_
        refine V_iconst (v := 0) hC dL_areKept_51 (by decide) ?_
        obtain ⟨hz1, hz2, hq⟩ := hq
        refine clS_L_ask hG hC ss_L_138 ⟨by decide, by decide⟩ (Nat.le_of_ble_eq_true rfl) ⟨hz1, hz2⟩ dL_areKept_52 hq (fun r15 h16 hq => ?_)
        show V G Γ 12 (((uc6 + 5) + 5) + 5) (((us7 + 34) + 34) + 34) h16 55 [(0, .ref p0), (1, .ref p1), (2, .int p2), (3, .int p3), (4, .int x4_2), (5, .int x5_3), (6, .int x6_4), (7, .int r11), (8, .int r13)] [.int r15]
        refine V_istore (L' := [(0, .ref p0), (1, .ref p1), (2, .int p2), (3, .int p3), (4, .int x4_2), (5, .int x5_3), (6, .int x6_4), (7, .int r11), (8, .int r13), (9, .int r15)]) hC dL_areKept_55 (by decide) [1, 2, 3, 4, 5, 6, 7, 8, 9, 0] rfl ?_
        refine V_iload hC dL_areKept_57 5 rfl ?_
        refine V_iload hC dL_areKept_59 7 rfl ?_
        refine V_iconst (v := (-1)) hC dL_areKept_61 (by decide) ?_
        have hq := hq (fun (t17 : Int32) (t18 : Int32) => V G Γ 12 (((uc6 + 5) + 5) + 5) (((us7 + 34) + 34) + 34) h16 70 [(0, .ref p0), (1, .ref p1), (2, .int p2), (3, .int p3), (6, .int x6_4), (7, .int r11), (8, .int r13), (9, .int r15)] [.int t18, .int t17]) (by
          intro t17 t18 hq
          show V G Γ 12 (((uc6 + 5) + 5) + 5) (((us7 + 34) + 34) + 34) h16 70 [(0, .ref p0), (1, .ref p1), (2, .int p2), (3, .int p3), (6, .int x6_4), (7, .int r11), (8, .int r13), (9, .int r15)] [.int t18, .int t17]
          refine clS_L_told hG hC ss_L_43 ⟨by decide, by decide⟩ (Nat.le_of_ble_eq_true rfl) ⟨by omega, by omega⟩ dL_areKept_70 hq (fun r19 hq => ?_)
          show V G Γ 12 (((uc6 + 5) + 5) + 5) (((us7 + 34) + 34) + 34) h16 73 [(0, .ref p0), (1, .ref p1), (2, .int p2), (3, .int p3), (6, .int x6_4), (7, .int r11), (8, .int r13), (9, .int r15)] [.int r19, .int t17]
          refine V_iadd hC dL_areKept_73 ?_
          refine V_istore (L' := [(0, .ref p0), (1, .ref p1), (2, .int p2), (3, .int p3), (5, .int (t17 + r19)), (6, .int x6_4), (7, .int r11), (8, .int r13), (9, .int r15)]) hC dL_areKept_74 (by decide) [1, 2, 3, 4, 0, 5, 6, 7, 8] rfl ?_
          refine V_iload hC dL_areKept_76 6 rfl ?_
          refine V_iconst (v := (-1)) hC dL_areKept_78 (by decide) ?_
          have hq := hq (fun (t20 : Int32) => V G Γ 12 (((uc6 + 5) + 5) + 5) (((us7 + 34) + 34) + 34) h16 144 [(0, .ref p0), (1, .ref p1), (2, .int p2), (3, .int p3), (5, .int (t17 + r19)), (6, .int x6_4), (7, .int r11)] [.int t20]) (by
            intro t20 hq
            show V G Γ 12 (((uc6 + 5) + 5) + 5) (((us7 + 34) + 34) + 34) h16 144 [(0, .ref p0), (1, .ref p1), (2, .int p2), (3, .int p3), (5, .int (t17 + r19)), (6, .int x6_4), (7, .int r11)] [.int t20]
            refine V_istore (L' := [(0, .ref p0), (1, .ref p1), (2, .int p2), (3, .int p3), (4, .int t20), (5, .int (t17 + r19)), (6, .int x6_4), (7, .int r11)]) hC dL_areKept_144 (by decide) [1, 2, 3, 4, 0, 5, 6, 7] rfl ?_
            refine V_iconst (v := 0) hC dL_areKept_146 (by decide) ?_
            refine V_istore (L' := [(0, .ref p0), (1, .ref p1), (2, .int p2), (3, .int p3), (4, .int t20), (5, .int (t17 + r19)), (6, .int x6_4), (7, .int r11), (10, .int 0)]) hC dL_areKept_147 (by decide) [1, 2, 3, 4, 5, 6, 7, 8, 0] rfl ?_
            have hq := hq (fun (x4_21 : Int32) (x10_22 : Int32) (h23 : hw) (uc24 : Nat) (us25 : Nat) => uc24 ≤ bc → us25 ≤ bs → V G Γ 12 uc24 us25 h23 149 [(0, .ref p0), (1, .ref p1), (2, .int p2), (3, .int p3), (4, .int x4_21), (5, .int (t17 + r19)), (6, .int x6_4), (7, .int r11), (10, .int x10_22)] []) (by
              intro x4_21 x10_22 h23 uc24 us25 hq hu1 hu2
              show V G Γ 12 uc24 us25 h23 149 [(0, .ref p0), (1, .ref p1), (2, .int p2), (3, .int p3), (4, .int x4_21), (5, .int (t17 + r19)), (6, .int x6_4), (7, .int r11), (10, .int x10_22)] []
              refine V_iload hC dL_areKept_149 8 rfl ?_
              refine V_iload hC dL_areKept_151 6 rfl ?_
              have hq := hq (V G Γ 12 uc24 us25 h23 249 [(0, .ref p0), (1, .ref p1), (2, .int p2), (3, .int p3), (4, .int x4_21), (5, .int (t17 + r19)), (6, .int x6_4)] []) (by
                intro hq
                show V G Γ 12 uc24 us25 h23 249 [(0, .ref p0), (1, .ref p1), (2, .int p2), (3, .int p3), (4, .int x4_21), (5, .int (t17 + r19)), (6, .int x6_4)] []
                refine V_iinc (j := 6) (v := (x6_4 + 1)) (L' := [(0, .ref p0), (1, .ref p1), (2, .int p2), (3, .int p3), (4, .int x4_21), (5, .int (t17 + r19)), (6, .int (x6_4 + 1))]) hC dL_areKept_249 rfl rfl (by decide) [1, 2, 3, 4, 5, 6, 0] rfl ?_
                refine V_goto (tgt := 12) hC dL_areKept_252 (by decide) ?_
                exact hq (by omega) (by omega))
              refine V_icmp_ge (tgt := 249) hC dL_areKept_153 (by decide) (fun hc => ?_) (fun hc => ?_)
              · have hq := hq.1 hc
                refine V_sub [0, 1, 2, 3, 4, 5, 6] rfl ?_
                exact hq
              · have hq := hq.2 hc
                refine V_iload hC dL_areKept_156 4 rfl ?_
                refine V_if_eq (tgt := 249) hC dL_areKept_158 (by decide) (fun hc => ?_) (fun hc => ?_)
                · have hq := hq.1 hc
                  refine V_sub [0, 1, 2, 3, 4, 5, 6] rfl ?_
                  exact hq
                · have hq := hq.2 hc
                  refine V_iload hC dL_areKept_161 7 rfl ?_
                  refine V_iconst (v := (-1)) hC dL_areKept_163 (by decide) ?_
                  refine V_icmp_eq (tgt := 249) hC dL_areKept_164 (by decide) (fun hc => ?_) (fun hc => ?_)
                  · have hq := hq.1 hc
                    refine V_sub [0, 1, 2, 3, 4, 5, 6] rfl ?_
                    exact hq
                  · have hq := hq.2 hc
                    refine V_aload_n hC dL_areKept_167 0 rfl ?_
                    refine V_bipush (v := 25) hC dL_areKept_168 (by decide) ?_
                    refine V_iload hC dL_areKept_170 8 rfl ?_
                    refine V_iload_n hC dL_areKept_172 2 rfl ?_
                    obtain ⟨hz1, hz2, hq⟩ := hq
                    refine clS_L_ask hG hC ss_L_138 ⟨by decide, by decide⟩ (Nat.le_of_ble_eq_true rfl) ⟨hz1, hz2⟩ dL_areKept_173 hq (fun r26 h27 hq => ?_)
                    show V G Γ 12 (uc24 + 5) (us25 + 34) h27 176 [(0, .ref p0), (1, .ref p1), (2, .int p2), (3, .int p3), (4, .int x4_21), (5, .int (t17 + r19)), (6, .int x6_4), (7, .int r11), (10, .int x10_22)] [.int r26]
                    refine V_istore (L' := [(0, .ref p0), (1, .ref p1), (2, .int p2), (3, .int p3), (4, .int x4_21), (5, .int (t17 + r19)), (6, .int x6_4), (7, .int r11), (10, .int x10_22), (11, .int r26)]) hC dL_areKept_176 (by decide) [1, 2, 3, 4, 5, 6, 7, 8, 9, 0] rfl ?_
                    refine V_iload hC dL_areKept_178 9 rfl ?_
                    refine V_iconst (v := (-1)) hC dL_areKept_180 (by decide) ?_
                    have hq := hq (fun (t28 : Int32) (h29 : hw) (uc30 : Nat) (us31 : Nat) => uc30 ≤ bc → us31 ≤ bs → V G Γ 12 uc30 us31 h29 241 [(0, .ref p0), (1, .ref p1), (2, .int p2), (3, .int p3), (5, .int (t17 + r19)), (6, .int x6_4), (7, .int r11), (10, .int x10_22)] [.int t28]) (by
                      intro t28 h29 uc30 us31 hq hu1 hu2
                      show V G Γ 12 uc30 us31 h29 241 [(0, .ref p0), (1, .ref p1), (2, .int p2), (3, .int p3), (5, .int (t17 + r19)), (6, .int x6_4), (7, .int r11), (10, .int x10_22)] [.int t28]
                      refine V_istore (L' := [(0, .ref p0), (1, .ref p1), (2, .int p2), (3, .int p3), (4, .int t28), (5, .int (t17 + r19)), (6, .int x6_4), (7, .int r11), (10, .int x10_22)]) hC dL_areKept_241 (by decide) [1, 2, 3, 4, 0, 5, 6, 7, 8] rfl ?_
                      refine V_iinc (j := 8) (v := (x10_22 + 1)) (L' := [(0, .ref p0), (1, .ref p1), (2, .int p2), (3, .int p3), (4, .int t28), (5, .int (t17 + r19)), (6, .int x6_4), (7, .int r11), (10, .int (x10_22 + 1))]) hC dL_areKept_243 rfl rfl (by decide) [1, 2, 3, 4, 5, 6, 7, 8, 0] rfl ?_
                      refine V_goto (tgt := 149) hC dL_areKept_246 (by decide) ?_
                      exact hq (by omega) (by omega))
                    have hq := hq (fun (h32 : hw) (uc33 : Nat) (us34 : Nat) => uc33 ≤ bc → us34 ≤ bs → V G Γ 12 uc33 us34 h32 236 [(0, .ref p0), (1, .ref p1), (2, .int p2), (3, .int p3), (5, .int (t17 + r19)), (6, .int x6_4), (7, .int r11), (10, .int x10_22)] []) (by
                      intro h32 uc33 us34 hq hu1 hu2
                      show V G Γ 12 uc33 us34 h32 236 [(0, .ref p0), (1, .ref p1), (2, .int p2), (3, .int p3), (5, .int (t17 + r19)), (6, .int x6_4), (7, .int r11), (10, .int x10_22)] []
                      refine V_iconst (v := 1) hC dL_areKept_236 (by decide) ?_
                      refine V_goto (tgt := 241) hC dL_areKept_237 (by decide) ?_
                      exact hq (by omega) (by omega))
                    refine V_icmp_eq (tgt := 236) hC dL_areKept_181 (by decide) (fun hc => ?_) (fun hc => ?_)
                    · have hq := hq.1 hc
                      refine V_sub [0, 1, 2, 3, 5, 6, 7, 8] rfl ?_
                      exact hq (by omega) (by omega)
                    · have hq := hq.2 hc
                      refine V_aload_n hC dL_areKept_184 0 rfl ?_
                      refine V_bipush (v := 24) hC dL_areKept_185 (by decide) ?_
                      refine V_iload hC dL_areKept_187 6 rfl ?_
                      refine V_iload hC dL_areKept_189 7 rfl ?_
                      refine V_iload hC dL_areKept_191 8 rfl ?_
                      refine V_iload hC dL_areKept_193 9 rfl ?_
                      obtain ⟨hz1, hz2, hq⟩ := hq
                      refine clSX_L_deed hG hC ssx_L_131 ⟨by decide, by decide⟩ (Nat.le_of_ble_eq_true rfl) ⟨hz1, hz2⟩ dL_areKept_195 hq (fun r35 h36 hq => ?_)
                      show V G Γ 12 ((uc24 + 5) + 5) ((us25 + 34) + 34) h36 198 [(0, .ref p0), (1, .ref p1), (2, .int p2), (3, .int p3), (4, .int x4_21), (5, .int (t17 + r19)), (6, .int x6_4), (7, .int r11), (10, .int x10_22), (11, .int r26)] [.int r35]
                      refine V_aload_n hC dL_areKept_198 0 rfl ?_
                      refine V_bipush (v := 24) hC dL_areKept_199 (by decide) ?_
                      refine V_iload hC dL_areKept_201 8 rfl ?_
                      refine V_iload hC dL_areKept_203 9 rfl ?_
                      refine V_iload hC dL_areKept_205 6 rfl ?_
                      refine V_iload hC dL_areKept_207 7 rfl ?_
                      obtain ⟨hz1, hz2, hq⟩ := hq
                      refine clSX_L_deed hG hC ssx_L_131 ⟨by decide, by decide⟩ (Nat.le_of_ble_eq_true rfl) ⟨hz1, hz2⟩ dL_areKept_209 hq (fun r37 h38 hq => ?_)
                      show V G Γ 12 (((uc24 + 5) + 5) + 5) (((us25 + 34) + 34) + 34) h38 212 [(0, .ref p0), (1, .ref p1), (2, .int p2), (3, .int p3), (4, .int x4_21), (5, .int (t17 + r19)), (6, .int x6_4), (7, .int r11), (10, .int x10_22), (11, .int r26)] [.int r37, .int r35]
                      have hq := hq (fun (h39 : hw) (uc40 : Nat) (us41 : Nat) => uc40 ≤ bc → us41 ≤ bs → V G Γ 12 uc40 us41 h39 240 [(0, .ref p0), (1, .ref p1), (2, .int p2), (3, .int p3), (5, .int (t17 + r19)), (6, .int x6_4), (7, .int r11), (10, .int x10_22)] []) (by
                        intro h39 uc40 us41 hq hu1 hu2
                        show V G Γ 12 uc40 us41 h39 240 [(0, .ref p0), (1, .ref p1), (2, .int p2), (3, .int p3), (5, .int (t17 + r19)), (6, .int x6_4), (7, .int r11), (10, .int x10_22)] []
                        refine V_iconst (v := 0) hC dL_areKept_240 (by decide) ?_
                        exact hq (by omega) (by omega))
                      refine V_icmp_ne (tgt := 240) hC dL_areKept_212 (by decide) (fun hc => ?_) (fun hc => ?_)
                      · have hq := hq.1 hc
                        refine V_sub [0, 1, 2, 3, 5, 6, 7, 8] rfl ?_
                        exact hq (by omega) (by omega)
                      · have hq := hq.2 hc
                        refine V_iload_n hC dL_areKept_215 3 rfl ?_
                        refine V_if_ne (tgt := 236) hC dL_areKept_216 (by decide) (fun hc => ?_) (fun hc => ?_)
                        · have hq := hq.1 hc
                          refine V_sub [0, 1, 2, 3, 5, 6, 7, 8] rfl ?_
                          exact hq (by omega) (by omega)
                        · have hq := hq.2 hc
                          refine V_aload_n hC dL_areKept_219 0 rfl ?_
                          refine V_bipush (v := 24) hC dL_areKept_220 (by decide) ?_
                          refine V_iload hC dL_areKept_222 6 rfl ?_
                          refine V_iload hC dL_areKept_224 7 rfl ?_
                          refine V_iload hC dL_areKept_226 8 rfl ?_
                          refine V_iload hC dL_areKept_228 9 rfl ?_
                          obtain ⟨hz1, hz2, hq⟩ := hq
                          refine clSX_L_deed hG hC ssx_L_131 ⟨by decide, by decide⟩ (Nat.le_of_ble_eq_true rfl) ⟨hz1, hz2⟩ dL_areKept_230 hq (fun r42 h43 hq => ?_)
                          show V G Γ 12 ((((uc24 + 5) + 5) + 5) + 5) ((((us25 + 34) + 34) + 34) + 34) h43 233 [(0, .ref p0), (1, .ref p1), (2, .int p2), (3, .int p3), (4, .int x4_21), (5, .int (t17 + r19)), (6, .int x6_4), (7, .int r11), (10, .int x10_22), (11, .int r26)] [.int r42]
                          refine V_if_ne (tgt := 240) hC dL_areKept_233 (by decide) (fun hc => ?_) (fun hc => ?_)
                          · have hq := hq.1 hc
                            refine V_sub [0, 1, 2, 3, 5, 6, 7, 8] rfl ?_
                            exact hq (by omega) (by omega)
                          · have hq := hq.2 hc
                            refine V_sub [0, 1, 2, 3, 5, 6, 7, 8] rfl ?_
                            exact hq (by omega) (by omega))
            exact hq (by omega) (by omega))
          refine V_icmp_ne (tgt := 106) hC dL_areKept_79 (by decide) (fun hc => ?_) (fun hc => ?_)
          · have hq := hq.1 hc
            refine V_iload hC dL_areKept_106 7 rfl ?_
            refine V_iconst (v := 1) hC dL_areKept_108 (by decide) ?_
            have hq := hq (V G Γ 12 (((uc6 + 5) + 5) + 5) (((us7 + 34) + 34) + 34) h16 143 [(0, .ref p0), (1, .ref p1), (2, .int p2), (3, .int p3), (5, .int (t17 + r19)), (6, .int x6_4), (7, .int r11)] []) (by
              intro hq
              show V G Γ 12 (((uc6 + 5) + 5) + 5) (((us7 + 34) + 34) + 34) h16 143 [(0, .ref p0), (1, .ref p1), (2, .int p2), (3, .int p3), (5, .int (t17 + r19)), (6, .int x6_4), (7, .int r11)] []
              refine V_iconst (v := 0) hC dL_areKept_143 (by decide) ?_
              exact hq)
            have hq := hq (V G Γ 12 (((uc6 + 5) + 5) + 5) (((us7 + 34) + 34) + 34) h16 125 [(0, .ref p0), (1, .ref p1), (2, .int p2), (3, .int p3), (5, .int (t17 + r19)), (6, .int x6_4), (7, .int r11), (8, .int r13), (9, .int r15)] []) (by
              intro hq
              show V G Γ 12 (((uc6 + 5) + 5) + 5) (((us7 + 34) + 34) + 34) h16 125 [(0, .ref p0), (1, .ref p1), (2, .int p2), (3, .int p3), (5, .int (t17 + r19)), (6, .int x6_4), (7, .int r11), (8, .int r13), (9, .int r15)] []
              refine V_iload hC dL_areKept_125 8 rfl ?_
              refine V_sipush (v := (-20005)) hC dL_areKept_127 (by decide) ?_
              have hq := hq (V G Γ 12 (((uc6 + 5) + 5) + 5) (((us7 + 34) + 34) + 34) h16 139 [(0, .ref p0), (1, .ref p1), (2, .int p2), (3, .int p3), (5, .int (t17 + r19)), (6, .int x6_4), (7, .int r11)] []) (by
                intro hq
                show V G Γ 12 (((uc6 + 5) + 5) + 5) (((us7 + 34) + 34) + 34) h16 139 [(0, .ref p0), (1, .ref p1), (2, .int p2), (3, .int p3), (5, .int (t17 + r19)), (6, .int x6_4), (7, .int r11)] []
                refine V_iconst (v := 1) hC dL_areKept_139 (by decide) ?_
                refine V_goto (tgt := 144) hC dL_areKept_140 (by decide) ?_
                exact hq)
              refine V_icmp_ne (tgt := 139) hC dL_areKept_130 (by decide) (fun hc => ?_) (fun hc => ?_)
              · have hq := hq.1 hc
                refine V_sub [0, 1, 2, 3, 4, 5, 6] rfl ?_
                exact hq
              · have hq := hq.2 hc
                refine V_iload hC dL_areKept_133 7 rfl ?_
                refine V_iconst (v := 1) hC dL_areKept_135 (by decide) ?_
                refine V_icmp_ne (tgt := 143) hC dL_areKept_136 (by decide) (fun hc => ?_) (fun hc => ?_)
                · have hq := hq.1 hc
                  refine V_sub [0, 1, 2, 3, 4, 5, 6] rfl ?_
                  exact hq
                · have hq := hq.2 hc
                  refine V_sub [0, 1, 2, 3, 4, 5, 6] rfl ?_
                  exact hq)
            refine V_icmp_eq (tgt := 125) hC dL_areKept_109 (by decide) (fun hc => ?_) (fun hc => ?_)
            · have hq := hq.1 hc
              exact hq
            · have hq := hq.2 hc
              refine V_aload_n hC dL_areKept_112 1 rfl ?_
              refine V_iload hC dL_areKept_113 5 rfl ?_
              refine clS_L_isProtected hG hC ss_L_146 ⟨by decide, by decide⟩ (Nat.le_of_ble_eq_true rfl) ⟨by omega, by omega⟩ dL_areKept_115 hq (fun r44 hq => ?_)
              show V G Γ 12 (((uc6 + 5) + 5) + 5) (((us7 + 34) + 34) + 34) h16 118 [(0, .ref p0), (1, .ref p1), (2, .int p2), (3, .int p3), (5, .int (t17 + r19)), (6, .int x6_4), (7, .int r11), (8, .int r13), (9, .int r15)] [.int r44]
              refine V_if_eq (tgt := 125) hC dL_areKept_118 (by decide) (fun hc => ?_) (fun hc => ?_)
              · have hq := hq.1 hc
                exact hq
              · have hq := hq.2 hc
                refine V_iload_n hC dL_areKept_121 3 rfl ?_
                refine V_if_eq (tgt := 143) hC dL_areKept_122 (by decide) (fun hc => ?_) (fun hc => ?_)
                · have hq := hq.1 hc
                  refine V_sub [0, 1, 2, 3, 4, 5, 6] rfl ?_
                  exact hq
                · have hq := hq.2 hc
                  exact hq
          · have hq := hq.2 hc
            refine V_iload hC dL_areKept_82 7 rfl ?_
            refine V_sipush (v := (-20004)) hC dL_areKept_84 (by decide) ?_
            have hq := hq (V G Γ 12 (((uc6 + 5) + 5) + 5) (((us7 + 34) + 34) + 34) h16 102 [(0, .ref p0), (1, .ref p1), (2, .int p2), (3, .int p3), (5, .int (t17 + r19)), (6, .int x6_4), (7, .int r11)] []) (by
              intro hq
              show V G Γ 12 (((uc6 + 5) + 5) + 5) (((us7 + 34) + 34) + 34) h16 102 [(0, .ref p0), (1, .ref p1), (2, .int p2), (3, .int p3), (5, .int (t17 + r19)), (6, .int x6_4), (7, .int r11)] []
              refine V_iconst (v := 0) hC dL_areKept_102 (by decide) ?_
              refine V_goto (tgt := 144) hC dL_areKept_103 (by decide) ?_
              exact hq)
            refine V_icmp_ne (tgt := 102) hC dL_areKept_87 (by decide) (fun hc => ?_) (fun hc => ?_)
            · have hq := hq.1 hc
              refine V_sub [0, 1, 2, 3, 4, 5, 6] rfl ?_
              exact hq
            · have hq := hq.2 hc
              refine V_iload hC dL_areKept_90 8 rfl ?_
              refine V_sipush (v := (-20004)) hC dL_areKept_92 (by decide) ?_
              refine V_icmp_ne (tgt := 102) hC dL_areKept_95 (by decide) (fun hc => ?_) (fun hc => ?_)
              · have hq := hq.1 hc
                refine V_sub [0, 1, 2, 3, 4, 5, 6] rfl ?_
                exact hq
              · have hq := hq.2 hc
                refine V_iconst (v := 1) hC dL_areKept_98 (by decide) ?_
                refine V_goto (tgt := 144) hC dL_areKept_99 (by decide) ?_
                refine V_sub [0, 1, 2, 3, 4, 5, 6] rfl ?_
                exact hq)
        refine V_icmp_eq (tgt := 69) hC dL_areKept_62 (by decide) (fun hc => ?_) (fun hc => ?_)
        · have hq := hq.1 hc
          refine V_iconst (v := 0) hC dL_areKept_69 (by decide) ?_
          refine V_sub [0, 1, 2, 3, 6, 7, 8, 9] rfl ?_
          exact hq
        · have hq := hq.2 hc
          refine V_iconst (v := 1) hC dL_areKept_65 (by decide) ?_
          refine V_goto (tgt := 70) hC dL_areKept_66 (by decide) ?_
          refine V_sub [0, 1, 2, 3, 6, 7, 8, 9] rfl ?_
          exact hq)
  exact hq (by omega) (by omega)
theorem clS_L_areKept {G : Gx} (hG : GOK G) {Γ : Cx} {own : String} {cc : ByteArray} {nL fr lo mc ms cells slots pc : Nat} {hh : List (Nat × Nat × Nat × Nat)} {h : hw} {L : List (Nat × Value)} {rest : List Value} (hC : COK G Γ own cc nL fr lo mc ms hh) {idx : Nat} (hs : SS own idx yL_areKept cL_areKept 12 (some .boolean) 4) {bc bs : Nat} {p0 : Nat} {p1 : Nat} {p2 : Int32} {p3 : Int32} (hR : 22 + 1 ≤ fr ∧ 8 + (12 + 11) + 559 ≤ lo) (hw8 : (rest.map fun v => v.category).sum ≤ 8) (hcs : cells + bc ≤ mc ∧ slots + bs ≤ ms) (hdg : decode cc pc = .ok (.invokestatic idx, 3)) {post : Int32 → hw → Prop} {xp : String → hw → Prop} (hq : wp_L_areKept G p0 p1 p2 p3 h bc bs post xp) (kx : ∀ (E : String) (h1 : hw), xp E h1 → VX G Γ nL (cells + bc) (slots + bs) h1 pc L rest E) (kk : ∀ (r : Int32) (h1 : hw) , post r h1 → V G Γ nL (cells + bc) (slots + bs) h1 (pc + 3) L (.int r :: rest)) : V G Γ nL cells slots h pc L (.int p3 :: .int p2 :: .ref p1 :: .ref p0 :: rest) :=
  V_callS (As := [.ref p0, .ref p1, .int p2, .int p3]) hC (ct_L_areKept hG p0 p1 p2 p3 h bc bs post xp hq) hs rfl hR hw8 hcs hdg (fun E h1 z => kx E h1 z) (fun v h1 z => by obtain ⟨r, rfl, hz⟩ := z; exact kk r h1 hz)
set_option maxRecDepth 100000 in
set_option maxHeartbeats 4000000 in
theorem ct_L_arePacked {G : Gx} (hG : GOK G) (p0 : Nat) (p1 : Nat) (h0 : hw) (bc bs : Nat) (post : Int32 → hw → Prop) (hq : wp_L_arePacked G p0 p1 h0 bc bs post) : CT G yL_arePacked cL_arePacked 9 (some .boolean) 22 559 bc bs [.ref p0, .ref p1] h0 (fun v h1 => ∃ r : Int32, v = some (.int r) ∧ post r h1) (fun E h1 => False) := by
  refine CT_of hG (by decide) (Nat.le_of_ble_eq_true rfl) (fun Γ hC hQ hN => ?_)
  have hC : COK G Γ "BandplanLaw" cL_arePacked 9 22 559 bc bs [] := hC
  unfold wp_L_arePacked at hq
  show V G Γ 9 0 0 h0 0 [(0, .ref p0), (1, .ref p1)] []
  refine V_iconst (v := 1) hC dL_arePacked_0 (by decide) ?_
  refine V_istore_n (L' := [(0, .ref p0), (1, .ref p1), (2, .int 1)]) hC dL_arePacked_1 rfl (by decide) [1, 2, 0] rfl ?_
  refine V_iconst (v := 0) hC dL_arePacked_2 (by decide) ?_
  refine V_istore_n (L' := [(0, .ref p0), (1, .ref p1), (2, .int 1), (3, .int 0)]) hC dL_arePacked_3 rfl (by decide) [1, 2, 3, 0] rfl ?_
  refine V_iconst (v := 1) hC dL_arePacked_4 (by decide) ?_
  refine V_istore (L' := [(0, .ref p0), (1, .ref p1), (2, .int 1), (3, .int 0), (4, .int 1)]) hC dL_arePacked_5 (by decide) [1, 2, 3, 4, 0] rfl ?_
  have hq := hq (fun (x2_1 : Int32) (x3_2 : Int32) (x4_3 : Int32) (h4 : hw) (uc5 : Nat) (us6 : Nat) => uc5 ≤ bc → us6 ≤ bs → V G Γ 9 uc5 us6 h4 7 [(0, .ref p0), (1, .ref p1), (2, .int x2_1), (3, .int x3_2), (4, .int x4_3)] []) (by
    intro x2_1 x3_2 x4_3 h4 uc5 us6 hq hu1 hu2
    show V G Γ 9 uc5 us6 h4 7 [(0, .ref p0), (1, .ref p1), (2, .int x2_1), (3, .int x3_2), (4, .int x4_3)] []
    refine V_iload hC dL_arePacked_7 4 rfl ?_
    refine V_bipush (v := 9) hC dL_arePacked_9 (by decide) ?_
    refine V_icmp_ge (tgt := 228) hC dL_arePacked_11 (by decide) (fun hc => ?_) (fun hc => ?_)
    · have hq := hq.1 hc
      refine V_iload_n hC dL_arePacked_228 2 rfl ?_
      obtain ⟨hz1, hz2, hq⟩ := hq
      obtain ⟨hz, hq⟩ := hq
      exact V_iret hC hQ rfl (nar_b hz) ⟨hz1, hz2⟩ dL_arePacked_229 ⟨_, rfl, hq⟩
    · have hq := hq.2 hc
      refine V_iload_n hC dL_arePacked_14 2 rfl ?_
      refine V_if_eq (tgt := 228) hC dL_arePacked_15 (by decide) (fun hc => ?_) (fun hc => ?_)
      · have hq := hq.1 hc
        refine V_iload_n hC dL_arePacked_228 2 rfl ?_
        obtain ⟨hz1, hz2, hq⟩ := hq
        obtain ⟨hz, hq⟩ := hq
        exact V_iret hC hQ rfl (nar_b hz) ⟨hz1, hz2⟩ dL_arePacked_229 ⟨_, rfl, hq⟩
      · have hq := hq.2 hc
        refine V_aload_n hC dL_arePacked_18 0 rfl ?_
        refine V_bipush (v := 27) hC dL_arePacked_19 (by decide) ?_
        refine V_iload hC dL_arePacked_21 4 rfl ?_
        refine V_iconst (v := 0) hC dL_arePacked_23 (by decide) ?_
        obtain ⟨hz1, hz2, hq⟩ := hq
        refine clS_L_ask hG hC ss_L_138 ⟨by decide, by decide⟩ (Nat.le_of_ble_eq_true rfl) ⟨hz1, hz2⟩ dL_arePacked_24 hq (fun r7 h8 hq => ?_)
        show V G Γ 9 (uc5 + 5) (us6 + 34) h8 27 [(0, .ref p0), (1, .ref p1), (2, .int x2_1), (3, .int x3_2), (4, .int x4_3)] [.int r7]
        refine V_iconst (v := 1) hC dL_arePacked_27 (by decide) ?_
        have hq := hq (fun (t9 : Int32) => V G Γ 9 (uc5 + 5) (us6 + 34) h8 36 [(0, .ref p0), (1, .ref p1), (3, .int x3_2), (4, .int x4_3)] [.int t9]) (by
          intro t9 hq
          show V G Γ 9 (uc5 + 5) (us6 + 34) h8 36 [(0, .ref p0), (1, .ref p1), (3, .int x3_2), (4, .int x4_3)] [.int t9]
          refine V_istore (L' := [(0, .ref p0), (1, .ref p1), (3, .int x3_2), (4, .int x4_3), (5, .int t9)]) hC dL_arePacked_36 (by decide) [1, 2, 3, 4, 0] rfl ?_
          refine V_iload hC dL_arePacked_38 4 rfl ?_
          have hq := hq (fun (t10 : Int32) => V G Γ 9 (uc5 + 5) (us6 + 34) h8 52 [(0, .ref p0), (1, .ref p1), (4, .int x4_3), (5, .int t9)] [.int t10]) (by
            intro t10 hq
            show V G Γ 9 (uc5 + 5) (us6 + 34) h8 52 [(0, .ref p0), (1, .ref p1), (4, .int x4_3), (5, .int t9)] [.int t10]
            refine V_istore_n (L' := [(0, .ref p0), (1, .ref p1), (2, .int t10), (4, .int x4_3), (5, .int t9)]) hC dL_arePacked_52 rfl (by decide) [1, 2, 0, 3, 4] rfl ?_
            refine V_iload hC dL_arePacked_53 4 rfl ?_
            refine V_istore_n (L' := [(0, .ref p0), (1, .ref p1), (2, .int t10), (3, .int t9), (4, .int x4_3), (5, .int t9)]) hC dL_arePacked_55 rfl (by decide) [1, 2, 3, 0, 4, 5] rfl ?_
            refine V_iconst (v := 0) hC dL_arePacked_56 (by decide) ?_
            refine V_istore (L' := [(0, .ref p0), (1, .ref p1), (2, .int t10), (3, .int t9), (4, .int x4_3), (5, .int t9), (6, .int 0)]) hC dL_arePacked_57 (by decide) [1, 2, 3, 4, 5, 6, 0] rfl ?_
            have hq := hq (fun (x2_11 : Int32) (x6_12 : Int32) (h13 : hw) (uc14 : Nat) (us15 : Nat) => uc14 ≤ bc → us15 ≤ bs → V G Γ 9 uc14 us15 h13 59 [(0, .ref p0), (1, .ref p1), (2, .int x2_11), (3, .int t9), (4, .int x4_3), (5, .int t9), (6, .int x6_12)] []) (by
              intro x2_11 x6_12 h13 uc14 us15 hq hu1 hu2
              show V G Γ 9 uc14 us15 h13 59 [(0, .ref p0), (1, .ref p1), (2, .int x2_11), (3, .int t9), (4, .int x4_3), (5, .int t9), (6, .int x6_12)] []
              refine V_iload hC dL_arePacked_59 6 rfl ?_
              refine V_bipush (v := 6) hC dL_arePacked_61 (by decide) ?_
              have hq := hq (V G Γ 9 uc14 us15 h13 222 [(0, .ref p0), (1, .ref p1), (2, .int x2_11), (3, .int t9), (4, .int x4_3)] []) (by
                intro hq
                show V G Γ 9 uc14 us15 h13 222 [(0, .ref p0), (1, .ref p1), (2, .int x2_11), (3, .int t9), (4, .int x4_3)] []
                refine V_iinc (j := 4) (v := (x4_3 + 1)) (L' := [(0, .ref p0), (1, .ref p1), (2, .int x2_11), (3, .int t9), (4, .int (x4_3 + 1))]) hC dL_arePacked_222 rfl rfl (by decide) [1, 2, 3, 4, 0] rfl ?_
                refine V_goto (tgt := 7) hC dL_arePacked_225 (by decide) ?_
                exact hq (by omega) (by omega))
              refine V_icmp_ge (tgt := 222) hC dL_arePacked_63 (by decide) (fun hc => ?_) (fun hc => ?_)
              · have hq := hq.1 hc
                refine V_sub [0, 1, 2, 3, 4] rfl ?_
                exact hq
              · have hq := hq.2 hc
                refine V_iload_n hC dL_arePacked_66 2 rfl ?_
                refine V_if_eq (tgt := 222) hC dL_arePacked_67 (by decide) (fun hc => ?_) (fun hc => ?_)
                · have hq := hq.1 hc
                  refine V_sub [0, 1, 2, 3, 4] rfl ?_
                  exact hq
                · have hq := hq.2 hc
                  refine V_aload_n hC dL_arePacked_70 0 rfl ?_
                  refine V_bipush (v := 28) hC dL_arePacked_71 (by decide) ?_
                  refine V_iload hC dL_arePacked_73 4 rfl ?_
                  refine V_iload hC dL_arePacked_75 6 rfl ?_
                  obtain ⟨hz1, hz2, hq⟩ := hq
                  refine clS_L_ask hG hC ss_L_138 ⟨by decide, by decide⟩ (Nat.le_of_ble_eq_true rfl) ⟨hz1, hz2⟩ dL_arePacked_77 hq (fun r16 h17 hq => ?_)
                  show V G Γ 9 (uc14 + 5) (us15 + 34) h17 80 [(0, .ref p0), (1, .ref p1), (2, .int x2_11), (3, .int t9), (4, .int x4_3), (5, .int t9), (6, .int x6_12)] [.int r16]
                  refine V_istore (L' := [(0, .ref p0), (1, .ref p1), (2, .int x2_11), (3, .int t9), (4, .int x4_3), (5, .int t9), (6, .int x6_12), (7, .int r16)]) hC dL_arePacked_80 (by decide) [1, 2, 3, 4, 5, 6, 7, 0] rfl ?_
                  refine V_aload_n hC dL_arePacked_82 1 rfl ?_
                  refine V_iload hC dL_arePacked_83 6 rfl ?_
                  refine clS_L_isProtected hG hC ss_L_146 ⟨by decide, by decide⟩ (Nat.le_of_ble_eq_true rfl) ⟨by omega, by omega⟩ dL_arePacked_85 hq (fun r18 hq => ?_)
                  show V G Γ 9 (uc14 + 5) (us15 + 34) h17 88 [(0, .ref p0), (1, .ref p1), (2, .int x2_11), (3, .int t9), (4, .int x4_3), (5, .int t9), (6, .int x6_12), (7, .int r16)] [.int r18]
                  have hq := hq (fun (t19 : Int32) => V G Γ 9 (uc14 + 5) (us15 + 34) h17 145 [(0, .ref p0), (1, .ref p1), (3, .int t9), (4, .int x4_3), (5, .int t9), (6, .int x6_12), (7, .int r16)] [.int t19]) (by
                    intro t19 hq
                    show V G Γ 9 (uc14 + 5) (us15 + 34) h17 145 [(0, .ref p0), (1, .ref p1), (3, .int t9), (4, .int x4_3), (5, .int t9), (6, .int x6_12), (7, .int r16)] [.int t19]
                    refine V_istore_n (L' := [(0, .ref p0), (1, .ref p1), (2, .int t19), (3, .int t9), (4, .int x4_3), (5, .int t9), (6, .int x6_12), (7, .int r16)]) hC dL_arePacked_145 rfl (by decide) [1, 2, 0, 3, 4, 5, 6, 7] rfl ?_
                    refine V_iconst (v := 0) hC dL_arePacked_146 (by decide) ?_
                    refine V_istore (L' := [(0, .ref p0), (1, .ref p1), (2, .int t19), (3, .int t9), (4, .int x4_3), (5, .int t9), (6, .int x6_12), (7, .int r16), (8, .int 0)]) hC dL_arePacked_147 (by decide) [1, 2, 3, 4, 5, 6, 7, 8, 0] rfl ?_
                    have hq := hq (fun (x2_20 : Int32) (x8_21 : Int32) (h22 : hw) (uc23 : Nat) (us24 : Nat) => uc23 ≤ bc → us24 ≤ bs → V G Γ 9 uc23 us24 h22 149 [(0, .ref p0), (1, .ref p1), (2, .int x2_20), (3, .int t9), (4, .int x4_3), (5, .int t9), (6, .int x6_12), (7, .int r16), (8, .int x8_21)] []) (by
                      intro x2_20 x8_21 h22 uc23 us24 hq hu1 hu2
                      show V G Γ 9 uc23 us24 h22 149 [(0, .ref p0), (1, .ref p1), (2, .int x2_20), (3, .int t9), (4, .int x4_3), (5, .int t9), (6, .int x6_12), (7, .int r16), (8, .int x8_21)] []
                      refine V_iload hC dL_arePacked_149 8 rfl ?_
                      refine V_iload hC dL_arePacked_151 6 rfl ?_
                      have hq := hq (V G Γ 9 uc23 us24 h22 216 [(0, .ref p0), (1, .ref p1), (2, .int x2_20), (3, .int t9), (4, .int x4_3), (5, .int t9), (6, .int x6_12)] []) (by
                        intro hq
                        show V G Γ 9 uc23 us24 h22 216 [(0, .ref p0), (1, .ref p1), (2, .int x2_20), (3, .int t9), (4, .int x4_3), (5, .int t9), (6, .int x6_12)] []
                        refine V_iinc (j := 6) (v := (x6_12 + 1)) (L' := [(0, .ref p0), (1, .ref p1), (2, .int x2_20), (3, .int t9), (4, .int x4_3), (5, .int t9), (6, .int (x6_12 + 1))]) hC dL_arePacked_216 rfl rfl (by decide) [1, 2, 3, 4, 5, 6, 0] rfl ?_
                        refine V_goto (tgt := 59) hC dL_arePacked_219 (by decide) ?_
                        exact hq (by omega) (by omega))
                      refine V_icmp_ge (tgt := 216) hC dL_arePacked_153 (by decide) (fun hc => ?_) (fun hc => ?_)
                      · have hq := hq.1 hc
                        refine V_sub [0, 1, 2, 3, 4, 5, 6] rfl ?_
                        exact hq
                      · have hq := hq.2 hc
                        refine V_iload_n hC dL_arePacked_156 2 rfl ?_
                        refine V_if_eq (tgt := 216) hC dL_arePacked_157 (by decide) (fun hc => ?_) (fun hc => ?_)
                        · have hq := hq.1 hc
                          refine V_sub [0, 1, 2, 3, 4, 5, 6] rfl ?_
                          exact hq
                        · have hq := hq.2 hc
                          refine V_iload hC dL_arePacked_160 5 rfl ?_
                          refine V_if_eq (tgt := 216) hC dL_arePacked_162 (by decide) (fun hc => ?_) (fun hc => ?_)
                          · have hq := hq.1 hc
                            refine V_sub [0, 1, 2, 3, 4, 5, 6] rfl ?_
                            exact hq
                          · have hq := hq.2 hc
                            refine V_iload hC dL_arePacked_165 7 rfl ?_
                            refine V_if_lt (tgt := 216) hC dL_arePacked_167 (by decide) (fun hc => ?_) (fun hc => ?_)
                            · have hq := hq.1 hc
                              refine V_sub [0, 1, 2, 3, 4, 5, 6] rfl ?_
                              exact hq
                            · have hq := hq.2 hc
                              refine V_aload_n hC dL_arePacked_170 1 rfl ?_
                              refine V_iload hC dL_arePacked_171 8 rfl ?_
                              refine clS_L_isProtected hG hC ss_L_146 ⟨by decide, by decide⟩ (Nat.le_of_ble_eq_true rfl) ⟨by omega, by omega⟩ dL_arePacked_173 hq (fun r25 hq => ?_)
                              show V G Γ 9 uc23 us24 h22 176 [(0, .ref p0), (1, .ref p1), (2, .int x2_20), (3, .int t9), (4, .int x4_3), (5, .int t9), (6, .int x6_12), (7, .int r16), (8, .int x8_21)] [.int r25]
                              have hq := hq (fun (t26 : Int32) (h27 : hw) (uc28 : Nat) (us29 : Nat) => uc28 ≤ bc → us29 ≤ bs → V G Γ 9 uc28 us29 h27 209 [(0, .ref p0), (1, .ref p1), (3, .int t9), (4, .int x4_3), (5, .int t9), (6, .int x6_12), (7, .int r16), (8, .int x8_21)] [.int t26]) (by
                                intro t26 h27 uc28 us29 hq hu1 hu2
                                show V G Γ 9 uc28 us29 h27 209 [(0, .ref p0), (1, .ref p1), (3, .int t9), (4, .int x4_3), (5, .int t9), (6, .int x6_12), (7, .int r16), (8, .int x8_21)] [.int t26]
                                refine V_istore_n (L' := [(0, .ref p0), (1, .ref p1), (2, .int t26), (3, .int t9), (4, .int x4_3), (5, .int t9), (6, .int x6_12), (7, .int r16), (8, .int x8_21)]) hC dL_arePacked_209 rfl (by decide) [1, 2, 0, 3, 4, 5, 6, 7, 8] rfl ?_
                                refine V_iinc (j := 8) (v := (x8_21 + 1)) (L' := [(0, .ref p0), (1, .ref p1), (2, .int t26), (3, .int t9), (4, .int x4_3), (5, .int t9), (6, .int x6_12), (7, .int r16), (8, .int (x8_21 + 1))]) hC dL_arePacked_210 rfl rfl (by decide) [1, 2, 3, 4, 5, 6, 7, 8, 0] rfl ?_
                                refine V_goto (tgt := 149) hC dL_arePacked_213 (by decide) ?_
                                exact hq (by omega) (by omega))
                              have hq := hq (fun (h30 : hw) (uc31 : Nat) (us32 : Nat) => uc31 ≤ bc → us32 ≤ bs → V G Γ 9 uc31 us32 h30 204 [(0, .ref p0), (1, .ref p1), (3, .int t9), (4, .int x4_3), (5, .int t9), (6, .int x6_12), (7, .int r16), (8, .int x8_21)] []) (by
                                intro h30 uc31 us32 hq hu1 hu2
                                show V G Γ 9 uc31 us32 h30 204 [(0, .ref p0), (1, .ref p1), (3, .int t9), (4, .int x4_3), (5, .int t9), (6, .int x6_12), (7, .int r16), (8, .int x8_21)] []
                                refine V_iconst (v := 1) hC dL_arePacked_204 (by decide) ?_
                                refine V_goto (tgt := 209) hC dL_arePacked_205 (by decide) ?_
                                exact hq (by omega) (by omega))
                              refine V_if_eq (tgt := 204) hC dL_arePacked_176 (by decide) (fun hc => ?_) (fun hc => ?_)
                              · have hq := hq.1 hc
                                refine V_sub [0, 1, 3, 4, 5, 6, 7, 8] rfl ?_
                                exact hq (by omega) (by omega)
                              · have hq := hq.2 hc
                                refine V_aload_n hC dL_arePacked_179 0 rfl ?_
                                refine V_bipush (v := 24) hC dL_arePacked_180 (by decide) ?_
                                refine V_iload hC dL_arePacked_182 6 rfl ?_
                                refine V_iload hC dL_arePacked_184 7 rfl ?_
                                refine V_iload hC dL_arePacked_186 8 rfl ?_
                                refine V_aload_n hC dL_arePacked_188 0 rfl ?_
                                refine V_bipush (v := 28) hC dL_arePacked_189 (by decide) ?_
                                refine V_iload hC dL_arePacked_191 4 rfl ?_
                                refine V_iload hC dL_arePacked_193 8 rfl ?_
                                obtain ⟨hz1, hz2, hq⟩ := hq
                                refine clS_L_ask hG hC ss_L_138 ⟨by decide, by decide⟩ (Nat.le_of_ble_eq_true rfl) ⟨hz1, hz2⟩ dL_arePacked_195 hq (fun r33 h34 hq => ?_)
                                show V G Γ 9 (uc23 + 5) (us24 + 34) h34 198 [(0, .ref p0), (1, .ref p1), (2, .int x2_20), (3, .int t9), (4, .int x4_3), (5, .int t9), (6, .int x6_12), (7, .int r16), (8, .int x8_21)] [.int r33, .int x8_21, .int r16, .int x6_12, .int 24, .ref p0]
                                obtain ⟨hz1, hz2, hq⟩ := hq
                                refine clSX_L_deed hG hC ssx_L_131 ⟨by decide, by decide⟩ (Nat.le_of_ble_eq_true rfl) ⟨hz1, hz2⟩ dL_arePacked_198 hq (fun r35 h36 hq => ?_)
                                show V G Γ 9 ((uc23 + 5) + 5) ((us24 + 34) + 34) h36 201 [(0, .ref p0), (1, .ref p1), (2, .int x2_20), (3, .int t9), (4, .int x4_3), (5, .int t9), (6, .int x6_12), (7, .int r16), (8, .int x8_21)] [.int r35]
                                refine V_if_ne (tgt := 208) hC dL_arePacked_201 (by decide) (fun hc => ?_) (fun hc => ?_)
                                · have hq := hq.1 hc
                                  refine V_iconst (v := 0) hC dL_arePacked_208 (by decide) ?_
                                  refine V_sub [0, 1, 3, 4, 5, 6, 7, 8] rfl ?_
                                  exact hq (by omega) (by omega)
                                · have hq := hq.2 hc
                                  refine V_sub [0, 1, 3, 4, 5, 6, 7, 8] rfl ?_
                                  exact hq (by omega) (by omega))
                    exact hq (by omega) (by omega))
                  refine V_if_ne (tgt := 107) hC dL_arePacked_88 (by decide) (fun hc => ?_) (fun hc => ?_)
                  · have hq := hq.1 hc
                    refine V_iload hC dL_arePacked_107 5 rfl ?_
                    refine V_if_eq (tgt := 132) hC dL_arePacked_109 (by decide) (fun hc => ?_) (fun hc => ?_)
                    · have hq := hq.1 hc
                      refine V_iload hC dL_arePacked_132 7 rfl ?_
                      refine V_sipush (v := (-20005)) hC dL_arePacked_134 (by decide) ?_
                      refine V_icmp_ne (tgt := 144) hC dL_arePacked_137 (by decide) (fun hc => ?_) (fun hc => ?_)
                      · have hq := hq.1 hc
                        refine V_iconst (v := 0) hC dL_arePacked_144 (by decide) ?_
                        refine V_sub [0, 1, 3, 4, 5, 6, 7] rfl ?_
                        exact hq
                      · have hq := hq.2 hc
                        refine V_iconst (v := 1) hC dL_arePacked_140 (by decide) ?_
                        refine V_goto (tgt := 145) hC dL_arePacked_141 (by decide) ?_
                        refine V_sub [0, 1, 3, 4, 5, 6, 7] rfl ?_
                        exact hq
                    · have hq := hq.2 hc
                      refine V_iload hC dL_arePacked_112 7 rfl ?_
                      have hq := hq (V G Γ 9 (uc14 + 5) (us15 + 34) h17 128 [(0, .ref p0), (1, .ref p1), (3, .int t9), (4, .int x4_3), (5, .int t9), (6, .int x6_12), (7, .int r16)] []) (by
                        intro hq
                        show V G Γ 9 (uc14 + 5) (us15 + 34) h17 128 [(0, .ref p0), (1, .ref p1), (3, .int t9), (4, .int x4_3), (5, .int t9), (6, .int x6_12), (7, .int r16)] []
                        refine V_iconst (v := 0) hC dL_arePacked_128 (by decide) ?_
                        refine V_goto (tgt := 145) hC dL_arePacked_129 (by decide) ?_
                        exact hq)
                      refine V_if_lt (tgt := 128) hC dL_arePacked_114 (by decide) (fun hc => ?_) (fun hc => ?_)
                      · have hq := hq.1 hc
                        refine V_sub [0, 1, 3, 4, 5, 6, 7] rfl ?_
                        exact hq
                      · have hq := hq.2 hc
                        refine V_iload hC dL_arePacked_117 7 rfl ?_
                        refine V_iload hC dL_arePacked_119 4 rfl ?_
                        refine V_icmp_ge (tgt := 128) hC dL_arePacked_121 (by decide) (fun hc => ?_) (fun hc => ?_)
                        · have hq := hq.1 hc
                          refine V_sub [0, 1, 3, 4, 5, 6, 7] rfl ?_
                          exact hq
                        · have hq := hq.2 hc
                          refine V_iconst (v := 1) hC dL_arePacked_124 (by decide) ?_
                          refine V_goto (tgt := 145) hC dL_arePacked_125 (by decide) ?_
                          refine V_sub [0, 1, 3, 4, 5, 6, 7] rfl ?_
                          exact hq
                  · have hq := hq.2 hc
                    refine V_iload hC dL_arePacked_91 7 rfl ?_
                    refine V_sipush (v := (-20004)) hC dL_arePacked_93 (by decide) ?_
                    refine V_icmp_ne (tgt := 103) hC dL_arePacked_96 (by decide) (fun hc => ?_) (fun hc => ?_)
                    · have hq := hq.1 hc
                      refine V_iconst (v := 0) hC dL_arePacked_103 (by decide) ?_
                      refine V_goto (tgt := 145) hC dL_arePacked_104 (by decide) ?_
                      refine V_sub [0, 1, 3, 4, 5, 6, 7] rfl ?_
                      exact hq
                    · have hq := hq.2 hc
                      refine V_iconst (v := 1) hC dL_arePacked_99 (by decide) ?_
                      refine V_goto (tgt := 145) hC dL_arePacked_100 (by decide) ?_
                      refine V_sub [0, 1, 3, 4, 5, 6, 7] rfl ?_
                      exact hq)
            exact hq (by omega) (by omega))
          have hq := hq (V G Γ 9 (uc5 + 5) (us6 + 34) h8 47 [(0, .ref p0), (1, .ref p1), (4, .int x4_3), (5, .int t9)] []) (by
            intro hq
            show V G Γ 9 (uc5 + 5) (us6 + 34) h8 47 [(0, .ref p0), (1, .ref p1), (4, .int x4_3), (5, .int t9)] []
            refine V_iconst (v := 1) hC dL_arePacked_47 (by decide) ?_
            refine V_goto (tgt := 52) hC dL_arePacked_48 (by decide) ?_
            exact hq)
          refine V_if_ne (tgt := 47) hC dL_arePacked_40 (by decide) (fun hc => ?_) (fun hc => ?_)
          · have hq := hq.1 hc
            refine V_sub [0, 1, 3, 4] rfl ?_
            exact hq
          · have hq := hq.2 hc
            refine V_iload_n hC dL_arePacked_43 2 rfl ?_
            refine V_if_ne (tgt := 51) hC dL_arePacked_44 (by decide) (fun hc => ?_) (fun hc => ?_)
            · have hq := hq.1 hc
              refine V_iconst (v := 0) hC dL_arePacked_51 (by decide) ?_
              refine V_sub [0, 1, 3, 4] rfl ?_
              exact hq
            · have hq := hq.2 hc
              refine V_sub [0, 1, 3, 4] rfl ?_
              exact hq)
        refine V_icmp_ne (tgt := 35) hC dL_arePacked_28 (by decide) (fun hc => ?_) (fun hc => ?_)
        · have hq := hq.1 hc
          refine V_iconst (v := 0) hC dL_arePacked_35 (by decide) ?_
          refine V_sub [0, 1, 3, 4] rfl ?_
          exact hq
        · have hq := hq.2 hc
          refine V_iconst (v := 1) hC dL_arePacked_31 (by decide) ?_
          refine V_goto (tgt := 36) hC dL_arePacked_32 (by decide) ?_
          refine V_sub [0, 1, 3, 4] rfl ?_
          exact hq)
  exact hq (by omega) (by omega)
theorem clS_L_arePacked {G : Gx} (hG : GOK G) {Γ : Cx} {own : String} {cc : ByteArray} {nL fr lo mc ms cells slots pc : Nat} {hh : List (Nat × Nat × Nat × Nat)} {h : hw} {L : List (Nat × Value)} {rest : List Value} (hC : COK G Γ own cc nL fr lo mc ms hh) {idx : Nat} (hs : SS own idx yL_arePacked cL_arePacked 9 (some .boolean) 2) {bc bs : Nat} {p0 : Nat} {p1 : Nat} (hR : 22 + 1 ≤ fr ∧ 8 + (9 + 11) + 559 ≤ lo) (hw8 : (rest.map fun v => v.category).sum ≤ 8) (hcs : cells + bc ≤ mc ∧ slots + bs ≤ ms) (hdg : decode cc pc = .ok (.invokestatic idx, 3)) {post : Int32 → hw → Prop} (hq : wp_L_arePacked G p0 p1 h bc bs post) (kk : ∀ (r : Int32) (h1 : hw) , post r h1 → V G Γ nL (cells + bc) (slots + bs) h1 (pc + 3) L (.int r :: rest)) : V G Γ nL cells slots h pc L (.ref p1 :: .ref p0 :: rest) :=
  V_callS (As := [.ref p0, .ref p1]) hC (ct_L_arePacked hG p0 p1 h bc bs post hq) hs rfl hR hw8 hcs hdg (fun E h1 z => z.elim) (fun v h1 z => by obtain ⟨r, rfl, hz⟩ := z; exact kk r h1 hz)
set_option maxRecDepth 100000 in
set_option maxHeartbeats 4000000 in
theorem ct_L_isSold {G : Gx} (hG : GOK G) (p0 : Nat) (p1 : Nat) (p2 : Int32) (p3 : Int32) (h0 : hw) (bc bs : Nat) (post : Int32 → hw → Prop) (hq : wp_L_isSold G p0 p1 p2 p3 h0 bc bs post) : CT G yL_isSold cL_isSold 11 (some .boolean) 22 559 bc bs [.ref p0, .ref p1, .int p2, .int p3] h0 (fun v h1 => ∃ r : Int32, v = some (.int r) ∧ post r h1) (fun E h1 => False) := by
  refine CT_of hG (by decide) (Nat.le_of_ble_eq_true rfl) (fun Γ hC hQ hN => ?_)
  have hC : COK G Γ "BandplanLaw" cL_isSold 11 22 559 bc bs [] := hC
  unfold wp_L_isSold at hq
  show V G Γ 11 0 0 h0 0 [(0, .ref p0), (1, .ref p1), (2, .int p2), (3, .int p3)] []
  refine V_bipush (v := 6) hC dL_isSold_0 (by decide) ?_
  obtain ⟨hz1, hz2, hq⟩ := hq
  refine U_newaI (room := 6) hC aw_1_90 ⟨hz1, hz2⟩ dL_isSold_2 hq (fun a1 h2 hq => ?_)
  refine V_astore (L' := [(0, .ref p0), (1, .ref p1), (2, .int p2), (3, .int p3), (4, .ref a1)]) hC dL_isSold_4 (by decide) [1, 2, 3, 4, 0] rfl ?_
  refine V_iconst (v := 0) hC dL_isSold_6 (by decide) ?_
  refine V_istore (L' := [(0, .ref p0), (1, .ref p1), (2, .int p2), (3, .int p3), (4, .ref a1), (5, .int 0)]) hC dL_isSold_7 (by decide) [1, 2, 3, 4, 5, 0] rfl ?_
  have hq := hq (fun (x5_3 : Int32) (h4 : hw) (uc5 : Nat) (us6 : Nat) => uc5 ≤ bc → us6 ≤ bs → V G Γ 11 uc5 us6 h4 9 [(0, .ref p0), (1, .ref p1), (2, .int p2), (3, .int p3), (4, .ref a1), (5, .int x5_3)] []) (by
    intro x5_3 h4 uc5 us6 hq hu1 hu2
    show V G Γ 11 uc5 us6 h4 9 [(0, .ref p0), (1, .ref p1), (2, .int p2), (3, .int p3), (4, .ref a1), (5, .int x5_3)] []
    refine V_iload hC dL_isSold_9 5 rfl ?_
    refine V_bipush (v := 6) hC dL_isSold_11 (by decide) ?_
    refine V_icmp_ge (tgt := 36) hC dL_isSold_13 (by decide) (fun hc => ?_) (fun hc => ?_)
    · have hq := hq.1 hc
      refine V_iconst (v := 1) hC dL_isSold_36 (by decide) ?_
      refine V_aload_n hC dL_isSold_37 1 rfl ?_
      refine V_iload_n hC dL_isSold_38 2 rfl ?_
      refine V_bipush (v := 80) hC dL_isSold_39 (by decide) ?_
      refine clS_L_pick hG hC ss_L_134 ⟨by decide, by decide⟩ (Nat.le_of_ble_eq_true rfl) ⟨by omega, by omega⟩ dL_isSold_41 hq (fun r7 hq => ?_)
      show V G Γ 11 uc5 us6 h4 44 [(0, .ref p0), (1, .ref p1), (2, .int p2), (3, .int p3), (4, .ref a1), (5, .int x5_3)] [.int r7, .int 1]
      refine V_iadd hC dL_isSold_44 ?_
      refine V_istore (L' := [(0, .ref p0), (1, .ref p1), (2, .int p2), (3, .int p3), (4, .ref a1), (5, .int (1 + r7))]) hC dL_isSold_45 (by decide) [1, 2, 3, 4, 5, 0] rfl ?_
      refine V_aload_n hC dL_isSold_47 0 rfl ?_
      refine V_bipush (v := 11) hC dL_isSold_48 (by decide) ?_
      refine V_iload hC dL_isSold_50 5 rfl ?_
      refine V_iconst (v := 1) hC dL_isSold_52 (by decide) ?_
      refine V_aload_n hC dL_isSold_53 1 rfl ?_
      refine V_iload_n hC dL_isSold_54 2 rfl ?_
      refine V_iconst (v := 1) hC dL_isSold_55 (by decide) ?_
      refine V_iadd hC dL_isSold_56 ?_
      refine V_bipush (v := 20) hC dL_isSold_57 (by decide) ?_
      refine clS_L_pick hG hC ss_L_134 ⟨by decide, by decide⟩ (Nat.le_of_ble_eq_true rfl) ⟨by omega, by omega⟩ dL_isSold_59 hq (fun r8 hq => ?_)
      show V G Γ 11 uc5 us6 h4 62 [(0, .ref p0), (1, .ref p1), (2, .int p2), (3, .int p3), (4, .ref a1), (5, .int (1 + r7))] [.int r8, .int 1, .int (1 + r7), .int 11, .ref p0]
      refine V_iadd hC dL_isSold_62 ?_
      refine V_iconst (v := 1) hC dL_isSold_63 (by decide) ?_
      refine V_aload_n hC dL_isSold_64 1 rfl ?_
      refine V_iload_n hC dL_isSold_65 2 rfl ?_
      refine V_iconst (v := 2) hC dL_isSold_66 (by decide) ?_
      refine V_iadd hC dL_isSold_67 ?_
      refine V_iconst (v := 4) hC dL_isSold_68 (by decide) ?_
      refine clS_L_pick hG hC ss_L_134 ⟨by decide, by decide⟩ (Nat.le_of_ble_eq_true rfl) ⟨by omega, by omega⟩ dL_isSold_69 hq (fun r9 hq => ?_)
      show V G Γ 11 uc5 us6 h4 72 [(0, .ref p0), (1, .ref p1), (2, .int p2), (3, .int p3), (4, .ref a1), (5, .int (1 + r7))] [.int r9, .int 1, .int (1 + r8), .int (1 + r7), .int 11, .ref p0]
      refine V_iadd hC dL_isSold_72 ?_
      refine V_iconst (v := 0) hC dL_isSold_73 (by decide) ?_
      obtain ⟨hz1, hz2, hq⟩ := hq
      refine clSX_L_deed hG hC ssx_L_131 ⟨by decide, by decide⟩ (Nat.le_of_ble_eq_true rfl) ⟨hz1, hz2⟩ dL_isSold_74 hq (fun r10 h11 hq => ?_)
      show V G Γ 11 (uc5 + 5) (us6 + 34) h11 77 [(0, .ref p0), (1, .ref p1), (2, .int p2), (3, .int p3), (4, .ref a1), (5, .int (1 + r7))] [.int r10]
      refine V_istore (L' := [(0, .ref p0), (1, .ref p1), (2, .int p2), (3, .int p3), (4, .ref a1), (5, .int (1 + r7)), (6, .int r10)]) hC dL_isSold_77 (by decide) [1, 2, 3, 4, 5, 6, 0] rfl ?_
      refine V_iconst (v := 0) hC dL_isSold_79 (by decide) ?_
      refine V_istore (L' := [(0, .ref p0), (1, .ref p1), (2, .int p2), (3, .int p3), (4, .ref a1), (5, .int (1 + r7)), (6, .int r10), (7, .int 0)]) hC dL_isSold_80 (by decide) [1, 2, 3, 4, 5, 6, 7, 0] rfl ?_
      refine V_iconst (v := 1) hC dL_isSold_82 (by decide) ?_
      refine V_istore (L' := [(0, .ref p0), (1, .ref p1), (2, .int p2), (3, .int p3), (4, .ref a1), (5, .int (1 + r7)), (6, .int r10), (7, .int 0), (8, .int 1)]) hC dL_isSold_83 (by decide) [1, 2, 3, 4, 5, 6, 7, 8, 0] rfl ?_
      refine V_iconst (v := 0) hC dL_isSold_85 (by decide) ?_
      refine V_istore (L' := [(0, .ref p0), (1, .ref p1), (2, .int p2), (3, .int p3), (4, .ref a1), (5, .int (1 + r7)), (6, .int r10), (7, .int 0), (8, .int 1), (9, .int 0)]) hC dL_isSold_86 (by decide) [1, 2, 3, 4, 5, 6, 7, 8, 9, 0] rfl ?_
      have hq := hq (fun (x7_12 : Int32) (x8_13 : Int32) (x9_14 : Int32) (h15 : hw) (uc16 : Nat) (us17 : Nat) => uc16 ≤ bc → us17 ≤ bs → V G Γ 11 uc16 us17 h15 88 [(0, .ref p0), (1, .ref p1), (3, .int p3), (4, .ref a1), (5, .int (1 + r7)), (6, .int r10), (7, .int x7_12), (8, .int x8_13), (9, .int x9_14)] []) (by
        intro x7_12 x8_13 x9_14 h15 uc16 us17 hq hu1 hu2
        show V G Γ 11 uc16 us17 h15 88 [(0, .ref p0), (1, .ref p1), (3, .int p3), (4, .ref a1), (5, .int (1 + r7)), (6, .int r10), (7, .int x7_12), (8, .int x8_13), (9, .int x9_14)] []
        refine V_iload hC dL_isSold_88 8 rfl ?_
        refine V_bipush (v := 6) hC dL_isSold_90 (by decide) ?_
        have hq := hq (V G Γ 11 uc16 us17 h15 246 [(0, .ref p0), (6, .int r10), (7, .int x7_12), (8, .int x8_13)] []) (by
          intro hq
          show V G Γ 11 uc16 us17 h15 246 [(0, .ref p0), (6, .int r10), (7, .int x7_12), (8, .int x8_13)] []
          refine V_iload hC dL_isSold_246 3 rfl ?_
          have hq := hq (V G Γ 11 uc16 us17 h15 277 [] []) (by
            intro hq
            show V G Γ 11 uc16 us17 h15 277 [] []
            refine V_iconst (v := 0) hC dL_isSold_277 (by decide) ?_
            obtain ⟨hz1, hz2, hq⟩ := hq
            exact V_iret hC hQ rfl rfl ⟨hz1, hz2⟩ dL_isSold_278 ⟨_, rfl, hq⟩)
          refine V_if_eq (tgt := 277) hC dL_isSold_248 (by decide) (fun hc => ?_) (fun hc => ?_)
          · have hq := hq.1 hc
            refine V_sub [] rfl ?_
            exact hq
          · have hq := hq.2 hc
            refine V_iload hC dL_isSold_251 1 rfl ?_
            refine V_sipush (v := (-20004)) hC dL_isSold_253 (by decide) ?_
            have hq := hq (V G Γ 11 uc16 us17 h15 273 [] []) (by
              intro hq
              show V G Γ 11 uc16 us17 h15 273 [] []
              refine V_iconst (v := 1) hC dL_isSold_273 (by decide) ?_
              refine V_goto (tgt := 278) hC dL_isSold_274 (by decide) ?_
              obtain ⟨hz1, hz2, hq⟩ := hq
              exact V_iret hC hQ rfl rfl ⟨hz1, hz2⟩ dL_isSold_278 ⟨_, rfl, hq⟩)
            refine V_icmp_eq (tgt := 273) hC dL_isSold_256 (by decide) (fun hc => ?_) (fun hc => ?_)
            · have hq := hq.1 hc
              refine V_sub [] rfl ?_
              exact hq
            · have hq := hq.2 hc
              refine V_iload hC dL_isSold_259 2 rfl ?_
              refine V_iload hC dL_isSold_261 1 rfl ?_
              refine V_icmp_ne (tgt := 277) hC dL_isSold_263 (by decide) (fun hc => ?_) (fun hc => ?_)
              · have hq := hq.1 hc
                refine V_sub [] rfl ?_
                exact hq
              · have hq := hq.2 hc
                refine V_aload_n hC dL_isSold_266 0 rfl ?_
                obtain ⟨hz, hq⟩ := hq
                refine clV_X11_rounds hG hC sv_L_155 ⟨by decide, by decide⟩ (Nat.le_of_ble_eq_true rfl) ⟨by omega, by omega⟩ dL_isSold_267 hz hq (fun r18 hq => ?_)
                show V G Γ 11 uc16 us17 h15 270 [(0, .ref p0), (6, .int r10), (7, .int x7_12), (8, .int x8_13)] [.int r18]
                refine V_if_lt (tgt := 277) hC dL_isSold_270 (by decide) (fun hc => ?_) (fun hc => ?_)
                · have hq := hq.1 hc
                  refine V_sub [] rfl ?_
                  exact hq
                · have hq := hq.2 hc
                  refine V_sub [] rfl ?_
                  exact hq)
        refine V_icmp_ge (tgt := 246) hC dL_isSold_92 (by decide) (fun hc => ?_) (fun hc => ?_)
        · have hq := hq.1 hc
          refine V_sub [0, 5, 6, 7] rfl ?_
          exact hq
        · have hq := hq.2 hc
          refine V_iload hC dL_isSold_95 7 rfl ?_
          refine V_if_eq (tgt := 246) hC dL_isSold_97 (by decide) (fun hc => ?_) (fun hc => ?_)
          · have hq := hq.1 hc
            refine V_sub [0, 5, 6, 7] rfl ?_
            exact hq
          · have hq := hq.2 hc
            refine V_iload hC dL_isSold_100 5 rfl ?_
            refine V_if_lt (tgt := 246) hC dL_isSold_102 (by decide) (fun hc => ?_) (fun hc => ?_)
            · have hq := hq.1 hc
              refine V_sub [0, 5, 6, 7] rfl ?_
              exact hq
            · have hq := hq.2 hc
              refine V_aload_n hC dL_isSold_105 0 rfl ?_
              refine V_bipush (v := 29) hC dL_isSold_106 (by decide) ?_
              refine V_iload hC dL_isSold_108 8 rfl ?_
              refine V_iconst (v := 0) hC dL_isSold_110 (by decide) ?_
              obtain ⟨hz1, hz2, hq⟩ := hq
              refine clS_L_ask hG hC ss_L_138 ⟨by decide, by decide⟩ (Nat.le_of_ble_eq_true rfl) ⟨hz1, hz2⟩ dL_isSold_111 hq (fun r19 h20 hq => ?_)
              show V G Γ 11 (uc16 + 5) (us17 + 34) h20 114 [(0, .ref p0), (1, .ref p1), (3, .int p3), (4, .ref a1), (5, .int (1 + r7)), (6, .int r10), (7, .int x7_12), (8, .int x8_13), (9, .int x9_14)] [.int r19]
              refine V_istore (L' := [(0, .ref p0), (1, .ref p1), (3, .int p3), (4, .ref a1), (5, .int (1 + r7)), (6, .int r10), (7, .int x7_12), (8, .int x8_13), (9, .int x9_14), (10, .int r19)]) hC dL_isSold_114 (by decide) [1, 2, 3, 4, 5, 6, 7, 8, 9, 0] rfl ?_
              refine V_iload hC dL_isSold_116 6 rfl ?_
              refine V_iload hC dL_isSold_118 9 rfl ?_
              refine V_sipush (v := (-20005)) hC dL_isSold_120 (by decide) ?_
              have hq := hq (fun (t21 : Int32) (t22 : Int32) => V G Γ 11 (uc16 + 5) (us17 + 34) h20 131 [(0, .ref p0), (1, .ref p1), (3, .int p3), (4, .ref a1), (5, .int (1 + r7)), (6, .int r10), (9, .int x9_14), (10, .int r19)] [.int t22, .int t21]) (by
                intro t21 t22 hq
                show V G Γ 11 (uc16 + 5) (us17 + 34) h20 131 [(0, .ref p0), (1, .ref p1), (3, .int p3), (4, .ref a1), (5, .int (1 + r7)), (6, .int r10), (9, .int x9_14), (10, .int r19)] [.int t22, .int t21]
                refine clS_L_told hG hC ss_L_43 ⟨by decide, by decide⟩ (Nat.le_of_ble_eq_true rfl) ⟨by omega, by omega⟩ dL_isSold_131 hq (fun r23 hq => ?_)
                show V G Γ 11 (uc16 + 5) (us17 + 34) h20 134 [(0, .ref p0), (1, .ref p1), (3, .int p3), (4, .ref a1), (5, .int (1 + r7)), (6, .int r10), (9, .int x9_14), (10, .int r19)] [.int r23, .int t21]
                refine V_iadd hC dL_isSold_134 ?_
                refine V_istore (L' := [(0, .ref p0), (1, .ref p1), (3, .int p3), (4, .ref a1), (5, .int (1 + r7)), (6, .int r10), (7, .int (t21 + r23)), (9, .int x9_14), (10, .int r19)]) hC dL_isSold_135 (by decide) [1, 2, 3, 4, 5, 6, 0, 7, 8] rfl ?_
                refine V_iload hC dL_isSold_137 8 rfl ?_
                refine V_sipush (v := (-20005)) hC dL_isSold_139 (by decide) ?_
                have hq := hq (fun (t24 : Int32) (h25 : hw) (uc26 : Nat) (us27 : Nat) => uc26 ≤ bc → us27 ≤ bs → V G Γ 11 uc26 us27 h25 238 [(0, .ref p0), (1, .ref p1), (3, .int p3), (4, .ref a1), (5, .int (1 + r7)), (6, .int r10), (7, .int (t21 + r23)), (9, .int x9_14)] [.int t24]) (by
                  intro t24 h25 uc26 us27 hq hu1 hu2
                  show V G Γ 11 uc26 us27 h25 238 [(0, .ref p0), (1, .ref p1), (3, .int p3), (4, .ref a1), (5, .int (1 + r7)), (6, .int r10), (7, .int (t21 + r23)), (9, .int x9_14)] [.int t24]
                  refine V_istore (L' := [(0, .ref p0), (1, .ref p1), (3, .int p3), (4, .ref a1), (5, .int (1 + r7)), (6, .int r10), (7, .int (t21 + r23)), (8, .int t24), (9, .int x9_14)]) hC dL_isSold_238 (by decide) [1, 2, 3, 4, 5, 6, 7, 0, 8] rfl ?_
                  refine V_iinc (j := 8) (v := (x9_14 + 1)) (L' := [(0, .ref p0), (1, .ref p1), (3, .int p3), (4, .ref a1), (5, .int (1 + r7)), (6, .int r10), (7, .int (t21 + r23)), (8, .int t24), (9, .int (x9_14 + 1))]) hC dL_isSold_240 rfl rfl (by decide) [1, 2, 3, 4, 5, 6, 7, 8, 0] rfl ?_
                  refine V_goto (tgt := 88) hC dL_isSold_243 (by decide) ?_
                  exact hq (by omega) (by omega))
                refine V_icmp_ne (tgt := 170) hC dL_isSold_142 (by decide) (fun hc => ?_) (fun hc => ?_)
                · have hq := hq.1 hc
                  refine V_aload_n hC dL_isSold_170 1 rfl ?_
                  refine V_iload hC dL_isSold_171 7 rfl ?_
                  refine clS_L_isProtected hG hC ss_L_146 ⟨by decide, by decide⟩ (Nat.le_of_ble_eq_true rfl) ⟨by omega, by omega⟩ dL_isSold_173 hq (fun r28 hq => ?_)
                  show V G Γ 11 (uc16 + 5) (us17 + 34) h20 176 [(0, .ref p0), (1, .ref p1), (3, .int p3), (4, .ref a1), (5, .int (1 + r7)), (6, .int r10), (7, .int (t21 + r23)), (9, .int x9_14), (10, .int r19)] [.int r28]
                  have hq := hq (fun (h29 : hw) (uc30 : Nat) (us31 : Nat) => uc30 ≤ bc → us31 ≤ bs → V G Γ 11 uc30 us31 h29 237 [(0, .ref p0), (1, .ref p1), (3, .int p3), (4, .ref a1), (5, .int (1 + r7)), (6, .int r10), (7, .int (t21 + r23)), (9, .int x9_14)] []) (by
                    intro h29 uc30 us31 hq hu1 hu2
                    show V G Γ 11 uc30 us31 h29 237 [(0, .ref p0), (1, .ref p1), (3, .int p3), (4, .ref a1), (5, .int (1 + r7)), (6, .int r10), (7, .int (t21 + r23)), (9, .int x9_14)] []
                    refine V_iconst (v := 0) hC dL_isSold_237 (by decide) ?_
                    exact hq (by omega) (by omega))
                  refine V_if_eq (tgt := 237) hC dL_isSold_176 (by decide) (fun hc => ?_) (fun hc => ?_)
                  · have hq := hq.1 hc
                    refine V_sub [0, 1, 2, 3, 4, 5, 6, 7] rfl ?_
                    exact hq (by omega) (by omega)
                  · have hq := hq.2 hc
                    refine V_aload hC dL_isSold_179 3 rfl ?_
                    refine V_iload hC dL_isSold_181 7 rfl ?_
                    refine U_ldI hC dL_isSold_183 hq (fun v32 hq => ?_)
                    refine V_iconst (v := (-1)) hC dL_isSold_184 (by decide) ?_
                    refine V_icmp_eq (tgt := 237) hC dL_isSold_185 (by decide) (fun hc => ?_) (fun hc => ?_)
                    · have hq := hq.1 hc
                      refine V_sub [0, 1, 2, 3, 4, 5, 6, 7] rfl ?_
                      exact hq (by omega) (by omega)
                    · have hq := hq.2 hc
                      refine V_aload_n hC dL_isSold_188 0 rfl ?_
                      refine V_bipush (v := 25) hC dL_isSold_189 (by decide) ?_
                      refine V_iload hC dL_isSold_191 7 rfl ?_
                      refine V_iload_n hC dL_isSold_193 2 rfl ?_
                      obtain ⟨hz1, hz2, hq⟩ := hq
                      refine clS_L_ask hG hC ss_L_138 ⟨by decide, by decide⟩ (Nat.le_of_ble_eq_true rfl) ⟨hz1, hz2⟩ dL_isSold_194 hq (fun r33 h34 hq => ?_)
                      show V G Γ 11 ((uc16 + 5) + 5) ((us17 + 34) + 34) h34 197 [(0, .ref p0), (1, .ref p1), (3, .int p3), (4, .ref a1), (5, .int (1 + r7)), (6, .int r10), (7, .int (t21 + r23)), (9, .int x9_14), (10, .int r19)] [.int r33]
                      refine V_iconst (v := (-1)) hC dL_isSold_197 (by decide) ?_
                      refine V_icmp_ne (tgt := 237) hC dL_isSold_198 (by decide) (fun hc => ?_) (fun hc => ?_)
                      · have hq := hq.1 hc
                        refine V_sub [0, 1, 2, 3, 4, 5, 6, 7] rfl ?_
                        exact hq (by omega) (by omega)
                      · have hq := hq.2 hc
                        refine V_iload hC dL_isSold_201 8 rfl ?_
                        refine V_iload hC dL_isSold_203 4 rfl ?_
                        refine V_icmp_gt (tgt := 237) hC dL_isSold_205 (by decide) (fun hc => ?_) (fun hc => ?_)
                        · have hq := hq.1 hc
                          refine V_sub [0, 1, 2, 3, 4, 5, 6, 7] rfl ?_
                          exact hq (by omega) (by omega)
                        · have hq := hq.2 hc
                          refine V_iload hC dL_isSold_208 8 rfl ?_
                          refine V_aload_n hC dL_isSold_210 0 rfl ?_
                          refine V_bipush (v := 10) hC dL_isSold_211 (by decide) ?_
                          refine V_iload hC dL_isSold_213 7 rfl ?_
                          refine V_aload_n hC dL_isSold_215 1 rfl ?_
                          refine V_sipush (v := 170) hC dL_isSold_216 (by decide) ?_
                          refine V_iload hC dL_isSold_219 7 rfl ?_
                          refine V_iadd hC dL_isSold_221 ?_
                          refine V_bipush (v := 60) hC dL_isSold_222 (by decide) ?_
                          refine clS_L_pick hG hC ss_L_134 ⟨by decide, by decide⟩ (Nat.le_of_ble_eq_true rfl) ⟨by omega, by omega⟩ dL_isSold_224 hq (fun r35 hq => ?_)
                          show V G Γ 11 ((uc16 + 5) + 5) ((us17 + 34) + 34) h34 227 [(0, .ref p0), (1, .ref p1), (3, .int p3), (4, .ref a1), (5, .int (1 + r7)), (6, .int r10), (7, .int (t21 + r23)), (9, .int x9_14), (10, .int r19)] [.int r35, .int x9_14, .int 10, .ref p0, .int r19]
                          obtain ⟨hz1, hz2, hq⟩ := hq
                          refine clS_L_ask hG hC ss_L_138 ⟨by decide, by decide⟩ (Nat.le_of_ble_eq_true rfl) ⟨hz1, hz2⟩ dL_isSold_227 hq (fun r36 h37 hq => ?_)
                          show V G Γ 11 (((uc16 + 5) + 5) + 5) (((us17 + 34) + 34) + 34) h37 230 [(0, .ref p0), (1, .ref p1), (3, .int p3), (4, .ref a1), (5, .int (1 + r7)), (6, .int r10), (7, .int (t21 + r23)), (9, .int x9_14), (10, .int r19)] [.int r36, .int r19]
                          refine V_icmp_lt (tgt := 237) hC dL_isSold_230 (by decide) (fun hc => ?_) (fun hc => ?_)
                          · have hq := hq.1 hc
                            refine V_sub [0, 1, 2, 3, 4, 5, 6, 7] rfl ?_
                            exact hq (by omega) (by omega)
                          · have hq := hq.2 hc
                            refine V_iconst (v := 1) hC dL_isSold_233 (by decide) ?_
                            refine V_goto (tgt := 238) hC dL_isSold_234 (by decide) ?_
                            refine V_sub [0, 1, 2, 3, 4, 5, 6, 7] rfl ?_
                            exact hq (by omega) (by omega)
                · have hq := hq.2 hc
                  refine V_aload_n hC dL_isSold_145 0 rfl ?_
                  refine V_bipush (v := 25) hC dL_isSold_146 (by decide) ?_
                  refine V_iload hC dL_isSold_148 7 rfl ?_
                  refine V_iload_n hC dL_isSold_150 2 rfl ?_
                  obtain ⟨hz1, hz2, hq⟩ := hq
                  refine clS_L_ask hG hC ss_L_138 ⟨by decide, by decide⟩ (Nat.le_of_ble_eq_true rfl) ⟨hz1, hz2⟩ dL_isSold_151 hq (fun r38 h39 hq => ?_)
                  show V G Γ 11 ((uc16 + 5) + 5) ((us17 + 34) + 34) h39 154 [(0, .ref p0), (1, .ref p1), (3, .int p3), (4, .ref a1), (5, .int (1 + r7)), (6, .int r10), (7, .int (t21 + r23)), (9, .int x9_14), (10, .int r19)] [.int r38]
                  refine V_aload hC dL_isSold_154 3 rfl ?_
                  refine V_iload hC dL_isSold_156 7 rfl ?_
                  refine U_ldI hC dL_isSold_158 hq (fun v40 hq => ?_)
                  refine V_icmp_ne (tgt := 166) hC dL_isSold_159 (by decide) (fun hc => ?_) (fun hc => ?_)
                  · have hq := hq.1 hc
                    refine V_iconst (v := 0) hC dL_isSold_166 (by decide) ?_
                    refine V_goto (tgt := 238) hC dL_isSold_167 (by decide) ?_
                    refine V_sub [0, 1, 2, 3, 4, 5, 6, 7] rfl ?_
                    exact hq (by omega) (by omega)
                  · have hq := hq.2 hc
                    refine V_iconst (v := 1) hC dL_isSold_162 (by decide) ?_
                    refine V_goto (tgt := 238) hC dL_isSold_163 (by decide) ?_
                    refine V_sub [0, 1, 2, 3, 4, 5, 6, 7] rfl ?_
                    exact hq (by omega) (by omega))
              refine V_icmp_eq (tgt := 130) hC dL_isSold_123 (by decide) (fun hc => ?_) (fun hc => ?_)
              · have hq := hq.1 hc
                refine V_iconst (v := 0) hC dL_isSold_130 (by decide) ?_
                refine V_sub [0, 1, 2, 3, 4, 5, 8, 9] rfl ?_
                exact hq
              · have hq := hq.2 hc
                refine V_iconst (v := 1) hC dL_isSold_126 (by decide) ?_
                refine V_goto (tgt := 131) hC dL_isSold_127 (by decide) ?_
                refine V_sub [0, 1, 2, 3, 4, 5, 8, 9] rfl ?_
                exact hq)
      refine V_sub [0, 1, 3, 4, 5, 6, 7, 8, 9] rfl ?_
      exact hq (by omega) (by omega)
    · have hq := hq.2 hc
      refine V_aload hC dL_isSold_16 4 rfl ?_
      refine V_iload hC dL_isSold_18 5 rfl ?_
      refine V_aload_n hC dL_isSold_20 0 rfl ?_
      refine V_bipush (v := 25) hC dL_isSold_21 (by decide) ?_
      refine V_iload hC dL_isSold_23 5 rfl ?_
      refine V_iload_n hC dL_isSold_25 3 rfl ?_
      obtain ⟨hz1, hz2, hq⟩ := hq
      refine clS_L_ask hG hC ss_L_138 ⟨by decide, by decide⟩ (Nat.le_of_ble_eq_true rfl) ⟨hz1, hz2⟩ dL_isSold_26 hq (fun r41 h42 hq => ?_)
      show V G Γ 11 (uc5 + 5) (us6 + 34) h42 29 [(0, .ref p0), (1, .ref p1), (2, .int p2), (3, .int p3), (4, .ref a1), (5, .int x5_3)] [.int r41, .int x5_3, .ref a1]
      refine U_stI hC dL_isSold_29 hq (fun h43 hq => ?_)
      refine V_iinc (j := 5) (v := (x5_3 + 1)) (L' := [(0, .ref p0), (1, .ref p1), (2, .int p2), (3, .int p3), (4, .ref a1), (5, .int (x5_3 + 1))]) hC dL_isSold_30 rfl rfl (by decide) [1, 2, 3, 4, 5, 0] rfl ?_
      refine V_goto (tgt := 9) hC dL_isSold_33 (by decide) ?_
      exact hq (by omega) (by omega))
  exact hq (by omega) (by omega)
theorem clS_L_isSold {G : Gx} (hG : GOK G) {Γ : Cx} {own : String} {cc : ByteArray} {nL fr lo mc ms cells slots pc : Nat} {hh : List (Nat × Nat × Nat × Nat)} {h : hw} {L : List (Nat × Value)} {rest : List Value} (hC : COK G Γ own cc nL fr lo mc ms hh) {idx : Nat} (hs : SS own idx yL_isSold cL_isSold 11 (some .boolean) 4) {bc bs : Nat} {p0 : Nat} {p1 : Nat} {p2 : Int32} {p3 : Int32} (hR : 22 + 1 ≤ fr ∧ 8 + (11 + 11) + 559 ≤ lo) (hw8 : (rest.map fun v => v.category).sum ≤ 8) (hcs : cells + bc ≤ mc ∧ slots + bs ≤ ms) (hdg : decode cc pc = .ok (.invokestatic idx, 3)) {post : Int32 → hw → Prop} (hq : wp_L_isSold G p0 p1 p2 p3 h bc bs post) (kk : ∀ (r : Int32) (h1 : hw) , post r h1 → V G Γ nL (cells + bc) (slots + bs) h1 (pc + 3) L (.int r :: rest)) : V G Γ nL cells slots h pc L (.int p3 :: .int p2 :: .ref p1 :: .ref p0 :: rest) :=
  V_callS (As := [.ref p0, .ref p1, .int p2, .int p3]) hC (ct_L_isSold hG p0 p1 p2 p3 h bc bs post hq) hs rfl hR hw8 hcs hdg (fun E h1 z => z.elim) (fun v h1 z => by obtain ⟨r, rfl, hz⟩ := z; exact kk r h1 hz)
set_option maxRecDepth 100000 in
set_option maxHeartbeats 4000000 in
theorem ct_L_isBought {G : Gx} (hG : GOK G) (p0 : Nat) (p1 : Nat) (p2 : Int32) (h0 : hw) (bc bs : Nat) (post : Int32 → hw → Prop) (hq : wp_L_isBought G p0 p1 p2 h0 bc bs post) : CT G yL_isBought cL_isBought 11 (some .boolean) 22 559 bc bs [.ref p0, .ref p1, .int p2] h0 (fun v h1 => ∃ r : Int32, v = some (.int r) ∧ post r h1) (fun E h1 => False) := by
  refine CT_of hG (by decide) (Nat.le_of_ble_eq_true rfl) (fun Γ hC hQ hN => ?_)
  have hC : COK G Γ "BandplanLaw" cL_isBought 11 22 559 bc bs [] := hC
  unfold wp_L_isBought at hq
  show V G Γ 11 0 0 h0 0 [(0, .ref p0), (1, .ref p1), (2, .int p2)] []
  refine V_aload_n hC dL_isBought_0 1 rfl ?_
  refine V_iload_n hC dL_isBought_1 2 rfl ?_
  refine V_bipush (v := 9) hC dL_isBought_2 (by decide) ?_
  refine clS_L_pick hG hC ss_L_134 ⟨by decide, by decide⟩ (Nat.le_of_ble_eq_true rfl) ⟨by omega, by omega⟩ dL_isBought_4 hq (fun r1 hq => ?_)
  show V G Γ 11 0 0 h0 7 [(0, .ref p0), (1, .ref p1), (2, .int p2)] [.int r1]
  refine V_istore_n (L' := [(0, .ref p0), (1, .ref p1), (2, .int p2), (3, .int r1)]) hC dL_isBought_7 rfl (by decide) [1, 2, 3, 0] rfl ?_
  refine V_aload_n hC dL_isBought_8 0 rfl ?_
  refine V_bipush (v := 13) hC dL_isBought_9 (by decide) ?_
  refine V_iload_n hC dL_isBought_11 3 rfl ?_
  refine V_iconst (v := 0) hC dL_isBought_12 (by decide) ?_
  obtain ⟨hz1, hz2, hq⟩ := hq
  refine clS_L_ask hG hC ss_L_138 ⟨by decide, by decide⟩ (Nat.le_of_ble_eq_true rfl) ⟨hz1, hz2⟩ dL_isBought_13 hq (fun r2 h3 hq => ?_)
  show V G Γ 11 (0 + 5) (0 + 34) h3 16 [(0, .ref p0), (1, .ref p1), (2, .int p2), (3, .int r1)] [.int r2]
  refine V_istore (L' := [(0, .ref p0), (1, .ref p1), (2, .int p2), (3, .int r1), (4, .int r2)]) hC dL_isBought_16 (by decide) [1, 2, 3, 4, 0] rfl ?_
  refine V_iconst (v := 0) hC dL_isBought_18 (by decide) ?_
  refine V_istore (L' := [(0, .ref p0), (1, .ref p1), (2, .int p2), (3, .int r1), (4, .int r2), (5, .int 0)]) hC dL_isBought_19 (by decide) [1, 2, 3, 4, 5, 0] rfl ?_
  refine V_iload hC dL_isBought_21 4 rfl ?_
  refine V_iload_n hC dL_isBought_23 3 rfl ?_
  have hq := hq (fun (t4 : Int32) => V G Γ 11 (0 + 5) (0 + 34) h3 32 [(0, .ref p0), (1, .ref p1), (4, .int r2), (5, .int 0)] [.int t4]) (by
    intro t4 hq
    show V G Γ 11 (0 + 5) (0 + 34) h3 32 [(0, .ref p0), (1, .ref p1), (4, .int r2), (5, .int 0)] [.int t4]
    refine V_istore (L' := [(0, .ref p0), (1, .ref p1), (4, .int r2), (5, .int 0), (6, .int t4)]) hC dL_isBought_32 (by decide) [1, 2, 3, 4, 0] rfl ?_
    refine V_iconst (v := 0) hC dL_isBought_34 (by decide) ?_
    refine V_istore (L' := [(0, .ref p0), (1, .ref p1), (4, .int r2), (5, .int 0), (6, .int t4), (7, .int 0)]) hC dL_isBought_35 (by decide) [1, 2, 3, 4, 5, 0] rfl ?_
    have hq := hq (fun (x5_5 : Int32) (x6_6 : Int32) (x7_7 : Int32) (h8 : hw) (uc9 : Nat) (us10 : Nat) => uc9 ≤ bc → us10 ≤ bs → V G Γ 11 uc9 us10 h8 37 [(0, .ref p0), (1, .ref p1), (4, .int r2), (5, .int x5_5), (6, .int x6_6), (7, .int x7_7)] []) (by
      intro x5_5 x6_6 x7_7 h8 uc9 us10 hq hu1 hu2
      show V G Γ 11 uc9 us10 h8 37 [(0, .ref p0), (1, .ref p1), (4, .int r2), (5, .int x5_5), (6, .int x6_6), (7, .int x7_7)] []
      refine V_aload_n hC dL_isBought_37 0 rfl ?_
      refine V_bipush (v := 30) hC dL_isBought_38 (by decide) ?_
      refine V_iload hC dL_isBought_40 5 rfl ?_
      refine V_iconst (v := 0) hC dL_isBought_42 (by decide) ?_
      obtain ⟨hz1, hz2, hq⟩ := hq
      refine clS_L_ask hG hC ss_L_138 ⟨by decide, by decide⟩ (Nat.le_of_ble_eq_true rfl) ⟨hz1, hz2⟩ dL_isBought_43 hq (fun r11 h12 hq => ?_)
      show V G Γ 11 (uc9 + 5) (us10 + 34) h12 46 [(0, .ref p0), (1, .ref p1), (4, .int r2), (5, .int x5_5), (6, .int x6_6), (7, .int x7_7)] [.int r11]
      refine V_sipush (v := (-20001)) hC dL_isBought_46 (by decide) ?_
      have hq := hq (V G Γ 11 (uc9 + 5) (us10 + 34) h12 168 [(4, .int r2), (5, .int x5_5), (6, .int x6_6)] []) (by
        intro hq
        show V G Γ 11 (uc9 + 5) (us10 + 34) h12 168 [(4, .int r2), (5, .int x5_5), (6, .int x6_6)] []
        refine V_iload hC dL_isBought_168 2 rfl ?_
        have hq := hq (V G Γ 11 (uc9 + 5) (us10 + 34) h12 184 [] []) (by
          intro hq
          show V G Γ 11 (uc9 + 5) (us10 + 34) h12 184 [] []
          refine V_iconst (v := 0) hC dL_isBought_184 (by decide) ?_
          obtain ⟨hz1, hz2, hq⟩ := hq
          exact V_iret hC hQ rfl rfl ⟨hz1, hz2⟩ dL_isBought_185 ⟨_, rfl, hq⟩)
        refine V_if_eq (tgt := 184) hC dL_isBought_170 (by decide) (fun hc => ?_) (fun hc => ?_)
        · have hq := hq.1 hc
          refine V_sub [] rfl ?_
          exact hq
        · have hq := hq.2 hc
          refine V_iload hC dL_isBought_173 1 rfl ?_
          refine V_iload hC dL_isBought_175 0 rfl ?_
          refine V_icmp_ne (tgt := 184) hC dL_isBought_177 (by decide) (fun hc => ?_) (fun hc => ?_)
          · have hq := hq.1 hc
            refine V_sub [] rfl ?_
            exact hq
          · have hq := hq.2 hc
            refine V_iconst (v := 1) hC dL_isBought_180 (by decide) ?_
            refine V_goto (tgt := 185) hC dL_isBought_181 (by decide) ?_
            obtain ⟨hz1, hz2, hq⟩ := hq
            exact V_iret hC hQ rfl rfl ⟨hz1, hz2⟩ dL_isBought_185 ⟨_, rfl, hq⟩)
      refine V_icmp_eq (tgt := 168) hC dL_isBought_49 (by decide) (fun hc => ?_) (fun hc => ?_)
      · have hq := hq.1 hc
        refine V_sub [2, 3, 4] rfl ?_
        exact hq
      · have hq := hq.2 hc
        refine V_iload hC dL_isBought_52 4 rfl ?_
        refine V_if_eq (tgt := 168) hC dL_isBought_54 (by decide) (fun hc => ?_) (fun hc => ?_)
        · have hq := hq.1 hc
          refine V_sub [2, 3, 4] rfl ?_
          exact hq
        · have hq := hq.2 hc
          refine V_aload_n hC dL_isBought_57 0 rfl ?_
          refine V_bipush (v := 30) hC dL_isBought_58 (by decide) ?_
          refine V_iload hC dL_isBought_60 5 rfl ?_
          refine V_iconst (v := 0) hC dL_isBought_62 (by decide) ?_
          obtain ⟨hz1, hz2, hq⟩ := hq
          refine clS_L_ask hG hC ss_L_138 ⟨by decide, by decide⟩ (Nat.le_of_ble_eq_true rfl) ⟨hz1, hz2⟩ dL_isBought_63 hq (fun r13 h14 hq => ?_)
          show V G Γ 11 ((uc9 + 5) + 5) ((us10 + 34) + 34) h14 66 [(0, .ref p0), (1, .ref p1), (4, .int r2), (5, .int x5_5), (6, .int x6_6), (7, .int x7_7)] [.int r13]
          refine V_istore (L' := [(0, .ref p0), (1, .ref p1), (4, .int r2), (5, .int x5_5), (6, .int x6_6), (7, .int x7_7), (8, .int r13)]) hC dL_isBought_66 (by decide) [1, 2, 3, 4, 5, 6, 0] rfl ?_
          refine V_iconst (v := 0) hC dL_isBought_68 (by decide) ?_
          refine V_istore (L' := [(0, .ref p0), (1, .ref p1), (4, .int r2), (5, .int x5_5), (6, .int x6_6), (7, .int x7_7), (8, .int r13), (9, .int 0)]) hC dL_isBought_69 (by decide) [1, 2, 3, 4, 5, 6, 7, 0] rfl ?_
          refine V_iconst (v := 0) hC dL_isBought_71 (by decide) ?_
          refine V_istore (L' := [(0, .ref p0), (1, .ref p1), (4, .int r2), (5, .int x5_5), (6, .int x6_6), (7, .int x7_7), (8, .int r13), (9, .int 0), (10, .int 0)]) hC dL_isBought_72 (by decide) [1, 2, 3, 4, 5, 6, 7, 8, 0] rfl ?_
          have hq := hq (fun (x9_15 : Int32) (x10_16 : Int32) => V G Γ 11 ((uc9 + 5) + 5) ((us10 + 34) + 34) h14 74 [(0, .ref p0), (1, .ref p1), (4, .int r2), (5, .int x5_5), (7, .int x7_7), (8, .int r13), (9, .int x9_15), (10, .int x10_16)] []) (by
            intro x9_15 x10_16 hq
            show V G Γ 11 ((uc9 + 5) + 5) ((us10 + 34) + 34) h14 74 [(0, .ref p0), (1, .ref p1), (4, .int r2), (5, .int x5_5), (7, .int x7_7), (8, .int r13), (9, .int x9_15), (10, .int x10_16)] []
            refine V_iload hC dL_isBought_74 7 rfl ?_
            refine V_iload hC dL_isBought_76 5 rfl ?_
            refine V_icmp_ge (tgt := 111) hC dL_isBought_78 (by decide) (fun hc => ?_) (fun hc => ?_)
            · have hq := hq.1 hc
              refine V_iload hC dL_isBought_111 3 rfl ?_
              refine V_iload hC dL_isBought_113 5 rfl ?_
              refine V_iadd hC dL_isBought_115 ?_
              refine V_istore (L' := [(0, .ref p0), (1, .ref p1), (4, .int r2), (5, .int (x5_5 + r13)), (7, .int x7_7), (8, .int r13), (9, .int x9_15), (10, .int x10_16)]) hC dL_isBought_116 (by decide) [1, 2, 3, 0, 4, 5, 6, 7] rfl ?_
              refine V_iload hC dL_isBought_118 5 rfl ?_
              have hq := hq (fun (t17 : Int32) (h18 : hw) (uc19 : Nat) (us20 : Nat) => uc19 ≤ bc → us20 ≤ bs → V G Γ 11 uc19 us20 h18 160 [(0, .ref p0), (1, .ref p1), (4, .int r2), (5, .int (x5_5 + r13)), (7, .int x7_7)] [.int t17]) (by
                intro t17 h18 uc19 us20 hq hu1 hu2
                show V G Γ 11 uc19 us20 h18 160 [(0, .ref p0), (1, .ref p1), (4, .int r2), (5, .int (x5_5 + r13)), (7, .int x7_7)] [.int t17]
                refine V_istore (L' := [(0, .ref p0), (1, .ref p1), (4, .int r2), (5, .int (x5_5 + r13)), (6, .int t17), (7, .int x7_7)]) hC dL_isBought_160 (by decide) [1, 2, 3, 4, 0, 5] rfl ?_
                refine V_iinc (j := 5) (v := (x7_7 + 1)) (L' := [(0, .ref p0), (1, .ref p1), (4, .int r2), (5, .int (x5_5 + r13)), (6, .int t17), (7, .int (x7_7 + 1))]) hC dL_isBought_162 rfl rfl (by decide) [1, 2, 3, 4, 5, 0] rfl ?_
                refine V_goto (tgt := 37) hC dL_isBought_165 (by decide) ?_
                exact hq (by omega) (by omega))
              have hq := hq (fun (h21 : hw) (uc22 : Nat) (us23 : Nat) => uc22 ≤ bc → us23 ≤ bs → V G Γ 11 uc22 us23 h21 159 [(0, .ref p0), (1, .ref p1), (4, .int r2), (5, .int (x5_5 + r13)), (7, .int x7_7)] []) (by
                intro h21 uc22 us23 hq hu1 hu2
                show V G Γ 11 uc22 us23 h21 159 [(0, .ref p0), (1, .ref p1), (4, .int r2), (5, .int (x5_5 + r13)), (7, .int x7_7)] []
                refine V_iconst (v := 0) hC dL_isBought_159 (by decide) ?_
                exact hq (by omega) (by omega))
              refine V_if_lt (tgt := 159) hC dL_isBought_120 (by decide) (fun hc => ?_) (fun hc => ?_)
              · have hq := hq.1 hc
                refine V_sub [0, 1, 2, 3, 4] rfl ?_
                exact hq (by omega) (by omega)
              · have hq := hq.2 hc
                refine V_iload hC dL_isBought_123 5 rfl ?_
                refine V_iconst (v := 3) hC dL_isBought_125 (by decide) ?_
                refine V_icmp_gt (tgt := 159) hC dL_isBought_126 (by decide) (fun hc => ?_) (fun hc => ?_)
                · have hq := hq.1 hc
                  refine V_sub [0, 1, 2, 3, 4] rfl ?_
                  exact hq (by omega) (by omega)
                · have hq := hq.2 hc
                  refine V_aload_n hC dL_isBought_129 0 rfl ?_
                  refine V_bipush (v := 31) hC dL_isBought_130 (by decide) ?_
                  refine V_iload hC dL_isBought_132 4 rfl ?_
                  refine V_iconst (v := 0) hC dL_isBought_134 (by decide) ?_
                  obtain ⟨hz1, hz2, hq⟩ := hq
                  refine clS_L_ask hG hC ss_L_138 ⟨by decide, by decide⟩ (Nat.le_of_ble_eq_true rfl) ⟨hz1, hz2⟩ dL_isBought_135 hq (fun r24 h25 hq => ?_)
                  show V G Γ 11 (((uc9 + 5) + 5) + 5) (((us10 + 34) + 34) + 34) h25 138 [(0, .ref p0), (1, .ref p1), (4, .int r2), (5, .int (x5_5 + r13)), (7, .int x7_7), (8, .int r13), (9, .int x9_15), (10, .int x10_16)] [.int r24]
                  refine V_if_lt (tgt := 159) hC dL_isBought_138 (by decide) (fun hc => ?_) (fun hc => ?_)
                  · have hq := hq.1 hc
                    refine V_sub [0, 1, 2, 3, 4] rfl ?_
                    exact hq (by omega) (by omega)
                  · have hq := hq.2 hc
                    refine V_aload_n hC dL_isBought_141 0 rfl ?_
                    refine V_bipush (v := 31) hC dL_isBought_142 (by decide) ?_
                    refine V_iload hC dL_isBought_144 4 rfl ?_
                    refine V_iconst (v := 0) hC dL_isBought_146 (by decide) ?_
                    obtain ⟨hz1, hz2, hq⟩ := hq
                    refine clS_L_ask hG hC ss_L_138 ⟨by decide, by decide⟩ (Nat.le_of_ble_eq_true rfl) ⟨hz1, hz2⟩ dL_isBought_147 hq (fun r26 h27 hq => ?_)
                    show V G Γ 11 ((((uc9 + 5) + 5) + 5) + 5) ((((us10 + 34) + 34) + 34) + 34) h27 150 [(0, .ref p0), (1, .ref p1), (4, .int r2), (5, .int (x5_5 + r13)), (7, .int x7_7), (8, .int r13), (9, .int x9_15), (10, .int x10_16)] [.int r26]
                    refine V_iload hC dL_isBought_150 6 rfl ?_
                    refine V_icmp_gt (tgt := 159) hC dL_isBought_152 (by decide) (fun hc => ?_) (fun hc => ?_)
                    · have hq := hq.1 hc
                      refine V_sub [0, 1, 2, 3, 4] rfl ?_
                      exact hq (by omega) (by omega)
                    · have hq := hq.2 hc
                      refine V_iconst (v := 1) hC dL_isBought_155 (by decide) ?_
                      refine V_goto (tgt := 160) hC dL_isBought_156 (by decide) ?_
                      refine V_sub [0, 1, 2, 3, 4] rfl ?_
                      exact hq (by omega) (by omega)
            · have hq := hq.2 hc
              refine V_iload hC dL_isBought_81 6 rfl ?_
              refine V_aload_n hC dL_isBought_83 1 rfl ?_
              refine V_sipush (v := 190) hC dL_isBought_84 (by decide) ?_
              refine V_iconst (v := 3) hC dL_isBought_87 (by decide) ?_
              refine V_iload hC dL_isBought_88 4 rfl ?_
              refine V_imul hC dL_isBought_90 ?_
              refine V_iadd hC dL_isBought_91 ?_
              refine V_bipush (v := 90) hC dL_isBought_92 (by decide) ?_
              refine clS_L_pick hG hC ss_L_134 ⟨by decide, by decide⟩ (Nat.le_of_ble_eq_true rfl) ⟨by omega, by omega⟩ dL_isBought_94 hq (fun r28 hq => ?_)
              show V G Γ 11 ((uc9 + 5) + 5) ((us10 + 34) + 34) h14 97 [(0, .ref p0), (1, .ref p1), (4, .int r2), (5, .int x5_5), (7, .int x7_7), (8, .int r13), (9, .int x9_15), (10, .int x10_16)] [.int r28, .int x9_15]
              refine V_iload hC dL_isBought_97 7 rfl ?_
              refine V_iconst (v := 1) hC dL_isBought_99 (by decide) ?_
              refine V_iadd hC dL_isBought_100 ?_
              obtain ⟨hz, hq⟩ := hq
              refine V_idiv hC dL_isBought_101 hz ?_
              refine V_iadd hC dL_isBought_102 ?_
              refine V_istore (L' := [(0, .ref p0), (1, .ref p1), (4, .int r2), (5, .int x5_5), (7, .int x7_7), (8, .int r13), (9, .int (x9_15 + (r28 / (x10_16 + 1)))), (10, .int x10_16)]) hC dL_isBought_103 (by decide) [1, 2, 3, 4, 5, 6, 0, 7] rfl ?_
              refine V_iinc (j := 7) (v := (x10_16 + 1)) (L' := [(0, .ref p0), (1, .ref p1), (4, .int r2), (5, .int x5_5), (7, .int x7_7), (8, .int r13), (9, .int (x9_15 + (r28 / (x10_16 + 1)))), (10, .int (x10_16 + 1))]) hC dL_isBought_105 rfl rfl (by decide) [1, 2, 3, 4, 5, 6, 7, 0] rfl ?_
              refine V_goto (tgt := 74) hC dL_isBought_108 (by decide) ?_
              exact hq)
          refine V_sub [0, 1, 2, 3, 5, 6, 7, 8] rfl ?_
          exact hq)
    exact hq (by omega) (by omega))
  refine V_icmp_gt (tgt := 31) hC dL_isBought_24 (by decide) (fun hc => ?_) (fun hc => ?_)
  · have hq := hq.1 hc
    refine V_iconst (v := 0) hC dL_isBought_31 (by decide) ?_
    refine V_sub [0, 1, 4, 5] rfl ?_
    exact hq
  · have hq := hq.2 hc
    refine V_iconst (v := 1) hC dL_isBought_27 (by decide) ?_
    refine V_goto (tgt := 32) hC dL_isBought_28 (by decide) ?_
    refine V_sub [0, 1, 4, 5] rfl ?_
    exact hq
theorem clS_L_isBought {G : Gx} (hG : GOK G) {Γ : Cx} {own : String} {cc : ByteArray} {nL fr lo mc ms cells slots pc : Nat} {hh : List (Nat × Nat × Nat × Nat)} {h : hw} {L : List (Nat × Value)} {rest : List Value} (hC : COK G Γ own cc nL fr lo mc ms hh) {idx : Nat} (hs : SS own idx yL_isBought cL_isBought 11 (some .boolean) 3) {bc bs : Nat} {p0 : Nat} {p1 : Nat} {p2 : Int32} (hR : 22 + 1 ≤ fr ∧ 8 + (11 + 11) + 559 ≤ lo) (hw8 : (rest.map fun v => v.category).sum ≤ 8) (hcs : cells + bc ≤ mc ∧ slots + bs ≤ ms) (hdg : decode cc pc = .ok (.invokestatic idx, 3)) {post : Int32 → hw → Prop} (hq : wp_L_isBought G p0 p1 p2 h bc bs post) (kk : ∀ (r : Int32) (h1 : hw) , post r h1 → V G Γ nL (cells + bc) (slots + bs) h1 (pc + 3) L (.int r :: rest)) : V G Γ nL cells slots h pc L (.int p2 :: .ref p1 :: .ref p0 :: rest) :=
  V_callS (As := [.ref p0, .ref p1, .int p2]) hC (ct_L_isBought hG p0 p1 p2 h bc bs post hq) hs rfl hR hw8 hcs hdg (fun E h1 z => z.elim) (fun v h1 z => by obtain ⟨r, rfl, hz⟩ := z; exact kk r h1 hz)
