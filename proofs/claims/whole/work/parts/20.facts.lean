theorem so_X7_1 : SO "Bandplan$Row" 1 := ⟨aw_1_88, aw_1_43, aw_1_44⟩
theorem lay_X7 : ∀ w ∈ u_ws RX7 TX7 1, w ∈ AW := by
  intro w hw
  obtain ⟨k, hk, rfl⟩ := List.mem_map.mp hw
  have hk := List.mem_range.mp hk
  match k, hk with
  | 0, _ => exact aw_1_90
  | k + 1, hk => exact absurd hk (by omega)
theorem fl_X7_7 : FLD "Bandplan$Row" 7 7 0 (.array .int) := ⟨RX7, TX7, 1, "Bandplan$Row", rfl, by decide, aw_1_89, lay_X7, ⟨tyX7, tyX7_ok, rfl⟩, nmX7, rfl⟩
theorem fin_X7_0 : ∀ C T N, mcl[7]? = some (C, T, N) → (T 0).2.2.2 = true ∧ (T 0).1 = "Bandplan$Row" := by
  intro C T N hc
  cases (show some (RX7, TX7, 1) = some (C, T, N) from hc)
  exact ⟨rfl, rfl⟩
theorem lay_X3 : ∀ w ∈ u_ws RX3 TX3 3, w ∈ AW := by
  intro w hw
  obtain ⟨k, hk, rfl⟩ := List.mem_map.mp hw
  have hk := List.mem_range.mp hk
  match k, hk with
  | 0, _ => exact aw_1_99
  | 1, _ => exact aw_1_101
  | 2, _ => exact aw_1_103
  | k + 3, hk => exact absurd hk (by omega)
theorem fl_X3_27 : FLD "Bandplan$Land" 27 3 2 (.object "Bandplan$Row") := ⟨RX3, TX3, 3, "Bandplan$Land", rfl, by decide, aw_1_98, lay_X3, ⟨tyX3, tyX3_ok, rfl⟩, nmX3, rfl⟩
theorem fin_X3_2 : ∀ C T N, mcl[3]? = some (C, T, N) → (T 2).2.2.2 = true ∧ (T 2).1 = "Bandplan$Land" := by
  intro C T N hc
  cases (show some (RX3, TX3, 3) = some (C, T, N) from hc)
  exact ⟨rfl, rfl⟩
theorem sv_X3_48 : SV "Bandplan$Land" 48 yX7_at cX7_at 2 (some .int) 1 := ⟨aw_2_124, aw_2_101, aw_2_102, aw_1_7, aw_2_103, by decide, by decide, by decide⟩
theorem lay_X10 : ∀ w ∈ u_ws RX10 TX10 6, w ∈ AW := by
  intro w hw
  obtain ⟨k, hk, rfl⟩ := List.mem_map.mp hw
  have hk := List.mem_range.mp hk
  match k, hk with
  | 0, _ => exact aw_4_11
  | 1, _ => exact aw_4_13
  | 2, _ => exact aw_4_15
  | 3, _ => exact aw_4_17
  | 4, _ => exact aw_4_19
  | 5, _ => exact aw_4_21
  | k + 6, hk => exact absurd hk (by omega)
theorem fl_X0_29 : FLD "Bandplan$Air" 29 10 3 .int := ⟨RX10, TX10, 6, "Bandplan$Station", rfl, by decide, aw_4_3, lay_X10, ⟨tyX10, tyX10_ok, rfl⟩, nmX10, rfl⟩
theorem fin_X10_3 : ∀ C T N, mcl[10]? = some (C, T, N) → (T 3).2.2.2 = true ∧ (T 3).1 = "Bandplan$Station" := by
  intro C T N hc
  cases (show some (RX10, TX10, 6) = some (C, T, N) from hc)
  exact ⟨rfl, rfl⟩
theorem lay_X0 : ∀ w ∈ u_ws RX0 TX0 3, w ∈ AW := by
  intro w hw
  obtain ⟨k, hk, rfl⟩ := List.mem_map.mp hw
  have hk := List.mem_range.mp hk
  match k, hk with
  | 0, _ => exact aw_1_117
  | 1, _ => exact aw_1_119
  | 2, _ => exact aw_1_121
  | k + 3, hk => exact absurd hk (by omega)
theorem fl_X0_12 : FLD "Bandplan$Air" 12 0 0 (.object "Bandplan$Land") := ⟨RX0, TX0, 3, "Bandplan$Air", rfl, by decide, aw_1_108, lay_X0, ⟨tyX0, tyX0_ok, rfl⟩, nmX0, rfl⟩
theorem fin_X0_0 : ∀ C T N, mcl[0]? = some (C, T, N) → (T 0).2.2.2 = true ∧ (T 0).1 = "Bandplan$Air" := by
  intro C T N hc
  cases (show some (RX0, TX0, 3) = some (C, T, N) from hc)
  exact ⟨rfl, rfl⟩
theorem fl_X0_34 : FLD "Bandplan$Air" 34 10 1 .int := ⟨RX10, TX10, 6, "Bandplan$Station", rfl, by decide, aw_3_239, lay_X10, ⟨tyX10, tyX10_ok, rfl⟩, nmX10, rfl⟩
theorem fin_X10_1 : ∀ C T N, mcl[10]? = some (C, T, N) → (T 1).2.2.2 = true ∧ (T 1).1 = "Bandplan$Station" := by
  intro C T N hc
  cases (show some (RX10, TX10, 6) = some (C, T, N) from hc)
  exact ⟨rfl, rfl⟩
theorem fl_X0_37 : FLD "Bandplan$Air" 37 10 2 .int := ⟨RX10, TX10, 6, "Bandplan$Station", rfl, by decide, aw_4_1, lay_X10, ⟨tyX10, tyX10_ok, rfl⟩, nmX10, rfl⟩
theorem fin_X10_2 : ∀ C T N, mcl[10]? = some (C, T, N) → (T 2).2.2.2 = true ∧ (T 2).1 = "Bandplan$Station" := by
  intro C T N hc
  cases (show some (RX10, TX10, 6) = some (C, T, N) from hc)
  exact ⟨rfl, rfl⟩
theorem sv_X0_40 : SV "Bandplan$Air" 40 yX3_lossBetween cX3_lossBetween 3 (some .int) 2 := ⟨aw_2_120, aw_2_121, aw_2_122, aw_1_3, aw_2_123, by decide, by decide, by decide⟩
theorem lay_Jx4a65c : ∀ w ∈ u_ws RJx4a65c TJx4a65c 3, w ∈ AW := by
  intro w hw
  obtain ⟨k, hk, rfl⟩ := List.mem_map.mp hw
  have hk := List.mem_range.mp hk
  match k, hk with
  | 0, _ => exact aw_1_80
  | 1, _ => exact aw_1_76
  | 2, _ => exact aw_1_78
  | k + 3, hk => exact absurd hk (by omega)
theorem fl_Jx4a65c_48 : FLD "java/util/ArrayList" 48 14 2 .int := ⟨RJx4a65c, TJx4a65c, 3, "java/util/ArrayList", rfl, by decide, aw_1_72, lay_Jx4a65c, ⟨tyJx4a65c, tyJx4a65c_ok, rfl⟩, nmJx4a65c, rfl⟩
theorem fin_Jx4a65c_2 : ∀ C T N, mcl[14]? = some (C, T, N) → (T 2).2.2.2 = false ∧ (T 2).1 = "java/util/ArrayList" := by
  intro C T N hc
  cases (show some (RJx4a65c, TJx4a65c, 3) = some (C, T, N) from hc)
  exact ⟨rfl, rfl⟩
theorem ss_J15_105 : SS "java/util/Objects" 105 yJ3_checkIndex_8e157 cJ3_checkIndex_8e157 3 (some .int) 3 := ⟨aw_2_92, aw_2_93, aw_1_24, aw_2_94, by decide, by decide, by decide⟩
theorem fl_Jx4a65c_9 : FLD "java/util/ArrayList" 9 14 1 (.array (.object "java/lang/Object")) := ⟨RJx4a65c, TJx4a65c, 3, "java/util/ArrayList", rfl, by decide, aw_1_71, lay_Jx4a65c, ⟨tyJx4a65c, tyJx4a65c_ok, rfl⟩, nmJx4a65c, rfl⟩
theorem fin_Jx4a65c_1 : ∀ C T N, mcl[14]? = some (C, T, N) → (T 1).2.2.2 = false ∧ (T 1).1 = "java/util/ArrayList" := by
  intro C T N hc
  cases (show some (RJx4a65c, TJx4a65c, 3) = some (C, T, N) from hc)
  exact ⟨rfl, rfl⟩
theorem ss_Jx4a65c_118 : SS "java/util/ArrayList" 118 yJ15_checkIndex_7cf53 cJ15_checkIndex_7cf53 2 (some .int) 2 := ⟨aw_2_89, aw_2_90, aw_1_23, aw_2_91, by decide, by decide, by decide⟩
theorem sv_Jx4a65c_123 : SV "java/util/ArrayList" 123 yJx4a65c_elementData_915e3 cJx4a65c_elementData_915e3 2 (some (.object "java/lang/Object")) 1 := ⟨aw_2_95, aw_2_96, aw_2_97, aw_1_6, aw_2_98, by decide, by decide, by decide⟩
theorem sm_X0_62 : SM "Bandplan$Air" 62 Lib.Math.abs.name Lib.Math.abs.code 1 := ⟨aw_2_113, aw_2_114, aw_1_25, aw_2_115⟩
theorem sm_X0_109 : SM "Bandplan$Air" 109 Lib.Math.max.name Lib.Math.max.code 2 := ⟨aw_2_128, aw_2_129, aw_1_25, aw_2_130⟩
theorem fl_X0_21 : FLD "Bandplan$Air" 21 0 1 (.object "java/util/ArrayList") := ⟨RX0, TX0, 3, "Bandplan$Air", rfl, by decide, aw_1_110, lay_X0, ⟨tyX0, tyX0_ok, rfl⟩, nmX0, rfl⟩
theorem fin_X0_1 : ∀ C T N, mcl[0]? = some (C, T, N) → (T 1).2.2.2 = true ∧ (T 1).1 = "Bandplan$Air" := by
  intro C T N hc
  cases (show some (RX0, TX0, 3) = some (C, T, N) from hc)
  exact ⟨rfl, rfl⟩
theorem sv_X0_45 : SV "Bandplan$Air" 45 yJx4a65c_size_8abf5 cJx4a65c_size_8abf5 1 (some .int) 0 := ⟨aw_2_81, aw_2_82, aw_2_83, aw_1_6, aw_2_84, by decide, by decide, by decide⟩
theorem sv_X0_49 : SV "Bandplan$Air" 49 yJx4a65c_get_915e3 cJx4a65c_get_915e3 2 (some (.object "java/lang/Object")) 1 := ⟨aw_2_85, aw_2_86, aw_2_87, aw_1_6, aw_2_88, by decide, by decide, by decide⟩
theorem sv_X0_53 : SV "Bandplan$Air" 53 yX7_at cX7_at 2 (some .int) 1 := ⟨aw_2_100, aw_2_101, aw_2_102, aw_1_7, aw_2_103, by decide, by decide, by decide⟩
theorem fl_X0_59 : FLD "Bandplan$Air" 59 10 0 .int := ⟨RX10, TX10, 6, "Bandplan$Station", rfl, by decide, aw_3_235, lay_X10, ⟨tyX10, tyX10_ok, rfl⟩, nmX10, rfl⟩
theorem fin_X10_0 : ∀ C T N, mcl[10]? = some (C, T, N) → (T 0).2.2.2 = true ∧ (T 0).1 = "Bandplan$Station" := by
  intro C T N hc
  cases (show some (RX10, TX10, 6) = some (C, T, N) from hc)
  exact ⟨rfl, rfl⟩
theorem sv_X0_67 : SV "Bandplan$Air" 67 yX0_harmOf cX0_harmOf 5 (some .int) 3 := ⟨aw_2_116, aw_2_118, aw_p_0, aw_1_2, aw_2_119, by decide, by decide, by decide⟩
theorem ss_X0_71 : SS "Bandplan$Air" 71 yX0_together cX0_together 3 (some .int) 2 := ⟨aw_2_125, aw_2_126, aw_1_2, aw_2_127, by decide, by decide, by decide⟩
theorem sv_X0_74 : SV "Bandplan$Air" 74 yX0_allHarm cX0_allHarm 8 (some .int) 2 := ⟨aw_2_108, aw_2_109, aw_2_110, aw_1_2, aw_2_111, by decide, by decide, by decide⟩
theorem sv_X0_78 : SV "Bandplan$Air" 78 yX0_levelOf cX0_levelOf 2 (some .int) 1 := ⟨aw_2_131, aw_2_132, aw_2_133, aw_1_2, aw_2_134, by decide, by decide, by decide⟩
theorem fl_X0_25 : FLD "Bandplan$Air" 25 0 2 .int := ⟨RX0, TX0, 3, "Bandplan$Air", rfl, by decide, aw_1_115, lay_X0, ⟨tyX0, tyX0_ok, rfl⟩, nmX0, rfl⟩
theorem fin_X0_2 : ∀ C T N, mcl[0]? = some (C, T, N) → (T 2).2.2.2 = false ∧ (T 2).1 = "Bandplan$Air" := by
  intro C T N hc
  cases (show some (RX0, TX0, 3) = some (C, T, N) from hc)
  exact ⟨rfl, rfl⟩
theorem fl_X0_82 : FLD "Bandplan$Air" 82 10 4 .boolean := ⟨RX10, TX10, 6, "Bandplan$Station", rfl, by decide, aw_4_5, lay_X10, ⟨tyX10, tyX10_ok, rfl⟩, nmX10, rfl⟩
theorem fin_X10_4 : ∀ C T N, mcl[10]? = some (C, T, N) → (T 4).2.2.2 = true ∧ (T 4).1 = "Bandplan$Station" := by
  intro C T N hc
  cases (show some (RX10, TX10, 6) = some (C, T, N) from hc)
  exact ⟨rfl, rfl⟩
theorem sv_X0_86 : SV "Bandplan$Air" 86 yX0_keepsLevel cX0_keepsLevel 4 (some .boolean) 2 := ⟨aw_2_104, aw_2_105, aw_2_106, aw_1_2, aw_2_107, by decide, by decide, by decide⟩
theorem sv_X0_90 : SV "Bandplan$Air" 90 yX0_suffers cX0_suffers 4 (some .boolean) 3 := ⟨aw_4_119, aw_4_121, aw_p_17, aw_1_2, aw_4_122, by decide, by decide, by decide⟩
theorem fl_X0_101 : FLD "Bandplan$Air" 101 3 0 (.object "java/util/ArrayList") := ⟨RX3, TX3, 3, "Bandplan$Land", rfl, by decide, aw_1_96, lay_X3, ⟨tyX3, tyX3_ok, rfl⟩, nmX3, rfl⟩
theorem fin_X3_0 : ∀ C T N, mcl[3]? = some (C, T, N) → (T 0).2.2.2 = true ∧ (T 0).1 = "Bandplan$Land" := by
  intro C T N hc
  cases (show some (RX3, TX3, 3) = some (C, T, N) from hc)
  exact ⟨rfl, rfl⟩
theorem lay_X9 : ∀ w ∈ u_ws RX9 TX9 3, w ∈ AW := by
  intro w hw
  obtain ⟨k, hk, rfl⟩ := List.mem_map.mp hw
  have hk := List.mem_range.mp hk
  match k, hk with
  | 0, _ => exact aw_3_128
  | 1, _ => exact aw_3_130
  | 2, _ => exact aw_3_132
  | k + 3, hk => exact absurd hk (by omega)
theorem fl_X0_106 : FLD "Bandplan$Air" 106 9 0 .int := ⟨RX9, TX9, 3, "Bandplan$Site", rfl, by decide, aw_3_123, lay_X9, ⟨tyX9, tyX9_ok, rfl⟩, nmX9, rfl⟩
theorem fin_X9_0 : ∀ C T N, mcl[9]? = some (C, T, N) → (T 0).2.2.2 = true ∧ (T 0).1 = "Bandplan$Site" := by
  intro C T N hc
  cases (show some (RX9, TX9, 3) = some (C, T, N) from hc)
  exact ⟨rfl, rfl⟩
theorem sv_X0_94 : SV "Bandplan$Air" 94 yX0_isBeyond cX0_isBeyond 2 (some .boolean) 1 := ⟨aw_4_139, aw_4_141, aw_p_18, aw_1_2, aw_4_142, by decide, by decide, by decide⟩
theorem fl_X0_98 : FLD "Bandplan$Air" 98 10 5 .int := ⟨RX10, TX10, 6, "Bandplan$Station", rfl, by decide, aw_4_9, lay_X10, ⟨tyX10, tyX10_ok, rfl⟩, nmX10, rfl⟩
theorem fin_X10_5 : ∀ C T N, mcl[10]? = some (C, T, N) → (T 5).2.2.2 = false ∧ (T 5).1 = "Bandplan$Station" := by
  intro C T N hc
  cases (show some (RX10, TX10, 6) = some (C, T, N) from hc)
  exact ⟨rfl, rfl⟩
theorem so_X1_3 : SO "Bandplan$Border" 3 := ⟨aw_1_156, aw_1_43, aw_1_44⟩
theorem no_X1_9 : NO "Bandplan$Border" 9 7 1 [.null] := ⟨RX7, TX7, rfl, aw_1_157, aw_1_84, aw_1_7, lay_X7, tyX7, tyX7_ok, fun j hj => by
  match j, hj with
  | 0, _ => rfl
  | j + 1, hj => exact absurd hj (by omega)⟩
theorem si_X1_11 : SI "Bandplan$Border" 11 yX7_init cX7_init 4 2 := ⟨aw_1_158, aw_1_86, rfl, aw_1_7, aw_1_87, by decide, by decide, by decide⟩
theorem lay_X1 : ∀ w ∈ u_ws RX1 TX1 3, w ∈ AW := by
  intro w hw
  obtain ⟨k, hk, rfl⟩ := List.mem_map.mp hw
  have hk := List.mem_range.mp hk
  match k, hk with
  | 0, _ => exact aw_1_162
  | 1, _ => exact aw_1_164
  | 2, _ => exact aw_1_166
  | k + 3, hk => exact absurd hk (by omega)
theorem fl_X1_14 : FLD "Bandplan$Border" 14 1 0 (.object "Bandplan$Row") := ⟨RX1, TX1, 3, "Bandplan$Border", rfl, by decide, aw_1_159, lay_X1, ⟨tyX1, tyX1_ok, rfl⟩, nmX1, rfl⟩
theorem fin_X1_0 : ∀ C T N, mcl[1]? = some (C, T, N) → (T 0).2.2.2 = true ∧ (T 0).1 = "Bandplan$Border" := by
  intro C T N hc
  cases (show some (RX1, TX1, 3) = some (C, T, N) from hc)
  exact ⟨rfl, rfl⟩
theorem fl_X1_20 : FLD "Bandplan$Border" 20 1 1 (.object "Bandplan$Row") := ⟨RX1, TX1, 3, "Bandplan$Border", rfl, by decide, aw_1_160, lay_X1, ⟨tyX1, tyX1_ok, rfl⟩, nmX1, rfl⟩
theorem fin_X1_1 : ∀ C T N, mcl[1]? = some (C, T, N) → (T 1).2.2.2 = true ∧ (T 1).1 = "Bandplan$Border" := by
  intro C T N hc
  cases (show some (RX1, TX1, 3) = some (C, T, N) from hc)
  exact ⟨rfl, rfl⟩
theorem fl_X1_23 : FLD "Bandplan$Border" 23 1 2 (.object "Bandplan$Row") := ⟨RX1, TX1, 3, "Bandplan$Border", rfl, by decide, aw_1_161, lay_X1, ⟨tyX1, tyX1_ok, rfl⟩, nmX1, rfl⟩
theorem fin_X1_2 : ∀ C T N, mcl[1]? = some (C, T, N) → (T 2).2.2.2 = true ∧ (T 2).1 = "Bandplan$Border" := by
  intro C T N hc
  cases (show some (RX1, TX1, 3) = some (C, T, N) from hc)
  exact ⟨rfl, rfl⟩
theorem sv_X1_26 : SV "Bandplan$Border" 26 yX7_at cX7_at 2 (some .int) 1 := ⟨aw_4_134, aw_2_101, aw_2_102, aw_1_7, aw_2_103, by decide, by decide, by decide⟩
theorem sv_X1_30 : SV "Bandplan$Border" 30 yX7_put cX7_put 3 none 2 := ⟨aw_4_199, aw_3_80, aw_3_81, aw_1_7, aw_3_82, by decide, by decide, by decide⟩
theorem sv_X1_33 : SV "Bandplan$Border" 33 yX1_wasAsked cX1_wasAsked 3 (some .boolean) 2 := ⟨aw_4_148, aw_4_149, aw_4_150, aw_1_9, aw_4_151, by decide, by decide, by decide⟩
theorem so_X2_3 : SO "Bandplan$Buying" 3 := ⟨aw_1_232, aw_1_43, aw_1_44⟩
theorem no_X2_9 : NO "Bandplan$Buying" 9 7 1 [.null] := ⟨RX7, TX7, rfl, aw_1_233, aw_1_84, aw_1_7, lay_X7, tyX7, tyX7_ok, fun j hj => by
  match j, hj with
  | 0, _ => rfl
  | j + 1, hj => exact absurd hj (by omega)⟩
theorem si_X2_11 : SI "Bandplan$Buying" 11 yX7_init cX7_init 4 2 := ⟨aw_1_234, aw_1_86, rfl, aw_1_7, aw_1_87, by decide, by decide, by decide⟩
theorem lay_X2 : ∀ w ∈ u_ws RX2 TX2 5, w ∈ AW := by
  intro w hw
  obtain ⟨k, hk, rfl⟩ := List.mem_map.mp hw
  have hk := List.mem_range.mp hk
  match k, hk with
  | 0, _ => exact aw_2_3
  | 1, _ => exact aw_2_5
  | 2, _ => exact aw_2_7
  | 3, _ => exact aw_2_9
  | 4, _ => exact aw_2_11
  | k + 5, hk => exact absurd hk (by omega)
theorem fl_X2_14 : FLD "Bandplan$Buying" 14 2 0 (.object "Bandplan$Row") := ⟨RX2, TX2, 5, "Bandplan$Buying", rfl, by decide, aw_1_235, lay_X2, ⟨tyX2, tyX2_ok, rfl⟩, nmX2, rfl⟩
theorem fin_X2_0 : ∀ C T N, mcl[2]? = some (C, T, N) → (T 0).2.2.2 = true ∧ (T 0).1 = "Bandplan$Buying" := by
  intro C T N hc
  cases (show some (RX2, TX2, 5) = some (C, T, N) from hc)
  exact ⟨rfl, rfl⟩
theorem fl_X2_20 : FLD "Bandplan$Buying" 20 2 1 (.object "Bandplan$Row") := ⟨RX2, TX2, 5, "Bandplan$Buying", rfl, by decide, aw_1_237, lay_X2, ⟨tyX2, tyX2_ok, rfl⟩, nmX2, rfl⟩
theorem fin_X2_1 : ∀ C T N, mcl[2]? = some (C, T, N) → (T 1).2.2.2 = true ∧ (T 1).1 = "Bandplan$Buying" := by
  intro C T N hc
  cases (show some (RX2, TX2, 5) = some (C, T, N) from hc)
  exact ⟨rfl, rfl⟩
theorem fl_X2_23 : FLD "Bandplan$Buying" 23 2 3 (.object "Bandplan$Row") := ⟨RX2, TX2, 5, "Bandplan$Buying", rfl, by decide, aw_2_1, lay_X2, ⟨tyX2, tyX2_ok, rfl⟩, nmX2, rfl⟩
theorem fin_X2_3 : ∀ C T N, mcl[2]? = some (C, T, N) → (T 3).2.2.2 = true ∧ (T 3).1 = "Bandplan$Buying" := by
  intro C T N hc
  cases (show some (RX2, TX2, 5) = some (C, T, N) from hc)
  exact ⟨rfl, rfl⟩
theorem fl_X2_26 : FLD "Bandplan$Buying" 26 2 4 (.object "Bandplan$Row") := ⟨RX2, TX2, 5, "Bandplan$Buying", rfl, by decide, aw_2_2, lay_X2, ⟨tyX2, tyX2_ok, rfl⟩, nmX2, rfl⟩
theorem fin_X2_4 : ∀ C T N, mcl[2]? = some (C, T, N) → (T 4).2.2.2 = true ∧ (T 4).1 = "Bandplan$Buying" := by
  intro C T N hc
  cases (show some (RX2, TX2, 5) = some (C, T, N) from hc)
  exact ⟨rfl, rfl⟩
theorem fl_X2_29 : FLD "Bandplan$Buying" 29 2 2 .int := ⟨RX2, TX2, 5, "Bandplan$Buying", rfl, by decide, aw_1_239, lay_X2, ⟨tyX2, tyX2_ok, rfl⟩, nmX2, rfl⟩
theorem fin_X2_2 : ∀ C T N, mcl[2]? = some (C, T, N) → (T 2).2.2.2 = false ∧ (T 2).1 = "Bandplan$Buying" := by
  intro C T N hc
  cases (show some (RX2, TX2, 5) = some (C, T, N) from hc)
  exact ⟨rfl, rfl⟩
theorem sv_X2_33 : SV "Bandplan$Buying" 33 yX7_put cX7_put 3 none 2 := ⟨aw_5_129, aw_3_80, aw_3_81, aw_1_7, aw_3_82, by decide, by decide, by decide⟩
theorem sv_X2_44 : SV "Bandplan$Buying" 44 yX7_at cX7_at 2 (some .int) 1 := ⟨aw_2_151, aw_2_101, aw_2_102, aw_1_7, aw_2_103, by decide, by decide, by decide⟩
theorem sv_X2_51 : SV "Bandplan$Buying" 51 yX7_fillWith cX7_fillWith 3 none 1 := ⟨aw_5_145, aw_5_10, aw_5_11, aw_1_7, aw_5_12, by decide, by decide, by decide⟩
theorem sv_X2_55 : SV "Bandplan$Buying" 55 yX2_highestBidder cX2_highestBidder 7 (some .int) 2 := ⟨aw_5_146, aw_5_148, aw_p_25, aw_1_12, aw_5_149, by decide, by decide, by decide⟩
theorem sv_X2_48 : SV "Bandplan$Buying" 48 yX2_worthOf cX2_worthOf 5 (some .int) 2 := ⟨aw_2_152, aw_2_154, aw_p_1, aw_1_12, aw_2_155, by decide, by decide, by decide⟩
theorem sv_X2_36 : SV "Bandplan$Buying" 36 yX2_deal cX2_deal 6 (some .int) 3 := ⟨aw_5_141, aw_5_143, aw_p_24, aw_1_12, aw_5_144, by decide, by decide, by decide⟩
theorem sv_X2_40 : SV "Bandplan$Buying" 40 yX2_worthOfOthers cX2_worthOfOthers 5 (some .int) 2 := ⟨aw_5_150, aw_5_152, aw_p_26, aw_1_12, aw_5_153, by decide, by decide, by decide⟩
theorem fl_X3_23 : FLD "Bandplan$Land" 23 3 1 (.object "Bandplan$Row") := ⟨RX3, TX3, 3, "Bandplan$Land", rfl, by decide, aw_1_97, lay_X3, ⟨tyX3, tyX3_ok, rfl⟩, nmX3, rfl⟩
theorem fin_X3_1 : ∀ C T N, mcl[3]? = some (C, T, N) → (T 1).2.2.2 = true ∧ (T 1).1 = "Bandplan$Land" := by
  intro C T N hc
  cases (show some (RX3, TX3, 3) = some (C, T, N) from hc)
  exact ⟨rfl, rfl⟩
theorem fl_X3_62 : FLD "Bandplan$Land" 62 9 0 .int := ⟨RX9, TX9, 3, "Bandplan$Site", rfl, by decide, aw_3_122, lay_X9, ⟨tyX9, tyX9_ok, rfl⟩, nmX9, rfl⟩
theorem fl_X3_66 : FLD "Bandplan$Land" 66 9 1 .int := ⟨RX9, TX9, 3, "Bandplan$Site", rfl, by decide, aw_3_125, lay_X9, ⟨tyX9, tyX9_ok, rfl⟩, nmX9, rfl⟩
theorem fin_X9_1 : ∀ C T N, mcl[9]? = some (C, T, N) → (T 1).2.2.2 = true ∧ (T 1).1 = "Bandplan$Site" := by
  intro C T N hc
  cases (show some (RX9, TX9, 3) = some (C, T, N) from hc)
  exact ⟨rfl, rfl⟩
theorem sm_X3_75 : SM "Bandplan$Land" 75 Lib.Math.abs.name Lib.Math.abs.code 1 := ⟨aw_3_101, aw_2_114, aw_1_25, aw_2_115⟩
theorem sm_X3_80 : SM "Bandplan$Land" 80 Lib.Math.max.name Lib.Math.max.code 2 := ⟨aw_3_102, aw_2_129, aw_1_25, aw_2_130⟩
theorem fl_X3_83 : FLD "Bandplan$Land" 83 9 2 .int := ⟨RX9, TX9, 3, "Bandplan$Site", rfl, by decide, aw_3_127, lay_X9, ⟨tyX9, tyX9_ok, rfl⟩, nmX9, rfl⟩
theorem fin_X9_2 : ∀ C T N, mcl[9]? = some (C, T, N) → (T 2).2.2.2 = true ∧ (T 2).1 = "Bandplan$Site" := by
  intro C T N hc
  cases (show some (RX9, TX9, 3) = some (C, T, N) from hc)
  exact ⟨rfl, rfl⟩
theorem sv_X3_30 : SV "Bandplan$Land" 30 yX3_groundAt cX3_groundAt 3 (some .int) 2 := ⟨aw_3_75, aw_3_77, aw_p_6, aw_1_3, aw_3_78, by decide, by decide, by decide⟩
theorem ss_X3_86 : SS "Bandplan$Land" 86 yJ9_floorDiv_7cf53 cJ9_floorDiv_7cf53 3 (some .int) 2 := ⟨aw_3_103, aw_3_104, aw_1_25, aw_3_105, by decide, by decide, by decide⟩
theorem ss_X3_69 : SS "Bandplan$Land" 69 yX3_rootOf cX3_rootOf 4 (some .int) 1 := ⟨aw_3_94, aw_3_95, aw_1_3, aw_3_96, by decide, by decide, by decide⟩
theorem sv_X3_72 : SV "Bandplan$Land" 72 yX3_blocksBetween cX3_blocksBetween 13 (some .int) 2 := ⟨aw_3_97, aw_3_99, aw_p_9, aw_1_3, aw_3_100, by decide, by decide, by decide⟩
theorem fl_X3_12 : FLD "Bandplan$Land" 12 3 0 (.object "java/util/ArrayList") := ⟨RX3, TX3, 3, "Bandplan$Land", rfl, by decide, aw_1_94, lay_X3, ⟨tyX3, tyX3_ok, rfl⟩, nmX3, rfl⟩
theorem sv_X3_44 : SV "Bandplan$Land" 44 yJx4a65c_size_8abf5 cJx4a65c_size_8abf5 1 (some .int) 0 := ⟨aw_3_87, aw_2_82, aw_2_83, aw_1_6, aw_2_84, by decide, by decide, by decide⟩
theorem sv_X3_52 : SV "Bandplan$Land" 52 yJx4a65c_get_915e3 cJx4a65c_get_915e3 2 (some (.object "java/lang/Object")) 1 := ⟨aw_3_88, aw_2_86, aw_2_87, aw_1_6, aw_2_88, by decide, by decide, by decide⟩
theorem sv_X3_58 : SV "Bandplan$Land" 58 yX3_measure cX3_measure 6 (some .int) 2 := ⟨aw_3_90, aw_3_92, aw_p_8, aw_1_3, aw_3_93, by decide, by decide, by decide⟩
theorem sv_X3_34 : SV "Bandplan$Land" 34 yX7_put cX7_put 3 none 2 := ⟨aw_3_79, aw_3_80, aw_3_81, aw_1_7, aw_3_82, by decide, by decide, by decide⟩
theorem sv_X3_37 : SV "Bandplan$Land" 37 yX3_measureAll cX3_measureAll 4 none 0 := ⟨aw_3_83, aw_3_85, aw_p_7, aw_1_3, aw_3_86, by decide, by decide, by decide⟩
theorem so_X4_3 : SO "Bandplan$Moving" 3 := ⟨aw_2_19, aw_1_43, aw_1_44⟩
theorem no_X4_9 : NO "Bandplan$Moving" 9 7 1 [.null] := ⟨RX7, TX7, rfl, aw_2_20, aw_1_84, aw_1_7, lay_X7, tyX7, tyX7_ok, fun j hj => by
  match j, hj with
  | 0, _ => rfl
  | j + 1, hj => exact absurd hj (by omega)⟩
theorem si_X4_11 : SI "Bandplan$Moving" 11 yX7_init cX7_init 4 2 := ⟨aw_2_21, aw_1_86, rfl, aw_1_7, aw_1_87, by decide, by decide, by decide⟩
theorem lay_X4 : ∀ w ∈ u_ws RX4 TX4 4, w ∈ AW := by
  intro w hw
  obtain ⟨k, hk, rfl⟩ := List.mem_map.mp hw
  have hk := List.mem_range.mp hk
  match k, hk with
  | 0, _ => exact aw_2_29
  | 1, _ => exact aw_2_31
  | 2, _ => exact aw_2_33
  | 3, _ => exact aw_2_35
  | k + 4, hk => exact absurd hk (by omega)
theorem fl_X4_14 : FLD "Bandplan$Moving" 14 4 0 (.object "Bandplan$Row") := ⟨RX4, TX4, 4, "Bandplan$Moving", rfl, by decide, aw_2_22, lay_X4, ⟨tyX4, tyX4_ok, rfl⟩, nmX4, rfl⟩
theorem fin_X4_0 : ∀ C T N, mcl[4]? = some (C, T, N) → (T 0).2.2.2 = true ∧ (T 0).1 = "Bandplan$Moving" := by
  intro C T N hc
  cases (show some (RX4, TX4, 4) = some (C, T, N) from hc)
  exact ⟨rfl, rfl⟩
theorem fl_X4_20 : FLD "Bandplan$Moving" 20 4 1 .boolean := ⟨RX4, TX4, 4, "Bandplan$Moving", rfl, by decide, aw_2_24, lay_X4, ⟨tyX4, tyX4_ok, rfl⟩, nmX4, rfl⟩
theorem fin_X4_1 : ∀ C T N, mcl[4]? = some (C, T, N) → (T 1).2.2.2 = false ∧ (T 1).1 = "Bandplan$Moving" := by
  intro C T N hc
  cases (show some (RX4, TX4, 4) = some (C, T, N) from hc)
  exact ⟨rfl, rfl⟩
theorem fl_X4_24 : FLD "Bandplan$Moving" 24 4 2 .int := ⟨RX4, TX4, 4, "Bandplan$Moving", rfl, by decide, aw_2_26, lay_X4, ⟨tyX4, tyX4_ok, rfl⟩, nmX4, rfl⟩
theorem fin_X4_2 : ∀ C T N, mcl[4]? = some (C, T, N) → (T 2).2.2.2 = false ∧ (T 2).1 = "Bandplan$Moving" := by
  intro C T N hc
  cases (show some (RX4, TX4, 4) = some (C, T, N) from hc)
  exact ⟨rfl, rfl⟩
theorem fl_X4_28 : FLD "Bandplan$Moving" 28 4 3 .int := ⟨RX4, TX4, 4, "Bandplan$Moving", rfl, by decide, aw_2_28, lay_X4, ⟨tyX4, tyX4_ok, rfl⟩, nmX4, rfl⟩
theorem fin_X4_3 : ∀ C T N, mcl[4]? = some (C, T, N) → (T 3).2.2.2 = false ∧ (T 3).1 = "Bandplan$Moving" := by
  intro C T N hc
  cases (show some (RX4, TX4, 4) = some (C, T, N) from hc)
  exact ⟨rfl, rfl⟩
theorem sv_X4_31 : SV "Bandplan$Moving" 31 yX7_fillWith cX7_fillWith 3 none 1 := ⟨aw_5_185, aw_5_10, aw_5_11, aw_1_7, aw_5_12, by decide, by decide, by decide⟩
theorem ssn_X4_35 : SSN "Bandplan$Moving" 35 yX11_isIn "Bandplan" cX11_isIn 2 (some .boolean) 2 := ⟨List.mem_filter.mpr ⟨nw_5_186, rfl⟩, aw_5_33, aw_1_1, aw_5_34, by decide, by decide, by decide⟩
theorem lay_X6 : ∀ w ∈ u_ws RX6 TX6 5, w ∈ AW := by
  intro w hw
  obtain ⟨k, hk, rfl⟩ := List.mem_map.mp hw
  have hk := List.mem_range.mp hk
  match k, hk with
  | 0, _ => exact aw_1_140
  | 1, _ => exact aw_1_142
  | 2, _ => exact aw_1_144
  | 3, _ => exact aw_1_146
  | 4, _ => exact aw_1_148
  | k + 5, hk => exact absurd hk (by omega)
theorem fl_X4_39 : FLD "Bandplan$Moving" 39 6 0 (.object "Bandplan$Row") := ⟨RX6, TX6, 5, "Bandplan$Register", rfl, by decide, aw_1_133, lay_X6, ⟨tyX6, tyX6_ok, rfl⟩, nmX6, rfl⟩
theorem fin_X6_0 : ∀ C T N, mcl[6]? = some (C, T, N) → (T 0).2.2.2 = true ∧ (T 0).1 = "Bandplan$Register" := by
  intro C T N hc
  cases (show some (RX6, TX6, 5) = some (C, T, N) from hc)
  exact ⟨rfl, rfl⟩
theorem sv_X4_44 : SV "Bandplan$Moving" 44 yX7_at cX7_at 2 (some .int) 1 := ⟨aw_5_187, aw_2_101, aw_2_102, aw_1_7, aw_2_103, by decide, by decide, by decide⟩
theorem lay_X5 : ∀ w ∈ u_ws RX5 TX5 5, w ∈ AW := by
  intro w hw
  obtain ⟨k, hk, rfl⟩ := List.mem_map.mp hw
  have hk := List.mem_range.mp hk
  match k, hk with
  | 0, _ => exact aw_1_184
  | 1, _ => exact aw_1_186
  | 2, _ => exact aw_1_188
  | 3, _ => exact aw_1_190
  | 4, _ => exact aw_1_192
  | k + 5, hk => exact absurd hk (by omega)
theorem fl_X4_48 : FLD "Bandplan$Moving" 48 5 0 (.object "Bandplan$Row") := ⟨RX5, TX5, 5, "Bandplan$Packer", rfl, by decide, aw_1_178, lay_X5, ⟨tyX5, tyX5_ok, rfl⟩, nmX5, rfl⟩
theorem fin_X5_0 : ∀ C T N, mcl[5]? = some (C, T, N) → (T 0).2.2.2 = true ∧ (T 0).1 = "Bandplan$Packer" := by
  intro C T N hc
  cases (show some (RX5, TX5, 5) = some (C, T, N) from hc)
  exact ⟨rfl, rfl⟩
theorem sv_X4_53 : SV "Bandplan$Moving" 53 yX7_put cX7_put 3 none 2 := ⟨aw_5_188, aw_3_80, aw_3_81, aw_1_7, aw_3_82, by decide, by decide, by decide⟩
theorem sm_X5_59 : SM "Bandplan$Packer" 59 Lib.Math.abs.name Lib.Math.abs.code 1 := ⟨aw_5_44, aw_2_114, aw_1_25, aw_2_115⟩
theorem fl_X5_20 : FLD "Bandplan$Packer" 20 5 1 (.object "Bandplan$Row") := ⟨RX5, TX5, 5, "Bandplan$Packer", rfl, by decide, aw_1_180, lay_X5, ⟨tyX5, tyX5_ok, rfl⟩, nmX5, rfl⟩
theorem fin_X5_1 : ∀ C T N, mcl[5]? = some (C, T, N) → (T 1).2.2.2 = true ∧ (T 1).1 = "Bandplan$Packer" := by
  intro C T N hc
  cases (show some (RX5, TX5, 5) = some (C, T, N) from hc)
  exact ⟨rfl, rfl⟩
theorem sv_X5_65 : SV "Bandplan$Packer" 65 yX7_at cX7_at 2 (some .int) 1 := ⟨aw_5_39, aw_2_101, aw_2_102, aw_1_7, aw_2_103, by decide, by decide, by decide⟩
theorem fl_X4_67 : FLD "Bandplan$Moving" 67 0 1 (.object "java/util/ArrayList") := ⟨RX0, TX0, 3, "Bandplan$Air", rfl, by decide, aw_1_113, lay_X0, ⟨tyX0, tyX0_ok, rfl⟩, nmX0, rfl⟩
theorem sv_X4_73 : SV "Bandplan$Moving" 73 yJx4a65c_size_8abf5 cJx4a65c_size_8abf5 1 (some .int) 0 := ⟨aw_5_197, aw_2_82, aw_2_83, aw_1_6, aw_2_84, by decide, by decide, by decide⟩
theorem sv_X4_87 : SV "Bandplan$Moving" 87 yJx4a65c_get_915e3 cJx4a65c_get_915e3 2 (some (.object "java/lang/Object")) 1 := ⟨aw_5_201, aw_2_86, aw_2_87, aw_1_6, aw_2_88, by decide, by decide, by decide⟩
theorem fl_X4_93 : FLD "Bandplan$Moving" 93 10 4 .boolean := ⟨RX10, TX10, 6, "Bandplan$Station", rfl, by decide, aw_4_6, lay_X10, ⟨tyX10, tyX10_ok, rfl⟩, nmX10, rfl⟩
theorem sv_X4_96 : SV "Bandplan$Moving" 96 yX5_areTooNear cX5_areTooNear 5 (some .boolean) 4 := ⟨aw_5_203, aw_5_41, aw_5_42, aw_1_10, aw_5_43, by decide, by decide, by decide⟩
theorem fl_X6_20 : FLD "Bandplan$Register" 20 6 2 (.object "Bandplan$Row") := ⟨RX6, TX6, 5, "Bandplan$Register", rfl, by decide, aw_1_137, lay_X6, ⟨tyX6, tyX6_ok, rfl⟩, nmX6, rfl⟩
theorem fin_X6_2 : ∀ C T N, mcl[6]? = some (C, T, N) → (T 2).2.2.2 = true ∧ (T 2).1 = "Bandplan$Register" := by
  intro C T N hc
  cases (show some (RX6, TX6, 5) = some (C, T, N) from hc)
  exact ⟨rfl, rfl⟩
theorem sv_X6_29 : SV "Bandplan$Register" 29 yX7_at cX7_at 2 (some .int) 1 := ⟨aw_2_143, aw_2_101, aw_2_102, aw_1_7, aw_2_103, by decide, by decide, by decide⟩
theorem fl_X6_23 : FLD "Bandplan$Register" 23 6 3 (.object "Bandplan$Row") := ⟨RX6, TX6, 5, "Bandplan$Register", rfl, by decide, aw_1_138, lay_X6, ⟨tyX6, tyX6_ok, rfl⟩, nmX6, rfl⟩
theorem fin_X6_3 : ∀ C T N, mcl[6]? = some (C, T, N) → (T 3).2.2.2 = true ∧ (T 3).1 = "Bandplan$Register" := by
  intro C T N hc
  cases (show some (RX6, TX6, 5) = some (C, T, N) from hc)
  exact ⟨rfl, rfl⟩
theorem ss_X6_39 : SS "Bandplan$Register" 39 yX6_lineOf cX6_lineOf 2 (some .int) 2 := ⟨aw_2_144, aw_2_145, aw_1_8, aw_2_146, by decide, by decide, by decide⟩
theorem fl_X6_43 : FLD "Bandplan$Register" 43 6 1 .int := ⟨RX6, TX6, 5, "Bandplan$Register", rfl, by decide, aw_1_135, lay_X6, ⟨tyX6, tyX6_ok, rfl⟩, nmX6, rfl⟩
theorem fin_X6_1 : ∀ C T N, mcl[6]? = some (C, T, N) → (T 1).2.2.2 = false ∧ (T 1).1 = "Bandplan$Register" := by
  intro C T N hc
  cases (show some (RX6, TX6, 5) = some (C, T, N) from hc)
  exact ⟨rfl, rfl⟩
theorem sv_X6_33 : SV "Bandplan$Register" 33 yX7_put cX7_put 3 none 2 := ⟨aw_4_168, aw_3_80, aw_3_81, aw_1_7, aw_3_82, by decide, by decide, by decide⟩
theorem fl_X6_26 : FLD "Bandplan$Register" 26 6 4 (.object "Bandplan$Row") := ⟨RX6, TX6, 5, "Bandplan$Register", rfl, by decide, aw_1_139, lay_X6, ⟨tyX6, tyX6_ok, rfl⟩, nmX6, rfl⟩
theorem fin_X6_4 : ∀ C T N, mcl[6]? = some (C, T, N) → (T 4).2.2.2 = true ∧ (T 4).1 = "Bandplan$Register" := by
  intro C T N hc
  cases (show some (RX6, TX6, 5) = some (C, T, N) from hc)
  exact ⟨rfl, rfl⟩
theorem fl_X6_14 : FLD "Bandplan$Register" 14 6 0 (.object "Bandplan$Row") := ⟨RX6, TX6, 5, "Bandplan$Register", rfl, by decide, aw_1_132, lay_X6, ⟨tyX6, tyX6_ok, rfl⟩, nmX6, rfl⟩
theorem sv_X6_36 : SV "Bandplan$Register" 36 yX6_write cX6_write 5 none 2 := ⟨aw_4_169, aw_4_171, aw_p_20, aw_1_8, aw_4_172, by decide, by decide, by decide⟩
theorem sv_X4_64 : SV "Bandplan$Moving" 64 yX6_change cX6_change 3 none 2 := ⟨aw_5_204, aw_4_165, aw_4_166, aw_1_8, aw_4_167, by decide, by decide, by decide⟩
theorem ss_X4_79 : SS "Bandplan$Moving" 79 yX4_isFree cX4_isFree 7 (some .boolean) 4 := ⟨aw_5_198, aw_5_199, aw_1_13, aw_5_200, by decide, by decide, by decide⟩
theorem ss_X4_83 : SS "Bandplan$Moving" 83 yX4_silenceSecondariesNear cX4_silenceSecondariesNear 7 none 4 := ⟨aw_5_205, aw_5_206, aw_1_13, aw_5_207, by decide, by decide, by decide⟩
theorem sv_X4_56 : SV "Bandplan$Moving" 56 yX4_holdPhase cX4_holdPhase 8 (some .boolean) 5 := ⟨aw_5_193, aw_5_195, aw_p_28, aw_1_13, aw_5_196, by decide, by decide, by decide⟩
theorem sv_X4_60 : SV "Bandplan$Moving" 60 yX4_lowestWaitingOn cX4_lowestWaitingOn 3 (some .int) 1 := ⟨aw_5_208, aw_5_210, aw_p_29, aw_1_13, aw_5_211, by decide, by decide, by decide⟩
theorem so_X5_3 : SO "Bandplan$Packer" 3 := ⟨aw_1_174, aw_1_43, aw_1_44⟩
theorem no_X5_9 : NO "Bandplan$Packer" 9 7 1 [.null] := ⟨RX7, TX7, rfl, aw_1_175, aw_1_84, aw_1_7, lay_X7, tyX7, tyX7_ok, fun j hj => by
  match j, hj with
  | 0, _ => rfl
  | j + 1, hj => exact absurd hj (by omega)⟩
theorem si_X5_11 : SI "Bandplan$Packer" 11 yX7_init cX7_init 4 2 := ⟨aw_1_176, aw_1_86, rfl, aw_1_7, aw_1_87, by decide, by decide, by decide⟩
theorem fl_X5_14 : FLD "Bandplan$Packer" 14 5 0 (.object "Bandplan$Row") := ⟨RX5, TX5, 5, "Bandplan$Packer", rfl, by decide, aw_1_177, lay_X5, ⟨tyX5, tyX5_ok, rfl⟩, nmX5, rfl⟩
theorem fl_X5_23 : FLD "Bandplan$Packer" 23 5 2 (.object "Bandplan$Row") := ⟨RX5, TX5, 5, "Bandplan$Packer", rfl, by decide, aw_1_181, lay_X5, ⟨tyX5, tyX5_ok, rfl⟩, nmX5, rfl⟩
theorem fin_X5_2 : ∀ C T N, mcl[5]? = some (C, T, N) → (T 2).2.2.2 = true ∧ (T 2).1 = "Bandplan$Packer" := by
  intro C T N hc
  cases (show some (RX5, TX5, 5) = some (C, T, N) from hc)
  exact ⟨rfl, rfl⟩
theorem sv_X5_91 : SV "Bandplan$Packer" 91 yX0_barEachOther cX0_barEachOther 4 (some .boolean) 3 := ⟨aw_5_19, aw_4_116, aw_4_117, aw_1_2, aw_4_118, by decide, by decide, by decide⟩
theorem fl_X5_26 : FLD "Bandplan$Packer" 26 5 3 .int := ⟨RX5, TX5, 5, "Bandplan$Packer", rfl, by decide, aw_1_182, lay_X5, ⟨tyX5, tyX5_ok, rfl⟩, nmX5, rfl⟩
theorem fin_X5_3 : ∀ C T N, mcl[5]? = some (C, T, N) → (T 3).2.2.2 = false ∧ (T 3).1 = "Bandplan$Packer" := by
  intro C T N hc
  cases (show some (RX5, TX5, 5) = some (C, T, N) from hc)
  exact ⟨rfl, rfl⟩
theorem sv_X5_30 : SV "Bandplan$Packer" 30 yX7_fillWith cX7_fillWith 3 none 1 := ⟨aw_5_9, aw_5_10, aw_5_11, aw_1_7, aw_5_12, by decide, by decide, by decide⟩
theorem fl_X5_34 : FLD "Bandplan$Packer" 34 0 1 (.object "java/util/ArrayList") := ⟨RX0, TX0, 3, "Bandplan$Air", rfl, by decide, aw_1_111, lay_X0, ⟨tyX0, tyX0_ok, rfl⟩, nmX0, rfl⟩
theorem sv_X5_40 : SV "Bandplan$Packer" 40 yJx4a65c_size_8abf5 cJx4a65c_size_8abf5 1 (some .int) 0 := ⟨aw_5_13, aw_2_82, aw_2_83, aw_1_6, aw_2_84, by decide, by decide, by decide⟩
theorem sv_X5_46 : SV "Bandplan$Packer" 46 yJx4a65c_get_915e3 cJx4a65c_get_915e3 2 (some (.object "java/lang/Object")) 1 := ⟨aw_5_14, aw_2_86, aw_2_87, aw_1_6, aw_2_88, by decide, by decide, by decide⟩
theorem ss_X5_52 : SS "Bandplan$Packer" 52 yX5_leastSpacing cX5_leastSpacing 4 (some .int) 3 := ⟨aw_5_16, aw_5_17, aw_1_10, aw_5_18, by decide, by decide, by decide⟩
theorem sv_X5_56 : SV "Bandplan$Packer" 56 yX7_put cX7_put 3 none 2 := ⟨aw_5_20, aw_3_80, aw_3_81, aw_1_7, aw_3_82, by decide, by decide, by decide⟩
theorem fl_X5_72 : FLD "Bandplan$Packer" 72 5 4 .int := ⟨RX5, TX5, 5, "Bandplan$Packer", rfl, by decide, aw_1_183, lay_X5, ⟨tyX5, tyX5_ok, rfl⟩, nmX5, rfl⟩
theorem fin_X5_4 : ∀ C T N, mcl[5]? = some (C, T, N) → (T 4).2.2.2 = false ∧ (T 4).1 = "Bandplan$Packer" := by
  intro C T N hc
  cases (show some (RX5, TX5, 5) = some (C, T, N) from hc)
  exact ⟨rfl, rfl⟩
theorem ssn_X5_79 : SSN "Bandplan$Packer" 79 yX11_isIn "Bandplan" cX11_isIn 2 (some .boolean) 2 := ⟨List.mem_filter.mpr ⟨nw_5_32, rfl⟩, aw_5_33, aw_1_1, aw_5_34, by decide, by decide, by decide⟩
theorem sv_X5_87 : SV "Bandplan$Packer" 87 yX5_areTooNear cX5_areTooNear 5 (some .boolean) 4 := ⟨aw_5_40, aw_5_41, aw_5_42, aw_1_10, aw_5_43, by decide, by decide, by decide⟩
theorem sv_X5_83 : SV "Bandplan$Packer" 83 yX5_lowerTooNear cX5_lowerTooNear 4 (some .int) 2 := ⟨aw_5_35, aw_5_37, aw_p_21, aw_1_10, aw_5_38, by decide, by decide, by decide⟩
theorem ss_X5_75 : SS "Bandplan$Packer" 75 yX5_place cX5_place 6 (some .int) 2 := ⟨aw_5_29, aw_5_30, aw_1_10, aw_5_31, by decide, by decide, by decide⟩
theorem sv_X5_68 : SV "Bandplan$Packer" 68 yX5_findFirst cX5_findFirst 2 (some .boolean) 1 := ⟨aw_5_77, aw_5_26, aw_5_27, aw_1_10, aw_5_28, by decide, by decide, by decide⟩
theorem so_X6_3 : SO "Bandplan$Register" 3 := ⟨aw_1_129, aw_1_43, aw_1_44⟩
theorem no_X6_9 : NO "Bandplan$Register" 9 7 1 [.null] := ⟨RX7, TX7, rfl, aw_1_130, aw_1_84, aw_1_7, lay_X7, tyX7, tyX7_ok, fun j hj => by
  match j, hj with
  | 0, _ => rfl
  | j + 1, hj => exact absurd hj (by omega)⟩
theorem si_X6_11 : SI "Bandplan$Register" 11 yX7_init cX7_init 4 2 := ⟨aw_1_131, aw_1_86, rfl, aw_1_7, aw_1_87, by decide, by decide, by decide⟩
theorem sv_X6_47 : SV "Bandplan$Register" 47 yX6_channelAt cX6_channelAt 4 (some .int) 2 := ⟨aw_2_139, aw_2_140, aw_2_141, aw_1_8, aw_2_142, by decide, by decide, by decide⟩
theorem sv_X7_13 : SV "Bandplan$Row" 13 yX7_at cX7_at 2 (some .int) 1 := ⟨aw_4_157, aw_2_101, aw_2_102, aw_1_7, aw_2_103, by decide, by decide, by decide⟩
theorem so_X8_3 : SO "Bandplan$Selling" 3 := ⟨aw_1_200, aw_1_43, aw_1_44⟩
theorem no_X8_9 : NO "Bandplan$Selling" 9 7 1 [.null] := ⟨RX7, TX7, rfl, aw_1_201, aw_1_84, aw_1_7, lay_X7, tyX7, tyX7_ok, fun j hj => by
  match j, hj with
  | 0, _ => rfl
  | j + 1, hj => exact absurd hj (by omega)⟩
theorem si_X8_11 : SI "Bandplan$Selling" 11 yX7_init cX7_init 4 2 := ⟨aw_1_202, aw_1_86, rfl, aw_1_7, aw_1_87, by decide, by decide, by decide⟩
theorem lay_X8 : ∀ w ∈ u_ws RX8 TX8 6, w ∈ AW := by
  intro w hw
  obtain ⟨k, hk, rfl⟩ := List.mem_map.mp hw
  have hk := List.mem_range.mp hk
  match k, hk with
  | 0, _ => exact aw_1_214
  | 1, _ => exact aw_1_216
  | 2, _ => exact aw_1_218
  | 3, _ => exact aw_1_220
  | 4, _ => exact aw_1_222
  | 5, _ => exact aw_1_224
  | k + 6, hk => exact absurd hk (by omega)
theorem fl_X8_14 : FLD "Bandplan$Selling" 14 8 0 (.object "Bandplan$Row") := ⟨RX8, TX8, 6, "Bandplan$Selling", rfl, by decide, aw_1_203, lay_X8, ⟨tyX8, tyX8_ok, rfl⟩, nmX8, rfl⟩
theorem fin_X8_0 : ∀ C T N, mcl[8]? = some (C, T, N) → (T 0).2.2.2 = true ∧ (T 0).1 = "Bandplan$Selling" := by
  intro C T N hc
  cases (show some (RX8, TX8, 6) = some (C, T, N) from hc)
  exact ⟨rfl, rfl⟩
theorem fl_X8_20 : FLD "Bandplan$Selling" 20 8 5 (.object "Bandplan$Row") := ⟨RX8, TX8, 6, "Bandplan$Selling", rfl, by decide, aw_1_213, lay_X8, ⟨tyX8, tyX8_ok, rfl⟩, nmX8, rfl⟩
theorem fin_X8_5 : ∀ C T N, mcl[8]? = some (C, T, N) → (T 5).2.2.2 = true ∧ (T 5).1 = "Bandplan$Selling" := by
  intro C T N hc
  cases (show some (RX8, TX8, 6) = some (C, T, N) from hc)
  exact ⟨rfl, rfl⟩
theorem fl_X8_23 : FLD "Bandplan$Selling" 23 8 2 .int := ⟨RX8, TX8, 6, "Bandplan$Selling", rfl, by decide, aw_1_207, lay_X8, ⟨tyX8, tyX8_ok, rfl⟩, nmX8, rfl⟩
theorem fin_X8_2 : ∀ C T N, mcl[8]? = some (C, T, N) → (T 2).2.2.2 = false ∧ (T 2).1 = "Bandplan$Selling" := by
  intro C T N hc
  cases (show some (RX8, TX8, 6) = some (C, T, N) from hc)
  exact ⟨rfl, rfl⟩
theorem fl_X8_27 : FLD "Bandplan$Selling" 27 8 1 .boolean := ⟨RX8, TX8, 6, "Bandplan$Selling", rfl, by decide, aw_1_205, lay_X8, ⟨tyX8, tyX8_ok, rfl⟩, nmX8, rfl⟩
theorem fin_X8_1 : ∀ C T N, mcl[8]? = some (C, T, N) → (T 1).2.2.2 = false ∧ (T 1).1 = "Bandplan$Selling" := by
  intro C T N hc
  cases (show some (RX8, TX8, 6) = some (C, T, N) from hc)
  exact ⟨rfl, rfl⟩
theorem fl_X8_31 : FLD "Bandplan$Selling" 31 8 3 .int := ⟨RX8, TX8, 6, "Bandplan$Selling", rfl, by decide, aw_1_209, lay_X8, ⟨tyX8, tyX8_ok, rfl⟩, nmX8, rfl⟩
theorem fin_X8_3 : ∀ C T N, mcl[8]? = some (C, T, N) → (T 3).2.2.2 = false ∧ (T 3).1 = "Bandplan$Selling" := by
  intro C T N hc
  cases (show some (RX8, TX8, 6) = some (C, T, N) from hc)
  exact ⟨rfl, rfl⟩
theorem fl_X8_34 : FLD "Bandplan$Selling" 34 8 4 .int := ⟨RX8, TX8, 6, "Bandplan$Selling", rfl, by decide, aw_1_211, lay_X8, ⟨tyX8, tyX8_ok, rfl⟩, nmX8, rfl⟩
theorem fin_X8_4 : ∀ C T N, mcl[8]? = some (C, T, N) → (T 4).2.2.2 = false ∧ (T 4).1 = "Bandplan$Selling" := by
  intro C T N hc
  cases (show some (RX8, TX8, 6) = some (C, T, N) from hc)
  exact ⟨rfl, rfl⟩
theorem sv_X8_37 : SV "Bandplan$Selling" 37 yX7_fillWith cX7_fillWith 3 none 1 := ⟨aw_5_83, aw_5_10, aw_5_11, aw_1_7, aw_5_12, by decide, by decide, by decide⟩
theorem fl_X8_84 : FLD "Bandplan$Selling" 84 10 0 .int := ⟨RX10, TX10, 6, "Bandplan$Station", rfl, by decide, aw_3_236, lay_X10, ⟨tyX10, tyX10_ok, rfl⟩, nmX10, rfl⟩
theorem sv_X8_87 : SV "Bandplan$Selling" 87 yX7_put cX7_put 3 none 2 := ⟨aw_5_101, aw_3_80, aw_3_81, aw_1_7, aw_3_82, by decide, by decide, by decide⟩
theorem fl_X8_81 : FLD "Bandplan$Selling" 81 10 5 .int := ⟨RX10, TX10, 6, "Bandplan$Station", rfl, by decide, aw_4_8, lay_X10, ⟨tyX10, tyX10_ok, rfl⟩, nmX10, rfl⟩
theorem fl_X8_45 : FLD "Bandplan$Selling" 45 0 1 (.object "java/util/ArrayList") := ⟨RX0, TX0, 3, "Bandplan$Air", rfl, by decide, aw_1_112, lay_X0, ⟨tyX0, tyX0_ok, rfl⟩, nmX0, rfl⟩
theorem sv_X8_51 : SV "Bandplan$Selling" 51 yJx4a65c_size_8abf5 cJx4a65c_size_8abf5 1 (some .int) 0 := ⟨aw_5_92, aw_2_82, aw_2_83, aw_1_6, aw_2_84, by decide, by decide, by decide⟩
theorem ssn_X8_57 : SSN "Bandplan$Selling" 57 yX11_isIn "Bandplan" cX11_isIn 2 (some .boolean) 2 := ⟨List.mem_filter.mpr ⟨nw_5_93, rfl⟩, aw_5_33, aw_1_1, aw_5_34, by decide, by decide, by decide⟩
theorem sv_X8_61 : SV "Bandplan$Selling" 61 yJx4a65c_get_915e3 cJx4a65c_get_915e3 2 (some (.object "java/lang/Object")) 1 := ⟨aw_5_94, aw_2_86, aw_2_87, aw_1_6, aw_2_88, by decide, by decide, by decide⟩
theorem sv_X8_75 : SV "Bandplan$Selling" 75 yX5_fits cX5_fits 2 (some .boolean) 1 := ⟨aw_5_96, aw_5_74, aw_5_75, aw_1_10, aw_5_76, by decide, by decide, by decide⟩
theorem sv_X8_67 : SV "Bandplan$Selling" 67 yX8_take cX8_take 3 none 2 := ⟨aw_5_97, aw_5_99, aw_p_23, aw_1_11, aw_5_100, by decide, by decide, by decide⟩
theorem sv_X8_41 : SV "Bandplan$Selling" 41 yX8_holdRound cX8_holdRound 10 (some .int) 5 := ⟨aw_5_88, aw_5_90, aw_p_22, aw_1_11, aw_5_91, by decide, by decide, by decide⟩
theorem sv_X8_71 : SV "Bandplan$Selling" 71 yX7_at cX7_at 2 (some .int) 1 := ⟨aw_2_160, aw_2_101, aw_2_102, aw_1_7, aw_2_103, by decide, by decide, by decide⟩
theorem so_X9_1 : SO "Bandplan$Site" 1 := ⟨aw_3_120, aw_1_43, aw_1_44⟩
theorem fl_X9_7 : FLD "Bandplan$Site" 7 9 0 .int := ⟨RX9, TX9, 3, "Bandplan$Site", rfl, by decide, aw_3_121, lay_X9, ⟨tyX9, tyX9_ok, rfl⟩, nmX9, rfl⟩
theorem fl_X9_13 : FLD "Bandplan$Site" 13 9 1 .int := ⟨RX9, TX9, 3, "Bandplan$Site", rfl, by decide, aw_3_124, lay_X9, ⟨tyX9, tyX9_ok, rfl⟩, nmX9, rfl⟩
theorem fl_X9_16 : FLD "Bandplan$Site" 16 9 2 .int := ⟨RX9, TX9, 3, "Bandplan$Site", rfl, by decide, aw_3_126, lay_X9, ⟨tyX9, tyX9_ok, rfl⟩, nmX9, rfl⟩
theorem so_X10_1 : SO "Bandplan$Station" 1 := ⟨aw_3_233, aw_1_43, aw_1_44⟩
theorem fl_X10_7 : FLD "Bandplan$Station" 7 10 0 .int := ⟨RX10, TX10, 6, "Bandplan$Station", rfl, by decide, aw_3_234, lay_X10, ⟨tyX10, tyX10_ok, rfl⟩, nmX10, rfl⟩
theorem fl_X10_13 : FLD "Bandplan$Station" 13 10 1 .int := ⟨RX10, TX10, 6, "Bandplan$Station", rfl, by decide, aw_3_238, lay_X10, ⟨tyX10, tyX10_ok, rfl⟩, nmX10, rfl⟩
theorem fl_X10_16 : FLD "Bandplan$Station" 16 10 2 .int := ⟨RX10, TX10, 6, "Bandplan$Station", rfl, by decide, aw_4_0, lay_X10, ⟨tyX10, tyX10_ok, rfl⟩, nmX10, rfl⟩
theorem fl_X10_19 : FLD "Bandplan$Station" 19 10 3 .int := ⟨RX10, TX10, 6, "Bandplan$Station", rfl, by decide, aw_4_2, lay_X10, ⟨tyX10, tyX10_ok, rfl⟩, nmX10, rfl⟩
theorem fl_X10_22 : FLD "Bandplan$Station" 22 10 4 .boolean := ⟨RX10, TX10, 6, "Bandplan$Station", rfl, by decide, aw_4_4, lay_X10, ⟨tyX10, tyX10_ok, rfl⟩, nmX10, rfl⟩
theorem th_IndexOutOfBoundsException_380g : ∀ w ∈ (vx_atS "Bandplan" 380 "java/lang/IndexOutOfBoundsException" exn).filter goodWord, w ∈ lw_tbl := by decide +kernel
theorem th_IndexOutOfBoundsException_380n : ∀ w ∈ (vx_atS "Bandplan" 380 "java/lang/IndexOutOfBoundsException" exn).filter (fun w => !goodWord w), w ∈ NW := by decide +kernel
theorem th_376_378 : TH "Bandplan" 376 378 380 "java/lang/IndexOutOfBoundsException" "no such cell" := ⟨aw_3_14, aw_1_18, by decide, fun w hw => List.mem_filter.mpr ⟨th_IndexOutOfBoundsException_380g w hw, (List.mem_filter.mp hw).2⟩, th_IndexOutOfBoundsException_380n, by decide +kernel, by decide, by decide⟩
theorem th_IllegalArgumentException_124g : ∀ w ∈ (vx_atS "Bandplan" 124 "java/lang/IllegalArgumentException" exn).filter goodWord, w ∈ lw_tbl := by decide +kernel
theorem th_IllegalArgumentException_124n : ∀ w ∈ (vx_atS "Bandplan" 124 "java/lang/IllegalArgumentException" exn).filter (fun w => !goodWord w), w ∈ NW := by decide +kernel
theorem th_120_385 : TH "Bandplan" 120 385 124 "java/lang/IllegalArgumentException" "out of range" := ⟨aw_3_31, aw_1_21, by decide, fun w hw => List.mem_filter.mpr ⟨th_IllegalArgumentException_124g w hw, (List.mem_filter.mp hw).2⟩, th_IllegalArgumentException_124n, by decide +kernel, by decide, by decide⟩
theorem lay_X11 : ∀ w ∈ u_ws RX11 TX11 8, w ∈ AW := by
  intro w hw
  obtain ⟨k, hk, rfl⟩ := List.mem_map.mp hw
  have hk := List.mem_range.mp hk
  match k, hk with
  | 0, _ => exact aw_2_48
  | 1, _ => exact aw_2_50
  | 2, _ => exact aw_2_52
  | 3, _ => exact aw_2_54
  | 4, _ => exact aw_2_56
  | 5, _ => exact aw_2_58
  | 6, _ => exact aw_2_60
  | 7, _ => exact aw_2_62
  | k + 8, hk => exact absurd hk (by omega)
theorem fl_X11_19 : FLD "Bandplan" 19 11 1 (.object "Bandplan$Register") := ⟨RX11, TX11, 8, "Bandplan", rfl, by decide, aw_2_41, lay_X11, ⟨tyX11, tyX11_ok, rfl⟩, nmX11, rfl⟩
theorem fin_X11_1 : ∀ C T N, mcl[11]? = some (C, T, N) → (T 1).2.2.2 = true ∧ (T 1).1 = "Bandplan" := by
  intro C T N hc
  cases (show some (RX11, TX11, 8) = some (C, T, N) from hc)
  exact ⟨rfl, rfl⟩
theorem sv_X11_274 : SV "Bandplan" 274 yX6_onesOn cX6_onesOn 3 (some .int) 0 := ⟨aw_3_51, aw_3_52, aw_3_53, aw_1_8, aw_3_54, by decide, by decide, by decide⟩
theorem th_IllegalStateException_101g : ∀ w ∈ (vx_atS "Bandplan" 101 "java/lang/IllegalStateException" exn).filter goodWord, w ∈ lw_tbl := by decide +kernel
theorem th_IllegalStateException_101n : ∀ w ∈ (vx_atS "Bandplan" 101 "java/lang/IllegalStateException" exn).filter (fun w => !goodWord w), w ∈ NW := by decide +kernel
theorem th_97_387 : TH "Bandplan" 97 387 101 "java/lang/IllegalStateException" "a station is on" := ⟨aw_3_55, aw_1_22, by decide, fun w hw => List.mem_filter.mpr ⟨th_IllegalStateException_101g w hw, (List.mem_filter.mp hw).2⟩, th_IllegalStateException_101n, by decide +kernel, by decide, by decide⟩
theorem sv_X11_67 : SV "Bandplan" 67 yX11_needCell cX11_needCell 3 none 2 := ⟨aw_3_10, aw_3_12, aw_p_3, aw_1_1, aw_3_13, by decide, by decide, by decide⟩
theorem sv_X11_70 : SV "Bandplan" 70 yX11_needRange cX11_needRange 4 none 3 := ⟨aw_3_27, aw_3_29, aw_p_4, aw_1_1, aw_3_30, by decide, by decide, by decide⟩
theorem sv_X11_74 : SV "Bandplan" 74 yX11_needSilence cX11_needSilence 1 none 0 := ⟨aw_3_47, aw_3_49, aw_p_5, aw_1_1, aw_3_50, by decide, by decide, by decide⟩
theorem fl_X11_10 : FLD "Bandplan" 10 11 0 (.object "Bandplan$Air") := ⟨RX11, TX11, 8, "Bandplan", rfl, by decide, aw_2_40, lay_X11, ⟨tyX11, tyX11_ok, rfl⟩, nmX11, rfl⟩
theorem fin_X11_0 : ∀ C T N, mcl[11]? = some (C, T, N) → (T 0).2.2.2 = true ∧ (T 0).1 = "Bandplan" := by
  intro C T N hc
  cases (show some (RX11, TX11, 8) = some (C, T, N) from hc)
  exact ⟨rfl, rfl⟩
theorem fl_X11_77 : FLD "Bandplan" 77 0 0 (.object "Bandplan$Land") := ⟨RX0, TX0, 3, "Bandplan$Air", rfl, by decide, aw_1_109, lay_X0, ⟨tyX0, tyX0_ok, rfl⟩, nmX0, rfl⟩
theorem sv_X11_81 : SV "Bandplan" 81 yX3_changeGround cX3_changeGround 5 (some .int) 3 := ⟨aw_3_71, aw_3_72, aw_3_73, aw_1_3, aw_3_74, by decide, by decide, by decide⟩
theorem th_376_381 : TH "Bandplan" 376 381 380 "java/lang/IndexOutOfBoundsException" "no such site" := ⟨aw_3_14, aw_1_18, by decide, fun w hw => List.mem_filter.mpr ⟨th_IndexOutOfBoundsException_380g w hw, (List.mem_filter.mp hw).2⟩, th_IndexOutOfBoundsException_380n, by decide +kernel, by decide, by decide⟩
theorem fl_X11_87 : FLD "Bandplan" 87 3 0 (.object "java/util/ArrayList") := ⟨RX3, TX3, 3, "Bandplan$Land", rfl, by decide, aw_1_95, lay_X3, ⟨tyX3, tyX3_ok, rfl⟩, nmX3, rfl⟩
theorem sv_X11_91 : SV "Bandplan" 91 yJx4a65c_size_8abf5 cJx4a65c_size_8abf5 1 (some .int) 0 := ⟨aw_3_113, aw_2_82, aw_2_83, aw_1_6, aw_2_84, by decide, by decide, by decide⟩
theorem sv_X11_112 : SV "Bandplan" 112 yX11_needSite cX11_needSite 2 none 1 := ⟨aw_3_213, aw_3_215, aw_p_13, aw_1_1, aw_3_216, by decide, by decide, by decide⟩
theorem sv_X11_116 : SV "Bandplan" 116 yX3_lossBetween cX3_lossBetween 3 (some .int) 2 := ⟨aw_3_218, aw_2_121, aw_2_122, aw_1_3, aw_2_123, by decide, by decide, by decide⟩
theorem fl_X11_139 : FLD "Bandplan" 139 0 2 .int := ⟨RX0, TX0, 3, "Bandplan$Air", rfl, by decide, aw_1_116, lay_X0, ⟨tyX0, tyX0_ok, rfl⟩, nmX0, rfl⟩
theorem th_376_389 : TH "Bandplan" 376 389 380 "java/lang/IndexOutOfBoundsException" "no such station" := ⟨aw_3_14, aw_1_18, by decide, fun w hw => List.mem_filter.mpr ⟨th_IndexOutOfBoundsException_380g w hw, (List.mem_filter.mp hw).2⟩, th_IndexOutOfBoundsException_380n, by decide +kernel, by decide, by decide⟩
theorem fl_X11_125 : FLD "Bandplan" 125 0 1 (.object "java/util/ArrayList") := ⟨RX0, TX0, 3, "Bandplan$Air", rfl, by decide, aw_1_114, lay_X0, ⟨tyX0, tyX0_ok, rfl⟩, nmX0, rfl⟩
theorem sv_X11_361 : SV "Bandplan" 361 yJx4a65c_get_915e3 cJx4a65c_get_915e3 2 (some (.object "java/lang/Object")) 1 := ⟨aw_4_44, aw_2_86, aw_2_87, aw_1_6, aw_2_88, by decide, by decide, by decide⟩
theorem sv_X11_143 : SV "Bandplan" 143 yX11_stationAt cX11_stationAt 2 (some (.object "Bandplan$Station")) 1 := ⟨aw_4_39, aw_4_41, aw_p_14, aw_1_1, aw_4_42, by decide, by decide, by decide⟩
theorem sv_X11_147 : SV "Bandplan" 147 yX0_levelOf cX0_levelOf 2 (some .int) 1 := ⟨aw_4_45, aw_2_132, aw_2_133, aw_1_2, aw_2_134, by decide, by decide, by decide⟩
theorem fl_X11_154 : FLD "Bandplan" 154 6 0 (.object "Bandplan$Row") := ⟨RX6, TX6, 5, "Bandplan$Register", rfl, by decide, aw_1_134, lay_X6, ⟨tyX6, tyX6_ok, rfl⟩, nmX6, rfl⟩
theorem sv_X11_226 : SV "Bandplan" 226 yX7_at cX7_at 2 (some .int) 1 := ⟨aw_4_59, aw_2_101, aw_2_102, aw_1_7, aw_2_103, by decide, by decide, by decide⟩
theorem th_UnsupportedOperationException_225g : ∀ w ∈ (vx_atS "Bandplan" 225 "java/lang/UnsupportedOperationException" exn).filter goodWord, w ∈ lw_tbl := by decide +kernel
theorem th_UnsupportedOperationException_225n : ∀ w ∈ (vx_atS "Bandplan" 225 "java/lang/UnsupportedOperationException" exn).filter (fun w => !goodWord w), w ∈ NW := by decide +kernel
theorem th_221_391 : TH "Bandplan" 221 391 225 "java/lang/UnsupportedOperationException" "it is off" := ⟨aw_4_60, aw_1_31, by decide, fun w hw => List.mem_filter.mpr ⟨th_UnsupportedOperationException_225g w hw, (List.mem_filter.mp hw).2⟩, th_UnsupportedOperationException_225n, by decide +kernel, by decide, by decide⟩
theorem sv_X11_151 : SV "Bandplan" 151 yX11_stationOnAir cX11_stationOnAir 3 (some (.object "Bandplan$Station")) 1 := ⟨aw_4_55, aw_4_57, aw_p_15, aw_1_1, aw_4_58, by decide, by decide, by decide⟩
theorem sv_X11_157 : SV "Bandplan" 157 yX0_allHarm cX0_allHarm 8 (some .int) 2 := ⟨aw_4_76, aw_2_109, aw_2_110, aw_1_2, aw_2_111, by decide, by decide, by decide⟩
theorem th_NoSuchElementException_166g : ∀ w ∈ (nsAt "Bandplan" 166 nsX 13 nsRx exn).filter goodWord, w ∈ lw_tbl := by decide +kernel
theorem th_NoSuchElementException_166n : ∀ w ∈ (nsAt "Bandplan" 166 nsX 13 nsRx exn).filter (fun w => !goodWord w), w ∈ NW := by decide +kernel
theorem th_162_164 : TN "Bandplan" 162 164 166 "nothing harms it" := ⟨aw_4_78, aw_1_32, by decide, fun w hw => List.mem_filter.mpr ⟨th_NoSuchElementException_166g w hw, (List.mem_filter.mp hw).2⟩, th_NoSuchElementException_166n, by decide +kernel, by decide, by decide⟩
theorem sv_X11_167 : SV "Bandplan" 167 yX0_keepsLevel cX0_keepsLevel 4 (some .boolean) 2 := ⟨aw_4_101, aw_2_105, aw_2_106, aw_1_2, aw_2_107, by decide, by decide, by decide⟩
theorem sv_X11_173 : SV "Bandplan" 173 yX11_needChannel cX11_needChannel 2 none 1 := ⟨aw_4_110, aw_4_112, aw_p_16, aw_1_1, aw_4_113, by decide, by decide, by decide⟩
theorem sm_X11_176 : SM "Bandplan" 176 Lib.Math.abs.name Lib.Math.abs.code 1 := ⟨aw_4_114, aw_2_114, aw_1_25, aw_2_115⟩
theorem sv_X11_182 : SV "Bandplan" 182 yX0_barEachOther cX0_barEachOther 4 (some .boolean) 3 := ⟨aw_4_115, aw_4_116, aw_4_117, aw_1_2, aw_4_118, by decide, by decide, by decide⟩
theorem th_120_171 : TH "Bandplan" 120 171 124 "java/lang/IllegalArgumentException" "one station for both" := ⟨aw_3_31, aw_1_21, by decide, fun w hw => List.mem_filter.mpr ⟨th_IllegalArgumentException_124g w hw, (List.mem_filter.mp hw).2⟩, th_IllegalArgumentException_124n, by decide +kernel, by decide, by decide⟩
theorem fl_X11_63 : FLD "Bandplan" 63 11 7 (.object "Bandplan$Row") := ⟨RX11, TX11, 8, "Bandplan", rfl, by decide, aw_2_47, lay_X11, ⟨tyX11, tyX11_ok, rfl⟩, nmX11, rfl⟩
theorem fin_X11_7 : ∀ C T N, mcl[11]? = some (C, T, N) → (T 7).2.2.2 = true ∧ (T 7).1 = "Bandplan" := by
  intro C T N hc
  cases (show some (RX11, TX11, 8) = some (C, T, N) from hc)
  exact ⟨rfl, rfl⟩
theorem fl_X11_232 : FLD "Bandplan" 232 10 0 .int := ⟨RX10, TX10, 6, "Bandplan$Station", rfl, by decide, aw_3_237, lay_X10, ⟨tyX10, tyX10_ok, rfl⟩, nmX10, rfl⟩
theorem fl_X11_210 : FLD "Bandplan" 210 10 4 .boolean := ⟨RX10, TX10, 6, "Bandplan$Station", rfl, by decide, aw_4_7, lay_X10, ⟨tyX10, tyX10_ok, rfl⟩, nmX10, rfl⟩
theorem sv_X11_207 : SV "Bandplan" 207 yX7_put cX7_put 3 none 2 := ⟨aw_4_158, aw_3_80, aw_3_81, aw_1_7, aw_3_82, by decide, by decide, by decide⟩
theorem fl_X11_26 : FLD "Bandplan" 26 11 2 (.object "Bandplan$Border") := ⟨RX11, TX11, 8, "Bandplan", rfl, by decide, aw_2_42, lay_X11, ⟨tyX11, tyX11_ok, rfl⟩, nmX11, rfl⟩
theorem fin_X11_2 : ∀ C T N, mcl[11]? = some (C, T, N) → (T 2).2.2.2 = true ∧ (T 2).1 = "Bandplan" := by
  intro C T N hc
  cases (show some (RX11, TX11, 8) = some (C, T, N) from hc)
  exact ⟨rfl, rfl⟩
theorem sv_X11_186 : SV "Bandplan" 186 yX1_isForeign cX1_isForeign 2 (some .boolean) 1 := ⟨aw_4_130, aw_4_131, aw_4_132, aw_1_9, aw_4_133, by decide, by decide, by decide⟩
theorem sv_X11_203 : SV "Bandplan" 203 yX7_copyFrom cX7_copyFrom 3 none 1 := ⟨aw_4_153, aw_4_154, aw_4_155, aw_1_7, aw_4_156, by decide, by decide, by decide⟩
theorem sv_X11_217 : SV "Bandplan" 217 yX0_allKeep cX0_allKeep 4 (some .boolean) 1 := ⟨aw_2_77, aw_2_78, aw_2_79, aw_1_2, aw_2_80, by decide, by decide, by decide⟩
theorem sv_X11_229 : SV "Bandplan" 229 yX6_change cX6_change 3 none 2 := ⟨aw_4_164, aw_4_165, aw_4_166, aw_1_8, aw_4_167, by decide, by decide, by decide⟩
theorem th_221_223 : TH "Bandplan" 221 223 225 "java/lang/UnsupportedOperationException" "a protected one would not keep its level" := ⟨aw_4_60, aw_1_31, by decide, fun w hw => List.mem_filter.mpr ⟨th_UnsupportedOperationException_225g w hw, (List.mem_filter.mp hw).2⟩, th_UnsupportedOperationException_225n, by decide +kernel, by decide, by decide⟩
theorem sv_X11_214 : SV "Bandplan" 214 yX11_silenceSecondaries cX11_silenceSecondaries 6 (some .int) 1 := ⟨aw_4_159, aw_4_161, aw_p_19, aw_1_1, aw_4_162, by decide, by decide, by decide⟩
theorem sv_X11_190 : SV "Bandplan" 190 yX0_isNearBorder cX0_isNearBorder 2 (some .boolean) 1 := ⟨aw_4_135, aw_4_136, aw_4_137, aw_1_2, aw_4_138, by decide, by decide, by decide⟩
theorem fl_X11_194 : FLD "Bandplan" 194 6 1 .int := ⟨RX6, TX6, 5, "Bandplan$Register", rfl, by decide, aw_1_136, lay_X6, ⟨tyX6, tyX6_ok, rfl⟩, nmX6, rfl⟩
theorem sv_X11_197 : SV "Bandplan" 197 yX1_yesCounts cX1_yesCounts 4 (some .boolean) 3 := ⟨aw_4_144, aw_4_145, aw_4_146, aw_1_9, aw_4_147, by decide, by decide, by decide⟩
theorem th_97_201 : TH "Bandplan" 97 201 101 "java/lang/IllegalStateException" "a yes is needed" := ⟨aw_3_55, aw_1_22, by decide, fun w hw => List.mem_filter.mpr ⟨th_IllegalStateException_101g w hw, (List.mem_filter.mp hw).2⟩, th_IllegalStateException_101n, by decide +kernel, by decide, by decide⟩
theorem sv_X11_235 : SV "Bandplan" 235 yX6_channelAt cX6_channelAt 4 (some .int) 2 := ⟨aw_4_187, aw_2_140, aw_2_141, aw_1_8, aw_2_142, by decide, by decide, by decide⟩
theorem sv_X11_238 : SV "Bandplan" 238 yX1_makeForeign cX1_makeForeign 3 none 2 := ⟨aw_4_195, aw_4_196, aw_4_197, aw_1_9, aw_4_198, by decide, by decide, by decide⟩
theorem sv_X11_242 : SV "Bandplan" 242 yX1_ask cX1_ask 4 (some .int) 3 := ⟨aw_4_207, aw_4_208, aw_4_209, aw_1_9, aw_4_210, by decide, by decide, by decide⟩
theorem sv_X11_245 : SV "Bandplan" 245 yX1_wasAsked cX1_wasAsked 3 (some .boolean) 2 := ⟨aw_4_218, aw_4_149, aw_4_150, aw_1_9, aw_4_151, by decide, by decide, by decide⟩
theorem sv_X11_251 : SV "Bandplan" 251 yX1_protest cX1_protest 5 (some .boolean) 3 := ⟨aw_4_220, aw_4_221, aw_4_222, aw_1_9, aw_4_223, by decide, by decide, by decide⟩
theorem th_162_249 : TN "Bandplan" 162 249 166 "no yes was asked for" := ⟨aw_4_78, aw_1_32, by decide, fun w hw => List.mem_filter.mpr ⟨th_NoSuchElementException_166g w hw, (List.mem_filter.mp hw).2⟩, th_NoSuchElementException_166n, by decide +kernel, by decide, by decide⟩
theorem fl_X11_33 : FLD "Bandplan" 33 11 3 (.object "Bandplan$Packer") := ⟨RX11, TX11, 8, "Bandplan", rfl, by decide, aw_2_43, lay_X11, ⟨tyX11, tyX11_ok, rfl⟩, nmX11, rfl⟩
theorem fin_X11_3 : ∀ C T N, mcl[11]? = some (C, T, N) → (T 3).2.2.2 = true ∧ (T 3).1 = "Bandplan" := by
  intro C T N hc
  cases (show some (RX11, TX11, 8) = some (C, T, N) from hc)
  exact ⟨rfl, rfl⟩
theorem sv_X11_254 : SV "Bandplan" 254 yX5_prepare cX5_prepare 6 none 2 := ⟨aw_5_5, aw_5_6, aw_5_7, aw_1_10, aw_5_8, by decide, by decide, by decide⟩
theorem sv_X11_258 : SV "Bandplan" 258 yX0_protectedOnes cX0_protectedOnes 3 (some .int) 0 := ⟨aw_5_21, aw_5_22, aw_5_23, aw_1_2, aw_5_24, by decide, by decide, by decide⟩
theorem sv_X11_261 : SV "Bandplan" 261 yX5_findFirst cX5_findFirst 2 (some .boolean) 1 := ⟨aw_5_25, aw_5_26, aw_5_27, aw_1_10, aw_5_28, by decide, by decide, by decide⟩
theorem fl_X11_268 : FLD "Bandplan" 268 5 0 (.object "Bandplan$Row") := ⟨RX5, TX5, 5, "Bandplan$Packer", rfl, by decide, aw_1_179, lay_X5, ⟨tyX5, tyX5_ok, rfl⟩, nmX5, rfl⟩
theorem th_162_266 : TN "Bandplan" 162 266 166 "there is no packing" := ⟨aw_4_78, aw_1_32, by decide, fun w hw => List.mem_filter.mpr ⟨th_NoSuchElementException_166g w hw, (List.mem_filter.mp hw).2⟩, th_NoSuchElementException_166n, by decide +kernel, by decide, by decide⟩
theorem th_221_264 : TH "Bandplan" 221 264 225 "java/lang/UnsupportedOperationException" "it is secondary" := ⟨aw_4_60, aw_1_31, by decide, fun w hw => List.mem_filter.mpr ⟨th_UnsupportedOperationException_225g w hw, (List.mem_filter.mp hw).2⟩, th_UnsupportedOperationException_225n, by decide +kernel, by decide, by decide⟩
theorem fl_X11_271 : FLD "Bandplan" 271 10 5 .int := ⟨RX10, TX10, 6, "Bandplan$Station", rfl, by decide, aw_4_10, lay_X10, ⟨tyX10, tyX10_ok, rfl⟩, nmX10, rfl⟩
theorem sv_X11_279 : SV "Bandplan" 279 yX0_askingMoreThan cX0_askingMoreThan 4 (some .int) 1 := ⟨aw_5_69, aw_5_70, aw_5_71, aw_1_2, aw_5_72, by decide, by decide, by decide⟩
theorem sv_X11_282 : SV "Bandplan" 282 yX5_fits cX5_fits 2 (some .boolean) 1 := ⟨aw_5_73, aw_5_74, aw_5_75, aw_1_10, aw_5_76, by decide, by decide, by decide⟩
theorem fl_X11_40 : FLD "Bandplan" 40 11 4 (.object "Bandplan$Selling") := ⟨RX11, TX11, 8, "Bandplan", rfl, by decide, aw_2_44, lay_X11, ⟨tyX11, tyX11_ok, rfl⟩, nmX11, rfl⟩
theorem fin_X11_4 : ∀ C T N, mcl[11]? = some (C, T, N) → (T 4).2.2.2 = true ∧ (T 4).1 = "Bandplan" := by
  intro C T N hc
  cases (show some (RX11, TX11, 8) = some (C, T, N) from hc)
  exact ⟨rfl, rfl⟩
theorem sv_X11_287 : SV "Bandplan" 287 yX8_begin cX8_begin 3 none 2 := ⟨aw_5_79, aw_5_80, aw_5_81, aw_1_11, aw_5_82, by decide, by decide, by decide⟩
theorem sv_X11_290 : SV "Bandplan" 290 yX8_run cX8_run 9 (some .int) 5 := ⟨aw_5_84, aw_5_85, aw_5_86, aw_1_11, aw_5_87, by decide, by decide, by decide⟩
theorem ss_X11_297 : SS "Bandplan" 297 yJ6_bitCount_0f7a4 cJ6_bitCount_0f7a4 1 (some .int) 1 := ⟨aw_5_103, aw_5_104, aw_1_34, aw_5_105, by decide, by decide, by decide⟩
theorem ss_X11_294 : SS "Bandplan" 294 yX11_isIn cX11_isIn 2 (some .boolean) 2 := ⟨aw_5_102, aw_5_33, aw_1_1, aw_5_34, by decide, by decide, by decide⟩
theorem th_221_285 : TH "Bandplan" 221 285 225 "java/lang/UnsupportedOperationException" "those that stay at once cannot be packed" := ⟨aw_4_60, aw_1_31, by decide, fun w hw => List.mem_filter.mpr ⟨th_UnsupportedOperationException_225g w hw, (List.mem_filter.mp hw).2⟩, th_UnsupportedOperationException_225n, by decide +kernel, by decide, by decide⟩
theorem th_221_277 : TH "Bandplan" 221 277 225 "java/lang/UnsupportedOperationException" "no protected station is on" := ⟨aw_4_60, aw_1_31, by decide, fun w hw => List.mem_filter.mpr ⟨th_UnsupportedOperationException_225g w hw, (List.mem_filter.mp hw).2⟩, th_UnsupportedOperationException_225n, by decide +kernel, by decide, by decide⟩
theorem fl_X11_302 : FLD "Bandplan" 302 8 0 (.object "Bandplan$Row") := ⟨RX8, TX8, 6, "Bandplan$Selling", rfl, by decide, aw_1_204, lay_X8, ⟨tyX8, tyX8_ok, rfl⟩, nmX8, rfl⟩
theorem th_162_305 : TN "Bandplan" 162 305 166 "it was not bought" := ⟨aw_4_78, aw_1_32, by decide, fun w hw => List.mem_filter.mpr ⟨th_NoSuchElementException_166g w hw, (List.mem_filter.mp hw).2⟩, th_NoSuchElementException_166n, by decide +kernel, by decide, by decide⟩
theorem fl_X11_307 : FLD "Bandplan" 307 8 4 .int := ⟨RX8, TX8, 6, "Bandplan$Selling", rfl, by decide, aw_1_212, lay_X8, ⟨tyX8, tyX8_ok, rfl⟩, nmX8, rfl⟩
theorem fl_X11_47 : FLD "Bandplan" 47 11 5 (.object "Bandplan$Buying") := ⟨RX11, TX11, 8, "Bandplan", rfl, by decide, aw_2_45, lay_X11, ⟨tyX11, tyX11_ok, rfl⟩, nmX11, rfl⟩
theorem fin_X11_5 : ∀ C T N, mcl[11]? = some (C, T, N) → (T 5).2.2.2 = true ∧ (T 5).1 = "Bandplan" := by
  intro C T N hc
  cases (show some (RX11, TX11, 8) = some (C, T, N) from hc)
  exact ⟨rfl, rfl⟩
theorem fl_X11_310 : FLD "Bandplan" 310 2 2 .int := ⟨RX2, TX2, 5, "Bandplan$Buying", rfl, by decide, aw_2_0, lay_X2, ⟨tyX2, tyX2_ok, rfl⟩, nmX2, rfl⟩
theorem sv_X11_315 : SV "Bandplan" 315 yX2_admit cX2_admit 4 (some .int) 3 := ⟨aw_5_125, aw_5_126, aw_5_127, aw_1_12, aw_5_128, by decide, by decide, by decide⟩
theorem th_97_313 : TH "Bandplan" 97 313 101 "java/lang/IllegalStateException" "no more bidders" := ⟨aw_3_55, aw_1_22, by decide, fun w hw => List.mem_filter.mpr ⟨th_IllegalStateException_101g w hw, (List.mem_filter.mp hw).2⟩, th_IllegalStateException_101n, by decide +kernel, by decide, by decide⟩
theorem sv_X11_318 : SV "Bandplan" 318 yX2_run cX2_run 4 (some .int) 1 := ⟨aw_5_137, aw_5_138, aw_5_139, aw_1_12, aw_5_140, by decide, by decide, by decide⟩
theorem th_376_383 : TH "Bandplan" 376 383 380 "java/lang/IndexOutOfBoundsException" "no such bidder" := ⟨aw_3_14, aw_1_18, by decide, fun w hw => List.mem_filter.mpr ⟨th_IndexOutOfBoundsException_380g w hw, (List.mem_filter.mp hw).2⟩, th_IndexOutOfBoundsException_380n, by decide +kernel, by decide, by decide⟩
theorem sv_X11_320 : SV "Bandplan" 320 yX11_needBidder cX11_needBidder 2 none 1 := ⟨aw_5_161, aw_5_163, aw_p_27, aw_1_1, aw_5_164, by decide, by decide, by decide⟩
theorem fl_X11_323 : FLD "Bandplan" 323 2 0 (.object "Bandplan$Row") := ⟨RX2, TX2, 5, "Bandplan$Buying", rfl, by decide, aw_1_236, lay_X2, ⟨tyX2, tyX2_ok, rfl⟩, nmX2, rfl⟩
theorem fl_X11_326 : FLD "Bandplan" 326 2 1 (.object "Bandplan$Row") := ⟨RX2, TX2, 5, "Bandplan$Buying", rfl, by decide, aw_1_238, lay_X2, ⟨tyX2, tyX2_ok, rfl⟩, nmX2, rfl⟩
theorem fl_X11_329 : FLD "Bandplan" 329 8 1 .boolean := ⟨RX8, TX8, 6, "Bandplan$Selling", rfl, by decide, aw_1_206, lay_X8, ⟨tyX8, tyX8_ok, rfl⟩, nmX8, rfl⟩
theorem fl_X11_334 : FLD "Bandplan" 334 8 3 .int := ⟨RX8, TX8, 6, "Bandplan$Selling", rfl, by decide, aw_1_210, lay_X8, ⟨tyX8, tyX8_ok, rfl⟩, nmX8, rfl⟩
theorem fl_X11_337 : FLD "Bandplan" 337 8 2 .int := ⟨RX8, TX8, 6, "Bandplan$Selling", rfl, by decide, aw_1_208, lay_X8, ⟨tyX8, tyX8_ok, rfl⟩, nmX8, rfl⟩
theorem fl_X11_54 : FLD "Bandplan" 54 11 6 (.object "Bandplan$Moving") := ⟨RX11, TX11, 8, "Bandplan", rfl, by decide, aw_2_46, lay_X11, ⟨tyX11, tyX11_ok, rfl⟩, nmX11, rfl⟩
theorem fin_X11_6 : ∀ C T N, mcl[11]? = some (C, T, N) → (T 6).2.2.2 = true ∧ (T 6).1 = "Bandplan" := by
  intro C T N hc
  cases (show some (RX11, TX11, 8) = some (C, T, N) from hc)
  exact ⟨rfl, rfl⟩
theorem sv_X11_340 : SV "Bandplan" 340 yX4_begin cX4_begin 5 none 3 := ⟨aw_5_181, aw_5_182, aw_5_183, aw_1_13, aw_5_184, by decide, by decide, by decide⟩
theorem sv_X11_343 : SV "Bandplan" 343 yX4_run cX4_run 7 (some .int) 4 := ⟨aw_5_189, aw_5_190, aw_5_191, aw_1_13, aw_5_192, by decide, by decide, by decide⟩
theorem th_221_266 : TH "Bandplan" 221 266 225 "java/lang/UnsupportedOperationException" "there is no packing" := ⟨aw_4_60, aw_1_31, by decide, fun w hw => List.mem_filter.mpr ⟨th_UnsupportedOperationException_225g w hw, (List.mem_filter.mp hw).2⟩, th_UnsupportedOperationException_225n, by decide +kernel, by decide, by decide⟩
theorem th_221_332 : TH "Bandplan" 221 332 225 "java/lang/UnsupportedOperationException" "there was no selling" := ⟨aw_4_60, aw_1_31, by decide, fun w hw => List.mem_filter.mpr ⟨th_UnsupportedOperationException_225g w hw, (List.mem_filter.mp hw).2⟩, th_UnsupportedOperationException_225n, by decide +kernel, by decide, by decide⟩
theorem fl_X11_346 : FLD "Bandplan" 346 4 0 (.object "Bandplan$Row") := ⟨RX4, TX4, 4, "Bandplan$Moving", rfl, by decide, aw_2_23, lay_X4, ⟨tyX4, tyX4_ok, rfl⟩, nmX4, rfl⟩
theorem th_162_349 : TN "Bandplan" 162 349 166 "it did not move" := ⟨aw_4_78, aw_1_32, by decide, fun w hw => List.mem_filter.mpr ⟨th_NoSuchElementException_166g w hw, (List.mem_filter.mp hw).2⟩, th_NoSuchElementException_166n, by decide +kernel, by decide, by decide⟩
theorem fl_X11_351 : FLD "Bandplan" 351 4 2 .int := ⟨RX4, TX4, 4, "Bandplan$Moving", rfl, by decide, aw_2_27, lay_X4, ⟨tyX4, tyX4_ok, rfl⟩, nmX4, rfl⟩
theorem th_ArithmeticException_358g : ∀ w ∈ (vx_atS "Bandplan" 358 "java/lang/ArithmeticException" exn).filter goodWord, w ∈ lw_tbl := by decide +kernel
theorem th_ArithmeticException_358n : ∀ w ∈ (vx_atS "Bandplan" 358 "java/lang/ArithmeticException" exn).filter (fun w => !goodWord w), w ∈ NW := by decide +kernel
theorem th_354_356 : TH "Bandplan" 354 356 358 "java/lang/ArithmeticException" "there are no stations" := ⟨aw_6_1, aw_1_36, by decide, fun w hw => List.mem_filter.mpr ⟨th_ArithmeticException_358g w hw, (List.mem_filter.mp hw).2⟩, th_ArithmeticException_358n, by decide +kernel, by decide, by decide⟩
theorem th_354_359 : TH "Bandplan" 354 359 358 "java/lang/ArithmeticException" "no station is on" := ⟨aw_6_1, aw_1_36, by decide, fun w hw => List.mem_filter.mpr ⟨th_ArithmeticException_358g w hw, (List.mem_filter.mp hw).2⟩, th_ArithmeticException_358n, by decide +kernel, by decide, by decide⟩
theorem fl_X11_365 : FLD "Bandplan" 365 4 1 .boolean := ⟨RX4, TX4, 4, "Bandplan$Moving", rfl, by decide, aw_2_25, lay_X4, ⟨tyX4, tyX4_ok, rfl⟩, nmX4, rfl⟩
theorem sv_X11_368 : SV "Bandplan" 368 yX6_holdsToday cX6_holdsToday 2 (some .boolean) 0 := ⟨aw_2_135, aw_2_136, aw_2_137, aw_1_8, aw_2_138, by decide, by decide, by decide⟩
theorem sv_X11_372 : SV "Bandplan" 372 yX2_isFair cX2_isFair 2 (some .boolean) 0 := ⟨aw_2_147, aw_2_148, aw_2_149, aw_1_12, aw_2_150, by decide, by decide, by decide⟩
theorem sv_X11_375 : SV "Bandplan" 375 yX8_isFair cX8_isFair 2 (some .boolean) 0 := ⟨aw_2_156, aw_2_157, aw_2_158, aw_1_11, aw_2_159, by decide, by decide, by decide⟩
theorem lay_X12 : ∀ w ∈ u_ws RX12 TX12 36, w ∈ AW := by
  intro w hw
  obtain ⟨k, hk, rfl⟩ := List.mem_map.mp hw
  have hk := List.mem_range.mp hk
  match k, hk with
  | 0, _ => exact aw_6_56
  | 1, _ => exact aw_6_58
  | 2, _ => exact aw_6_60
  | 3, _ => exact aw_6_62
  | 4, _ => exact aw_6_64
  | 5, _ => exact aw_6_66
  | 6, _ => exact aw_6_68
  | 7, _ => exact aw_6_70
  | 8, _ => exact aw_6_72
  | 9, _ => exact aw_6_74
  | 10, _ => exact aw_6_76
  | 11, _ => exact aw_6_78
  | 12, _ => exact aw_6_80
  | 13, _ => exact aw_6_82
  | 14, _ => exact aw_6_84
  | 15, _ => exact aw_6_86
  | 16, _ => exact aw_6_88
  | 17, _ => exact aw_6_90
  | 18, _ => exact aw_6_92
  | 19, _ => exact aw_6_94
  | 20, _ => exact aw_6_96
  | 21, _ => exact aw_6_98
  | 22, _ => exact aw_6_100
  | 23, _ => exact aw_6_102
  | 24, _ => exact aw_6_104
  | 25, _ => exact aw_6_106
  | 26, _ => exact aw_6_108
  | 27, _ => exact aw_6_110
  | 28, _ => exact aw_6_112
  | 29, _ => exact aw_6_114
  | 30, _ => exact aw_6_116
  | 31, _ => exact aw_6_118
  | 32, _ => exact aw_6_120
  | 33, _ => exact aw_6_122
  | 34, _ => exact aw_6_124
  | 35, _ => exact aw_6_126
  | k + 36, hk => exact absurd hk (by omega)
theorem fl_X12_98 : FLD "BandplanModel" 98 12 0 .int := ⟨RX12, TX12, 36, "BandplanModel", rfl, by decide, aw_6_20, lay_X12, ⟨tyX12, tyX12_ok, rfl⟩, nmX12, rfl⟩
theorem fin_X12_0 : ∀ C T N, mcl[12]? = some (C, T, N) → (T 0).2.2.2 = false ∧ (T 0).1 = "BandplanModel" := by
  intro C T N hc
  cases (show some (RX12, TX12, 36) = some (C, T, N) from hc)
  exact ⟨rfl, rfl⟩
theorem ss_X12_101 : SS "BandplanModel" 101 yX12_in cX12_in 3 (some .boolean) 3 := ⟨aw_6_142, aw_6_143, aw_1_14, aw_6_144, by decide, by decide, by decide⟩
theorem fl_X12_105 : FLD "BandplanModel" 105 12 3 .int := ⟨RX12, TX12, 36, "BandplanModel", rfl, by decide, aw_6_23, lay_X12, ⟨tyX12, tyX12_ok, rfl⟩, nmX12, rfl⟩
theorem fin_X12_3 : ∀ C T N, mcl[12]? = some (C, T, N) → (T 3).2.2.2 = false ∧ (T 3).1 = "BandplanModel" := by
  intro C T N hc
  cases (show some (RX12, TX12, 36) = some (C, T, N) from hc)
  exact ⟨rfl, rfl⟩
theorem fl_X12_108 : FLD "BandplanModel" 108 12 4 .int := ⟨RX12, TX12, 36, "BandplanModel", rfl, by decide, aw_6_24, lay_X12, ⟨tyX12, tyX12_ok, rfl⟩, nmX12, rfl⟩
theorem fin_X12_4 : ∀ C T N, mcl[12]? = some (C, T, N) → (T 4).2.2.2 = false ∧ (T 4).1 = "BandplanModel" := by
  intro C T N hc
  cases (show some (RX12, TX12, 36) = some (C, T, N) from hc)
  exact ⟨rfl, rfl⟩
theorem fl_X12_39 : FLD "BandplanModel" 39 12 13 (.array .int) := ⟨RX12, TX12, 36, "BandplanModel", rfl, by decide, aw_6_33, lay_X12, ⟨tyX12, tyX12_ok, rfl⟩, nmX12, rfl⟩
theorem fin_X12_13 : ∀ C T N, mcl[12]? = some (C, T, N) → (T 13).2.2.2 = true ∧ (T 13).1 = "BandplanModel" := by
  intro C T N hc
  cases (show some (RX12, TX12, 36) = some (C, T, N) from hc)
  exact ⟨rfl, rfl⟩
theorem ss_X12_111 : SS "BandplanModel" 111 yX12_noCell cX12_noCell 2 (some .boolean) 2 := ⟨aw_6_139, aw_6_140, aw_1_14, aw_6_141, by decide, by decide, by decide⟩
theorem sv_X12_115 : SV "BandplanModel" 115 yX12_fails cX12_fails 3 (some .boolean) 2 := ⟨aw_6_145, aw_6_147, aw_p_30, aw_1_14, aw_6_148, by decide, by decide, by decide⟩
theorem sv_X12_119 : SV "BandplanModel" 119 yX12_isAnyOn cX12_isAnyOn 3 (some .boolean) 0 := ⟨aw_6_149, aw_6_151, aw_p_31, aw_1_14, aw_6_152, by decide, by decide, by decide⟩
theorem fl_X12_13 : FLD "BandplanModel" 13 12 5 (.array .int) := ⟨RX12, TX12, 36, "BandplanModel", rfl, by decide, aw_6_25, lay_X12, ⟨tyX12, tyX12_ok, rfl⟩, nmX12, rfl⟩
theorem fin_X12_5 : ∀ C T N, mcl[12]? = some (C, T, N) → (T 5).2.2.2 = true ∧ (T 5).1 = "BandplanModel" := by
  intro C T N hc
  cases (show some (RX12, TX12, 36) = some (C, T, N) from hc)
  exact ⟨rfl, rfl⟩
theorem fl_X12_17 : FLD "BandplanModel" 17 12 6 (.array .int) := ⟨RX12, TX12, 36, "BandplanModel", rfl, by decide, aw_6_26, lay_X12, ⟨tyX12, tyX12_ok, rfl⟩, nmX12, rfl⟩
theorem fin_X12_6 : ∀ C T N, mcl[12]? = some (C, T, N) → (T 6).2.2.2 = true ∧ (T 6).1 = "BandplanModel" := by
  intro C T N hc
  cases (show some (RX12, TX12, 36) = some (C, T, N) from hc)
  exact ⟨rfl, rfl⟩
theorem fl_X12_20 : FLD "BandplanModel" 20 12 7 (.array .int) := ⟨RX12, TX12, 36, "BandplanModel", rfl, by decide, aw_6_27, lay_X12, ⟨tyX12, tyX12_ok, rfl⟩, nmX12, rfl⟩
theorem fin_X12_7 : ∀ C T N, mcl[12]? = some (C, T, N) → (T 7).2.2.2 = true ∧ (T 7).1 = "BandplanModel" := by
  intro C T N hc
  cases (show some (RX12, TX12, 36) = some (C, T, N) from hc)
  exact ⟨rfl, rfl⟩
theorem fl_X12_23 : FLD "BandplanModel" 23 12 8 (.array .int) := ⟨RX12, TX12, 36, "BandplanModel", rfl, by decide, aw_6_28, lay_X12, ⟨tyX12, tyX12_ok, rfl⟩, nmX12, rfl⟩
theorem fin_X12_8 : ∀ C T N, mcl[12]? = some (C, T, N) → (T 8).2.2.2 = true ∧ (T 8).1 = "BandplanModel" := by
  intro C T N hc
  cases (show some (RX12, TX12, 36) = some (C, T, N) from hc)
  exact ⟨rfl, rfl⟩
theorem sm_X12_123 : SM "BandplanModel" 123 Lib.Math.min.name Lib.Math.min.code 2 := ⟨aw_6_169, aw_3_199, aw_1_25, aw_3_200⟩
theorem sm_X12_129 : SM "BandplanModel" 129 Lib.Math.max.name Lib.Math.max.code 2 := ⟨aw_6_170, aw_2_129, aw_1_25, aw_2_130⟩
theorem sm_X12_132 : SM "BandplanModel" 132 Lib.Math.abs.name Lib.Math.abs.code 1 := ⟨aw_6_171, aw_2_114, aw_1_25, aw_2_115⟩
theorem ss_X12_136 : SS "BandplanModel" 136 yJ9_floorDiv_7cf53 cJ9_floorDiv_7cf53 3 (some .int) 2 := ⟨aw_6_172, aw_3_104, aw_1_25, aw_3_105, by decide, by decide, by decide⟩
theorem sv_X12_139 : SV "BandplanModel" 139 yX12_topOf cX12_topOf 2 (some .int) 1 := ⟨aw_6_173, aw_6_175, aw_p_34, aw_1_14, aw_6_176, by decide, by decide, by decide⟩
theorem sv_X12_142 : SV "BandplanModel" 142 yX12_noSite cX12_noSite 2 (some .boolean) 1 := ⟨aw_6_161, aw_6_163, aw_p_32, aw_1_14, aw_6_164, by decide, by decide, by decide⟩
theorem sv_X12_146 : SV "BandplanModel" 146 yX12_lossOf cX12_lossOf 15 (some .int) 2 := ⟨aw_6_165, aw_6_167, aw_p_33, aw_1_14, aw_6_168, by decide, by decide, by decide⟩
theorem fl_X12_7 : FLD "BandplanModel" 7 12 2 .int := ⟨RX12, TX12, 36, "BandplanModel", rfl, by decide, aw_6_22, lay_X12, ⟨tyX12, tyX12_ok, rfl⟩, nmX12, rfl⟩
theorem fin_X12_2 : ∀ C T N, mcl[12]? = some (C, T, N) → (T 2).2.2.2 = false ∧ (T 2).1 = "BandplanModel" := by
  intro C T N hc
  cases (show some (RX12, TX12, 36) = some (C, T, N) from hc)
  exact ⟨rfl, rfl⟩
theorem fl_X12_32 : FLD "BandplanModel" 32 12 11 (.array .int) := ⟨RX12, TX12, 36, "BandplanModel", rfl, by decide, aw_6_31, lay_X12, ⟨tyX12, tyX12_ok, rfl⟩, nmX12, rfl⟩
theorem fin_X12_11 : ∀ C T N, mcl[12]? = some (C, T, N) → (T 11).2.2.2 = true ∧ (T 11).1 = "BandplanModel" := by
  intro C T N hc
  cases (show some (RX12, TX12, 36) = some (C, T, N) from hc)
  exact ⟨rfl, rfl⟩
theorem fl_X12_26 : FLD "BandplanModel" 26 12 9 (.array .int) := ⟨RX12, TX12, 36, "BandplanModel", rfl, by decide, aw_6_29, lay_X12, ⟨tyX12, tyX12_ok, rfl⟩, nmX12, rfl⟩
theorem fin_X12_9 : ∀ C T N, mcl[12]? = some (C, T, N) → (T 9).2.2.2 = true ∧ (T 9).1 = "BandplanModel" := by
  intro C T N hc
  cases (show some (RX12, TX12, 36) = some (C, T, N) from hc)
  exact ⟨rfl, rfl⟩
theorem fl_X12_29 : FLD "BandplanModel" 29 12 10 (.array .int) := ⟨RX12, TX12, 36, "BandplanModel", rfl, by decide, aw_6_30, lay_X12, ⟨tyX12, tyX12_ok, rfl⟩, nmX12, rfl⟩
theorem fin_X12_10 : ∀ C T N, mcl[12]? = some (C, T, N) → (T 10).2.2.2 = true ∧ (T 10).1 = "BandplanModel" := by
  intro C T N hc
  cases (show some (RX12, TX12, 36) = some (C, T, N) from hc)
  exact ⟨rfl, rfl⟩
theorem sv_X12_153 : SV "BandplanModel" 153 yX12_no cX12_no 2 (some .boolean) 1 := ⟨aw_6_190, aw_6_192, aw_p_35, aw_1_14, aw_6_193, by decide, by decide, by decide⟩
theorem sv_X12_156 : SV "BandplanModel" 156 yX12_levelOf cX12_levelOf 2 (some .int) 1 := ⟨aw_6_194, aw_6_196, aw_p_36, aw_1_14, aw_6_197, by decide, by decide, by decide⟩
theorem sv_X12_159 : SV "BandplanModel" 159 yX12_harms cX12_harms 3 (some .boolean) 2 := ⟨aw_6_206, aw_6_208, aw_p_38, aw_1_14, aw_6_209, by decide, by decide, by decide⟩
theorem sv_X12_162 : SV "BandplanModel" 162 yX12_harmBy cX12_harmBy 4 (some .int) 3 := ⟨aw_6_214, aw_6_216, aw_p_40, aw_1_14, aw_6_217, by decide, by decide, by decide⟩
theorem sv_X12_166 : SV "BandplanModel" 166 yX12_isHarmed cX12_isHarmed 4 (some .boolean) 1 := ⟨aw_6_202, aw_6_204, aw_p_37, aw_1_14, aw_6_205, by decide, by decide, by decide⟩
theorem sv_X12_169 : SV "BandplanModel" 169 yX12_harmOf cX12_harmOf 6 (some .int) 1 := ⟨aw_6_210, aw_6_212, aw_p_39, aw_1_14, aw_6_213, by decide, by decide, by decide⟩
theorem sv_X12_172 : SV "BandplanModel" 172 yX12_keepsLevel cX12_keepsLevel 2 (some .boolean) 1 := ⟨aw_6_222, aw_6_224, aw_p_41, aw_1_14, aw_6_225, by decide, by decide, by decide⟩
theorem fl_X12_35 : FLD "BandplanModel" 35 12 12 (.array .boolean) := ⟨RX12, TX12, 36, "BandplanModel", rfl, by decide, aw_6_32, lay_X12, ⟨tyX12, tyX12_ok, rfl⟩, nmX12, rfl⟩
theorem fin_X12_12 : ∀ C T N, mcl[12]? = some (C, T, N) → (T 12).2.2.2 = true ∧ (T 12).1 = "BandplanModel" := by
  intro C T N hc
  cases (show some (RX12, TX12, 36) = some (C, T, N) from hc)
  exact ⟨rfl, rfl⟩
theorem sv_X12_178 : SV "BandplanModel" 178 yX12_areBarred cX12_areBarred 7 (some .boolean) 4 := ⟨aw_6_233, aw_6_235, aw_p_42, aw_1_14, aw_6_236, by decide, by decide, by decide⟩
theorem ss_X12_175 : SS "BandplanModel" 175 yX12_noChannel cX12_noChannel 1 (some .boolean) 1 := ⟨aw_6_230, aw_6_231, aw_1_14, aw_6_232, by decide, by decide, by decide⟩
theorem fl_X12_55 : FLD "BandplanModel" 55 12 17 (.array .int) := ⟨RX12, TX12, 36, "BandplanModel", rfl, by decide, aw_6_37, lay_X12, ⟨tyX12, tyX12_ok, rfl⟩, nmX12, rfl⟩
theorem fin_X12_17 : ∀ C T N, mcl[12]? = some (C, T, N) → (T 17).2.2.2 = true ∧ (T 17).1 = "BandplanModel" := by
  intro C T N hc
  cases (show some (RX12, TX12, 36) = some (C, T, N) from hc)
  exact ⟨rfl, rfl⟩
theorem fl_X12_58 : FLD "BandplanModel" 58 12 18 (.array .boolean) := ⟨RX12, TX12, 36, "BandplanModel", rfl, by decide, aw_6_38, lay_X12, ⟨tyX12, tyX12_ok, rfl⟩, nmX12, rfl⟩
theorem fin_X12_18 : ∀ C T N, mcl[12]? = some (C, T, N) → (T 18).2.2.2 = true ∧ (T 18).1 = "BandplanModel" := by
  intro C T N hc
  cases (show some (RX12, TX12, 36) = some (C, T, N) from hc)
  exact ⟨rfl, rfl⟩
theorem fl_X12_186 : FLD "BandplanModel" 186 12 1 .int := ⟨RX12, TX12, 36, "BandplanModel", rfl, by decide, aw_6_21, lay_X12, ⟨tyX12, tyX12_ok, rfl⟩, nmX12, rfl⟩
theorem fin_X12_1 : ∀ C T N, mcl[12]? = some (C, T, N) → (T 1).2.2.2 = false ∧ (T 1).1 = "BandplanModel" := by
  intro C T N hc
  cases (show some (RX12, TX12, 36) = some (C, T, N) from hc)
  exact ⟨rfl, rfl⟩
theorem fl_X12_52 : FLD "BandplanModel" 52 12 16 (.array .boolean) := ⟨RX12, TX12, 36, "BandplanModel", rfl, by decide, aw_6_36, lay_X12, ⟨tyX12, tyX12_ok, rfl⟩, nmX12, rfl⟩
theorem fin_X12_16 : ∀ C T N, mcl[12]? = some (C, T, N) → (T 16).2.2.2 = true ∧ (T 16).1 = "BandplanModel" := by
  intro C T N hc
  cases (show some (RX12, TX12, 36) = some (C, T, N) from hc)
  exact ⟨rfl, rfl⟩
theorem sv_X12_198 : SV "BandplanModel" 198 yX12_hasYesFor cX12_hasYesFor 4 (some .boolean) 2 := ⟨aw_7_5, aw_7_7, aw_p_44, aw_1_14, aw_7_8, by decide, by decide, by decide⟩
theorem fl_X12_80 : FLD "BandplanModel" 80 12 30 (.array .boolean) := ⟨RX12, TX12, 36, "BandplanModel", rfl, by decide, aw_6_50, lay_X12, ⟨tyX12, tyX12_ok, rfl⟩, nmX12, rfl⟩
theorem fin_X12_30 : ∀ C T N, mcl[12]? = some (C, T, N) → (T 30).2.2.2 = true ∧ (T 30).1 = "BandplanModel" := by
  intro C T N hc
  cases (show some (RX12, TX12, 36) = some (C, T, N) from hc)
  exact ⟨rfl, rfl⟩
theorem fl_X12_83 : FLD "BandplanModel" 83 12 31 (.array .int) := ⟨RX12, TX12, 36, "BandplanModel", rfl, by decide, aw_6_51, lay_X12, ⟨tyX12, tyX12_ok, rfl⟩, nmX12, rfl⟩
theorem fin_X12_31 : ∀ C T N, mcl[12]? = some (C, T, N) → (T 31).2.2.2 = true ∧ (T 31).1 = "BandplanModel" := by
  intro C T N hc
  cases (show some (RX12, TX12, 36) = some (C, T, N) from hc)
  exact ⟨rfl, rfl⟩
theorem sv_X12_221 : SV "BandplanModel" 221 yX12_fits cX12_fits 4 (some .boolean) 1 := ⟨aw_7_88, aw_7_90, aw_p_50, aw_1_14, aw_7_91, by decide, by decide, by decide⟩
theorem sv_X12_218 : SV "BandplanModel" 218 yX12_packs cX12_packs 4 (some .boolean) 2 := ⟨aw_7_84, aw_7_86, aw_p_49, aw_1_14, aw_7_87, by decide, by decide, by decide⟩
theorem sv_X12_224 : SV "BandplanModel" 224 yX12_packsAll cX12_packsAll 3 (some .boolean) 1 := ⟨aw_7_80, aw_7_82, aw_p_48, aw_1_14, aw_7_83, by decide, by decide, by decide⟩
theorem fl_X12_42 : FLD "BandplanModel" 42 12 14 (.array .int) := ⟨RX12, TX12, 36, "BandplanModel", rfl, by decide, aw_6_34, lay_X12, ⟨tyX12, tyX12_ok, rfl⟩, nmX12, rfl⟩
theorem fin_X12_14 : ∀ C T N, mcl[12]? = some (C, T, N) → (T 14).2.2.2 = true ∧ (T 14).1 = "BandplanModel" := by
  intro C T N hc
  cases (show some (RX12, TX12, 36) = some (C, T, N) from hc)
  exact ⟨rfl, rfl⟩
theorem fl_X12_64 : FLD "BandplanModel" 64 12 23 (.array .boolean) := ⟨RX12, TX12, 36, "BandplanModel", rfl, by decide, aw_6_43, lay_X12, ⟨tyX12, tyX12_ok, rfl⟩, nmX12, rfl⟩
theorem fin_X12_23 : ∀ C T N, mcl[12]? = some (C, T, N) → (T 23).2.2.2 = true ∧ (T 23).1 = "BandplanModel" := by
  intro C T N hc
  cases (show some (RX12, TX12, 36) = some (C, T, N) from hc)
  exact ⟨rfl, rfl⟩
theorem fl_X12_61 : FLD "BandplanModel" 61 12 22 (.array .int) := ⟨RX12, TX12, 36, "BandplanModel", rfl, by decide, aw_6_42, lay_X12, ⟨tyX12, tyX12_ok, rfl⟩, nmX12, rfl⟩
theorem fin_X12_22 : ∀ C T N, mcl[12]? = some (C, T, N) → (T 22).2.2.2 = true ∧ (T 22).1 = "BandplanModel" := by
  intro C T N hc
  cases (show some (RX12, TX12, 36) = some (C, T, N) from hc)
  exact ⟨rfl, rfl⟩
theorem fl_X12_237 : FLD "BandplanModel" 237 12 20 .int := ⟨RX12, TX12, 36, "BandplanModel", rfl, by decide, aw_6_40, lay_X12, ⟨tyX12, tyX12_ok, rfl⟩, nmX12, rfl⟩
theorem fin_X12_20 : ∀ C T N, mcl[12]? = some (C, T, N) → (T 20).2.2.2 = false ∧ (T 20).1 = "BandplanModel" := by
  intro C T N hc
  cases (show some (RX12, TX12, 36) = some (C, T, N) from hc)
  exact ⟨rfl, rfl⟩
theorem fl_X12_243 : FLD "BandplanModel" 243 12 24 .int := ⟨RX12, TX12, 36, "BandplanModel", rfl, by decide, aw_6_44, lay_X12, ⟨tyX12, tyX12_ok, rfl⟩, nmX12, rfl⟩
theorem fin_X12_24 : ∀ C T N, mcl[12]? = some (C, T, N) → (T 24).2.2.2 = false ∧ (T 24).1 = "BandplanModel" := by
  intro C T N hc
  cases (show some (RX12, TX12, 36) = some (C, T, N) from hc)
  exact ⟨rfl, rfl⟩
theorem fl_X12_67 : FLD "BandplanModel" 67 12 25 (.array .int) := ⟨RX12, TX12, 36, "BandplanModel", rfl, by decide, aw_6_45, lay_X12, ⟨tyX12, tyX12_ok, rfl⟩, nmX12, rfl⟩
theorem fin_X12_25 : ∀ C T N, mcl[12]? = some (C, T, N) → (T 25).2.2.2 = true ∧ (T 25).1 = "BandplanModel" := by
  intro C T N hc
  cases (show some (RX12, TX12, 36) = some (C, T, N) from hc)
  exact ⟨rfl, rfl⟩
theorem sv_X12_246 : SV "BandplanModel" 246 yX12_handOut cX12_handOut 10 (some .long) 2 := ⟨aw_7_128, aw_7_130, aw_p_53, aw_1_14, aw_7_131, by decide, by decide, by decide⟩
theorem fl_X12_70 : FLD "BandplanModel" 70 12 26 (.array .int) := ⟨RX12, TX12, 36, "BandplanModel", rfl, by decide, aw_6_46, lay_X12, ⟨tyX12, tyX12_ok, rfl⟩, nmX12, rfl⟩
theorem fin_X12_26 : ∀ C T N, mcl[12]? = some (C, T, N) → (T 26).2.2.2 = true ∧ (T 26).1 = "BandplanModel" := by
  intro C T N hc
  cases (show some (RX12, TX12, 36) = some (C, T, N) from hc)
  exact ⟨rfl, rfl⟩
theorem fl_X12_73 : FLD "BandplanModel" 73 12 27 (.array .long) := ⟨RX12, TX12, 36, "BandplanModel", rfl, by decide, aw_6_47, lay_X12, ⟨tyX12, tyX12_ok, rfl⟩, nmX12, rfl⟩
theorem fin_X12_27 : ∀ C T N, mcl[12]? = some (C, T, N) → (T 27).2.2.2 = true ∧ (T 27).1 = "BandplanModel" := by
  intro C T N hc
  cases (show some (RX12, TX12, 36) = some (C, T, N) from hc)
  exact ⟨rfl, rfl⟩
theorem sv_X12_250 : SV "BandplanModel" 250 yX12_noBidder cX12_noBidder 2 (some .boolean) 1 := ⟨aw_7_136, aw_7_138, aw_p_54, aw_1_14, aw_7_139, by decide, by decide, by decide⟩
theorem fl_X12_95 : FLD "BandplanModel" 95 12 35 (.array .int) := ⟨RX12, TX12, 36, "BandplanModel", rfl, by decide, aw_6_55, lay_X12, ⟨tyX12, tyX12_ok, rfl⟩, nmX12, rfl⟩
theorem fin_X12_35 : ∀ C T N, mcl[12]? = some (C, T, N) → (T 35).2.2.2 = true ∧ (T 35).1 = "BandplanModel" := by
  intro C T N hc
  cases (show some (RX12, TX12, 36) = some (C, T, N) from hc)
  exact ⟨rfl, rfl⟩
theorem fl_X12_77 : FLD "BandplanModel" 77 12 29 (.array .int) := ⟨RX12, TX12, 36, "BandplanModel", rfl, by decide, aw_6_49, lay_X12, ⟨tyX12, tyX12_ok, rfl⟩, nmX12, rfl⟩
theorem fin_X12_29 : ∀ C T N, mcl[12]? = some (C, T, N) → (T 29).2.2.2 = true ∧ (T 29).1 = "BandplanModel" := by
  intro C T N hc
  cases (show some (RX12, TX12, 36) = some (C, T, N) from hc)
  exact ⟨rfl, rfl⟩
theorem fl_X12_253 : FLD "BandplanModel" 253 12 28 .int := ⟨RX12, TX12, 36, "BandplanModel", rfl, by decide, aw_6_48, lay_X12, ⟨tyX12, tyX12_ok, rfl⟩, nmX12, rfl⟩
theorem fin_X12_28 : ∀ C T N, mcl[12]? = some (C, T, N) → (T 28).2.2.2 = false ∧ (T 28).1 = "BandplanModel" := by
  intro C T N hc
  cases (show some (RX12, TX12, 36) = some (C, T, N) from hc)
  exact ⟨rfl, rfl⟩
theorem sv_X12_266 : SV "BandplanModel" 266 yX12_on cX12_on 3 (some .int) 0 := ⟨aw_7_172, aw_7_174, aw_p_58, aw_1_14, aw_7_175, by decide, by decide, by decide⟩
