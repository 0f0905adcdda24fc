theorem so_Jxa1e45_1 : SO "java/util/AbstractCollection" 1 := ⟨aw_1_65, aw_1_40, aw_1_41⟩
theorem si_Jxc12de_1 : SI "java/util/AbstractList" 1 yJxa1e45_init_da8c8 cJxa1e45_init_da8c8 1 0 := ⟨aw_1_62, aw_1_63, rfl, aw_1_4, aw_1_64, by decide, by decide, by decide⟩
theorem lay_Jx4a65c : ∀ w ∈ u_ws RJx4a65c TJx4a65c 3, w ∈ AW := by
  intro w hw
  obtain ⟨k, hk, rfl⟩ := List.mem_map.mp hw
  have hk := List.mem_range.mp hk
  match k, hk with
  | 0, _ => exact aw_1_77
  | 1, _ => exact aw_1_73
  | 2, _ => exact aw_1_75
  | k + 3, hk => exact absurd hk (by omega)
theorem fl_Jxc12de_7 : FLD "java/util/AbstractList" 7 14 0 .int := ⟨RJx4a65c, TJx4a65c, 3, "java/util/AbstractList", rfl, by decide, aw_1_70, lay_Jx4a65c, ⟨tyJx4a65c, tyJx4a65c_ok, rfl⟩, nmJx4a65c, Or.inl rfl⟩
theorem fin_Jx4a65c_0 : ∀ C T N, mcl[14]? = some (C, T, N) → (T 0).2.2.2 = false ∧ (T 0).1 = "java/util/AbstractList" := by
  intro C T N hc
  cases (show some (RJx4a65c, TJx4a65c, 3) = some (C, T, N) from hc)
  exact ⟨rfl, rfl⟩
theorem si_Jx4a65c_1 : SI "java/util/ArrayList" 1 yJxc12de_init_da8c8 cJxc12de_init_da8c8 1 0 := ⟨aw_1_59, aw_1_60, rfl, aw_1_5, aw_1_61, by decide, by decide, by decide⟩
theorem fl_Jx4a65c_9 : FLD "java/util/ArrayList" 9 14 1 (.array (.object "java/lang/Object")) := ⟨RJx4a65c, TJx4a65c, 3, "java/util/ArrayList", rfl, by decide, aw_1_68, lay_Jx4a65c, ⟨tyJx4a65c, tyJx4a65c_ok, rfl⟩, nmJx4a65c, Or.inl rfl⟩
theorem fin_Jx4a65c_1 : ∀ C T N, mcl[14]? = some (C, T, N) → (T 1).2.2.2 = false ∧ (T 1).1 = "java/util/ArrayList" := by
  intro C T N hc
  cases (show some (RJx4a65c, TJx4a65c, 3) = some (C, T, N) from hc)
  exact ⟨rfl, rfl⟩
theorem so_X7_1 : SO "Bandplan$Row" 1 := ⟨aw_1_85, aw_1_40, aw_1_41⟩
theorem lay_X7 : ∀ w ∈ u_ws RX7 TX7 1, w ∈ AW := by
  intro w hw
  obtain ⟨k, hk, rfl⟩ := List.mem_map.mp hw
  have hk := List.mem_range.mp hk
  match k, hk with
  | 0, _ => exact aw_1_87
  | k + 1, hk => exact absurd hk (by omega)
theorem fl_X7_7 : FLD "Bandplan$Row" 7 7 0 (.array .int) := ⟨RX7, TX7, 1, "Bandplan$Row", rfl, by decide, aw_1_86, lay_X7, ⟨tyX7, tyX7_ok, rfl⟩, nmX7, Or.inl rfl⟩
theorem fin_X7_0 : ∀ C T N, mcl[7]? = some (C, T, N) → (T 0).2.2.2 = true ∧ (T 0).1 = "Bandplan$Row" := by
  intro C T N hc
  cases (show some (RX7, TX7, 1) = some (C, T, N) from hc)
  exact ⟨rfl, rfl⟩
theorem so_X3_3 : SO "Bandplan$Land" 3 := ⟨aw_1_53, aw_1_40, aw_1_41⟩
theorem no_X3_9 : NO "Bandplan$Land" 9 14 3 [.int 0, .null, .int 0] := ⟨RJx4a65c, TJx4a65c, rfl, aw_1_54, aw_1_55, aw_1_6, lay_Jx4a65c, tyJx4a65c, tyJx4a65c_ok, fun j hj => by
  match j, hj with
  | 0, _ => rfl
  | 1, _ => rfl
  | 2, _ => rfl
  | j + 3, hj => exact absurd hj (by omega)⟩
theorem si_X3_11 : SI "Bandplan$Land" 11 yJx4a65c_init_da8c8 cJx4a65c_init_da8c8 1 0 := ⟨aw_1_56, aw_1_57, rfl, aw_1_6, aw_1_58, by decide, by decide, by decide⟩
theorem lay_X3 : ∀ w ∈ u_ws RX3 TX3 3, w ∈ AW := by
  intro w hw
  obtain ⟨k, hk, rfl⟩ := List.mem_map.mp hw
  have hk := List.mem_range.mp hk
  match k, hk with
  | 0, _ => exact aw_1_96
  | 1, _ => exact aw_1_98
  | 2, _ => exact aw_1_100
  | k + 3, hk => exact absurd hk (by omega)
theorem fl_X3_12 : FLD "Bandplan$Land" 12 3 0 (.object "java/util/ArrayList") := ⟨RX3, TX3, 3, "Bandplan$Land", rfl, by decide, aw_1_91, lay_X3, ⟨tyX3, tyX3_ok, rfl⟩, nmX3, Or.inl rfl⟩
theorem fin_X3_0 : ∀ C T N, mcl[3]? = some (C, T, N) → (T 0).2.2.2 = true ∧ (T 0).1 = "Bandplan$Land" := by
  intro C T N hc
  cases (show some (RX3, TX3, 3) = some (C, T, N) from hc)
  exact ⟨rfl, rfl⟩
theorem no_X3_18 : NO "Bandplan$Land" 18 7 1 [.null] := ⟨RX7, TX7, rfl, aw_1_80, aw_1_81, aw_1_7, lay_X7, tyX7, tyX7_ok, fun j hj => by
  match j, hj with
  | 0, _ => rfl
  | j + 1, hj => exact absurd hj (by omega)⟩
theorem si_X3_20 : SI "Bandplan$Land" 20 yX7_init cX7_init 4 2 := ⟨aw_1_82, aw_1_83, rfl, aw_1_7, aw_1_84, by decide, by decide, by decide⟩
theorem fl_X3_23 : FLD "Bandplan$Land" 23 3 1 (.object "Bandplan$Row") := ⟨RX3, TX3, 3, "Bandplan$Land", rfl, by decide, aw_1_94, lay_X3, ⟨tyX3, tyX3_ok, rfl⟩, nmX3, Or.inl rfl⟩
theorem fin_X3_1 : ∀ C T N, mcl[3]? = some (C, T, N) → (T 1).2.2.2 = true ∧ (T 1).1 = "Bandplan$Land" := by
  intro C T N hc
  cases (show some (RX3, TX3, 3) = some (C, T, N) from hc)
  exact ⟨rfl, rfl⟩
theorem fl_X3_27 : FLD "Bandplan$Land" 27 3 2 (.object "Bandplan$Row") := ⟨RX3, TX3, 3, "Bandplan$Land", rfl, by decide, aw_1_95, lay_X3, ⟨tyX3, tyX3_ok, rfl⟩, nmX3, Or.inl rfl⟩
theorem fin_X3_2 : ∀ C T N, mcl[3]? = some (C, T, N) → (T 2).2.2.2 = true ∧ (T 2).1 = "Bandplan$Land" := by
  intro C T N hc
  cases (show some (RX3, TX3, 3) = some (C, T, N) from hc)
  exact ⟨rfl, rfl⟩
theorem so_X0_3 : SO "Bandplan$Air" 3 := ⟨aw_1_47, aw_1_40, aw_1_41⟩
theorem no_X0_9 : NO "Bandplan$Air" 9 3 3 [.null, .null, .null] := ⟨RX3, TX3, rfl, aw_1_48, aw_1_49, aw_1_3, lay_X3, tyX3, tyX3_ok, fun j hj => by
  match j, hj with
  | 0, _ => rfl
  | 1, _ => rfl
  | 2, _ => rfl
  | j + 3, hj => exact absurd hj (by omega)⟩
theorem sin_X0_11 : SIN "Bandplan$Air" 11 yX3_init "Bandplan" cX3_init 1 0 := ⟨List.mem_filter.mpr ⟨nw_1_50, rfl⟩, aw_1_51, rfl, aw_1_3, aw_1_52, by decide, by decide, by decide⟩
theorem lay_X0 : ∀ w ∈ u_ws RX0 TX0 3, w ∈ AW := by
  intro w hw
  obtain ⟨k, hk, rfl⟩ := List.mem_map.mp hw
  have hk := List.mem_range.mp hk
  match k, hk with
  | 0, _ => exact aw_1_114
  | 1, _ => exact aw_1_116
  | 2, _ => exact aw_1_118
  | k + 3, hk => exact absurd hk (by omega)
theorem fl_X0_12 : FLD "Bandplan$Air" 12 0 0 (.object "Bandplan$Land") := ⟨RX0, TX0, 3, "Bandplan$Air", rfl, by decide, aw_1_105, lay_X0, ⟨tyX0, tyX0_ok, rfl⟩, nmX0, Or.inl rfl⟩
theorem fin_X0_0 : ∀ C T N, mcl[0]? = some (C, T, N) → (T 0).2.2.2 = true ∧ (T 0).1 = "Bandplan$Air" := by
  intro C T N hc
  cases (show some (RX0, TX0, 3) = some (C, T, N) from hc)
  exact ⟨rfl, rfl⟩
theorem no_X0_18 : NO "Bandplan$Air" 18 14 3 [.int 0, .null, .int 0] := ⟨RJx4a65c, TJx4a65c, rfl, aw_1_103, aw_1_55, aw_1_6, lay_Jx4a65c, tyJx4a65c, tyJx4a65c_ok, fun j hj => by
  match j, hj with
  | 0, _ => rfl
  | 1, _ => rfl
  | 2, _ => rfl
  | j + 3, hj => exact absurd hj (by omega)⟩
theorem si_X0_20 : SI "Bandplan$Air" 20 yJx4a65c_init_da8c8 cJx4a65c_init_da8c8 1 0 := ⟨aw_1_104, aw_1_57, rfl, aw_1_6, aw_1_58, by decide, by decide, by decide⟩
theorem fl_X0_21 : FLD "Bandplan$Air" 21 0 1 (.object "java/util/ArrayList") := ⟨RX0, TX0, 3, "Bandplan$Air", rfl, by decide, aw_1_107, lay_X0, ⟨tyX0, tyX0_ok, rfl⟩, nmX0, Or.inl rfl⟩
theorem fin_X0_1 : ∀ C T N, mcl[0]? = some (C, T, N) → (T 1).2.2.2 = true ∧ (T 1).1 = "Bandplan$Air" := by
  intro C T N hc
  cases (show some (RX0, TX0, 3) = some (C, T, N) from hc)
  exact ⟨rfl, rfl⟩
theorem fl_X0_25 : FLD "Bandplan$Air" 25 0 2 .int := ⟨RX0, TX0, 3, "Bandplan$Air", rfl, by decide, aw_1_112, lay_X0, ⟨tyX0, tyX0_ok, rfl⟩, nmX0, Or.inl rfl⟩
theorem fin_X0_2 : ∀ C T N, mcl[0]? = some (C, T, N) → (T 2).2.2.2 = false ∧ (T 2).1 = "Bandplan$Air" := by
  intro C T N hc
  cases (show some (RX0, TX0, 3) = some (C, T, N) from hc)
  exact ⟨rfl, rfl⟩
theorem sv_X3_48 : SV "Bandplan$Land" 48 yX7_at cX7_at 2 (some .int) 1 := ⟨aw_2_237, aw_2_210, aw_2_211, aw_1_7, aw_2_212, by decide, by decide, by decide⟩
theorem lay_X10 : ∀ w ∈ u_ws RX10 TX10 6, w ∈ AW := by
  intro w hw
  obtain ⟨k, hk, rfl⟩ := List.mem_map.mp hw
  have hk := List.mem_range.mp hk
  match k, hk with
  | 0, _ => exact aw_3_174
  | 1, _ => exact aw_3_176
  | 2, _ => exact aw_3_178
  | 3, _ => exact aw_3_180
  | 4, _ => exact aw_3_182
  | 5, _ => exact aw_3_184
  | k + 6, hk => exact absurd hk (by omega)
theorem fl_X0_29 : FLD "Bandplan$Air" 29 10 3 .int := ⟨RX10, TX10, 6, "Bandplan$Station", rfl, by decide, aw_3_166, lay_X10, ⟨tyX10, tyX10_ok, rfl⟩, nmX10, Or.inl rfl⟩
theorem fin_X10_3 : ∀ C T N, mcl[10]? = some (C, T, N) → (T 3).2.2.2 = true ∧ (T 3).1 = "Bandplan$Station" := by
  intro C T N hc
  cases (show some (RX10, TX10, 6) = some (C, T, N) from hc)
  exact ⟨rfl, rfl⟩
theorem fl_X0_34 : FLD "Bandplan$Air" 34 10 1 .int := ⟨RX10, TX10, 6, "Bandplan$Station", rfl, by decide, aw_3_162, lay_X10, ⟨tyX10, tyX10_ok, rfl⟩, nmX10, Or.inl rfl⟩
theorem fin_X10_1 : ∀ C T N, mcl[10]? = some (C, T, N) → (T 1).2.2.2 = true ∧ (T 1).1 = "Bandplan$Station" := by
  intro C T N hc
  cases (show some (RX10, TX10, 6) = some (C, T, N) from hc)
  exact ⟨rfl, rfl⟩
theorem fl_X0_37 : FLD "Bandplan$Air" 37 10 2 .int := ⟨RX10, TX10, 6, "Bandplan$Station", rfl, by decide, aw_3_164, lay_X10, ⟨tyX10, tyX10_ok, rfl⟩, nmX10, Or.inl rfl⟩
theorem fin_X10_2 : ∀ C T N, mcl[10]? = some (C, T, N) → (T 2).2.2.2 = true ∧ (T 2).1 = "Bandplan$Station" := by
  intro C T N hc
  cases (show some (RX10, TX10, 6) = some (C, T, N) from hc)
  exact ⟨rfl, rfl⟩
theorem sv_X0_40 : SV "Bandplan$Air" 40 yX3_lossBetween cX3_lossBetween 3 (some .int) 2 := ⟨aw_4_15, aw_4_16, aw_4_17, aw_1_3, aw_4_18, by decide, by decide, by decide⟩
theorem fl_Jx4a65c_48 : FLD "java/util/ArrayList" 48 14 2 .int := ⟨RJx4a65c, TJx4a65c, 3, "java/util/ArrayList", rfl, by decide, aw_1_69, lay_Jx4a65c, ⟨tyJx4a65c, tyJx4a65c_ok, rfl⟩, nmJx4a65c, Or.inl rfl⟩
theorem fin_Jx4a65c_2 : ∀ C T N, mcl[14]? = some (C, T, N) → (T 2).2.2.2 = false ∧ (T 2).1 = "java/util/ArrayList" := by
  intro C T N hc
  cases (show some (RJx4a65c, TJx4a65c, 3) = some (C, T, N) from hc)
  exact ⟨rfl, rfl⟩
theorem ss_J15_105 : SS "java/util/Objects" 105 yJ3_checkIndex_8e157 cJ3_checkIndex_8e157 3 (some .int) 3 := ⟨aw_3_17, aw_3_18, aw_1_23, aw_3_19, by decide, by decide, by decide⟩
theorem ss_Jx4a65c_118 : SS "java/util/ArrayList" 118 yJ15_checkIndex_7cf53 cJ15_checkIndex_7cf53 2 (some .int) 2 := ⟨aw_3_14, aw_3_15, aw_1_22, aw_3_16, by decide, by decide, by decide⟩
theorem sv_Jx4a65c_123 : SV "java/util/ArrayList" 123 yJx4a65c_elementData_915e3 cJx4a65c_elementData_915e3 2 (some (.object "java/lang/Object")) 1 := ⟨aw_3_20, aw_3_21, aw_3_22, aw_1_6, aw_3_23, by decide, by decide, by decide⟩
theorem sm_X0_62 : SM "Bandplan$Air" 62 Lib.Math.abs.name Lib.Math.abs.code 1 := ⟨aw_4_38, aw_3_37, aw_1_24, aw_3_38⟩
theorem sm_X0_109 : SM "Bandplan$Air" 109 Lib.Math.max.name Lib.Math.max.code 2 := ⟨aw_4_42, aw_3_40, aw_1_24, aw_3_41⟩
theorem sv_X0_45 : SV "Bandplan$Air" 45 yJx4a65c_size_8abf5 cJx4a65c_size_8abf5 1 (some .int) 0 := ⟨aw_3_219, aw_3_7, aw_3_8, aw_1_6, aw_3_9, by decide, by decide, by decide⟩
theorem sv_X0_49 : SV "Bandplan$Air" 49 yJx4a65c_get_915e3 cJx4a65c_get_915e3 2 (some (.object "java/lang/Object")) 1 := ⟨aw_3_220, aw_3_11, aw_3_12, aw_1_6, aw_3_13, by decide, by decide, by decide⟩
theorem sv_X0_53 : SV "Bandplan$Air" 53 yX7_at cX7_at 2 (some .int) 1 := ⟨aw_4_28, aw_2_210, aw_2_211, aw_1_7, aw_2_212, by decide, by decide, by decide⟩
theorem fl_X0_59 : FLD "Bandplan$Air" 59 10 0 .int := ⟨RX10, TX10, 6, "Bandplan$Station", rfl, by decide, aw_3_158, lay_X10, ⟨tyX10, tyX10_ok, rfl⟩, nmX10, Or.inl rfl⟩
theorem fin_X10_0 : ∀ C T N, mcl[10]? = some (C, T, N) → (T 0).2.2.2 = true ∧ (T 0).1 = "Bandplan$Station" := by
  intro C T N hc
  cases (show some (RX10, TX10, 6) = some (C, T, N) from hc)
  exact ⟨rfl, rfl⟩
theorem sv_X0_67 : SV "Bandplan$Air" 67 yX0_harmOf cX0_harmOf 5 (some .int) 3 := ⟨aw_4_19, aw_4_21, aw_p_17, aw_1_2, aw_4_22, by decide, by decide, by decide⟩
theorem ss_X0_71 : SS "Bandplan$Air" 71 yX0_together cX0_together 3 (some .int) 2 := ⟨aw_4_39, aw_4_40, aw_1_2, aw_4_41, by decide, by decide, by decide⟩
theorem sv_X0_74 : SV "Bandplan$Air" 74 yX0_allHarm cX0_allHarm 8 (some .int) 2 := ⟨aw_4_33, aw_4_34, aw_4_35, aw_1_2, aw_4_36, by decide, by decide, by decide⟩
theorem sv_X0_78 : SV "Bandplan$Air" 78 yX0_levelOf cX0_levelOf 2 (some .int) 1 := ⟨aw_4_11, aw_4_12, aw_4_13, aw_1_2, aw_4_14, by decide, by decide, by decide⟩
theorem fl_X0_82 : FLD "Bandplan$Air" 82 10 4 .boolean := ⟨RX10, TX10, 6, "Bandplan$Station", rfl, by decide, aw_3_168, lay_X10, ⟨tyX10, tyX10_ok, rfl⟩, nmX10, Or.inl rfl⟩
theorem fin_X10_4 : ∀ C T N, mcl[10]? = some (C, T, N) → (T 4).2.2.2 = true ∧ (T 4).1 = "Bandplan$Station" := by
  intro C T N hc
  cases (show some (RX10, TX10, 6) = some (C, T, N) from hc)
  exact ⟨rfl, rfl⟩
theorem sv_X0_86 : SV "Bandplan$Air" 86 yX0_keepsLevel cX0_keepsLevel 4 (some .boolean) 2 := ⟨aw_4_29, aw_4_30, aw_4_31, aw_1_2, aw_4_32, by decide, by decide, by decide⟩
theorem sv_X0_90 : SV "Bandplan$Air" 90 yX0_suffers cX0_suffers 4 (some .boolean) 3 := ⟨aw_4_7, aw_4_9, aw_p_16, aw_1_2, aw_4_10, by decide, by decide, by decide⟩
theorem fl_X0_101 : FLD "Bandplan$Air" 101 3 0 (.object "java/util/ArrayList") := ⟨RX3, TX3, 3, "Bandplan$Land", rfl, by decide, aw_1_93, lay_X3, ⟨tyX3, tyX3_ok, rfl⟩, nmX3, Or.inl rfl⟩
theorem lay_X9 : ∀ w ∈ u_ws RX9 TX9 3, w ∈ AW := by
  intro w hw
  obtain ⟨k, hk, rfl⟩ := List.mem_map.mp hw
  have hk := List.mem_range.mp hk
  match k, hk with
  | 0, _ => exact aw_3_64
  | 1, _ => exact aw_3_66
  | 2, _ => exact aw_3_68
  | k + 3, hk => exact absurd hk (by omega)
theorem fl_X0_106 : FLD "Bandplan$Air" 106 9 0 .int := ⟨RX9, TX9, 3, "Bandplan$Site", rfl, by decide, aw_3_59, lay_X9, ⟨tyX9, tyX9_ok, rfl⟩, nmX9, Or.inl rfl⟩
theorem fin_X9_0 : ∀ C T N, mcl[9]? = some (C, T, N) → (T 0).2.2.2 = true ∧ (T 0).1 = "Bandplan$Site" := by
  intro C T N hc
  cases (show some (RX9, TX9, 3) = some (C, T, N) from hc)
  exact ⟨rfl, rfl⟩
theorem sv_X0_94 : SV "Bandplan$Air" 94 yX0_isBeyond cX0_isBeyond 2 (some .boolean) 1 := ⟨aw_3_215, aw_3_217, aw_p_14, aw_1_2, aw_3_218, by decide, by decide, by decide⟩
theorem fl_X0_98 : FLD "Bandplan$Air" 98 10 5 .int := ⟨RX10, TX10, 6, "Bandplan$Station", rfl, by decide, aw_3_172, lay_X10, ⟨tyX10, tyX10_ok, rfl⟩, nmX10, Or.inl rfl⟩
theorem fin_X10_5 : ∀ C T N, mcl[10]? = some (C, T, N) → (T 5).2.2.2 = false ∧ (T 5).1 = "Bandplan$Station" := by
  intro C T N hc
  cases (show some (RX10, TX10, 6) = some (C, T, N) from hc)
  exact ⟨rfl, rfl⟩
theorem so_X1_3 : SO "Bandplan$Border" 3 := ⟨aw_1_153, aw_1_40, aw_1_41⟩
theorem no_X1_9 : NO "Bandplan$Border" 9 7 1 [.null] := ⟨RX7, TX7, rfl, aw_1_154, aw_1_81, aw_1_7, lay_X7, tyX7, tyX7_ok, fun j hj => by
  match j, hj with
  | 0, _ => rfl
  | j + 1, hj => exact absurd hj (by omega)⟩
theorem si_X1_11 : SI "Bandplan$Border" 11 yX7_init cX7_init 4 2 := ⟨aw_1_155, aw_1_83, rfl, aw_1_7, aw_1_84, by decide, by decide, by decide⟩
theorem lay_X1 : ∀ w ∈ u_ws RX1 TX1 3, w ∈ AW := by
  intro w hw
  obtain ⟨k, hk, rfl⟩ := List.mem_map.mp hw
  have hk := List.mem_range.mp hk
  match k, hk with
  | 0, _ => exact aw_1_159
  | 1, _ => exact aw_1_161
  | 2, _ => exact aw_1_163
  | k + 3, hk => exact absurd hk (by omega)
theorem fl_X1_14 : FLD "Bandplan$Border" 14 1 0 (.object "Bandplan$Row") := ⟨RX1, TX1, 3, "Bandplan$Border", rfl, by decide, aw_1_156, lay_X1, ⟨tyX1, tyX1_ok, rfl⟩, nmX1, Or.inl rfl⟩
theorem fin_X1_0 : ∀ C T N, mcl[1]? = some (C, T, N) → (T 0).2.2.2 = true ∧ (T 0).1 = "Bandplan$Border" := by
  intro C T N hc
  cases (show some (RX1, TX1, 3) = some (C, T, N) from hc)
  exact ⟨rfl, rfl⟩
theorem fl_X1_20 : FLD "Bandplan$Border" 20 1 1 (.object "Bandplan$Row") := ⟨RX1, TX1, 3, "Bandplan$Border", rfl, by decide, aw_1_157, lay_X1, ⟨tyX1, tyX1_ok, rfl⟩, nmX1, Or.inl rfl⟩
theorem fin_X1_1 : ∀ C T N, mcl[1]? = some (C, T, N) → (T 1).2.2.2 = true ∧ (T 1).1 = "Bandplan$Border" := by
  intro C T N hc
  cases (show some (RX1, TX1, 3) = some (C, T, N) from hc)
  exact ⟨rfl, rfl⟩
theorem fl_X1_23 : FLD "Bandplan$Border" 23 1 2 (.object "Bandplan$Row") := ⟨RX1, TX1, 3, "Bandplan$Border", rfl, by decide, aw_1_158, lay_X1, ⟨tyX1, tyX1_ok, rfl⟩, nmX1, Or.inl rfl⟩
theorem fin_X1_2 : ∀ C T N, mcl[1]? = some (C, T, N) → (T 2).2.2.2 = true ∧ (T 2).1 = "Bandplan$Border" := by
  intro C T N hc
  cases (show some (RX1, TX1, 3) = some (C, T, N) from hc)
  exact ⟨rfl, rfl⟩
theorem sv_X1_26 : SV "Bandplan$Border" 26 yX7_at cX7_at 2 (some .int) 1 := ⟨aw_3_210, aw_2_210, aw_2_211, aw_1_7, aw_2_212, by decide, by decide, by decide⟩
theorem sv_X1_30 : SV "Bandplan$Border" 30 yX7_put cX7_put 3 none 2 := ⟨aw_4_83, aw_2_239, aw_3_0, aw_1_7, aw_3_1, by decide, by decide, by decide⟩
theorem sv_X1_33 : SV "Bandplan$Border" 33 yX1_wasAsked cX1_wasAsked 3 (some .boolean) 2 := ⟨aw_3_226, aw_3_227, aw_3_228, aw_1_9, aw_3_229, by decide, by decide, by decide⟩
theorem so_X2_3 : SO "Bandplan$Buying" 3 := ⟨aw_1_229, aw_1_40, aw_1_41⟩
theorem no_X2_9 : NO "Bandplan$Buying" 9 7 1 [.null] := ⟨RX7, TX7, rfl, aw_1_230, aw_1_81, aw_1_7, lay_X7, tyX7, tyX7_ok, fun j hj => by
  match j, hj with
  | 0, _ => rfl
  | j + 1, hj => exact absurd hj (by omega)⟩
theorem si_X2_11 : SI "Bandplan$Buying" 11 yX7_init cX7_init 4 2 := ⟨aw_1_231, aw_1_83, rfl, aw_1_7, aw_1_84, by decide, by decide, by decide⟩
theorem lay_X2 : ∀ w ∈ u_ws RX2 TX2 5, w ∈ AW := by
  intro w hw
  obtain ⟨k, hk, rfl⟩ := List.mem_map.mp hw
  have hk := List.mem_range.mp hk
  match k, hk with
  | 0, _ => exact aw_2_0
  | 1, _ => exact aw_2_2
  | 2, _ => exact aw_2_4
  | 3, _ => exact aw_2_6
  | 4, _ => exact aw_2_8
  | k + 5, hk => exact absurd hk (by omega)
theorem fl_X2_14 : FLD "Bandplan$Buying" 14 2 0 (.object "Bandplan$Row") := ⟨RX2, TX2, 5, "Bandplan$Buying", rfl, by decide, aw_1_232, lay_X2, ⟨tyX2, tyX2_ok, rfl⟩, nmX2, Or.inl rfl⟩
theorem fin_X2_0 : ∀ C T N, mcl[2]? = some (C, T, N) → (T 0).2.2.2 = true ∧ (T 0).1 = "Bandplan$Buying" := by
  intro C T N hc
  cases (show some (RX2, TX2, 5) = some (C, T, N) from hc)
  exact ⟨rfl, rfl⟩
theorem fl_X2_20 : FLD "Bandplan$Buying" 20 2 1 (.object "Bandplan$Row") := ⟨RX2, TX2, 5, "Bandplan$Buying", rfl, by decide, aw_1_234, lay_X2, ⟨tyX2, tyX2_ok, rfl⟩, nmX2, Or.inl rfl⟩
theorem fin_X2_1 : ∀ C T N, mcl[2]? = some (C, T, N) → (T 1).2.2.2 = true ∧ (T 1).1 = "Bandplan$Buying" := by
  intro C T N hc
  cases (show some (RX2, TX2, 5) = some (C, T, N) from hc)
  exact ⟨rfl, rfl⟩
theorem fl_X2_23 : FLD "Bandplan$Buying" 23 2 3 (.object "Bandplan$Row") := ⟨RX2, TX2, 5, "Bandplan$Buying", rfl, by decide, aw_1_238, lay_X2, ⟨tyX2, tyX2_ok, rfl⟩, nmX2, Or.inl rfl⟩
theorem fin_X2_3 : ∀ C T N, mcl[2]? = some (C, T, N) → (T 3).2.2.2 = true ∧ (T 3).1 = "Bandplan$Buying" := by
  intro C T N hc
  cases (show some (RX2, TX2, 5) = some (C, T, N) from hc)
  exact ⟨rfl, rfl⟩
theorem fl_X2_26 : FLD "Bandplan$Buying" 26 2 4 (.object "Bandplan$Row") := ⟨RX2, TX2, 5, "Bandplan$Buying", rfl, by decide, aw_1_239, lay_X2, ⟨tyX2, tyX2_ok, rfl⟩, nmX2, Or.inl rfl⟩
theorem fin_X2_4 : ∀ C T N, mcl[2]? = some (C, T, N) → (T 4).2.2.2 = true ∧ (T 4).1 = "Bandplan$Buying" := by
  intro C T N hc
  cases (show some (RX2, TX2, 5) = some (C, T, N) from hc)
  exact ⟨rfl, rfl⟩
theorem fl_X2_29 : FLD "Bandplan$Buying" 29 2 2 .int := ⟨RX2, TX2, 5, "Bandplan$Buying", rfl, by decide, aw_1_236, lay_X2, ⟨tyX2, tyX2_ok, rfl⟩, nmX2, Or.inl rfl⟩
theorem fin_X2_2 : ∀ C T N, mcl[2]? = some (C, T, N) → (T 2).2.2.2 = false ∧ (T 2).1 = "Bandplan$Buying" := by
  intro C T N hc
  cases (show some (RX2, TX2, 5) = some (C, T, N) from hc)
  exact ⟨rfl, rfl⟩
theorem sv_X2_33 : SV "Bandplan$Buying" 33 yX7_put cX7_put 3 none 2 := ⟨aw_4_217, aw_2_239, aw_3_0, aw_1_7, aw_3_1, by decide, by decide, by decide⟩
theorem sv_X2_44 : SV "Bandplan$Buying" 44 yX7_at cX7_at 2 (some .int) 1 := ⟨aw_4_235, aw_2_210, aw_2_211, aw_1_7, aw_2_212, by decide, by decide, by decide⟩
theorem sv_X2_51 : SV "Bandplan$Buying" 51 yX7_fillWith cX7_fillWith 3 none 1 := ⟨aw_4_230, aw_4_142, aw_4_143, aw_1_7, aw_4_144, by decide, by decide, by decide⟩
theorem sv_X2_55 : SV "Bandplan$Buying" 55 yX2_highestBidder cX2_highestBidder 7 (some .int) 2 := ⟨aw_4_231, aw_4_233, aw_p_23, aw_1_12, aw_4_234, by decide, by decide, by decide⟩
theorem sv_X2_48 : SV "Bandplan$Buying" 48 yX2_worthOf cX2_worthOf 5 (some .int) 2 := ⟨aw_5_0, aw_5_2, aw_p_25, aw_1_12, aw_5_3, by decide, by decide, by decide⟩
theorem sv_X2_36 : SV "Bandplan$Buying" 36 yX2_deal cX2_deal 6 (some .int) 3 := ⟨aw_4_226, aw_4_228, aw_p_22, aw_1_12, aw_4_229, by decide, by decide, by decide⟩
theorem sv_X2_40 : SV "Bandplan$Buying" 40 yX2_worthOfOthers cX2_worthOfOthers 5 (some .int) 2 := ⟨aw_4_236, aw_4_238, aw_p_24, aw_1_12, aw_4_239, by decide, by decide, by decide⟩
theorem fl_X3_62 : FLD "Bandplan$Land" 62 9 0 .int := ⟨RX9, TX9, 3, "Bandplan$Site", rfl, by decide, aw_3_58, lay_X9, ⟨tyX9, tyX9_ok, rfl⟩, nmX9, Or.inl rfl⟩
theorem fl_X3_66 : FLD "Bandplan$Land" 66 9 1 .int := ⟨RX9, TX9, 3, "Bandplan$Site", rfl, by decide, aw_3_61, lay_X9, ⟨tyX9, tyX9_ok, rfl⟩, nmX9, Or.inl rfl⟩
theorem fin_X9_1 : ∀ C T N, mcl[9]? = some (C, T, N) → (T 1).2.2.2 = true ∧ (T 1).1 = "Bandplan$Site" := by
  intro C T N hc
  cases (show some (RX9, TX9, 3) = some (C, T, N) from hc)
  exact ⟨rfl, rfl⟩
theorem sm_X3_75 : SM "Bandplan$Land" 75 Lib.Math.abs.name Lib.Math.abs.code 1 := ⟨aw_3_36, aw_3_37, aw_1_24, aw_3_38⟩
theorem sm_X3_80 : SM "Bandplan$Land" 80 Lib.Math.max.name Lib.Math.max.code 2 := ⟨aw_3_39, aw_3_40, aw_1_24, aw_3_41⟩
theorem fl_X3_83 : FLD "Bandplan$Land" 83 9 2 .int := ⟨RX9, TX9, 3, "Bandplan$Site", rfl, by decide, aw_3_63, lay_X9, ⟨tyX9, tyX9_ok, rfl⟩, nmX9, Or.inl rfl⟩
theorem fin_X9_2 : ∀ C T N, mcl[9]? = some (C, T, N) → (T 2).2.2.2 = true ∧ (T 2).1 = "Bandplan$Site" := by
  intro C T N hc
  cases (show some (RX9, TX9, 3) = some (C, T, N) from hc)
  exact ⟨rfl, rfl⟩
theorem sv_X3_30 : SV "Bandplan$Land" 30 yX3_groundAt cX3_groundAt 3 (some .int) 2 := ⟨aw_2_233, aw_2_235, aw_p_4, aw_1_3, aw_2_236, by decide, by decide, by decide⟩
theorem ss_X3_86 : SS "Bandplan$Land" 86 yJ9_floorDiv_7cf53 cJ9_floorDiv_7cf53 3 (some .int) 2 := ⟨aw_3_42, aw_3_43, aw_1_24, aw_3_44, by decide, by decide, by decide⟩
theorem ss_X3_69 : SS "Bandplan$Land" 69 yX3_rootOf cX3_rootOf 4 (some .int) 1 := ⟨aw_3_29, aw_3_30, aw_1_3, aw_3_31, by decide, by decide, by decide⟩
theorem sv_X3_72 : SV "Bandplan$Land" 72 yX3_blocksBetween cX3_blocksBetween 13 (some .int) 2 := ⟨aw_3_32, aw_3_34, aw_p_7, aw_1_3, aw_3_35, by decide, by decide, by decide⟩
theorem sv_X3_44 : SV "Bandplan$Land" 44 yJx4a65c_size_8abf5 cJx4a65c_size_8abf5 1 (some .int) 0 := ⟨aw_3_6, aw_3_7, aw_3_8, aw_1_6, aw_3_9, by decide, by decide, by decide⟩
theorem sv_X3_52 : SV "Bandplan$Land" 52 yJx4a65c_get_915e3 cJx4a65c_get_915e3 2 (some (.object "java/lang/Object")) 1 := ⟨aw_3_10, aw_3_11, aw_3_12, aw_1_6, aw_3_13, by decide, by decide, by decide⟩
theorem sv_X3_58 : SV "Bandplan$Land" 58 yX3_measure cX3_measure 6 (some .int) 2 := ⟨aw_3_25, aw_3_27, aw_p_6, aw_1_3, aw_3_28, by decide, by decide, by decide⟩
theorem sv_X3_34 : SV "Bandplan$Land" 34 yX7_put cX7_put 3 none 2 := ⟨aw_2_238, aw_2_239, aw_3_0, aw_1_7, aw_3_1, by decide, by decide, by decide⟩
theorem sv_X3_37 : SV "Bandplan$Land" 37 yX3_measureAll cX3_measureAll 4 none 0 := ⟨aw_3_2, aw_3_4, aw_p_5, aw_1_3, aw_3_5, by decide, by decide, by decide⟩
theorem sm_J8_194 : SM "jdk/internal/util/ArraysSupport" 194 Lib.Math.max.name Lib.Math.max.code 2 := ⟨aw_3_94, aw_3_40, aw_1_24, aw_3_41⟩
theorem sm_J7_304 : SM "java/util/Arrays" 304 Lib.Math.min.name Lib.Math.min.code 2 := ⟨aw_3_132, aw_3_133, aw_1_24, aw_3_134⟩
theorem ac_J7_150 : ACP "java/util/Arrays" 150 := ⟨aw_3_135, aw_t3 137 (by decide +kernel) rfl, aw_3_136, aw_1_28⟩
theorem gc_J7_86 : GCL "java/util/Arrays" 86 := ⟨aw_3_102, List.mem_filter.mpr ⟨nw_t5 224 (by decide +kernel), rfl⟩, aw_t5 223 (by decide +kernel) rfl, aw_3_103, aw_t3 125 (by decide +kernel) rfl⟩
theorem ss_J7_300 : SS "java/util/Arrays" 300 yJ7_copyOf_6403c cJ7_copyOf_6403c 4 (some (.array (.object "java/lang/Object"))) 3 := ⟨aw_3_126, aw_3_127, aw_1_27, aw_3_128, by decide, by decide, by decide⟩
theorem ss_Jx4a65c_73 : SS "java/util/ArrayList" 73 yJ8_newLength_cabcc cJ8_newLength_cabcc 4 (some .int) 3 := ⟨aw_3_91, aw_3_92, aw_1_26, aw_3_93, by decide, by decide, by decide⟩
theorem ss_Jx4a65c_66 : SS "java/util/ArrayList" 66 yJ7_copyOf_1904c cJ7_copyOf_1904c 2 (some (.array (.object "java/lang/Object"))) 2 := ⟨aw_3_99, aw_3_100, aw_1_27, aw_3_101, by decide, by decide, by decide⟩
theorem sm_Jx4a65c_79 : SM "java/util/ArrayList" 79 Lib.Math.max.name Lib.Math.max.code 2 := ⟨aw_3_138, aw_3_40, aw_1_24, aw_3_41⟩
theorem sv_Jx4a65c_69 : SV "java/util/ArrayList" 69 yJx4a65c_grow_92f84 cJx4a65c_grow_92f84 4 (some (.array (.object "java/lang/Object"))) 1 := ⟨aw_3_87, aw_3_89, aw_p_10, aw_1_6, aw_3_90, by decide, by decide, by decide⟩
theorem sv_Jx4a65c_129 : SV "java/util/ArrayList" 129 yJx4a65c_grow_d5877 cJx4a65c_grow_d5877 1 (some (.array (.object "java/lang/Object"))) 0 := ⟨aw_3_83, aw_3_85, aw_p_9, aw_1_6, aw_3_86, by decide, by decide, by decide⟩
theorem fl_Jx4a65c_63 : FLD "java/util/ArrayList" 63 14 0 .int := ⟨RJx4a65c, TJx4a65c, 3, "java/util/ArrayList", rfl, by decide, aw_1_71, lay_Jx4a65c, ⟨tyJx4a65c, tyJx4a65c_ok, rfl⟩, nmJx4a65c, Or.inr (aw_t1 72 (by decide +kernel) rfl)⟩
theorem sv_Jx4a65c_131 : SV "java/util/ArrayList" 131 yJx4a65c_add_72be8 cJx4a65c_add_72be8 4 none 3 := ⟨aw_3_79, aw_3_81, aw_p_8, aw_1_6, aw_3_82, by decide, by decide, by decide⟩
theorem sv_X3_40 : SV "Bandplan$Land" 40 yJx4a65c_add_9ea2d cJx4a65c_add_9ea2d 2 (some .boolean) 1 := ⟨aw_3_75, aw_3_76, aw_3_77, aw_1_6, aw_3_78, by decide, by decide, by decide⟩
theorem so_X4_3 : SO "Bandplan$Moving" 3 := ⟨aw_2_16, aw_1_40, aw_1_41⟩
theorem no_X4_9 : NO "Bandplan$Moving" 9 7 1 [.null] := ⟨RX7, TX7, rfl, aw_2_17, aw_1_81, aw_1_7, lay_X7, tyX7, tyX7_ok, fun j hj => by
  match j, hj with
  | 0, _ => rfl
  | j + 1, hj => exact absurd hj (by omega)⟩
theorem si_X4_11 : SI "Bandplan$Moving" 11 yX7_init cX7_init 4 2 := ⟨aw_2_18, aw_1_83, rfl, aw_1_7, aw_1_84, by decide, by decide, by decide⟩
theorem lay_X4 : ∀ w ∈ u_ws RX4 TX4 4, w ∈ AW := by
  intro w hw
  obtain ⟨k, hk, rfl⟩ := List.mem_map.mp hw
  have hk := List.mem_range.mp hk
  match k, hk with
  | 0, _ => exact aw_2_26
  | 1, _ => exact aw_2_28
  | 2, _ => exact aw_2_30
  | 3, _ => exact aw_2_32
  | k + 4, hk => exact absurd hk (by omega)
theorem fl_X4_14 : FLD "Bandplan$Moving" 14 4 0 (.object "Bandplan$Row") := ⟨RX4, TX4, 4, "Bandplan$Moving", rfl, by decide, aw_2_19, lay_X4, ⟨tyX4, tyX4_ok, rfl⟩, nmX4, Or.inl rfl⟩
theorem fin_X4_0 : ∀ C T N, mcl[4]? = some (C, T, N) → (T 0).2.2.2 = true ∧ (T 0).1 = "Bandplan$Moving" := by
  intro C T N hc
  cases (show some (RX4, TX4, 4) = some (C, T, N) from hc)
  exact ⟨rfl, rfl⟩
theorem fl_X4_20 : FLD "Bandplan$Moving" 20 4 1 .boolean := ⟨RX4, TX4, 4, "Bandplan$Moving", rfl, by decide, aw_2_21, lay_X4, ⟨tyX4, tyX4_ok, rfl⟩, nmX4, Or.inl rfl⟩
theorem fin_X4_1 : ∀ C T N, mcl[4]? = some (C, T, N) → (T 1).2.2.2 = false ∧ (T 1).1 = "Bandplan$Moving" := by
  intro C T N hc
  cases (show some (RX4, TX4, 4) = some (C, T, N) from hc)
  exact ⟨rfl, rfl⟩
theorem fl_X4_24 : FLD "Bandplan$Moving" 24 4 2 .int := ⟨RX4, TX4, 4, "Bandplan$Moving", rfl, by decide, aw_2_23, lay_X4, ⟨tyX4, tyX4_ok, rfl⟩, nmX4, Or.inl rfl⟩
theorem fin_X4_2 : ∀ C T N, mcl[4]? = some (C, T, N) → (T 2).2.2.2 = false ∧ (T 2).1 = "Bandplan$Moving" := by
  intro C T N hc
  cases (show some (RX4, TX4, 4) = some (C, T, N) from hc)
  exact ⟨rfl, rfl⟩
theorem fl_X4_28 : FLD "Bandplan$Moving" 28 4 3 .int := ⟨RX4, TX4, 4, "Bandplan$Moving", rfl, by decide, aw_2_25, lay_X4, ⟨tyX4, tyX4_ok, rfl⟩, nmX4, Or.inl rfl⟩
theorem fin_X4_3 : ∀ C T N, mcl[4]? = some (C, T, N) → (T 3).2.2.2 = false ∧ (T 3).1 = "Bandplan$Moving" := by
  intro C T N hc
  cases (show some (RX4, TX4, 4) = some (C, T, N) from hc)
  exact ⟨rfl, rfl⟩
theorem sv_X4_31 : SV "Bandplan$Moving" 31 yX7_fillWith cX7_fillWith 3 none 1 := ⟨aw_5_15, aw_4_142, aw_4_143, aw_1_7, aw_4_144, by decide, by decide, by decide⟩
theorem ssn_X4_35 : SSN "Bandplan$Moving" 35 yX11_isIn "Bandplan" cX11_isIn 2 (some .boolean) 2 := ⟨List.mem_filter.mpr ⟨nw_5_16, rfl⟩, aw_4_170, aw_1_1, aw_4_171, by decide, by decide, by decide⟩
theorem lay_X6 : ∀ w ∈ u_ws RX6 TX6 5, w ∈ AW := by
  intro w hw
  obtain ⟨k, hk, rfl⟩ := List.mem_map.mp hw
  have hk := List.mem_range.mp hk
  match k, hk with
  | 0, _ => exact aw_1_137
  | 1, _ => exact aw_1_139
  | 2, _ => exact aw_1_141
  | 3, _ => exact aw_1_143
  | 4, _ => exact aw_1_145
  | k + 5, hk => exact absurd hk (by omega)
theorem fl_X4_39 : FLD "Bandplan$Moving" 39 6 0 (.object "Bandplan$Row") := ⟨RX6, TX6, 5, "Bandplan$Register", rfl, by decide, aw_1_130, lay_X6, ⟨tyX6, tyX6_ok, rfl⟩, nmX6, Or.inl rfl⟩
theorem fin_X6_0 : ∀ C T N, mcl[6]? = some (C, T, N) → (T 0).2.2.2 = true ∧ (T 0).1 = "Bandplan$Register" := by
  intro C T N hc
  cases (show some (RX6, TX6, 5) = some (C, T, N) from hc)
  exact ⟨rfl, rfl⟩
theorem sv_X4_44 : SV "Bandplan$Moving" 44 yX7_at cX7_at 2 (some .int) 1 := ⟨aw_5_17, aw_2_210, aw_2_211, aw_1_7, aw_2_212, by decide, by decide, by decide⟩
theorem lay_X5 : ∀ w ∈ u_ws RX5 TX5 5, w ∈ AW := by
  intro w hw
  obtain ⟨k, hk, rfl⟩ := List.mem_map.mp hw
  have hk := List.mem_range.mp hk
  match k, hk with
  | 0, _ => exact aw_1_181
  | 1, _ => exact aw_1_183
  | 2, _ => exact aw_1_185
  | 3, _ => exact aw_1_187
  | 4, _ => exact aw_1_189
  | k + 5, hk => exact absurd hk (by omega)
theorem fl_X4_48 : FLD "Bandplan$Moving" 48 5 0 (.object "Bandplan$Row") := ⟨RX5, TX5, 5, "Bandplan$Packer", rfl, by decide, aw_1_175, lay_X5, ⟨tyX5, tyX5_ok, rfl⟩, nmX5, Or.inl rfl⟩
theorem fin_X5_0 : ∀ C T N, mcl[5]? = some (C, T, N) → (T 0).2.2.2 = true ∧ (T 0).1 = "Bandplan$Packer" := by
  intro C T N hc
  cases (show some (RX5, TX5, 5) = some (C, T, N) from hc)
  exact ⟨rfl, rfl⟩
theorem sv_X4_53 : SV "Bandplan$Moving" 53 yX7_put cX7_put 3 none 2 := ⟨aw_5_18, aw_2_239, aw_3_0, aw_1_7, aw_3_1, by decide, by decide, by decide⟩
theorem sm_X5_59 : SM "Bandplan$Packer" 59 Lib.Math.abs.name Lib.Math.abs.code 1 := ⟨aw_4_176, aw_3_37, aw_1_24, aw_3_38⟩
theorem fl_X5_20 : FLD "Bandplan$Packer" 20 5 1 (.object "Bandplan$Row") := ⟨RX5, TX5, 5, "Bandplan$Packer", rfl, by decide, aw_1_177, lay_X5, ⟨tyX5, tyX5_ok, rfl⟩, nmX5, Or.inl rfl⟩
theorem fin_X5_1 : ∀ C T N, mcl[5]? = some (C, T, N) → (T 1).2.2.2 = true ∧ (T 1).1 = "Bandplan$Packer" := by
  intro C T N hc
  cases (show some (RX5, TX5, 5) = some (C, T, N) from hc)
  exact ⟨rfl, rfl⟩
theorem sv_X5_65 : SV "Bandplan$Packer" 65 yX7_at cX7_at 2 (some .int) 1 := ⟨aw_4_161, aw_2_210, aw_2_211, aw_1_7, aw_2_212, by decide, by decide, by decide⟩
theorem fl_X4_67 : FLD "Bandplan$Moving" 67 0 1 (.object "java/util/ArrayList") := ⟨RX0, TX0, 3, "Bandplan$Air", rfl, by decide, aw_1_110, lay_X0, ⟨tyX0, tyX0_ok, rfl⟩, nmX0, Or.inl rfl⟩
theorem sv_X4_73 : SV "Bandplan$Moving" 73 yJx4a65c_size_8abf5 cJx4a65c_size_8abf5 1 (some .int) 0 := ⟨aw_5_27, aw_3_7, aw_3_8, aw_1_6, aw_3_9, by decide, by decide, by decide⟩
theorem sv_X4_87 : SV "Bandplan$Moving" 87 yJx4a65c_get_915e3 cJx4a65c_get_915e3 2 (some (.object "java/lang/Object")) 1 := ⟨aw_5_31, aw_3_11, aw_3_12, aw_1_6, aw_3_13, by decide, by decide, by decide⟩
theorem fl_X4_93 : FLD "Bandplan$Moving" 93 10 4 .boolean := ⟨RX10, TX10, 6, "Bandplan$Station", rfl, by decide, aw_3_169, lay_X10, ⟨tyX10, tyX10_ok, rfl⟩, nmX10, Or.inl rfl⟩
theorem sv_X4_96 : SV "Bandplan$Moving" 96 yX5_areTooNear cX5_areTooNear 5 (some .boolean) 4 := ⟨aw_5_33, aw_5_34, aw_5_35, aw_1_10, aw_5_36, by decide, by decide, by decide⟩
theorem fl_X6_20 : FLD "Bandplan$Register" 20 6 2 (.object "Bandplan$Row") := ⟨RX6, TX6, 5, "Bandplan$Register", rfl, by decide, aw_1_134, lay_X6, ⟨tyX6, tyX6_ok, rfl⟩, nmX6, Or.inl rfl⟩
theorem fin_X6_2 : ∀ C T N, mcl[6]? = some (C, T, N) → (T 2).2.2.2 = true ∧ (T 2).1 = "Bandplan$Register" := by
  intro C T N hc
  cases (show some (RX6, TX6, 5) = some (C, T, N) from hc)
  exact ⟨rfl, rfl⟩
theorem sv_X6_29 : SV "Bandplan$Register" 29 yX7_at cX7_at 2 (some .int) 1 := ⟨aw_2_209, aw_2_210, aw_2_211, aw_1_7, aw_2_212, by decide, by decide, by decide⟩
theorem fl_X6_23 : FLD "Bandplan$Register" 23 6 3 (.object "Bandplan$Row") := ⟨RX6, TX6, 5, "Bandplan$Register", rfl, by decide, aw_1_135, lay_X6, ⟨tyX6, tyX6_ok, rfl⟩, nmX6, Or.inl rfl⟩
theorem fin_X6_3 : ∀ C T N, mcl[6]? = some (C, T, N) → (T 3).2.2.2 = true ∧ (T 3).1 = "Bandplan$Register" := by
  intro C T N hc
  cases (show some (RX6, TX6, 5) = some (C, T, N) from hc)
  exact ⟨rfl, rfl⟩
theorem ss_X6_39 : SS "Bandplan$Register" 39 yX6_lineOf cX6_lineOf 2 (some .int) 2 := ⟨aw_4_68, aw_4_69, aw_1_8, aw_4_70, by decide, by decide, by decide⟩
theorem fl_X6_43 : FLD "Bandplan$Register" 43 6 1 .int := ⟨RX6, TX6, 5, "Bandplan$Register", rfl, by decide, aw_1_132, lay_X6, ⟨tyX6, tyX6_ok, rfl⟩, nmX6, Or.inl rfl⟩
theorem fin_X6_1 : ∀ C T N, mcl[6]? = some (C, T, N) → (T 1).2.2.2 = false ∧ (T 1).1 = "Bandplan$Register" := by
  intro C T N hc
  cases (show some (RX6, TX6, 5) = some (C, T, N) from hc)
  exact ⟨rfl, rfl⟩
theorem sv_X6_33 : SV "Bandplan$Register" 33 yX7_put cX7_put 3 none 2 := ⟨aw_4_63, aw_2_239, aw_3_0, aw_1_7, aw_3_1, by decide, by decide, by decide⟩
theorem fl_X6_26 : FLD "Bandplan$Register" 26 6 4 (.object "Bandplan$Row") := ⟨RX6, TX6, 5, "Bandplan$Register", rfl, by decide, aw_1_136, lay_X6, ⟨tyX6, tyX6_ok, rfl⟩, nmX6, Or.inl rfl⟩
theorem fin_X6_4 : ∀ C T N, mcl[6]? = some (C, T, N) → (T 4).2.2.2 = true ∧ (T 4).1 = "Bandplan$Register" := by
  intro C T N hc
  cases (show some (RX6, TX6, 5) = some (C, T, N) from hc)
  exact ⟨rfl, rfl⟩
theorem fl_X6_14 : FLD "Bandplan$Register" 14 6 0 (.object "Bandplan$Row") := ⟨RX6, TX6, 5, "Bandplan$Register", rfl, by decide, aw_1_129, lay_X6, ⟨tyX6, tyX6_ok, rfl⟩, nmX6, Or.inl rfl⟩
theorem sv_X6_36 : SV "Bandplan$Register" 36 yX6_write cX6_write 5 none 2 := ⟨aw_4_64, aw_4_66, aw_p_18, aw_1_8, aw_4_67, by decide, by decide, by decide⟩
theorem sv_X4_64 : SV "Bandplan$Moving" 64 yX6_change cX6_change 3 none 2 := ⟨aw_5_37, aw_4_60, aw_4_61, aw_1_8, aw_4_62, by decide, by decide, by decide⟩
theorem ss_X4_79 : SS "Bandplan$Moving" 79 yX4_isFree cX4_isFree 7 (some .boolean) 4 := ⟨aw_5_28, aw_5_29, aw_1_13, aw_5_30, by decide, by decide, by decide⟩
theorem ss_X4_83 : SS "Bandplan$Moving" 83 yX4_silenceSecondariesNear cX4_silenceSecondariesNear 7 none 4 := ⟨aw_5_38, aw_5_39, aw_1_13, aw_5_40, by decide, by decide, by decide⟩
theorem sv_X4_56 : SV "Bandplan$Moving" 56 yX4_holdPhase cX4_holdPhase 8 (some .boolean) 5 := ⟨aw_5_23, aw_5_25, aw_p_26, aw_1_13, aw_5_26, by decide, by decide, by decide⟩
theorem sv_X4_60 : SV "Bandplan$Moving" 60 yX4_lowestWaitingOn cX4_lowestWaitingOn 3 (some .int) 1 := ⟨aw_5_41, aw_5_43, aw_p_27, aw_1_13, aw_5_44, by decide, by decide, by decide⟩
theorem so_X5_3 : SO "Bandplan$Packer" 3 := ⟨aw_1_171, aw_1_40, aw_1_41⟩
theorem no_X5_9 : NO "Bandplan$Packer" 9 7 1 [.null] := ⟨RX7, TX7, rfl, aw_1_172, aw_1_81, aw_1_7, lay_X7, tyX7, tyX7_ok, fun j hj => by
  match j, hj with
  | 0, _ => rfl
  | j + 1, hj => exact absurd hj (by omega)⟩
theorem si_X5_11 : SI "Bandplan$Packer" 11 yX7_init cX7_init 4 2 := ⟨aw_1_173, aw_1_83, rfl, aw_1_7, aw_1_84, by decide, by decide, by decide⟩
theorem fl_X5_14 : FLD "Bandplan$Packer" 14 5 0 (.object "Bandplan$Row") := ⟨RX5, TX5, 5, "Bandplan$Packer", rfl, by decide, aw_1_174, lay_X5, ⟨tyX5, tyX5_ok, rfl⟩, nmX5, Or.inl rfl⟩
theorem fl_X5_23 : FLD "Bandplan$Packer" 23 5 2 (.object "Bandplan$Row") := ⟨RX5, TX5, 5, "Bandplan$Packer", rfl, by decide, aw_1_178, lay_X5, ⟨tyX5, tyX5_ok, rfl⟩, nmX5, Or.inl rfl⟩
theorem fin_X5_2 : ∀ C T N, mcl[5]? = some (C, T, N) → (T 2).2.2.2 = true ∧ (T 2).1 = "Bandplan$Packer" := by
  intro C T N hc
  cases (show some (RX5, TX5, 5) = some (C, T, N) from hc)
  exact ⟨rfl, rfl⟩
theorem sv_X5_87 : SV "Bandplan$Packer" 87 yX0_barEachOther cX0_barEachOther 4 (some .boolean) 3 := ⟨aw_4_151, aw_4_4, aw_4_5, aw_1_2, aw_4_6, by decide, by decide, by decide⟩
theorem fl_X5_26 : FLD "Bandplan$Packer" 26 5 3 .int := ⟨RX5, TX5, 5, "Bandplan$Packer", rfl, by decide, aw_1_179, lay_X5, ⟨tyX5, tyX5_ok, rfl⟩, nmX5, Or.inl rfl⟩
theorem fin_X5_3 : ∀ C T N, mcl[5]? = some (C, T, N) → (T 3).2.2.2 = false ∧ (T 3).1 = "Bandplan$Packer" := by
  intro C T N hc
  cases (show some (RX5, TX5, 5) = some (C, T, N) from hc)
  exact ⟨rfl, rfl⟩
theorem sv_X5_30 : SV "Bandplan$Packer" 30 yX7_fillWith cX7_fillWith 3 none 1 := ⟨aw_4_141, aw_4_142, aw_4_143, aw_1_7, aw_4_144, by decide, by decide, by decide⟩
theorem fl_X5_34 : FLD "Bandplan$Packer" 34 0 1 (.object "java/util/ArrayList") := ⟨RX0, TX0, 3, "Bandplan$Air", rfl, by decide, aw_1_108, lay_X0, ⟨tyX0, tyX0_ok, rfl⟩, nmX0, Or.inl rfl⟩
theorem sv_X5_40 : SV "Bandplan$Packer" 40 yJx4a65c_size_8abf5 cJx4a65c_size_8abf5 1 (some .int) 0 := ⟨aw_4_145, aw_3_7, aw_3_8, aw_1_6, aw_3_9, by decide, by decide, by decide⟩
theorem sv_X5_46 : SV "Bandplan$Packer" 46 yJx4a65c_get_915e3 cJx4a65c_get_915e3 2 (some (.object "java/lang/Object")) 1 := ⟨aw_4_146, aw_3_11, aw_3_12, aw_1_6, aw_3_13, by decide, by decide, by decide⟩
theorem ss_X5_52 : SS "Bandplan$Packer" 52 yX5_leastSpacing cX5_leastSpacing 4 (some .int) 3 := ⟨aw_4_148, aw_4_149, aw_1_10, aw_4_150, by decide, by decide, by decide⟩
theorem sv_X5_56 : SV "Bandplan$Packer" 56 yX7_put cX7_put 3 none 2 := ⟨aw_4_152, aw_2_239, aw_3_0, aw_1_7, aw_3_1, by decide, by decide, by decide⟩
theorem fl_X5_72 : FLD "Bandplan$Packer" 72 5 4 .int := ⟨RX5, TX5, 5, "Bandplan$Packer", rfl, by decide, aw_1_180, lay_X5, ⟨tyX5, tyX5_ok, rfl⟩, nmX5, Or.inl rfl⟩
theorem fin_X5_4 : ∀ C T N, mcl[5]? = some (C, T, N) → (T 4).2.2.2 = false ∧ (T 4).1 = "Bandplan$Packer" := by
  intro C T N hc
  cases (show some (RX5, TX5, 5) = some (C, T, N) from hc)
  exact ⟨rfl, rfl⟩
theorem ssn_X5_79 : SSN "Bandplan$Packer" 79 yX11_isIn "Bandplan" cX11_isIn 2 (some .boolean) 2 := ⟨List.mem_filter.mpr ⟨nw_4_169, rfl⟩, aw_4_170, aw_1_1, aw_4_171, by decide, by decide, by decide⟩
theorem sv_X5_83 : SV "Bandplan$Packer" 83 yX5_lowerTooNear cX5_lowerTooNear 5 (some .int) 2 := ⟨aw_4_172, aw_4_174, aw_p_19, aw_1_10, aw_4_175, by decide, by decide, by decide⟩
theorem ss_X5_75 : SS "Bandplan$Packer" 75 yX5_place cX5_place 6 (some .int) 2 := ⟨aw_4_166, aw_4_167, aw_1_10, aw_4_168, by decide, by decide, by decide⟩
theorem sv_X5_68 : SV "Bandplan$Packer" 68 yX5_findFirst cX5_findFirst 2 (some .boolean) 1 := ⟨aw_4_162, aw_4_163, aw_4_164, aw_1_10, aw_4_165, by decide, by decide, by decide⟩
theorem so_X6_3 : SO "Bandplan$Register" 3 := ⟨aw_1_126, aw_1_40, aw_1_41⟩
theorem no_X6_9 : NO "Bandplan$Register" 9 7 1 [.null] := ⟨RX7, TX7, rfl, aw_1_127, aw_1_81, aw_1_7, lay_X7, tyX7, tyX7_ok, fun j hj => by
  match j, hj with
  | 0, _ => rfl
  | j + 1, hj => exact absurd hj (by omega)⟩
theorem si_X6_11 : SI "Bandplan$Register" 11 yX7_init cX7_init 4 2 := ⟨aw_1_128, aw_1_83, rfl, aw_1_7, aw_1_84, by decide, by decide, by decide⟩
theorem sv_X6_47 : SV "Bandplan$Register" 47 yX6_channelAt cX6_channelAt 4 (some .int) 2 := ⟨aw_5_147, aw_5_85, aw_5_86, aw_1_8, aw_5_87, by decide, by decide, by decide⟩
theorem sv_X7_13 : SV "Bandplan$Row" 13 yX7_at cX7_at 2 (some .int) 1 := ⟨aw_3_235, aw_2_210, aw_2_211, aw_1_7, aw_2_212, by decide, by decide, by decide⟩
theorem so_X8_3 : SO "Bandplan$Selling" 3 := ⟨aw_1_197, aw_1_40, aw_1_41⟩
theorem no_X8_9 : NO "Bandplan$Selling" 9 7 1 [.null] := ⟨RX7, TX7, rfl, aw_1_198, aw_1_81, aw_1_7, lay_X7, tyX7, tyX7_ok, fun j hj => by
  match j, hj with
  | 0, _ => rfl
  | j + 1, hj => exact absurd hj (by omega)⟩
theorem si_X8_11 : SI "Bandplan$Selling" 11 yX7_init cX7_init 4 2 := ⟨aw_1_199, aw_1_83, rfl, aw_1_7, aw_1_84, by decide, by decide, by decide⟩
theorem lay_X8 : ∀ w ∈ u_ws RX8 TX8 6, w ∈ AW := by
  intro w hw
  obtain ⟨k, hk, rfl⟩ := List.mem_map.mp hw
  have hk := List.mem_range.mp hk
  match k, hk with
  | 0, _ => exact aw_1_211
  | 1, _ => exact aw_1_213
  | 2, _ => exact aw_1_215
  | 3, _ => exact aw_1_217
  | 4, _ => exact aw_1_219
  | 5, _ => exact aw_1_221
  | k + 6, hk => exact absurd hk (by omega)
theorem fl_X8_14 : FLD "Bandplan$Selling" 14 8 0 (.object "Bandplan$Row") := ⟨RX8, TX8, 6, "Bandplan$Selling", rfl, by decide, aw_1_200, lay_X8, ⟨tyX8, tyX8_ok, rfl⟩, nmX8, Or.inl rfl⟩
theorem fin_X8_0 : ∀ C T N, mcl[8]? = some (C, T, N) → (T 0).2.2.2 = true ∧ (T 0).1 = "Bandplan$Selling" := by
  intro C T N hc
  cases (show some (RX8, TX8, 6) = some (C, T, N) from hc)
  exact ⟨rfl, rfl⟩
theorem fl_X8_20 : FLD "Bandplan$Selling" 20 8 5 (.object "Bandplan$Row") := ⟨RX8, TX8, 6, "Bandplan$Selling", rfl, by decide, aw_1_210, lay_X8, ⟨tyX8, tyX8_ok, rfl⟩, nmX8, Or.inl rfl⟩
theorem fin_X8_5 : ∀ C T N, mcl[8]? = some (C, T, N) → (T 5).2.2.2 = true ∧ (T 5).1 = "Bandplan$Selling" := by
  intro C T N hc
  cases (show some (RX8, TX8, 6) = some (C, T, N) from hc)
  exact ⟨rfl, rfl⟩
theorem fl_X8_23 : FLD "Bandplan$Selling" 23 8 2 .int := ⟨RX8, TX8, 6, "Bandplan$Selling", rfl, by decide, aw_1_204, lay_X8, ⟨tyX8, tyX8_ok, rfl⟩, nmX8, Or.inl rfl⟩
theorem fin_X8_2 : ∀ C T N, mcl[8]? = some (C, T, N) → (T 2).2.2.2 = false ∧ (T 2).1 = "Bandplan$Selling" := by
  intro C T N hc
  cases (show some (RX8, TX8, 6) = some (C, T, N) from hc)
  exact ⟨rfl, rfl⟩
theorem fl_X8_27 : FLD "Bandplan$Selling" 27 8 1 .boolean := ⟨RX8, TX8, 6, "Bandplan$Selling", rfl, by decide, aw_1_202, lay_X8, ⟨tyX8, tyX8_ok, rfl⟩, nmX8, Or.inl rfl⟩
theorem fin_X8_1 : ∀ C T N, mcl[8]? = some (C, T, N) → (T 1).2.2.2 = false ∧ (T 1).1 = "Bandplan$Selling" := by
  intro C T N hc
  cases (show some (RX8, TX8, 6) = some (C, T, N) from hc)
  exact ⟨rfl, rfl⟩
theorem fl_X8_31 : FLD "Bandplan$Selling" 31 8 3 .int := ⟨RX8, TX8, 6, "Bandplan$Selling", rfl, by decide, aw_1_206, lay_X8, ⟨tyX8, tyX8_ok, rfl⟩, nmX8, Or.inl rfl⟩
theorem fin_X8_3 : ∀ C T N, mcl[8]? = some (C, T, N) → (T 3).2.2.2 = false ∧ (T 3).1 = "Bandplan$Selling" := by
  intro C T N hc
  cases (show some (RX8, TX8, 6) = some (C, T, N) from hc)
  exact ⟨rfl, rfl⟩
theorem fl_X8_34 : FLD "Bandplan$Selling" 34 8 4 .int := ⟨RX8, TX8, 6, "Bandplan$Selling", rfl, by decide, aw_1_208, lay_X8, ⟨tyX8, tyX8_ok, rfl⟩, nmX8, Or.inl rfl⟩
theorem fin_X8_4 : ∀ C T N, mcl[8]? = some (C, T, N) → (T 4).2.2.2 = false ∧ (T 4).1 = "Bandplan$Selling" := by
  intro C T N hc
  cases (show some (RX8, TX8, 6) = some (C, T, N) from hc)
  exact ⟨rfl, rfl⟩
theorem sv_X8_37 : SV "Bandplan$Selling" 37 yX7_fillWith cX7_fillWith 3 none 1 := ⟨aw_4_182, aw_4_142, aw_4_143, aw_1_7, aw_4_144, by decide, by decide, by decide⟩
theorem fl_X8_84 : FLD "Bandplan$Selling" 84 10 0 .int := ⟨RX10, TX10, 6, "Bandplan$Station", rfl, by decide, aw_3_159, lay_X10, ⟨tyX10, tyX10_ok, rfl⟩, nmX10, Or.inl rfl⟩
theorem sv_X8_87 : SV "Bandplan$Selling" 87 yX7_put cX7_put 3 none 2 := ⟨aw_4_200, aw_2_239, aw_3_0, aw_1_7, aw_3_1, by decide, by decide, by decide⟩
theorem fl_X8_81 : FLD "Bandplan$Selling" 81 10 5 .int := ⟨RX10, TX10, 6, "Bandplan$Station", rfl, by decide, aw_3_171, lay_X10, ⟨tyX10, tyX10_ok, rfl⟩, nmX10, Or.inl rfl⟩
theorem fl_X8_45 : FLD "Bandplan$Selling" 45 0 1 (.object "java/util/ArrayList") := ⟨RX0, TX0, 3, "Bandplan$Air", rfl, by decide, aw_1_109, lay_X0, ⟨tyX0, tyX0_ok, rfl⟩, nmX0, Or.inl rfl⟩
theorem sv_X8_51 : SV "Bandplan$Selling" 51 yJx4a65c_size_8abf5 cJx4a65c_size_8abf5 1 (some .int) 0 := ⟨aw_4_191, aw_3_7, aw_3_8, aw_1_6, aw_3_9, by decide, by decide, by decide⟩
theorem ssn_X8_57 : SSN "Bandplan$Selling" 57 yX11_isIn "Bandplan" cX11_isIn 2 (some .boolean) 2 := ⟨List.mem_filter.mpr ⟨nw_4_192, rfl⟩, aw_4_170, aw_1_1, aw_4_171, by decide, by decide, by decide⟩
theorem sv_X8_61 : SV "Bandplan$Selling" 61 yJx4a65c_get_915e3 cJx4a65c_get_915e3 2 (some (.object "java/lang/Object")) 1 := ⟨aw_4_193, aw_3_11, aw_3_12, aw_1_6, aw_3_13, by decide, by decide, by decide⟩
theorem sv_X8_75 : SV "Bandplan$Selling" 75 yX5_fits cX5_fits 2 (some .boolean) 1 := ⟨aw_4_195, aw_4_158, aw_4_159, aw_1_10, aw_4_160, by decide, by decide, by decide⟩
theorem sv_X8_67 : SV "Bandplan$Selling" 67 yX8_take cX8_take 3 none 2 := ⟨aw_4_196, aw_4_198, aw_p_21, aw_1_11, aw_4_199, by decide, by decide, by decide⟩
theorem sv_X8_41 : SV "Bandplan$Selling" 41 yX8_holdRound cX8_holdRound 10 (some .int) 5 := ⟨aw_4_187, aw_4_189, aw_p_20, aw_1_11, aw_4_190, by decide, by decide, by decide⟩
theorem sv_X8_71 : SV "Bandplan$Selling" 71 yX7_at cX7_at 2 (some .int) 1 := ⟨aw_5_156, aw_2_210, aw_2_211, aw_1_7, aw_2_212, by decide, by decide, by decide⟩
theorem so_X9_1 : SO "Bandplan$Site" 1 := ⟨aw_3_56, aw_1_40, aw_1_41⟩
theorem fl_X9_7 : FLD "Bandplan$Site" 7 9 0 .int := ⟨RX9, TX9, 3, "Bandplan$Site", rfl, by decide, aw_3_57, lay_X9, ⟨tyX9, tyX9_ok, rfl⟩, nmX9, Or.inl rfl⟩
theorem fl_X9_13 : FLD "Bandplan$Site" 13 9 1 .int := ⟨RX9, TX9, 3, "Bandplan$Site", rfl, by decide, aw_3_60, lay_X9, ⟨tyX9, tyX9_ok, rfl⟩, nmX9, Or.inl rfl⟩
theorem fl_X9_16 : FLD "Bandplan$Site" 16 9 2 .int := ⟨RX9, TX9, 3, "Bandplan$Site", rfl, by decide, aw_3_62, lay_X9, ⟨tyX9, tyX9_ok, rfl⟩, nmX9, Or.inl rfl⟩
theorem so_X10_1 : SO "Bandplan$Station" 1 := ⟨aw_3_156, aw_1_40, aw_1_41⟩
theorem fl_X10_7 : FLD "Bandplan$Station" 7 10 0 .int := ⟨RX10, TX10, 6, "Bandplan$Station", rfl, by decide, aw_3_157, lay_X10, ⟨tyX10, tyX10_ok, rfl⟩, nmX10, Or.inl rfl⟩
theorem fl_X10_13 : FLD "Bandplan$Station" 13 10 1 .int := ⟨RX10, TX10, 6, "Bandplan$Station", rfl, by decide, aw_3_161, lay_X10, ⟨tyX10, tyX10_ok, rfl⟩, nmX10, Or.inl rfl⟩
theorem fl_X10_16 : FLD "Bandplan$Station" 16 10 2 .int := ⟨RX10, TX10, 6, "Bandplan$Station", rfl, by decide, aw_3_163, lay_X10, ⟨tyX10, tyX10_ok, rfl⟩, nmX10, Or.inl rfl⟩
theorem fl_X10_19 : FLD "Bandplan$Station" 19 10 3 .int := ⟨RX10, TX10, 6, "Bandplan$Station", rfl, by decide, aw_3_165, lay_X10, ⟨tyX10, tyX10_ok, rfl⟩, nmX10, Or.inl rfl⟩
theorem fl_X10_22 : FLD "Bandplan$Station" 22 10 4 .boolean := ⟨RX10, TX10, 6, "Bandplan$Station", rfl, by decide, aw_3_167, lay_X10, ⟨tyX10, tyX10_ok, rfl⟩, nmX10, Or.inl rfl⟩
theorem so_X11_1 : SO "Bandplan" 1 := ⟨aw_1_39, aw_1_40, aw_1_41⟩
theorem no_X11_7 : NO "Bandplan" 7 0 3 [.null, .null, .int 0] := ⟨RX0, TX0, rfl, aw_1_42, aw_1_43, aw_1_2, lay_X0, tyX0, tyX0_ok, fun j hj => by
  match j, hj with
  | 0, _ => rfl
  | 1, _ => rfl
  | 2, _ => rfl
  | j + 3, hj => exact absurd hj (by omega)⟩
theorem sin_X11_9 : SIN "Bandplan" 9 yX0_init "Bandplan" cX0_init 1 0 := ⟨List.mem_filter.mpr ⟨nw_1_44, rfl⟩, aw_1_45, rfl, aw_1_2, aw_1_46, by decide, by decide, by decide⟩
theorem lay_X11 : ∀ w ∈ u_ws RX11 TX11 8, w ∈ AW := by
  intro w hw
  obtain ⟨k, hk, rfl⟩ := List.mem_map.mp hw
  have hk := List.mem_range.mp hk
  match k, hk with
  | 0, _ => exact aw_2_45
  | 1, _ => exact aw_2_47
  | 2, _ => exact aw_2_49
  | 3, _ => exact aw_2_51
  | 4, _ => exact aw_2_53
  | 5, _ => exact aw_2_55
  | 6, _ => exact aw_2_57
  | 7, _ => exact aw_2_59
  | k + 8, hk => exact absurd hk (by omega)
theorem fl_X11_10 : FLD "Bandplan" 10 11 0 (.object "Bandplan$Air") := ⟨RX11, TX11, 8, "Bandplan", rfl, by decide, aw_2_37, lay_X11, ⟨tyX11, tyX11_ok, rfl⟩, nmX11, Or.inl rfl⟩
theorem fin_X11_0 : ∀ C T N, mcl[11]? = some (C, T, N) → (T 0).2.2.2 = true ∧ (T 0).1 = "Bandplan" := by
  intro C T N hc
  cases (show some (RX11, TX11, 8) = some (C, T, N) from hc)
  exact ⟨rfl, rfl⟩
theorem no_X11_16 : NO "Bandplan" 16 6 5 [.null, .int 0, .null, .null, .null] := ⟨RX6, TX6, rfl, aw_1_121, aw_1_122, aw_1_8, lay_X6, tyX6, tyX6_ok, fun j hj => by
  match j, hj with
  | 0, _ => rfl
  | 1, _ => rfl
  | 2, _ => rfl
  | 3, _ => rfl
  | 4, _ => rfl
  | j + 5, hj => exact absurd hj (by omega)⟩
theorem sin_X11_18 : SIN "Bandplan" 18 yX6_init "Bandplan" cX6_init 1 0 := ⟨List.mem_filter.mpr ⟨nw_1_123, rfl⟩, aw_1_124, rfl, aw_1_8, aw_1_125, by decide, by decide, by decide⟩
theorem fl_X11_19 : FLD "Bandplan" 19 11 1 (.object "Bandplan$Register") := ⟨RX11, TX11, 8, "Bandplan", rfl, by decide, aw_2_38, lay_X11, ⟨tyX11, tyX11_ok, rfl⟩, nmX11, Or.inl rfl⟩
theorem fin_X11_1 : ∀ C T N, mcl[11]? = some (C, T, N) → (T 1).2.2.2 = true ∧ (T 1).1 = "Bandplan" := by
  intro C T N hc
  cases (show some (RX11, TX11, 8) = some (C, T, N) from hc)
  exact ⟨rfl, rfl⟩
theorem no_X11_23 : NO "Bandplan" 23 1 3 [.null, .null, .null] := ⟨RX1, TX1, rfl, aw_1_148, aw_1_149, aw_1_9, lay_X1, tyX1, tyX1_ok, fun j hj => by
  match j, hj with
  | 0, _ => rfl
  | 1, _ => rfl
  | 2, _ => rfl
  | j + 3, hj => exact absurd hj (by omega)⟩
theorem sin_X11_25 : SIN "Bandplan" 25 yX1_init "Bandplan" cX1_init 1 0 := ⟨List.mem_filter.mpr ⟨nw_1_150, rfl⟩, aw_1_151, rfl, aw_1_9, aw_1_152, by decide, by decide, by decide⟩
theorem fl_X11_26 : FLD "Bandplan" 26 11 2 (.object "Bandplan$Border") := ⟨RX11, TX11, 8, "Bandplan", rfl, by decide, aw_2_39, lay_X11, ⟨tyX11, tyX11_ok, rfl⟩, nmX11, Or.inl rfl⟩
theorem fin_X11_2 : ∀ C T N, mcl[11]? = some (C, T, N) → (T 2).2.2.2 = true ∧ (T 2).1 = "Bandplan" := by
  intro C T N hc
  cases (show some (RX11, TX11, 8) = some (C, T, N) from hc)
  exact ⟨rfl, rfl⟩
theorem no_X11_30 : NO "Bandplan" 30 5 5 [.null, .null, .null, .int 0, .int 0] := ⟨RX5, TX5, rfl, aw_1_166, aw_1_167, aw_1_10, lay_X5, tyX5, tyX5_ok, fun j hj => by
  match j, hj with
  | 0, _ => rfl
  | 1, _ => rfl
  | 2, _ => rfl
  | 3, _ => rfl
  | 4, _ => rfl
  | j + 5, hj => exact absurd hj (by omega)⟩
theorem sin_X11_32 : SIN "Bandplan" 32 yX5_init "Bandplan" cX5_init 1 0 := ⟨List.mem_filter.mpr ⟨nw_1_168, rfl⟩, aw_1_169, rfl, aw_1_10, aw_1_170, by decide, by decide, by decide⟩
theorem fl_X11_33 : FLD "Bandplan" 33 11 3 (.object "Bandplan$Packer") := ⟨RX11, TX11, 8, "Bandplan", rfl, by decide, aw_2_40, lay_X11, ⟨tyX11, tyX11_ok, rfl⟩, nmX11, Or.inl rfl⟩
theorem fin_X11_3 : ∀ C T N, mcl[11]? = some (C, T, N) → (T 3).2.2.2 = true ∧ (T 3).1 = "Bandplan" := by
  intro C T N hc
  cases (show some (RX11, TX11, 8) = some (C, T, N) from hc)
  exact ⟨rfl, rfl⟩
theorem no_X11_37 : NO "Bandplan" 37 8 6 [.null, .int 0, .int 0, .int 0, .int 0, .null] := ⟨RX8, TX8, rfl, aw_1_192, aw_1_193, aw_1_11, lay_X8, tyX8, tyX8_ok, fun j hj => by
  match j, hj with
  | 0, _ => rfl
  | 1, _ => rfl
  | 2, _ => rfl
  | 3, _ => rfl
  | 4, _ => rfl
  | 5, _ => rfl
  | j + 6, hj => exact absurd hj (by omega)⟩
theorem sin_X11_39 : SIN "Bandplan" 39 yX8_init "Bandplan" cX8_init 1 0 := ⟨List.mem_filter.mpr ⟨nw_1_194, rfl⟩, aw_1_195, rfl, aw_1_11, aw_1_196, by decide, by decide, by decide⟩
theorem fl_X11_40 : FLD "Bandplan" 40 11 4 (.object "Bandplan$Selling") := ⟨RX11, TX11, 8, "Bandplan", rfl, by decide, aw_2_41, lay_X11, ⟨tyX11, tyX11_ok, rfl⟩, nmX11, Or.inl rfl⟩
theorem fin_X11_4 : ∀ C T N, mcl[11]? = some (C, T, N) → (T 4).2.2.2 = true ∧ (T 4).1 = "Bandplan" := by
  intro C T N hc
  cases (show some (RX11, TX11, 8) = some (C, T, N) from hc)
  exact ⟨rfl, rfl⟩
theorem no_X11_44 : NO "Bandplan" 44 2 5 [.null, .null, .int 0, .null, .null] := ⟨RX2, TX2, rfl, aw_1_224, aw_1_225, aw_1_12, lay_X2, tyX2, tyX2_ok, fun j hj => by
  match j, hj with
  | 0, _ => rfl
  | 1, _ => rfl
  | 2, _ => rfl
  | 3, _ => rfl
  | 4, _ => rfl
  | j + 5, hj => exact absurd hj (by omega)⟩
theorem sin_X11_46 : SIN "Bandplan" 46 yX2_init "Bandplan" cX2_init 1 0 := ⟨List.mem_filter.mpr ⟨nw_1_226, rfl⟩, aw_1_227, rfl, aw_1_12, aw_1_228, by decide, by decide, by decide⟩
theorem fl_X11_47 : FLD "Bandplan" 47 11 5 (.object "Bandplan$Buying") := ⟨RX11, TX11, 8, "Bandplan", rfl, by decide, aw_2_42, lay_X11, ⟨tyX11, tyX11_ok, rfl⟩, nmX11, Or.inl rfl⟩
theorem fin_X11_5 : ∀ C T N, mcl[11]? = some (C, T, N) → (T 5).2.2.2 = true ∧ (T 5).1 = "Bandplan" := by
  intro C T N hc
  cases (show some (RX11, TX11, 8) = some (C, T, N) from hc)
  exact ⟨rfl, rfl⟩
theorem no_X11_51 : NO "Bandplan" 51 4 4 [.null, .int 0, .int 0, .int 0] := ⟨RX4, TX4, rfl, aw_2_11, aw_2_12, aw_1_13, lay_X4, tyX4, tyX4_ok, fun j hj => by
  match j, hj with
  | 0, _ => rfl
  | 1, _ => rfl
  | 2, _ => rfl
  | 3, _ => rfl
  | j + 4, hj => exact absurd hj (by omega)⟩
theorem sin_X11_53 : SIN "Bandplan" 53 yX4_init "Bandplan" cX4_init 1 0 := ⟨List.mem_filter.mpr ⟨nw_2_13, rfl⟩, aw_2_14, rfl, aw_1_13, aw_2_15, by decide, by decide, by decide⟩
theorem fl_X11_54 : FLD "Bandplan" 54 11 6 (.object "Bandplan$Moving") := ⟨RX11, TX11, 8, "Bandplan", rfl, by decide, aw_2_43, lay_X11, ⟨tyX11, tyX11_ok, rfl⟩, nmX11, Or.inl rfl⟩
theorem fin_X11_6 : ∀ C T N, mcl[11]? = some (C, T, N) → (T 6).2.2.2 = true ∧ (T 6).1 = "Bandplan" := by
  intro C T N hc
  cases (show some (RX11, TX11, 8) = some (C, T, N) from hc)
  exact ⟨rfl, rfl⟩
theorem no_X11_58 : NO "Bandplan" 58 7 1 [.null] := ⟨RX7, TX7, rfl, aw_2_35, aw_1_81, aw_1_7, lay_X7, tyX7, tyX7_ok, fun j hj => by
  match j, hj with
  | 0, _ => rfl
  | j + 1, hj => exact absurd hj (by omega)⟩
theorem si_X11_60 : SI "Bandplan" 60 yX7_init cX7_init 4 2 := ⟨aw_2_36, aw_1_83, rfl, aw_1_7, aw_1_84, by decide, by decide, by decide⟩
theorem fl_X11_63 : FLD "Bandplan" 63 11 7 (.object "Bandplan$Row") := ⟨RX11, TX11, 8, "Bandplan", rfl, by decide, aw_2_44, lay_X11, ⟨tyX11, tyX11_ok, rfl⟩, nmX11, Or.inl rfl⟩
theorem fin_X11_7 : ∀ C T N, mcl[11]? = some (C, T, N) → (T 7).2.2.2 = true ∧ (T 7).1 = "Bandplan" := by
  intro C T N hc
  cases (show some (RX11, TX11, 8) = some (C, T, N) from hc)
  exact ⟨rfl, rfl⟩
theorem sv_X11_274 : SV "Bandplan" 274 yX6_onesOn cX6_onesOn 3 (some .int) 0 := ⟨aw_2_205, aw_2_206, aw_2_207, aw_1_8, aw_2_208, by decide, by decide, by decide⟩
theorem sv_X11_67 : SV "Bandplan" 67 yX11_needCell cX11_needCell 3 none 2 := ⟨aw_2_164, aw_2_166, aw_p_1, aw_1_1, aw_2_167, by decide, by decide, by decide⟩
theorem sv_X11_70 : SV "Bandplan" 70 yX11_needRange cX11_needRange 4 none 3 := ⟨aw_2_181, aw_2_183, aw_p_2, aw_1_1, aw_2_184, by decide, by decide, by decide⟩
theorem sv_X11_74 : SV "Bandplan" 74 yX11_needSilence cX11_needSilence 1 none 0 := ⟨aw_2_201, aw_2_203, aw_p_3, aw_1_1, aw_2_204, by decide, by decide, by decide⟩
theorem fl_X11_77 : FLD "Bandplan" 77 0 0 (.object "Bandplan$Land") := ⟨RX0, TX0, 3, "Bandplan$Air", rfl, by decide, aw_1_106, lay_X0, ⟨tyX0, tyX0_ok, rfl⟩, nmX0, Or.inl rfl⟩
theorem sv_X11_81 : SV "Bandplan" 81 yX3_changeGround cX3_changeGround 5 (some .int) 3 := ⟨aw_2_229, aw_2_230, aw_2_231, aw_1_3, aw_2_232, by decide, by decide, by decide⟩
theorem fl_X11_87 : FLD "Bandplan" 87 3 0 (.object "java/util/ArrayList") := ⟨RX3, TX3, 3, "Bandplan$Land", rfl, by decide, aw_1_92, lay_X3, ⟨tyX3, tyX3_ok, rfl⟩, nmX3, Or.inl rfl⟩
theorem sv_X11_91 : SV "Bandplan" 91 yJx4a65c_size_8abf5 cJx4a65c_size_8abf5 1 (some .int) 0 := ⟨aw_3_49, aw_3_7, aw_3_8, aw_1_6, aw_3_9, by decide, by decide, by decide⟩
theorem no_X11_104 : NO "Bandplan" 104 9 3 [.int 0, .int 0, .int 0] := ⟨RX9, TX9, rfl, aw_3_51, aw_3_52, aw_1_25, lay_X9, tyX9, tyX9_ok, fun j hj => by
  match j, hj with
  | 0, _ => rfl
  | 1, _ => rfl
  | 2, _ => rfl
  | j + 3, hj => exact absurd hj (by omega)⟩
theorem si_X11_106 : SI "Bandplan" 106 yX9_init cX9_init 4 3 := ⟨aw_3_53, aw_3_54, rfl, aw_1_25, aw_3_55, by decide, by decide, by decide⟩
theorem sv_X11_108 : SV "Bandplan" 108 yX3_found cX3_found 2 (some .int) 1 := ⟨aw_3_71, aw_3_72, aw_3_73, aw_1_3, aw_3_74, by decide, by decide, by decide⟩
theorem sv_X11_112 : SV "Bandplan" 112 yX11_needSite cX11_needSite 2 none 1 := ⟨aw_3_144, aw_3_146, aw_p_11, aw_1_1, aw_3_147, by decide, by decide, by decide⟩
theorem sv_X11_116 : SV "Bandplan" 116 yX3_lossBetween cX3_lossBetween 3 (some .int) 2 := ⟨aw_5_52, aw_4_16, aw_4_17, aw_1_3, aw_4_18, by decide, by decide, by decide⟩
theorem fl_X11_125 : FLD "Bandplan" 125 0 1 (.object "java/util/ArrayList") := ⟨RX0, TX0, 3, "Bandplan$Air", rfl, by decide, aw_1_111, lay_X0, ⟨tyX0, tyX0_ok, rfl⟩, nmX0, Or.inl rfl⟩
theorem no_X11_130 : NO "Bandplan" 130 10 6 [.int 0, .int 0, .int 0, .int 0, .int 0, .int 0] := ⟨RX10, TX10, rfl, aw_3_151, aw_3_152, aw_1_29, lay_X10, tyX10, tyX10_ok, fun j hj => by
  match j, hj with
  | 0, _ => rfl
  | 1, _ => rfl
  | 2, _ => rfl
  | 3, _ => rfl
  | 4, _ => rfl
  | 5, _ => rfl
  | j + 6, hj => exact absurd hj (by omega)⟩
theorem si_X11_132 : SI "Bandplan" 132 yX10_init cX10_init 6 5 := ⟨aw_3_153, aw_3_154, rfl, aw_1_29, aw_3_155, by decide, by decide, by decide⟩
theorem sv_X11_135 : SV "Bandplan" 135 yJx4a65c_add_9ea2d cJx4a65c_add_9ea2d 2 (some .boolean) 1 := ⟨aw_3_187, aw_3_76, aw_3_77, aw_1_6, aw_3_78, by decide, by decide, by decide⟩
theorem fl_X11_139 : FLD "Bandplan" 139 0 2 .int := ⟨RX0, TX0, 3, "Bandplan$Air", rfl, by decide, aw_1_113, lay_X0, ⟨tyX0, tyX0_ok, rfl⟩, nmX0, Or.inl rfl⟩
theorem sv_X11_361 : SV "Bandplan" 361 yJx4a65c_get_915e3 cJx4a65c_get_915e3 2 (some (.object "java/lang/Object")) 1 := ⟨aw_3_201, aw_3_11, aw_3_12, aw_1_6, aw_3_13, by decide, by decide, by decide⟩
theorem sv_X11_143 : SV "Bandplan" 143 yX11_stationAt cX11_stationAt 2 (some (.object "Bandplan$Station")) 1 := ⟨aw_3_196, aw_3_198, aw_p_12, aw_1_1, aw_3_199, by decide, by decide, by decide⟩
theorem sv_X11_147 : SV "Bandplan" 147 yX0_levelOf cX0_levelOf 2 (some .int) 1 := ⟨aw_5_57, aw_4_12, aw_4_13, aw_1_2, aw_4_14, by decide, by decide, by decide⟩
theorem fl_X11_154 : FLD "Bandplan" 154 6 0 (.object "Bandplan$Row") := ⟨RX6, TX6, 5, "Bandplan$Register", rfl, by decide, aw_1_131, lay_X6, ⟨tyX6, tyX6_ok, rfl⟩, nmX6, Or.inl rfl⟩
theorem sv_X11_226 : SV "Bandplan" 226 yX7_at cX7_at 2 (some .int) 1 := ⟨aw_4_1, aw_2_210, aw_2_211, aw_1_7, aw_2_212, by decide, by decide, by decide⟩
theorem sv_X11_151 : SV "Bandplan" 151 yX11_stationOnAir cX11_stationOnAir 3 (some (.object "Bandplan$Station")) 1 := ⟨aw_5_62, aw_5_64, aw_p_28, aw_1_1, aw_5_65, by decide, by decide, by decide⟩
theorem sv_X11_157 : SV "Bandplan" 157 yX0_allHarm cX0_allHarm 8 (some .int) 2 := ⟨aw_5_67, aw_4_34, aw_4_35, aw_1_2, aw_4_36, by decide, by decide, by decide⟩
theorem sv_X11_167 : SV "Bandplan" 167 yX0_keepsLevel cX0_keepsLevel 4 (some .boolean) 2 := ⟨aw_5_74, aw_4_30, aw_4_31, aw_1_2, aw_4_32, by decide, by decide, by decide⟩
theorem sv_X11_173 : SV "Bandplan" 173 yX11_needChannel cX11_needChannel 2 none 1 := ⟨aw_3_202, aw_3_204, aw_p_13, aw_1_1, aw_3_205, by decide, by decide, by decide⟩
theorem sm_X11_176 : SM "Bandplan" 176 Lib.Math.abs.name Lib.Math.abs.code 1 := ⟨aw_4_2, aw_3_37, aw_1_24, aw_3_38⟩
theorem sv_X11_182 : SV "Bandplan" 182 yX0_barEachOther cX0_barEachOther 4 (some .boolean) 3 := ⟨aw_4_3, aw_4_4, aw_4_5, aw_1_2, aw_4_6, by decide, by decide, by decide⟩
theorem fl_X11_232 : FLD "Bandplan" 232 10 0 .int := ⟨RX10, TX10, 6, "Bandplan$Station", rfl, by decide, aw_3_160, lay_X10, ⟨tyX10, tyX10_ok, rfl⟩, nmX10, Or.inl rfl⟩
theorem fl_X11_210 : FLD "Bandplan" 210 10 4 .boolean := ⟨RX10, TX10, 6, "Bandplan$Station", rfl, by decide, aw_3_170, lay_X10, ⟨tyX10, tyX10_ok, rfl⟩, nmX10, Or.inl rfl⟩
theorem sv_X11_207 : SV "Bandplan" 207 yX7_put cX7_put 3 none 2 := ⟨aw_3_236, aw_2_239, aw_3_0, aw_1_7, aw_3_1, by decide, by decide, by decide⟩
theorem sv_X11_186 : SV "Bandplan" 186 yX1_isForeign cX1_isForeign 2 (some .boolean) 1 := ⟨aw_3_206, aw_3_207, aw_3_208, aw_1_9, aw_3_209, by decide, by decide, by decide⟩
theorem sv_X11_203 : SV "Bandplan" 203 yX7_copyFrom cX7_copyFrom 3 none 1 := ⟨aw_3_231, aw_3_232, aw_3_233, aw_1_7, aw_3_234, by decide, by decide, by decide⟩
theorem sv_X11_217 : SV "Bandplan" 217 yX0_allKeep cX0_allKeep 4 (some .boolean) 1 := ⟨aw_4_23, aw_4_24, aw_4_25, aw_1_2, aw_4_26, by decide, by decide, by decide⟩
theorem sv_X11_229 : SV "Bandplan" 229 yX6_change cX6_change 3 none 2 := ⟨aw_4_59, aw_4_60, aw_4_61, aw_1_8, aw_4_62, by decide, by decide, by decide⟩
theorem sv_X11_214 : SV "Bandplan" 214 yX11_silenceSecondaries cX11_silenceSecondaries 6 (some .int) 1 := ⟨aw_3_237, aw_3_239, aw_p_15, aw_1_1, aw_4_0, by decide, by decide, by decide⟩
theorem sv_X11_190 : SV "Bandplan" 190 yX0_isNearBorder cX0_isNearBorder 2 (some .boolean) 1 := ⟨aw_3_211, aw_3_212, aw_3_213, aw_1_2, aw_3_214, by decide, by decide, by decide⟩
theorem fl_X11_194 : FLD "Bandplan" 194 6 1 .int := ⟨RX6, TX6, 5, "Bandplan$Register", rfl, by decide, aw_1_133, lay_X6, ⟨tyX6, tyX6_ok, rfl⟩, nmX6, Or.inl rfl⟩
theorem sv_X11_197 : SV "Bandplan" 197 yX1_yesCounts cX1_yesCounts 4 (some .boolean) 3 := ⟨aw_3_222, aw_3_223, aw_3_224, aw_1_9, aw_3_225, by decide, by decide, by decide⟩
theorem sv_X11_235 : SV "Bandplan" 235 yX6_channelAt cX6_channelAt 4 (some .int) 2 := ⟨aw_5_84, aw_5_85, aw_5_86, aw_1_8, aw_5_87, by decide, by decide, by decide⟩
theorem sv_X11_238 : SV "Bandplan" 238 yX1_makeForeign cX1_makeForeign 3 none 2 := ⟨aw_4_79, aw_4_80, aw_4_81, aw_1_9, aw_4_82, by decide, by decide, by decide⟩
theorem sv_X11_242 : SV "Bandplan" 242 yX1_ask cX1_ask 4 (some .int) 3 := ⟨aw_4_91, aw_4_92, aw_4_93, aw_1_9, aw_4_94, by decide, by decide, by decide⟩
theorem sv_X11_245 : SV "Bandplan" 245 yX1_wasAsked cX1_wasAsked 3 (some .boolean) 2 := ⟨aw_4_99, aw_3_227, aw_3_228, aw_1_9, aw_3_229, by decide, by decide, by decide⟩
theorem sv_X11_251 : SV "Bandplan" 251 yX1_protest cX1_protest 5 (some .boolean) 3 := ⟨aw_4_116, aw_4_117, aw_4_118, aw_1_9, aw_4_119, by decide, by decide, by decide⟩
theorem sv_X11_254 : SV "Bandplan" 254 yX5_prepare cX5_prepare 6 none 2 := ⟨aw_4_137, aw_4_138, aw_4_139, aw_1_10, aw_4_140, by decide, by decide, by decide⟩
theorem sv_X11_258 : SV "Bandplan" 258 yX0_protectedOnes cX0_protectedOnes 3 (some .int) 0 := ⟨aw_4_132, aw_4_133, aw_4_134, aw_1_2, aw_4_135, by decide, by decide, by decide⟩
theorem sv_X11_261 : SV "Bandplan" 261 yX5_findFirst cX5_findFirst 2 (some .boolean) 1 := ⟨aw_5_9, aw_4_163, aw_4_164, aw_1_10, aw_4_165, by decide, by decide, by decide⟩
theorem fl_X11_268 : FLD "Bandplan" 268 5 0 (.object "Bandplan$Row") := ⟨RX5, TX5, 5, "Bandplan$Packer", rfl, by decide, aw_1_176, lay_X5, ⟨tyX5, tyX5_ok, rfl⟩, nmX5, Or.inl rfl⟩
theorem fl_X11_271 : FLD "Bandplan" 271 10 5 .int := ⟨RX10, TX10, 6, "Bandplan$Station", rfl, by decide, aw_3_173, lay_X10, ⟨tyX10, tyX10_ok, rfl⟩, nmX10, Or.inl rfl⟩
theorem sv_X11_279 : SV "Bandplan" 279 yX0_askingMoreThan cX0_askingMoreThan 4 (some .int) 1 := ⟨aw_4_153, aw_4_154, aw_4_155, aw_1_2, aw_4_156, by decide, by decide, by decide⟩
theorem sv_X11_282 : SV "Bandplan" 282 yX5_fits cX5_fits 2 (some .boolean) 1 := ⟨aw_4_157, aw_4_158, aw_4_159, aw_1_10, aw_4_160, by decide, by decide, by decide⟩
theorem sv_X11_287 : SV "Bandplan" 287 yX8_begin cX8_begin 3 none 2 := ⟨aw_4_178, aw_4_179, aw_4_180, aw_1_11, aw_4_181, by decide, by decide, by decide⟩
theorem sv_X11_290 : SV "Bandplan" 290 yX8_run cX8_run 9 (some .int) 5 := ⟨aw_4_183, aw_4_184, aw_4_185, aw_1_11, aw_4_186, by decide, by decide, by decide⟩
theorem ss_X11_297 : SS "Bandplan" 297 yJ6_bitCount_0f7a4 cJ6_bitCount_0f7a4 1 (some .int) 1 := ⟨aw_4_202, aw_4_203, aw_1_32, aw_4_204, by decide, by decide, by decide⟩
theorem ss_X11_294 : SS "Bandplan" 294 yX11_isIn cX11_isIn 2 (some .boolean) 2 := ⟨aw_4_201, aw_4_170, aw_1_1, aw_4_171, by decide, by decide, by decide⟩
theorem fl_X11_302 : FLD "Bandplan" 302 8 0 (.object "Bandplan$Row") := ⟨RX8, TX8, 6, "Bandplan$Selling", rfl, by decide, aw_1_201, lay_X8, ⟨tyX8, tyX8_ok, rfl⟩, nmX8, Or.inl rfl⟩
theorem fl_X11_307 : FLD "Bandplan" 307 8 4 .int := ⟨RX8, TX8, 6, "Bandplan$Selling", rfl, by decide, aw_1_209, lay_X8, ⟨tyX8, tyX8_ok, rfl⟩, nmX8, Or.inl rfl⟩
theorem fl_X11_310 : FLD "Bandplan" 310 2 2 .int := ⟨RX2, TX2, 5, "Bandplan$Buying", rfl, by decide, aw_1_237, lay_X2, ⟨tyX2, tyX2_ok, rfl⟩, nmX2, Or.inl rfl⟩
theorem sv_X11_315 : SV "Bandplan" 315 yX2_admit cX2_admit 4 (some .int) 3 := ⟨aw_4_213, aw_4_214, aw_4_215, aw_1_12, aw_4_216, by decide, by decide, by decide⟩
theorem sv_X11_318 : SV "Bandplan" 318 yX2_run cX2_run 4 (some .int) 1 := ⟨aw_4_222, aw_4_223, aw_4_224, aw_1_12, aw_4_225, by decide, by decide, by decide⟩
theorem sv_X11_320 : SV "Bandplan" 320 yX11_needBidder cX11_needBidder 2 none 1 := ⟨aw_5_110, aw_5_112, aw_p_29, aw_1_1, aw_5_113, by decide, by decide, by decide⟩
theorem fl_X11_323 : FLD "Bandplan" 323 2 0 (.object "Bandplan$Row") := ⟨RX2, TX2, 5, "Bandplan$Buying", rfl, by decide, aw_1_233, lay_X2, ⟨tyX2, tyX2_ok, rfl⟩, nmX2, Or.inl rfl⟩
theorem fl_X11_326 : FLD "Bandplan" 326 2 1 (.object "Bandplan$Row") := ⟨RX2, TX2, 5, "Bandplan$Buying", rfl, by decide, aw_1_235, lay_X2, ⟨tyX2, tyX2_ok, rfl⟩, nmX2, Or.inl rfl⟩
theorem fl_X11_329 : FLD "Bandplan" 329 8 1 .boolean := ⟨RX8, TX8, 6, "Bandplan$Selling", rfl, by decide, aw_1_203, lay_X8, ⟨tyX8, tyX8_ok, rfl⟩, nmX8, Or.inl rfl⟩
theorem fl_X11_334 : FLD "Bandplan" 334 8 3 .int := ⟨RX8, TX8, 6, "Bandplan$Selling", rfl, by decide, aw_1_207, lay_X8, ⟨tyX8, tyX8_ok, rfl⟩, nmX8, Or.inl rfl⟩
theorem fl_X11_337 : FLD "Bandplan" 337 8 2 .int := ⟨RX8, TX8, 6, "Bandplan$Selling", rfl, by decide, aw_1_205, lay_X8, ⟨tyX8, tyX8_ok, rfl⟩, nmX8, Or.inl rfl⟩
theorem sv_X11_340 : SV "Bandplan" 340 yX4_begin cX4_begin 5 none 3 := ⟨aw_5_11, aw_5_12, aw_5_13, aw_1_13, aw_5_14, by decide, by decide, by decide⟩
theorem sv_X11_343 : SV "Bandplan" 343 yX4_run cX4_run 7 (some .int) 4 := ⟨aw_5_19, aw_5_20, aw_5_21, aw_1_13, aw_5_22, by decide, by decide, by decide⟩
theorem fl_X11_346 : FLD "Bandplan" 346 4 0 (.object "Bandplan$Row") := ⟨RX4, TX4, 4, "Bandplan$Moving", rfl, by decide, aw_2_20, lay_X4, ⟨tyX4, tyX4_ok, rfl⟩, nmX4, Or.inl rfl⟩
theorem fl_X11_351 : FLD "Bandplan" 351 4 2 .int := ⟨RX4, TX4, 4, "Bandplan$Moving", rfl, by decide, aw_2_24, lay_X4, ⟨tyX4, tyX4_ok, rfl⟩, nmX4, Or.inl rfl⟩
theorem fl_X11_365 : FLD "Bandplan" 365 4 1 .boolean := ⟨RX4, TX4, 4, "Bandplan$Moving", rfl, by decide, aw_2_22, lay_X4, ⟨tyX4, tyX4_ok, rfl⟩, nmX4, Or.inl rfl⟩
theorem sv_X11_368 : SV "Bandplan" 368 yX6_holdsToday cX6_holdsToday 2 (some .boolean) 0 := ⟨aw_5_143, aw_5_144, aw_5_145, aw_1_8, aw_5_146, by decide, by decide, by decide⟩
theorem sv_X11_372 : SV "Bandplan" 372 yX2_isFair cX2_isFair 2 (some .boolean) 0 := ⟨aw_5_148, aw_5_149, aw_5_150, aw_1_12, aw_5_151, by decide, by decide, by decide⟩
theorem sv_X11_375 : SV "Bandplan" 375 yX8_isFair cX8_isFair 2 (some .boolean) 0 := ⟨aw_5_152, aw_5_153, aw_5_154, aw_1_11, aw_5_155, by decide, by decide, by decide⟩
theorem ss_L_9 : SS "BandplanLaw" 9 yL_cell cL_cell 3 (some .int) 2 := ⟨aw_2_65, aw_2_66, aw_1_0, aw_2_67, by decide, by decide, by decide⟩
theorem sv_L_15 : SV "BandplanLaw" 15 yX11_setGround cX11_setGround 4 (some .int) 3 := ⟨aw_2_160, aw_2_161, aw_2_162, aw_1_1, aw_2_163, by decide, by decide, by decide⟩
theorem sv_L_21 : SV "BandplanLaw" 21 yX11_addSite cX11_addSite 4 (some .int) 3 := ⟨aw_3_45, aw_3_46, aw_3_47, aw_1_1, aw_3_48, by decide, by decide, by decide⟩
theorem sv_L_24 : SV "BandplanLaw" 24 yX11_addStation cX11_addStation 6 (some .int) 4 := ⟨aw_3_140, aw_3_141, aw_3_142, aw_1_1, aw_3_143, by decide, by decide, by decide⟩
theorem sv_L_28 : SV "BandplanLaw" 28 yX11_setRatio cX11_setRatio 3 (some .int) 1 := ⟨aw_3_188, aw_3_189, aw_3_190, aw_1_1, aw_3_191, by decide, by decide, by decide⟩
theorem sv_L_32 : SV "BandplanLaw" 32 yX11_putOn cX11_putOn 6 (some .int) 2 := ⟨aw_3_192, aw_3_193, aw_3_194, aw_1_1, aw_3_195, by decide, by decide, by decide⟩
theorem sv_L_36 : SV "BandplanLaw" 36 yX11_putOff cX11_putOff 4 (some .int) 1 := ⟨aw_4_71, aw_4_72, aw_4_73, aw_1_1, aw_4_74, by decide, by decide, by decide⟩
theorem sv_L_39 : SV "BandplanLaw" 39 yX11_setForeign cX11_setForeign 4 (some .boolean) 2 := ⟨aw_4_75, aw_4_76, aw_4_77, aw_1_1, aw_4_78, by decide, by decide, by decide⟩
theorem ss_L_43 : SS "BandplanLaw" 43 yL_told cL_told 1 (some .int) 1 := ⟨aw_4_84, aw_4_85, aw_1_0, aw_4_86, by decide, by decide, by decide⟩
theorem sv_L_47 : SV "BandplanLaw" 47 yX11_askAbroad cX11_askAbroad 4 (some .int) 2 := ⟨aw_4_87, aw_4_88, aw_4_89, aw_1_1, aw_4_90, by decide, by decide, by decide⟩
theorem sv_L_50 : SV "BandplanLaw" 50 yX11_object cX11_object 4 (some .boolean) 2 := ⟨aw_4_95, aw_4_96, aw_4_97, aw_1_1, aw_4_98, by decide, by decide, by decide⟩
theorem sv_L_54 : SV "BandplanLaw" 54 yX11_goOn cX11_goOn 2 (some .int) 1 := ⟨aw_4_120, aw_4_121, aw_4_122, aw_1_1, aw_4_123, by decide, by decide, by decide⟩
theorem sv_L_57 : SV "BandplanLaw" 57 yX11_setAsked cX11_setAsked 5 (some .int) 2 := ⟨aw_4_124, aw_4_125, aw_4_126, aw_1_1, aw_4_127, by decide, by decide, by decide⟩
theorem sv_L_60 : SV "BandplanLaw" 60 yX11_sell cX11_sell 8 (some .int) 3 := ⟨aw_4_128, aw_4_129, aw_4_130, aw_1_1, aw_4_131, by decide, by decide, by decide⟩
theorem sv_L_63 : SV "BandplanLaw" 63 yX11_addBidder cX11_addBidder 4 (some .int) 3 := ⟨aw_4_208, aw_4_209, aw_4_210, aw_1_1, aw_4_211, by decide, by decide, by decide⟩
theorem sv_L_66 : SV "BandplanLaw" 66 yX11_buy cX11_buy 2 (some .int) 1 := ⟨aw_4_218, aw_4_219, aw_4_220, aw_1_1, aw_4_221, by decide, by decide, by decide⟩
theorem sv_L_69 : SV "BandplanLaw" 69 yX11_move cX11_move 3 (some .int) 1 := ⟨aw_5_4, aw_5_5, aw_5_6, aw_1_1, aw_5_7, by decide, by decide, by decide⟩
theorem sv_L_72 : SV "BandplanLaw" 72 yX11_loss cX11_loss 3 (some .int) 2 := ⟨aw_5_48, aw_5_49, aw_5_50, aw_1_1, aw_5_51, by decide, by decide, by decide⟩
theorem sv_L_75 : SV "BandplanLaw" 75 yX11_level cX11_level 2 (some .int) 1 := ⟨aw_5_53, aw_5_54, aw_5_55, aw_1_1, aw_5_56, by decide, by decide, by decide⟩
theorem sv_L_78 : SV "BandplanLaw" 78 yX11_harm cX11_harm 3 (some .int) 1 := ⟨aw_5_58, aw_5_59, aw_5_60, aw_1_1, aw_5_61, by decide, by decide, by decide⟩
theorem sv_L_81 : SV "BandplanLaw" 81 yX11_keeps cX11_keeps 2 (some .boolean) 1 := ⟨aw_5_70, aw_5_71, aw_5_72, aw_1_1, aw_5_73, by decide, by decide, by decide⟩
theorem sv_L_85 : SV "BandplanLaw" 85 yX11_bars cX11_bars 7 (some .boolean) 4 := ⟨aw_5_75, aw_5_76, aw_5_77, aw_1_1, aw_5_78, by decide, by decide, by decide⟩
theorem sv_L_89 : SV "BandplanLaw" 89 yX11_channelOf cX11_channelOf 4 (some .int) 2 := ⟨aw_5_80, aw_5_81, aw_5_82, aw_1_1, aw_5_83, by decide, by decide, by decide⟩
theorem sv_L_92 : SV "BandplanLaw" 92 yX11_hasYes cX11_hasYes 4 (some .boolean) 2 := ⟨aw_5_88, aw_5_89, aw_5_90, aw_1_1, aw_5_91, by decide, by decide, by decide⟩
theorem sv_L_95 : SV "BandplanLaw" 95 yX11_canPack cX11_canPack 2 (some .boolean) 1 := ⟨aw_5_92, aw_5_93, aw_5_94, aw_1_1, aw_5_95, by decide, by decide, by decide⟩
theorem sv_L_98 : SV "BandplanLaw" 98 yX11_packed cX11_packed 4 (some .int) 2 := ⟨aw_5_96, aw_5_97, aw_5_98, aw_1_1, aw_5_99, by decide, by decide, by decide⟩
theorem sv_L_101 : SV "BandplanLaw" 101 yX11_priceOf cX11_priceOf 4 (some .int) 1 := ⟨aw_5_101, aw_5_102, aw_5_103, aw_1_1, aw_5_104, by decide, by decide, by decide⟩
theorem sv_L_104 : SV "BandplanLaw" 104 yX11_bought cX11_bought 2 (some .int) 1 := ⟨aw_5_106, aw_5_107, aw_5_108, aw_1_1, aw_5_109, by decide, by decide, by decide⟩
theorem sv_L_107 : SV "BandplanLaw" 107 yX11_pays cX11_pays 2 (some .long) 1 := ⟨aw_5_115, aw_5_116, aw_5_117, aw_1_1, aw_5_118, by decide, by decide, by decide⟩
theorem sv_L_111 : SV "BandplanLaw" 111 yX11_phaseOf cX11_phaseOf 4 (some .int) 1 := ⟨aw_5_119, aw_5_120, aw_5_121, aw_1_1, aw_5_122, by decide, by decide, by decide⟩
theorem ss_L_118 : SS "BandplanLaw" 118 yL_asked cL_asked 6 (some .int) 6 := ⟨aw_5_45, aw_5_46, aw_1_0, aw_5_47, by decide, by decide, by decide⟩
theorem ss_L_114 : SS "BandplanLaw" 114 yL_done cL_done 6 (some .int) 6 := ⟨aw_2_157, aw_2_158, aw_1_0, aw_2_159, by decide, by decide, by decide⟩
theorem ssx_L_131 : SSX "BandplanLaw" 131 yL_deed cL_deed 7 (some .int) [(0, 31, 32, 121), (0, 31, 38, 123), (0, 31, 44, 125), (0, 31, 50, 127), (0, 31, 56, 129)] 6 := ⟨aw_2_70, aw_2_71, aw_1_0, aw_2_72, by decide, by decide, by decide⟩
theorem ss_L_134 : SS "BandplanLaw" 134 yL_pick cL_pick 3 (some .int) 3 := ⟨aw_2_62, aw_2_63, aw_1_0, aw_2_64, by decide, by decide, by decide⟩
theorem ss_L_138 : SS "BandplanLaw" 138 yL_ask cL_ask 4 (some .int) 4 := ⟨aw_5_124, aw_5_125, aw_1_0, aw_5_126, by decide, by decide, by decide⟩
theorem sv_L_142 : SV "BandplanLaw" 142 yX11_isSound cX11_isSound 2 (some .boolean) 0 := ⟨aw_5_139, aw_5_140, aw_5_141, aw_1_1, aw_5_142, by decide, by decide, by decide⟩
theorem sv_L_150 : SV "BandplanLaw" 150 yX11_onShare cX11_onShare 2 (some .float) 0 := ⟨aw_5_157, aw_5_158, aw_5_159, aw_1_1, aw_5_160, by decide, by decide, by decide⟩
theorem ss_L_146 : SS "BandplanLaw" 146 yL_isProtected cL_isProtected 2 (some .boolean) 2 := ⟨aw_5_130, aw_5_131, aw_1_0, aw_5_132, by decide, by decide, by decide⟩
theorem sv_L_155 : SV "BandplanLaw" 155 yX11_rounds cX11_rounds 1 (some .int) 0 := ⟨aw_5_184, aw_5_185, aw_5_186, aw_1_1, aw_5_187, by decide, by decide, by decide⟩
theorem sv_L_159 : SV "BandplanLaw" 159 yX11_dark cX11_dark 1 (some .int) 0 := ⟨aw_5_194, aw_5_195, aw_5_196, aw_1_1, aw_5_197, by decide, by decide, by decide⟩
theorem no_L_16 : NO "BandplanLaw" 16 11 8 [.null, .null, .null, .null, .null, .null, .null, .null] := ⟨RX11, TX11, rfl, aw_1_34, aw_1_35, aw_1_1, lay_X11, tyX11, tyX11_ok, fun j hj => by
  match j, hj with
  | 0, _ => rfl
  | 1, _ => rfl
  | 2, _ => rfl
  | 3, _ => rfl
  | 4, _ => rfl
  | 5, _ => rfl
  | 6, _ => rfl
  | 7, _ => rfl
  | j + 8, hj => exact absurd hj (by omega)⟩
theorem si_L_162 : SI "BandplanLaw" 162 yX11_init cX11_init 1 0 := ⟨aw_1_36, aw_1_37, rfl, aw_1_1, aw_1_38, by decide, by decide, by decide⟩
theorem ss_L_163 : SS "BandplanLaw" 163 yL_build cL_build 4 none 2 := ⟨aw_5_127, aw_5_128, aw_1_0, aw_5_129, by decide, by decide, by decide⟩
theorem ss_L_167 : SS "BandplanLaw" 167 yL_areLosses cL_areLosses 5 (some .boolean) 1 := ⟨aw_5_133, aw_5_134, aw_1_0, aw_5_135, by decide, by decide, by decide⟩
theorem ss_L_186 : SS "BandplanLaw" 186 yL_areKept cL_areKept 12 (some .boolean) 4 := ⟨aw_5_136, aw_5_137, aw_1_0, aw_5_138, by decide, by decide, by decide⟩
theorem ss_L_175 : SS "BandplanLaw" 175 yL_isSold cL_isSold 11 (some .boolean) 4 := ⟨aw_5_181, aw_5_182, aw_1_0, aw_5_183, by decide, by decide, by decide⟩
theorem ss_L_179 : SS "BandplanLaw" 179 yL_isBought cL_isBought 11 (some .boolean) 3 := ⟨aw_5_188, aw_5_189, aw_1_0, aw_5_190, by decide, by decide, by decide⟩
theorem ss_L_183 : SS "BandplanLaw" 183 yL_isMoved cL_isMoved 8 (some .boolean) 4 := ⟨aw_5_191, aw_5_192, aw_1_0, aw_5_193, by decide, by decide, by decide⟩
theorem ss_L_171 : SS "BandplanLaw" 171 yL_arePacked cL_arePacked 9 (some .boolean) 2 := ⟨aw_5_178, aw_5_179, aw_1_0, aw_5_180, by decide, by decide, by decide⟩
