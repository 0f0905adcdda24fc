theorem so_Jxd2413_1 : SO "java/lang/Number" 1 := ⟨aw_7_36, aw_1_43, aw_1_44⟩
theorem si_J6_202 : SI "java/lang/Integer" 202 yJxd2413_init_da8c8 cJxd2413_init_da8c8 1 0 := ⟨aw_7_33, aw_7_34, rfl, aw_1_33, aw_7_35, by decide, by decide, by decide⟩
theorem lay_J6 : ∀ w ∈ u_ws RJ6 TJ6 1, w ∈ AW := by
  intro w hw
  obtain ⟨k, hk, rfl⟩ := List.mem_map.mp hw
  have hk := List.mem_range.mp hk
  match k, hk with
  | 0, _ => exact aw_7_38
  | k + 1, hk => exact absurd hk (by omega)
theorem fl_J6_205 : FLD "java/lang/Integer" 205 13 0 .int := ⟨RJ6, TJ6, 1, "java/lang/Integer", rfl, by decide, aw_7_37, lay_J6, ⟨tyJ6, tyJ6_ok, rfl⟩, nmJ6, Or.inl rfl⟩
theorem fin_J6_0 : ∀ C T N, mcl[13]? = some (C, T, N) → (T 0).2.2.2 = true ∧ (T 0).1 = "java/lang/Integer" := by
  intro C T N hc
  cases (show some (RJ6, TJ6, 1) = some (C, T, N) from hc)
  exact ⟨rfl, rfl⟩
theorem no_J6_1 : NO "java/lang/Integer" 1 13 1 [.int 0] := ⟨RJ6, TJ6, rfl, aw_7_28, aw_7_29, aw_1_34, lay_J6, tyJ6, tyJ6_ok, fun j hj => by
  match j, hj with
  | 0, _ => rfl
  | j + 1, hj => exact absurd hj (by omega)⟩
theorem si_J6_199 : SI "java/lang/Integer" 199 yJ6_init_d00df cJ6_init_d00df 2 1 := ⟨aw_7_30, aw_7_31, rfl, aw_1_34, aw_7_32, by decide, by decide, by decide⟩
theorem so_Jxa1e45_1 : SO "java/util/AbstractCollection" 1 := ⟨aw_1_68, aw_1_43, aw_1_44⟩
theorem si_Jxc12de_1 : SI "java/util/AbstractList" 1 yJxa1e45_init_da8c8 cJxa1e45_init_da8c8 1 0 := ⟨aw_1_65, aw_1_66, rfl, aw_1_4, aw_1_67, by decide, by decide, by decide⟩
theorem lay_Jx4a65c : ∀ w ∈ u_ws RJx4a65c TJx4a65c 3, w ∈ AW := by
  intro w hw
  obtain ⟨k, hk, rfl⟩ := List.mem_map.mp hw
  have hk := List.mem_range.mp hk
  match k, hk with
  | 0, _ => exact aw_1_80
  | 1, _ => exact aw_1_76
  | 2, _ => exact aw_1_78
  | k + 3, hk => exact absurd hk (by omega)
theorem fl_Jxc12de_7 : FLD "java/util/AbstractList" 7 14 0 .int := ⟨RJx4a65c, TJx4a65c, 3, "java/util/AbstractList", rfl, by decide, aw_1_73, lay_Jx4a65c, ⟨tyJx4a65c, tyJx4a65c_ok, rfl⟩, nmJx4a65c, Or.inl rfl⟩
theorem fin_Jx4a65c_0 : ∀ C T N, mcl[14]? = some (C, T, N) → (T 0).2.2.2 = false ∧ (T 0).1 = "java/util/AbstractList" := by
  intro C T N hc
  cases (show some (RJx4a65c, TJx4a65c, 3) = some (C, T, N) from hc)
  exact ⟨rfl, rfl⟩
theorem si_Jx4a65c_1 : SI "java/util/ArrayList" 1 yJxc12de_init_da8c8 cJxc12de_init_da8c8 1 0 := ⟨aw_1_62, aw_1_63, rfl, aw_1_5, aw_1_64, by decide, by decide, by decide⟩
theorem fl_Jx4a65c_9 : FLD "java/util/ArrayList" 9 14 1 (.array (.object "java/lang/Object")) := ⟨RJx4a65c, TJx4a65c, 3, "java/util/ArrayList", rfl, by decide, aw_1_71, lay_Jx4a65c, ⟨tyJx4a65c, tyJx4a65c_ok, rfl⟩, nmJx4a65c, Or.inl rfl⟩
theorem fin_Jx4a65c_1 : ∀ C T N, mcl[14]? = some (C, T, N) → (T 1).2.2.2 = false ∧ (T 1).1 = "java/util/ArrayList" := by
  intro C T N hc
  cases (show some (RJx4a65c, TJx4a65c, 3) = some (C, T, N) from hc)
  exact ⟨rfl, rfl⟩
theorem so_X7_1 : SO "Bandplan$Row" 1 := ⟨aw_1_88, aw_1_43, aw_1_44⟩
theorem lay_X7 : ∀ w ∈ u_ws RX7 TX7 1, w ∈ AW := by
  intro w hw
  obtain ⟨k, hk, rfl⟩ := List.mem_map.mp hw
  have hk := List.mem_range.mp hk
  match k, hk with
  | 0, _ => exact aw_1_90
  | k + 1, hk => exact absurd hk (by omega)
theorem fl_X7_7 : FLD "Bandplan$Row" 7 7 0 (.array .int) := ⟨RX7, TX7, 1, "Bandplan$Row", rfl, by decide, aw_1_89, lay_X7, ⟨tyX7, tyX7_ok, rfl⟩, nmX7, Or.inl rfl⟩
theorem fin_X7_0 : ∀ C T N, mcl[7]? = some (C, T, N) → (T 0).2.2.2 = true ∧ (T 0).1 = "Bandplan$Row" := by
  intro C T N hc
  cases (show some (RX7, TX7, 1) = some (C, T, N) from hc)
  exact ⟨rfl, rfl⟩
theorem so_X3_3 : SO "Bandplan$Land" 3 := ⟨aw_1_56, aw_1_43, aw_1_44⟩
theorem no_X3_9 : NO "Bandplan$Land" 9 14 3 [.int 0, .null, .int 0] := ⟨RJx4a65c, TJx4a65c, rfl, aw_1_57, aw_1_58, aw_1_6, lay_Jx4a65c, tyJx4a65c, tyJx4a65c_ok, fun j hj => by
  match j, hj with
  | 0, _ => rfl
  | 1, _ => rfl
  | 2, _ => rfl
  | j + 3, hj => exact absurd hj (by omega)⟩
theorem si_X3_11 : SI "Bandplan$Land" 11 yJx4a65c_init_da8c8 cJx4a65c_init_da8c8 1 0 := ⟨aw_1_59, aw_1_60, rfl, aw_1_6, aw_1_61, by decide, by decide, by decide⟩
theorem lay_X3 : ∀ w ∈ u_ws RX3 TX3 3, w ∈ AW := by
  intro w hw
  obtain ⟨k, hk, rfl⟩ := List.mem_map.mp hw
  have hk := List.mem_range.mp hk
  match k, hk with
  | 0, _ => exact aw_1_99
  | 1, _ => exact aw_1_101
  | 2, _ => exact aw_1_103
  | k + 3, hk => exact absurd hk (by omega)
theorem fl_X3_12 : FLD "Bandplan$Land" 12 3 0 (.object "java/util/ArrayList") := ⟨RX3, TX3, 3, "Bandplan$Land", rfl, by decide, aw_1_94, lay_X3, ⟨tyX3, tyX3_ok, rfl⟩, nmX3, Or.inl rfl⟩
theorem fin_X3_0 : ∀ C T N, mcl[3]? = some (C, T, N) → (T 0).2.2.2 = true ∧ (T 0).1 = "Bandplan$Land" := by
  intro C T N hc
  cases (show some (RX3, TX3, 3) = some (C, T, N) from hc)
  exact ⟨rfl, rfl⟩
theorem no_X3_18 : NO "Bandplan$Land" 18 7 1 [.null] := ⟨RX7, TX7, rfl, aw_1_83, aw_1_84, aw_1_7, lay_X7, tyX7, tyX7_ok, fun j hj => by
  match j, hj with
  | 0, _ => rfl
  | j + 1, hj => exact absurd hj (by omega)⟩
theorem si_X3_20 : SI "Bandplan$Land" 20 yX7_init cX7_init 4 2 := ⟨aw_1_85, aw_1_86, rfl, aw_1_7, aw_1_87, by decide, by decide, by decide⟩
theorem fl_X3_23 : FLD "Bandplan$Land" 23 3 1 (.object "Bandplan$Row") := ⟨RX3, TX3, 3, "Bandplan$Land", rfl, by decide, aw_1_97, lay_X3, ⟨tyX3, tyX3_ok, rfl⟩, nmX3, Or.inl rfl⟩
theorem fin_X3_1 : ∀ C T N, mcl[3]? = some (C, T, N) → (T 1).2.2.2 = true ∧ (T 1).1 = "Bandplan$Land" := by
  intro C T N hc
  cases (show some (RX3, TX3, 3) = some (C, T, N) from hc)
  exact ⟨rfl, rfl⟩
theorem fl_X3_27 : FLD "Bandplan$Land" 27 3 2 (.object "Bandplan$Row") := ⟨RX3, TX3, 3, "Bandplan$Land", rfl, by decide, aw_1_98, lay_X3, ⟨tyX3, tyX3_ok, rfl⟩, nmX3, Or.inl rfl⟩
theorem fin_X3_2 : ∀ C T N, mcl[3]? = some (C, T, N) → (T 2).2.2.2 = true ∧ (T 2).1 = "Bandplan$Land" := by
  intro C T N hc
  cases (show some (RX3, TX3, 3) = some (C, T, N) from hc)
  exact ⟨rfl, rfl⟩
theorem so_X0_3 : SO "Bandplan$Air" 3 := ⟨aw_1_50, aw_1_43, aw_1_44⟩
theorem no_X0_9 : NO "Bandplan$Air" 9 3 3 [.null, .null, .null] := ⟨RX3, TX3, rfl, aw_1_51, aw_1_52, aw_1_3, lay_X3, tyX3, tyX3_ok, fun j hj => by
  match j, hj with
  | 0, _ => rfl
  | 1, _ => rfl
  | 2, _ => rfl
  | j + 3, hj => exact absurd hj (by omega)⟩
theorem sin_X0_11 : SIN "Bandplan$Air" 11 yX3_init "Bandplan" cX3_init 1 0 := ⟨List.mem_filter.mpr ⟨nw_1_53, rfl⟩, aw_1_54, rfl, aw_1_3, aw_1_55, by decide, by decide, by decide⟩
theorem lay_X0 : ∀ w ∈ u_ws RX0 TX0 3, w ∈ AW := by
  intro w hw
  obtain ⟨k, hk, rfl⟩ := List.mem_map.mp hw
  have hk := List.mem_range.mp hk
  match k, hk with
  | 0, _ => exact aw_1_117
  | 1, _ => exact aw_1_119
  | 2, _ => exact aw_1_121
  | k + 3, hk => exact absurd hk (by omega)
theorem fl_X0_12 : FLD "Bandplan$Air" 12 0 0 (.object "Bandplan$Land") := ⟨RX0, TX0, 3, "Bandplan$Air", rfl, by decide, aw_1_108, lay_X0, ⟨tyX0, tyX0_ok, rfl⟩, nmX0, Or.inl rfl⟩
theorem fin_X0_0 : ∀ C T N, mcl[0]? = some (C, T, N) → (T 0).2.2.2 = true ∧ (T 0).1 = "Bandplan$Air" := by
  intro C T N hc
  cases (show some (RX0, TX0, 3) = some (C, T, N) from hc)
  exact ⟨rfl, rfl⟩
theorem no_X0_18 : NO "Bandplan$Air" 18 14 3 [.int 0, .null, .int 0] := ⟨RJx4a65c, TJx4a65c, rfl, aw_1_106, aw_1_58, aw_1_6, lay_Jx4a65c, tyJx4a65c, tyJx4a65c_ok, fun j hj => by
  match j, hj with
  | 0, _ => rfl
  | 1, _ => rfl
  | 2, _ => rfl
  | j + 3, hj => exact absurd hj (by omega)⟩
theorem si_X0_20 : SI "Bandplan$Air" 20 yJx4a65c_init_da8c8 cJx4a65c_init_da8c8 1 0 := ⟨aw_1_107, aw_1_60, rfl, aw_1_6, aw_1_61, by decide, by decide, by decide⟩
theorem fl_X0_21 : FLD "Bandplan$Air" 21 0 1 (.object "java/util/ArrayList") := ⟨RX0, TX0, 3, "Bandplan$Air", rfl, by decide, aw_1_110, lay_X0, ⟨tyX0, tyX0_ok, rfl⟩, nmX0, Or.inl rfl⟩
theorem fin_X0_1 : ∀ C T N, mcl[0]? = some (C, T, N) → (T 1).2.2.2 = true ∧ (T 1).1 = "Bandplan$Air" := by
  intro C T N hc
  cases (show some (RX0, TX0, 3) = some (C, T, N) from hc)
  exact ⟨rfl, rfl⟩
theorem fl_X0_25 : FLD "Bandplan$Air" 25 0 2 .int := ⟨RX0, TX0, 3, "Bandplan$Air", rfl, by decide, aw_1_115, lay_X0, ⟨tyX0, tyX0_ok, rfl⟩, nmX0, Or.inl rfl⟩
theorem fin_X0_2 : ∀ C T N, mcl[0]? = some (C, T, N) → (T 2).2.2.2 = false ∧ (T 2).1 = "Bandplan$Air" := by
  intro C T N hc
  cases (show some (RX0, TX0, 3) = some (C, T, N) from hc)
  exact ⟨rfl, rfl⟩
theorem sv_X3_48 : SV "Bandplan$Land" 48 yX7_at cX7_at 2 (some .int) 1 := ⟨aw_2_124, aw_2_101, aw_2_102, aw_1_7, aw_2_103, by decide, by decide, by decide⟩
theorem lay_X10 : ∀ w ∈ u_ws RX10 TX10 6, w ∈ AW := by
  intro w hw
  obtain ⟨k, hk, rfl⟩ := List.mem_map.mp hw
  have hk := List.mem_range.mp hk
  match k, hk with
  | 0, _ => exact aw_4_11
  | 1, _ => exact aw_4_13
  | 2, _ => exact aw_4_15
  | 3, _ => exact aw_4_17
  | 4, _ => exact aw_4_19
  | 5, _ => exact aw_4_21
  | k + 6, hk => exact absurd hk (by omega)
theorem fl_X0_29 : FLD "Bandplan$Air" 29 10 3 .int := ⟨RX10, TX10, 6, "Bandplan$Station", rfl, by decide, aw_4_3, lay_X10, ⟨tyX10, tyX10_ok, rfl⟩, nmX10, Or.inl rfl⟩
theorem fin_X10_3 : ∀ C T N, mcl[10]? = some (C, T, N) → (T 3).2.2.2 = true ∧ (T 3).1 = "Bandplan$Station" := by
  intro C T N hc
  cases (show some (RX10, TX10, 6) = some (C, T, N) from hc)
  exact ⟨rfl, rfl⟩
theorem fl_X0_34 : FLD "Bandplan$Air" 34 10 1 .int := ⟨RX10, TX10, 6, "Bandplan$Station", rfl, by decide, aw_3_239, lay_X10, ⟨tyX10, tyX10_ok, rfl⟩, nmX10, Or.inl rfl⟩
theorem fin_X10_1 : ∀ C T N, mcl[10]? = some (C, T, N) → (T 1).2.2.2 = true ∧ (T 1).1 = "Bandplan$Station" := by
  intro C T N hc
  cases (show some (RX10, TX10, 6) = some (C, T, N) from hc)
  exact ⟨rfl, rfl⟩
theorem fl_X0_37 : FLD "Bandplan$Air" 37 10 2 .int := ⟨RX10, TX10, 6, "Bandplan$Station", rfl, by decide, aw_4_1, lay_X10, ⟨tyX10, tyX10_ok, rfl⟩, nmX10, Or.inl rfl⟩
theorem fin_X10_2 : ∀ C T N, mcl[10]? = some (C, T, N) → (T 2).2.2.2 = true ∧ (T 2).1 = "Bandplan$Station" := by
  intro C T N hc
  cases (show some (RX10, TX10, 6) = some (C, T, N) from hc)
  exact ⟨rfl, rfl⟩
theorem sv_X0_40 : SV "Bandplan$Air" 40 yX3_lossBetween cX3_lossBetween 3 (some .int) 2 := ⟨aw_2_120, aw_2_121, aw_2_122, aw_1_3, aw_2_123, by decide, by decide, by decide⟩
theorem fl_Jx4a65c_48 : FLD "java/util/ArrayList" 48 14 2 .int := ⟨RJx4a65c, TJx4a65c, 3, "java/util/ArrayList", rfl, by decide, aw_1_72, lay_Jx4a65c, ⟨tyJx4a65c, tyJx4a65c_ok, rfl⟩, nmJx4a65c, Or.inl rfl⟩
theorem fin_Jx4a65c_2 : ∀ C T N, mcl[14]? = some (C, T, N) → (T 2).2.2.2 = false ∧ (T 2).1 = "java/util/ArrayList" := by
  intro C T N hc
  cases (show some (RJx4a65c, TJx4a65c, 3) = some (C, T, N) from hc)
  exact ⟨rfl, rfl⟩
theorem ss_J15_105 : SS "java/util/Objects" 105 yJ3_checkIndex_8e157 cJ3_checkIndex_8e157 3 (some .int) 3 := ⟨aw_2_92, aw_2_93, aw_1_24, aw_2_94, by decide, by decide, by decide⟩
theorem ss_Jx4a65c_118 : SS "java/util/ArrayList" 118 yJ15_checkIndex_7cf53 cJ15_checkIndex_7cf53 2 (some .int) 2 := ⟨aw_2_89, aw_2_90, aw_1_23, aw_2_91, by decide, by decide, by decide⟩
theorem sv_Jx4a65c_123 : SV "java/util/ArrayList" 123 yJx4a65c_elementData_915e3 cJx4a65c_elementData_915e3 2 (some (.object "java/lang/Object")) 1 := ⟨aw_2_95, aw_2_96, aw_2_97, aw_1_6, aw_2_98, by decide, by decide, by decide⟩
theorem sm_X0_62 : SM "Bandplan$Air" 62 Lib.Math.abs.name Lib.Math.abs.code 1 := ⟨aw_2_113, aw_2_114, aw_1_25, aw_2_115⟩
theorem sm_X0_109 : SM "Bandplan$Air" 109 Lib.Math.max.name Lib.Math.max.code 2 := ⟨aw_2_128, aw_2_129, aw_1_25, aw_2_130⟩
theorem sv_X0_45 : SV "Bandplan$Air" 45 yJx4a65c_size_8abf5 cJx4a65c_size_8abf5 1 (some .int) 0 := ⟨aw_2_81, aw_2_82, aw_2_83, aw_1_6, aw_2_84, by decide, by decide, by decide⟩
theorem sv_X0_49 : SV "Bandplan$Air" 49 yJx4a65c_get_915e3 cJx4a65c_get_915e3 2 (some (.object "java/lang/Object")) 1 := ⟨aw_2_85, aw_2_86, aw_2_87, aw_1_6, aw_2_88, by decide, by decide, by decide⟩
theorem sv_X0_53 : SV "Bandplan$Air" 53 yX7_at cX7_at 2 (some .int) 1 := ⟨aw_2_100, aw_2_101, aw_2_102, aw_1_7, aw_2_103, by decide, by decide, by decide⟩
theorem fl_X0_59 : FLD "Bandplan$Air" 59 10 0 .int := ⟨RX10, TX10, 6, "Bandplan$Station", rfl, by decide, aw_3_235, lay_X10, ⟨tyX10, tyX10_ok, rfl⟩, nmX10, Or.inl rfl⟩
theorem fin_X10_0 : ∀ C T N, mcl[10]? = some (C, T, N) → (T 0).2.2.2 = true ∧ (T 0).1 = "Bandplan$Station" := by
  intro C T N hc
  cases (show some (RX10, TX10, 6) = some (C, T, N) from hc)
  exact ⟨rfl, rfl⟩
theorem sv_X0_67 : SV "Bandplan$Air" 67 yX0_harmOf cX0_harmOf 5 (some .int) 3 := ⟨aw_2_116, aw_2_118, aw_p_0, aw_1_2, aw_2_119, by decide, by decide, by decide⟩
theorem ss_X0_71 : SS "Bandplan$Air" 71 yX0_together cX0_together 3 (some .int) 2 := ⟨aw_2_125, aw_2_126, aw_1_2, aw_2_127, by decide, by decide, by decide⟩
theorem sv_X0_74 : SV "Bandplan$Air" 74 yX0_allHarm cX0_allHarm 8 (some .int) 2 := ⟨aw_2_108, aw_2_109, aw_2_110, aw_1_2, aw_2_111, by decide, by decide, by decide⟩
theorem sv_X0_78 : SV "Bandplan$Air" 78 yX0_levelOf cX0_levelOf 2 (some .int) 1 := ⟨aw_2_131, aw_2_132, aw_2_133, aw_1_2, aw_2_134, by decide, by decide, by decide⟩
theorem fl_X0_82 : FLD "Bandplan$Air" 82 10 4 .boolean := ⟨RX10, TX10, 6, "Bandplan$Station", rfl, by decide, aw_4_5, lay_X10, ⟨tyX10, tyX10_ok, rfl⟩, nmX10, Or.inl rfl⟩
theorem fin_X10_4 : ∀ C T N, mcl[10]? = some (C, T, N) → (T 4).2.2.2 = true ∧ (T 4).1 = "Bandplan$Station" := by
  intro C T N hc
  cases (show some (RX10, TX10, 6) = some (C, T, N) from hc)
  exact ⟨rfl, rfl⟩
theorem sv_X0_86 : SV "Bandplan$Air" 86 yX0_keepsLevel cX0_keepsLevel 4 (some .boolean) 2 := ⟨aw_2_104, aw_2_105, aw_2_106, aw_1_2, aw_2_107, by decide, by decide, by decide⟩
theorem sv_X0_90 : SV "Bandplan$Air" 90 yX0_suffers cX0_suffers 4 (some .boolean) 3 := ⟨aw_4_119, aw_4_121, aw_p_17, aw_1_2, aw_4_122, by decide, by decide, by decide⟩
theorem fl_X0_101 : FLD "Bandplan$Air" 101 3 0 (.object "java/util/ArrayList") := ⟨RX3, TX3, 3, "Bandplan$Land", rfl, by decide, aw_1_96, lay_X3, ⟨tyX3, tyX3_ok, rfl⟩, nmX3, Or.inl rfl⟩
theorem lay_X9 : ∀ w ∈ u_ws RX9 TX9 3, w ∈ AW := by
  intro w hw
  obtain ⟨k, hk, rfl⟩ := List.mem_map.mp hw
  have hk := List.mem_range.mp hk
  match k, hk with
  | 0, _ => exact aw_3_128
  | 1, _ => exact aw_3_130
  | 2, _ => exact aw_3_132
  | k + 3, hk => exact absurd hk (by omega)
theorem fl_X0_106 : FLD "Bandplan$Air" 106 9 0 .int := ⟨RX9, TX9, 3, "Bandplan$Site", rfl, by decide, aw_3_123, lay_X9, ⟨tyX9, tyX9_ok, rfl⟩, nmX9, Or.inl rfl⟩
theorem fin_X9_0 : ∀ C T N, mcl[9]? = some (C, T, N) → (T 0).2.2.2 = true ∧ (T 0).1 = "Bandplan$Site" := by
  intro C T N hc
  cases (show some (RX9, TX9, 3) = some (C, T, N) from hc)
  exact ⟨rfl, rfl⟩
theorem sv_X0_94 : SV "Bandplan$Air" 94 yX0_isBeyond cX0_isBeyond 2 (some .boolean) 1 := ⟨aw_4_139, aw_4_141, aw_p_18, aw_1_2, aw_4_142, by decide, by decide, by decide⟩
theorem fl_X0_98 : FLD "Bandplan$Air" 98 10 5 .int := ⟨RX10, TX10, 6, "Bandplan$Station", rfl, by decide, aw_4_9, lay_X10, ⟨tyX10, tyX10_ok, rfl⟩, nmX10, Or.inl rfl⟩
theorem fin_X10_5 : ∀ C T N, mcl[10]? = some (C, T, N) → (T 5).2.2.2 = false ∧ (T 5).1 = "Bandplan$Station" := by
  intro C T N hc
  cases (show some (RX10, TX10, 6) = some (C, T, N) from hc)
  exact ⟨rfl, rfl⟩
theorem so_X1_3 : SO "Bandplan$Border" 3 := ⟨aw_1_156, aw_1_43, aw_1_44⟩
theorem no_X1_9 : NO "Bandplan$Border" 9 7 1 [.null] := ⟨RX7, TX7, rfl, aw_1_157, aw_1_84, aw_1_7, lay_X7, tyX7, tyX7_ok, fun j hj => by
  match j, hj with
  | 0, _ => rfl
  | j + 1, hj => exact absurd hj (by omega)⟩
theorem si_X1_11 : SI "Bandplan$Border" 11 yX7_init cX7_init 4 2 := ⟨aw_1_158, aw_1_86, rfl, aw_1_7, aw_1_87, by decide, by decide, by decide⟩
theorem lay_X1 : ∀ w ∈ u_ws RX1 TX1 3, w ∈ AW := by
  intro w hw
  obtain ⟨k, hk, rfl⟩ := List.mem_map.mp hw
  have hk := List.mem_range.mp hk
  match k, hk with
  | 0, _ => exact aw_1_162
  | 1, _ => exact aw_1_164
  | 2, _ => exact aw_1_166
  | k + 3, hk => exact absurd hk (by omega)
theorem fl_X1_14 : FLD "Bandplan$Border" 14 1 0 (.object "Bandplan$Row") := ⟨RX1, TX1, 3, "Bandplan$Border", rfl, by decide, aw_1_159, lay_X1, ⟨tyX1, tyX1_ok, rfl⟩, nmX1, Or.inl rfl⟩
theorem fin_X1_0 : ∀ C T N, mcl[1]? = some (C, T, N) → (T 0).2.2.2 = true ∧ (T 0).1 = "Bandplan$Border" := by
  intro C T N hc
  cases (show some (RX1, TX1, 3) = some (C, T, N) from hc)
  exact ⟨rfl, rfl⟩
theorem fl_X1_20 : FLD "Bandplan$Border" 20 1 1 (.object "Bandplan$Row") := ⟨RX1, TX1, 3, "Bandplan$Border", rfl, by decide, aw_1_160, lay_X1, ⟨tyX1, tyX1_ok, rfl⟩, nmX1, Or.inl rfl⟩
theorem fin_X1_1 : ∀ C T N, mcl[1]? = some (C, T, N) → (T 1).2.2.2 = true ∧ (T 1).1 = "Bandplan$Border" := by
  intro C T N hc
  cases (show some (RX1, TX1, 3) = some (C, T, N) from hc)
  exact ⟨rfl, rfl⟩
theorem fl_X1_23 : FLD "Bandplan$Border" 23 1 2 (.object "Bandplan$Row") := ⟨RX1, TX1, 3, "Bandplan$Border", rfl, by decide, aw_1_161, lay_X1, ⟨tyX1, tyX1_ok, rfl⟩, nmX1, Or.inl rfl⟩
theorem fin_X1_2 : ∀ C T N, mcl[1]? = some (C, T, N) → (T 2).2.2.2 = true ∧ (T 2).1 = "Bandplan$Border" := by
  intro C T N hc
  cases (show some (RX1, TX1, 3) = some (C, T, N) from hc)
  exact ⟨rfl, rfl⟩
theorem sv_X1_26 : SV "Bandplan$Border" 26 yX7_at cX7_at 2 (some .int) 1 := ⟨aw_4_134, aw_2_101, aw_2_102, aw_1_7, aw_2_103, by decide, by decide, by decide⟩
theorem sv_X1_30 : SV "Bandplan$Border" 30 yX7_put cX7_put 3 none 2 := ⟨aw_4_199, aw_3_80, aw_3_81, aw_1_7, aw_3_82, by decide, by decide, by decide⟩
theorem sv_X1_33 : SV "Bandplan$Border" 33 yX1_wasAsked cX1_wasAsked 3 (some .boolean) 2 := ⟨aw_4_148, aw_4_149, aw_4_150, aw_1_9, aw_4_151, by decide, by decide, by decide⟩
theorem so_X2_3 : SO "Bandplan$Buying" 3 := ⟨aw_1_232, aw_1_43, aw_1_44⟩
theorem no_X2_9 : NO "Bandplan$Buying" 9 7 1 [.null] := ⟨RX7, TX7, rfl, aw_1_233, aw_1_84, aw_1_7, lay_X7, tyX7, tyX7_ok, fun j hj => by
  match j, hj with
  | 0, _ => rfl
  | j + 1, hj => exact absurd hj (by omega)⟩
theorem si_X2_11 : SI "Bandplan$Buying" 11 yX7_init cX7_init 4 2 := ⟨aw_1_234, aw_1_86, rfl, aw_1_7, aw_1_87, by decide, by decide, by decide⟩
theorem lay_X2 : ∀ w ∈ u_ws RX2 TX2 5, w ∈ AW := by
  intro w hw
  obtain ⟨k, hk, rfl⟩ := List.mem_map.mp hw
  have hk := List.mem_range.mp hk
  match k, hk with
  | 0, _ => exact aw_2_3
  | 1, _ => exact aw_2_5
  | 2, _ => exact aw_2_7
  | 3, _ => exact aw_2_9
  | 4, _ => exact aw_2_11
  | k + 5, hk => exact absurd hk (by omega)
theorem fl_X2_14 : FLD "Bandplan$Buying" 14 2 0 (.object "Bandplan$Row") := ⟨RX2, TX2, 5, "Bandplan$Buying", rfl, by decide, aw_1_235, lay_X2, ⟨tyX2, tyX2_ok, rfl⟩, nmX2, Or.inl rfl⟩
theorem fin_X2_0 : ∀ C T N, mcl[2]? = some (C, T, N) → (T 0).2.2.2 = true ∧ (T 0).1 = "Bandplan$Buying" := by
  intro C T N hc
  cases (show some (RX2, TX2, 5) = some (C, T, N) from hc)
  exact ⟨rfl, rfl⟩
theorem fl_X2_20 : FLD "Bandplan$Buying" 20 2 1 (.object "Bandplan$Row") := ⟨RX2, TX2, 5, "Bandplan$Buying", rfl, by decide, aw_1_237, lay_X2, ⟨tyX2, tyX2_ok, rfl⟩, nmX2, Or.inl rfl⟩
theorem fin_X2_1 : ∀ C T N, mcl[2]? = some (C, T, N) → (T 1).2.2.2 = true ∧ (T 1).1 = "Bandplan$Buying" := by
  intro C T N hc
  cases (show some (RX2, TX2, 5) = some (C, T, N) from hc)
  exact ⟨rfl, rfl⟩
theorem fl_X2_23 : FLD "Bandplan$Buying" 23 2 3 (.object "Bandplan$Row") := ⟨RX2, TX2, 5, "Bandplan$Buying", rfl, by decide, aw_2_1, lay_X2, ⟨tyX2, tyX2_ok, rfl⟩, nmX2, Or.inl rfl⟩
theorem fin_X2_3 : ∀ C T N, mcl[2]? = some (C, T, N) → (T 3).2.2.2 = true ∧ (T 3).1 = "Bandplan$Buying" := by
  intro C T N hc
  cases (show some (RX2, TX2, 5) = some (C, T, N) from hc)
  exact ⟨rfl, rfl⟩
theorem fl_X2_26 : FLD "Bandplan$Buying" 26 2 4 (.object "Bandplan$Row") := ⟨RX2, TX2, 5, "Bandplan$Buying", rfl, by decide, aw_2_2, lay_X2, ⟨tyX2, tyX2_ok, rfl⟩, nmX2, Or.inl rfl⟩
theorem fin_X2_4 : ∀ C T N, mcl[2]? = some (C, T, N) → (T 4).2.2.2 = true ∧ (T 4).1 = "Bandplan$Buying" := by
  intro C T N hc
  cases (show some (RX2, TX2, 5) = some (C, T, N) from hc)
  exact ⟨rfl, rfl⟩
theorem fl_X2_29 : FLD "Bandplan$Buying" 29 2 2 .int := ⟨RX2, TX2, 5, "Bandplan$Buying", rfl, by decide, aw_1_239, lay_X2, ⟨tyX2, tyX2_ok, rfl⟩, nmX2, Or.inl rfl⟩
theorem fin_X2_2 : ∀ C T N, mcl[2]? = some (C, T, N) → (T 2).2.2.2 = false ∧ (T 2).1 = "Bandplan$Buying" := by
  intro C T N hc
  cases (show some (RX2, TX2, 5) = some (C, T, N) from hc)
  exact ⟨rfl, rfl⟩
theorem sv_X2_33 : SV "Bandplan$Buying" 33 yX7_put cX7_put 3 none 2 := ⟨aw_5_125, aw_3_80, aw_3_81, aw_1_7, aw_3_82, by decide, by decide, by decide⟩
theorem sv_X2_44 : SV "Bandplan$Buying" 44 yX7_at cX7_at 2 (some .int) 1 := ⟨aw_2_151, aw_2_101, aw_2_102, aw_1_7, aw_2_103, by decide, by decide, by decide⟩
theorem sv_X2_51 : SV "Bandplan$Buying" 51 yX7_fillWith cX7_fillWith 3 none 1 := ⟨aw_5_141, aw_5_10, aw_5_11, aw_1_7, aw_5_12, by decide, by decide, by decide⟩
theorem sv_X2_55 : SV "Bandplan$Buying" 55 yX2_highestBidder cX2_highestBidder 7 (some .int) 2 := ⟨aw_5_142, aw_5_144, aw_p_25, aw_1_12, aw_5_145, by decide, by decide, by decide⟩
theorem sv_X2_48 : SV "Bandplan$Buying" 48 yX2_worthOf cX2_worthOf 5 (some .int) 2 := ⟨aw_2_152, aw_2_154, aw_p_1, aw_1_12, aw_2_155, by decide, by decide, by decide⟩
theorem sv_X2_36 : SV "Bandplan$Buying" 36 yX2_deal cX2_deal 6 (some .int) 3 := ⟨aw_5_137, aw_5_139, aw_p_24, aw_1_12, aw_5_140, by decide, by decide, by decide⟩
theorem sv_X2_40 : SV "Bandplan$Buying" 40 yX2_worthOfOthers cX2_worthOfOthers 5 (some .int) 2 := ⟨aw_5_146, aw_5_148, aw_p_26, aw_1_12, aw_5_149, by decide, by decide, by decide⟩
theorem fl_X3_62 : FLD "Bandplan$Land" 62 9 0 .int := ⟨RX9, TX9, 3, "Bandplan$Site", rfl, by decide, aw_3_122, lay_X9, ⟨tyX9, tyX9_ok, rfl⟩, nmX9, Or.inl rfl⟩
theorem fl_X3_66 : FLD "Bandplan$Land" 66 9 1 .int := ⟨RX9, TX9, 3, "Bandplan$Site", rfl, by decide, aw_3_125, lay_X9, ⟨tyX9, tyX9_ok, rfl⟩, nmX9, Or.inl rfl⟩
theorem fin_X9_1 : ∀ C T N, mcl[9]? = some (C, T, N) → (T 1).2.2.2 = true ∧ (T 1).1 = "Bandplan$Site" := by
  intro C T N hc
  cases (show some (RX9, TX9, 3) = some (C, T, N) from hc)
  exact ⟨rfl, rfl⟩
theorem sm_X3_75 : SM "Bandplan$Land" 75 Lib.Math.abs.name Lib.Math.abs.code 1 := ⟨aw_3_101, aw_2_114, aw_1_25, aw_2_115⟩
theorem sm_X3_80 : SM "Bandplan$Land" 80 Lib.Math.max.name Lib.Math.max.code 2 := ⟨aw_3_102, aw_2_129, aw_1_25, aw_2_130⟩
theorem fl_X3_83 : FLD "Bandplan$Land" 83 9 2 .int := ⟨RX9, TX9, 3, "Bandplan$Site", rfl, by decide, aw_3_127, lay_X9, ⟨tyX9, tyX9_ok, rfl⟩, nmX9, Or.inl rfl⟩
theorem fin_X9_2 : ∀ C T N, mcl[9]? = some (C, T, N) → (T 2).2.2.2 = true ∧ (T 2).1 = "Bandplan$Site" := by
  intro C T N hc
  cases (show some (RX9, TX9, 3) = some (C, T, N) from hc)
  exact ⟨rfl, rfl⟩
theorem sv_X3_30 : SV "Bandplan$Land" 30 yX3_groundAt cX3_groundAt 3 (some .int) 2 := ⟨aw_3_75, aw_3_77, aw_p_6, aw_1_3, aw_3_78, by decide, by decide, by decide⟩
theorem ss_X3_86 : SS "Bandplan$Land" 86 yJ9_floorDiv_7cf53 cJ9_floorDiv_7cf53 3 (some .int) 2 := ⟨aw_3_103, aw_3_104, aw_1_25, aw_3_105, by decide, by decide, by decide⟩
theorem ss_X3_69 : SS "Bandplan$Land" 69 yX3_rootOf cX3_rootOf 4 (some .int) 1 := ⟨aw_3_94, aw_3_95, aw_1_3, aw_3_96, by decide, by decide, by decide⟩
theorem sv_X3_72 : SV "Bandplan$Land" 72 yX3_blocksBetween cX3_blocksBetween 13 (some .int) 2 := ⟨aw_3_97, aw_3_99, aw_p_9, aw_1_3, aw_3_100, by decide, by decide, by decide⟩
theorem sv_X3_44 : SV "Bandplan$Land" 44 yJx4a65c_size_8abf5 cJx4a65c_size_8abf5 1 (some .int) 0 := ⟨aw_3_87, aw_2_82, aw_2_83, aw_1_6, aw_2_84, by decide, by decide, by decide⟩
theorem sv_X3_52 : SV "Bandplan$Land" 52 yJx4a65c_get_915e3 cJx4a65c_get_915e3 2 (some (.object "java/lang/Object")) 1 := ⟨aw_3_88, aw_2_86, aw_2_87, aw_1_6, aw_2_88, by decide, by decide, by decide⟩
theorem sv_X3_58 : SV "Bandplan$Land" 58 yX3_measure cX3_measure 6 (some .int) 2 := ⟨aw_3_90, aw_3_92, aw_p_8, aw_1_3, aw_3_93, by decide, by decide, by decide⟩
theorem sv_X3_34 : SV "Bandplan$Land" 34 yX7_put cX7_put 3 none 2 := ⟨aw_3_79, aw_3_80, aw_3_81, aw_1_7, aw_3_82, by decide, by decide, by decide⟩
theorem sv_X3_37 : SV "Bandplan$Land" 37 yX3_measureAll cX3_measureAll 4 none 0 := ⟨aw_3_83, aw_3_85, aw_p_7, aw_1_3, aw_3_86, by decide, by decide, by decide⟩
theorem sm_J8_194 : SM "jdk/internal/util/ArraysSupport" 194 Lib.Math.max.name Lib.Math.max.code 2 := ⟨aw_3_158, aw_2_129, aw_1_25, aw_2_130⟩
theorem sm_J7_304 : SM "java/util/Arrays" 304 Lib.Math.min.name Lib.Math.min.code 2 := ⟨aw_3_198, aw_3_199, aw_1_25, aw_3_200⟩
theorem ac_J7_150 : ACP "java/util/Arrays" 150 := ⟨aw_3_201, aw_t3 203 (by decide +kernel) rfl, aw_3_202, aw_1_29⟩
theorem gc_J7_86 : GCL "java/util/Arrays" 86 := ⟨aw_3_166, List.mem_filter.mpr ⟨nw_t7 212 (by decide +kernel), rfl⟩, aw_t7 211 (by decide +kernel) rfl, aw_3_167, aw_t3 191 (by decide +kernel) rfl⟩
theorem ss_J7_300 : SS "java/util/Arrays" 300 yJ7_copyOf_6403c cJ7_copyOf_6403c 4 (some (.array (.object "java/lang/Object"))) 3 := ⟨aw_3_192, aw_3_193, aw_1_28, aw_3_194, by decide, by decide, by decide⟩
theorem ss_Jx4a65c_73 : SS "java/util/ArrayList" 73 yJ8_newLength_cabcc cJ8_newLength_cabcc 4 (some .int) 3 := ⟨aw_3_155, aw_3_156, aw_1_27, aw_3_157, by decide, by decide, by decide⟩
theorem ss_Jx4a65c_66 : SS "java/util/ArrayList" 66 yJ7_copyOf_1904c cJ7_copyOf_1904c 2 (some (.array (.object "java/lang/Object"))) 2 := ⟨aw_3_163, aw_3_164, aw_1_28, aw_3_165, by decide, by decide, by decide⟩
theorem sm_Jx4a65c_79 : SM "java/util/ArrayList" 79 Lib.Math.max.name Lib.Math.max.code 2 := ⟨aw_3_204, aw_2_129, aw_1_25, aw_2_130⟩
theorem sv_Jx4a65c_69 : SV "java/util/ArrayList" 69 yJx4a65c_grow_92f84 cJx4a65c_grow_92f84 4 (some (.array (.object "java/lang/Object"))) 1 := ⟨aw_3_151, aw_3_153, aw_p_12, aw_1_6, aw_3_154, by decide, by decide, by decide⟩
theorem sv_Jx4a65c_129 : SV "java/util/ArrayList" 129 yJx4a65c_grow_d5877 cJx4a65c_grow_d5877 1 (some (.array (.object "java/lang/Object"))) 0 := ⟨aw_3_147, aw_3_149, aw_p_11, aw_1_6, aw_3_150, by decide, by decide, by decide⟩
theorem fl_Jx4a65c_63 : FLD "java/util/ArrayList" 63 14 0 .int := ⟨RJx4a65c, TJx4a65c, 3, "java/util/ArrayList", rfl, by decide, aw_1_74, lay_Jx4a65c, ⟨tyJx4a65c, tyJx4a65c_ok, rfl⟩, nmJx4a65c, Or.inr (aw_t1 75 (by decide +kernel) rfl)⟩
theorem sv_Jx4a65c_131 : SV "java/util/ArrayList" 131 yJx4a65c_add_72be8 cJx4a65c_add_72be8 4 none 3 := ⟨aw_3_143, aw_3_145, aw_p_10, aw_1_6, aw_3_146, by decide, by decide, by decide⟩
theorem sv_X3_40 : SV "Bandplan$Land" 40 yJx4a65c_add_9ea2d cJx4a65c_add_9ea2d 2 (some .boolean) 1 := ⟨aw_3_139, aw_3_140, aw_3_141, aw_1_6, aw_3_142, by decide, by decide, by decide⟩
theorem so_X4_3 : SO "Bandplan$Moving" 3 := ⟨aw_2_19, aw_1_43, aw_1_44⟩
theorem no_X4_9 : NO "Bandplan$Moving" 9 7 1 [.null] := ⟨RX7, TX7, rfl, aw_2_20, aw_1_84, aw_1_7, lay_X7, tyX7, tyX7_ok, fun j hj => by
  match j, hj with
  | 0, _ => rfl
  | j + 1, hj => exact absurd hj (by omega)⟩
theorem si_X4_11 : SI "Bandplan$Moving" 11 yX7_init cX7_init 4 2 := ⟨aw_2_21, aw_1_86, rfl, aw_1_7, aw_1_87, by decide, by decide, by decide⟩
theorem lay_X4 : ∀ w ∈ u_ws RX4 TX4 4, w ∈ AW := by
  intro w hw
  obtain ⟨k, hk, rfl⟩ := List.mem_map.mp hw
  have hk := List.mem_range.mp hk
  match k, hk with
  | 0, _ => exact aw_2_29
  | 1, _ => exact aw_2_31
  | 2, _ => exact aw_2_33
  | 3, _ => exact aw_2_35
  | k + 4, hk => exact absurd hk (by omega)
theorem fl_X4_14 : FLD "Bandplan$Moving" 14 4 0 (.object "Bandplan$Row") := ⟨RX4, TX4, 4, "Bandplan$Moving", rfl, by decide, aw_2_22, lay_X4, ⟨tyX4, tyX4_ok, rfl⟩, nmX4, Or.inl rfl⟩
theorem fin_X4_0 : ∀ C T N, mcl[4]? = some (C, T, N) → (T 0).2.2.2 = true ∧ (T 0).1 = "Bandplan$Moving" := by
  intro C T N hc
  cases (show some (RX4, TX4, 4) = some (C, T, N) from hc)
  exact ⟨rfl, rfl⟩
theorem fl_X4_20 : FLD "Bandplan$Moving" 20 4 1 .boolean := ⟨RX4, TX4, 4, "Bandplan$Moving", rfl, by decide, aw_2_24, lay_X4, ⟨tyX4, tyX4_ok, rfl⟩, nmX4, Or.inl rfl⟩
theorem fin_X4_1 : ∀ C T N, mcl[4]? = some (C, T, N) → (T 1).2.2.2 = false ∧ (T 1).1 = "Bandplan$Moving" := by
  intro C T N hc
  cases (show some (RX4, TX4, 4) = some (C, T, N) from hc)
  exact ⟨rfl, rfl⟩
theorem fl_X4_24 : FLD "Bandplan$Moving" 24 4 2 .int := ⟨RX4, TX4, 4, "Bandplan$Moving", rfl, by decide, aw_2_26, lay_X4, ⟨tyX4, tyX4_ok, rfl⟩, nmX4, Or.inl rfl⟩
theorem fin_X4_2 : ∀ C T N, mcl[4]? = some (C, T, N) → (T 2).2.2.2 = false ∧ (T 2).1 = "Bandplan$Moving" := by
  intro C T N hc
  cases (show some (RX4, TX4, 4) = some (C, T, N) from hc)
  exact ⟨rfl, rfl⟩
theorem fl_X4_28 : FLD "Bandplan$Moving" 28 4 3 .int := ⟨RX4, TX4, 4, "Bandplan$Moving", rfl, by decide, aw_2_28, lay_X4, ⟨tyX4, tyX4_ok, rfl⟩, nmX4, Or.inl rfl⟩
theorem fin_X4_3 : ∀ C T N, mcl[4]? = some (C, T, N) → (T 3).2.2.2 = false ∧ (T 3).1 = "Bandplan$Moving" := by
  intro C T N hc
  cases (show some (RX4, TX4, 4) = some (C, T, N) from hc)
  exact ⟨rfl, rfl⟩
theorem sv_X4_31 : SV "Bandplan$Moving" 31 yX7_fillWith cX7_fillWith 3 none 1 := ⟨aw_5_181, aw_5_10, aw_5_11, aw_1_7, aw_5_12, by decide, by decide, by decide⟩
theorem ssn_X4_35 : SSN "Bandplan$Moving" 35 yX11_isIn "Bandplan" cX11_isIn 2 (some .boolean) 2 := ⟨List.mem_filter.mpr ⟨nw_5_182, rfl⟩, aw_5_33, aw_1_1, aw_5_34, by decide, by decide, by decide⟩
theorem lay_X6 : ∀ w ∈ u_ws RX6 TX6 5, w ∈ AW := by
  intro w hw
  obtain ⟨k, hk, rfl⟩ := List.mem_map.mp hw
  have hk := List.mem_range.mp hk
  match k, hk with
  | 0, _ => exact aw_1_140
  | 1, _ => exact aw_1_142
  | 2, _ => exact aw_1_144
  | 3, _ => exact aw_1_146
  | 4, _ => exact aw_1_148
  | k + 5, hk => exact absurd hk (by omega)
theorem fl_X4_39 : FLD "Bandplan$Moving" 39 6 0 (.object "Bandplan$Row") := ⟨RX6, TX6, 5, "Bandplan$Register", rfl, by decide, aw_1_133, lay_X6, ⟨tyX6, tyX6_ok, rfl⟩, nmX6, Or.inl rfl⟩
theorem fin_X6_0 : ∀ C T N, mcl[6]? = some (C, T, N) → (T 0).2.2.2 = true ∧ (T 0).1 = "Bandplan$Register" := by
  intro C T N hc
  cases (show some (RX6, TX6, 5) = some (C, T, N) from hc)
  exact ⟨rfl, rfl⟩
theorem sv_X4_44 : SV "Bandplan$Moving" 44 yX7_at cX7_at 2 (some .int) 1 := ⟨aw_5_183, aw_2_101, aw_2_102, aw_1_7, aw_2_103, by decide, by decide, by decide⟩
theorem lay_X5 : ∀ w ∈ u_ws RX5 TX5 5, w ∈ AW := by
  intro w hw
  obtain ⟨k, hk, rfl⟩ := List.mem_map.mp hw
  have hk := List.mem_range.mp hk
  match k, hk with
  | 0, _ => exact aw_1_184
  | 1, _ => exact aw_1_186
  | 2, _ => exact aw_1_188
  | 3, _ => exact aw_1_190
  | 4, _ => exact aw_1_192
  | k + 5, hk => exact absurd hk (by omega)
theorem fl_X4_48 : FLD "Bandplan$Moving" 48 5 0 (.object "Bandplan$Row") := ⟨RX5, TX5, 5, "Bandplan$Packer", rfl, by decide, aw_1_178, lay_X5, ⟨tyX5, tyX5_ok, rfl⟩, nmX5, Or.inl rfl⟩
theorem fin_X5_0 : ∀ C T N, mcl[5]? = some (C, T, N) → (T 0).2.2.2 = true ∧ (T 0).1 = "Bandplan$Packer" := by
  intro C T N hc
  cases (show some (RX5, TX5, 5) = some (C, T, N) from hc)
  exact ⟨rfl, rfl⟩
theorem sv_X4_53 : SV "Bandplan$Moving" 53 yX7_put cX7_put 3 none 2 := ⟨aw_5_184, aw_3_80, aw_3_81, aw_1_7, aw_3_82, by decide, by decide, by decide⟩
theorem sm_X5_59 : SM "Bandplan$Packer" 59 Lib.Math.abs.name Lib.Math.abs.code 1 := ⟨aw_5_40, aw_2_114, aw_1_25, aw_2_115⟩
theorem fl_X5_20 : FLD "Bandplan$Packer" 20 5 1 (.object "Bandplan$Row") := ⟨RX5, TX5, 5, "Bandplan$Packer", rfl, by decide, aw_1_180, lay_X5, ⟨tyX5, tyX5_ok, rfl⟩, nmX5, Or.inl rfl⟩
theorem fin_X5_1 : ∀ C T N, mcl[5]? = some (C, T, N) → (T 1).2.2.2 = true ∧ (T 1).1 = "Bandplan$Packer" := by
  intro C T N hc
  cases (show some (RX5, TX5, 5) = some (C, T, N) from hc)
  exact ⟨rfl, rfl⟩
theorem sv_X5_65 : SV "Bandplan$Packer" 65 yX7_at cX7_at 2 (some .int) 1 := ⟨aw_5_39, aw_2_101, aw_2_102, aw_1_7, aw_2_103, by decide, by decide, by decide⟩
theorem fl_X4_67 : FLD "Bandplan$Moving" 67 0 1 (.object "java/util/ArrayList") := ⟨RX0, TX0, 3, "Bandplan$Air", rfl, by decide, aw_1_113, lay_X0, ⟨tyX0, tyX0_ok, rfl⟩, nmX0, Or.inl rfl⟩
theorem sv_X4_73 : SV "Bandplan$Moving" 73 yJx4a65c_size_8abf5 cJx4a65c_size_8abf5 1 (some .int) 0 := ⟨aw_5_193, aw_2_82, aw_2_83, aw_1_6, aw_2_84, by decide, by decide, by decide⟩
theorem sv_X4_87 : SV "Bandplan$Moving" 87 yJx4a65c_get_915e3 cJx4a65c_get_915e3 2 (some (.object "java/lang/Object")) 1 := ⟨aw_5_197, aw_2_86, aw_2_87, aw_1_6, aw_2_88, by decide, by decide, by decide⟩
theorem fl_X4_93 : FLD "Bandplan$Moving" 93 10 4 .boolean := ⟨RX10, TX10, 6, "Bandplan$Station", rfl, by decide, aw_4_6, lay_X10, ⟨tyX10, tyX10_ok, rfl⟩, nmX10, Or.inl rfl⟩
theorem sv_X4_96 : SV "Bandplan$Moving" 96 yX5_areTooNear cX5_areTooNear 5 (some .boolean) 4 := ⟨aw_5_199, aw_5_200, aw_5_201, aw_1_10, aw_5_202, by decide, by decide, by decide⟩
theorem fl_X6_20 : FLD "Bandplan$Register" 20 6 2 (.object "Bandplan$Row") := ⟨RX6, TX6, 5, "Bandplan$Register", rfl, by decide, aw_1_137, lay_X6, ⟨tyX6, tyX6_ok, rfl⟩, nmX6, Or.inl rfl⟩
theorem fin_X6_2 : ∀ C T N, mcl[6]? = some (C, T, N) → (T 2).2.2.2 = true ∧ (T 2).1 = "Bandplan$Register" := by
  intro C T N hc
  cases (show some (RX6, TX6, 5) = some (C, T, N) from hc)
  exact ⟨rfl, rfl⟩
theorem sv_X6_29 : SV "Bandplan$Register" 29 yX7_at cX7_at 2 (some .int) 1 := ⟨aw_2_143, aw_2_101, aw_2_102, aw_1_7, aw_2_103, by decide, by decide, by decide⟩
theorem fl_X6_23 : FLD "Bandplan$Register" 23 6 3 (.object "Bandplan$Row") := ⟨RX6, TX6, 5, "Bandplan$Register", rfl, by decide, aw_1_138, lay_X6, ⟨tyX6, tyX6_ok, rfl⟩, nmX6, Or.inl rfl⟩
theorem fin_X6_3 : ∀ C T N, mcl[6]? = some (C, T, N) → (T 3).2.2.2 = true ∧ (T 3).1 = "Bandplan$Register" := by
  intro C T N hc
  cases (show some (RX6, TX6, 5) = some (C, T, N) from hc)
  exact ⟨rfl, rfl⟩
theorem ss_X6_39 : SS "Bandplan$Register" 39 yX6_lineOf cX6_lineOf 2 (some .int) 2 := ⟨aw_2_144, aw_2_145, aw_1_8, aw_2_146, by decide, by decide, by decide⟩
theorem fl_X6_43 : FLD "Bandplan$Register" 43 6 1 .int := ⟨RX6, TX6, 5, "Bandplan$Register", rfl, by decide, aw_1_135, lay_X6, ⟨tyX6, tyX6_ok, rfl⟩, nmX6, Or.inl rfl⟩
theorem fin_X6_1 : ∀ C T N, mcl[6]? = some (C, T, N) → (T 1).2.2.2 = false ∧ (T 1).1 = "Bandplan$Register" := by
  intro C T N hc
  cases (show some (RX6, TX6, 5) = some (C, T, N) from hc)
  exact ⟨rfl, rfl⟩
theorem sv_X6_33 : SV "Bandplan$Register" 33 yX7_put cX7_put 3 none 2 := ⟨aw_4_168, aw_3_80, aw_3_81, aw_1_7, aw_3_82, by decide, by decide, by decide⟩
theorem fl_X6_26 : FLD "Bandplan$Register" 26 6 4 (.object "Bandplan$Row") := ⟨RX6, TX6, 5, "Bandplan$Register", rfl, by decide, aw_1_139, lay_X6, ⟨tyX6, tyX6_ok, rfl⟩, nmX6, Or.inl rfl⟩
theorem fin_X6_4 : ∀ C T N, mcl[6]? = some (C, T, N) → (T 4).2.2.2 = true ∧ (T 4).1 = "Bandplan$Register" := by
  intro C T N hc
  cases (show some (RX6, TX6, 5) = some (C, T, N) from hc)
  exact ⟨rfl, rfl⟩
theorem fl_X6_14 : FLD "Bandplan$Register" 14 6 0 (.object "Bandplan$Row") := ⟨RX6, TX6, 5, "Bandplan$Register", rfl, by decide, aw_1_132, lay_X6, ⟨tyX6, tyX6_ok, rfl⟩, nmX6, Or.inl rfl⟩
theorem sv_X6_36 : SV "Bandplan$Register" 36 yX6_write cX6_write 5 none 2 := ⟨aw_4_169, aw_4_171, aw_p_20, aw_1_8, aw_4_172, by decide, by decide, by decide⟩
theorem sv_X4_64 : SV "Bandplan$Moving" 64 yX6_change cX6_change 3 none 2 := ⟨aw_5_203, aw_4_165, aw_4_166, aw_1_8, aw_4_167, by decide, by decide, by decide⟩
theorem ss_X4_79 : SS "Bandplan$Moving" 79 yX4_isFree cX4_isFree 7 (some .boolean) 4 := ⟨aw_5_194, aw_5_195, aw_1_13, aw_5_196, by decide, by decide, by decide⟩
theorem ss_X4_83 : SS "Bandplan$Moving" 83 yX4_silenceSecondariesNear cX4_silenceSecondariesNear 7 none 4 := ⟨aw_5_204, aw_5_205, aw_1_13, aw_5_206, by decide, by decide, by decide⟩
theorem sv_X4_56 : SV "Bandplan$Moving" 56 yX4_holdPhase cX4_holdPhase 8 (some .boolean) 5 := ⟨aw_5_189, aw_5_191, aw_p_28, aw_1_13, aw_5_192, by decide, by decide, by decide⟩
theorem sv_X4_60 : SV "Bandplan$Moving" 60 yX4_lowestWaitingOn cX4_lowestWaitingOn 3 (some .int) 1 := ⟨aw_5_207, aw_5_209, aw_p_29, aw_1_13, aw_5_210, by decide, by decide, by decide⟩
theorem so_X5_3 : SO "Bandplan$Packer" 3 := ⟨aw_1_174, aw_1_43, aw_1_44⟩
theorem no_X5_9 : NO "Bandplan$Packer" 9 7 1 [.null] := ⟨RX7, TX7, rfl, aw_1_175, aw_1_84, aw_1_7, lay_X7, tyX7, tyX7_ok, fun j hj => by
  match j, hj with
  | 0, _ => rfl
  | j + 1, hj => exact absurd hj (by omega)⟩
theorem si_X5_11 : SI "Bandplan$Packer" 11 yX7_init cX7_init 4 2 := ⟨aw_1_176, aw_1_86, rfl, aw_1_7, aw_1_87, by decide, by decide, by decide⟩
theorem fl_X5_14 : FLD "Bandplan$Packer" 14 5 0 (.object "Bandplan$Row") := ⟨RX5, TX5, 5, "Bandplan$Packer", rfl, by decide, aw_1_177, lay_X5, ⟨tyX5, tyX5_ok, rfl⟩, nmX5, Or.inl rfl⟩
theorem fl_X5_23 : FLD "Bandplan$Packer" 23 5 2 (.object "Bandplan$Row") := ⟨RX5, TX5, 5, "Bandplan$Packer", rfl, by decide, aw_1_181, lay_X5, ⟨tyX5, tyX5_ok, rfl⟩, nmX5, Or.inl rfl⟩
theorem fin_X5_2 : ∀ C T N, mcl[5]? = some (C, T, N) → (T 2).2.2.2 = true ∧ (T 2).1 = "Bandplan$Packer" := by
  intro C T N hc
  cases (show some (RX5, TX5, 5) = some (C, T, N) from hc)
  exact ⟨rfl, rfl⟩
theorem sv_X5_87 : SV "Bandplan$Packer" 87 yX0_barEachOther cX0_barEachOther 4 (some .boolean) 3 := ⟨aw_5_19, aw_4_116, aw_4_117, aw_1_2, aw_4_118, by decide, by decide, by decide⟩
theorem fl_X5_26 : FLD "Bandplan$Packer" 26 5 3 .int := ⟨RX5, TX5, 5, "Bandplan$Packer", rfl, by decide, aw_1_182, lay_X5, ⟨tyX5, tyX5_ok, rfl⟩, nmX5, Or.inl rfl⟩
theorem fin_X5_3 : ∀ C T N, mcl[5]? = some (C, T, N) → (T 3).2.2.2 = false ∧ (T 3).1 = "Bandplan$Packer" := by
  intro C T N hc
  cases (show some (RX5, TX5, 5) = some (C, T, N) from hc)
  exact ⟨rfl, rfl⟩
theorem sv_X5_30 : SV "Bandplan$Packer" 30 yX7_fillWith cX7_fillWith 3 none 1 := ⟨aw_5_9, aw_5_10, aw_5_11, aw_1_7, aw_5_12, by decide, by decide, by decide⟩
theorem fl_X5_34 : FLD "Bandplan$Packer" 34 0 1 (.object "java/util/ArrayList") := ⟨RX0, TX0, 3, "Bandplan$Air", rfl, by decide, aw_1_111, lay_X0, ⟨tyX0, tyX0_ok, rfl⟩, nmX0, Or.inl rfl⟩
theorem sv_X5_40 : SV "Bandplan$Packer" 40 yJx4a65c_size_8abf5 cJx4a65c_size_8abf5 1 (some .int) 0 := ⟨aw_5_13, aw_2_82, aw_2_83, aw_1_6, aw_2_84, by decide, by decide, by decide⟩
theorem sv_X5_46 : SV "Bandplan$Packer" 46 yJx4a65c_get_915e3 cJx4a65c_get_915e3 2 (some (.object "java/lang/Object")) 1 := ⟨aw_5_14, aw_2_86, aw_2_87, aw_1_6, aw_2_88, by decide, by decide, by decide⟩
theorem ss_X5_52 : SS "Bandplan$Packer" 52 yX5_leastSpacing cX5_leastSpacing 4 (some .int) 3 := ⟨aw_5_16, aw_5_17, aw_1_10, aw_5_18, by decide, by decide, by decide⟩
theorem sv_X5_56 : SV "Bandplan$Packer" 56 yX7_put cX7_put 3 none 2 := ⟨aw_5_20, aw_3_80, aw_3_81, aw_1_7, aw_3_82, by decide, by decide, by decide⟩
theorem fl_X5_72 : FLD "Bandplan$Packer" 72 5 4 .int := ⟨RX5, TX5, 5, "Bandplan$Packer", rfl, by decide, aw_1_183, lay_X5, ⟨tyX5, tyX5_ok, rfl⟩, nmX5, Or.inl rfl⟩
theorem fin_X5_4 : ∀ C T N, mcl[5]? = some (C, T, N) → (T 4).2.2.2 = false ∧ (T 4).1 = "Bandplan$Packer" := by
  intro C T N hc
  cases (show some (RX5, TX5, 5) = some (C, T, N) from hc)
  exact ⟨rfl, rfl⟩
theorem ssn_X5_79 : SSN "Bandplan$Packer" 79 yX11_isIn "Bandplan" cX11_isIn 2 (some .boolean) 2 := ⟨List.mem_filter.mpr ⟨nw_5_32, rfl⟩, aw_5_33, aw_1_1, aw_5_34, by decide, by decide, by decide⟩
theorem sv_X5_83 : SV "Bandplan$Packer" 83 yX5_lowerTooNear cX5_lowerTooNear 5 (some .int) 2 := ⟨aw_5_35, aw_5_37, aw_p_21, aw_1_10, aw_5_38, by decide, by decide, by decide⟩
theorem ss_X5_75 : SS "Bandplan$Packer" 75 yX5_place cX5_place 6 (some .int) 2 := ⟨aw_5_29, aw_5_30, aw_1_10, aw_5_31, by decide, by decide, by decide⟩
theorem sv_X5_68 : SV "Bandplan$Packer" 68 yX5_findFirst cX5_findFirst 2 (some .boolean) 1 := ⟨aw_5_73, aw_5_26, aw_5_27, aw_1_10, aw_5_28, by decide, by decide, by decide⟩
theorem so_X6_3 : SO "Bandplan$Register" 3 := ⟨aw_1_129, aw_1_43, aw_1_44⟩
theorem no_X6_9 : NO "Bandplan$Register" 9 7 1 [.null] := ⟨RX7, TX7, rfl, aw_1_130, aw_1_84, aw_1_7, lay_X7, tyX7, tyX7_ok, fun j hj => by
  match j, hj with
  | 0, _ => rfl
  | j + 1, hj => exact absurd hj (by omega)⟩
theorem si_X6_11 : SI "Bandplan$Register" 11 yX7_init cX7_init 4 2 := ⟨aw_1_131, aw_1_86, rfl, aw_1_7, aw_1_87, by decide, by decide, by decide⟩
theorem sv_X6_47 : SV "Bandplan$Register" 47 yX6_channelAt cX6_channelAt 4 (some .int) 2 := ⟨aw_2_139, aw_2_140, aw_2_141, aw_1_8, aw_2_142, by decide, by decide, by decide⟩
theorem sv_X7_13 : SV "Bandplan$Row" 13 yX7_at cX7_at 2 (some .int) 1 := ⟨aw_4_157, aw_2_101, aw_2_102, aw_1_7, aw_2_103, by decide, by decide, by decide⟩
theorem so_X8_3 : SO "Bandplan$Selling" 3 := ⟨aw_1_200, aw_1_43, aw_1_44⟩
theorem no_X8_9 : NO "Bandplan$Selling" 9 7 1 [.null] := ⟨RX7, TX7, rfl, aw_1_201, aw_1_84, aw_1_7, lay_X7, tyX7, tyX7_ok, fun j hj => by
  match j, hj with
  | 0, _ => rfl
  | j + 1, hj => exact absurd hj (by omega)⟩
theorem si_X8_11 : SI "Bandplan$Selling" 11 yX7_init cX7_init 4 2 := ⟨aw_1_202, aw_1_86, rfl, aw_1_7, aw_1_87, by decide, by decide, by decide⟩
theorem lay_X8 : ∀ w ∈ u_ws RX8 TX8 6, w ∈ AW := by
  intro w hw
  obtain ⟨k, hk, rfl⟩ := List.mem_map.mp hw
  have hk := List.mem_range.mp hk
  match k, hk with
  | 0, _ => exact aw_1_214
  | 1, _ => exact aw_1_216
  | 2, _ => exact aw_1_218
  | 3, _ => exact aw_1_220
  | 4, _ => exact aw_1_222
  | 5, _ => exact aw_1_224
  | k + 6, hk => exact absurd hk (by omega)
theorem fl_X8_14 : FLD "Bandplan$Selling" 14 8 0 (.object "Bandplan$Row") := ⟨RX8, TX8, 6, "Bandplan$Selling", rfl, by decide, aw_1_203, lay_X8, ⟨tyX8, tyX8_ok, rfl⟩, nmX8, Or.inl rfl⟩
theorem fin_X8_0 : ∀ C T N, mcl[8]? = some (C, T, N) → (T 0).2.2.2 = true ∧ (T 0).1 = "Bandplan$Selling" := by
  intro C T N hc
  cases (show some (RX8, TX8, 6) = some (C, T, N) from hc)
  exact ⟨rfl, rfl⟩
theorem fl_X8_20 : FLD "Bandplan$Selling" 20 8 5 (.object "Bandplan$Row") := ⟨RX8, TX8, 6, "Bandplan$Selling", rfl, by decide, aw_1_213, lay_X8, ⟨tyX8, tyX8_ok, rfl⟩, nmX8, Or.inl rfl⟩
theorem fin_X8_5 : ∀ C T N, mcl[8]? = some (C, T, N) → (T 5).2.2.2 = true ∧ (T 5).1 = "Bandplan$Selling" := by
  intro C T N hc
  cases (show some (RX8, TX8, 6) = some (C, T, N) from hc)
  exact ⟨rfl, rfl⟩
theorem fl_X8_23 : FLD "Bandplan$Selling" 23 8 2 .int := ⟨RX8, TX8, 6, "Bandplan$Selling", rfl, by decide, aw_1_207, lay_X8, ⟨tyX8, tyX8_ok, rfl⟩, nmX8, Or.inl rfl⟩
theorem fin_X8_2 : ∀ C T N, mcl[8]? = some (C, T, N) → (T 2).2.2.2 = false ∧ (T 2).1 = "Bandplan$Selling" := by
  intro C T N hc
  cases (show some (RX8, TX8, 6) = some (C, T, N) from hc)
  exact ⟨rfl, rfl⟩
theorem fl_X8_27 : FLD "Bandplan$Selling" 27 8 1 .boolean := ⟨RX8, TX8, 6, "Bandplan$Selling", rfl, by decide, aw_1_205, lay_X8, ⟨tyX8, tyX8_ok, rfl⟩, nmX8, Or.inl rfl⟩
theorem fin_X8_1 : ∀ C T N, mcl[8]? = some (C, T, N) → (T 1).2.2.2 = false ∧ (T 1).1 = "Bandplan$Selling" := by
  intro C T N hc
  cases (show some (RX8, TX8, 6) = some (C, T, N) from hc)
  exact ⟨rfl, rfl⟩
theorem fl_X8_31 : FLD "Bandplan$Selling" 31 8 3 .int := ⟨RX8, TX8, 6, "Bandplan$Selling", rfl, by decide, aw_1_209, lay_X8, ⟨tyX8, tyX8_ok, rfl⟩, nmX8, Or.inl rfl⟩
theorem fin_X8_3 : ∀ C T N, mcl[8]? = some (C, T, N) → (T 3).2.2.2 = false ∧ (T 3).1 = "Bandplan$Selling" := by
  intro C T N hc
  cases (show some (RX8, TX8, 6) = some (C, T, N) from hc)
  exact ⟨rfl, rfl⟩
theorem fl_X8_34 : FLD "Bandplan$Selling" 34 8 4 .int := ⟨RX8, TX8, 6, "Bandplan$Selling", rfl, by decide, aw_1_211, lay_X8, ⟨tyX8, tyX8_ok, rfl⟩, nmX8, Or.inl rfl⟩
theorem fin_X8_4 : ∀ C T N, mcl[8]? = some (C, T, N) → (T 4).2.2.2 = false ∧ (T 4).1 = "Bandplan$Selling" := by
  intro C T N hc
  cases (show some (RX8, TX8, 6) = some (C, T, N) from hc)
  exact ⟨rfl, rfl⟩
theorem sv_X8_37 : SV "Bandplan$Selling" 37 yX7_fillWith cX7_fillWith 3 none 1 := ⟨aw_5_79, aw_5_10, aw_5_11, aw_1_7, aw_5_12, by decide, by decide, by decide⟩
theorem fl_X8_84 : FLD "Bandplan$Selling" 84 10 0 .int := ⟨RX10, TX10, 6, "Bandplan$Station", rfl, by decide, aw_3_236, lay_X10, ⟨tyX10, tyX10_ok, rfl⟩, nmX10, Or.inl rfl⟩
theorem sv_X8_87 : SV "Bandplan$Selling" 87 yX7_put cX7_put 3 none 2 := ⟨aw_5_97, aw_3_80, aw_3_81, aw_1_7, aw_3_82, by decide, by decide, by decide⟩
theorem fl_X8_81 : FLD "Bandplan$Selling" 81 10 5 .int := ⟨RX10, TX10, 6, "Bandplan$Station", rfl, by decide, aw_4_8, lay_X10, ⟨tyX10, tyX10_ok, rfl⟩, nmX10, Or.inl rfl⟩
theorem fl_X8_45 : FLD "Bandplan$Selling" 45 0 1 (.object "java/util/ArrayList") := ⟨RX0, TX0, 3, "Bandplan$Air", rfl, by decide, aw_1_112, lay_X0, ⟨tyX0, tyX0_ok, rfl⟩, nmX0, Or.inl rfl⟩
theorem sv_X8_51 : SV "Bandplan$Selling" 51 yJx4a65c_size_8abf5 cJx4a65c_size_8abf5 1 (some .int) 0 := ⟨aw_5_88, aw_2_82, aw_2_83, aw_1_6, aw_2_84, by decide, by decide, by decide⟩
theorem ssn_X8_57 : SSN "Bandplan$Selling" 57 yX11_isIn "Bandplan" cX11_isIn 2 (some .boolean) 2 := ⟨List.mem_filter.mpr ⟨nw_5_89, rfl⟩, aw_5_33, aw_1_1, aw_5_34, by decide, by decide, by decide⟩
theorem sv_X8_61 : SV "Bandplan$Selling" 61 yJx4a65c_get_915e3 cJx4a65c_get_915e3 2 (some (.object "java/lang/Object")) 1 := ⟨aw_5_90, aw_2_86, aw_2_87, aw_1_6, aw_2_88, by decide, by decide, by decide⟩
theorem sv_X8_75 : SV "Bandplan$Selling" 75 yX5_fits cX5_fits 2 (some .boolean) 1 := ⟨aw_5_92, aw_5_70, aw_5_71, aw_1_10, aw_5_72, by decide, by decide, by decide⟩
theorem sv_X8_67 : SV "Bandplan$Selling" 67 yX8_take cX8_take 3 none 2 := ⟨aw_5_93, aw_5_95, aw_p_23, aw_1_11, aw_5_96, by decide, by decide, by decide⟩
theorem sv_X8_41 : SV "Bandplan$Selling" 41 yX8_holdRound cX8_holdRound 10 (some .int) 5 := ⟨aw_5_84, aw_5_86, aw_p_22, aw_1_11, aw_5_87, by decide, by decide, by decide⟩
theorem sv_X8_71 : SV "Bandplan$Selling" 71 yX7_at cX7_at 2 (some .int) 1 := ⟨aw_2_160, aw_2_101, aw_2_102, aw_1_7, aw_2_103, by decide, by decide, by decide⟩
theorem so_X9_1 : SO "Bandplan$Site" 1 := ⟨aw_3_120, aw_1_43, aw_1_44⟩
theorem fl_X9_7 : FLD "Bandplan$Site" 7 9 0 .int := ⟨RX9, TX9, 3, "Bandplan$Site", rfl, by decide, aw_3_121, lay_X9, ⟨tyX9, tyX9_ok, rfl⟩, nmX9, Or.inl rfl⟩
theorem fl_X9_13 : FLD "Bandplan$Site" 13 9 1 .int := ⟨RX9, TX9, 3, "Bandplan$Site", rfl, by decide, aw_3_124, lay_X9, ⟨tyX9, tyX9_ok, rfl⟩, nmX9, Or.inl rfl⟩
theorem fl_X9_16 : FLD "Bandplan$Site" 16 9 2 .int := ⟨RX9, TX9, 3, "Bandplan$Site", rfl, by decide, aw_3_126, lay_X9, ⟨tyX9, tyX9_ok, rfl⟩, nmX9, Or.inl rfl⟩
theorem so_X10_1 : SO "Bandplan$Station" 1 := ⟨aw_3_233, aw_1_43, aw_1_44⟩
theorem fl_X10_7 : FLD "Bandplan$Station" 7 10 0 .int := ⟨RX10, TX10, 6, "Bandplan$Station", rfl, by decide, aw_3_234, lay_X10, ⟨tyX10, tyX10_ok, rfl⟩, nmX10, Or.inl rfl⟩
theorem fl_X10_13 : FLD "Bandplan$Station" 13 10 1 .int := ⟨RX10, TX10, 6, "Bandplan$Station", rfl, by decide, aw_3_238, lay_X10, ⟨tyX10, tyX10_ok, rfl⟩, nmX10, Or.inl rfl⟩
theorem fl_X10_16 : FLD "Bandplan$Station" 16 10 2 .int := ⟨RX10, TX10, 6, "Bandplan$Station", rfl, by decide, aw_4_0, lay_X10, ⟨tyX10, tyX10_ok, rfl⟩, nmX10, Or.inl rfl⟩
theorem fl_X10_19 : FLD "Bandplan$Station" 19 10 3 .int := ⟨RX10, TX10, 6, "Bandplan$Station", rfl, by decide, aw_4_2, lay_X10, ⟨tyX10, tyX10_ok, rfl⟩, nmX10, Or.inl rfl⟩
theorem fl_X10_22 : FLD "Bandplan$Station" 22 10 4 .boolean := ⟨RX10, TX10, 6, "Bandplan$Station", rfl, by decide, aw_4_4, lay_X10, ⟨tyX10, tyX10_ok, rfl⟩, nmX10, Or.inl rfl⟩
theorem so_X11_1 : SO "Bandplan" 1 := ⟨aw_1_42, aw_1_43, aw_1_44⟩
theorem no_X11_7 : NO "Bandplan" 7 0 3 [.null, .null, .int 0] := ⟨RX0, TX0, rfl, aw_1_45, aw_1_46, aw_1_2, lay_X0, tyX0, tyX0_ok, fun j hj => by
  match j, hj with
  | 0, _ => rfl
  | 1, _ => rfl
  | 2, _ => rfl
  | j + 3, hj => exact absurd hj (by omega)⟩
theorem sin_X11_9 : SIN "Bandplan" 9 yX0_init "Bandplan" cX0_init 1 0 := ⟨List.mem_filter.mpr ⟨nw_1_47, rfl⟩, aw_1_48, rfl, aw_1_2, aw_1_49, by decide, by decide, by decide⟩
theorem lay_X11 : ∀ w ∈ u_ws RX11 TX11 8, w ∈ AW := by
  intro w hw
  obtain ⟨k, hk, rfl⟩ := List.mem_map.mp hw
  have hk := List.mem_range.mp hk
  match k, hk with
  | 0, _ => exact aw_2_48
  | 1, _ => exact aw_2_50
  | 2, _ => exact aw_2_52
  | 3, _ => exact aw_2_54
  | 4, _ => exact aw_2_56
  | 5, _ => exact aw_2_58
  | 6, _ => exact aw_2_60
  | 7, _ => exact aw_2_62
  | k + 8, hk => exact absurd hk (by omega)
theorem fl_X11_10 : FLD "Bandplan" 10 11 0 (.object "Bandplan$Air") := ⟨RX11, TX11, 8, "Bandplan", rfl, by decide, aw_2_40, lay_X11, ⟨tyX11, tyX11_ok, rfl⟩, nmX11, Or.inl rfl⟩
theorem fin_X11_0 : ∀ C T N, mcl[11]? = some (C, T, N) → (T 0).2.2.2 = true ∧ (T 0).1 = "Bandplan" := by
  intro C T N hc
  cases (show some (RX11, TX11, 8) = some (C, T, N) from hc)
  exact ⟨rfl, rfl⟩
theorem no_X11_16 : NO "Bandplan" 16 6 5 [.null, .int 0, .null, .null, .null] := ⟨RX6, TX6, rfl, aw_1_124, aw_1_125, aw_1_8, lay_X6, tyX6, tyX6_ok, fun j hj => by
  match j, hj with
  | 0, _ => rfl
  | 1, _ => rfl
  | 2, _ => rfl
  | 3, _ => rfl
  | 4, _ => rfl
  | j + 5, hj => exact absurd hj (by omega)⟩
theorem sin_X11_18 : SIN "Bandplan" 18 yX6_init "Bandplan" cX6_init 1 0 := ⟨List.mem_filter.mpr ⟨nw_1_126, rfl⟩, aw_1_127, rfl, aw_1_8, aw_1_128, by decide, by decide, by decide⟩
theorem fl_X11_19 : FLD "Bandplan" 19 11 1 (.object "Bandplan$Register") := ⟨RX11, TX11, 8, "Bandplan", rfl, by decide, aw_2_41, lay_X11, ⟨tyX11, tyX11_ok, rfl⟩, nmX11, Or.inl rfl⟩
theorem fin_X11_1 : ∀ C T N, mcl[11]? = some (C, T, N) → (T 1).2.2.2 = true ∧ (T 1).1 = "Bandplan" := by
  intro C T N hc
  cases (show some (RX11, TX11, 8) = some (C, T, N) from hc)
  exact ⟨rfl, rfl⟩
theorem no_X11_23 : NO "Bandplan" 23 1 3 [.null, .null, .null] := ⟨RX1, TX1, rfl, aw_1_151, aw_1_152, aw_1_9, lay_X1, tyX1, tyX1_ok, fun j hj => by
  match j, hj with
  | 0, _ => rfl
  | 1, _ => rfl
  | 2, _ => rfl
  | j + 3, hj => exact absurd hj (by omega)⟩
theorem sin_X11_25 : SIN "Bandplan" 25 yX1_init "Bandplan" cX1_init 1 0 := ⟨List.mem_filter.mpr ⟨nw_1_153, rfl⟩, aw_1_154, rfl, aw_1_9, aw_1_155, by decide, by decide, by decide⟩
theorem fl_X11_26 : FLD "Bandplan" 26 11 2 (.object "Bandplan$Border") := ⟨RX11, TX11, 8, "Bandplan", rfl, by decide, aw_2_42, lay_X11, ⟨tyX11, tyX11_ok, rfl⟩, nmX11, Or.inl rfl⟩
theorem fin_X11_2 : ∀ C T N, mcl[11]? = some (C, T, N) → (T 2).2.2.2 = true ∧ (T 2).1 = "Bandplan" := by
  intro C T N hc
  cases (show some (RX11, TX11, 8) = some (C, T, N) from hc)
  exact ⟨rfl, rfl⟩
theorem no_X11_30 : NO "Bandplan" 30 5 5 [.null, .null, .null, .int 0, .int 0] := ⟨RX5, TX5, rfl, aw_1_169, aw_1_170, aw_1_10, lay_X5, tyX5, tyX5_ok, fun j hj => by
  match j, hj with
  | 0, _ => rfl
  | 1, _ => rfl
  | 2, _ => rfl
  | 3, _ => rfl
  | 4, _ => rfl
  | j + 5, hj => exact absurd hj (by omega)⟩
theorem sin_X11_32 : SIN "Bandplan" 32 yX5_init "Bandplan" cX5_init 1 0 := ⟨List.mem_filter.mpr ⟨nw_1_171, rfl⟩, aw_1_172, rfl, aw_1_10, aw_1_173, by decide, by decide, by decide⟩
theorem fl_X11_33 : FLD "Bandplan" 33 11 3 (.object "Bandplan$Packer") := ⟨RX11, TX11, 8, "Bandplan", rfl, by decide, aw_2_43, lay_X11, ⟨tyX11, tyX11_ok, rfl⟩, nmX11, Or.inl rfl⟩
theorem fin_X11_3 : ∀ C T N, mcl[11]? = some (C, T, N) → (T 3).2.2.2 = true ∧ (T 3).1 = "Bandplan" := by
  intro C T N hc
  cases (show some (RX11, TX11, 8) = some (C, T, N) from hc)
  exact ⟨rfl, rfl⟩
theorem no_X11_37 : NO "Bandplan" 37 8 6 [.null, .int 0, .int 0, .int 0, .int 0, .null] := ⟨RX8, TX8, rfl, aw_1_195, aw_1_196, aw_1_11, lay_X8, tyX8, tyX8_ok, fun j hj => by
  match j, hj with
  | 0, _ => rfl
  | 1, _ => rfl
  | 2, _ => rfl
  | 3, _ => rfl
  | 4, _ => rfl
  | 5, _ => rfl
  | j + 6, hj => exact absurd hj (by omega)⟩
theorem sin_X11_39 : SIN "Bandplan" 39 yX8_init "Bandplan" cX8_init 1 0 := ⟨List.mem_filter.mpr ⟨nw_1_197, rfl⟩, aw_1_198, rfl, aw_1_11, aw_1_199, by decide, by decide, by decide⟩
theorem fl_X11_40 : FLD "Bandplan" 40 11 4 (.object "Bandplan$Selling") := ⟨RX11, TX11, 8, "Bandplan", rfl, by decide, aw_2_44, lay_X11, ⟨tyX11, tyX11_ok, rfl⟩, nmX11, Or.inl rfl⟩
theorem fin_X11_4 : ∀ C T N, mcl[11]? = some (C, T, N) → (T 4).2.2.2 = true ∧ (T 4).1 = "Bandplan" := by
  intro C T N hc
  cases (show some (RX11, TX11, 8) = some (C, T, N) from hc)
  exact ⟨rfl, rfl⟩
theorem no_X11_44 : NO "Bandplan" 44 2 5 [.null, .null, .int 0, .null, .null] := ⟨RX2, TX2, rfl, aw_1_227, aw_1_228, aw_1_12, lay_X2, tyX2, tyX2_ok, fun j hj => by
  match j, hj with
  | 0, _ => rfl
  | 1, _ => rfl
  | 2, _ => rfl
  | 3, _ => rfl
  | 4, _ => rfl
  | j + 5, hj => exact absurd hj (by omega)⟩
theorem sin_X11_46 : SIN "Bandplan" 46 yX2_init "Bandplan" cX2_init 1 0 := ⟨List.mem_filter.mpr ⟨nw_1_229, rfl⟩, aw_1_230, rfl, aw_1_12, aw_1_231, by decide, by decide, by decide⟩
theorem fl_X11_47 : FLD "Bandplan" 47 11 5 (.object "Bandplan$Buying") := ⟨RX11, TX11, 8, "Bandplan", rfl, by decide, aw_2_45, lay_X11, ⟨tyX11, tyX11_ok, rfl⟩, nmX11, Or.inl rfl⟩
theorem fin_X11_5 : ∀ C T N, mcl[11]? = some (C, T, N) → (T 5).2.2.2 = true ∧ (T 5).1 = "Bandplan" := by
  intro C T N hc
  cases (show some (RX11, TX11, 8) = some (C, T, N) from hc)
  exact ⟨rfl, rfl⟩
theorem no_X11_51 : NO "Bandplan" 51 4 4 [.null, .int 0, .int 0, .int 0] := ⟨RX4, TX4, rfl, aw_2_14, aw_2_15, aw_1_13, lay_X4, tyX4, tyX4_ok, fun j hj => by
  match j, hj with
  | 0, _ => rfl
  | 1, _ => rfl
  | 2, _ => rfl
  | 3, _ => rfl
  | j + 4, hj => exact absurd hj (by omega)⟩
theorem sin_X11_53 : SIN "Bandplan" 53 yX4_init "Bandplan" cX4_init 1 0 := ⟨List.mem_filter.mpr ⟨nw_2_16, rfl⟩, aw_2_17, rfl, aw_1_13, aw_2_18, by decide, by decide, by decide⟩
theorem fl_X11_54 : FLD "Bandplan" 54 11 6 (.object "Bandplan$Moving") := ⟨RX11, TX11, 8, "Bandplan", rfl, by decide, aw_2_46, lay_X11, ⟨tyX11, tyX11_ok, rfl⟩, nmX11, Or.inl rfl⟩
theorem fin_X11_6 : ∀ C T N, mcl[11]? = some (C, T, N) → (T 6).2.2.2 = true ∧ (T 6).1 = "Bandplan" := by
  intro C T N hc
  cases (show some (RX11, TX11, 8) = some (C, T, N) from hc)
  exact ⟨rfl, rfl⟩
theorem no_X11_58 : NO "Bandplan" 58 7 1 [.null] := ⟨RX7, TX7, rfl, aw_2_38, aw_1_84, aw_1_7, lay_X7, tyX7, tyX7_ok, fun j hj => by
  match j, hj with
  | 0, _ => rfl
  | j + 1, hj => exact absurd hj (by omega)⟩
theorem si_X11_60 : SI "Bandplan" 60 yX7_init cX7_init 4 2 := ⟨aw_2_39, aw_1_86, rfl, aw_1_7, aw_1_87, by decide, by decide, by decide⟩
theorem fl_X11_63 : FLD "Bandplan" 63 11 7 (.object "Bandplan$Row") := ⟨RX11, TX11, 8, "Bandplan", rfl, by decide, aw_2_47, lay_X11, ⟨tyX11, tyX11_ok, rfl⟩, nmX11, Or.inl rfl⟩
theorem fin_X11_7 : ∀ C T N, mcl[11]? = some (C, T, N) → (T 7).2.2.2 = true ∧ (T 7).1 = "Bandplan" := by
  intro C T N hc
  cases (show some (RX11, TX11, 8) = some (C, T, N) from hc)
  exact ⟨rfl, rfl⟩
theorem sv_X11_274 : SV "Bandplan" 274 yX6_onesOn cX6_onesOn 3 (some .int) 0 := ⟨aw_3_51, aw_3_52, aw_3_53, aw_1_8, aw_3_54, by decide, by decide, by decide⟩
theorem sv_X11_67 : SV "Bandplan" 67 yX11_needCell cX11_needCell 3 none 2 := ⟨aw_3_10, aw_3_12, aw_p_3, aw_1_1, aw_3_13, by decide, by decide, by decide⟩
theorem sv_X11_70 : SV "Bandplan" 70 yX11_needRange cX11_needRange 4 none 3 := ⟨aw_3_27, aw_3_29, aw_p_4, aw_1_1, aw_3_30, by decide, by decide, by decide⟩
theorem sv_X11_74 : SV "Bandplan" 74 yX11_needSilence cX11_needSilence 1 none 0 := ⟨aw_3_47, aw_3_49, aw_p_5, aw_1_1, aw_3_50, by decide, by decide, by decide⟩
theorem fl_X11_77 : FLD "Bandplan" 77 0 0 (.object "Bandplan$Land") := ⟨RX0, TX0, 3, "Bandplan$Air", rfl, by decide, aw_1_109, lay_X0, ⟨tyX0, tyX0_ok, rfl⟩, nmX0, Or.inl rfl⟩
theorem sv_X11_81 : SV "Bandplan" 81 yX3_changeGround cX3_changeGround 5 (some .int) 3 := ⟨aw_3_71, aw_3_72, aw_3_73, aw_1_3, aw_3_74, by decide, by decide, by decide⟩
theorem fl_X11_87 : FLD "Bandplan" 87 3 0 (.object "java/util/ArrayList") := ⟨RX3, TX3, 3, "Bandplan$Land", rfl, by decide, aw_1_95, lay_X3, ⟨tyX3, tyX3_ok, rfl⟩, nmX3, Or.inl rfl⟩
theorem sv_X11_91 : SV "Bandplan" 91 yJx4a65c_size_8abf5 cJx4a65c_size_8abf5 1 (some .int) 0 := ⟨aw_3_113, aw_2_82, aw_2_83, aw_1_6, aw_2_84, by decide, by decide, by decide⟩
theorem no_X11_104 : NO "Bandplan" 104 9 3 [.int 0, .int 0, .int 0] := ⟨RX9, TX9, rfl, aw_3_115, aw_3_116, aw_1_26, lay_X9, tyX9, tyX9_ok, fun j hj => by
  match j, hj with
  | 0, _ => rfl
  | 1, _ => rfl
  | 2, _ => rfl
  | j + 3, hj => exact absurd hj (by omega)⟩
theorem si_X11_106 : SI "Bandplan" 106 yX9_init cX9_init 4 3 := ⟨aw_3_117, aw_3_118, rfl, aw_1_26, aw_3_119, by decide, by decide, by decide⟩
theorem sv_X11_108 : SV "Bandplan" 108 yX3_found cX3_found 2 (some .int) 1 := ⟨aw_3_135, aw_3_136, aw_3_137, aw_1_3, aw_3_138, by decide, by decide, by decide⟩
theorem sv_X11_112 : SV "Bandplan" 112 yX11_needSite cX11_needSite 2 none 1 := ⟨aw_3_213, aw_3_215, aw_p_13, aw_1_1, aw_3_216, by decide, by decide, by decide⟩
theorem sv_X11_116 : SV "Bandplan" 116 yX3_lossBetween cX3_lossBetween 3 (some .int) 2 := ⟨aw_3_218, aw_2_121, aw_2_122, aw_1_3, aw_2_123, by decide, by decide, by decide⟩
theorem fl_X11_125 : FLD "Bandplan" 125 0 1 (.object "java/util/ArrayList") := ⟨RX0, TX0, 3, "Bandplan$Air", rfl, by decide, aw_1_114, lay_X0, ⟨tyX0, tyX0_ok, rfl⟩, nmX0, Or.inl rfl⟩
theorem no_X11_130 : NO "Bandplan" 130 10 6 [.int 0, .int 0, .int 0, .int 0, .int 0, .int 0] := ⟨RX10, TX10, rfl, aw_3_228, aw_3_229, aw_1_30, lay_X10, tyX10, tyX10_ok, fun j hj => by
  match j, hj with
  | 0, _ => rfl
  | 1, _ => rfl
  | 2, _ => rfl
  | 3, _ => rfl
  | 4, _ => rfl
  | 5, _ => rfl
  | j + 6, hj => exact absurd hj (by omega)⟩
theorem si_X11_132 : SI "Bandplan" 132 yX10_init cX10_init 6 5 := ⟨aw_3_230, aw_3_231, rfl, aw_1_30, aw_3_232, by decide, by decide, by decide⟩
theorem sv_X11_135 : SV "Bandplan" 135 yJx4a65c_add_9ea2d cJx4a65c_add_9ea2d 2 (some .boolean) 1 := ⟨aw_4_24, aw_3_140, aw_3_141, aw_1_6, aw_3_142, by decide, by decide, by decide⟩
theorem fl_X11_139 : FLD "Bandplan" 139 0 2 .int := ⟨RX0, TX0, 3, "Bandplan$Air", rfl, by decide, aw_1_116, lay_X0, ⟨tyX0, tyX0_ok, rfl⟩, nmX0, Or.inl rfl⟩
theorem sv_X11_361 : SV "Bandplan" 361 yJx4a65c_get_915e3 cJx4a65c_get_915e3 2 (some (.object "java/lang/Object")) 1 := ⟨aw_4_44, aw_2_86, aw_2_87, aw_1_6, aw_2_88, by decide, by decide, by decide⟩
theorem sv_X11_143 : SV "Bandplan" 143 yX11_stationAt cX11_stationAt 2 (some (.object "Bandplan$Station")) 1 := ⟨aw_4_39, aw_4_41, aw_p_14, aw_1_1, aw_4_42, by decide, by decide, by decide⟩
theorem sv_X11_147 : SV "Bandplan" 147 yX0_levelOf cX0_levelOf 2 (some .int) 1 := ⟨aw_4_45, aw_2_132, aw_2_133, aw_1_2, aw_2_134, by decide, by decide, by decide⟩
theorem fl_X11_154 : FLD "Bandplan" 154 6 0 (.object "Bandplan$Row") := ⟨RX6, TX6, 5, "Bandplan$Register", rfl, by decide, aw_1_134, lay_X6, ⟨tyX6, tyX6_ok, rfl⟩, nmX6, Or.inl rfl⟩
theorem sv_X11_226 : SV "Bandplan" 226 yX7_at cX7_at 2 (some .int) 1 := ⟨aw_4_59, aw_2_101, aw_2_102, aw_1_7, aw_2_103, by decide, by decide, by decide⟩
theorem sv_X11_151 : SV "Bandplan" 151 yX11_stationOnAir cX11_stationOnAir 3 (some (.object "Bandplan$Station")) 1 := ⟨aw_4_55, aw_4_57, aw_p_15, aw_1_1, aw_4_58, by decide, by decide, by decide⟩
theorem sv_X11_157 : SV "Bandplan" 157 yX0_allHarm cX0_allHarm 8 (some .int) 2 := ⟨aw_4_76, aw_2_109, aw_2_110, aw_1_2, aw_2_111, by decide, by decide, by decide⟩
theorem sv_X11_167 : SV "Bandplan" 167 yX0_keepsLevel cX0_keepsLevel 4 (some .boolean) 2 := ⟨aw_4_101, aw_2_105, aw_2_106, aw_1_2, aw_2_107, by decide, by decide, by decide⟩
theorem sv_X11_173 : SV "Bandplan" 173 yX11_needChannel cX11_needChannel 2 none 1 := ⟨aw_4_110, aw_4_112, aw_p_16, aw_1_1, aw_4_113, by decide, by decide, by decide⟩
theorem sm_X11_176 : SM "Bandplan" 176 Lib.Math.abs.name Lib.Math.abs.code 1 := ⟨aw_4_114, aw_2_114, aw_1_25, aw_2_115⟩
theorem sv_X11_182 : SV "Bandplan" 182 yX0_barEachOther cX0_barEachOther 4 (some .boolean) 3 := ⟨aw_4_115, aw_4_116, aw_4_117, aw_1_2, aw_4_118, by decide, by decide, by decide⟩
theorem fl_X11_232 : FLD "Bandplan" 232 10 0 .int := ⟨RX10, TX10, 6, "Bandplan$Station", rfl, by decide, aw_3_237, lay_X10, ⟨tyX10, tyX10_ok, rfl⟩, nmX10, Or.inl rfl⟩
theorem fl_X11_210 : FLD "Bandplan" 210 10 4 .boolean := ⟨RX10, TX10, 6, "Bandplan$Station", rfl, by decide, aw_4_7, lay_X10, ⟨tyX10, tyX10_ok, rfl⟩, nmX10, Or.inl rfl⟩
theorem sv_X11_207 : SV "Bandplan" 207 yX7_put cX7_put 3 none 2 := ⟨aw_4_158, aw_3_80, aw_3_81, aw_1_7, aw_3_82, by decide, by decide, by decide⟩
theorem sv_X11_186 : SV "Bandplan" 186 yX1_isForeign cX1_isForeign 2 (some .boolean) 1 := ⟨aw_4_130, aw_4_131, aw_4_132, aw_1_9, aw_4_133, by decide, by decide, by decide⟩
theorem sv_X11_203 : SV "Bandplan" 203 yX7_copyFrom cX7_copyFrom 3 none 1 := ⟨aw_4_153, aw_4_154, aw_4_155, aw_1_7, aw_4_156, by decide, by decide, by decide⟩
theorem sv_X11_217 : SV "Bandplan" 217 yX0_allKeep cX0_allKeep 4 (some .boolean) 1 := ⟨aw_2_77, aw_2_78, aw_2_79, aw_1_2, aw_2_80, by decide, by decide, by decide⟩
theorem sv_X11_229 : SV "Bandplan" 229 yX6_change cX6_change 3 none 2 := ⟨aw_4_164, aw_4_165, aw_4_166, aw_1_8, aw_4_167, by decide, by decide, by decide⟩
theorem sv_X11_214 : SV "Bandplan" 214 yX11_silenceSecondaries cX11_silenceSecondaries 6 (some .int) 1 := ⟨aw_4_159, aw_4_161, aw_p_19, aw_1_1, aw_4_162, by decide, by decide, by decide⟩
theorem sv_X11_190 : SV "Bandplan" 190 yX0_isNearBorder cX0_isNearBorder 2 (some .boolean) 1 := ⟨aw_4_135, aw_4_136, aw_4_137, aw_1_2, aw_4_138, by decide, by decide, by decide⟩
theorem fl_X11_194 : FLD "Bandplan" 194 6 1 .int := ⟨RX6, TX6, 5, "Bandplan$Register", rfl, by decide, aw_1_136, lay_X6, ⟨tyX6, tyX6_ok, rfl⟩, nmX6, Or.inl rfl⟩
theorem sv_X11_197 : SV "Bandplan" 197 yX1_yesCounts cX1_yesCounts 4 (some .boolean) 3 := ⟨aw_4_144, aw_4_145, aw_4_146, aw_1_9, aw_4_147, by decide, by decide, by decide⟩
theorem sv_X11_235 : SV "Bandplan" 235 yX6_channelAt cX6_channelAt 4 (some .int) 2 := ⟨aw_4_187, aw_2_140, aw_2_141, aw_1_8, aw_2_142, by decide, by decide, by decide⟩
theorem sv_X11_238 : SV "Bandplan" 238 yX1_makeForeign cX1_makeForeign 3 none 2 := ⟨aw_4_195, aw_4_196, aw_4_197, aw_1_9, aw_4_198, by decide, by decide, by decide⟩
theorem sv_X11_242 : SV "Bandplan" 242 yX1_ask cX1_ask 4 (some .int) 3 := ⟨aw_4_207, aw_4_208, aw_4_209, aw_1_9, aw_4_210, by decide, by decide, by decide⟩
theorem sv_X11_245 : SV "Bandplan" 245 yX1_wasAsked cX1_wasAsked 3 (some .boolean) 2 := ⟨aw_4_218, aw_4_149, aw_4_150, aw_1_9, aw_4_151, by decide, by decide, by decide⟩
theorem sv_X11_251 : SV "Bandplan" 251 yX1_protest cX1_protest 5 (some .boolean) 3 := ⟨aw_4_220, aw_4_221, aw_4_222, aw_1_9, aw_4_223, by decide, by decide, by decide⟩
theorem sv_X11_254 : SV "Bandplan" 254 yX5_prepare cX5_prepare 6 none 2 := ⟨aw_5_5, aw_5_6, aw_5_7, aw_1_10, aw_5_8, by decide, by decide, by decide⟩
theorem sv_X11_258 : SV "Bandplan" 258 yX0_protectedOnes cX0_protectedOnes 3 (some .int) 0 := ⟨aw_5_21, aw_5_22, aw_5_23, aw_1_2, aw_5_24, by decide, by decide, by decide⟩
theorem sv_X11_261 : SV "Bandplan" 261 yX5_findFirst cX5_findFirst 2 (some .boolean) 1 := ⟨aw_5_25, aw_5_26, aw_5_27, aw_1_10, aw_5_28, by decide, by decide, by decide⟩
theorem fl_X11_268 : FLD "Bandplan" 268 5 0 (.object "Bandplan$Row") := ⟨RX5, TX5, 5, "Bandplan$Packer", rfl, by decide, aw_1_179, lay_X5, ⟨tyX5, tyX5_ok, rfl⟩, nmX5, Or.inl rfl⟩
theorem fl_X11_271 : FLD "Bandplan" 271 10 5 .int := ⟨RX10, TX10, 6, "Bandplan$Station", rfl, by decide, aw_4_10, lay_X10, ⟨tyX10, tyX10_ok, rfl⟩, nmX10, Or.inl rfl⟩
theorem sv_X11_279 : SV "Bandplan" 279 yX0_askingMoreThan cX0_askingMoreThan 4 (some .int) 1 := ⟨aw_5_65, aw_5_66, aw_5_67, aw_1_2, aw_5_68, by decide, by decide, by decide⟩
theorem sv_X11_282 : SV "Bandplan" 282 yX5_fits cX5_fits 2 (some .boolean) 1 := ⟨aw_5_69, aw_5_70, aw_5_71, aw_1_10, aw_5_72, by decide, by decide, by decide⟩
theorem sv_X11_287 : SV "Bandplan" 287 yX8_begin cX8_begin 3 none 2 := ⟨aw_5_75, aw_5_76, aw_5_77, aw_1_11, aw_5_78, by decide, by decide, by decide⟩
theorem sv_X11_290 : SV "Bandplan" 290 yX8_run cX8_run 9 (some .int) 5 := ⟨aw_5_80, aw_5_81, aw_5_82, aw_1_11, aw_5_83, by decide, by decide, by decide⟩
theorem ss_X11_297 : SS "Bandplan" 297 yJ6_bitCount_0f7a4 cJ6_bitCount_0f7a4 1 (some .int) 1 := ⟨aw_5_99, aw_5_100, aw_1_34, aw_5_101, by decide, by decide, by decide⟩
theorem ss_X11_294 : SS "Bandplan" 294 yX11_isIn cX11_isIn 2 (some .boolean) 2 := ⟨aw_5_98, aw_5_33, aw_1_1, aw_5_34, by decide, by decide, by decide⟩
theorem fl_X11_302 : FLD "Bandplan" 302 8 0 (.object "Bandplan$Row") := ⟨RX8, TX8, 6, "Bandplan$Selling", rfl, by decide, aw_1_204, lay_X8, ⟨tyX8, tyX8_ok, rfl⟩, nmX8, Or.inl rfl⟩
theorem fl_X11_307 : FLD "Bandplan" 307 8 4 .int := ⟨RX8, TX8, 6, "Bandplan$Selling", rfl, by decide, aw_1_212, lay_X8, ⟨tyX8, tyX8_ok, rfl⟩, nmX8, Or.inl rfl⟩
theorem fl_X11_310 : FLD "Bandplan" 310 2 2 .int := ⟨RX2, TX2, 5, "Bandplan$Buying", rfl, by decide, aw_2_0, lay_X2, ⟨tyX2, tyX2_ok, rfl⟩, nmX2, Or.inl rfl⟩
theorem sv_X11_315 : SV "Bandplan" 315 yX2_admit cX2_admit 4 (some .int) 3 := ⟨aw_5_121, aw_5_122, aw_5_123, aw_1_12, aw_5_124, by decide, by decide, by decide⟩
theorem sv_X11_318 : SV "Bandplan" 318 yX2_run cX2_run 4 (some .int) 1 := ⟨aw_5_133, aw_5_134, aw_5_135, aw_1_12, aw_5_136, by decide, by decide, by decide⟩
theorem sv_X11_320 : SV "Bandplan" 320 yX11_needBidder cX11_needBidder 2 none 1 := ⟨aw_5_157, aw_5_159, aw_p_27, aw_1_1, aw_5_160, by decide, by decide, by decide⟩
theorem fl_X11_323 : FLD "Bandplan" 323 2 0 (.object "Bandplan$Row") := ⟨RX2, TX2, 5, "Bandplan$Buying", rfl, by decide, aw_1_236, lay_X2, ⟨tyX2, tyX2_ok, rfl⟩, nmX2, Or.inl rfl⟩
theorem fl_X11_326 : FLD "Bandplan" 326 2 1 (.object "Bandplan$Row") := ⟨RX2, TX2, 5, "Bandplan$Buying", rfl, by decide, aw_1_238, lay_X2, ⟨tyX2, tyX2_ok, rfl⟩, nmX2, Or.inl rfl⟩
theorem fl_X11_329 : FLD "Bandplan" 329 8 1 .boolean := ⟨RX8, TX8, 6, "Bandplan$Selling", rfl, by decide, aw_1_206, lay_X8, ⟨tyX8, tyX8_ok, rfl⟩, nmX8, Or.inl rfl⟩
theorem fl_X11_334 : FLD "Bandplan" 334 8 3 .int := ⟨RX8, TX8, 6, "Bandplan$Selling", rfl, by decide, aw_1_210, lay_X8, ⟨tyX8, tyX8_ok, rfl⟩, nmX8, Or.inl rfl⟩
theorem fl_X11_337 : FLD "Bandplan" 337 8 2 .int := ⟨RX8, TX8, 6, "Bandplan$Selling", rfl, by decide, aw_1_208, lay_X8, ⟨tyX8, tyX8_ok, rfl⟩, nmX8, Or.inl rfl⟩
theorem sv_X11_340 : SV "Bandplan" 340 yX4_begin cX4_begin 5 none 3 := ⟨aw_5_177, aw_5_178, aw_5_179, aw_1_13, aw_5_180, by decide, by decide, by decide⟩
theorem sv_X11_343 : SV "Bandplan" 343 yX4_run cX4_run 7 (some .int) 4 := ⟨aw_5_185, aw_5_186, aw_5_187, aw_1_13, aw_5_188, by decide, by decide, by decide⟩
theorem fl_X11_346 : FLD "Bandplan" 346 4 0 (.object "Bandplan$Row") := ⟨RX4, TX4, 4, "Bandplan$Moving", rfl, by decide, aw_2_23, lay_X4, ⟨tyX4, tyX4_ok, rfl⟩, nmX4, Or.inl rfl⟩
theorem fl_X11_351 : FLD "Bandplan" 351 4 2 .int := ⟨RX4, TX4, 4, "Bandplan$Moving", rfl, by decide, aw_2_27, lay_X4, ⟨tyX4, tyX4_ok, rfl⟩, nmX4, Or.inl rfl⟩
theorem fl_X11_365 : FLD "Bandplan" 365 4 1 .boolean := ⟨RX4, TX4, 4, "Bandplan$Moving", rfl, by decide, aw_2_25, lay_X4, ⟨tyX4, tyX4_ok, rfl⟩, nmX4, Or.inl rfl⟩
theorem sv_X11_368 : SV "Bandplan" 368 yX6_holdsToday cX6_holdsToday 2 (some .boolean) 0 := ⟨aw_2_135, aw_2_136, aw_2_137, aw_1_8, aw_2_138, by decide, by decide, by decide⟩
theorem sv_X11_372 : SV "Bandplan" 372 yX2_isFair cX2_isFair 2 (some .boolean) 0 := ⟨aw_2_147, aw_2_148, aw_2_149, aw_1_12, aw_2_150, by decide, by decide, by decide⟩
theorem sv_X11_375 : SV "Bandplan" 375 yX8_isFair cX8_isFair 2 (some .boolean) 0 := ⟨aw_2_156, aw_2_157, aw_2_158, aw_1_11, aw_2_159, by decide, by decide, by decide⟩
theorem so_X12_1 : SO "BandplanModel" 1 := ⟨aw_6_16, aw_1_43, aw_1_44⟩
theorem lay_X12 : ∀ w ∈ u_ws RX12 TX12 36, w ∈ AW := by
  intro w hw
  obtain ⟨k, hk, rfl⟩ := List.mem_map.mp hw
  have hk := List.mem_range.mp hk
  match k, hk with
  | 0, _ => exact aw_6_55
  | 1, _ => exact aw_6_57
  | 2, _ => exact aw_6_59
  | 3, _ => exact aw_6_61
  | 4, _ => exact aw_6_63
  | 5, _ => exact aw_6_65
  | 6, _ => exact aw_6_67
  | 7, _ => exact aw_6_69
  | 8, _ => exact aw_6_71
  | 9, _ => exact aw_6_73
  | 10, _ => exact aw_6_75
  | 11, _ => exact aw_6_77
  | 12, _ => exact aw_6_79
  | 13, _ => exact aw_6_81
  | 14, _ => exact aw_6_83
  | 15, _ => exact aw_6_85
  | 16, _ => exact aw_6_87
  | 17, _ => exact aw_6_89
  | 18, _ => exact aw_6_91
  | 19, _ => exact aw_6_93
  | 20, _ => exact aw_6_95
  | 21, _ => exact aw_6_97
  | 22, _ => exact aw_6_99
  | 23, _ => exact aw_6_101
  | 24, _ => exact aw_6_103
  | 25, _ => exact aw_6_105
  | 26, _ => exact aw_6_107
  | 27, _ => exact aw_6_109
  | 28, _ => exact aw_6_111
  | 29, _ => exact aw_6_113
  | 30, _ => exact aw_6_115
  | 31, _ => exact aw_6_117
  | 32, _ => exact aw_6_119
  | 33, _ => exact aw_6_121
  | 34, _ => exact aw_6_123
  | 35, _ => exact aw_6_125
  | k + 36, hk => exact absurd hk (by omega)
theorem fl_X12_7 : FLD "BandplanModel" 7 12 2 .int := ⟨RX12, TX12, 36, "BandplanModel", rfl, by decide, aw_6_21, lay_X12, ⟨tyX12, tyX12_ok, rfl⟩, nmX12, Or.inl rfl⟩
theorem fin_X12_2 : ∀ C T N, mcl[12]? = some (C, T, N) → (T 2).2.2.2 = false ∧ (T 2).1 = "BandplanModel" := by
  intro C T N hc
  cases (show some (RX12, TX12, 36) = some (C, T, N) from hc)
  exact ⟨rfl, rfl⟩
theorem fl_X12_13 : FLD "BandplanModel" 13 12 5 (.array .int) := ⟨RX12, TX12, 36, "BandplanModel", rfl, by decide, aw_6_24, lay_X12, ⟨tyX12, tyX12_ok, rfl⟩, nmX12, Or.inl rfl⟩
theorem fin_X12_5 : ∀ C T N, mcl[12]? = some (C, T, N) → (T 5).2.2.2 = true ∧ (T 5).1 = "BandplanModel" := by
  intro C T N hc
  cases (show some (RX12, TX12, 36) = some (C, T, N) from hc)
  exact ⟨rfl, rfl⟩
theorem fl_X12_17 : FLD "BandplanModel" 17 12 6 (.array .int) := ⟨RX12, TX12, 36, "BandplanModel", rfl, by decide, aw_6_25, lay_X12, ⟨tyX12, tyX12_ok, rfl⟩, nmX12, Or.inl rfl⟩
theorem fin_X12_6 : ∀ C T N, mcl[12]? = some (C, T, N) → (T 6).2.2.2 = true ∧ (T 6).1 = "BandplanModel" := by
  intro C T N hc
  cases (show some (RX12, TX12, 36) = some (C, T, N) from hc)
  exact ⟨rfl, rfl⟩
theorem fl_X12_20 : FLD "BandplanModel" 20 12 7 (.array .int) := ⟨RX12, TX12, 36, "BandplanModel", rfl, by decide, aw_6_26, lay_X12, ⟨tyX12, tyX12_ok, rfl⟩, nmX12, Or.inl rfl⟩
theorem fin_X12_7 : ∀ C T N, mcl[12]? = some (C, T, N) → (T 7).2.2.2 = true ∧ (T 7).1 = "BandplanModel" := by
  intro C T N hc
  cases (show some (RX12, TX12, 36) = some (C, T, N) from hc)
  exact ⟨rfl, rfl⟩
theorem fl_X12_23 : FLD "BandplanModel" 23 12 8 (.array .int) := ⟨RX12, TX12, 36, "BandplanModel", rfl, by decide, aw_6_27, lay_X12, ⟨tyX12, tyX12_ok, rfl⟩, nmX12, Or.inl rfl⟩
theorem fin_X12_8 : ∀ C T N, mcl[12]? = some (C, T, N) → (T 8).2.2.2 = true ∧ (T 8).1 = "BandplanModel" := by
  intro C T N hc
  cases (show some (RX12, TX12, 36) = some (C, T, N) from hc)
  exact ⟨rfl, rfl⟩
theorem fl_X12_26 : FLD "BandplanModel" 26 12 9 (.array .int) := ⟨RX12, TX12, 36, "BandplanModel", rfl, by decide, aw_6_28, lay_X12, ⟨tyX12, tyX12_ok, rfl⟩, nmX12, Or.inl rfl⟩
theorem fin_X12_9 : ∀ C T N, mcl[12]? = some (C, T, N) → (T 9).2.2.2 = true ∧ (T 9).1 = "BandplanModel" := by
  intro C T N hc
  cases (show some (RX12, TX12, 36) = some (C, T, N) from hc)
  exact ⟨rfl, rfl⟩
theorem fl_X12_29 : FLD "BandplanModel" 29 12 10 (.array .int) := ⟨RX12, TX12, 36, "BandplanModel", rfl, by decide, aw_6_29, lay_X12, ⟨tyX12, tyX12_ok, rfl⟩, nmX12, Or.inl rfl⟩
theorem fin_X12_10 : ∀ C T N, mcl[12]? = some (C, T, N) → (T 10).2.2.2 = true ∧ (T 10).1 = "BandplanModel" := by
  intro C T N hc
  cases (show some (RX12, TX12, 36) = some (C, T, N) from hc)
  exact ⟨rfl, rfl⟩
theorem fl_X12_32 : FLD "BandplanModel" 32 12 11 (.array .int) := ⟨RX12, TX12, 36, "BandplanModel", rfl, by decide, aw_6_30, lay_X12, ⟨tyX12, tyX12_ok, rfl⟩, nmX12, Or.inl rfl⟩
theorem fin_X12_11 : ∀ C T N, mcl[12]? = some (C, T, N) → (T 11).2.2.2 = true ∧ (T 11).1 = "BandplanModel" := by
  intro C T N hc
  cases (show some (RX12, TX12, 36) = some (C, T, N) from hc)
  exact ⟨rfl, rfl⟩
theorem fl_X12_35 : FLD "BandplanModel" 35 12 12 (.array .boolean) := ⟨RX12, TX12, 36, "BandplanModel", rfl, by decide, aw_6_31, lay_X12, ⟨tyX12, tyX12_ok, rfl⟩, nmX12, Or.inl rfl⟩
theorem fin_X12_12 : ∀ C T N, mcl[12]? = some (C, T, N) → (T 12).2.2.2 = true ∧ (T 12).1 = "BandplanModel" := by
  intro C T N hc
  cases (show some (RX12, TX12, 36) = some (C, T, N) from hc)
  exact ⟨rfl, rfl⟩
theorem fl_X12_39 : FLD "BandplanModel" 39 12 13 (.array .int) := ⟨RX12, TX12, 36, "BandplanModel", rfl, by decide, aw_6_32, lay_X12, ⟨tyX12, tyX12_ok, rfl⟩, nmX12, Or.inl rfl⟩
theorem fin_X12_13 : ∀ C T N, mcl[12]? = some (C, T, N) → (T 13).2.2.2 = true ∧ (T 13).1 = "BandplanModel" := by
  intro C T N hc
  cases (show some (RX12, TX12, 36) = some (C, T, N) from hc)
  exact ⟨rfl, rfl⟩
theorem fl_X12_42 : FLD "BandplanModel" 42 12 14 (.array .int) := ⟨RX12, TX12, 36, "BandplanModel", rfl, by decide, aw_6_33, lay_X12, ⟨tyX12, tyX12_ok, rfl⟩, nmX12, Or.inl rfl⟩
theorem fin_X12_14 : ∀ C T N, mcl[12]? = some (C, T, N) → (T 14).2.2.2 = true ∧ (T 14).1 = "BandplanModel" := by
  intro C T N hc
  cases (show some (RX12, TX12, 36) = some (C, T, N) from hc)
  exact ⟨rfl, rfl⟩
theorem no_X12_45 : NO "BandplanModel" 45 14 3 [.int 0, .null, .int 0] := ⟨RJx4a65c, TJx4a65c, rfl, aw_6_17, aw_1_58, aw_1_6, lay_Jx4a65c, tyJx4a65c, tyJx4a65c_ok, fun j hj => by
  match j, hj with
  | 0, _ => rfl
  | 1, _ => rfl
  | 2, _ => rfl
  | j + 3, hj => exact absurd hj (by omega)⟩
theorem si_X12_47 : SI "BandplanModel" 47 yJx4a65c_init_da8c8 cJx4a65c_init_da8c8 1 0 := ⟨aw_6_18, aw_1_60, rfl, aw_1_6, aw_1_61, by decide, by decide, by decide⟩
theorem fl_X12_48 : FLD "BandplanModel" 48 12 15 (.object "java/util/ArrayList") := ⟨RX12, TX12, 36, "BandplanModel", rfl, by decide, aw_6_34, lay_X12, ⟨tyX12, tyX12_ok, rfl⟩, nmX12, Or.inl rfl⟩
theorem fin_X12_15 : ∀ C T N, mcl[12]? = some (C, T, N) → (T 15).2.2.2 = true ∧ (T 15).1 = "BandplanModel" := by
  intro C T N hc
  cases (show some (RX12, TX12, 36) = some (C, T, N) from hc)
  exact ⟨rfl, rfl⟩
theorem fl_X12_52 : FLD "BandplanModel" 52 12 16 (.array .boolean) := ⟨RX12, TX12, 36, "BandplanModel", rfl, by decide, aw_6_35, lay_X12, ⟨tyX12, tyX12_ok, rfl⟩, nmX12, Or.inl rfl⟩
theorem fin_X12_16 : ∀ C T N, mcl[12]? = some (C, T, N) → (T 16).2.2.2 = true ∧ (T 16).1 = "BandplanModel" := by
  intro C T N hc
  cases (show some (RX12, TX12, 36) = some (C, T, N) from hc)
  exact ⟨rfl, rfl⟩
theorem fl_X12_55 : FLD "BandplanModel" 55 12 17 (.array .int) := ⟨RX12, TX12, 36, "BandplanModel", rfl, by decide, aw_6_36, lay_X12, ⟨tyX12, tyX12_ok, rfl⟩, nmX12, Or.inl rfl⟩
theorem fin_X12_17 : ∀ C T N, mcl[12]? = some (C, T, N) → (T 17).2.2.2 = true ∧ (T 17).1 = "BandplanModel" := by
  intro C T N hc
  cases (show some (RX12, TX12, 36) = some (C, T, N) from hc)
  exact ⟨rfl, rfl⟩
theorem fl_X12_58 : FLD "BandplanModel" 58 12 18 (.array .boolean) := ⟨RX12, TX12, 36, "BandplanModel", rfl, by decide, aw_6_37, lay_X12, ⟨tyX12, tyX12_ok, rfl⟩, nmX12, Or.inl rfl⟩
theorem fin_X12_18 : ∀ C T N, mcl[12]? = some (C, T, N) → (T 18).2.2.2 = true ∧ (T 18).1 = "BandplanModel" := by
  intro C T N hc
  cases (show some (RX12, TX12, 36) = some (C, T, N) from hc)
  exact ⟨rfl, rfl⟩
theorem fl_X12_61 : FLD "BandplanModel" 61 12 22 (.array .int) := ⟨RX12, TX12, 36, "BandplanModel", rfl, by decide, aw_6_41, lay_X12, ⟨tyX12, tyX12_ok, rfl⟩, nmX12, Or.inl rfl⟩
theorem fin_X12_22 : ∀ C T N, mcl[12]? = some (C, T, N) → (T 22).2.2.2 = true ∧ (T 22).1 = "BandplanModel" := by
  intro C T N hc
  cases (show some (RX12, TX12, 36) = some (C, T, N) from hc)
  exact ⟨rfl, rfl⟩
theorem fl_X12_64 : FLD "BandplanModel" 64 12 23 (.array .boolean) := ⟨RX12, TX12, 36, "BandplanModel", rfl, by decide, aw_6_42, lay_X12, ⟨tyX12, tyX12_ok, rfl⟩, nmX12, Or.inl rfl⟩
theorem fin_X12_23 : ∀ C T N, mcl[12]? = some (C, T, N) → (T 23).2.2.2 = true ∧ (T 23).1 = "BandplanModel" := by
  intro C T N hc
  cases (show some (RX12, TX12, 36) = some (C, T, N) from hc)
  exact ⟨rfl, rfl⟩
theorem fl_X12_67 : FLD "BandplanModel" 67 12 25 (.array .int) := ⟨RX12, TX12, 36, "BandplanModel", rfl, by decide, aw_6_44, lay_X12, ⟨tyX12, tyX12_ok, rfl⟩, nmX12, Or.inl rfl⟩
theorem fin_X12_25 : ∀ C T N, mcl[12]? = some (C, T, N) → (T 25).2.2.2 = true ∧ (T 25).1 = "BandplanModel" := by
  intro C T N hc
  cases (show some (RX12, TX12, 36) = some (C, T, N) from hc)
  exact ⟨rfl, rfl⟩
theorem fl_X12_70 : FLD "BandplanModel" 70 12 26 (.array .int) := ⟨RX12, TX12, 36, "BandplanModel", rfl, by decide, aw_6_45, lay_X12, ⟨tyX12, tyX12_ok, rfl⟩, nmX12, Or.inl rfl⟩
theorem fin_X12_26 : ∀ C T N, mcl[12]? = some (C, T, N) → (T 26).2.2.2 = true ∧ (T 26).1 = "BandplanModel" := by
  intro C T N hc
  cases (show some (RX12, TX12, 36) = some (C, T, N) from hc)
  exact ⟨rfl, rfl⟩
theorem fl_X12_73 : FLD "BandplanModel" 73 12 27 (.array .long) := ⟨RX12, TX12, 36, "BandplanModel", rfl, by decide, aw_6_46, lay_X12, ⟨tyX12, tyX12_ok, rfl⟩, nmX12, Or.inl rfl⟩
theorem fin_X12_27 : ∀ C T N, mcl[12]? = some (C, T, N) → (T 27).2.2.2 = true ∧ (T 27).1 = "BandplanModel" := by
  intro C T N hc
  cases (show some (RX12, TX12, 36) = some (C, T, N) from hc)
  exact ⟨rfl, rfl⟩
theorem fl_X12_77 : FLD "BandplanModel" 77 12 29 (.array .int) := ⟨RX12, TX12, 36, "BandplanModel", rfl, by decide, aw_6_48, lay_X12, ⟨tyX12, tyX12_ok, rfl⟩, nmX12, Or.inl rfl⟩
theorem fin_X12_29 : ∀ C T N, mcl[12]? = some (C, T, N) → (T 29).2.2.2 = true ∧ (T 29).1 = "BandplanModel" := by
  intro C T N hc
  cases (show some (RX12, TX12, 36) = some (C, T, N) from hc)
  exact ⟨rfl, rfl⟩
theorem fl_X12_80 : FLD "BandplanModel" 80 12 30 (.array .boolean) := ⟨RX12, TX12, 36, "BandplanModel", rfl, by decide, aw_6_49, lay_X12, ⟨tyX12, tyX12_ok, rfl⟩, nmX12, Or.inl rfl⟩
theorem fin_X12_30 : ∀ C T N, mcl[12]? = some (C, T, N) → (T 30).2.2.2 = true ∧ (T 30).1 = "BandplanModel" := by
  intro C T N hc
  cases (show some (RX12, TX12, 36) = some (C, T, N) from hc)
  exact ⟨rfl, rfl⟩
theorem fl_X12_83 : FLD "BandplanModel" 83 12 31 (.array .int) := ⟨RX12, TX12, 36, "BandplanModel", rfl, by decide, aw_6_50, lay_X12, ⟨tyX12, tyX12_ok, rfl⟩, nmX12, Or.inl rfl⟩
theorem fin_X12_31 : ∀ C T N, mcl[12]? = some (C, T, N) → (T 31).2.2.2 = true ∧ (T 31).1 = "BandplanModel" := by
  intro C T N hc
  cases (show some (RX12, TX12, 36) = some (C, T, N) from hc)
  exact ⟨rfl, rfl⟩
theorem fl_X12_86 : FLD "BandplanModel" 86 12 32 (.array .int) := ⟨RX12, TX12, 36, "BandplanModel", rfl, by decide, aw_6_51, lay_X12, ⟨tyX12, tyX12_ok, rfl⟩, nmX12, Or.inl rfl⟩
theorem fin_X12_32 : ∀ C T N, mcl[12]? = some (C, T, N) → (T 32).2.2.2 = true ∧ (T 32).1 = "BandplanModel" := by
  intro C T N hc
  cases (show some (RX12, TX12, 36) = some (C, T, N) from hc)
  exact ⟨rfl, rfl⟩
theorem fl_X12_89 : FLD "BandplanModel" 89 12 33 (.array .int) := ⟨RX12, TX12, 36, "BandplanModel", rfl, by decide, aw_6_52, lay_X12, ⟨tyX12, tyX12_ok, rfl⟩, nmX12, Or.inl rfl⟩
theorem fin_X12_33 : ∀ C T N, mcl[12]? = some (C, T, N) → (T 33).2.2.2 = true ∧ (T 33).1 = "BandplanModel" := by
  intro C T N hc
  cases (show some (RX12, TX12, 36) = some (C, T, N) from hc)
  exact ⟨rfl, rfl⟩
theorem fl_X12_92 : FLD "BandplanModel" 92 12 34 (.array .boolean) := ⟨RX12, TX12, 36, "BandplanModel", rfl, by decide, aw_6_53, lay_X12, ⟨tyX12, tyX12_ok, rfl⟩, nmX12, Or.inl rfl⟩
theorem fin_X12_34 : ∀ C T N, mcl[12]? = some (C, T, N) → (T 34).2.2.2 = true ∧ (T 34).1 = "BandplanModel" := by
  intro C T N hc
  cases (show some (RX12, TX12, 36) = some (C, T, N) from hc)
  exact ⟨rfl, rfl⟩
theorem fl_X12_95 : FLD "BandplanModel" 95 12 35 (.array .int) := ⟨RX12, TX12, 36, "BandplanModel", rfl, by decide, aw_6_54, lay_X12, ⟨tyX12, tyX12_ok, rfl⟩, nmX12, Or.inl rfl⟩
theorem fin_X12_35 : ∀ C T N, mcl[12]? = some (C, T, N) → (T 35).2.2.2 = true ∧ (T 35).1 = "BandplanModel" := by
  intro C T N hc
  cases (show some (RX12, TX12, 36) = some (C, T, N) from hc)
  exact ⟨rfl, rfl⟩
theorem fl_X12_98 : FLD "BandplanModel" 98 12 0 .int := ⟨RX12, TX12, 36, "BandplanModel", rfl, by decide, aw_6_19, lay_X12, ⟨tyX12, tyX12_ok, rfl⟩, nmX12, Or.inl rfl⟩
theorem fin_X12_0 : ∀ C T N, mcl[12]? = some (C, T, N) → (T 0).2.2.2 = false ∧ (T 0).1 = "BandplanModel" := by
  intro C T N hc
  cases (show some (RX12, TX12, 36) = some (C, T, N) from hc)
  exact ⟨rfl, rfl⟩
theorem ss_X12_101 : SS "BandplanModel" 101 yX12_in cX12_in 3 (some .boolean) 3 := ⟨aw_6_141, aw_6_142, aw_1_14, aw_6_143, by decide, by decide, by decide⟩
theorem fl_X12_105 : FLD "BandplanModel" 105 12 3 .int := ⟨RX12, TX12, 36, "BandplanModel", rfl, by decide, aw_6_22, lay_X12, ⟨tyX12, tyX12_ok, rfl⟩, nmX12, Or.inl rfl⟩
theorem fin_X12_3 : ∀ C T N, mcl[12]? = some (C, T, N) → (T 3).2.2.2 = false ∧ (T 3).1 = "BandplanModel" := by
  intro C T N hc
  cases (show some (RX12, TX12, 36) = some (C, T, N) from hc)
  exact ⟨rfl, rfl⟩
theorem fl_X12_108 : FLD "BandplanModel" 108 12 4 .int := ⟨RX12, TX12, 36, "BandplanModel", rfl, by decide, aw_6_23, lay_X12, ⟨tyX12, tyX12_ok, rfl⟩, nmX12, Or.inl rfl⟩
theorem fin_X12_4 : ∀ C T N, mcl[12]? = some (C, T, N) → (T 4).2.2.2 = false ∧ (T 4).1 = "BandplanModel" := by
  intro C T N hc
  cases (show some (RX12, TX12, 36) = some (C, T, N) from hc)
  exact ⟨rfl, rfl⟩
theorem ss_X12_111 : SS "BandplanModel" 111 yX12_noCell cX12_noCell 2 (some .boolean) 2 := ⟨aw_6_138, aw_6_139, aw_1_14, aw_6_140, by decide, by decide, by decide⟩
theorem sv_X12_115 : SV "BandplanModel" 115 yX12_fails cX12_fails 3 (some .boolean) 2 := ⟨aw_6_144, aw_6_146, aw_p_30, aw_1_14, aw_6_147, by decide, by decide, by decide⟩
theorem sv_X12_119 : SV "BandplanModel" 119 yX12_isAnyOn cX12_isAnyOn 3 (some .boolean) 0 := ⟨aw_6_148, aw_6_150, aw_p_31, aw_1_14, aw_6_151, by decide, by decide, by decide⟩
theorem sm_X12_123 : SM "BandplanModel" 123 Lib.Math.min.name Lib.Math.min.code 2 := ⟨aw_6_168, aw_3_199, aw_1_25, aw_3_200⟩
theorem sm_X12_129 : SM "BandplanModel" 129 Lib.Math.max.name Lib.Math.max.code 2 := ⟨aw_6_169, aw_2_129, aw_1_25, aw_2_130⟩
theorem sm_X12_132 : SM "BandplanModel" 132 Lib.Math.abs.name Lib.Math.abs.code 1 := ⟨aw_6_170, aw_2_114, aw_1_25, aw_2_115⟩
theorem ss_X12_136 : SS "BandplanModel" 136 yJ9_floorDiv_7cf53 cJ9_floorDiv_7cf53 3 (some .int) 2 := ⟨aw_6_171, aw_3_104, aw_1_25, aw_3_105, by decide, by decide, by decide⟩
theorem sv_X12_139 : SV "BandplanModel" 139 yX12_topOf cX12_topOf 2 (some .int) 1 := ⟨aw_6_172, aw_6_174, aw_p_34, aw_1_14, aw_6_175, by decide, by decide, by decide⟩
theorem sv_X12_142 : SV "BandplanModel" 142 yX12_noSite cX12_noSite 2 (some .boolean) 1 := ⟨aw_6_160, aw_6_162, aw_p_32, aw_1_14, aw_6_163, by decide, by decide, by decide⟩
theorem sv_X12_146 : SV "BandplanModel" 146 yX12_lossOf cX12_lossOf 15 (some .int) 2 := ⟨aw_6_164, aw_6_166, aw_p_33, aw_1_14, aw_6_167, by decide, by decide, by decide⟩
theorem sv_X12_149 : SV "BandplanModel" 149 yJx4a65c_add_9ea2d cJx4a65c_add_9ea2d 2 (some .boolean) 1 := ⟨aw_6_180, aw_3_140, aw_3_141, aw_1_6, aw_3_142, by decide, by decide, by decide⟩
theorem sv_X12_153 : SV "BandplanModel" 153 yX12_no cX12_no 2 (some .boolean) 1 := ⟨aw_6_189, aw_6_191, aw_p_35, aw_1_14, aw_6_192, by decide, by decide, by decide⟩
theorem sv_X12_156 : SV "BandplanModel" 156 yX12_levelOf cX12_levelOf 2 (some .int) 1 := ⟨aw_6_193, aw_6_195, aw_p_36, aw_1_14, aw_6_196, by decide, by decide, by decide⟩
theorem sv_X12_159 : SV "BandplanModel" 159 yX12_harms cX12_harms 3 (some .boolean) 2 := ⟨aw_6_205, aw_6_207, aw_p_38, aw_1_14, aw_6_208, by decide, by decide, by decide⟩
theorem sv_X12_162 : SV "BandplanModel" 162 yX12_harmBy cX12_harmBy 4 (some .int) 3 := ⟨aw_6_213, aw_6_215, aw_p_40, aw_1_14, aw_6_216, by decide, by decide, by decide⟩
theorem sv_X12_166 : SV "BandplanModel" 166 yX12_isHarmed cX12_isHarmed 4 (some .boolean) 1 := ⟨aw_6_201, aw_6_203, aw_p_37, aw_1_14, aw_6_204, by decide, by decide, by decide⟩
theorem sv_X12_169 : SV "BandplanModel" 169 yX12_harmOf cX12_harmOf 6 (some .int) 1 := ⟨aw_6_209, aw_6_211, aw_p_39, aw_1_14, aw_6_212, by decide, by decide, by decide⟩
theorem sv_X12_172 : SV "BandplanModel" 172 yX12_keepsLevel cX12_keepsLevel 2 (some .boolean) 1 := ⟨aw_6_221, aw_6_223, aw_p_41, aw_1_14, aw_6_224, by decide, by decide, by decide⟩
theorem sv_X12_178 : SV "BandplanModel" 178 yX12_areBarred cX12_areBarred 7 (some .boolean) 4 := ⟨aw_6_232, aw_6_234, aw_p_42, aw_1_14, aw_6_235, by decide, by decide, by decide⟩
theorem ss_X12_175 : SS "BandplanModel" 175 yX12_noChannel cX12_noChannel 1 (some .boolean) 1 := ⟨aw_6_229, aw_6_230, aw_1_14, aw_6_231, by decide, by decide, by decide⟩
theorem sv_X12_182 : SV "BandplanModel" 182 yJx4a65c_get_915e3 cJx4a65c_get_915e3 2 (some (.object "java/lang/Object")) 1 := ⟨aw_7_20, aw_2_86, aw_2_87, aw_1_6, aw_2_88, by decide, by decide, by decide⟩
theorem fl_X12_186 : FLD "BandplanModel" 186 12 1 .int := ⟨RX12, TX12, 36, "BandplanModel", rfl, by decide, aw_6_20, lay_X12, ⟨tyX12, tyX12_ok, rfl⟩, nmX12, Or.inl rfl⟩
theorem fin_X12_1 : ∀ C T N, mcl[12]? = some (C, T, N) → (T 1).2.2.2 = false ∧ (T 1).1 = "BandplanModel" := by
  intro C T N hc
  cases (show some (RX12, TX12, 36) = some (C, T, N) from hc)
  exact ⟨rfl, rfl⟩
theorem ss_X12_189 : SS "BandplanModel" 189 yJ6_valueOf_2dffe cJ6_valueOf_2dffe 1 (some (.object "java/lang/Integer")) 1 := ⟨aw_7_21, aw_7_22, aw_1_34, aw_7_23, by decide, by decide, by decide⟩
theorem sv_X12_195 : SV "BandplanModel" 195 yX12_needsYes cX12_needsYes 3 (some .boolean) 2 := ⟨aw_7_0, aw_7_2, aw_p_43, aw_1_14, aw_7_3, by decide, by decide, by decide⟩
theorem sv_X12_204 : SV "BandplanModel" 204 yX12_areAllKept cX12_areAllKept 3 (some .boolean) 0 := ⟨aw_7_12, aw_7_14, aw_p_46, aw_1_14, aw_7_15, by decide, by decide, by decide⟩
theorem sv_X12_207 : SV "BandplanModel" 207 yX12_set cX12_set 3 none 2 := ⟨aw_7_16, aw_7_18, aw_p_47, aw_1_14, aw_7_19, by decide, by decide, by decide⟩
theorem sv_X12_201 : SV "BandplanModel" 201 yX12_goesOffFor cX12_goesOffFor 4 (some .boolean) 3 := ⟨aw_7_8, aw_7_10, aw_p_45, aw_1_14, aw_7_11, by decide, by decide, by decide⟩
theorem sv_X12_198 : SV "BandplanModel" 198 yX12_hasYesFor cX12_hasYesFor 4 (some .boolean) 2 := ⟨aw_7_4, aw_7_6, aw_p_44, aw_1_14, aw_7_7, by decide, by decide, by decide⟩
theorem sv_X12_211 : SV "BandplanModel" 211 yJx4a65c_size_8abf5 cJx4a65c_size_8abf5 1 (some .int) 0 := ⟨aw_7_49, aw_2_82, aw_2_83, aw_1_6, aw_2_84, by decide, by decide, by decide⟩
theorem sv_X12_215 : SV "BandplanModel" 215 yJ6_intValue_8abf5 cJ6_intValue_8abf5 1 (some .int) 0 := ⟨aw_7_51, aw_7_52, aw_7_53, aw_1_34, aw_7_54, by decide, by decide, by decide⟩
theorem sv_X12_221 : SV "BandplanModel" 221 yX12_fits cX12_fits 4 (some .boolean) 1 := ⟨aw_7_87, aw_7_89, aw_p_50, aw_1_14, aw_7_90, by decide, by decide, by decide⟩
theorem sv_X12_218 : SV "BandplanModel" 218 yX12_packs cX12_packs 4 (some .boolean) 2 := ⟨aw_7_83, aw_7_85, aw_p_49, aw_1_14, aw_7_86, by decide, by decide, by decide⟩
theorem sv_X12_224 : SV "BandplanModel" 224 yX12_packsAll cX12_packsAll 3 (some .boolean) 1 := ⟨aw_7_79, aw_7_81, aw_p_48, aw_1_14, aw_7_82, by decide, by decide, by decide⟩
theorem fl_X12_230 : FLD "BandplanModel" 230 12 19 .boolean := ⟨RX12, TX12, 36, "BandplanModel", rfl, by decide, aw_6_38, lay_X12, ⟨tyX12, tyX12_ok, rfl⟩, nmX12, Or.inl rfl⟩
theorem fin_X12_19 : ∀ C T N, mcl[12]? = some (C, T, N) → (T 19).2.2.2 = false ∧ (T 19).1 = "BandplanModel" := by
  intro C T N hc
  cases (show some (RX12, TX12, 36) = some (C, T, N) from hc)
  exact ⟨rfl, rfl⟩
theorem fl_X12_234 : FLD "BandplanModel" 234 12 21 .int := ⟨RX12, TX12, 36, "BandplanModel", rfl, by decide, aw_6_40, lay_X12, ⟨tyX12, tyX12_ok, rfl⟩, nmX12, Or.inl rfl⟩
theorem fin_X12_21 : ∀ C T N, mcl[12]? = some (C, T, N) → (T 21).2.2.2 = false ∧ (T 21).1 = "BandplanModel" := by
  intro C T N hc
  cases (show some (RX12, TX12, 36) = some (C, T, N) from hc)
  exact ⟨rfl, rfl⟩
theorem fl_X12_237 : FLD "BandplanModel" 237 12 20 .int := ⟨RX12, TX12, 36, "BandplanModel", rfl, by decide, aw_6_39, lay_X12, ⟨tyX12, tyX12_ok, rfl⟩, nmX12, Or.inl rfl⟩
theorem fin_X12_20 : ∀ C T N, mcl[12]? = some (C, T, N) → (T 20).2.2.2 = false ∧ (T 20).1 = "BandplanModel" := by
  intro C T N hc
  cases (show some (RX12, TX12, 36) = some (C, T, N) from hc)
  exact ⟨rfl, rfl⟩
theorem sv_X12_240 : SV "BandplanModel" 240 yX12_canStayToo cX12_canStayToo 4 (some .boolean) 2 := ⟨aw_7_107, aw_7_109, aw_p_52, aw_1_14, aw_7_110, by decide, by decide, by decide⟩
theorem sv_X12_227 : SV "BandplanModel" 227 yX12_canStay cX12_canStay 4 (some .boolean) 2 := ⟨aw_7_103, aw_7_105, aw_p_51, aw_1_14, aw_7_106, by decide, by decide, by decide⟩
theorem fl_X12_243 : FLD "BandplanModel" 243 12 24 .int := ⟨RX12, TX12, 36, "BandplanModel", rfl, by decide, aw_6_43, lay_X12, ⟨tyX12, tyX12_ok, rfl⟩, nmX12, Or.inl rfl⟩
theorem fin_X12_24 : ∀ C T N, mcl[12]? = some (C, T, N) → (T 24).2.2.2 = false ∧ (T 24).1 = "BandplanModel" := by
  intro C T N hc
  cases (show some (RX12, TX12, 36) = some (C, T, N) from hc)
  exact ⟨rfl, rfl⟩
theorem sv_X12_246 : SV "BandplanModel" 246 yX12_handOut cX12_handOut 10 (some .long) 2 := ⟨aw_7_127, aw_7_129, aw_p_53, aw_1_14, aw_7_130, by decide, by decide, by decide⟩
theorem sv_X12_250 : SV "BandplanModel" 250 yX12_noBidder cX12_noBidder 2 (some .boolean) 1 := ⟨aw_7_135, aw_7_137, aw_p_54, aw_1_14, aw_7_138, by decide, by decide, by decide⟩
theorem fl_X12_253 : FLD "BandplanModel" 253 12 28 .int := ⟨RX12, TX12, 36, "BandplanModel", rfl, by decide, aw_6_47, lay_X12, ⟨tyX12, tyX12_ok, rfl⟩, nmX12, Or.inl rfl⟩
theorem fin_X12_28 : ∀ C T N, mcl[12]? = some (C, T, N) → (T 28).2.2.2 = false ∧ (T 28).1 = "BandplanModel" := by
  intro C T N hc
  cases (show some (RX12, TX12, 36) = some (C, T, N) from hc)
  exact ⟨rfl, rfl⟩
theorem sv_X12_263 : SV "BandplanModel" 263 yX12_lowestOn cX12_lowestOn 3 (some .int) 0 := ⟨aw_7_155, aw_7_157, aw_p_57, aw_1_14, aw_7_158, by decide, by decide, by decide⟩
theorem sv_X12_256 : SV "BandplanModel" 256 yX12_isBarredAt cX12_isBarredAt 5 (some .boolean) 2 := ⟨aw_7_147, aw_7_149, aw_p_55, aw_1_14, aw_7_150, by decide, by decide, by decide⟩
theorem sv_X12_259 : SV "BandplanModel" 259 yX12_moves cX12_moves 5 none 3 := ⟨aw_7_151, aw_7_153, aw_p_56, aw_1_14, aw_7_154, by decide, by decide, by decide⟩
theorem sv_X12_266 : SV "BandplanModel" 266 yX12_on cX12_on 3 (some .int) 0 := ⟨aw_7_171, aw_7_173, aw_p_58, aw_1_14, aw_7_174, by decide, by decide, by decide⟩
theorem sv_L_7 : SV "BandplanLaw" 7 yX11_setGround cX11_setGround 4 (some .int) 3 := ⟨aw_3_6, aw_3_7, aw_3_8, aw_1_1, aw_3_9, by decide, by decide, by decide⟩
theorem sv_L_19 : SV "BandplanLaw" 19 yX11_addSite cX11_addSite 4 (some .int) 3 := ⟨aw_3_109, aw_3_110, aw_3_111, aw_1_1, aw_3_112, by decide, by decide, by decide⟩
theorem sv_L_22 : SV "BandplanLaw" 22 yX11_loss cX11_loss 3 (some .int) 2 := ⟨aw_3_209, aw_3_210, aw_3_211, aw_1_1, aw_3_212, by decide, by decide, by decide⟩
theorem sv_L_26 : SV "BandplanLaw" 26 yX11_addStation cX11_addStation 6 (some .int) 4 := ⟨aw_3_222, aw_3_223, aw_3_224, aw_1_1, aw_3_225, by decide, by decide, by decide⟩
theorem sv_L_30 : SV "BandplanLaw" 30 yX11_setRatio cX11_setRatio 3 (some .int) 1 := ⟨aw_4_28, aw_4_29, aw_4_30, aw_1_1, aw_4_31, by decide, by decide, by decide⟩
theorem sv_L_34 : SV "BandplanLaw" 34 yX11_level cX11_level 2 (some .int) 1 := ⟨aw_4_35, aw_4_36, aw_4_37, aw_1_1, aw_4_38, by decide, by decide, by decide⟩
theorem sv_L_37 : SV "BandplanLaw" 37 yX11_harm cX11_harm 3 (some .int) 1 := ⟨aw_4_51, aw_4_52, aw_4_53, aw_1_1, aw_4_54, by decide, by decide, by decide⟩
theorem sv_L_44 : SV "BandplanLaw" 44 yX11_keeps cX11_keeps 2 (some .boolean) 1 := ⟨aw_4_97, aw_4_98, aw_4_99, aw_1_1, aw_4_100, by decide, by decide, by decide⟩
theorem sv_L_48 : SV "BandplanLaw" 48 yX11_bars cX11_bars 7 (some .boolean) 4 := ⟨aw_4_105, aw_4_106, aw_4_107, aw_1_1, aw_4_108, by decide, by decide, by decide⟩
theorem sv_L_52 : SV "BandplanLaw" 52 yX11_putOn cX11_putOn 6 (some .int) 2 := ⟨aw_4_126, aw_4_127, aw_4_128, aw_1_1, aw_4_129, by decide, by decide, by decide⟩
theorem sv_L_55 : SV "BandplanLaw" 55 yX11_putOff cX11_putOff 4 (some .int) 1 := ⟨aw_4_176, aw_4_177, aw_4_178, aw_1_1, aw_4_179, by decide, by decide, by decide⟩
theorem sv_L_58 : SV "BandplanLaw" 58 yX11_channelOf cX11_channelOf 4 (some .int) 2 := ⟨aw_4_183, aw_4_184, aw_4_185, aw_1_1, aw_4_186, by decide, by decide, by decide⟩
theorem sv_L_61 : SV "BandplanLaw" 61 yX11_setForeign cX11_setForeign 4 (some .boolean) 2 := ⟨aw_4_191, aw_4_192, aw_4_193, aw_1_1, aw_4_194, by decide, by decide, by decide⟩
theorem sv_L_65 : SV "BandplanLaw" 65 yX11_askAbroad cX11_askAbroad 4 (some .int) 2 := ⟨aw_4_203, aw_4_204, aw_4_205, aw_1_1, aw_4_206, by decide, by decide, by decide⟩
theorem sv_L_68 : SV "BandplanLaw" 68 yX11_object cX11_object 4 (some .boolean) 2 := ⟨aw_4_214, aw_4_215, aw_4_216, aw_1_1, aw_4_217, by decide, by decide, by decide⟩
theorem sv_L_72 : SV "BandplanLaw" 72 yX11_hasYes cX11_hasYes 4 (some .boolean) 2 := ⟨aw_4_227, aw_4_228, aw_4_229, aw_1_1, aw_4_230, by decide, by decide, by decide⟩
theorem sv_L_75 : SV "BandplanLaw" 75 yX11_goOn cX11_goOn 2 (some .int) 1 := ⟨aw_4_234, aw_4_235, aw_4_236, aw_1_1, aw_4_237, by decide, by decide, by decide⟩
theorem sv_L_78 : SV "BandplanLaw" 78 yX11_canPack cX11_canPack 2 (some .boolean) 1 := ⟨aw_5_1, aw_5_2, aw_5_3, aw_1_1, aw_5_4, by decide, by decide, by decide⟩
theorem sv_L_81 : SV "BandplanLaw" 81 yX11_packed cX11_packed 4 (some .int) 2 := ⟨aw_5_44, aw_5_45, aw_5_46, aw_1_1, aw_5_47, by decide, by decide, by decide⟩
theorem sv_L_84 : SV "BandplanLaw" 84 yX11_setAsked cX11_setAsked 5 (some .int) 2 := ⟨aw_5_53, aw_5_54, aw_5_55, aw_1_1, aw_5_56, by decide, by decide, by decide⟩
theorem sv_L_87 : SV "BandplanLaw" 87 yX11_sell cX11_sell 8 (some .int) 3 := ⟨aw_5_60, aw_5_61, aw_5_62, aw_1_1, aw_5_63, by decide, by decide, by decide⟩
theorem sv_L_90 : SV "BandplanLaw" 90 yX11_priceOf cX11_priceOf 4 (some .int) 1 := ⟨aw_5_108, aw_5_109, aw_5_110, aw_1_1, aw_5_111, by decide, by decide, by decide⟩
theorem sv_L_93 : SV "BandplanLaw" 93 yX11_addBidder cX11_addBidder 4 (some .int) 3 := ⟨aw_5_116, aw_5_117, aw_5_118, aw_1_1, aw_5_119, by decide, by decide, by decide⟩
theorem sv_L_96 : SV "BandplanLaw" 96 yX11_buy cX11_buy 2 (some .int) 1 := ⟨aw_5_129, aw_5_130, aw_5_131, aw_1_1, aw_5_132, by decide, by decide, by decide⟩
theorem sv_L_99 : SV "BandplanLaw" 99 yX11_bought cX11_bought 2 (some .int) 1 := ⟨aw_5_153, aw_5_154, aw_5_155, aw_1_1, aw_5_156, by decide, by decide, by decide⟩
theorem sv_L_102 : SV "BandplanLaw" 102 yX11_pays cX11_pays 2 (some .long) 1 := ⟨aw_5_165, aw_5_166, aw_5_167, aw_1_1, aw_5_168, by decide, by decide, by decide⟩
theorem sv_L_106 : SV "BandplanLaw" 106 yX11_move cX11_move 3 (some .int) 1 := ⟨aw_5_172, aw_5_173, aw_5_174, aw_1_1, aw_5_175, by decide, by decide, by decide⟩
theorem sv_L_109 : SV "BandplanLaw" 109 yX11_phaseOf cX11_phaseOf 4 (some .int) 1 := ⟨aw_5_214, aw_5_215, aw_5_216, aw_1_1, aw_5_217, by decide, by decide, by decide⟩
theorem sv_L_112 : SV "BandplanLaw" 112 yX11_onShare cX11_onShare 2 (some .float) 0 := ⟨aw_5_236, aw_5_237, aw_5_238, aw_1_1, aw_5_239, by decide, by decide, by decide⟩
theorem sv_L_118 : SV "BandplanLaw" 118 yX11_meanLevel cX11_meanLevel 4 (some .double) 0 := ⟨aw_6_6, aw_6_7, aw_6_8, aw_1_1, aw_6_9, by decide, by decide, by decide⟩
theorem ssx_L_126 : SSX "BandplanLaw" 126 yL_setGround cL_setGround 6 (some .int) [(0, 12, 15, 13), (0, 12, 19, 15), (0, 12, 23, 17)] 5 := ⟨aw_2_161, aw_2_162, aw_1_0, aw_2_163, by decide, by decide, by decide⟩
theorem sv_L_131 : SV "BandplanLaw" 131 yX12_setGround cX12_setGround 5 (some .int) 3 := ⟨aw_6_134, aw_6_135, aw_6_136, aw_1_14, aw_6_137, by decide, by decide, by decide⟩
theorem sv_L_132 : SV "BandplanLaw" 132 yX12_thrown cX12_thrown 1 (some .int) 0 := ⟨aw_6_130, aw_6_131, aw_6_132, aw_1_14, aw_6_133, by decide, by decide, by decide⟩
theorem ssx_L_136 : SSX "BandplanLaw" 136 yL_addSite cL_addSite 6 (some .int) [(0, 12, 15, 13), (0, 12, 19, 15), (0, 12, 23, 17)] 5 := ⟨aw_3_106, aw_3_107, aw_1_0, aw_3_108, by decide, by decide, by decide⟩
theorem sv_L_138 : SV "BandplanLaw" 138 yX12_addSite cX12_addSite 4 (some .int) 3 := ⟨aw_6_152, aw_6_153, aw_6_154, aw_1_14, aw_6_155, by decide, by decide, by decide⟩
theorem ssx_L_139 : SSX "BandplanLaw" 139 yL_loss cL_loss 5 (some .int) [(0, 10, 13, 13)] 4 := ⟨aw_3_206, aw_3_207, aw_1_0, aw_3_208, by decide, by decide, by decide⟩
theorem sv_L_142 : SV "BandplanLaw" 142 yX12_loss cX12_loss 3 (some .int) 2 := ⟨aw_6_156, aw_6_157, aw_6_158, aw_1_14, aw_6_159, by decide, by decide, by decide⟩
theorem ssx_L_143 : SSX "BandplanLaw" 143 yL_addStation cL_addStation 7 (some .int) [(0, 14, 17, 13), (0, 14, 21, 15), (0, 14, 25, 17)] 6 := ⟨aw_3_219, aw_3_220, aw_1_0, aw_3_221, by decide, by decide, by decide⟩
theorem sv_L_146 : SV "BandplanLaw" 146 yX12_addStation cX12_addStation 5 (some .int) 4 := ⟨aw_6_176, aw_6_177, aw_6_178, aw_1_14, aw_6_179, by decide, by decide, by decide⟩
theorem ssx_L_147 : SSX "BandplanLaw" 147 yL_setRatio cL_setRatio 4 (some .int) [(0, 9, 12, 15), (0, 9, 15, 17)] 3 := ⟨aw_4_25, aw_4_26, aw_1_0, aw_4_27, by decide, by decide, by decide⟩
theorem sv_L_150 : SV "BandplanLaw" 150 yX12_setRatio cX12_setRatio 3 (some .int) 1 := ⟨aw_6_181, aw_6_182, aw_6_183, aw_1_14, aw_6_184, by decide, by decide, by decide⟩
theorem ssx_L_151 : SSX "BandplanLaw" 151 yL_level cL_level 4 (some .int) [(0, 9, 12, 13)] 3 := ⟨aw_4_32, aw_4_33, aw_1_0, aw_4_34, by decide, by decide, by decide⟩
theorem sv_L_153 : SV "BandplanLaw" 153 yX12_level cX12_level 2 (some .int) 1 := ⟨aw_6_185, aw_6_186, aw_6_187, aw_1_14, aw_6_188, by decide, by decide, by decide⟩
theorem ssx_L_154 : SSX "BandplanLaw" 154 yL_harm cL_harm 4 (some .int) [(0, 9, 12, 13), (0, 9, 15, 40), (0, 9, 18, 42)] 3 := ⟨aw_4_46, aw_4_47, aw_1_0, aw_4_48, by decide, by decide, by decide⟩
theorem sv_L_156 : SV "BandplanLaw" 156 yX12_harm cX12_harm 2 (some .int) 1 := ⟨aw_6_197, aw_6_198, aw_6_199, aw_1_14, aw_6_200, by decide, by decide, by decide⟩
theorem ssx_L_157 : SSX "BandplanLaw" 157 yL_keeps cL_keeps 4 (some .int) [(0, 16, 19, 13), (0, 16, 22, 40)] 3 := ⟨aw_4_94, aw_4_95, aw_1_0, aw_4_96, by decide, by decide, by decide⟩
theorem sv_L_159 : SV "BandplanLaw" 159 yX12_keeps cX12_keeps 2 (some .boolean) 1 := ⟨aw_6_217, aw_6_218, aw_6_219, aw_1_14, aw_6_220, by decide, by decide, by decide⟩
theorem ssx_L_160 : SSX "BandplanLaw" 160 yL_bars cL_bars 7 (some .int) [(0, 21, 24, 13), (0, 21, 28, 15)] 6 := ⟨aw_4_102, aw_4_103, aw_1_0, aw_4_104, by decide, by decide, by decide⟩
theorem sv_L_163 : SV "BandplanLaw" 163 yX12_bars cX12_bars 5 (some .boolean) 4 := ⟨aw_6_225, aw_6_226, aw_6_227, aw_1_14, aw_6_228, by decide, by decide, by decide⟩
theorem ssx_L_164 : SSX "BandplanLaw" 164 yL_putOn cL_putOn 5 (some .int) [(0, 10, 13, 13), (0, 10, 17, 15), (0, 10, 21, 17), (0, 10, 25, 40)] 4 := ⟨aw_4_123, aw_4_124, aw_1_0, aw_4_125, by decide, by decide, by decide⟩
theorem sv_L_166 : SV "BandplanLaw" 166 yX12_putOn cX12_putOn 6 (some .int) 2 := ⟨aw_6_236, aw_6_237, aw_6_238, aw_1_14, aw_6_239, by decide, by decide, by decide⟩
theorem ssx_L_167 : SSX "BandplanLaw" 167 yL_putOff cL_putOff 4 (some .int) [(0, 9, 12, 13)] 3 := ⟨aw_4_173, aw_4_174, aw_1_0, aw_4_175, by decide, by decide, by decide⟩
theorem sv_L_169 : SV "BandplanLaw" 169 yX12_putOff cX12_putOff 3 (some .int) 1 := ⟨aw_7_41, aw_7_42, aw_7_43, aw_1_14, aw_7_44, by decide, by decide, by decide⟩
theorem ssx_L_170 : SSX "BandplanLaw" 170 yL_channelOf cL_channelOf 5 (some .int) [(0, 10, 13, 13), (0, 10, 17, 15)] 4 := ⟨aw_4_180, aw_4_181, aw_1_0, aw_4_182, by decide, by decide, by decide⟩
theorem sv_L_172 : SV "BandplanLaw" 172 yX12_channelOf cX12_channelOf 6 (some .int) 2 := ⟨aw_7_45, aw_7_46, aw_7_47, aw_1_14, aw_7_48, by decide, by decide, by decide⟩
theorem ssx_L_173 : SSX "BandplanLaw" 173 yL_setForeign cL_setForeign 5 (some .int) [(0, 17, 20, 15)] 4 := ⟨aw_4_188, aw_4_189, aw_1_0, aw_4_190, by decide, by decide, by decide⟩
theorem sv_L_176 : SV "BandplanLaw" 176 yX12_setForeign cX12_setForeign 4 (some .boolean) 2 := ⟨aw_7_55, aw_7_56, aw_7_57, aw_1_14, aw_7_58, by decide, by decide, by decide⟩
theorem ssx_L_177 : SSX "BandplanLaw" 177 yL_askAbroad cL_askAbroad 5 (some .int) [(0, 10, 13, 13), (0, 10, 17, 15)] 4 := ⟨aw_4_200, aw_4_201, aw_1_0, aw_4_202, by decide, by decide, by decide⟩
theorem sv_L_179 : SV "BandplanLaw" 179 yX12_askAbroad cX12_askAbroad 3 (some .int) 2 := ⟨aw_7_59, aw_7_60, aw_7_61, aw_1_14, aw_7_62, by decide, by decide, by decide⟩
theorem ssx_L_180 : SSX "BandplanLaw" 180 yL_object cL_object 5 (some .int) [(0, 17, 20, 13), (0, 17, 24, 15), (0, 17, 28, 42)] 4 := ⟨aw_4_211, aw_4_212, aw_1_0, aw_4_213, by decide, by decide, by decide⟩
theorem sv_L_182 : SV "BandplanLaw" 182 yX12_object cX12_object 4 (some .boolean) 2 := ⟨aw_7_63, aw_7_64, aw_7_65, aw_1_14, aw_7_66, by decide, by decide, by decide⟩
theorem ssx_L_183 : SSX "BandplanLaw" 183 yL_hasYes cL_hasYes 5 (some .int) [(0, 17, 20, 13), (0, 17, 24, 15)] 4 := ⟨aw_4_224, aw_4_225, aw_1_0, aw_4_226, by decide, by decide, by decide⟩
theorem sv_L_185 : SV "BandplanLaw" 185 yX12_hasYes cX12_hasYes 3 (some .boolean) 2 := ⟨aw_7_67, aw_7_68, aw_7_69, aw_1_14, aw_7_70, by decide, by decide, by decide⟩
theorem ssx_L_186 : SSX "BandplanLaw" 186 yL_goOn cL_goOn 4 (some .int) [(0, 9, 12, 15)] 3 := ⟨aw_4_231, aw_4_232, aw_1_0, aw_4_233, by decide, by decide, by decide⟩
theorem sv_L_188 : SV "BandplanLaw" 188 yX12_goOn cX12_goOn 2 (some .int) 1 := ⟨aw_7_71, aw_7_72, aw_7_73, aw_1_14, aw_7_74, by decide, by decide, by decide⟩
theorem ssx_L_189 : SSX "BandplanLaw" 189 yL_canPack cL_canPack 4 (some .int) [(0, 16, 19, 15)] 3 := ⟨aw_4_238, aw_4_239, aw_1_0, aw_5_0, by decide, by decide, by decide⟩
theorem sv_L_191 : SV "BandplanLaw" 191 yX12_canPack cX12_canPack 2 (some .boolean) 1 := ⟨aw_7_75, aw_7_76, aw_7_77, aw_1_14, aw_7_78, by decide, by decide, by decide⟩
theorem ssx_L_192 : SSX "BandplanLaw" 192 yL_packed cL_packed 5 (some .int) [(0, 10, 13, 15), (0, 10, 17, 13), (0, 10, 21, 40), (0, 10, 25, 42)] 4 := ⟨aw_5_41, aw_5_42, aw_1_0, aw_5_43, by decide, by decide, by decide⟩
theorem sv_L_194 : SV "BandplanLaw" 194 yX12_packed cX12_packed 3 (some .int) 2 := ⟨aw_7_91, aw_7_92, aw_7_93, aw_1_14, aw_7_94, by decide, by decide, by decide⟩
theorem ssx_L_195 : SSX "BandplanLaw" 195 yL_setAsked cL_setAsked 5 (some .int) [(0, 10, 13, 13), (0, 10, 17, 15)] 4 := ⟨aw_5_50, aw_5_51, aw_1_0, aw_5_52, by decide, by decide, by decide⟩
theorem sv_L_197 : SV "BandplanLaw" 197 yX12_setAsked cX12_setAsked 4 (some .int) 2 := ⟨aw_7_95, aw_7_96, aw_7_97, aw_1_14, aw_7_98, by decide, by decide, by decide⟩
theorem ssx_L_198 : SSX "BandplanLaw" 198 yL_sell cL_sell 6 (some .int) [(0, 12, 15, 15), (0, 12, 19, 40)] 5 := ⟨aw_5_57, aw_5_58, aw_1_0, aw_5_59, by decide, by decide, by decide⟩
theorem sv_L_200 : SV "BandplanLaw" 200 yX12_sell cX12_sell 9 (some .int) 3 := ⟨aw_7_99, aw_7_100, aw_7_101, aw_1_14, aw_7_102, by decide, by decide, by decide⟩
theorem ssx_L_201 : SSX "BandplanLaw" 201 yL_priceOf cL_priceOf 4 (some .int) [(0, 9, 12, 13), (0, 9, 15, 42)] 3 := ⟨aw_5_105, aw_5_106, aw_1_0, aw_5_107, by decide, by decide, by decide⟩
theorem sv_L_203 : SV "BandplanLaw" 203 yX12_priceOf cX12_priceOf 2 (some .int) 1 := ⟨aw_7_111, aw_7_112, aw_7_113, aw_1_14, aw_7_114, by decide, by decide, by decide⟩
theorem sv_L_204 : SV "BandplanLaw" 204 yX11_rounds cX11_rounds 1 (some .int) 0 := ⟨aw_2_65, aw_2_66, aw_2_67, aw_1_1, aw_2_68, by decide, by decide, by decide⟩
theorem sv_L_207 : SV "BandplanLaw" 207 yX12_rounds cX12_rounds 1 (some .int) 0 := ⟨aw_7_115, aw_7_116, aw_7_117, aw_1_14, aw_7_118, by decide, by decide, by decide⟩
theorem ssx_L_208 : SSX "BandplanLaw" 208 yL_addBidder cL_addBidder 6 (some .int) [(0, 12, 15, 15), (0, 12, 19, 17)] 5 := ⟨aw_5_113, aw_5_114, aw_1_0, aw_5_115, by decide, by decide, by decide⟩
theorem sv_L_210 : SV "BandplanLaw" 210 yX12_addBidder cX12_addBidder 5 (some .int) 3 := ⟨aw_7_119, aw_7_120, aw_7_121, aw_1_14, aw_7_122, by decide, by decide, by decide⟩
theorem ssx_L_211 : SSX "BandplanLaw" 211 yL_buy cL_buy 4 (some .int) [(0, 9, 12, 15)] 3 := ⟨aw_5_126, aw_5_127, aw_1_0, aw_5_128, by decide, by decide, by decide⟩
theorem sv_L_213 : SV "BandplanLaw" 213 yX12_buy cX12_buy 9 (some .int) 1 := ⟨aw_7_123, aw_7_124, aw_7_125, aw_1_14, aw_7_126, by decide, by decide, by decide⟩
theorem ssx_L_214 : SSX "BandplanLaw" 214 yL_bought cL_bought 4 (some .int) [(0, 9, 12, 13)] 3 := ⟨aw_5_150, aw_5_151, aw_1_0, aw_5_152, by decide, by decide, by decide⟩
theorem sv_L_216 : SV "BandplanLaw" 216 yX12_bought cX12_bought 2 (some .int) 1 := ⟨aw_7_131, aw_7_132, aw_7_133, aw_1_14, aw_7_134, by decide, by decide, by decide⟩
theorem ssx_L_217 : SSX "BandplanLaw" 217 yL_pays cL_pays 4 (some .int) [(0, 8, 11, 13)] 3 := ⟨aw_5_162, aw_5_163, aw_1_0, aw_5_164, by decide, by decide, by decide⟩
theorem sv_L_219 : SV "BandplanLaw" 219 yX12_pays cX12_pays 2 (some .long) 1 := ⟨aw_7_139, aw_7_140, aw_7_141, aw_1_14, aw_7_142, by decide, by decide, by decide⟩
theorem ssx_L_220 : SSX "BandplanLaw" 220 yL_move cL_move 4 (some .int) [(0, 9, 12, 15), (0, 9, 15, 40)] 3 := ⟨aw_5_169, aw_5_170, aw_1_0, aw_5_171, by decide, by decide, by decide⟩
theorem sv_L_222 : SV "BandplanLaw" 222 yX12_move cX12_move 8 (some .int) 1 := ⟨aw_7_143, aw_7_144, aw_7_145, aw_1_14, aw_7_146, by decide, by decide, by decide⟩
theorem ssx_L_223 : SSX "BandplanLaw" 223 yL_phaseOf cL_phaseOf 4 (some .int) [(0, 9, 12, 13), (0, 9, 15, 42)] 3 := ⟨aw_5_211, aw_5_212, aw_1_0, aw_5_213, by decide, by decide, by decide⟩
theorem sv_L_225 : SV "BandplanLaw" 225 yX12_phaseOf cX12_phaseOf 2 (some .int) 1 := ⟨aw_7_159, aw_7_160, aw_7_161, aw_1_14, aw_7_162, by decide, by decide, by decide⟩
theorem sv_L_226 : SV "BandplanLaw" 226 yX11_dark cX11_dark 1 (some .int) 0 := ⟨aw_2_69, aw_2_70, aw_2_71, aw_1_1, aw_2_72, by decide, by decide, by decide⟩
theorem sv_L_229 : SV "BandplanLaw" 229 yX12_dark cX12_dark 1 (some .int) 0 := ⟨aw_7_163, aw_7_164, aw_7_165, aw_1_14, aw_7_166, by decide, by decide, by decide⟩
theorem ssx_L_230 : SSX "BandplanLaw" 230 yL_onShare cL_onShare 3 (some .int) [(0, 8, 11, 116)] 2 := ⟨aw_5_219, aw_5_220, aw_1_0, aw_5_221, by decide, by decide, by decide⟩
theorem sv_L_233 : SV "BandplanLaw" 233 yX12_onShare cX12_onShare 1 (some .float) 0 := ⟨aw_7_167, aw_7_168, aw_7_169, aw_1_14, aw_7_170, by decide, by decide, by decide⟩
theorem ssx_L_234 : SSX "BandplanLaw" 234 yL_meanLevel cL_meanLevel 3 (some .int) [(0, 7, 10, 116)] 2 := ⟨aw_6_3, aw_6_4, aw_1_0, aw_6_5, by decide, by decide, by decide⟩
theorem sv_L_236 : SV "BandplanLaw" 236 yX12_meanLevel cX12_meanLevel 3 (some .double) 0 := ⟨aw_7_175, aw_7_176, aw_7_177, aw_1_14, aw_7_178, by decide, by decide, by decide⟩
theorem sv_L_237 : SV "BandplanLaw" 237 yX11_isSound cX11_isSound 2 (some .boolean) 0 := ⟨aw_2_73, aw_2_74, aw_2_75, aw_1_1, aw_2_76, by decide, by decide, by decide⟩
theorem sv_L_241 : SV "BandplanLaw" 241 yX12_isSound cX12_isSound 1 (some .boolean) 0 := ⟨aw_7_179, aw_7_180, aw_7_181, aw_1_14, aw_7_182, by decide, by decide, by decide⟩
theorem no_L_8 : NO "BandplanLaw" 8 11 8 [.null, .null, .null, .null, .null, .null, .null, .null] := ⟨RX11, TX11, rfl, aw_1_37, aw_1_38, aw_1_1, lay_X11, tyX11, tyX11_ok, fun j hj => by
  match j, hj with
  | 0, _ => rfl
  | 1, _ => rfl
  | 2, _ => rfl
  | 3, _ => rfl
  | 4, _ => rfl
  | 5, _ => rfl
  | 6, _ => rfl
  | 7, _ => rfl
  | j + 8, hj => exact absurd hj (by omega)⟩
theorem si_L_122 : SI "BandplanLaw" 122 yX11_init cX11_init 1 0 := ⟨aw_1_39, aw_1_40, rfl, aw_1_1, aw_1_41, by decide, by decide, by decide⟩
theorem no_L_123 : NO "BandplanLaw" 123 12 36 [.int 0, .int 0, .int 0, .int 0, .int 0, .null, .null, .null, .null, .null, .null, .null, .null, .null, .null, .null, .null, .null, .null, .int 0, .int 0, .int 0, .null, .null, .int 0, .null, .null, .null, .int 0, .null, .null, .null, .null, .null, .null, .null] := ⟨RX12, TX12, rfl, aw_6_11, aw_6_12, aw_1_14, lay_X12, tyX12, tyX12_ok, fun j hj => by
  match j, hj with
  | 0, _ => rfl
  | 1, _ => rfl
  | 2, _ => rfl
  | 3, _ => rfl
  | 4, _ => rfl
  | 5, _ => rfl
  | 6, _ => rfl
  | 7, _ => rfl
  | 8, _ => rfl
  | 9, _ => rfl
  | 10, _ => rfl
  | 11, _ => rfl
  | 12, _ => rfl
  | 13, _ => rfl
  | 14, _ => rfl
  | 15, _ => rfl
  | 16, _ => rfl
  | 17, _ => rfl
  | 18, _ => rfl
  | 19, _ => rfl
  | 20, _ => rfl
  | 21, _ => rfl
  | 22, _ => rfl
  | 23, _ => rfl
  | 24, _ => rfl
  | 25, _ => rfl
  | 26, _ => rfl
  | 27, _ => rfl
  | 28, _ => rfl
  | 29, _ => rfl
  | 30, _ => rfl
  | 31, _ => rfl
  | 32, _ => rfl
  | 33, _ => rfl
  | 34, _ => rfl
  | 35, _ => rfl
  | j + 36, hj => exact absurd hj (by omega)⟩
theorem si_L_125 : SI "BandplanLaw" 125 yX12_init cX12_init 2 0 := ⟨aw_6_13, aw_6_14, rfl, aw_1_14, aw_6_15, by decide, by decide, by decide⟩
