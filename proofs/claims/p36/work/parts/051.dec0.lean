theorem dX0_init_0 : decode cX0_init 0 = .ok (.aload_n 0, 1) := by decide +kernel
theorem dX0_init_1 : decode cX0_init 1 = .ok (.invokespecial 3, 3) := by decide +kernel
theorem dX0_init_4 : decode cX0_init 4 = .ok (.aload_n 0, 1) := by decide +kernel
theorem dX0_init_5 : decode cX0_init 5 = .ok (.new 9, 3) := by decide +kernel
theorem dX0_init_8 : decode cX0_init 8 = .ok (.dup, 1) := by decide +kernel
theorem dX0_init_9 : decode cX0_init 9 = .ok (.invokespecial 11, 3) := by decide +kernel
theorem dX0_init_12 : decode cX0_init 12 = .ok (.putfield 12, 3) := by decide +kernel
theorem dX0_init_15 : decode cX0_init 15 = .ok (.aload_n 0, 1) := by decide +kernel
theorem dX0_init_16 : decode cX0_init 16 = .ok (.new 18, 3) := by decide +kernel
theorem dX0_init_19 : decode cX0_init 19 = .ok (.dup, 1) := by decide +kernel
theorem dX0_init_20 : decode cX0_init 20 = .ok (.invokespecial 20, 3) := by decide +kernel
theorem dX0_init_23 : decode cX0_init 23 = .ok (.putfield 21, 3) := by decide +kernel
theorem dX0_init_26 : decode cX0_init 26 = .ok (.aload_n 0, 1) := by decide +kernel
theorem dX0_init_27 : decode cX0_init 27 = .ok (.sipush 170, 3) := by decide +kernel
theorem dX0_init_30 : decode cX0_init 30 = .ok (.putfield 25, 3) := by decide +kernel
theorem dX0_init_33 : decode cX0_init 33 = .ok (.return_, 1) := by decide +kernel
theorem dX0_levelOf_0 : decode cX0_levelOf 0 = .ok (.aload_n 1, 1) := by decide +kernel
theorem dX0_levelOf_1 : decode cX0_levelOf 1 = .ok (.getfield 29, 3) := by decide +kernel
theorem dX0_levelOf_4 : decode cX0_levelOf 4 = .ok (.aload_n 0, 1) := by decide +kernel
theorem dX0_levelOf_5 : decode cX0_levelOf 5 = .ok (.getfield 12, 3) := by decide +kernel
theorem dX0_levelOf_8 : decode cX0_levelOf 8 = .ok (.aload_n 1, 1) := by decide +kernel
theorem dX0_levelOf_9 : decode cX0_levelOf 9 = .ok (.getfield 34, 3) := by decide +kernel
theorem dX0_levelOf_12 : decode cX0_levelOf 12 = .ok (.aload_n 1, 1) := by decide +kernel
theorem dX0_levelOf_13 : decode cX0_levelOf 13 = .ok (.getfield 37, 3) := by decide +kernel
theorem dX0_levelOf_16 : decode cX0_levelOf 16 = .ok (.invokevirtual 40, 3) := by decide +kernel
theorem dX0_levelOf_19 : decode cX0_levelOf 19 = .ok (.isub, 1) := by decide +kernel
theorem dX0_levelOf_20 : decode cX0_levelOf 20 = .ok (.ireturn, 1) := by decide +kernel
theorem dX0_allHarm_0 : decode cX0_allHarm 0 = .ok (.ldc 44, 2) := by decide +kernel
theorem dX0_allHarm_2 : decode cX0_allHarm 2 = .ok (.istore_n 3, 1) := by decide +kernel
theorem dX0_allHarm_3 : decode cX0_allHarm 3 = .ok (.iconst 0, 1) := by decide +kernel
theorem dX0_allHarm_4 : decode cX0_allHarm 4 = .ok (.istore 4, 2) := by decide +kernel
theorem dX0_allHarm_6 : decode cX0_allHarm 6 = .ok (.iload 4, 2) := by decide +kernel
theorem dX0_allHarm_8 : decode cX0_allHarm 8 = .ok (.aload_n 0, 1) := by decide +kernel
theorem dX0_allHarm_9 : decode cX0_allHarm 9 = .ok (.getfield 21, 3) := by decide +kernel
theorem dX0_allHarm_12 : decode cX0_allHarm 12 = .ok (.invokevirtual 45, 3) := by decide +kernel
theorem dX0_allHarm_15 : decode cX0_allHarm 15 = .ok (.if_icmp .ge 94, 3) := by decide +kernel
theorem dX0_allHarm_18 : decode cX0_allHarm 18 = .ok (.aload_n 0, 1) := by decide +kernel
theorem dX0_allHarm_19 : decode cX0_allHarm 19 = .ok (.getfield 21, 3) := by decide +kernel
theorem dX0_allHarm_22 : decode cX0_allHarm 22 = .ok (.iload 4, 2) := by decide +kernel
theorem dX0_allHarm_24 : decode cX0_allHarm 24 = .ok (.invokevirtual 49, 3) := by decide +kernel
theorem dX0_allHarm_27 : decode cX0_allHarm 27 = .ok (.checkcast 30, 3) := by decide +kernel
theorem dX0_allHarm_30 : decode cX0_allHarm 30 = .ok (.astore 5, 2) := by decide +kernel
theorem dX0_allHarm_32 : decode cX0_allHarm 32 = .ok (.aload_n 2, 1) := by decide +kernel
theorem dX0_allHarm_33 : decode cX0_allHarm 33 = .ok (.iload 4, 2) := by decide +kernel
theorem dX0_allHarm_35 : decode cX0_allHarm 35 = .ok (.invokevirtual 53, 3) := by decide +kernel
theorem dX0_allHarm_38 : decode cX0_allHarm 38 = .ok (.aload_n 2, 1) := by decide +kernel
theorem dX0_allHarm_39 : decode cX0_allHarm 39 = .ok (.aload_n 1, 1) := by decide +kernel
theorem dX0_allHarm_40 : decode cX0_allHarm 40 = .ok (.getfield 59, 3) := by decide +kernel
theorem dX0_allHarm_43 : decode cX0_allHarm 43 = .ok (.invokevirtual 53, 3) := by decide +kernel
theorem dX0_allHarm_46 : decode cX0_allHarm 46 = .ok (.isub, 1) := by decide +kernel
theorem dX0_allHarm_47 : decode cX0_allHarm 47 = .ok (.invokestatic 62, 3) := by decide +kernel
theorem dX0_allHarm_50 : decode cX0_allHarm 50 = .ok (.istore 6, 2) := by decide +kernel
theorem dX0_allHarm_52 : decode cX0_allHarm 52 = .ok (.aload 5, 2) := by decide +kernel
theorem dX0_allHarm_54 : decode cX0_allHarm 54 = .ok (.aload_n 1, 1) := by decide +kernel
theorem dX0_allHarm_55 : decode cX0_allHarm 55 = .ok (.if_acmp .eq 48, 3) := by decide +kernel
theorem dX0_allHarm_58 : decode cX0_allHarm 58 = .ok (.aload_n 2, 1) := by decide +kernel
theorem dX0_allHarm_59 : decode cX0_allHarm 59 = .ok (.iload 4, 2) := by decide +kernel
theorem dX0_allHarm_61 : decode cX0_allHarm 61 = .ok (.invokevirtual 53, 3) := by decide +kernel
theorem dX0_allHarm_64 : decode cX0_allHarm 64 = .ok (.iconst (-1), 1) := by decide +kernel
theorem dX0_allHarm_65 : decode cX0_allHarm 65 = .ok (.if_icmp .eq 38, 3) := by decide +kernel
theorem dX0_allHarm_68 : decode cX0_allHarm 68 = .ok (.iload 6, 2) := by decide +kernel
theorem dX0_allHarm_70 : decode cX0_allHarm 70 = .ok (.iconst 3, 1) := by decide +kernel
theorem dX0_allHarm_71 : decode cX0_allHarm 71 = .ok (.if_icmp .ge 32, 3) := by decide +kernel
theorem dX0_allHarm_74 : decode cX0_allHarm 74 = .ok (.aload_n 0, 1) := by decide +kernel
theorem dX0_allHarm_75 : decode cX0_allHarm 75 = .ok (.aload 5, 2) := by decide +kernel
theorem dX0_allHarm_77 : decode cX0_allHarm 77 = .ok (.aload_n 1, 1) := by decide +kernel
theorem dX0_allHarm_78 : decode cX0_allHarm 78 = .ok (.iload 6, 2) := by decide +kernel
theorem dX0_allHarm_80 : decode cX0_allHarm 80 = .ok (.invokevirtual 67, 3) := by decide +kernel
theorem dX0_allHarm_83 : decode cX0_allHarm 83 = .ok (.istore 7, 2) := by decide +kernel
theorem dX0_allHarm_85 : decode cX0_allHarm 85 = .ok (.iload_n 3, 1) := by decide +kernel
theorem dX0_allHarm_86 : decode cX0_allHarm 86 = .ok (.ldc 44, 2) := by decide +kernel
theorem dX0_allHarm_88 : decode cX0_allHarm 88 = .ok (.if_icmp .ne 8, 3) := by decide +kernel
theorem dX0_allHarm_91 : decode cX0_allHarm 91 = .ok (.iload 7, 2) := by decide +kernel
theorem dX0_allHarm_93 : decode cX0_allHarm 93 = .ok (.goto 9, 3) := by decide +kernel
theorem dX0_allHarm_96 : decode cX0_allHarm 96 = .ok (.iload_n 3, 1) := by decide +kernel
theorem dX0_allHarm_97 : decode cX0_allHarm 97 = .ok (.iload 7, 2) := by decide +kernel
theorem dX0_allHarm_99 : decode cX0_allHarm 99 = .ok (.invokestatic 71, 3) := by decide +kernel
theorem dX0_allHarm_102 : decode cX0_allHarm 102 = .ok (.istore_n 3, 1) := by decide +kernel
theorem dX0_allHarm_103 : decode cX0_allHarm 103 = .ok (.iinc 4 1, 3) := by decide +kernel
theorem dX0_allHarm_106 : decode cX0_allHarm 106 = .ok (.goto (-100), 3) := by decide +kernel
theorem dX0_allHarm_109 : decode cX0_allHarm 109 = .ok (.iload_n 3, 1) := by decide +kernel
theorem dX0_allHarm_110 : decode cX0_allHarm 110 = .ok (.ireturn, 1) := by decide +kernel
theorem dX0_keepsLevel_0 : decode cX0_keepsLevel 0 = .ok (.aload_n 0, 1) := by decide +kernel
theorem dX0_keepsLevel_1 : decode cX0_keepsLevel 1 = .ok (.aload_n 1, 1) := by decide +kernel
theorem dX0_keepsLevel_2 : decode cX0_keepsLevel 2 = .ok (.aload_n 2, 1) := by decide +kernel
theorem dX0_keepsLevel_3 : decode cX0_keepsLevel 3 = .ok (.invokevirtual 74, 3) := by decide +kernel
theorem dX0_keepsLevel_6 : decode cX0_keepsLevel 6 = .ok (.istore_n 3, 1) := by decide +kernel
theorem dX0_keepsLevel_7 : decode cX0_keepsLevel 7 = .ok (.iload_n 3, 1) := by decide +kernel
theorem dX0_keepsLevel_8 : decode cX0_keepsLevel 8 = .ok (.ldc 44, 2) := by decide +kernel
theorem dX0_keepsLevel_10 : decode cX0_keepsLevel 10 = .ok (.if_icmp .eq 17, 3) := by decide +kernel
theorem dX0_keepsLevel_13 : decode cX0_keepsLevel 13 = .ok (.aload_n 0, 1) := by decide +kernel
theorem dX0_keepsLevel_14 : decode cX0_keepsLevel 14 = .ok (.aload_n 1, 1) := by decide +kernel
theorem dX0_keepsLevel_15 : decode cX0_keepsLevel 15 = .ok (.invokevirtual 78, 3) := by decide +kernel
theorem dX0_keepsLevel_18 : decode cX0_keepsLevel 18 = .ok (.iload_n 3, 1) := by decide +kernel
theorem dX0_keepsLevel_19 : decode cX0_keepsLevel 19 = .ok (.isub, 1) := by decide +kernel
theorem dX0_keepsLevel_20 : decode cX0_keepsLevel 20 = .ok (.aload_n 0, 1) := by decide +kernel
theorem dX0_keepsLevel_21 : decode cX0_keepsLevel 21 = .ok (.getfield 25, 3) := by decide +kernel
theorem dX0_keepsLevel_24 : decode cX0_keepsLevel 24 = .ok (.if_icmp .lt 7, 3) := by decide +kernel
theorem dX0_keepsLevel_27 : decode cX0_keepsLevel 27 = .ok (.iconst 1, 1) := by decide +kernel
theorem dX0_keepsLevel_28 : decode cX0_keepsLevel 28 = .ok (.goto 4, 3) := by decide +kernel
theorem dX0_keepsLevel_31 : decode cX0_keepsLevel 31 = .ok (.iconst 0, 1) := by decide +kernel
theorem dX0_keepsLevel_32 : decode cX0_keepsLevel 32 = .ok (.ireturn, 1) := by decide +kernel
theorem dX0_allKeep_0 : decode cX0_allKeep 0 = .ok (.iconst 0, 1) := by decide +kernel
theorem dX0_allKeep_1 : decode cX0_allKeep 1 = .ok (.istore_n 2, 1) := by decide +kernel
theorem dX0_allKeep_2 : decode cX0_allKeep 2 = .ok (.iload_n 2, 1) := by decide +kernel
theorem dX0_allKeep_3 : decode cX0_allKeep 3 = .ok (.aload_n 0, 1) := by decide +kernel
theorem dX0_allKeep_4 : decode cX0_allKeep 4 = .ok (.getfield 21, 3) := by decide +kernel
theorem dX0_allKeep_7 : decode cX0_allKeep 7 = .ok (.invokevirtual 45, 3) := by decide +kernel
theorem dX0_allKeep_10 : decode cX0_allKeep 10 = .ok (.if_icmp .ge 48, 3) := by decide +kernel
theorem dX0_allKeep_13 : decode cX0_allKeep 13 = .ok (.aload_n 0, 1) := by decide +kernel
theorem dX0_allKeep_14 : decode cX0_allKeep 14 = .ok (.getfield 21, 3) := by decide +kernel
theorem dX0_allKeep_17 : decode cX0_allKeep 17 = .ok (.iload_n 2, 1) := by decide +kernel
theorem dX0_allKeep_18 : decode cX0_allKeep 18 = .ok (.invokevirtual 49, 3) := by decide +kernel
theorem dX0_allKeep_21 : decode cX0_allKeep 21 = .ok (.checkcast 30, 3) := by decide +kernel
theorem dX0_allKeep_24 : decode cX0_allKeep 24 = .ok (.astore_n 3, 1) := by decide +kernel
theorem dX0_allKeep_25 : decode cX0_allKeep 25 = .ok (.aload_n 3, 1) := by decide +kernel
theorem dX0_allKeep_26 : decode cX0_allKeep 26 = .ok (.getfield 82, 3) := by decide +kernel
theorem dX0_allKeep_29 : decode cX0_allKeep 29 = .ok (.ifCond .eq 23, 3) := by decide +kernel
theorem dX0_allKeep_32 : decode cX0_allKeep 32 = .ok (.aload_n 1, 1) := by decide +kernel
theorem dX0_allKeep_33 : decode cX0_allKeep 33 = .ok (.iload_n 2, 1) := by decide +kernel
theorem dX0_allKeep_34 : decode cX0_allKeep 34 = .ok (.invokevirtual 53, 3) := by decide +kernel
theorem dX0_allKeep_37 : decode cX0_allKeep 37 = .ok (.iconst (-1), 1) := by decide +kernel
theorem dX0_allKeep_38 : decode cX0_allKeep 38 = .ok (.if_icmp .eq 14, 3) := by decide +kernel
theorem dX0_allKeep_41 : decode cX0_allKeep 41 = .ok (.aload_n 0, 1) := by decide +kernel
theorem dX0_allKeep_42 : decode cX0_allKeep 42 = .ok (.aload_n 3, 1) := by decide +kernel
theorem dX0_allKeep_43 : decode cX0_allKeep 43 = .ok (.aload_n 1, 1) := by decide +kernel
theorem dX0_allKeep_44 : decode cX0_allKeep 44 = .ok (.invokevirtual 86, 3) := by decide +kernel
theorem dX0_allKeep_47 : decode cX0_allKeep 47 = .ok (.ifCond .ne 5, 3) := by decide +kernel
theorem dX0_allKeep_50 : decode cX0_allKeep 50 = .ok (.iconst 0, 1) := by decide +kernel
theorem dX0_allKeep_51 : decode cX0_allKeep 51 = .ok (.ireturn, 1) := by decide +kernel
theorem dX0_allKeep_52 : decode cX0_allKeep 52 = .ok (.iinc 2 1, 3) := by decide +kernel
theorem dX0_allKeep_55 : decode cX0_allKeep 55 = .ok (.goto (-53), 3) := by decide +kernel
theorem dX0_allKeep_58 : decode cX0_allKeep 58 = .ok (.iconst 1, 1) := by decide +kernel
theorem dX0_allKeep_59 : decode cX0_allKeep 59 = .ok (.ireturn, 1) := by decide +kernel
theorem dX0_barEachOther_0 : decode cX0_barEachOther 0 = .ok (.aload_n 0, 1) := by decide +kernel
theorem dX0_barEachOther_1 : decode cX0_barEachOther 1 = .ok (.aload_n 1, 1) := by decide +kernel
theorem dX0_barEachOther_2 : decode cX0_barEachOther 2 = .ok (.aload_n 2, 1) := by decide +kernel
theorem dX0_barEachOther_3 : decode cX0_barEachOther 3 = .ok (.iload_n 3, 1) := by decide +kernel
theorem dX0_barEachOther_4 : decode cX0_barEachOther 4 = .ok (.invokevirtual 90, 3) := by decide +kernel
theorem dX0_barEachOther_7 : decode cX0_barEachOther 7 = .ok (.ifCond .ne 13, 3) := by decide +kernel
theorem dX0_barEachOther_10 : decode cX0_barEachOther 10 = .ok (.aload_n 0, 1) := by decide +kernel
theorem dX0_barEachOther_11 : decode cX0_barEachOther 11 = .ok (.aload_n 2, 1) := by decide +kernel
theorem dX0_barEachOther_12 : decode cX0_barEachOther 12 = .ok (.aload_n 1, 1) := by decide +kernel
theorem dX0_barEachOther_13 : decode cX0_barEachOther 13 = .ok (.iload_n 3, 1) := by decide +kernel
theorem dX0_barEachOther_14 : decode cX0_barEachOther 14 = .ok (.invokevirtual 90, 3) := by decide +kernel
theorem dX0_barEachOther_17 : decode cX0_barEachOther 17 = .ok (.ifCond .eq 7, 3) := by decide +kernel
theorem dX0_barEachOther_20 : decode cX0_barEachOther 20 = .ok (.iconst 1, 1) := by decide +kernel
theorem dX0_barEachOther_21 : decode cX0_barEachOther 21 = .ok (.goto 4, 3) := by decide +kernel
theorem dX0_barEachOther_24 : decode cX0_barEachOther 24 = .ok (.iconst 0, 1) := by decide +kernel
theorem dX0_barEachOther_25 : decode cX0_barEachOther 25 = .ok (.ireturn, 1) := by decide +kernel
theorem dX0_isNearBorder_0 : decode cX0_isNearBorder 0 = .ok (.aload_n 0, 1) := by decide +kernel
theorem dX0_isNearBorder_1 : decode cX0_isNearBorder 1 = .ok (.aload_n 1, 1) := by decide +kernel
theorem dX0_isNearBorder_2 : decode cX0_isNearBorder 2 = .ok (.getfield 34, 3) := by decide +kernel
theorem dX0_isNearBorder_5 : decode cX0_isNearBorder 5 = .ok (.invokevirtual 94, 3) := by decide +kernel
theorem dX0_isNearBorder_8 : decode cX0_isNearBorder 8 = .ok (.ifCond .ne 14, 3) := by decide +kernel
theorem dX0_isNearBorder_11 : decode cX0_isNearBorder 11 = .ok (.aload_n 0, 1) := by decide +kernel
theorem dX0_isNearBorder_12 : decode cX0_isNearBorder 12 = .ok (.aload_n 1, 1) := by decide +kernel
theorem dX0_isNearBorder_13 : decode cX0_isNearBorder 13 = .ok (.getfield 37, 3) := by decide +kernel
theorem dX0_isNearBorder_16 : decode cX0_isNearBorder 16 = .ok (.invokevirtual 94, 3) := by decide +kernel
theorem dX0_isNearBorder_19 : decode cX0_isNearBorder 19 = .ok (.ifCond .eq 7, 3) := by decide +kernel
theorem dX0_isNearBorder_22 : decode cX0_isNearBorder 22 = .ok (.iconst 1, 1) := by decide +kernel
theorem dX0_isNearBorder_23 : decode cX0_isNearBorder 23 = .ok (.goto 4, 3) := by decide +kernel
theorem dX0_isNearBorder_26 : decode cX0_isNearBorder 26 = .ok (.iconst 0, 1) := by decide +kernel
theorem dX0_isNearBorder_27 : decode cX0_isNearBorder 27 = .ok (.ireturn, 1) := by decide +kernel
theorem dX0_protectedOnes_0 : decode cX0_protectedOnes 0 = .ok (.iconst 0, 1) := by decide +kernel
theorem dX0_protectedOnes_1 : decode cX0_protectedOnes 1 = .ok (.istore_n 1, 1) := by decide +kernel
theorem dX0_protectedOnes_2 : decode cX0_protectedOnes 2 = .ok (.iconst 0, 1) := by decide +kernel
theorem dX0_protectedOnes_3 : decode cX0_protectedOnes 3 = .ok (.istore_n 2, 1) := by decide +kernel
theorem dX0_protectedOnes_4 : decode cX0_protectedOnes 4 = .ok (.iload_n 2, 1) := by decide +kernel
theorem dX0_protectedOnes_5 : decode cX0_protectedOnes 5 = .ok (.aload_n 0, 1) := by decide +kernel
theorem dX0_protectedOnes_6 : decode cX0_protectedOnes 6 = .ok (.getfield 21, 3) := by decide +kernel
theorem dX0_protectedOnes_9 : decode cX0_protectedOnes 9 = .ok (.invokevirtual 45, 3) := by decide +kernel
theorem dX0_protectedOnes_12 : decode cX0_protectedOnes 12 = .ok (.if_icmp .ge 32, 3) := by decide +kernel
theorem dX0_protectedOnes_15 : decode cX0_protectedOnes 15 = .ok (.aload_n 0, 1) := by decide +kernel
theorem dX0_protectedOnes_16 : decode cX0_protectedOnes 16 = .ok (.getfield 21, 3) := by decide +kernel
theorem dX0_protectedOnes_19 : decode cX0_protectedOnes 19 = .ok (.iload_n 2, 1) := by decide +kernel
theorem dX0_protectedOnes_20 : decode cX0_protectedOnes 20 = .ok (.invokevirtual 49, 3) := by decide +kernel
theorem dX0_protectedOnes_23 : decode cX0_protectedOnes 23 = .ok (.checkcast 30, 3) := by decide +kernel
theorem dX0_protectedOnes_26 : decode cX0_protectedOnes 26 = .ok (.getfield 82, 3) := by decide +kernel
theorem dX0_protectedOnes_29 : decode cX0_protectedOnes 29 = .ok (.ifCond .eq 9, 3) := by decide +kernel
theorem dX0_protectedOnes_32 : decode cX0_protectedOnes 32 = .ok (.iload_n 1, 1) := by decide +kernel
theorem dX0_protectedOnes_33 : decode cX0_protectedOnes 33 = .ok (.iconst 1, 1) := by decide +kernel
theorem dX0_protectedOnes_34 : decode cX0_protectedOnes 34 = .ok (.iload_n 2, 1) := by decide +kernel
theorem dX0_protectedOnes_35 : decode cX0_protectedOnes 35 = .ok (.ishl, 1) := by decide +kernel
theorem dX0_protectedOnes_36 : decode cX0_protectedOnes 36 = .ok (.ior, 1) := by decide +kernel
theorem dX0_protectedOnes_37 : decode cX0_protectedOnes 37 = .ok (.istore_n 1, 1) := by decide +kernel
theorem dX0_protectedOnes_38 : decode cX0_protectedOnes 38 = .ok (.iinc 2 1, 3) := by decide +kernel
theorem dX0_protectedOnes_41 : decode cX0_protectedOnes 41 = .ok (.goto (-37), 3) := by decide +kernel
theorem dX0_protectedOnes_44 : decode cX0_protectedOnes 44 = .ok (.iload_n 1, 1) := by decide +kernel
theorem dX0_protectedOnes_45 : decode cX0_protectedOnes 45 = .ok (.ireturn, 1) := by decide +kernel
theorem dX0_askingMoreThan_0 : decode cX0_askingMoreThan 0 = .ok (.iconst 0, 1) := by decide +kernel
theorem dX0_askingMoreThan_1 : decode cX0_askingMoreThan 1 = .ok (.istore_n 2, 1) := by decide +kernel
theorem dX0_askingMoreThan_2 : decode cX0_askingMoreThan 2 = .ok (.iconst 0, 1) := by decide +kernel
theorem dX0_askingMoreThan_3 : decode cX0_askingMoreThan 3 = .ok (.istore_n 3, 1) := by decide +kernel
theorem dX0_askingMoreThan_4 : decode cX0_askingMoreThan 4 = .ok (.iload_n 3, 1) := by decide +kernel
theorem dX0_askingMoreThan_5 : decode cX0_askingMoreThan 5 = .ok (.aload_n 0, 1) := by decide +kernel
theorem dX0_askingMoreThan_6 : decode cX0_askingMoreThan 6 = .ok (.getfield 21, 3) := by decide +kernel
theorem dX0_askingMoreThan_9 : decode cX0_askingMoreThan 9 = .ok (.invokevirtual 45, 3) := by decide +kernel
theorem dX0_askingMoreThan_12 : decode cX0_askingMoreThan 12 = .ok (.if_icmp .ge 33, 3) := by decide +kernel
theorem dX0_askingMoreThan_15 : decode cX0_askingMoreThan 15 = .ok (.aload_n 0, 1) := by decide +kernel
theorem dX0_askingMoreThan_16 : decode cX0_askingMoreThan 16 = .ok (.getfield 21, 3) := by decide +kernel
theorem dX0_askingMoreThan_19 : decode cX0_askingMoreThan 19 = .ok (.iload_n 3, 1) := by decide +kernel
theorem dX0_askingMoreThan_20 : decode cX0_askingMoreThan 20 = .ok (.invokevirtual 49, 3) := by decide +kernel
theorem dX0_askingMoreThan_23 : decode cX0_askingMoreThan 23 = .ok (.checkcast 30, 3) := by decide +kernel
theorem dX0_askingMoreThan_26 : decode cX0_askingMoreThan 26 = .ok (.getfield 98, 3) := by decide +kernel
theorem dX0_askingMoreThan_29 : decode cX0_askingMoreThan 29 = .ok (.iload_n 1, 1) := by decide +kernel
theorem dX0_askingMoreThan_30 : decode cX0_askingMoreThan 30 = .ok (.if_icmp .le 9, 3) := by decide +kernel
theorem dX0_askingMoreThan_33 : decode cX0_askingMoreThan 33 = .ok (.iload_n 2, 1) := by decide +kernel
theorem dX0_askingMoreThan_34 : decode cX0_askingMoreThan 34 = .ok (.iconst 1, 1) := by decide +kernel
theorem dX0_askingMoreThan_35 : decode cX0_askingMoreThan 35 = .ok (.iload_n 3, 1) := by decide +kernel
theorem dX0_askingMoreThan_36 : decode cX0_askingMoreThan 36 = .ok (.ishl, 1) := by decide +kernel
theorem dX0_askingMoreThan_37 : decode cX0_askingMoreThan 37 = .ok (.ior, 1) := by decide +kernel
theorem dX0_askingMoreThan_38 : decode cX0_askingMoreThan 38 = .ok (.istore_n 2, 1) := by decide +kernel
theorem dX0_askingMoreThan_39 : decode cX0_askingMoreThan 39 = .ok (.iinc 3 1, 3) := by decide +kernel
theorem dX0_askingMoreThan_42 : decode cX0_askingMoreThan 42 = .ok (.goto (-38), 3) := by decide +kernel
theorem dX0_askingMoreThan_45 : decode cX0_askingMoreThan 45 = .ok (.iload_n 2, 1) := by decide +kernel
theorem dX0_askingMoreThan_46 : decode cX0_askingMoreThan 46 = .ok (.ireturn, 1) := by decide +kernel
theorem dX0_isBeyond_0 : decode cX0_isBeyond 0 = .ok (.iload_n 1, 1) := by decide +kernel
theorem dX0_isBeyond_1 : decode cX0_isBeyond 1 = .ok (.ifCond .lt 43, 3) := by decide +kernel
theorem dX0_isBeyond_4 : decode cX0_isBeyond 4 = .ok (.iload_n 1, 1) := by decide +kernel
theorem dX0_isBeyond_5 : decode cX0_isBeyond 5 = .ok (.aload_n 0, 1) := by decide +kernel
theorem dX0_isBeyond_6 : decode cX0_isBeyond 6 = .ok (.getfield 12, 3) := by decide +kernel
theorem dX0_isBeyond_9 : decode cX0_isBeyond 9 = .ok (.getfield 101, 3) := by decide +kernel
theorem dX0_isBeyond_12 : decode cX0_isBeyond 12 = .ok (.invokevirtual 45, 3) := by decide +kernel
theorem dX0_isBeyond_15 : decode cX0_isBeyond 15 = .ok (.if_icmp .ge 29, 3) := by decide +kernel
theorem dX0_isBeyond_18 : decode cX0_isBeyond 18 = .ok (.aload_n 0, 1) := by decide +kernel
theorem dX0_isBeyond_19 : decode cX0_isBeyond 19 = .ok (.getfield 12, 3) := by decide +kernel
theorem dX0_isBeyond_22 : decode cX0_isBeyond 22 = .ok (.getfield 101, 3) := by decide +kernel
theorem dX0_isBeyond_25 : decode cX0_isBeyond 25 = .ok (.iload_n 1, 1) := by decide +kernel
theorem dX0_isBeyond_26 : decode cX0_isBeyond 26 = .ok (.invokevirtual 49, 3) := by decide +kernel
theorem dX0_isBeyond_29 : decode cX0_isBeyond 29 = .ok (.checkcast 104, 3) := by decide +kernel
theorem dX0_isBeyond_32 : decode cX0_isBeyond 32 = .ok (.getfield 106, 3) := by decide +kernel
theorem dX0_isBeyond_35 : decode cX0_isBeyond 35 = .ok (.bipush 15, 2) := by decide +kernel
theorem dX0_isBeyond_37 : decode cX0_isBeyond 37 = .ok (.if_icmp .lt 7, 3) := by decide +kernel
theorem dX0_isBeyond_40 : decode cX0_isBeyond 40 = .ok (.iconst 1, 1) := by decide +kernel
theorem dX0_isBeyond_41 : decode cX0_isBeyond 41 = .ok (.goto 4, 3) := by decide +kernel
theorem dX0_isBeyond_44 : decode cX0_isBeyond 44 = .ok (.iconst 0, 1) := by decide +kernel
theorem dX0_isBeyond_45 : decode cX0_isBeyond 45 = .ok (.ireturn, 1) := by decide +kernel
theorem dX0_suffers_0 : decode cX0_suffers 0 = .ok (.aload_n 1, 1) := by decide +kernel
theorem dX0_suffers_1 : decode cX0_suffers 1 = .ok (.getfield 82, 3) := by decide +kernel
theorem dX0_suffers_4 : decode cX0_suffers 4 = .ok (.ifCond .eq 32, 3) := by decide +kernel
theorem dX0_suffers_7 : decode cX0_suffers 7 = .ok (.iload_n 3, 1) := by decide +kernel
theorem dX0_suffers_8 : decode cX0_suffers 8 = .ok (.iconst 3, 1) := by decide +kernel
theorem dX0_suffers_9 : decode cX0_suffers 9 = .ok (.if_icmp .ge 27, 3) := by decide +kernel
theorem dX0_suffers_12 : decode cX0_suffers 12 = .ok (.aload_n 0, 1) := by decide +kernel
theorem dX0_suffers_13 : decode cX0_suffers 13 = .ok (.aload_n 1, 1) := by decide +kernel
theorem dX0_suffers_14 : decode cX0_suffers 14 = .ok (.invokevirtual 78, 3) := by decide +kernel
theorem dX0_suffers_17 : decode cX0_suffers 17 = .ok (.aload_n 0, 1) := by decide +kernel
theorem dX0_suffers_18 : decode cX0_suffers 18 = .ok (.aload_n 2, 1) := by decide +kernel
theorem dX0_suffers_19 : decode cX0_suffers 19 = .ok (.aload_n 1, 1) := by decide +kernel
theorem dX0_suffers_20 : decode cX0_suffers 20 = .ok (.iload_n 3, 1) := by decide +kernel
theorem dX0_suffers_21 : decode cX0_suffers 21 = .ok (.invokevirtual 67, 3) := by decide +kernel
theorem dX0_suffers_24 : decode cX0_suffers 24 = .ok (.isub, 1) := by decide +kernel
theorem dX0_suffers_25 : decode cX0_suffers 25 = .ok (.aload_n 0, 1) := by decide +kernel
theorem dX0_suffers_26 : decode cX0_suffers 26 = .ok (.getfield 25, 3) := by decide +kernel
theorem dX0_suffers_29 : decode cX0_suffers 29 = .ok (.if_icmp .ge 7, 3) := by decide +kernel
theorem dX0_suffers_32 : decode cX0_suffers 32 = .ok (.iconst 1, 1) := by decide +kernel
theorem dX0_suffers_33 : decode cX0_suffers 33 = .ok (.goto 4, 3) := by decide +kernel
theorem dX0_suffers_36 : decode cX0_suffers 36 = .ok (.iconst 0, 1) := by decide +kernel
theorem dX0_suffers_37 : decode cX0_suffers 37 = .ok (.ireturn, 1) := by decide +kernel
theorem dX0_harmOf_0 : decode cX0_harmOf 0 = .ok (.iload_n 3, 1) := by decide +kernel
theorem dX0_harmOf_1 : decode cX0_harmOf 1 = .ok (.ifCond .ne 7, 3) := by decide +kernel
theorem dX0_harmOf_4 : decode cX0_harmOf 4 = .ok (.iconst 0, 1) := by decide +kernel
theorem dX0_harmOf_5 : decode cX0_harmOf 5 = .ok (.goto 17, 3) := by decide +kernel
theorem dX0_harmOf_8 : decode cX0_harmOf 8 = .ok (.iload_n 3, 1) := by decide +kernel
theorem dX0_harmOf_9 : decode cX0_harmOf 9 = .ok (.iconst 1, 1) := by decide +kernel
theorem dX0_harmOf_10 : decode cX0_harmOf 10 = .ok (.if_icmp .ne 9, 3) := by decide +kernel
theorem dX0_harmOf_13 : decode cX0_harmOf 13 = .ok (.sipush 300, 3) := by decide +kernel
theorem dX0_harmOf_16 : decode cX0_harmOf 16 = .ok (.goto 6, 3) := by decide +kernel
theorem dX0_harmOf_19 : decode cX0_harmOf 19 = .ok (.sipush 500, 3) := by decide +kernel
theorem dX0_harmOf_22 : decode cX0_harmOf 22 = .ok (.istore 4, 2) := by decide +kernel
theorem dX0_harmOf_24 : decode cX0_harmOf 24 = .ok (.aload_n 1, 1) := by decide +kernel
theorem dX0_harmOf_25 : decode cX0_harmOf 25 = .ok (.getfield 29, 3) := by decide +kernel
theorem dX0_harmOf_28 : decode cX0_harmOf 28 = .ok (.aload_n 0, 1) := by decide +kernel
theorem dX0_harmOf_29 : decode cX0_harmOf 29 = .ok (.getfield 12, 3) := by decide +kernel
theorem dX0_harmOf_32 : decode cX0_harmOf 32 = .ok (.aload_n 1, 1) := by decide +kernel
theorem dX0_harmOf_33 : decode cX0_harmOf 33 = .ok (.getfield 34, 3) := by decide +kernel
theorem dX0_harmOf_36 : decode cX0_harmOf 36 = .ok (.aload_n 2, 1) := by decide +kernel
theorem dX0_harmOf_37 : decode cX0_harmOf 37 = .ok (.getfield 37, 3) := by decide +kernel
theorem dX0_harmOf_40 : decode cX0_harmOf 40 = .ok (.invokevirtual 40, 3) := by decide +kernel
theorem dX0_harmOf_43 : decode cX0_harmOf 43 = .ok (.isub, 1) := by decide +kernel
theorem dX0_harmOf_44 : decode cX0_harmOf 44 = .ok (.iload 4, 2) := by decide +kernel
theorem dX0_harmOf_46 : decode cX0_harmOf 46 = .ok (.isub, 1) := by decide +kernel
theorem dX0_harmOf_47 : decode cX0_harmOf 47 = .ok (.ireturn, 1) := by decide +kernel
theorem dX0_together_0 : decode cX0_together 0 = .ok (.bipush 30, 2) := by decide +kernel
theorem dX0_together_2 : decode cX0_together 2 = .ok (.iload_n 0, 1) := by decide +kernel
theorem dX0_together_3 : decode cX0_together 3 = .ok (.iload_n 1, 1) := by decide +kernel
theorem dX0_together_4 : decode cX0_together 4 = .ok (.isub, 1) := by decide +kernel
theorem dX0_together_5 : decode cX0_together 5 = .ok (.invokestatic 62, 3) := by decide +kernel
theorem dX0_together_8 : decode cX0_together 8 = .ok (.iconst 4, 1) := by decide +kernel
theorem dX0_together_9 : decode cX0_together 9 = .ok (.idiv, 1) := by decide +kernel
theorem dX0_together_10 : decode cX0_together 10 = .ok (.isub, 1) := by decide +kernel
theorem dX0_together_11 : decode cX0_together 11 = .ok (.istore_n 2, 1) := by decide +kernel
theorem dX0_together_12 : decode cX0_together 12 = .ok (.iload_n 0, 1) := by decide +kernel
theorem dX0_together_13 : decode cX0_together 13 = .ok (.iload_n 1, 1) := by decide +kernel
theorem dX0_together_14 : decode cX0_together 14 = .ok (.invokestatic 109, 3) := by decide +kernel
theorem dX0_together_17 : decode cX0_together 17 = .ok (.iload_n 2, 1) := by decide +kernel
theorem dX0_together_18 : decode cX0_together 18 = .ok (.iconst 0, 1) := by decide +kernel
theorem dX0_together_19 : decode cX0_together 19 = .ok (.invokestatic 109, 3) := by decide +kernel
theorem dX0_together_22 : decode cX0_together 22 = .ok (.iadd, 1) := by decide +kernel
theorem dX0_together_23 : decode cX0_together 23 = .ok (.ireturn, 1) := by decide +kernel
theorem dX1_init_0 : decode cX1_init 0 = .ok (.aload_n 0, 1) := by decide +kernel
theorem dX1_init_1 : decode cX1_init 1 = .ok (.invokespecial 3, 3) := by decide +kernel
theorem dX1_init_4 : decode cX1_init 4 = .ok (.aload_n 0, 1) := by decide +kernel
theorem dX1_init_5 : decode cX1_init 5 = .ok (.new 9, 3) := by decide +kernel
theorem dX1_init_8 : decode cX1_init 8 = .ok (.dup, 1) := by decide +kernel
theorem dX1_init_9 : decode cX1_init 9 = .ok (.bipush 8, 2) := by decide +kernel
theorem dX1_init_11 : decode cX1_init 11 = .ok (.iconst 0, 1) := by decide +kernel
theorem dX1_init_12 : decode cX1_init 12 = .ok (.invokespecial 11, 3) := by decide +kernel
theorem dX1_init_15 : decode cX1_init 15 = .ok (.putfield 14, 3) := by decide +kernel
theorem dX1_init_18 : decode cX1_init 18 = .ok (.aload_n 0, 1) := by decide +kernel
theorem dX1_init_19 : decode cX1_init 19 = .ok (.new 9, 3) := by decide +kernel
theorem dX1_init_22 : decode cX1_init 22 = .ok (.dup, 1) := by decide +kernel
theorem dX1_init_23 : decode cX1_init 23 = .ok (.bipush 64, 2) := by decide +kernel
theorem dX1_init_25 : decode cX1_init 25 = .ok (.iconst (-1), 1) := by decide +kernel
theorem dX1_init_26 : decode cX1_init 26 = .ok (.invokespecial 11, 3) := by decide +kernel
theorem dX1_init_29 : decode cX1_init 29 = .ok (.putfield 20, 3) := by decide +kernel
theorem dX1_init_32 : decode cX1_init 32 = .ok (.aload_n 0, 1) := by decide +kernel
theorem dX1_init_33 : decode cX1_init 33 = .ok (.new 9, 3) := by decide +kernel
theorem dX1_init_36 : decode cX1_init 36 = .ok (.dup, 1) := by decide +kernel
theorem dX1_init_37 : decode cX1_init 37 = .ok (.bipush 64, 2) := by decide +kernel
theorem dX1_init_39 : decode cX1_init 39 = .ok (.iconst 0, 1) := by decide +kernel
theorem dX1_init_40 : decode cX1_init 40 = .ok (.invokespecial 11, 3) := by decide +kernel
theorem dX1_init_43 : decode cX1_init 43 = .ok (.putfield 23, 3) := by decide +kernel
theorem dX1_init_46 : decode cX1_init 46 = .ok (.return_, 1) := by decide +kernel
theorem dX1_isForeign_0 : decode cX1_isForeign 0 = .ok (.aload_n 0, 1) := by decide +kernel
theorem dX1_isForeign_1 : decode cX1_isForeign 1 = .ok (.getfield 14, 3) := by decide +kernel
theorem dX1_isForeign_4 : decode cX1_isForeign 4 = .ok (.iload_n 1, 1) := by decide +kernel
theorem dX1_isForeign_5 : decode cX1_isForeign 5 = .ok (.invokevirtual 26, 3) := by decide +kernel
theorem dX1_isForeign_8 : decode cX1_isForeign 8 = .ok (.iconst 1, 1) := by decide +kernel
theorem dX1_isForeign_9 : decode cX1_isForeign 9 = .ok (.if_icmp .ne 7, 3) := by decide +kernel
theorem dX1_isForeign_12 : decode cX1_isForeign 12 = .ok (.iconst 1, 1) := by decide +kernel
theorem dX1_isForeign_13 : decode cX1_isForeign 13 = .ok (.goto 4, 3) := by decide +kernel
theorem dX1_isForeign_16 : decode cX1_isForeign 16 = .ok (.iconst 0, 1) := by decide +kernel
theorem dX1_isForeign_17 : decode cX1_isForeign 17 = .ok (.ireturn, 1) := by decide +kernel
theorem dX1_makeForeign_0 : decode cX1_makeForeign 0 = .ok (.aload_n 0, 1) := by decide +kernel
theorem dX1_makeForeign_1 : decode cX1_makeForeign 1 = .ok (.getfield 14, 3) := by decide +kernel
theorem dX1_makeForeign_4 : decode cX1_makeForeign 4 = .ok (.iload_n 1, 1) := by decide +kernel
theorem dX1_makeForeign_5 : decode cX1_makeForeign 5 = .ok (.iload_n 2, 1) := by decide +kernel
theorem dX1_makeForeign_6 : decode cX1_makeForeign 6 = .ok (.ifCond .eq 7, 3) := by decide +kernel
theorem dX1_makeForeign_9 : decode cX1_makeForeign 9 = .ok (.iconst 1, 1) := by decide +kernel
theorem dX1_makeForeign_10 : decode cX1_makeForeign 10 = .ok (.goto 4, 3) := by decide +kernel
theorem dX1_makeForeign_13 : decode cX1_makeForeign 13 = .ok (.iconst 0, 1) := by decide +kernel
theorem dX1_makeForeign_14 : decode cX1_makeForeign 14 = .ok (.invokevirtual 30, 3) := by decide +kernel
theorem dX1_makeForeign_17 : decode cX1_makeForeign 17 = .ok (.return_, 1) := by decide +kernel
theorem dX1_ask_0 : decode cX1_ask 0 = .ok (.aload_n 0, 1) := by decide +kernel
theorem dX1_ask_1 : decode cX1_ask 1 = .ok (.getfield 20, 3) := by decide +kernel
theorem dX1_ask_4 : decode cX1_ask 4 = .ok (.iload_n 1, 1) := by decide +kernel
theorem dX1_ask_5 : decode cX1_ask 5 = .ok (.bipush 8, 2) := by decide +kernel
theorem dX1_ask_7 : decode cX1_ask 7 = .ok (.imul, 1) := by decide +kernel
theorem dX1_ask_8 : decode cX1_ask 8 = .ok (.iload_n 2, 1) := by decide +kernel
theorem dX1_ask_9 : decode cX1_ask 9 = .ok (.iadd, 1) := by decide +kernel
theorem dX1_ask_10 : decode cX1_ask 10 = .ok (.iload_n 3, 1) := by decide +kernel
theorem dX1_ask_11 : decode cX1_ask 11 = .ok (.invokevirtual 30, 3) := by decide +kernel
theorem dX1_ask_14 : decode cX1_ask 14 = .ok (.aload_n 0, 1) := by decide +kernel
theorem dX1_ask_15 : decode cX1_ask 15 = .ok (.getfield 23, 3) := by decide +kernel
theorem dX1_ask_18 : decode cX1_ask 18 = .ok (.iload_n 1, 1) := by decide +kernel
theorem dX1_ask_19 : decode cX1_ask 19 = .ok (.bipush 8, 2) := by decide +kernel
theorem dX1_ask_21 : decode cX1_ask 21 = .ok (.imul, 1) := by decide +kernel
theorem dX1_ask_22 : decode cX1_ask 22 = .ok (.iload_n 2, 1) := by decide +kernel
theorem dX1_ask_23 : decode cX1_ask 23 = .ok (.iadd, 1) := by decide +kernel
theorem dX1_ask_24 : decode cX1_ask 24 = .ok (.iconst 0, 1) := by decide +kernel
theorem dX1_ask_25 : decode cX1_ask 25 = .ok (.invokevirtual 30, 3) := by decide +kernel
theorem dX1_ask_28 : decode cX1_ask 28 = .ok (.iload_n 3, 1) := by decide +kernel
theorem dX1_ask_29 : decode cX1_ask 29 = .ok (.iconst 3, 1) := by decide +kernel
theorem dX1_ask_30 : decode cX1_ask 30 = .ok (.iadd, 1) := by decide +kernel
theorem dX1_ask_31 : decode cX1_ask 31 = .ok (.ireturn, 1) := by decide +kernel
theorem dX1_wasAsked_0 : decode cX1_wasAsked 0 = .ok (.aload_n 0, 1) := by decide +kernel
theorem dX1_wasAsked_1 : decode cX1_wasAsked 1 = .ok (.getfield 20, 3) := by decide +kernel
theorem dX1_wasAsked_4 : decode cX1_wasAsked 4 = .ok (.iload_n 1, 1) := by decide +kernel
theorem dX1_wasAsked_5 : decode cX1_wasAsked 5 = .ok (.bipush 8, 2) := by decide +kernel
theorem dX1_wasAsked_7 : decode cX1_wasAsked 7 = .ok (.imul, 1) := by decide +kernel
theorem dX1_wasAsked_8 : decode cX1_wasAsked 8 = .ok (.iload_n 2, 1) := by decide +kernel
theorem dX1_wasAsked_9 : decode cX1_wasAsked 9 = .ok (.iadd, 1) := by decide +kernel
theorem dX1_wasAsked_10 : decode cX1_wasAsked 10 = .ok (.invokevirtual 26, 3) := by decide +kernel
theorem dX1_wasAsked_13 : decode cX1_wasAsked 13 = .ok (.iconst (-1), 1) := by decide +kernel
theorem dX1_wasAsked_14 : decode cX1_wasAsked 14 = .ok (.if_icmp .eq 7, 3) := by decide +kernel
theorem dX1_wasAsked_17 : decode cX1_wasAsked 17 = .ok (.iconst 1, 1) := by decide +kernel
theorem dX1_wasAsked_18 : decode cX1_wasAsked 18 = .ok (.goto 4, 3) := by decide +kernel
theorem dX1_wasAsked_21 : decode cX1_wasAsked 21 = .ok (.iconst 0, 1) := by decide +kernel
theorem dX1_wasAsked_22 : decode cX1_wasAsked 22 = .ok (.ireturn, 1) := by decide +kernel
theorem dX1_protest_0 : decode cX1_protest 0 = .ok (.iload_n 3, 1) := by decide +kernel
theorem dX1_protest_1 : decode cX1_protest 1 = .ok (.aload_n 0, 1) := by decide +kernel
theorem dX1_protest_2 : decode cX1_protest 2 = .ok (.getfield 20, 3) := by decide +kernel
theorem dX1_protest_5 : decode cX1_protest 5 = .ok (.iload_n 1, 1) := by decide +kernel
theorem dX1_protest_6 : decode cX1_protest 6 = .ok (.bipush 8, 2) := by decide +kernel
theorem dX1_protest_8 : decode cX1_protest 8 = .ok (.imul, 1) := by decide +kernel
theorem dX1_protest_9 : decode cX1_protest 9 = .ok (.iload_n 2, 1) := by decide +kernel
theorem dX1_protest_10 : decode cX1_protest 10 = .ok (.iadd, 1) := by decide +kernel
theorem dX1_protest_11 : decode cX1_protest 11 = .ok (.invokevirtual 26, 3) := by decide +kernel
theorem dX1_protest_14 : decode cX1_protest 14 = .ok (.iconst 3, 1) := by decide +kernel
theorem dX1_protest_15 : decode cX1_protest 15 = .ok (.iadd, 1) := by decide +kernel
theorem dX1_protest_16 : decode cX1_protest 16 = .ok (.if_icmp .ge 7, 3) := by decide +kernel
theorem dX1_protest_19 : decode cX1_protest 19 = .ok (.iconst 1, 1) := by decide +kernel
theorem dX1_protest_20 : decode cX1_protest 20 = .ok (.goto 4, 3) := by decide +kernel
theorem dX1_protest_23 : decode cX1_protest 23 = .ok (.iconst 0, 1) := by decide +kernel
theorem dX1_protest_24 : decode cX1_protest 24 = .ok (.istore 4, 2) := by decide +kernel
theorem dX1_protest_26 : decode cX1_protest 26 = .ok (.iload 4, 2) := by decide +kernel
theorem dX1_protest_28 : decode cX1_protest 28 = .ok (.ifCond .eq 17, 3) := by decide +kernel
theorem dX1_protest_31 : decode cX1_protest 31 = .ok (.aload_n 0, 1) := by decide +kernel
theorem dX1_protest_32 : decode cX1_protest 32 = .ok (.getfield 23, 3) := by decide +kernel
theorem dX1_protest_35 : decode cX1_protest 35 = .ok (.iload_n 1, 1) := by decide +kernel
theorem dX1_protest_36 : decode cX1_protest 36 = .ok (.bipush 8, 2) := by decide +kernel
theorem dX1_protest_38 : decode cX1_protest 38 = .ok (.imul, 1) := by decide +kernel
theorem dX1_protest_39 : decode cX1_protest 39 = .ok (.iload_n 2, 1) := by decide +kernel
theorem dX1_protest_40 : decode cX1_protest 40 = .ok (.iadd, 1) := by decide +kernel
theorem dX1_protest_41 : decode cX1_protest 41 = .ok (.iconst 1, 1) := by decide +kernel
theorem dX1_protest_42 : decode cX1_protest 42 = .ok (.invokevirtual 30, 3) := by decide +kernel
theorem dX1_protest_45 : decode cX1_protest 45 = .ok (.iload 4, 2) := by decide +kernel
theorem dX1_protest_47 : decode cX1_protest 47 = .ok (.ireturn, 1) := by decide +kernel
theorem dX1_yesCounts_0 : decode cX1_yesCounts 0 = .ok (.aload_n 0, 1) := by decide +kernel
theorem dX1_yesCounts_1 : decode cX1_yesCounts 1 = .ok (.iload_n 1, 1) := by decide +kernel
theorem dX1_yesCounts_2 : decode cX1_yesCounts 2 = .ok (.iload_n 2, 1) := by decide +kernel
theorem dX1_yesCounts_3 : decode cX1_yesCounts 3 = .ok (.invokevirtual 33, 3) := by decide +kernel
theorem dX1_yesCounts_6 : decode cX1_yesCounts 6 = .ok (.ifCond .eq 42, 3) := by decide +kernel
theorem dX1_yesCounts_9 : decode cX1_yesCounts 9 = .ok (.aload_n 0, 1) := by decide +kernel
theorem dX1_yesCounts_10 : decode cX1_yesCounts 10 = .ok (.getfield 23, 3) := by decide +kernel
theorem dX1_yesCounts_13 : decode cX1_yesCounts 13 = .ok (.iload_n 1, 1) := by decide +kernel
theorem dX1_yesCounts_14 : decode cX1_yesCounts 14 = .ok (.bipush 8, 2) := by decide +kernel
theorem dX1_yesCounts_16 : decode cX1_yesCounts 16 = .ok (.imul, 1) := by decide +kernel
theorem dX1_yesCounts_17 : decode cX1_yesCounts 17 = .ok (.iload_n 2, 1) := by decide +kernel
theorem dX1_yesCounts_18 : decode cX1_yesCounts 18 = .ok (.iadd, 1) := by decide +kernel
theorem dX1_yesCounts_19 : decode cX1_yesCounts 19 = .ok (.invokevirtual 26, 3) := by decide +kernel
theorem dX1_yesCounts_22 : decode cX1_yesCounts 22 = .ok (.ifCond .ne 26, 3) := by decide +kernel
theorem dX1_yesCounts_25 : decode cX1_yesCounts 25 = .ok (.iload_n 3, 1) := by decide +kernel
theorem dX1_yesCounts_26 : decode cX1_yesCounts 26 = .ok (.aload_n 0, 1) := by decide +kernel
theorem dX1_yesCounts_27 : decode cX1_yesCounts 27 = .ok (.getfield 20, 3) := by decide +kernel
theorem dX1_yesCounts_30 : decode cX1_yesCounts 30 = .ok (.iload_n 1, 1) := by decide +kernel
theorem dX1_yesCounts_31 : decode cX1_yesCounts 31 = .ok (.bipush 8, 2) := by decide +kernel
theorem dX1_yesCounts_33 : decode cX1_yesCounts 33 = .ok (.imul, 1) := by decide +kernel
theorem dX1_yesCounts_34 : decode cX1_yesCounts 34 = .ok (.iload_n 2, 1) := by decide +kernel
theorem dX1_yesCounts_35 : decode cX1_yesCounts 35 = .ok (.iadd, 1) := by decide +kernel
theorem dX1_yesCounts_36 : decode cX1_yesCounts 36 = .ok (.invokevirtual 26, 3) := by decide +kernel
theorem dX1_yesCounts_39 : decode cX1_yesCounts 39 = .ok (.iconst 3, 1) := by decide +kernel
theorem dX1_yesCounts_40 : decode cX1_yesCounts 40 = .ok (.iadd, 1) := by decide +kernel
theorem dX1_yesCounts_41 : decode cX1_yesCounts 41 = .ok (.if_icmp .lt 7, 3) := by decide +kernel
theorem dX1_yesCounts_44 : decode cX1_yesCounts 44 = .ok (.iconst 1, 1) := by decide +kernel
theorem dX1_yesCounts_45 : decode cX1_yesCounts 45 = .ok (.goto 4, 3) := by decide +kernel
theorem dX1_yesCounts_48 : decode cX1_yesCounts 48 = .ok (.iconst 0, 1) := by decide +kernel
theorem dX1_yesCounts_49 : decode cX1_yesCounts 49 = .ok (.ireturn, 1) := by decide +kernel
theorem dX2_init_0 : decode cX2_init 0 = .ok (.aload_n 0, 1) := by decide +kernel
theorem dX2_init_1 : decode cX2_init 1 = .ok (.invokespecial 3, 3) := by decide +kernel
theorem dX2_init_4 : decode cX2_init 4 = .ok (.aload_n 0, 1) := by decide +kernel
theorem dX2_init_5 : decode cX2_init 5 = .ok (.new 9, 3) := by decide +kernel
theorem dX2_init_8 : decode cX2_init 8 = .ok (.dup, 1) := by decide +kernel
theorem dX2_init_9 : decode cX2_init 9 = .ok (.iconst 4, 1) := by decide +kernel
theorem dX2_init_10 : decode cX2_init 10 = .ok (.iconst 0, 1) := by decide +kernel
theorem dX2_init_11 : decode cX2_init 11 = .ok (.invokespecial 11, 3) := by decide +kernel
theorem dX2_init_14 : decode cX2_init 14 = .ok (.putfield 14, 3) := by decide +kernel
theorem dX2_init_17 : decode cX2_init 17 = .ok (.aload_n 0, 1) := by decide +kernel
theorem dX2_init_18 : decode cX2_init 18 = .ok (.new 9, 3) := by decide +kernel
theorem dX2_init_21 : decode cX2_init 21 = .ok (.dup, 1) := by decide +kernel
theorem dX2_init_22 : decode cX2_init 22 = .ok (.iconst 4, 1) := by decide +kernel
theorem dX2_init_23 : decode cX2_init 23 = .ok (.iconst 0, 1) := by decide +kernel
theorem dX2_init_24 : decode cX2_init 24 = .ok (.invokespecial 11, 3) := by decide +kernel
theorem dX2_init_27 : decode cX2_init 27 = .ok (.putfield 20, 3) := by decide +kernel
theorem dX2_init_30 : decode cX2_init 30 = .ok (.aload_n 0, 1) := by decide +kernel
theorem dX2_init_31 : decode cX2_init 31 = .ok (.new 9, 3) := by decide +kernel
theorem dX2_init_34 : decode cX2_init 34 = .ok (.dup, 1) := by decide +kernel
theorem dX2_init_35 : decode cX2_init 35 = .ok (.bipush 12, 2) := by decide +kernel
theorem dX2_init_37 : decode cX2_init 37 = .ok (.iconst 0, 1) := by decide +kernel
theorem dX2_init_38 : decode cX2_init 38 = .ok (.invokespecial 11, 3) := by decide +kernel
theorem dX2_init_41 : decode cX2_init 41 = .ok (.putfield 23, 3) := by decide +kernel
theorem dX2_init_44 : decode cX2_init 44 = .ok (.aload_n 0, 1) := by decide +kernel
theorem dX2_init_45 : decode cX2_init 45 = .ok (.new 9, 3) := by decide +kernel
theorem dX2_init_48 : decode cX2_init 48 = .ok (.dup, 1) := by decide +kernel
theorem dX2_init_49 : decode cX2_init 49 = .ok (.iconst 4, 1) := by decide +kernel
theorem dX2_init_50 : decode cX2_init 50 = .ok (.iconst 0, 1) := by decide +kernel
theorem dX2_init_51 : decode cX2_init 51 = .ok (.invokespecial 11, 3) := by decide +kernel
theorem dX2_init_54 : decode cX2_init 54 = .ok (.putfield 26, 3) := by decide +kernel
theorem dX2_init_57 : decode cX2_init 57 = .ok (.return_, 1) := by decide +kernel
theorem dX2_admit_0 : decode cX2_admit 0 = .ok (.aload_n 0, 1) := by decide +kernel
theorem dX2_admit_1 : decode cX2_admit 1 = .ok (.getfield 23, 3) := by decide +kernel
theorem dX2_admit_4 : decode cX2_admit 4 = .ok (.aload_n 0, 1) := by decide +kernel
theorem dX2_admit_5 : decode cX2_admit 5 = .ok (.getfield 29, 3) := by decide +kernel
theorem dX2_admit_8 : decode cX2_admit 8 = .ok (.iconst 3, 1) := by decide +kernel
theorem dX2_admit_9 : decode cX2_admit 9 = .ok (.imul, 1) := by decide +kernel
theorem dX2_admit_10 : decode cX2_admit 10 = .ok (.iload_n 1, 1) := by decide +kernel
theorem dX2_admit_11 : decode cX2_admit 11 = .ok (.invokevirtual 33, 3) := by decide +kernel
theorem dX2_admit_14 : decode cX2_admit 14 = .ok (.aload_n 0, 1) := by decide +kernel
theorem dX2_admit_15 : decode cX2_admit 15 = .ok (.getfield 23, 3) := by decide +kernel
theorem dX2_admit_18 : decode cX2_admit 18 = .ok (.aload_n 0, 1) := by decide +kernel
theorem dX2_admit_19 : decode cX2_admit 19 = .ok (.getfield 29, 3) := by decide +kernel
theorem dX2_admit_22 : decode cX2_admit 22 = .ok (.iconst 3, 1) := by decide +kernel
theorem dX2_admit_23 : decode cX2_admit 23 = .ok (.imul, 1) := by decide +kernel
theorem dX2_admit_24 : decode cX2_admit 24 = .ok (.iconst 1, 1) := by decide +kernel
theorem dX2_admit_25 : decode cX2_admit 25 = .ok (.iadd, 1) := by decide +kernel
theorem dX2_admit_26 : decode cX2_admit 26 = .ok (.iload_n 2, 1) := by decide +kernel
theorem dX2_admit_27 : decode cX2_admit 27 = .ok (.invokevirtual 33, 3) := by decide +kernel
theorem dX2_admit_30 : decode cX2_admit 30 = .ok (.aload_n 0, 1) := by decide +kernel
theorem dX2_admit_31 : decode cX2_admit 31 = .ok (.getfield 23, 3) := by decide +kernel
theorem dX2_admit_34 : decode cX2_admit 34 = .ok (.aload_n 0, 1) := by decide +kernel
theorem dX2_admit_35 : decode cX2_admit 35 = .ok (.getfield 29, 3) := by decide +kernel
theorem dX2_admit_38 : decode cX2_admit 38 = .ok (.iconst 3, 1) := by decide +kernel
theorem dX2_admit_39 : decode cX2_admit 39 = .ok (.imul, 1) := by decide +kernel
theorem dX2_admit_40 : decode cX2_admit 40 = .ok (.iconst 2, 1) := by decide +kernel
theorem dX2_admit_41 : decode cX2_admit 41 = .ok (.iadd, 1) := by decide +kernel
theorem dX2_admit_42 : decode cX2_admit 42 = .ok (.iload_n 3, 1) := by decide +kernel
theorem dX2_admit_43 : decode cX2_admit 43 = .ok (.invokevirtual 33, 3) := by decide +kernel
theorem dX2_admit_46 : decode cX2_admit 46 = .ok (.aload_n 0, 1) := by decide +kernel
theorem dX2_admit_47 : decode cX2_admit 47 = .ok (.dup, 1) := by decide +kernel
theorem dX2_admit_48 : decode cX2_admit 48 = .ok (.getfield 29, 3) := by decide +kernel
theorem dX2_admit_51 : decode cX2_admit 51 = .ok (.iconst 1, 1) := by decide +kernel
theorem dX2_admit_52 : decode cX2_admit 52 = .ok (.iadd, 1) := by decide +kernel
theorem dX2_admit_53 : decode cX2_admit 53 = .ok (.putfield 29, 3) := by decide +kernel
theorem dX2_admit_56 : decode cX2_admit 56 = .ok (.aload_n 0, 1) := by decide +kernel
theorem dX2_admit_57 : decode cX2_admit 57 = .ok (.getfield 29, 3) := by decide +kernel
theorem dX2_admit_60 : decode cX2_admit 60 = .ok (.iconst 1, 1) := by decide +kernel
theorem dX2_admit_61 : decode cX2_admit 61 = .ok (.isub, 1) := by decide +kernel
theorem dX2_admit_62 : decode cX2_admit 62 = .ok (.ireturn, 1) := by decide +kernel
theorem dX2_run_0 : decode cX2_run 0 = .ok (.aload_n 0, 1) := by decide +kernel
theorem dX2_run_1 : decode cX2_run 1 = .ok (.iload_n 1, 1) := by decide +kernel
theorem dX2_run_2 : decode cX2_run 2 = .ok (.iconst (-1), 1) := by decide +kernel
theorem dX2_run_3 : decode cX2_run 3 = .ok (.aload_n 0, 1) := by decide +kernel
theorem dX2_run_4 : decode cX2_run 4 = .ok (.getfield 14, 3) := by decide +kernel
theorem dX2_run_7 : decode cX2_run 7 = .ok (.invokevirtual 36, 3) := by decide +kernel
theorem dX2_run_10 : decode cX2_run 10 = .ok (.istore_n 2, 1) := by decide +kernel
theorem dX2_run_11 : decode cX2_run 11 = .ok (.iconst 0, 1) := by decide +kernel
theorem dX2_run_12 : decode cX2_run 12 = .ok (.istore_n 3, 1) := by decide +kernel
theorem dX2_run_13 : decode cX2_run 13 = .ok (.iload_n 3, 1) := by decide +kernel
theorem dX2_run_14 : decode cX2_run 14 = .ok (.aload_n 0, 1) := by decide +kernel
theorem dX2_run_15 : decode cX2_run 15 = .ok (.getfield 29, 3) := by decide +kernel
theorem dX2_run_18 : decode cX2_run 18 = .ok (.if_icmp .ge 47, 3) := by decide +kernel
theorem dX2_run_21 : decode cX2_run 21 = .ok (.aload_n 0, 1) := by decide +kernel
theorem dX2_run_22 : decode cX2_run 22 = .ok (.iload_n 1, 1) := by decide +kernel
theorem dX2_run_23 : decode cX2_run 23 = .ok (.iload_n 3, 1) := by decide +kernel
theorem dX2_run_24 : decode cX2_run 24 = .ok (.aload_n 0, 1) := by decide +kernel
theorem dX2_run_25 : decode cX2_run 25 = .ok (.getfield 26, 3) := by decide +kernel
theorem dX2_run_28 : decode cX2_run 28 = .ok (.invokevirtual 36, 3) := by decide +kernel
theorem dX2_run_31 : decode cX2_run 31 = .ok (.pop, 1) := by decide +kernel
theorem dX2_run_32 : decode cX2_run 32 = .ok (.aload_n 0, 1) := by decide +kernel
theorem dX2_run_33 : decode cX2_run 33 = .ok (.getfield 20, 3) := by decide +kernel
theorem dX2_run_36 : decode cX2_run 36 = .ok (.iload_n 3, 1) := by decide +kernel
theorem dX2_run_37 : decode cX2_run 37 = .ok (.aload_n 0, 1) := by decide +kernel
theorem dX2_run_38 : decode cX2_run 38 = .ok (.iload_n 3, 1) := by decide +kernel
theorem dX2_run_39 : decode cX2_run 39 = .ok (.aload_n 0, 1) := by decide +kernel
theorem dX2_run_40 : decode cX2_run 40 = .ok (.getfield 26, 3) := by decide +kernel
theorem dX2_run_43 : decode cX2_run 43 = .ok (.invokevirtual 40, 3) := by decide +kernel
theorem dX2_run_46 : decode cX2_run 46 = .ok (.aload_n 0, 1) := by decide +kernel
theorem dX2_run_47 : decode cX2_run 47 = .ok (.iload_n 3, 1) := by decide +kernel
theorem dX2_run_48 : decode cX2_run 48 = .ok (.aload_n 0, 1) := by decide +kernel
theorem dX2_run_49 : decode cX2_run 49 = .ok (.getfield 14, 3) := by decide +kernel
theorem dX2_run_52 : decode cX2_run 52 = .ok (.invokevirtual 40, 3) := by decide +kernel
theorem dX2_run_55 : decode cX2_run 55 = .ok (.isub, 1) := by decide +kernel
theorem dX2_run_56 : decode cX2_run 56 = .ok (.invokevirtual 33, 3) := by decide +kernel
theorem dX2_run_59 : decode cX2_run 59 = .ok (.iinc 3 1, 3) := by decide +kernel
theorem dX2_run_62 : decode cX2_run 62 = .ok (.goto (-49), 3) := by decide +kernel
theorem dX2_run_65 : decode cX2_run 65 = .ok (.iload_n 2, 1) := by decide +kernel
theorem dX2_run_66 : decode cX2_run 66 = .ok (.ireturn, 1) := by decide +kernel
theorem dX2_isFair_0 : decode cX2_isFair 0 = .ok (.iconst 0, 1) := by decide +kernel
theorem dX2_isFair_1 : decode cX2_isFair 1 = .ok (.istore_n 1, 1) := by decide +kernel
theorem dX2_isFair_2 : decode cX2_isFair 2 = .ok (.iload_n 1, 1) := by decide +kernel
theorem dX2_isFair_3 : decode cX2_isFair 3 = .ok (.aload_n 0, 1) := by decide +kernel
theorem dX2_isFair_4 : decode cX2_isFair 4 = .ok (.getfield 29, 3) := by decide +kernel
theorem dX2_isFair_7 : decode cX2_isFair 7 = .ok (.if_icmp .ge 31, 3) := by decide +kernel
theorem dX2_isFair_10 : decode cX2_isFair 10 = .ok (.aload_n 0, 1) := by decide +kernel
theorem dX2_isFair_11 : decode cX2_isFair 11 = .ok (.getfield 20, 3) := by decide +kernel
theorem dX2_isFair_14 : decode cX2_isFair 14 = .ok (.iload_n 1, 1) := by decide +kernel
theorem dX2_isFair_15 : decode cX2_isFair 15 = .ok (.invokevirtual 44, 3) := by decide +kernel
theorem dX2_isFair_18 : decode cX2_isFair 18 = .ok (.aload_n 0, 1) := by decide +kernel
theorem dX2_isFair_19 : decode cX2_isFair 19 = .ok (.iload_n 1, 1) := by decide +kernel
theorem dX2_isFair_20 : decode cX2_isFair 20 = .ok (.aload_n 0, 1) := by decide +kernel
theorem dX2_isFair_21 : decode cX2_isFair 21 = .ok (.getfield 14, 3) := by decide +kernel
theorem dX2_isFair_24 : decode cX2_isFair 24 = .ok (.invokevirtual 48, 3) := by decide +kernel
theorem dX2_isFair_27 : decode cX2_isFair 27 = .ok (.if_icmp .le 5, 3) := by decide +kernel
theorem dX2_isFair_30 : decode cX2_isFair 30 = .ok (.iconst 0, 1) := by decide +kernel
theorem dX2_isFair_31 : decode cX2_isFair 31 = .ok (.ireturn, 1) := by decide +kernel
theorem dX2_isFair_32 : decode cX2_isFair 32 = .ok (.iinc 1 1, 3) := by decide +kernel
theorem dX2_isFair_35 : decode cX2_isFair 35 = .ok (.goto (-33), 3) := by decide +kernel
theorem dX2_isFair_38 : decode cX2_isFair 38 = .ok (.iconst 1, 1) := by decide +kernel
theorem dX2_isFair_39 : decode cX2_isFair 39 = .ok (.ireturn, 1) := by decide +kernel
theorem dX2_deal_0 : decode cX2_deal 0 = .ok (.aload_n 3, 1) := by decide +kernel
theorem dX2_deal_1 : decode cX2_deal 1 = .ok (.iconst 0, 1) := by decide +kernel
theorem dX2_deal_2 : decode cX2_deal 2 = .ok (.invokevirtual 51, 3) := by decide +kernel
theorem dX2_deal_5 : decode cX2_deal 5 = .ok (.iconst 0, 1) := by decide +kernel
theorem dX2_deal_6 : decode cX2_deal 6 = .ok (.istore 4, 2) := by decide +kernel
theorem dX2_deal_8 : decode cX2_deal 8 = .ok (.iload 4, 2) := by decide +kernel
theorem dX2_deal_10 : decode cX2_deal 10 = .ok (.iload_n 1, 1) := by decide +kernel
theorem dX2_deal_11 : decode cX2_deal 11 = .ok (.if_icmp .ge 40, 3) := by decide +kernel
theorem dX2_deal_14 : decode cX2_deal 14 = .ok (.aload_n 0, 1) := by decide +kernel
theorem dX2_deal_15 : decode cX2_deal 15 = .ok (.iload_n 2, 1) := by decide +kernel
theorem dX2_deal_16 : decode cX2_deal 16 = .ok (.aload_n 3, 1) := by decide +kernel
theorem dX2_deal_17 : decode cX2_deal 17 = .ok (.invokevirtual 55, 3) := by decide +kernel
theorem dX2_deal_20 : decode cX2_deal 20 = .ok (.istore 5, 2) := by decide +kernel
theorem dX2_deal_22 : decode cX2_deal 22 = .ok (.iload 5, 2) := by decide +kernel
theorem dX2_deal_24 : decode cX2_deal 24 = .ok (.iconst (-1), 1) := by decide +kernel
theorem dX2_deal_25 : decode cX2_deal 25 = .ok (.if_icmp .ne 6, 3) := by decide +kernel
theorem dX2_deal_28 : decode cX2_deal 28 = .ok (.iload 4, 2) := by decide +kernel
theorem dX2_deal_30 : decode cX2_deal 30 = .ok (.ireturn, 1) := by decide +kernel
theorem dX2_deal_31 : decode cX2_deal 31 = .ok (.aload_n 3, 1) := by decide +kernel
theorem dX2_deal_32 : decode cX2_deal 32 = .ok (.iload 5, 2) := by decide +kernel
theorem dX2_deal_34 : decode cX2_deal 34 = .ok (.aload_n 3, 1) := by decide +kernel
theorem dX2_deal_35 : decode cX2_deal 35 = .ok (.iload 5, 2) := by decide +kernel
theorem dX2_deal_37 : decode cX2_deal 37 = .ok (.invokevirtual 44, 3) := by decide +kernel
theorem dX2_deal_40 : decode cX2_deal 40 = .ok (.iconst 1, 1) := by decide +kernel
theorem dX2_deal_41 : decode cX2_deal 41 = .ok (.iadd, 1) := by decide +kernel
theorem dX2_deal_42 : decode cX2_deal 42 = .ok (.invokevirtual 33, 3) := by decide +kernel
theorem dX2_deal_45 : decode cX2_deal 45 = .ok (.iinc 4 1, 3) := by decide +kernel
theorem dX2_deal_48 : decode cX2_deal 48 = .ok (.goto (-40), 3) := by decide +kernel
theorem dX2_deal_51 : decode cX2_deal 51 = .ok (.iload_n 1, 1) := by decide +kernel
theorem dX2_deal_52 : decode cX2_deal 52 = .ok (.ireturn, 1) := by decide +kernel
theorem dX2_highestBidder_0 : decode cX2_highestBidder 0 = .ok (.iconst (-1), 1) := by decide +kernel
theorem dX2_highestBidder_1 : decode cX2_highestBidder 1 = .ok (.istore_n 3, 1) := by decide +kernel
theorem dX2_highestBidder_2 : decode cX2_highestBidder 2 = .ok (.iconst 0, 1) := by decide +kernel
theorem dX2_highestBidder_3 : decode cX2_highestBidder 3 = .ok (.istore 4, 2) := by decide +kernel
theorem dX2_highestBidder_5 : decode cX2_highestBidder 5 = .ok (.iconst 0, 1) := by decide +kernel
theorem dX2_highestBidder_6 : decode cX2_highestBidder 6 = .ok (.istore 5, 2) := by decide +kernel
theorem dX2_highestBidder_8 : decode cX2_highestBidder 8 = .ok (.iload 5, 2) := by decide +kernel
theorem dX2_highestBidder_10 : decode cX2_highestBidder 10 = .ok (.aload_n 0, 1) := by decide +kernel
theorem dX2_highestBidder_11 : decode cX2_highestBidder 11 = .ok (.getfield 29, 3) := by decide +kernel
theorem dX2_highestBidder_14 : decode cX2_highestBidder 14 = .ok (.if_icmp .ge 63, 3) := by decide +kernel
theorem dX2_highestBidder_17 : decode cX2_highestBidder 17 = .ok (.aload_n 2, 1) := by decide +kernel
theorem dX2_highestBidder_18 : decode cX2_highestBidder 18 = .ok (.iload 5, 2) := by decide +kernel
theorem dX2_highestBidder_20 : decode cX2_highestBidder 20 = .ok (.invokevirtual 44, 3) := by decide +kernel
theorem dX2_highestBidder_23 : decode cX2_highestBidder 23 = .ok (.iconst 3, 1) := by decide +kernel
theorem dX2_highestBidder_24 : decode cX2_highestBidder 24 = .ok (.if_icmp .ge 24, 3) := by decide +kernel
theorem dX2_highestBidder_27 : decode cX2_highestBidder 27 = .ok (.aload_n 0, 1) := by decide +kernel
theorem dX2_highestBidder_28 : decode cX2_highestBidder 28 = .ok (.getfield 23, 3) := by decide +kernel
theorem dX2_highestBidder_31 : decode cX2_highestBidder 31 = .ok (.iload 5, 2) := by decide +kernel
theorem dX2_highestBidder_33 : decode cX2_highestBidder 33 = .ok (.iconst 3, 1) := by decide +kernel
theorem dX2_highestBidder_34 : decode cX2_highestBidder 34 = .ok (.imul, 1) := by decide +kernel
theorem dX2_highestBidder_35 : decode cX2_highestBidder 35 = .ok (.aload_n 2, 1) := by decide +kernel
theorem dX2_highestBidder_36 : decode cX2_highestBidder 36 = .ok (.iload 5, 2) := by decide +kernel
theorem dX2_highestBidder_38 : decode cX2_highestBidder 38 = .ok (.invokevirtual 44, 3) := by decide +kernel
theorem dX2_highestBidder_41 : decode cX2_highestBidder 41 = .ok (.iadd, 1) := by decide +kernel
theorem dX2_highestBidder_42 : decode cX2_highestBidder 42 = .ok (.invokevirtual 44, 3) := by decide +kernel
theorem dX2_highestBidder_45 : decode cX2_highestBidder 45 = .ok (.goto 4, 3) := by decide +kernel
theorem dX2_highestBidder_48 : decode cX2_highestBidder 48 = .ok (.iconst 0, 1) := by decide +kernel
theorem dX2_highestBidder_49 : decode cX2_highestBidder 49 = .ok (.istore 6, 2) := by decide +kernel
theorem dX2_highestBidder_51 : decode cX2_highestBidder 51 = .ok (.iload 5, 2) := by decide +kernel
theorem dX2_highestBidder_53 : decode cX2_highestBidder 53 = .ok (.iload_n 1, 1) := by decide +kernel
theorem dX2_highestBidder_54 : decode cX2_highestBidder 54 = .ok (.if_icmp .eq 17, 3) := by decide +kernel
theorem dX2_highestBidder_57 : decode cX2_highestBidder 57 = .ok (.iload 6, 2) := by decide +kernel
theorem dX2_highestBidder_59 : decode cX2_highestBidder 59 = .ok (.iload 4, 2) := by decide +kernel
theorem dX2_highestBidder_61 : decode cX2_highestBidder 61 = .ok (.if_icmp .le 10, 3) := by decide +kernel
theorem dX2_highestBidder_64 : decode cX2_highestBidder 64 = .ok (.iload 5, 2) := by decide +kernel
theorem dX2_highestBidder_66 : decode cX2_highestBidder 66 = .ok (.istore_n 3, 1) := by decide +kernel
theorem dX2_highestBidder_67 : decode cX2_highestBidder 67 = .ok (.iload 6, 2) := by decide +kernel
theorem dX2_highestBidder_69 : decode cX2_highestBidder 69 = .ok (.istore 4, 2) := by decide +kernel
theorem dX2_highestBidder_71 : decode cX2_highestBidder 71 = .ok (.iinc 5 1, 3) := by decide +kernel
theorem dX2_highestBidder_74 : decode cX2_highestBidder 74 = .ok (.goto (-66), 3) := by decide +kernel
theorem dX2_highestBidder_77 : decode cX2_highestBidder 77 = .ok (.iload_n 3, 1) := by decide +kernel
theorem dX2_highestBidder_78 : decode cX2_highestBidder 78 = .ok (.ireturn, 1) := by decide +kernel
theorem dX2_worthOf_0 : decode cX2_worthOf 0 = .ok (.iconst 0, 1) := by decide +kernel
theorem dX2_worthOf_1 : decode cX2_worthOf 1 = .ok (.istore_n 3, 1) := by decide +kernel
theorem dX2_worthOf_2 : decode cX2_worthOf 2 = .ok (.iconst 0, 1) := by decide +kernel
theorem dX2_worthOf_3 : decode cX2_worthOf 3 = .ok (.istore 4, 2) := by decide +kernel
theorem dX2_worthOf_5 : decode cX2_worthOf 5 = .ok (.iload 4, 2) := by decide +kernel
theorem dX2_worthOf_7 : decode cX2_worthOf 7 = .ok (.iconst 3, 1) := by decide +kernel
theorem dX2_worthOf_8 : decode cX2_worthOf 8 = .ok (.if_icmp .ge 35, 3) := by decide +kernel
theorem dX2_worthOf_11 : decode cX2_worthOf 11 = .ok (.iload 4, 2) := by decide +kernel
theorem dX2_worthOf_13 : decode cX2_worthOf 13 = .ok (.aload_n 2, 1) := by decide +kernel
theorem dX2_worthOf_14 : decode cX2_worthOf 14 = .ok (.iload_n 1, 1) := by decide +kernel
theorem dX2_worthOf_15 : decode cX2_worthOf 15 = .ok (.invokevirtual 44, 3) := by decide +kernel
theorem dX2_worthOf_18 : decode cX2_worthOf 18 = .ok (.if_icmp .ge 25, 3) := by decide +kernel
theorem dX2_worthOf_21 : decode cX2_worthOf 21 = .ok (.iload_n 3, 1) := by decide +kernel
theorem dX2_worthOf_22 : decode cX2_worthOf 22 = .ok (.aload_n 0, 1) := by decide +kernel
theorem dX2_worthOf_23 : decode cX2_worthOf 23 = .ok (.getfield 23, 3) := by decide +kernel
theorem dX2_worthOf_26 : decode cX2_worthOf 26 = .ok (.iload_n 1, 1) := by decide +kernel
theorem dX2_worthOf_27 : decode cX2_worthOf 27 = .ok (.iconst 3, 1) := by decide +kernel
theorem dX2_worthOf_28 : decode cX2_worthOf 28 = .ok (.imul, 1) := by decide +kernel
theorem dX2_worthOf_29 : decode cX2_worthOf 29 = .ok (.iload 4, 2) := by decide +kernel
theorem dX2_worthOf_31 : decode cX2_worthOf 31 = .ok (.iadd, 1) := by decide +kernel
theorem dX2_worthOf_32 : decode cX2_worthOf 32 = .ok (.invokevirtual 44, 3) := by decide +kernel
theorem dX2_worthOf_35 : decode cX2_worthOf 35 = .ok (.iadd, 1) := by decide +kernel
theorem dX2_worthOf_36 : decode cX2_worthOf 36 = .ok (.istore_n 3, 1) := by decide +kernel
theorem dX2_worthOf_37 : decode cX2_worthOf 37 = .ok (.iinc 4 1, 3) := by decide +kernel
theorem dX2_worthOf_40 : decode cX2_worthOf 40 = .ok (.goto (-35), 3) := by decide +kernel
theorem dX2_worthOf_43 : decode cX2_worthOf 43 = .ok (.iload_n 3, 1) := by decide +kernel
theorem dX2_worthOf_44 : decode cX2_worthOf 44 = .ok (.ireturn, 1) := by decide +kernel
theorem dX2_worthOfOthers_0 : decode cX2_worthOfOthers 0 = .ok (.iconst 0, 1) := by decide +kernel
theorem dX2_worthOfOthers_1 : decode cX2_worthOfOthers 1 = .ok (.istore_n 3, 1) := by decide +kernel
theorem dX2_worthOfOthers_2 : decode cX2_worthOfOthers 2 = .ok (.iconst 0, 1) := by decide +kernel
theorem dX2_worthOfOthers_3 : decode cX2_worthOfOthers 3 = .ok (.istore 4, 2) := by decide +kernel
theorem dX2_worthOfOthers_5 : decode cX2_worthOfOthers 5 = .ok (.iload 4, 2) := by decide +kernel
theorem dX2_worthOfOthers_7 : decode cX2_worthOfOthers 7 = .ok (.aload_n 0, 1) := by decide +kernel
theorem dX2_worthOfOthers_8 : decode cX2_worthOfOthers 8 = .ok (.getfield 29, 3) := by decide +kernel
theorem dX2_worthOfOthers_11 : decode cX2_worthOfOthers 11 = .ok (.if_icmp .ge 25, 3) := by decide +kernel
theorem dX2_worthOfOthers_14 : decode cX2_worthOfOthers 14 = .ok (.iload 4, 2) := by decide +kernel
theorem dX2_worthOfOthers_16 : decode cX2_worthOfOthers 16 = .ok (.iload_n 1, 1) := by decide +kernel
theorem dX2_worthOfOthers_17 : decode cX2_worthOfOthers 17 = .ok (.if_icmp .eq 13, 3) := by decide +kernel
theorem dX2_worthOfOthers_20 : decode cX2_worthOfOthers 20 = .ok (.iload_n 3, 1) := by decide +kernel
theorem dX2_worthOfOthers_21 : decode cX2_worthOfOthers 21 = .ok (.aload_n 0, 1) := by decide +kernel
theorem dX2_worthOfOthers_22 : decode cX2_worthOfOthers 22 = .ok (.iload 4, 2) := by decide +kernel
theorem dX2_worthOfOthers_24 : decode cX2_worthOfOthers 24 = .ok (.aload_n 2, 1) := by decide +kernel
theorem dX2_worthOfOthers_25 : decode cX2_worthOfOthers 25 = .ok (.invokevirtual 48, 3) := by decide +kernel
theorem dX2_worthOfOthers_28 : decode cX2_worthOfOthers 28 = .ok (.iadd, 1) := by decide +kernel
theorem dX2_worthOfOthers_29 : decode cX2_worthOfOthers 29 = .ok (.istore_n 3, 1) := by decide +kernel
theorem dX2_worthOfOthers_30 : decode cX2_worthOfOthers 30 = .ok (.iinc 4 1, 3) := by decide +kernel
theorem dX2_worthOfOthers_33 : decode cX2_worthOfOthers 33 = .ok (.goto (-28), 3) := by decide +kernel
theorem dX2_worthOfOthers_36 : decode cX2_worthOfOthers 36 = .ok (.iload_n 3, 1) := by decide +kernel
theorem dX2_worthOfOthers_37 : decode cX2_worthOfOthers 37 = .ok (.ireturn, 1) := by decide +kernel
theorem dX3_init_0 : decode cX3_init 0 = .ok (.aload_n 0, 1) := by decide +kernel
theorem dX3_init_1 : decode cX3_init 1 = .ok (.invokespecial 3, 3) := by decide +kernel
theorem dX3_init_4 : decode cX3_init 4 = .ok (.aload_n 0, 1) := by decide +kernel
theorem dX3_init_5 : decode cX3_init 5 = .ok (.new 9, 3) := by decide +kernel
theorem dX3_init_8 : decode cX3_init 8 = .ok (.dup, 1) := by decide +kernel
theorem dX3_init_9 : decode cX3_init 9 = .ok (.invokespecial 11, 3) := by decide +kernel
theorem dX3_init_12 : decode cX3_init 12 = .ok (.putfield 12, 3) := by decide +kernel
theorem dX3_init_15 : decode cX3_init 15 = .ok (.aload_n 0, 1) := by decide +kernel
theorem dX3_init_16 : decode cX3_init 16 = .ok (.new 18, 3) := by decide +kernel
theorem dX3_init_19 : decode cX3_init 19 = .ok (.dup, 1) := by decide +kernel
theorem dX3_init_20 : decode cX3_init 20 = .ok (.sipush 400, 3) := by decide +kernel
theorem dX3_init_23 : decode cX3_init 23 = .ok (.iconst 0, 1) := by decide +kernel
theorem dX3_init_24 : decode cX3_init 24 = .ok (.invokespecial 20, 3) := by decide +kernel
theorem dX3_init_27 : decode cX3_init 27 = .ok (.putfield 23, 3) := by decide +kernel
theorem dX3_init_30 : decode cX3_init 30 = .ok (.aload_n 0, 1) := by decide +kernel
theorem dX3_init_31 : decode cX3_init 31 = .ok (.new 18, 3) := by decide +kernel
theorem dX3_init_34 : decode cX3_init 34 = .ok (.dup, 1) := by decide +kernel
theorem dX3_init_35 : decode cX3_init 35 = .ok (.bipush 100, 2) := by decide +kernel
theorem dX3_init_37 : decode cX3_init 37 = .ok (.iconst 0, 1) := by decide +kernel
theorem dX3_init_38 : decode cX3_init 38 = .ok (.invokespecial 20, 3) := by decide +kernel
theorem dX3_init_41 : decode cX3_init 41 = .ok (.putfield 27, 3) := by decide +kernel
theorem dX3_init_44 : decode cX3_init 44 = .ok (.return_, 1) := by decide +kernel
theorem dX3_changeGround_0 : decode cX3_changeGround 0 = .ok (.aload_n 0, 1) := by decide +kernel
theorem dX3_changeGround_1 : decode cX3_changeGround 1 = .ok (.iload_n 1, 1) := by decide +kernel
theorem dX3_changeGround_2 : decode cX3_changeGround 2 = .ok (.iload_n 2, 1) := by decide +kernel
theorem dX3_changeGround_3 : decode cX3_changeGround 3 = .ok (.invokevirtual 30, 3) := by decide +kernel
theorem dX3_changeGround_6 : decode cX3_changeGround 6 = .ok (.istore 4, 2) := by decide +kernel
theorem dX3_changeGround_8 : decode cX3_changeGround 8 = .ok (.aload_n 0, 1) := by decide +kernel
theorem dX3_changeGround_9 : decode cX3_changeGround 9 = .ok (.getfield 23, 3) := by decide +kernel
theorem dX3_changeGround_12 : decode cX3_changeGround 12 = .ok (.iload_n 1, 1) := by decide +kernel
theorem dX3_changeGround_13 : decode cX3_changeGround 13 = .ok (.bipush 20, 2) := by decide +kernel
theorem dX3_changeGround_15 : decode cX3_changeGround 15 = .ok (.imul, 1) := by decide +kernel
theorem dX3_changeGround_16 : decode cX3_changeGround 16 = .ok (.iload_n 2, 1) := by decide +kernel
theorem dX3_changeGround_17 : decode cX3_changeGround 17 = .ok (.iadd, 1) := by decide +kernel
theorem dX3_changeGround_18 : decode cX3_changeGround 18 = .ok (.iload_n 3, 1) := by decide +kernel
theorem dX3_changeGround_19 : decode cX3_changeGround 19 = .ok (.invokevirtual 34, 3) := by decide +kernel
theorem dX3_changeGround_22 : decode cX3_changeGround 22 = .ok (.aload_n 0, 1) := by decide +kernel
theorem dX3_changeGround_23 : decode cX3_changeGround 23 = .ok (.invokevirtual 37, 3) := by decide +kernel
theorem dX3_changeGround_26 : decode cX3_changeGround 26 = .ok (.iload 4, 2) := by decide +kernel
theorem dX3_changeGround_28 : decode cX3_changeGround 28 = .ok (.ireturn, 1) := by decide +kernel
theorem dX3_found_0 : decode cX3_found 0 = .ok (.aload_n 0, 1) := by decide +kernel
theorem dX3_found_1 : decode cX3_found 1 = .ok (.getfield 12, 3) := by decide +kernel
theorem dX3_found_4 : decode cX3_found 4 = .ok (.aload_n 1, 1) := by decide +kernel
theorem dX3_found_5 : decode cX3_found 5 = .ok (.invokevirtual 40, 3) := by decide +kernel
theorem dX3_found_8 : decode cX3_found 8 = .ok (.pop, 1) := by decide +kernel
theorem dX3_found_9 : decode cX3_found 9 = .ok (.aload_n 0, 1) := by decide +kernel
theorem dX3_found_10 : decode cX3_found 10 = .ok (.invokevirtual 37, 3) := by decide +kernel
theorem dX3_found_13 : decode cX3_found 13 = .ok (.aload_n 0, 1) := by decide +kernel
theorem dX3_found_14 : decode cX3_found 14 = .ok (.getfield 12, 3) := by decide +kernel
theorem dX3_found_17 : decode cX3_found 17 = .ok (.invokevirtual 44, 3) := by decide +kernel
theorem dX3_found_20 : decode cX3_found 20 = .ok (.iconst 1, 1) := by decide +kernel
theorem dX3_found_21 : decode cX3_found 21 = .ok (.isub, 1) := by decide +kernel
theorem dX3_found_22 : decode cX3_found 22 = .ok (.ireturn, 1) := by decide +kernel
theorem dX3_lossBetween_0 : decode cX3_lossBetween 0 = .ok (.aload_n 0, 1) := by decide +kernel
theorem dX3_lossBetween_1 : decode cX3_lossBetween 1 = .ok (.getfield 27, 3) := by decide +kernel
theorem dX3_lossBetween_4 : decode cX3_lossBetween 4 = .ok (.iload_n 1, 1) := by decide +kernel
theorem dX3_lossBetween_5 : decode cX3_lossBetween 5 = .ok (.bipush 10, 2) := by decide +kernel
theorem dX3_lossBetween_7 : decode cX3_lossBetween 7 = .ok (.imul, 1) := by decide +kernel
theorem dX3_lossBetween_8 : decode cX3_lossBetween 8 = .ok (.iload_n 2, 1) := by decide +kernel
theorem dX3_lossBetween_9 : decode cX3_lossBetween 9 = .ok (.iadd, 1) := by decide +kernel
theorem dX3_lossBetween_10 : decode cX3_lossBetween 10 = .ok (.invokevirtual 48, 3) := by decide +kernel
theorem dX3_lossBetween_13 : decode cX3_lossBetween 13 = .ok (.ireturn, 1) := by decide +kernel
theorem dX3_groundAt_0 : decode cX3_groundAt 0 = .ok (.aload_n 0, 1) := by decide +kernel
theorem dX3_groundAt_1 : decode cX3_groundAt 1 = .ok (.getfield 23, 3) := by decide +kernel
theorem dX3_groundAt_4 : decode cX3_groundAt 4 = .ok (.iload_n 1, 1) := by decide +kernel
theorem dX3_groundAt_5 : decode cX3_groundAt 5 = .ok (.bipush 20, 2) := by decide +kernel
theorem dX3_groundAt_7 : decode cX3_groundAt 7 = .ok (.imul, 1) := by decide +kernel
theorem dX3_groundAt_8 : decode cX3_groundAt 8 = .ok (.iload_n 2, 1) := by decide +kernel
theorem dX3_groundAt_9 : decode cX3_groundAt 9 = .ok (.iadd, 1) := by decide +kernel
theorem dX3_groundAt_10 : decode cX3_groundAt 10 = .ok (.invokevirtual 48, 3) := by decide +kernel
theorem dX3_groundAt_13 : decode cX3_groundAt 13 = .ok (.ireturn, 1) := by decide +kernel
theorem dX3_measureAll_0 : decode cX3_measureAll 0 = .ok (.iconst 1, 1) := by decide +kernel
theorem dX3_measureAll_1 : decode cX3_measureAll 1 = .ok (.istore_n 1, 1) := by decide +kernel
theorem dX3_measureAll_2 : decode cX3_measureAll 2 = .ok (.iload_n 1, 1) := by decide +kernel
theorem dX3_measureAll_3 : decode cX3_measureAll 3 = .ok (.aload_n 0, 1) := by decide +kernel
theorem dX3_measureAll_4 : decode cX3_measureAll 4 = .ok (.getfield 12, 3) := by decide +kernel
theorem dX3_measureAll_7 : decode cX3_measureAll 7 = .ok (.invokevirtual 44, 3) := by decide +kernel
theorem dX3_measureAll_10 : decode cX3_measureAll 10 = .ok (.if_icmp .ge 77, 3) := by decide +kernel
theorem dX3_measureAll_13 : decode cX3_measureAll 13 = .ok (.iconst 0, 1) := by decide +kernel
theorem dX3_measureAll_14 : decode cX3_measureAll 14 = .ok (.istore_n 2, 1) := by decide +kernel
theorem dX3_measureAll_15 : decode cX3_measureAll 15 = .ok (.iload_n 2, 1) := by decide +kernel
theorem dX3_measureAll_16 : decode cX3_measureAll 16 = .ok (.iload_n 1, 1) := by decide +kernel
theorem dX3_measureAll_17 : decode cX3_measureAll 17 = .ok (.if_icmp .ge 64, 3) := by decide +kernel
theorem dX3_measureAll_20 : decode cX3_measureAll 20 = .ok (.aload_n 0, 1) := by decide +kernel
theorem dX3_measureAll_21 : decode cX3_measureAll 21 = .ok (.aload_n 0, 1) := by decide +kernel
theorem dX3_measureAll_22 : decode cX3_measureAll 22 = .ok (.getfield 12, 3) := by decide +kernel
theorem dX3_measureAll_25 : decode cX3_measureAll 25 = .ok (.iload_n 2, 1) := by decide +kernel
theorem dX3_measureAll_26 : decode cX3_measureAll 26 = .ok (.invokevirtual 52, 3) := by decide +kernel
theorem dX3_measureAll_29 : decode cX3_measureAll 29 = .ok (.checkcast 56, 3) := by decide +kernel
theorem dX3_measureAll_32 : decode cX3_measureAll 32 = .ok (.aload_n 0, 1) := by decide +kernel
theorem dX3_measureAll_33 : decode cX3_measureAll 33 = .ok (.getfield 12, 3) := by decide +kernel
theorem dX3_measureAll_36 : decode cX3_measureAll 36 = .ok (.iload_n 1, 1) := by decide +kernel
theorem dX3_measureAll_37 : decode cX3_measureAll 37 = .ok (.invokevirtual 52, 3) := by decide +kernel
theorem dX3_measureAll_40 : decode cX3_measureAll 40 = .ok (.checkcast 56, 3) := by decide +kernel
theorem dX3_measureAll_43 : decode cX3_measureAll 43 = .ok (.invokevirtual 58, 3) := by decide +kernel
theorem dX3_measureAll_46 : decode cX3_measureAll 46 = .ok (.istore_n 3, 1) := by decide +kernel
theorem dX3_measureAll_47 : decode cX3_measureAll 47 = .ok (.aload_n 0, 1) := by decide +kernel
theorem dX3_measureAll_48 : decode cX3_measureAll 48 = .ok (.getfield 27, 3) := by decide +kernel
theorem dX3_measureAll_51 : decode cX3_measureAll 51 = .ok (.iload_n 2, 1) := by decide +kernel
theorem dX3_measureAll_52 : decode cX3_measureAll 52 = .ok (.bipush 10, 2) := by decide +kernel
theorem dX3_measureAll_54 : decode cX3_measureAll 54 = .ok (.imul, 1) := by decide +kernel
theorem dX3_measureAll_55 : decode cX3_measureAll 55 = .ok (.iload_n 1, 1) := by decide +kernel
theorem dX3_measureAll_56 : decode cX3_measureAll 56 = .ok (.iadd, 1) := by decide +kernel
theorem dX3_measureAll_57 : decode cX3_measureAll 57 = .ok (.iload_n 3, 1) := by decide +kernel
theorem dX3_measureAll_58 : decode cX3_measureAll 58 = .ok (.invokevirtual 34, 3) := by decide +kernel
theorem dX3_measureAll_61 : decode cX3_measureAll 61 = .ok (.aload_n 0, 1) := by decide +kernel
theorem dX3_measureAll_62 : decode cX3_measureAll 62 = .ok (.getfield 27, 3) := by decide +kernel
theorem dX3_measureAll_65 : decode cX3_measureAll 65 = .ok (.iload_n 1, 1) := by decide +kernel
theorem dX3_measureAll_66 : decode cX3_measureAll 66 = .ok (.bipush 10, 2) := by decide +kernel
theorem dX3_measureAll_68 : decode cX3_measureAll 68 = .ok (.imul, 1) := by decide +kernel
theorem dX3_measureAll_69 : decode cX3_measureAll 69 = .ok (.iload_n 2, 1) := by decide +kernel
theorem dX3_measureAll_70 : decode cX3_measureAll 70 = .ok (.iadd, 1) := by decide +kernel
theorem dX3_measureAll_71 : decode cX3_measureAll 71 = .ok (.iload_n 3, 1) := by decide +kernel
theorem dX3_measureAll_72 : decode cX3_measureAll 72 = .ok (.invokevirtual 34, 3) := by decide +kernel
theorem dX3_measureAll_75 : decode cX3_measureAll 75 = .ok (.iinc 2 1, 3) := by decide +kernel
theorem dX3_measureAll_78 : decode cX3_measureAll 78 = .ok (.goto (-63), 3) := by decide +kernel
theorem dX3_measureAll_81 : decode cX3_measureAll 81 = .ok (.iinc 1 1, 3) := by decide +kernel
theorem dX3_measureAll_84 : decode cX3_measureAll 84 = .ok (.goto (-82), 3) := by decide +kernel
theorem dX3_measureAll_87 : decode cX3_measureAll 87 = .ok (.return_, 1) := by decide +kernel
theorem dX3_measure_0 : decode cX3_measure 0 = .ok (.aload_n 2, 1) := by decide +kernel
theorem dX3_measure_1 : decode cX3_measure 1 = .ok (.getfield 62, 3) := by decide +kernel
theorem dX3_measure_4 : decode cX3_measure 4 = .ok (.aload_n 1, 1) := by decide +kernel
theorem dX3_measure_5 : decode cX3_measure 5 = .ok (.getfield 62, 3) := by decide +kernel
theorem dX3_measure_8 : decode cX3_measure 8 = .ok (.isub, 1) := by decide +kernel
theorem dX3_measure_9 : decode cX3_measure 9 = .ok (.istore_n 3, 1) := by decide +kernel
theorem dX3_measure_10 : decode cX3_measure 10 = .ok (.aload_n 2, 1) := by decide +kernel
theorem dX3_measure_11 : decode cX3_measure 11 = .ok (.getfield 66, 3) := by decide +kernel
theorem dX3_measure_14 : decode cX3_measure 14 = .ok (.aload_n 1, 1) := by decide +kernel
theorem dX3_measure_15 : decode cX3_measure 15 = .ok (.getfield 66, 3) := by decide +kernel
theorem dX3_measure_18 : decode cX3_measure 18 = .ok (.isub, 1) := by decide +kernel
theorem dX3_measure_19 : decode cX3_measure 19 = .ok (.istore 4, 2) := by decide +kernel
theorem dX3_measure_21 : decode cX3_measure 21 = .ok (.bipush 100, 2) := by decide +kernel
theorem dX3_measure_23 : decode cX3_measure 23 = .ok (.iload_n 3, 1) := by decide +kernel
theorem dX3_measure_24 : decode cX3_measure 24 = .ok (.iload_n 3, 1) := by decide +kernel
theorem dX3_measure_25 : decode cX3_measure 25 = .ok (.imul, 1) := by decide +kernel
theorem dX3_measure_26 : decode cX3_measure 26 = .ok (.iload 4, 2) := by decide +kernel
theorem dX3_measure_28 : decode cX3_measure 28 = .ok (.iload 4, 2) := by decide +kernel
theorem dX3_measure_30 : decode cX3_measure 30 = .ok (.imul, 1) := by decide +kernel
theorem dX3_measure_31 : decode cX3_measure 31 = .ok (.iadd, 1) := by decide +kernel
theorem dX3_measure_32 : decode cX3_measure 32 = .ok (.imul, 1) := by decide +kernel
theorem dX3_measure_33 : decode cX3_measure 33 = .ok (.invokestatic 69, 3) := by decide +kernel
theorem dX3_measure_36 : decode cX3_measure 36 = .ok (.istore 5, 2) := by decide +kernel
theorem dX3_measure_38 : decode cX3_measure 38 = .ok (.sipush 200, 3) := by decide +kernel
theorem dX3_measure_41 : decode cX3_measure 41 = .ok (.bipush 8, 2) := by decide +kernel
theorem dX3_measure_43 : decode cX3_measure 43 = .ok (.iload 5, 2) := by decide +kernel
theorem dX3_measure_45 : decode cX3_measure 45 = .ok (.imul, 1) := by decide +kernel
theorem dX3_measure_46 : decode cX3_measure 46 = .ok (.iadd, 1) := by decide +kernel
theorem dX3_measure_47 : decode cX3_measure 47 = .ok (.bipush 60, 2) := by decide +kernel
theorem dX3_measure_49 : decode cX3_measure 49 = .ok (.aload_n 0, 1) := by decide +kernel
theorem dX3_measure_50 : decode cX3_measure 50 = .ok (.aload_n 1, 1) := by decide +kernel
theorem dX3_measure_51 : decode cX3_measure 51 = .ok (.aload_n 2, 1) := by decide +kernel
theorem dX3_measure_52 : decode cX3_measure 52 = .ok (.invokevirtual 72, 3) := by decide +kernel
theorem dX3_measure_55 : decode cX3_measure 55 = .ok (.imul, 1) := by decide +kernel
theorem dX3_measure_56 : decode cX3_measure 56 = .ok (.iadd, 1) := by decide +kernel
theorem dX3_measure_57 : decode cX3_measure 57 = .ok (.ireturn, 1) := by decide +kernel
theorem dX3_rootOf_0 : decode cX3_rootOf 0 = .ok (.iconst 0, 1) := by decide +kernel
theorem dX3_rootOf_1 : decode cX3_rootOf 1 = .ok (.istore_n 1, 1) := by decide +kernel
theorem dX3_rootOf_2 : decode cX3_rootOf 2 = .ok (.sipush 256, 3) := by decide +kernel
theorem dX3_rootOf_5 : decode cX3_rootOf 5 = .ok (.istore_n 2, 1) := by decide +kernel
theorem dX3_rootOf_6 : decode cX3_rootOf 6 = .ok (.iload_n 2, 1) := by decide +kernel
theorem dX3_rootOf_7 : decode cX3_rootOf 7 = .ok (.ifCond .le 23, 3) := by decide +kernel
theorem dX3_rootOf_10 : decode cX3_rootOf 10 = .ok (.iload_n 1, 1) := by decide +kernel
theorem dX3_rootOf_11 : decode cX3_rootOf 11 = .ok (.iload_n 2, 1) := by decide +kernel
theorem dX3_rootOf_12 : decode cX3_rootOf 12 = .ok (.iadd, 1) := by decide +kernel
theorem dX3_rootOf_13 : decode cX3_rootOf 13 = .ok (.istore_n 3, 1) := by decide +kernel
theorem dX3_rootOf_14 : decode cX3_rootOf 14 = .ok (.iload_n 3, 1) := by decide +kernel
theorem dX3_rootOf_15 : decode cX3_rootOf 15 = .ok (.iload_n 3, 1) := by decide +kernel
theorem dX3_rootOf_16 : decode cX3_rootOf 16 = .ok (.imul, 1) := by decide +kernel
theorem dX3_rootOf_17 : decode cX3_rootOf 17 = .ok (.iload_n 0, 1) := by decide +kernel
theorem dX3_rootOf_18 : decode cX3_rootOf 18 = .ok (.if_icmp .gt 5, 3) := by decide +kernel
theorem dX3_rootOf_21 : decode cX3_rootOf 21 = .ok (.iload_n 3, 1) := by decide +kernel
theorem dX3_rootOf_22 : decode cX3_rootOf 22 = .ok (.istore_n 1, 1) := by decide +kernel
theorem dX3_rootOf_23 : decode cX3_rootOf 23 = .ok (.iload_n 2, 1) := by decide +kernel
theorem dX3_rootOf_24 : decode cX3_rootOf 24 = .ok (.iconst 1, 1) := by decide +kernel
theorem dX3_rootOf_25 : decode cX3_rootOf 25 = .ok (.ishr, 1) := by decide +kernel
theorem dX3_rootOf_26 : decode cX3_rootOf 26 = .ok (.istore_n 2, 1) := by decide +kernel
theorem dX3_rootOf_27 : decode cX3_rootOf 27 = .ok (.goto (-21), 3) := by decide +kernel
theorem dX3_rootOf_30 : decode cX3_rootOf 30 = .ok (.iload_n 1, 1) := by decide +kernel
theorem dX3_rootOf_31 : decode cX3_rootOf 31 = .ok (.ireturn, 1) := by decide +kernel
theorem dX3_blocksBetween_0 : decode cX3_blocksBetween 0 = .ok (.aload_n 2, 1) := by decide +kernel
theorem dX3_blocksBetween_1 : decode cX3_blocksBetween 1 = .ok (.getfield 62, 3) := by decide +kernel
theorem dX3_blocksBetween_4 : decode cX3_blocksBetween 4 = .ok (.aload_n 1, 1) := by decide +kernel
theorem dX3_blocksBetween_5 : decode cX3_blocksBetween 5 = .ok (.getfield 62, 3) := by decide +kernel
theorem dX3_blocksBetween_8 : decode cX3_blocksBetween 8 = .ok (.isub, 1) := by decide +kernel
theorem dX3_blocksBetween_9 : decode cX3_blocksBetween 9 = .ok (.istore_n 3, 1) := by decide +kernel
theorem dX3_blocksBetween_10 : decode cX3_blocksBetween 10 = .ok (.aload_n 2, 1) := by decide +kernel
theorem dX3_blocksBetween_11 : decode cX3_blocksBetween 11 = .ok (.getfield 66, 3) := by decide +kernel
theorem dX3_blocksBetween_14 : decode cX3_blocksBetween 14 = .ok (.aload_n 1, 1) := by decide +kernel
theorem dX3_blocksBetween_15 : decode cX3_blocksBetween 15 = .ok (.getfield 66, 3) := by decide +kernel
theorem dX3_blocksBetween_18 : decode cX3_blocksBetween 18 = .ok (.isub, 1) := by decide +kernel
theorem dX3_blocksBetween_19 : decode cX3_blocksBetween 19 = .ok (.istore 4, 2) := by decide +kernel
theorem dX3_blocksBetween_21 : decode cX3_blocksBetween 21 = .ok (.iload_n 3, 1) := by decide +kernel
theorem dX3_blocksBetween_22 : decode cX3_blocksBetween 22 = .ok (.invokestatic 75, 3) := by decide +kernel
theorem dX3_blocksBetween_25 : decode cX3_blocksBetween 25 = .ok (.iload 4, 2) := by decide +kernel
theorem dX3_blocksBetween_27 : decode cX3_blocksBetween 27 = .ok (.invokestatic 75, 3) := by decide +kernel
theorem dX3_blocksBetween_30 : decode cX3_blocksBetween 30 = .ok (.invokestatic 80, 3) := by decide +kernel
theorem dX3_blocksBetween_33 : decode cX3_blocksBetween 33 = .ok (.istore 5, 2) := by decide +kernel
theorem dX3_blocksBetween_35 : decode cX3_blocksBetween 35 = .ok (.iload 5, 2) := by decide +kernel
theorem dX3_blocksBetween_37 : decode cX3_blocksBetween 37 = .ok (.iconst 2, 1) := by decide +kernel
theorem dX3_blocksBetween_38 : decode cX3_blocksBetween 38 = .ok (.if_icmp .ge 5, 3) := by decide +kernel
theorem dX3_blocksBetween_41 : decode cX3_blocksBetween 41 = .ok (.iconst 0, 1) := by decide +kernel
theorem dX3_blocksBetween_42 : decode cX3_blocksBetween 42 = .ok (.ireturn, 1) := by decide +kernel
theorem dX3_blocksBetween_43 : decode cX3_blocksBetween 43 = .ok (.aload_n 1, 1) := by decide +kernel
theorem dX3_blocksBetween_44 : decode cX3_blocksBetween 44 = .ok (.getfield 83, 3) := by decide +kernel
theorem dX3_blocksBetween_47 : decode cX3_blocksBetween 47 = .ok (.aload_n 0, 1) := by decide +kernel
theorem dX3_blocksBetween_48 : decode cX3_blocksBetween 48 = .ok (.aload_n 1, 1) := by decide +kernel
theorem dX3_blocksBetween_49 : decode cX3_blocksBetween 49 = .ok (.getfield 62, 3) := by decide +kernel
theorem dX3_blocksBetween_52 : decode cX3_blocksBetween 52 = .ok (.aload_n 1, 1) := by decide +kernel
theorem dX3_blocksBetween_53 : decode cX3_blocksBetween 53 = .ok (.getfield 66, 3) := by decide +kernel
theorem dX3_blocksBetween_56 : decode cX3_blocksBetween 56 = .ok (.invokevirtual 30, 3) := by decide +kernel
theorem dX3_blocksBetween_59 : decode cX3_blocksBetween 59 = .ok (.iadd, 1) := by decide +kernel
theorem dX3_blocksBetween_60 : decode cX3_blocksBetween 60 = .ok (.istore 6, 2) := by decide +kernel
theorem dX3_blocksBetween_62 : decode cX3_blocksBetween 62 = .ok (.aload_n 2, 1) := by decide +kernel
theorem dX3_blocksBetween_63 : decode cX3_blocksBetween 63 = .ok (.getfield 83, 3) := by decide +kernel
theorem dX3_blocksBetween_66 : decode cX3_blocksBetween 66 = .ok (.aload_n 0, 1) := by decide +kernel
theorem dX3_blocksBetween_67 : decode cX3_blocksBetween 67 = .ok (.aload_n 2, 1) := by decide +kernel
theorem dX3_blocksBetween_68 : decode cX3_blocksBetween 68 = .ok (.getfield 62, 3) := by decide +kernel
theorem dX3_blocksBetween_71 : decode cX3_blocksBetween 71 = .ok (.aload_n 2, 1) := by decide +kernel
theorem dX3_blocksBetween_72 : decode cX3_blocksBetween 72 = .ok (.getfield 66, 3) := by decide +kernel
theorem dX3_blocksBetween_75 : decode cX3_blocksBetween 75 = .ok (.invokevirtual 30, 3) := by decide +kernel
theorem dX3_blocksBetween_78 : decode cX3_blocksBetween 78 = .ok (.iadd, 1) := by decide +kernel
theorem dX3_blocksBetween_79 : decode cX3_blocksBetween 79 = .ok (.istore 7, 2) := by decide +kernel
theorem dX3_blocksBetween_81 : decode cX3_blocksBetween 81 = .ok (.iconst 0, 1) := by decide +kernel
theorem dX3_blocksBetween_82 : decode cX3_blocksBetween 82 = .ok (.istore 8, 2) := by decide +kernel
theorem dX3_blocksBetween_84 : decode cX3_blocksBetween 84 = .ok (.iconst 1, 1) := by decide +kernel
theorem dX3_blocksBetween_85 : decode cX3_blocksBetween 85 = .ok (.istore 9, 2) := by decide +kernel
theorem dX3_blocksBetween_87 : decode cX3_blocksBetween 87 = .ok (.iload 9, 2) := by decide +kernel
theorem dX3_blocksBetween_89 : decode cX3_blocksBetween 89 = .ok (.iload 5, 2) := by decide +kernel
theorem dX3_blocksBetween_91 : decode cX3_blocksBetween 91 = .ok (.if_icmp .ge 77, 3) := by decide +kernel
theorem dX3_blocksBetween_94 : decode cX3_blocksBetween 94 = .ok (.aload_n 1, 1) := by decide +kernel
theorem dX3_blocksBetween_95 : decode cX3_blocksBetween 95 = .ok (.getfield 62, 3) := by decide +kernel
theorem dX3_blocksBetween_98 : decode cX3_blocksBetween 98 = .ok (.iload 9, 2) := by decide +kernel
theorem dX3_blocksBetween_100 : decode cX3_blocksBetween 100 = .ok (.iload_n 3, 1) := by decide +kernel
theorem dX3_blocksBetween_101 : decode cX3_blocksBetween 101 = .ok (.imul, 1) := by decide +kernel
theorem dX3_blocksBetween_102 : decode cX3_blocksBetween 102 = .ok (.iload 5, 2) := by decide +kernel
theorem dX3_blocksBetween_104 : decode cX3_blocksBetween 104 = .ok (.invokestatic 86, 3) := by decide +kernel
theorem dX3_blocksBetween_107 : decode cX3_blocksBetween 107 = .ok (.iadd, 1) := by decide +kernel
theorem dX3_blocksBetween_108 : decode cX3_blocksBetween 108 = .ok (.istore 10, 2) := by decide +kernel
theorem dX3_blocksBetween_110 : decode cX3_blocksBetween 110 = .ok (.aload_n 1, 1) := by decide +kernel
theorem dX3_blocksBetween_111 : decode cX3_blocksBetween 111 = .ok (.getfield 66, 3) := by decide +kernel
theorem dX3_blocksBetween_114 : decode cX3_blocksBetween 114 = .ok (.iload 9, 2) := by decide +kernel
theorem dX3_blocksBetween_116 : decode cX3_blocksBetween 116 = .ok (.iload 4, 2) := by decide +kernel
theorem dX3_blocksBetween_118 : decode cX3_blocksBetween 118 = .ok (.imul, 1) := by decide +kernel
theorem dX3_blocksBetween_119 : decode cX3_blocksBetween 119 = .ok (.iload 5, 2) := by decide +kernel
theorem dX3_blocksBetween_121 : decode cX3_blocksBetween 121 = .ok (.invokestatic 86, 3) := by decide +kernel
theorem dX3_blocksBetween_124 : decode cX3_blocksBetween 124 = .ok (.iadd, 1) := by decide +kernel
theorem dX3_blocksBetween_125 : decode cX3_blocksBetween 125 = .ok (.istore 11, 2) := by decide +kernel
theorem dX3_blocksBetween_127 : decode cX3_blocksBetween 127 = .ok (.iload 6, 2) := by decide +kernel
theorem dX3_blocksBetween_129 : decode cX3_blocksBetween 129 = .ok (.iload 5, 2) := by decide +kernel
theorem dX3_blocksBetween_131 : decode cX3_blocksBetween 131 = .ok (.iload 9, 2) := by decide +kernel
theorem dX3_blocksBetween_133 : decode cX3_blocksBetween 133 = .ok (.isub, 1) := by decide +kernel
theorem dX3_blocksBetween_134 : decode cX3_blocksBetween 134 = .ok (.imul, 1) := by decide +kernel
theorem dX3_blocksBetween_135 : decode cX3_blocksBetween 135 = .ok (.iload 7, 2) := by decide +kernel
theorem dX3_blocksBetween_137 : decode cX3_blocksBetween 137 = .ok (.iload 9, 2) := by decide +kernel
theorem dX3_blocksBetween_139 : decode cX3_blocksBetween 139 = .ok (.imul, 1) := by decide +kernel
theorem dX3_blocksBetween_140 : decode cX3_blocksBetween 140 = .ok (.iadd, 1) := by decide +kernel
theorem dX3_blocksBetween_141 : decode cX3_blocksBetween 141 = .ok (.iload 5, 2) := by decide +kernel
theorem dX3_blocksBetween_143 : decode cX3_blocksBetween 143 = .ok (.idiv, 1) := by decide +kernel
theorem dX3_blocksBetween_144 : decode cX3_blocksBetween 144 = .ok (.istore 12, 2) := by decide +kernel
theorem dX3_blocksBetween_146 : decode cX3_blocksBetween 146 = .ok (.aload_n 0, 1) := by decide +kernel
theorem dX3_blocksBetween_147 : decode cX3_blocksBetween 147 = .ok (.iload 10, 2) := by decide +kernel
theorem dX3_blocksBetween_149 : decode cX3_blocksBetween 149 = .ok (.iload 11, 2) := by decide +kernel
theorem dX3_blocksBetween_151 : decode cX3_blocksBetween 151 = .ok (.invokevirtual 30, 3) := by decide +kernel
theorem dX3_blocksBetween_154 : decode cX3_blocksBetween 154 = .ok (.iload 12, 2) := by decide +kernel
theorem dX3_blocksBetween_156 : decode cX3_blocksBetween 156 = .ok (.if_icmp .le 6, 3) := by decide +kernel
theorem dX3_blocksBetween_159 : decode cX3_blocksBetween 159 = .ok (.iinc 8 1, 3) := by decide +kernel
theorem dX3_blocksBetween_162 : decode cX3_blocksBetween 162 = .ok (.iinc 9 1, 3) := by decide +kernel
theorem dX3_blocksBetween_165 : decode cX3_blocksBetween 165 = .ok (.goto (-78), 3) := by decide +kernel
theorem dX3_blocksBetween_168 : decode cX3_blocksBetween 168 = .ok (.iload 8, 2) := by decide +kernel
theorem dX3_blocksBetween_170 : decode cX3_blocksBetween 170 = .ok (.ireturn, 1) := by decide +kernel
theorem dX4_init_0 : decode cX4_init 0 = .ok (.aload_n 0, 1) := by decide +kernel
theorem dX4_init_1 : decode cX4_init 1 = .ok (.invokespecial 3, 3) := by decide +kernel
theorem dX4_init_4 : decode cX4_init 4 = .ok (.aload_n 0, 1) := by decide +kernel
theorem dX4_init_5 : decode cX4_init 5 = .ok (.new 9, 3) := by decide +kernel
theorem dX4_init_8 : decode cX4_init 8 = .ok (.dup, 1) := by decide +kernel
theorem dX4_init_9 : decode cX4_init 9 = .ok (.bipush 8, 2) := by decide +kernel
theorem dX4_init_11 : decode cX4_init 11 = .ok (.iconst (-1), 1) := by decide +kernel
theorem dX4_init_12 : decode cX4_init 12 = .ok (.invokespecial 11, 3) := by decide +kernel
theorem dX4_init_15 : decode cX4_init 15 = .ok (.putfield 14, 3) := by decide +kernel
theorem dX4_init_18 : decode cX4_init 18 = .ok (.return_, 1) := by decide +kernel
theorem dX4_begin_0 : decode cX4_begin 0 = .ok (.aload_n 0, 1) := by decide +kernel
theorem dX4_begin_1 : decode cX4_begin 1 = .ok (.iconst 1, 1) := by decide +kernel
theorem dX4_begin_2 : decode cX4_begin 2 = .ok (.putfield 20, 3) := by decide +kernel
theorem dX4_begin_5 : decode cX4_begin 5 = .ok (.aload_n 0, 1) := by decide +kernel
theorem dX4_begin_6 : decode cX4_begin 6 = .ok (.iconst 0, 1) := by decide +kernel
theorem dX4_begin_7 : decode cX4_begin 7 = .ok (.putfield 24, 3) := by decide +kernel
theorem dX4_begin_10 : decode cX4_begin 10 = .ok (.aload_n 0, 1) := by decide +kernel
theorem dX4_begin_11 : decode cX4_begin 11 = .ok (.iload_n 1, 1) := by decide +kernel
theorem dX4_begin_12 : decode cX4_begin 12 = .ok (.putfield 28, 3) := by decide +kernel
theorem dX4_begin_15 : decode cX4_begin 15 = .ok (.aload_n 0, 1) := by decide +kernel
theorem dX4_begin_16 : decode cX4_begin 16 = .ok (.getfield 14, 3) := by decide +kernel
theorem dX4_begin_19 : decode cX4_begin 19 = .ok (.iconst (-1), 1) := by decide +kernel
theorem dX4_begin_20 : decode cX4_begin 20 = .ok (.invokevirtual 31, 3) := by decide +kernel
theorem dX4_begin_23 : decode cX4_begin 23 = .ok (.iconst 0, 1) := by decide +kernel
theorem dX4_begin_24 : decode cX4_begin 24 = .ok (.istore 4, 2) := by decide +kernel
theorem dX4_begin_26 : decode cX4_begin 26 = .ok (.iload 4, 2) := by decide +kernel
theorem dX4_begin_28 : decode cX4_begin 28 = .ok (.bipush 8, 2) := by decide +kernel
theorem dX4_begin_30 : decode cX4_begin 30 = .ok (.if_icmp .ge 64, 3) := by decide +kernel
theorem dX4_begin_33 : decode cX4_begin 33 = .ok (.iload 4, 2) := by decide +kernel
theorem dX4_begin_35 : decode cX4_begin 35 = .ok (.iload_n 1, 1) := by decide +kernel
theorem dX4_begin_36 : decode cX4_begin 36 = .ok (.invokestatic 35, 3) := by decide +kernel
theorem dX4_begin_39 : decode cX4_begin 39 = .ok (.ifCond .eq 49, 3) := by decide +kernel
theorem dX4_begin_42 : decode cX4_begin 42 = .ok (.aload_n 3, 1) := by decide +kernel
theorem dX4_begin_43 : decode cX4_begin 43 = .ok (.getfield 39, 3) := by decide +kernel
theorem dX4_begin_46 : decode cX4_begin 46 = .ok (.iload 4, 2) := by decide +kernel
theorem dX4_begin_48 : decode cX4_begin 48 = .ok (.invokevirtual 44, 3) := by decide +kernel
theorem dX4_begin_51 : decode cX4_begin 51 = .ok (.aload_n 2, 1) := by decide +kernel
theorem dX4_begin_52 : decode cX4_begin 52 = .ok (.getfield 48, 3) := by decide +kernel
theorem dX4_begin_55 : decode cX4_begin 55 = .ok (.iload 4, 2) := by decide +kernel
theorem dX4_begin_57 : decode cX4_begin 57 = .ok (.invokevirtual 44, 3) := by decide +kernel
theorem dX4_begin_60 : decode cX4_begin 60 = .ok (.if_icmp .ne 28, 3) := by decide +kernel
theorem dX4_begin_63 : decode cX4_begin 63 = .ok (.aload_n 0, 1) := by decide +kernel
theorem dX4_begin_64 : decode cX4_begin 64 = .ok (.getfield 14, 3) := by decide +kernel
theorem dX4_begin_67 : decode cX4_begin 67 = .ok (.iload 4, 2) := by decide +kernel
theorem dX4_begin_69 : decode cX4_begin 69 = .ok (.iconst 0, 1) := by decide +kernel
theorem dX4_begin_70 : decode cX4_begin 70 = .ok (.invokevirtual 53, 3) := by decide +kernel
theorem dX4_begin_73 : decode cX4_begin 73 = .ok (.aload_n 0, 1) := by decide +kernel
theorem dX4_begin_74 : decode cX4_begin 74 = .ok (.dup, 1) := by decide +kernel
theorem dX4_begin_75 : decode cX4_begin 75 = .ok (.getfield 28, 3) := by decide +kernel
theorem dX4_begin_78 : decode cX4_begin 78 = .ok (.iconst 1, 1) := by decide +kernel
theorem dX4_begin_79 : decode cX4_begin 79 = .ok (.iload 4, 2) := by decide +kernel
theorem dX4_begin_81 : decode cX4_begin 81 = .ok (.ishl, 1) := by decide +kernel
theorem dX4_begin_82 : decode cX4_begin 82 = .ok (.iconst (-1), 1) := by decide +kernel
theorem dX4_begin_83 : decode cX4_begin 83 = .ok (.ixor, 1) := by decide +kernel
theorem dX4_begin_84 : decode cX4_begin 84 = .ok (.iand, 1) := by decide +kernel
theorem dX4_begin_85 : decode cX4_begin 85 = .ok (.putfield 28, 3) := by decide +kernel
theorem dX4_begin_88 : decode cX4_begin 88 = .ok (.iinc 4 1, 3) := by decide +kernel
theorem dX4_begin_91 : decode cX4_begin 91 = .ok (.goto (-65), 3) := by decide +kernel
theorem dX4_begin_94 : decode cX4_begin 94 = .ok (.return_, 1) := by decide +kernel
theorem dX4_run_0 : decode cX4_run 0 = .ok (.iconst 0, 1) := by decide +kernel
theorem dX4_run_1 : decode cX4_run 1 = .ok (.istore 5, 2) := by decide +kernel
theorem dX4_run_3 : decode cX4_run 3 = .ok (.iload 5, 2) := by decide +kernel
theorem dX4_run_5 : decode cX4_run 5 = .ok (.bipush 16, 2) := by decide +kernel
theorem dX4_run_7 : decode cX4_run 7 = .ok (.if_icmp .ge 65, 3) := by decide +kernel
theorem dX4_run_10 : decode cX4_run 10 = .ok (.aload_n 0, 1) := by decide +kernel
theorem dX4_run_11 : decode cX4_run 11 = .ok (.getfield 28, 3) := by decide +kernel
theorem dX4_run_14 : decode cX4_run 14 = .ok (.ifCond .eq 58, 3) := by decide +kernel
theorem dX4_run_17 : decode cX4_run 17 = .ok (.aload_n 0, 1) := by decide +kernel
theorem dX4_run_18 : decode cX4_run 18 = .ok (.aload_n 1, 1) := by decide +kernel
theorem dX4_run_19 : decode cX4_run 19 = .ok (.aload_n 2, 1) := by decide +kernel
theorem dX4_run_20 : decode cX4_run 20 = .ok (.aload_n 3, 1) := by decide +kernel
theorem dX4_run_21 : decode cX4_run 21 = .ok (.iload 4, 2) := by decide +kernel
theorem dX4_run_23 : decode cX4_run 23 = .ok (.iload 5, 2) := by decide +kernel
theorem dX4_run_25 : decode cX4_run 25 = .ok (.iconst 1, 1) := by decide +kernel
theorem dX4_run_26 : decode cX4_run 26 = .ok (.iadd, 1) := by decide +kernel
theorem dX4_run_27 : decode cX4_run 27 = .ok (.invokevirtual 56, 3) := by decide +kernel
theorem dX4_run_30 : decode cX4_run 30 = .ok (.ifCond .ne 36, 3) := by decide +kernel
theorem dX4_run_33 : decode cX4_run 33 = .ok (.aload_n 0, 1) := by decide +kernel
theorem dX4_run_34 : decode cX4_run 34 = .ok (.aload_n 3, 1) := by decide +kernel
theorem dX4_run_35 : decode cX4_run 35 = .ok (.invokevirtual 60, 3) := by decide +kernel
theorem dX4_run_38 : decode cX4_run 38 = .ok (.istore 6, 2) := by decide +kernel
theorem dX4_run_40 : decode cX4_run 40 = .ok (.iload 6, 2) := by decide +kernel
theorem dX4_run_42 : decode cX4_run 42 = .ok (.iconst (-1), 1) := by decide +kernel
theorem dX4_run_43 : decode cX4_run 43 = .ok (.if_icmp .ne 6, 3) := by decide +kernel
theorem dX4_run_46 : decode cX4_run 46 = .ok (.iload 5, 2) := by decide +kernel
theorem dX4_run_48 : decode cX4_run 48 = .ok (.ireturn, 1) := by decide +kernel
theorem dX4_run_49 : decode cX4_run 49 = .ok (.aload_n 3, 1) := by decide +kernel
theorem dX4_run_50 : decode cX4_run 50 = .ok (.iload 6, 2) := by decide +kernel
theorem dX4_run_52 : decode cX4_run 52 = .ok (.iconst (-1), 1) := by decide +kernel
theorem dX4_run_53 : decode cX4_run 53 = .ok (.invokevirtual 64, 3) := by decide +kernel
theorem dX4_run_56 : decode cX4_run 56 = .ok (.aload_n 0, 1) := by decide +kernel
theorem dX4_run_57 : decode cX4_run 57 = .ok (.dup, 1) := by decide +kernel
theorem dX4_run_58 : decode cX4_run 58 = .ok (.getfield 24, 3) := by decide +kernel
theorem dX4_run_61 : decode cX4_run 61 = .ok (.iconst 1, 1) := by decide +kernel
theorem dX4_run_62 : decode cX4_run 62 = .ok (.iadd, 1) := by decide +kernel
theorem dX4_run_63 : decode cX4_run 63 = .ok (.putfield 24, 3) := by decide +kernel
theorem dX4_run_66 : decode cX4_run 66 = .ok (.iinc 5 1, 3) := by decide +kernel
theorem dX4_run_69 : decode cX4_run 69 = .ok (.goto (-66), 3) := by decide +kernel
theorem dX4_run_72 : decode cX4_run 72 = .ok (.iload 5, 2) := by decide +kernel
theorem dX4_run_74 : decode cX4_run 74 = .ok (.ireturn, 1) := by decide +kernel
theorem dX4_holdPhase_0 : decode cX4_holdPhase 0 = .ok (.iconst 0, 1) := by decide +kernel
theorem dX4_holdPhase_1 : decode cX4_holdPhase 1 = .ok (.istore 6, 2) := by decide +kernel
theorem dX4_holdPhase_3 : decode cX4_holdPhase 3 = .ok (.iconst 0, 1) := by decide +kernel
theorem dX4_holdPhase_4 : decode cX4_holdPhase 4 = .ok (.istore 7, 2) := by decide +kernel
theorem dX4_holdPhase_6 : decode cX4_holdPhase 6 = .ok (.iload 7, 2) := by decide +kernel
theorem dX4_holdPhase_8 : decode cX4_holdPhase 8 = .ok (.aload_n 1, 1) := by decide +kernel
theorem dX4_holdPhase_9 : decode cX4_holdPhase 9 = .ok (.getfield 67, 3) := by decide +kernel
theorem dX4_holdPhase_12 : decode cX4_holdPhase 12 = .ok (.invokevirtual 73, 3) := by decide +kernel
theorem dX4_holdPhase_15 : decode cX4_holdPhase 15 = .ok (.if_icmp .ge 91, 3) := by decide +kernel
theorem dX4_holdPhase_18 : decode cX4_holdPhase 18 = .ok (.iload 6, 2) := by decide +kernel
theorem dX4_holdPhase_20 : decode cX4_holdPhase 20 = .ok (.iload 4, 2) := by decide +kernel
theorem dX4_holdPhase_22 : decode cX4_holdPhase 22 = .ok (.if_icmp .ge 84, 3) := by decide +kernel
theorem dX4_holdPhase_25 : decode cX4_holdPhase 25 = .ok (.iload 7, 2) := by decide +kernel
theorem dX4_holdPhase_27 : decode cX4_holdPhase 27 = .ok (.aload_n 0, 1) := by decide +kernel
theorem dX4_holdPhase_28 : decode cX4_holdPhase 28 = .ok (.getfield 28, 3) := by decide +kernel
theorem dX4_holdPhase_31 : decode cX4_holdPhase 31 = .ok (.invokestatic 35, 3) := by decide +kernel
theorem dX4_holdPhase_34 : decode cX4_holdPhase 34 = .ok (.ifCond .eq 66, 3) := by decide +kernel
theorem dX4_holdPhase_37 : decode cX4_holdPhase 37 = .ok (.iload 7, 2) := by decide +kernel
theorem dX4_holdPhase_39 : decode cX4_holdPhase 39 = .ok (.aload_n 1, 1) := by decide +kernel
theorem dX4_holdPhase_40 : decode cX4_holdPhase 40 = .ok (.aload_n 2, 1) := by decide +kernel
theorem dX4_holdPhase_41 : decode cX4_holdPhase 41 = .ok (.aload_n 3, 1) := by decide +kernel
theorem dX4_holdPhase_42 : decode cX4_holdPhase 42 = .ok (.invokestatic 79, 3) := by decide +kernel
theorem dX4_holdPhase_45 : decode cX4_holdPhase 45 = .ok (.ifCond .eq 55, 3) := by decide +kernel
theorem dX4_holdPhase_48 : decode cX4_holdPhase 48 = .ok (.aload_n 3, 1) := by decide +kernel
theorem dX4_holdPhase_49 : decode cX4_holdPhase 49 = .ok (.iload 7, 2) := by decide +kernel
theorem dX4_holdPhase_51 : decode cX4_holdPhase 51 = .ok (.aload_n 2, 1) := by decide +kernel
theorem dX4_holdPhase_52 : decode cX4_holdPhase 52 = .ok (.getfield 48, 3) := by decide +kernel
theorem dX4_holdPhase_55 : decode cX4_holdPhase 55 = .ok (.iload 7, 2) := by decide +kernel
theorem dX4_holdPhase_57 : decode cX4_holdPhase 57 = .ok (.invokevirtual 44, 3) := by decide +kernel
theorem dX4_holdPhase_60 : decode cX4_holdPhase 60 = .ok (.invokevirtual 64, 3) := by decide +kernel
theorem dX4_holdPhase_63 : decode cX4_holdPhase 63 = .ok (.iload 7, 2) := by decide +kernel
theorem dX4_holdPhase_65 : decode cX4_holdPhase 65 = .ok (.aload_n 1, 1) := by decide +kernel
theorem dX4_holdPhase_66 : decode cX4_holdPhase 66 = .ok (.aload_n 2, 1) := by decide +kernel
theorem dX4_holdPhase_67 : decode cX4_holdPhase 67 = .ok (.aload_n 3, 1) := by decide +kernel
theorem dX4_holdPhase_68 : decode cX4_holdPhase 68 = .ok (.invokestatic 83, 3) := by decide +kernel
theorem dX4_holdPhase_71 : decode cX4_holdPhase 71 = .ok (.aload_n 0, 1) := by decide +kernel
theorem dX4_holdPhase_72 : decode cX4_holdPhase 72 = .ok (.getfield 14, 3) := by decide +kernel
theorem dX4_holdPhase_75 : decode cX4_holdPhase 75 = .ok (.iload 7, 2) := by decide +kernel
theorem dX4_holdPhase_77 : decode cX4_holdPhase 77 = .ok (.iload 5, 2) := by decide +kernel
theorem dX4_holdPhase_79 : decode cX4_holdPhase 79 = .ok (.invokevirtual 53, 3) := by decide +kernel
theorem dX4_holdPhase_82 : decode cX4_holdPhase 82 = .ok (.aload_n 0, 1) := by decide +kernel
theorem dX4_holdPhase_83 : decode cX4_holdPhase 83 = .ok (.dup, 1) := by decide +kernel
theorem dX4_holdPhase_84 : decode cX4_holdPhase 84 = .ok (.getfield 28, 3) := by decide +kernel
theorem dX4_holdPhase_87 : decode cX4_holdPhase 87 = .ok (.iconst 1, 1) := by decide +kernel
theorem dX4_holdPhase_88 : decode cX4_holdPhase 88 = .ok (.iload 7, 2) := by decide +kernel
theorem dX4_holdPhase_90 : decode cX4_holdPhase 90 = .ok (.ishl, 1) := by decide +kernel
theorem dX4_holdPhase_91 : decode cX4_holdPhase 91 = .ok (.iconst (-1), 1) := by decide +kernel
theorem dX4_holdPhase_92 : decode cX4_holdPhase 92 = .ok (.ixor, 1) := by decide +kernel
theorem dX4_holdPhase_93 : decode cX4_holdPhase 93 = .ok (.iand, 1) := by decide +kernel
theorem dX4_holdPhase_94 : decode cX4_holdPhase 94 = .ok (.putfield 28, 3) := by decide +kernel
theorem dX4_holdPhase_97 : decode cX4_holdPhase 97 = .ok (.iinc 6 1, 3) := by decide +kernel
theorem dX4_holdPhase_100 : decode cX4_holdPhase 100 = .ok (.iinc 7 1, 3) := by decide +kernel
theorem dX4_holdPhase_103 : decode cX4_holdPhase 103 = .ok (.goto (-97), 3) := by decide +kernel
theorem dX4_holdPhase_106 : decode cX4_holdPhase 106 = .ok (.iload 6, 2) := by decide +kernel
theorem dX4_holdPhase_108 : decode cX4_holdPhase 108 = .ok (.ifCond .le 7, 3) := by decide +kernel
theorem dX4_holdPhase_111 : decode cX4_holdPhase 111 = .ok (.iconst 1, 1) := by decide +kernel
theorem dX4_holdPhase_112 : decode cX4_holdPhase 112 = .ok (.goto 4, 3) := by decide +kernel
theorem dX4_holdPhase_115 : decode cX4_holdPhase 115 = .ok (.iconst 0, 1) := by decide +kernel
theorem dX4_holdPhase_116 : decode cX4_holdPhase 116 = .ok (.ireturn, 1) := by decide +kernel
theorem dX4_isFree_0 : decode cX4_isFree 0 = .ok (.aload_n 2, 1) := by decide +kernel
theorem dX4_isFree_1 : decode cX4_isFree 1 = .ok (.getfield 48, 3) := by decide +kernel
theorem dX4_isFree_4 : decode cX4_isFree 4 = .ok (.iload_n 0, 1) := by decide +kernel
theorem dX4_isFree_5 : decode cX4_isFree 5 = .ok (.invokevirtual 44, 3) := by decide +kernel
theorem dX4_isFree_8 : decode cX4_isFree 8 = .ok (.istore 4, 2) := by decide +kernel
theorem dX4_isFree_10 : decode cX4_isFree 10 = .ok (.iconst 0, 1) := by decide +kernel
theorem dX4_isFree_11 : decode cX4_isFree 11 = .ok (.istore 5, 2) := by decide +kernel
theorem dX4_isFree_13 : decode cX4_isFree 13 = .ok (.iload 5, 2) := by decide +kernel
theorem dX4_isFree_15 : decode cX4_isFree 15 = .ok (.aload_n 1, 1) := by decide +kernel
theorem dX4_isFree_16 : decode cX4_isFree 16 = .ok (.getfield 67, 3) := by decide +kernel
theorem dX4_isFree_19 : decode cX4_isFree 19 = .ok (.invokevirtual 73, 3) := by decide +kernel
theorem dX4_isFree_22 : decode cX4_isFree 22 = .ok (.if_icmp .ge 66, 3) := by decide +kernel
theorem dX4_isFree_25 : decode cX4_isFree 25 = .ok (.aload_n 3, 1) := by decide +kernel
theorem dX4_isFree_26 : decode cX4_isFree 26 = .ok (.getfield 39, 3) := by decide +kernel
theorem dX4_isFree_29 : decode cX4_isFree 29 = .ok (.iload 5, 2) := by decide +kernel
theorem dX4_isFree_31 : decode cX4_isFree 31 = .ok (.invokevirtual 44, 3) := by decide +kernel
theorem dX4_isFree_34 : decode cX4_isFree 34 = .ok (.istore 6, 2) := by decide +kernel
theorem dX4_isFree_36 : decode cX4_isFree 36 = .ok (.iload 5, 2) := by decide +kernel
theorem dX4_isFree_38 : decode cX4_isFree 38 = .ok (.iload_n 0, 1) := by decide +kernel
theorem dX4_isFree_39 : decode cX4_isFree 39 = .ok (.if_icmp .eq 43, 3) := by decide +kernel
theorem dX4_isFree_42 : decode cX4_isFree 42 = .ok (.aload_n 1, 1) := by decide +kernel
theorem dX4_isFree_43 : decode cX4_isFree 43 = .ok (.getfield 67, 3) := by decide +kernel
theorem dX4_isFree_46 : decode cX4_isFree 46 = .ok (.iload 5, 2) := by decide +kernel
theorem dX4_isFree_48 : decode cX4_isFree 48 = .ok (.invokevirtual 87, 3) := by decide +kernel
theorem dX4_isFree_51 : decode cX4_isFree 51 = .ok (.checkcast 91, 3) := by decide +kernel
theorem dX4_isFree_54 : decode cX4_isFree 54 = .ok (.getfield 93, 3) := by decide +kernel
theorem dX4_isFree_57 : decode cX4_isFree 57 = .ok (.ifCond .eq 25, 3) := by decide +kernel
theorem dX4_isFree_60 : decode cX4_isFree 60 = .ok (.iload 6, 2) := by decide +kernel
theorem dX4_isFree_62 : decode cX4_isFree 62 = .ok (.iconst (-1), 1) := by decide +kernel
theorem dX4_isFree_63 : decode cX4_isFree 63 = .ok (.if_icmp .eq 19, 3) := by decide +kernel
theorem dX4_isFree_66 : decode cX4_isFree 66 = .ok (.aload_n 2, 1) := by decide +kernel
theorem dX4_isFree_67 : decode cX4_isFree 67 = .ok (.iload_n 0, 1) := by decide +kernel
theorem dX4_isFree_68 : decode cX4_isFree 68 = .ok (.iload 4, 2) := by decide +kernel
