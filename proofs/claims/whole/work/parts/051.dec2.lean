theorem dX12_hasYesFor_7 : decode cX12_hasYesFor 7 = .ok (.aload_n 0, 1) := by decide +kernel
theorem dX12_hasYesFor_8 : decode cX12_hasYesFor 8 = .ok (.getfield 55, 3) := by decide +kernel
theorem dX12_hasYesFor_11 : decode cX12_hasYesFor 11 = .ok (.iload_n 3, 1) := by decide +kernel
theorem dX12_hasYesFor_12 : decode cX12_hasYesFor 12 = .ok (.iaload, 1) := by decide +kernel
theorem dX12_hasYesFor_13 : decode cX12_hasYesFor 13 = .ok (.iconst (-1), 1) := by decide +kernel
theorem dX12_hasYesFor_14 : decode cX12_hasYesFor 14 = .ok (.if_icmp .eq 31, 3) := by decide +kernel
theorem dX12_hasYesFor_17 : decode cX12_hasYesFor 17 = .ok (.aload_n 0, 1) := by decide +kernel
theorem dX12_hasYesFor_18 : decode cX12_hasYesFor 18 = .ok (.getfield 58, 3) := by decide +kernel
theorem dX12_hasYesFor_21 : decode cX12_hasYesFor 21 = .ok (.iload_n 3, 1) := by decide +kernel
theorem dX12_hasYesFor_22 : decode cX12_hasYesFor 22 = .ok (.baload, 1) := by decide +kernel
theorem dX12_hasYesFor_23 : decode cX12_hasYesFor 23 = .ok (.ifCond .ne 22, 3) := by decide +kernel
theorem dX12_hasYesFor_26 : decode cX12_hasYesFor 26 = .ok (.aload_n 0, 1) := by decide +kernel
theorem dX12_hasYesFor_27 : decode cX12_hasYesFor 27 = .ok (.getfield 186, 3) := by decide +kernel
theorem dX12_hasYesFor_30 : decode cX12_hasYesFor 30 = .ok (.aload_n 0, 1) := by decide +kernel
theorem dX12_hasYesFor_31 : decode cX12_hasYesFor 31 = .ok (.getfield 55, 3) := by decide +kernel
theorem dX12_hasYesFor_34 : decode cX12_hasYesFor 34 = .ok (.iload_n 3, 1) := by decide +kernel
theorem dX12_hasYesFor_35 : decode cX12_hasYesFor 35 = .ok (.iaload, 1) := by decide +kernel
theorem dX12_hasYesFor_36 : decode cX12_hasYesFor 36 = .ok (.iconst 3, 1) := by decide +kernel
theorem dX12_hasYesFor_37 : decode cX12_hasYesFor 37 = .ok (.iadd, 1) := by decide +kernel
theorem dX12_hasYesFor_38 : decode cX12_hasYesFor 38 = .ok (.if_icmp .lt 7, 3) := by decide +kernel
theorem dX12_hasYesFor_41 : decode cX12_hasYesFor 41 = .ok (.iconst 1, 1) := by decide +kernel
theorem dX12_hasYesFor_42 : decode cX12_hasYesFor 42 = .ok (.goto 4, 3) := by decide +kernel
theorem dX12_hasYesFor_45 : decode cX12_hasYesFor 45 = .ok (.iconst 0, 1) := by decide +kernel
theorem dX12_hasYesFor_46 : decode cX12_hasYesFor 46 = .ok (.ireturn, 1) := by decide +kernel
theorem dX12_needsYes_0 : decode cX12_needsYes 0 = .ok (.aload_n 0, 1) := by decide +kernel
theorem dX12_needsYes_1 : decode cX12_needsYes 1 = .ok (.getfield 52, 3) := by decide +kernel
theorem dX12_needsYes_4 : decode cX12_needsYes 4 = .ok (.iload_n 2, 1) := by decide +kernel
theorem dX12_needsYes_5 : decode cX12_needsYes 5 = .ok (.baload, 1) := by decide +kernel
theorem dX12_needsYes_6 : decode cX12_needsYes 6 = .ok (.ifCond .eq 39, 3) := by decide +kernel
theorem dX12_needsYes_9 : decode cX12_needsYes 9 = .ok (.aload_n 0, 1) := by decide +kernel
theorem dX12_needsYes_10 : decode cX12_needsYes 10 = .ok (.getfield 17, 3) := by decide +kernel
theorem dX12_needsYes_13 : decode cX12_needsYes 13 = .ok (.aload_n 0, 1) := by decide +kernel
theorem dX12_needsYes_14 : decode cX12_needsYes 14 = .ok (.getfield 26, 3) := by decide +kernel
theorem dX12_needsYes_17 : decode cX12_needsYes 17 = .ok (.iload_n 1, 1) := by decide +kernel
theorem dX12_needsYes_18 : decode cX12_needsYes 18 = .ok (.iaload, 1) := by decide +kernel
theorem dX12_needsYes_19 : decode cX12_needsYes 19 = .ok (.iaload, 1) := by decide +kernel
theorem dX12_needsYes_20 : decode cX12_needsYes 20 = .ok (.bipush 15, 2) := by decide +kernel
theorem dX12_needsYes_22 : decode cX12_needsYes 22 = .ok (.if_icmp .ge 19, 3) := by decide +kernel
theorem dX12_needsYes_25 : decode cX12_needsYes 25 = .ok (.aload_n 0, 1) := by decide +kernel
theorem dX12_needsYes_26 : decode cX12_needsYes 26 = .ok (.getfield 17, 3) := by decide +kernel
theorem dX12_needsYes_29 : decode cX12_needsYes 29 = .ok (.aload_n 0, 1) := by decide +kernel
theorem dX12_needsYes_30 : decode cX12_needsYes 30 = .ok (.getfield 29, 3) := by decide +kernel
theorem dX12_needsYes_33 : decode cX12_needsYes 33 = .ok (.iload_n 1, 1) := by decide +kernel
theorem dX12_needsYes_34 : decode cX12_needsYes 34 = .ok (.iaload, 1) := by decide +kernel
theorem dX12_needsYes_35 : decode cX12_needsYes 35 = .ok (.iaload, 1) := by decide +kernel
theorem dX12_needsYes_36 : decode cX12_needsYes 36 = .ok (.bipush 15, 2) := by decide +kernel
theorem dX12_needsYes_38 : decode cX12_needsYes 38 = .ok (.if_icmp .lt 7, 3) := by decide +kernel
theorem dX12_needsYes_41 : decode cX12_needsYes 41 = .ok (.iconst 1, 1) := by decide +kernel
theorem dX12_needsYes_42 : decode cX12_needsYes 42 = .ok (.goto 4, 3) := by decide +kernel
theorem dX12_needsYes_45 : decode cX12_needsYes 45 = .ok (.iconst 0, 1) := by decide +kernel
theorem dX12_needsYes_46 : decode cX12_needsYes 46 = .ok (.ireturn, 1) := by decide +kernel
theorem dX12_areAllKept_0 : decode cX12_areAllKept 0 = .ok (.iconst 1, 1) := by decide +kernel
theorem dX12_areAllKept_1 : decode cX12_areAllKept 1 = .ok (.istore_n 1, 1) := by decide +kernel
theorem dX12_areAllKept_2 : decode cX12_areAllKept 2 = .ok (.iconst 0, 1) := by decide +kernel
theorem dX12_areAllKept_3 : decode cX12_areAllKept 3 = .ok (.istore_n 2, 1) := by decide +kernel
theorem dX12_areAllKept_4 : decode cX12_areAllKept 4 = .ok (.iload_n 2, 1) := by decide +kernel
theorem dX12_areAllKept_5 : decode cX12_areAllKept 5 = .ok (.aload_n 0, 1) := by decide +kernel
theorem dX12_areAllKept_6 : decode cX12_areAllKept 6 = .ok (.getfield 108, 3) := by decide +kernel
theorem dX12_areAllKept_9 : decode cX12_areAllKept 9 = .ok (.if_icmp .ge 46, 3) := by decide +kernel
theorem dX12_areAllKept_12 : decode cX12_areAllKept 12 = .ok (.iload_n 1, 1) := by decide +kernel
theorem dX12_areAllKept_13 : decode cX12_areAllKept 13 = .ok (.ifCond .eq 34, 3) := by decide +kernel
theorem dX12_areAllKept_16 : decode cX12_areAllKept 16 = .ok (.aload_n 0, 1) := by decide +kernel
theorem dX12_areAllKept_17 : decode cX12_areAllKept 17 = .ok (.getfield 35, 3) := by decide +kernel
theorem dX12_areAllKept_20 : decode cX12_areAllKept 20 = .ok (.iload_n 2, 1) := by decide +kernel
theorem dX12_areAllKept_21 : decode cX12_areAllKept 21 = .ok (.baload, 1) := by decide +kernel
theorem dX12_areAllKept_22 : decode cX12_areAllKept 22 = .ok (.ifCond .eq 21, 3) := by decide +kernel
theorem dX12_areAllKept_25 : decode cX12_areAllKept 25 = .ok (.aload_n 0, 1) := by decide +kernel
theorem dX12_areAllKept_26 : decode cX12_areAllKept 26 = .ok (.getfield 39, 3) := by decide +kernel
theorem dX12_areAllKept_29 : decode cX12_areAllKept 29 = .ok (.iload_n 2, 1) := by decide +kernel
theorem dX12_areAllKept_30 : decode cX12_areAllKept 30 = .ok (.iaload, 1) := by decide +kernel
theorem dX12_areAllKept_31 : decode cX12_areAllKept 31 = .ok (.iconst (-1), 1) := by decide +kernel
theorem dX12_areAllKept_32 : decode cX12_areAllKept 32 = .ok (.if_icmp .eq 11, 3) := by decide +kernel
theorem dX12_areAllKept_35 : decode cX12_areAllKept 35 = .ok (.aload_n 0, 1) := by decide +kernel
theorem dX12_areAllKept_36 : decode cX12_areAllKept 36 = .ok (.iload_n 2, 1) := by decide +kernel
theorem dX12_areAllKept_37 : decode cX12_areAllKept 37 = .ok (.invokevirtual 172, 3) := by decide +kernel
theorem dX12_areAllKept_40 : decode cX12_areAllKept 40 = .ok (.ifCond .eq 7, 3) := by decide +kernel
theorem dX12_areAllKept_43 : decode cX12_areAllKept 43 = .ok (.iconst 1, 1) := by decide +kernel
theorem dX12_areAllKept_44 : decode cX12_areAllKept 44 = .ok (.goto 4, 3) := by decide +kernel
theorem dX12_areAllKept_47 : decode cX12_areAllKept 47 = .ok (.iconst 0, 1) := by decide +kernel
theorem dX12_areAllKept_48 : decode cX12_areAllKept 48 = .ok (.istore_n 1, 1) := by decide +kernel
theorem dX12_areAllKept_49 : decode cX12_areAllKept 49 = .ok (.iinc 2 1, 3) := by decide +kernel
theorem dX12_areAllKept_52 : decode cX12_areAllKept 52 = .ok (.goto (-48), 3) := by decide +kernel
theorem dX12_areAllKept_55 : decode cX12_areAllKept 55 = .ok (.iload_n 1, 1) := by decide +kernel
theorem dX12_areAllKept_56 : decode cX12_areAllKept 56 = .ok (.ireturn, 1) := by decide +kernel
theorem dX12_goesOffFor_0 : decode cX12_goesOffFor 0 = .ok (.aload_n 0, 1) := by decide +kernel
theorem dX12_goesOffFor_1 : decode cX12_goesOffFor 1 = .ok (.getfield 35, 3) := by decide +kernel
theorem dX12_goesOffFor_4 : decode cX12_goesOffFor 4 = .ok (.iload_n 2, 1) := by decide +kernel
theorem dX12_goesOffFor_5 : decode cX12_goesOffFor 5 = .ok (.baload, 1) := by decide +kernel
theorem dX12_goesOffFor_6 : decode cX12_goesOffFor 6 = .ok (.ifCond .eq 47, 3) := by decide +kernel
theorem dX12_goesOffFor_9 : decode cX12_goesOffFor 9 = .ok (.iload_n 1, 1) := by decide +kernel
theorem dX12_goesOffFor_10 : decode cX12_goesOffFor 10 = .ok (.iload_n 2, 1) := by decide +kernel
theorem dX12_goesOffFor_11 : decode cX12_goesOffFor 11 = .ok (.if_icmp .eq 42, 3) := by decide +kernel
theorem dX12_goesOffFor_14 : decode cX12_goesOffFor 14 = .ok (.aload_n 0, 1) := by decide +kernel
theorem dX12_goesOffFor_15 : decode cX12_goesOffFor 15 = .ok (.getfield 35, 3) := by decide +kernel
theorem dX12_goesOffFor_18 : decode cX12_goesOffFor 18 = .ok (.iload_n 1, 1) := by decide +kernel
theorem dX12_goesOffFor_19 : decode cX12_goesOffFor 19 = .ok (.baload, 1) := by decide +kernel
theorem dX12_goesOffFor_20 : decode cX12_goesOffFor 20 = .ok (.ifCond .ne 33, 3) := by decide +kernel
theorem dX12_goesOffFor_23 : decode cX12_goesOffFor 23 = .ok (.aload_n 0, 1) := by decide +kernel
theorem dX12_goesOffFor_24 : decode cX12_goesOffFor 24 = .ok (.getfield 39, 3) := by decide +kernel
theorem dX12_goesOffFor_27 : decode cX12_goesOffFor 27 = .ok (.iload_n 1, 1) := by decide +kernel
theorem dX12_goesOffFor_28 : decode cX12_goesOffFor 28 = .ok (.iaload, 1) := by decide +kernel
theorem dX12_goesOffFor_29 : decode cX12_goesOffFor 29 = .ok (.iconst (-1), 1) := by decide +kernel
theorem dX12_goesOffFor_30 : decode cX12_goesOffFor 30 = .ok (.if_icmp .eq 23, 3) := by decide +kernel
theorem dX12_goesOffFor_33 : decode cX12_goesOffFor 33 = .ok (.aload_n 0, 1) := by decide +kernel
theorem dX12_goesOffFor_34 : decode cX12_goesOffFor 34 = .ok (.iload_n 2, 1) := by decide +kernel
theorem dX12_goesOffFor_35 : decode cX12_goesOffFor 35 = .ok (.iload_n 3, 1) := by decide +kernel
theorem dX12_goesOffFor_36 : decode cX12_goesOffFor 36 = .ok (.iload_n 1, 1) := by decide +kernel
theorem dX12_goesOffFor_37 : decode cX12_goesOffFor 37 = .ok (.aload_n 0, 1) := by decide +kernel
theorem dX12_goesOffFor_38 : decode cX12_goesOffFor 38 = .ok (.getfield 39, 3) := by decide +kernel
theorem dX12_goesOffFor_41 : decode cX12_goesOffFor 41 = .ok (.iload_n 1, 1) := by decide +kernel
theorem dX12_goesOffFor_42 : decode cX12_goesOffFor 42 = .ok (.iaload, 1) := by decide +kernel
theorem dX12_goesOffFor_43 : decode cX12_goesOffFor 43 = .ok (.invokevirtual 178, 3) := by decide +kernel
theorem dX12_goesOffFor_46 : decode cX12_goesOffFor 46 = .ok (.ifCond .eq 7, 3) := by decide +kernel
theorem dX12_goesOffFor_49 : decode cX12_goesOffFor 49 = .ok (.iconst 1, 1) := by decide +kernel
theorem dX12_goesOffFor_50 : decode cX12_goesOffFor 50 = .ok (.goto 4, 3) := by decide +kernel
theorem dX12_goesOffFor_53 : decode cX12_goesOffFor 53 = .ok (.iconst 0, 1) := by decide +kernel
theorem dX12_goesOffFor_54 : decode cX12_goesOffFor 54 = .ok (.ireturn, 1) := by decide +kernel
theorem dX12_putOn_0 : decode cX12_putOn 0 = .ok (.aload_n 0, 1) := by decide +kernel
theorem dX12_putOn_1 : decode cX12_putOn 1 = .ok (.iconst 0, 1) := by decide +kernel
theorem dX12_putOn_2 : decode cX12_putOn 2 = .ok (.putfield 98, 3) := by decide +kernel
theorem dX12_putOn_5 : decode cX12_putOn 5 = .ok (.aload_n 0, 1) := by decide +kernel
theorem dX12_putOn_6 : decode cX12_putOn 6 = .ok (.aload_n 0, 1) := by decide +kernel
theorem dX12_putOn_7 : decode cX12_putOn 7 = .ok (.iload_n 1, 1) := by decide +kernel
theorem dX12_putOn_8 : decode cX12_putOn 8 = .ok (.invokevirtual 153, 3) := by decide +kernel
theorem dX12_putOn_11 : decode cX12_putOn 11 = .ok (.iconst 1, 1) := by decide +kernel
theorem dX12_putOn_12 : decode cX12_putOn 12 = .ok (.invokevirtual 115, 3) := by decide +kernel
theorem dX12_putOn_15 : decode cX12_putOn 15 = .ok (.ifCond .ne 46, 3) := by decide +kernel
theorem dX12_putOn_18 : decode cX12_putOn 18 = .ok (.aload_n 0, 1) := by decide +kernel
theorem dX12_putOn_19 : decode cX12_putOn 19 = .ok (.iload_n 2, 1) := by decide +kernel
theorem dX12_putOn_20 : decode cX12_putOn 20 = .ok (.invokestatic 175, 3) := by decide +kernel
theorem dX12_putOn_23 : decode cX12_putOn 23 = .ok (.iconst 2, 1) := by decide +kernel
theorem dX12_putOn_24 : decode cX12_putOn 24 = .ok (.invokevirtual 115, 3) := by decide +kernel
theorem dX12_putOn_27 : decode cX12_putOn 27 = .ok (.ifCond .ne 34, 3) := by decide +kernel
theorem dX12_putOn_30 : decode cX12_putOn 30 = .ok (.aload_n 0, 1) := by decide +kernel
theorem dX12_putOn_31 : decode cX12_putOn 31 = .ok (.aload_n 0, 1) := by decide +kernel
theorem dX12_putOn_32 : decode cX12_putOn 32 = .ok (.iload_n 1, 1) := by decide +kernel
theorem dX12_putOn_33 : decode cX12_putOn 33 = .ok (.iload_n 2, 1) := by decide +kernel
theorem dX12_putOn_34 : decode cX12_putOn 34 = .ok (.invokevirtual 195, 3) := by decide +kernel
theorem dX12_putOn_37 : decode cX12_putOn 37 = .ok (.ifCond .eq 16, 3) := by decide +kernel
theorem dX12_putOn_40 : decode cX12_putOn 40 = .ok (.aload_n 0, 1) := by decide +kernel
theorem dX12_putOn_41 : decode cX12_putOn 41 = .ok (.iload_n 1, 1) := by decide +kernel
theorem dX12_putOn_42 : decode cX12_putOn 42 = .ok (.iload_n 2, 1) := by decide +kernel
theorem dX12_putOn_43 : decode cX12_putOn 43 = .ok (.invokevirtual 198, 3) := by decide +kernel
theorem dX12_putOn_46 : decode cX12_putOn 46 = .ok (.ifCond .ne 7, 3) := by decide +kernel
theorem dX12_putOn_49 : decode cX12_putOn 49 = .ok (.iconst 1, 1) := by decide +kernel
theorem dX12_putOn_50 : decode cX12_putOn 50 = .ok (.goto 4, 3) := by decide +kernel
theorem dX12_putOn_53 : decode cX12_putOn 53 = .ok (.iconst 0, 1) := by decide +kernel
theorem dX12_putOn_54 : decode cX12_putOn 54 = .ok (.iconst 3, 1) := by decide +kernel
theorem dX12_putOn_55 : decode cX12_putOn 55 = .ok (.invokevirtual 115, 3) := by decide +kernel
theorem dX12_putOn_58 : decode cX12_putOn 58 = .ok (.ifCond .eq 5, 3) := by decide +kernel
theorem dX12_putOn_61 : decode cX12_putOn 61 = .ok (.iconst 0, 1) := by decide +kernel
theorem dX12_putOn_62 : decode cX12_putOn 62 = .ok (.ireturn, 1) := by decide +kernel
theorem dX12_putOn_63 : decode cX12_putOn 63 = .ok (.iconst 0, 1) := by decide +kernel
theorem dX12_putOn_64 : decode cX12_putOn 64 = .ok (.istore_n 3, 1) := by decide +kernel
theorem dX12_putOn_65 : decode cX12_putOn 65 = .ok (.iconst 0, 1) := by decide +kernel
theorem dX12_putOn_66 : decode cX12_putOn 66 = .ok (.istore 4, 2) := by decide +kernel
theorem dX12_putOn_68 : decode cX12_putOn 68 = .ok (.iload 4, 2) := by decide +kernel
theorem dX12_putOn_70 : decode cX12_putOn 70 = .ok (.aload_n 0, 1) := by decide +kernel
theorem dX12_putOn_71 : decode cX12_putOn 71 = .ok (.getfield 108, 3) := by decide +kernel
theorem dX12_putOn_74 : decode cX12_putOn 74 = .ok (.if_icmp .ge 23, 3) := by decide +kernel
theorem dX12_putOn_77 : decode cX12_putOn 77 = .ok (.aload_n 0, 1) := by decide +kernel
theorem dX12_putOn_78 : decode cX12_putOn 78 = .ok (.getfield 86, 3) := by decide +kernel
theorem dX12_putOn_81 : decode cX12_putOn 81 = .ok (.iload 4, 2) := by decide +kernel
theorem dX12_putOn_83 : decode cX12_putOn 83 = .ok (.aload_n 0, 1) := by decide +kernel
theorem dX12_putOn_84 : decode cX12_putOn 84 = .ok (.getfield 39, 3) := by decide +kernel
theorem dX12_putOn_87 : decode cX12_putOn 87 = .ok (.iload 4, 2) := by decide +kernel
theorem dX12_putOn_89 : decode cX12_putOn 89 = .ok (.iaload, 1) := by decide +kernel
theorem dX12_putOn_90 : decode cX12_putOn 90 = .ok (.iastore, 1) := by decide +kernel
theorem dX12_putOn_91 : decode cX12_putOn 91 = .ok (.iinc 4 1, 3) := by decide +kernel
theorem dX12_putOn_94 : decode cX12_putOn 94 = .ok (.goto (-26), 3) := by decide +kernel
theorem dX12_putOn_97 : decode cX12_putOn 97 = .ok (.aload_n 0, 1) := by decide +kernel
theorem dX12_putOn_98 : decode cX12_putOn 98 = .ok (.getfield 108, 3) := by decide +kernel
theorem dX12_putOn_101 : decode cX12_putOn 101 = .ok (.iconst 1, 1) := by decide +kernel
theorem dX12_putOn_102 : decode cX12_putOn 102 = .ok (.isub, 1) := by decide +kernel
theorem dX12_putOn_103 : decode cX12_putOn 103 = .ok (.istore 4, 2) := by decide +kernel
theorem dX12_putOn_105 : decode cX12_putOn 105 = .ok (.iload 4, 2) := by decide +kernel
theorem dX12_putOn_107 : decode cX12_putOn 107 = .ok (.ifCond .lt 31, 3) := by decide +kernel
theorem dX12_putOn_110 : decode cX12_putOn 110 = .ok (.aload_n 0, 1) := by decide +kernel
theorem dX12_putOn_111 : decode cX12_putOn 111 = .ok (.iload 4, 2) := by decide +kernel
theorem dX12_putOn_113 : decode cX12_putOn 113 = .ok (.iload_n 1, 1) := by decide +kernel
theorem dX12_putOn_114 : decode cX12_putOn 114 = .ok (.iload_n 2, 1) := by decide +kernel
theorem dX12_putOn_115 : decode cX12_putOn 115 = .ok (.invokevirtual 201, 3) := by decide +kernel
theorem dX12_putOn_118 : decode cX12_putOn 118 = .ok (.ifCond .eq 14, 3) := by decide +kernel
theorem dX12_putOn_121 : decode cX12_putOn 121 = .ok (.aload_n 0, 1) := by decide +kernel
theorem dX12_putOn_122 : decode cX12_putOn 122 = .ok (.getfield 39, 3) := by decide +kernel
theorem dX12_putOn_125 : decode cX12_putOn 125 = .ok (.iload 4, 2) := by decide +kernel
theorem dX12_putOn_127 : decode cX12_putOn 127 = .ok (.iconst (-1), 1) := by decide +kernel
theorem dX12_putOn_128 : decode cX12_putOn 128 = .ok (.iastore, 1) := by decide +kernel
theorem dX12_putOn_129 : decode cX12_putOn 129 = .ok (.iinc 3 1, 3) := by decide +kernel
theorem dX12_putOn_132 : decode cX12_putOn 132 = .ok (.iinc 4 (-1), 3) := by decide +kernel
theorem dX12_putOn_135 : decode cX12_putOn 135 = .ok (.goto (-30), 3) := by decide +kernel
theorem dX12_putOn_138 : decode cX12_putOn 138 = .ok (.aload_n 0, 1) := by decide +kernel
theorem dX12_putOn_139 : decode cX12_putOn 139 = .ok (.getfield 39, 3) := by decide +kernel
theorem dX12_putOn_142 : decode cX12_putOn 142 = .ok (.iload_n 1, 1) := by decide +kernel
theorem dX12_putOn_143 : decode cX12_putOn 143 = .ok (.iload_n 2, 1) := by decide +kernel
theorem dX12_putOn_144 : decode cX12_putOn 144 = .ok (.iastore, 1) := by decide +kernel
theorem dX12_putOn_145 : decode cX12_putOn 145 = .ok (.aload_n 0, 1) := by decide +kernel
theorem dX12_putOn_146 : decode cX12_putOn 146 = .ok (.invokevirtual 204, 3) := by decide +kernel
theorem dX12_putOn_149 : decode cX12_putOn 149 = .ok (.istore 4, 2) := by decide +kernel
theorem dX12_putOn_151 : decode cX12_putOn 151 = .ok (.iconst 0, 1) := by decide +kernel
theorem dX12_putOn_152 : decode cX12_putOn 152 = .ok (.istore 5, 2) := by decide +kernel
theorem dX12_putOn_154 : decode cX12_putOn 154 = .ok (.iload 5, 2) := by decide +kernel
theorem dX12_putOn_156 : decode cX12_putOn 156 = .ok (.aload_n 0, 1) := by decide +kernel
theorem dX12_putOn_157 : decode cX12_putOn 157 = .ok (.getfield 108, 3) := by decide +kernel
theorem dX12_putOn_160 : decode cX12_putOn 160 = .ok (.if_icmp .ge 37, 3) := by decide +kernel
theorem dX12_putOn_163 : decode cX12_putOn 163 = .ok (.aload_n 0, 1) := by decide +kernel
theorem dX12_putOn_164 : decode cX12_putOn 164 = .ok (.getfield 89, 3) := by decide +kernel
theorem dX12_putOn_167 : decode cX12_putOn 167 = .ok (.iload 5, 2) := by decide +kernel
theorem dX12_putOn_169 : decode cX12_putOn 169 = .ok (.aload_n 0, 1) := by decide +kernel
theorem dX12_putOn_170 : decode cX12_putOn 170 = .ok (.getfield 39, 3) := by decide +kernel
theorem dX12_putOn_173 : decode cX12_putOn 173 = .ok (.iload 5, 2) := by decide +kernel
theorem dX12_putOn_175 : decode cX12_putOn 175 = .ok (.iaload, 1) := by decide +kernel
theorem dX12_putOn_176 : decode cX12_putOn 176 = .ok (.iastore, 1) := by decide +kernel
theorem dX12_putOn_177 : decode cX12_putOn 177 = .ok (.aload_n 0, 1) := by decide +kernel
theorem dX12_putOn_178 : decode cX12_putOn 178 = .ok (.getfield 39, 3) := by decide +kernel
theorem dX12_putOn_181 : decode cX12_putOn 181 = .ok (.iload 5, 2) := by decide +kernel
theorem dX12_putOn_183 : decode cX12_putOn 183 = .ok (.aload_n 0, 1) := by decide +kernel
theorem dX12_putOn_184 : decode cX12_putOn 184 = .ok (.getfield 86, 3) := by decide +kernel
theorem dX12_putOn_187 : decode cX12_putOn 187 = .ok (.iload 5, 2) := by decide +kernel
theorem dX12_putOn_189 : decode cX12_putOn 189 = .ok (.iaload, 1) := by decide +kernel
theorem dX12_putOn_190 : decode cX12_putOn 190 = .ok (.iastore, 1) := by decide +kernel
theorem dX12_putOn_191 : decode cX12_putOn 191 = .ok (.iinc 5 1, 3) := by decide +kernel
theorem dX12_putOn_194 : decode cX12_putOn 194 = .ok (.goto (-40), 3) := by decide +kernel
theorem dX12_putOn_197 : decode cX12_putOn 197 = .ok (.aload_n 0, 1) := by decide +kernel
theorem dX12_putOn_198 : decode cX12_putOn 198 = .ok (.iload 4, 2) := by decide +kernel
theorem dX12_putOn_200 : decode cX12_putOn 200 = .ok (.ifCond .ne 7, 3) := by decide +kernel
theorem dX12_putOn_203 : decode cX12_putOn 203 = .ok (.iconst 1, 1) := by decide +kernel
theorem dX12_putOn_204 : decode cX12_putOn 204 = .ok (.goto 4, 3) := by decide +kernel
theorem dX12_putOn_207 : decode cX12_putOn 207 = .ok (.iconst 0, 1) := by decide +kernel
theorem dX12_putOn_208 : decode cX12_putOn 208 = .ok (.iconst 4, 1) := by decide +kernel
theorem dX12_putOn_209 : decode cX12_putOn 209 = .ok (.invokevirtual 115, 3) := by decide +kernel
theorem dX12_putOn_212 : decode cX12_putOn 212 = .ok (.ifCond .eq 5, 3) := by decide +kernel
theorem dX12_putOn_215 : decode cX12_putOn 215 = .ok (.iconst 0, 1) := by decide +kernel
theorem dX12_putOn_216 : decode cX12_putOn 216 = .ok (.ireturn, 1) := by decide +kernel
theorem dX12_putOn_217 : decode cX12_putOn 217 = .ok (.iconst 0, 1) := by decide +kernel
theorem dX12_putOn_218 : decode cX12_putOn 218 = .ok (.istore 5, 2) := by decide +kernel
theorem dX12_putOn_220 : decode cX12_putOn 220 = .ok (.iload 5, 2) := by decide +kernel
theorem dX12_putOn_222 : decode cX12_putOn 222 = .ok (.aload_n 0, 1) := by decide +kernel
theorem dX12_putOn_223 : decode cX12_putOn 223 = .ok (.getfield 108, 3) := by decide +kernel
theorem dX12_putOn_226 : decode cX12_putOn 226 = .ok (.if_icmp .ge 39, 3) := by decide +kernel
theorem dX12_putOn_229 : decode cX12_putOn 229 = .ok (.aload_n 0, 1) := by decide +kernel
theorem dX12_putOn_230 : decode cX12_putOn 230 = .ok (.getfield 89, 3) := by decide +kernel
theorem dX12_putOn_233 : decode cX12_putOn 233 = .ok (.iload 5, 2) := by decide +kernel
theorem dX12_putOn_235 : decode cX12_putOn 235 = .ok (.iaload, 1) := by decide +kernel
theorem dX12_putOn_236 : decode cX12_putOn 236 = .ok (.aload_n 0, 1) := by decide +kernel
theorem dX12_putOn_237 : decode cX12_putOn 237 = .ok (.getfield 86, 3) := by decide +kernel
theorem dX12_putOn_240 : decode cX12_putOn 240 = .ok (.iload 5, 2) := by decide +kernel
theorem dX12_putOn_242 : decode cX12_putOn 242 = .ok (.iaload, 1) := by decide +kernel
theorem dX12_putOn_243 : decode cX12_putOn 243 = .ok (.if_icmp .eq 16, 3) := by decide +kernel
theorem dX12_putOn_246 : decode cX12_putOn 246 = .ok (.aload_n 0, 1) := by decide +kernel
theorem dX12_putOn_247 : decode cX12_putOn 247 = .ok (.iload 5, 2) := by decide +kernel
theorem dX12_putOn_249 : decode cX12_putOn 249 = .ok (.aload_n 0, 1) := by decide +kernel
theorem dX12_putOn_250 : decode cX12_putOn 250 = .ok (.getfield 89, 3) := by decide +kernel
theorem dX12_putOn_253 : decode cX12_putOn 253 = .ok (.iload 5, 2) := by decide +kernel
theorem dX12_putOn_255 : decode cX12_putOn 255 = .ok (.iaload, 1) := by decide +kernel
theorem dX12_putOn_256 : decode cX12_putOn 256 = .ok (.invokevirtual 207, 3) := by decide +kernel
theorem dX12_putOn_259 : decode cX12_putOn 259 = .ok (.iinc 5 1, 3) := by decide +kernel
theorem dX12_putOn_262 : decode cX12_putOn 262 = .ok (.goto (-42), 3) := by decide +kernel
theorem dX12_putOn_265 : decode cX12_putOn 265 = .ok (.iload_n 3, 1) := by decide +kernel
theorem dX12_putOn_266 : decode cX12_putOn 266 = .ok (.ireturn, 1) := by decide +kernel
theorem dX12_putOff_0 : decode cX12_putOff 0 = .ok (.aload_n 0, 1) := by decide +kernel
theorem dX12_putOff_1 : decode cX12_putOff 1 = .ok (.iconst 0, 1) := by decide +kernel
theorem dX12_putOff_2 : decode cX12_putOff 2 = .ok (.putfield 98, 3) := by decide +kernel
theorem dX12_putOff_5 : decode cX12_putOff 5 = .ok (.aload_n 0, 1) := by decide +kernel
theorem dX12_putOff_6 : decode cX12_putOff 6 = .ok (.aload_n 0, 1) := by decide +kernel
theorem dX12_putOff_7 : decode cX12_putOff 7 = .ok (.iload_n 1, 1) := by decide +kernel
theorem dX12_putOff_8 : decode cX12_putOff 8 = .ok (.invokevirtual 153, 3) := by decide +kernel
theorem dX12_putOff_11 : decode cX12_putOff 11 = .ok (.iconst 1, 1) := by decide +kernel
theorem dX12_putOff_12 : decode cX12_putOff 12 = .ok (.invokevirtual 115, 3) := by decide +kernel
theorem dX12_putOff_15 : decode cX12_putOff 15 = .ok (.ifCond .eq 5, 3) := by decide +kernel
theorem dX12_putOff_18 : decode cX12_putOff 18 = .ok (.iconst 0, 1) := by decide +kernel
theorem dX12_putOff_19 : decode cX12_putOff 19 = .ok (.ireturn, 1) := by decide +kernel
theorem dX12_putOff_20 : decode cX12_putOff 20 = .ok (.aload_n 0, 1) := by decide +kernel
theorem dX12_putOff_21 : decode cX12_putOff 21 = .ok (.getfield 39, 3) := by decide +kernel
theorem dX12_putOff_24 : decode cX12_putOff 24 = .ok (.iload_n 1, 1) := by decide +kernel
theorem dX12_putOff_25 : decode cX12_putOff 25 = .ok (.iaload, 1) := by decide +kernel
theorem dX12_putOff_26 : decode cX12_putOff 26 = .ok (.istore_n 2, 1) := by decide +kernel
theorem dX12_putOff_27 : decode cX12_putOff 27 = .ok (.aload_n 0, 1) := by decide +kernel
theorem dX12_putOff_28 : decode cX12_putOff 28 = .ok (.iload_n 1, 1) := by decide +kernel
theorem dX12_putOff_29 : decode cX12_putOff 29 = .ok (.iconst (-1), 1) := by decide +kernel
theorem dX12_putOff_30 : decode cX12_putOff 30 = .ok (.invokevirtual 207, 3) := by decide +kernel
theorem dX12_putOff_33 : decode cX12_putOff 33 = .ok (.iload_n 2, 1) := by decide +kernel
theorem dX12_putOff_34 : decode cX12_putOff 34 = .ok (.ireturn, 1) := by decide +kernel
theorem dX12_channelOf_0 : decode cX12_channelOf 0 = .ok (.aload_n 0, 1) := by decide +kernel
theorem dX12_channelOf_1 : decode cX12_channelOf 1 = .ok (.iconst 0, 1) := by decide +kernel
theorem dX12_channelOf_2 : decode cX12_channelOf 2 = .ok (.putfield 98, 3) := by decide +kernel
theorem dX12_channelOf_5 : decode cX12_channelOf 5 = .ok (.aload_n 0, 1) := by decide +kernel
theorem dX12_channelOf_6 : decode cX12_channelOf 6 = .ok (.aload_n 0, 1) := by decide +kernel
theorem dX12_channelOf_7 : decode cX12_channelOf 7 = .ok (.iload_n 1, 1) := by decide +kernel
theorem dX12_channelOf_8 : decode cX12_channelOf 8 = .ok (.invokevirtual 153, 3) := by decide +kernel
theorem dX12_channelOf_11 : decode cX12_channelOf 11 = .ok (.iconst 1, 1) := by decide +kernel
theorem dX12_channelOf_12 : decode cX12_channelOf 12 = .ok (.invokevirtual 115, 3) := by decide +kernel
theorem dX12_channelOf_15 : decode cX12_channelOf 15 = .ok (.ifCond .ne 28, 3) := by decide +kernel
theorem dX12_channelOf_18 : decode cX12_channelOf 18 = .ok (.aload_n 0, 1) := by decide +kernel
theorem dX12_channelOf_19 : decode cX12_channelOf 19 = .ok (.iload_n 2, 1) := by decide +kernel
theorem dX12_channelOf_20 : decode cX12_channelOf 20 = .ok (.iconst 0, 1) := by decide +kernel
theorem dX12_channelOf_21 : decode cX12_channelOf 21 = .ok (.aload_n 0, 1) := by decide +kernel
theorem dX12_channelOf_22 : decode cX12_channelOf 22 = .ok (.getfield 186, 3) := by decide +kernel
theorem dX12_channelOf_25 : decode cX12_channelOf 25 = .ok (.invokestatic 101, 3) := by decide +kernel
theorem dX12_channelOf_28 : decode cX12_channelOf 28 = .ok (.ifCond .ne 7, 3) := by decide +kernel
theorem dX12_channelOf_31 : decode cX12_channelOf 31 = .ok (.iconst 1, 1) := by decide +kernel
theorem dX12_channelOf_32 : decode cX12_channelOf 32 = .ok (.goto 4, 3) := by decide +kernel
theorem dX12_channelOf_35 : decode cX12_channelOf 35 = .ok (.iconst 0, 1) := by decide +kernel
theorem dX12_channelOf_36 : decode cX12_channelOf 36 = .ok (.iconst 2, 1) := by decide +kernel
theorem dX12_channelOf_37 : decode cX12_channelOf 37 = .ok (.invokevirtual 115, 3) := by decide +kernel
theorem dX12_channelOf_40 : decode cX12_channelOf 40 = .ok (.ifCond .eq 5, 3) := by decide +kernel
theorem dX12_channelOf_43 : decode cX12_channelOf 43 = .ok (.iconst 0, 1) := by decide +kernel
theorem dX12_channelOf_44 : decode cX12_channelOf 44 = .ok (.ireturn, 1) := by decide +kernel
theorem dX12_channelOf_45 : decode cX12_channelOf 45 = .ok (.iconst (-1), 1) := by decide +kernel
theorem dX12_channelOf_46 : decode cX12_channelOf 46 = .ok (.istore_n 3, 1) := by decide +kernel
theorem dX12_channelOf_47 : decode cX12_channelOf 47 = .ok (.aload_n 0, 1) := by decide +kernel
theorem dX12_channelOf_48 : decode cX12_channelOf 48 = .ok (.getfield 48, 3) := by decide +kernel
theorem dX12_channelOf_51 : decode cX12_channelOf 51 = .ok (.iload_n 1, 1) := by decide +kernel
theorem dX12_channelOf_52 : decode cX12_channelOf 52 = .ok (.invokevirtual 182, 3) := by decide +kernel
theorem dX12_channelOf_55 : decode cX12_channelOf 55 = .ok (.checkcast 45, 3) := by decide +kernel
theorem dX12_channelOf_58 : decode cX12_channelOf 58 = .ok (.astore 4, 2) := by decide +kernel
theorem dX12_channelOf_60 : decode cX12_channelOf 60 = .ok (.iconst 0, 1) := by decide +kernel
theorem dX12_channelOf_61 : decode cX12_channelOf 61 = .ok (.istore 5, 2) := by decide +kernel
theorem dX12_channelOf_63 : decode cX12_channelOf 63 = .ok (.iload 5, 2) := by decide +kernel
theorem dX12_channelOf_65 : decode cX12_channelOf 65 = .ok (.aload 4, 2) := by decide +kernel
theorem dX12_channelOf_67 : decode cX12_channelOf 67 = .ok (.invokevirtual 211, 3) := by decide +kernel
theorem dX12_channelOf_70 : decode cX12_channelOf 70 = .ok (.if_icmp .ge 46, 3) := by decide +kernel
theorem dX12_channelOf_73 : decode cX12_channelOf 73 = .ok (.aload 4, 2) := by decide +kernel
theorem dX12_channelOf_75 : decode cX12_channelOf 75 = .ok (.iload 5, 2) := by decide +kernel
theorem dX12_channelOf_77 : decode cX12_channelOf 77 = .ok (.invokevirtual 182, 3) := by decide +kernel
theorem dX12_channelOf_80 : decode cX12_channelOf 80 = .ok (.checkcast 190, 3) := by decide +kernel
theorem dX12_channelOf_83 : decode cX12_channelOf 83 = .ok (.invokevirtual 215, 3) := by decide +kernel
theorem dX12_channelOf_86 : decode cX12_channelOf 86 = .ok (.iload_n 2, 1) := by decide +kernel
theorem dX12_channelOf_87 : decode cX12_channelOf 87 = .ok (.if_icmp .gt 21, 3) := by decide +kernel
theorem dX12_channelOf_90 : decode cX12_channelOf 90 = .ok (.aload 4, 2) := by decide +kernel
theorem dX12_channelOf_92 : decode cX12_channelOf 92 = .ok (.iload 5, 2) := by decide +kernel
theorem dX12_channelOf_94 : decode cX12_channelOf 94 = .ok (.iconst 1, 1) := by decide +kernel
theorem dX12_channelOf_95 : decode cX12_channelOf 95 = .ok (.iadd, 1) := by decide +kernel
theorem dX12_channelOf_96 : decode cX12_channelOf 96 = .ok (.invokevirtual 182, 3) := by decide +kernel
theorem dX12_channelOf_99 : decode cX12_channelOf 99 = .ok (.checkcast 190, 3) := by decide +kernel
theorem dX12_channelOf_102 : decode cX12_channelOf 102 = .ok (.invokevirtual 215, 3) := by decide +kernel
theorem dX12_channelOf_105 : decode cX12_channelOf 105 = .ok (.goto 4, 3) := by decide +kernel
theorem dX12_channelOf_108 : decode cX12_channelOf 108 = .ok (.iload_n 3, 1) := by decide +kernel
theorem dX12_channelOf_109 : decode cX12_channelOf 109 = .ok (.istore_n 3, 1) := by decide +kernel
theorem dX12_channelOf_110 : decode cX12_channelOf 110 = .ok (.iinc 5 2, 3) := by decide +kernel
theorem dX12_channelOf_113 : decode cX12_channelOf 113 = .ok (.goto (-50), 3) := by decide +kernel
theorem dX12_channelOf_116 : decode cX12_channelOf 116 = .ok (.iload_n 3, 1) := by decide +kernel
theorem dX12_channelOf_117 : decode cX12_channelOf 117 = .ok (.ireturn, 1) := by decide +kernel
theorem dX12_setForeign_0 : decode cX12_setForeign 0 = .ok (.aload_n 0, 1) := by decide +kernel
theorem dX12_setForeign_1 : decode cX12_setForeign 1 = .ok (.iconst 0, 1) := by decide +kernel
theorem dX12_setForeign_2 : decode cX12_setForeign 2 = .ok (.putfield 98, 3) := by decide +kernel
theorem dX12_setForeign_5 : decode cX12_setForeign 5 = .ok (.aload_n 0, 1) := by decide +kernel
theorem dX12_setForeign_6 : decode cX12_setForeign 6 = .ok (.iload_n 1, 1) := by decide +kernel
theorem dX12_setForeign_7 : decode cX12_setForeign 7 = .ok (.invokestatic 175, 3) := by decide +kernel
theorem dX12_setForeign_10 : decode cX12_setForeign 10 = .ok (.iconst 1, 1) := by decide +kernel
theorem dX12_setForeign_11 : decode cX12_setForeign 11 = .ok (.invokevirtual 115, 3) := by decide +kernel
theorem dX12_setForeign_14 : decode cX12_setForeign 14 = .ok (.ifCond .eq 5, 3) := by decide +kernel
theorem dX12_setForeign_17 : decode cX12_setForeign 17 = .ok (.iconst 0, 1) := by decide +kernel
theorem dX12_setForeign_18 : decode cX12_setForeign 18 = .ok (.ireturn, 1) := by decide +kernel
theorem dX12_setForeign_19 : decode cX12_setForeign 19 = .ok (.aload_n 0, 1) := by decide +kernel
theorem dX12_setForeign_20 : decode cX12_setForeign 20 = .ok (.getfield 52, 3) := by decide +kernel
theorem dX12_setForeign_23 : decode cX12_setForeign 23 = .ok (.iload_n 1, 1) := by decide +kernel
theorem dX12_setForeign_24 : decode cX12_setForeign 24 = .ok (.baload, 1) := by decide +kernel
theorem dX12_setForeign_25 : decode cX12_setForeign 25 = .ok (.istore_n 3, 1) := by decide +kernel
theorem dX12_setForeign_26 : decode cX12_setForeign 26 = .ok (.aload_n 0, 1) := by decide +kernel
theorem dX12_setForeign_27 : decode cX12_setForeign 27 = .ok (.getfield 52, 3) := by decide +kernel
theorem dX12_setForeign_30 : decode cX12_setForeign 30 = .ok (.iload_n 1, 1) := by decide +kernel
theorem dX12_setForeign_31 : decode cX12_setForeign 31 = .ok (.iload_n 2, 1) := by decide +kernel
theorem dX12_setForeign_32 : decode cX12_setForeign 32 = .ok (.bastore, 1) := by decide +kernel
theorem dX12_setForeign_33 : decode cX12_setForeign 33 = .ok (.iload_n 3, 1) := by decide +kernel
theorem dX12_setForeign_34 : decode cX12_setForeign 34 = .ok (.ireturn, 1) := by decide +kernel
theorem dX12_askAbroad_0 : decode cX12_askAbroad 0 = .ok (.aload_n 0, 1) := by decide +kernel
theorem dX12_askAbroad_1 : decode cX12_askAbroad 1 = .ok (.iconst 0, 1) := by decide +kernel
theorem dX12_askAbroad_2 : decode cX12_askAbroad 2 = .ok (.putfield 98, 3) := by decide +kernel
theorem dX12_askAbroad_5 : decode cX12_askAbroad 5 = .ok (.aload_n 0, 1) := by decide +kernel
theorem dX12_askAbroad_6 : decode cX12_askAbroad 6 = .ok (.aload_n 0, 1) := by decide +kernel
theorem dX12_askAbroad_7 : decode cX12_askAbroad 7 = .ok (.iload_n 1, 1) := by decide +kernel
theorem dX12_askAbroad_8 : decode cX12_askAbroad 8 = .ok (.invokevirtual 153, 3) := by decide +kernel
theorem dX12_askAbroad_11 : decode cX12_askAbroad 11 = .ok (.iconst 1, 1) := by decide +kernel
theorem dX12_askAbroad_12 : decode cX12_askAbroad 12 = .ok (.invokevirtual 115, 3) := by decide +kernel
theorem dX12_askAbroad_15 : decode cX12_askAbroad 15 = .ok (.ifCond .ne 15, 3) := by decide +kernel
theorem dX12_askAbroad_18 : decode cX12_askAbroad 18 = .ok (.aload_n 0, 1) := by decide +kernel
theorem dX12_askAbroad_19 : decode cX12_askAbroad 19 = .ok (.iload_n 2, 1) := by decide +kernel
theorem dX12_askAbroad_20 : decode cX12_askAbroad 20 = .ok (.invokestatic 175, 3) := by decide +kernel
theorem dX12_askAbroad_23 : decode cX12_askAbroad 23 = .ok (.iconst 2, 1) := by decide +kernel
theorem dX12_askAbroad_24 : decode cX12_askAbroad 24 = .ok (.invokevirtual 115, 3) := by decide +kernel
theorem dX12_askAbroad_27 : decode cX12_askAbroad 27 = .ok (.ifCond .eq 5, 3) := by decide +kernel
theorem dX12_askAbroad_30 : decode cX12_askAbroad 30 = .ok (.iconst 0, 1) := by decide +kernel
theorem dX12_askAbroad_31 : decode cX12_askAbroad 31 = .ok (.ireturn, 1) := by decide +kernel
theorem dX12_askAbroad_32 : decode cX12_askAbroad 32 = .ok (.aload_n 0, 1) := by decide +kernel
theorem dX12_askAbroad_33 : decode cX12_askAbroad 33 = .ok (.getfield 55, 3) := by decide +kernel
theorem dX12_askAbroad_36 : decode cX12_askAbroad 36 = .ok (.bipush 8, 2) := by decide +kernel
theorem dX12_askAbroad_38 : decode cX12_askAbroad 38 = .ok (.iload_n 1, 1) := by decide +kernel
theorem dX12_askAbroad_39 : decode cX12_askAbroad 39 = .ok (.imul, 1) := by decide +kernel
theorem dX12_askAbroad_40 : decode cX12_askAbroad 40 = .ok (.iload_n 2, 1) := by decide +kernel
theorem dX12_askAbroad_41 : decode cX12_askAbroad 41 = .ok (.iadd, 1) := by decide +kernel
theorem dX12_askAbroad_42 : decode cX12_askAbroad 42 = .ok (.aload_n 0, 1) := by decide +kernel
theorem dX12_askAbroad_43 : decode cX12_askAbroad 43 = .ok (.getfield 186, 3) := by decide +kernel
theorem dX12_askAbroad_46 : decode cX12_askAbroad 46 = .ok (.iastore, 1) := by decide +kernel
theorem dX12_askAbroad_47 : decode cX12_askAbroad 47 = .ok (.aload_n 0, 1) := by decide +kernel
theorem dX12_askAbroad_48 : decode cX12_askAbroad 48 = .ok (.getfield 58, 3) := by decide +kernel
theorem dX12_askAbroad_51 : decode cX12_askAbroad 51 = .ok (.bipush 8, 2) := by decide +kernel
theorem dX12_askAbroad_53 : decode cX12_askAbroad 53 = .ok (.iload_n 1, 1) := by decide +kernel
theorem dX12_askAbroad_54 : decode cX12_askAbroad 54 = .ok (.imul, 1) := by decide +kernel
theorem dX12_askAbroad_55 : decode cX12_askAbroad 55 = .ok (.iload_n 2, 1) := by decide +kernel
theorem dX12_askAbroad_56 : decode cX12_askAbroad 56 = .ok (.iadd, 1) := by decide +kernel
theorem dX12_askAbroad_57 : decode cX12_askAbroad 57 = .ok (.iconst 0, 1) := by decide +kernel
theorem dX12_askAbroad_58 : decode cX12_askAbroad 58 = .ok (.bastore, 1) := by decide +kernel
theorem dX12_askAbroad_59 : decode cX12_askAbroad 59 = .ok (.aload_n 0, 1) := by decide +kernel
theorem dX12_askAbroad_60 : decode cX12_askAbroad 60 = .ok (.getfield 186, 3) := by decide +kernel
theorem dX12_askAbroad_63 : decode cX12_askAbroad 63 = .ok (.iconst 3, 1) := by decide +kernel
theorem dX12_askAbroad_64 : decode cX12_askAbroad 64 = .ok (.iadd, 1) := by decide +kernel
theorem dX12_askAbroad_65 : decode cX12_askAbroad 65 = .ok (.ireturn, 1) := by decide +kernel
theorem dX12_object_0 : decode cX12_object 0 = .ok (.aload_n 0, 1) := by decide +kernel
theorem dX12_object_1 : decode cX12_object 1 = .ok (.iconst 0, 1) := by decide +kernel
theorem dX12_object_2 : decode cX12_object 2 = .ok (.putfield 98, 3) := by decide +kernel
theorem dX12_object_5 : decode cX12_object 5 = .ok (.aload_n 0, 1) := by decide +kernel
theorem dX12_object_6 : decode cX12_object 6 = .ok (.aload_n 0, 1) := by decide +kernel
theorem dX12_object_7 : decode cX12_object 7 = .ok (.iload_n 1, 1) := by decide +kernel
theorem dX12_object_8 : decode cX12_object 8 = .ok (.invokevirtual 153, 3) := by decide +kernel
theorem dX12_object_11 : decode cX12_object 11 = .ok (.iconst 1, 1) := by decide +kernel
theorem dX12_object_12 : decode cX12_object 12 = .ok (.invokevirtual 115, 3) := by decide +kernel
theorem dX12_object_15 : decode cX12_object 15 = .ok (.ifCond .ne 15, 3) := by decide +kernel
theorem dX12_object_18 : decode cX12_object 18 = .ok (.aload_n 0, 1) := by decide +kernel
theorem dX12_object_19 : decode cX12_object 19 = .ok (.iload_n 2, 1) := by decide +kernel
theorem dX12_object_20 : decode cX12_object 20 = .ok (.invokestatic 175, 3) := by decide +kernel
theorem dX12_object_23 : decode cX12_object 23 = .ok (.iconst 2, 1) := by decide +kernel
theorem dX12_object_24 : decode cX12_object 24 = .ok (.invokevirtual 115, 3) := by decide +kernel
theorem dX12_object_27 : decode cX12_object 27 = .ok (.ifCond .eq 5, 3) := by decide +kernel
theorem dX12_object_30 : decode cX12_object 30 = .ok (.iconst 0, 1) := by decide +kernel
theorem dX12_object_31 : decode cX12_object 31 = .ok (.ireturn, 1) := by decide +kernel
theorem dX12_object_32 : decode cX12_object 32 = .ok (.bipush 8, 2) := by decide +kernel
theorem dX12_object_34 : decode cX12_object 34 = .ok (.iload_n 1, 1) := by decide +kernel
theorem dX12_object_35 : decode cX12_object 35 = .ok (.imul, 1) := by decide +kernel
theorem dX12_object_36 : decode cX12_object 36 = .ok (.iload_n 2, 1) := by decide +kernel
theorem dX12_object_37 : decode cX12_object 37 = .ok (.iadd, 1) := by decide +kernel
theorem dX12_object_38 : decode cX12_object 38 = .ok (.istore_n 3, 1) := by decide +kernel
theorem dX12_object_39 : decode cX12_object 39 = .ok (.aload_n 0, 1) := by decide +kernel
theorem dX12_object_40 : decode cX12_object 40 = .ok (.aload_n 0, 1) := by decide +kernel
theorem dX12_object_41 : decode cX12_object 41 = .ok (.getfield 55, 3) := by decide +kernel
theorem dX12_object_44 : decode cX12_object 44 = .ok (.iload_n 3, 1) := by decide +kernel
theorem dX12_object_45 : decode cX12_object 45 = .ok (.iaload, 1) := by decide +kernel
theorem dX12_object_46 : decode cX12_object 46 = .ok (.iconst (-1), 1) := by decide +kernel
theorem dX12_object_47 : decode cX12_object 47 = .ok (.if_icmp .ne 7, 3) := by decide +kernel
theorem dX12_object_50 : decode cX12_object 50 = .ok (.iconst 1, 1) := by decide +kernel
theorem dX12_object_51 : decode cX12_object 51 = .ok (.goto 4, 3) := by decide +kernel
theorem dX12_object_54 : decode cX12_object 54 = .ok (.iconst 0, 1) := by decide +kernel
theorem dX12_object_55 : decode cX12_object 55 = .ok (.iconst 3, 1) := by decide +kernel
theorem dX12_object_56 : decode cX12_object 56 = .ok (.invokevirtual 115, 3) := by decide +kernel
theorem dX12_object_59 : decode cX12_object 59 = .ok (.ifCond .ne 18, 3) := by decide +kernel
theorem dX12_object_62 : decode cX12_object 62 = .ok (.aload_n 0, 1) := by decide +kernel
theorem dX12_object_63 : decode cX12_object 63 = .ok (.getfield 186, 3) := by decide +kernel
theorem dX12_object_66 : decode cX12_object 66 = .ok (.aload_n 0, 1) := by decide +kernel
theorem dX12_object_67 : decode cX12_object 67 = .ok (.getfield 55, 3) := by decide +kernel
theorem dX12_object_70 : decode cX12_object 70 = .ok (.iload_n 3, 1) := by decide +kernel
theorem dX12_object_71 : decode cX12_object 71 = .ok (.iaload, 1) := by decide +kernel
theorem dX12_object_72 : decode cX12_object 72 = .ok (.iconst 2, 1) := by decide +kernel
theorem dX12_object_73 : decode cX12_object 73 = .ok (.iadd, 1) := by decide +kernel
theorem dX12_object_74 : decode cX12_object 74 = .ok (.if_icmp .le 5, 3) := by decide +kernel
theorem dX12_object_77 : decode cX12_object 77 = .ok (.iconst 0, 1) := by decide +kernel
theorem dX12_object_78 : decode cX12_object 78 = .ok (.ireturn, 1) := by decide +kernel
theorem dX12_object_79 : decode cX12_object 79 = .ok (.aload_n 0, 1) := by decide +kernel
theorem dX12_object_80 : decode cX12_object 80 = .ok (.getfield 58, 3) := by decide +kernel
theorem dX12_object_83 : decode cX12_object 83 = .ok (.iload_n 3, 1) := by decide +kernel
theorem dX12_object_84 : decode cX12_object 84 = .ok (.iconst 1, 1) := by decide +kernel
theorem dX12_object_85 : decode cX12_object 85 = .ok (.bastore, 1) := by decide +kernel
theorem dX12_object_86 : decode cX12_object 86 = .ok (.iconst 1, 1) := by decide +kernel
theorem dX12_object_87 : decode cX12_object 87 = .ok (.ireturn, 1) := by decide +kernel
theorem dX12_hasYes_0 : decode cX12_hasYes 0 = .ok (.aload_n 0, 1) := by decide +kernel
theorem dX12_hasYes_1 : decode cX12_hasYes 1 = .ok (.iconst 0, 1) := by decide +kernel
theorem dX12_hasYes_2 : decode cX12_hasYes 2 = .ok (.putfield 98, 3) := by decide +kernel
theorem dX12_hasYes_5 : decode cX12_hasYes 5 = .ok (.aload_n 0, 1) := by decide +kernel
theorem dX12_hasYes_6 : decode cX12_hasYes 6 = .ok (.aload_n 0, 1) := by decide +kernel
theorem dX12_hasYes_7 : decode cX12_hasYes 7 = .ok (.iload_n 1, 1) := by decide +kernel
theorem dX12_hasYes_8 : decode cX12_hasYes 8 = .ok (.invokevirtual 153, 3) := by decide +kernel
theorem dX12_hasYes_11 : decode cX12_hasYes 11 = .ok (.iconst 1, 1) := by decide +kernel
theorem dX12_hasYes_12 : decode cX12_hasYes 12 = .ok (.invokevirtual 115, 3) := by decide +kernel
theorem dX12_hasYes_15 : decode cX12_hasYes 15 = .ok (.ifCond .ne 28, 3) := by decide +kernel
theorem dX12_hasYes_18 : decode cX12_hasYes 18 = .ok (.aload_n 0, 1) := by decide +kernel
theorem dX12_hasYes_19 : decode cX12_hasYes 19 = .ok (.iload_n 2, 1) := by decide +kernel
theorem dX12_hasYes_20 : decode cX12_hasYes 20 = .ok (.invokestatic 175, 3) := by decide +kernel
theorem dX12_hasYes_23 : decode cX12_hasYes 23 = .ok (.iconst 2, 1) := by decide +kernel
theorem dX12_hasYes_24 : decode cX12_hasYes 24 = .ok (.invokevirtual 115, 3) := by decide +kernel
theorem dX12_hasYes_27 : decode cX12_hasYes 27 = .ok (.ifCond .ne 16, 3) := by decide +kernel
theorem dX12_hasYes_30 : decode cX12_hasYes 30 = .ok (.aload_n 0, 1) := by decide +kernel
theorem dX12_hasYes_31 : decode cX12_hasYes 31 = .ok (.iload_n 1, 1) := by decide +kernel
theorem dX12_hasYes_32 : decode cX12_hasYes 32 = .ok (.iload_n 2, 1) := by decide +kernel
theorem dX12_hasYes_33 : decode cX12_hasYes 33 = .ok (.invokevirtual 198, 3) := by decide +kernel
theorem dX12_hasYes_36 : decode cX12_hasYes 36 = .ok (.ifCond .eq 7, 3) := by decide +kernel
theorem dX12_hasYes_39 : decode cX12_hasYes 39 = .ok (.iconst 1, 1) := by decide +kernel
theorem dX12_hasYes_40 : decode cX12_hasYes 40 = .ok (.goto 4, 3) := by decide +kernel
theorem dX12_hasYes_43 : decode cX12_hasYes 43 = .ok (.iconst 0, 1) := by decide +kernel
theorem dX12_hasYes_44 : decode cX12_hasYes 44 = .ok (.ireturn, 1) := by decide +kernel
theorem dX12_goOn_0 : decode cX12_goOn 0 = .ok (.aload_n 0, 1) := by decide +kernel
theorem dX12_goOn_1 : decode cX12_goOn 1 = .ok (.iconst 0, 1) := by decide +kernel
theorem dX12_goOn_2 : decode cX12_goOn 2 = .ok (.putfield 98, 3) := by decide +kernel
theorem dX12_goOn_5 : decode cX12_goOn 5 = .ok (.aload_n 0, 1) := by decide +kernel
theorem dX12_goOn_6 : decode cX12_goOn 6 = .ok (.iload_n 1, 1) := by decide +kernel
theorem dX12_goOn_7 : decode cX12_goOn 7 = .ok (.iconst 1, 1) := by decide +kernel
theorem dX12_goOn_8 : decode cX12_goOn 8 = .ok (.bipush 99, 2) := by decide +kernel
theorem dX12_goOn_10 : decode cX12_goOn 10 = .ok (.invokestatic 101, 3) := by decide +kernel
theorem dX12_goOn_13 : decode cX12_goOn 13 = .ok (.ifCond .ne 7, 3) := by decide +kernel
theorem dX12_goOn_16 : decode cX12_goOn 16 = .ok (.iconst 1, 1) := by decide +kernel
theorem dX12_goOn_17 : decode cX12_goOn 17 = .ok (.goto 4, 3) := by decide +kernel
theorem dX12_goOn_20 : decode cX12_goOn 20 = .ok (.iconst 0, 1) := by decide +kernel
theorem dX12_goOn_21 : decode cX12_goOn 21 = .ok (.iconst 1, 1) := by decide +kernel
theorem dX12_goOn_22 : decode cX12_goOn 22 = .ok (.invokevirtual 115, 3) := by decide +kernel
theorem dX12_goOn_25 : decode cX12_goOn 25 = .ok (.ifCond .eq 5, 3) := by decide +kernel
theorem dX12_goOn_28 : decode cX12_goOn 28 = .ok (.iconst 0, 1) := by decide +kernel
theorem dX12_goOn_29 : decode cX12_goOn 29 = .ok (.ireturn, 1) := by decide +kernel
theorem dX12_goOn_30 : decode cX12_goOn 30 = .ok (.aload_n 0, 1) := by decide +kernel
theorem dX12_goOn_31 : decode cX12_goOn 31 = .ok (.dup, 1) := by decide +kernel
theorem dX12_goOn_32 : decode cX12_goOn 32 = .ok (.getfield 186, 3) := by decide +kernel
theorem dX12_goOn_35 : decode cX12_goOn 35 = .ok (.iload_n 1, 1) := by decide +kernel
theorem dX12_goOn_36 : decode cX12_goOn 36 = .ok (.iadd, 1) := by decide +kernel
theorem dX12_goOn_37 : decode cX12_goOn 37 = .ok (.putfield 186, 3) := by decide +kernel
theorem dX12_goOn_40 : decode cX12_goOn 40 = .ok (.aload_n 0, 1) := by decide +kernel
theorem dX12_goOn_41 : decode cX12_goOn 41 = .ok (.getfield 186, 3) := by decide +kernel
theorem dX12_goOn_44 : decode cX12_goOn 44 = .ok (.ireturn, 1) := by decide +kernel
theorem dX12_fits_0 : decode cX12_fits 0 = .ok (.iconst 1, 1) := by decide +kernel
theorem dX12_fits_1 : decode cX12_fits 1 = .ok (.istore_n 2, 1) := by decide +kernel
theorem dX12_fits_2 : decode cX12_fits 2 = .ok (.iconst 0, 1) := by decide +kernel
theorem dX12_fits_3 : decode cX12_fits 3 = .ok (.istore_n 3, 1) := by decide +kernel
theorem dX12_fits_4 : decode cX12_fits 4 = .ok (.iload_n 3, 1) := by decide +kernel
theorem dX12_fits_5 : decode cX12_fits 5 = .ok (.iload_n 1, 1) := by decide +kernel
theorem dX12_fits_6 : decode cX12_fits 6 = .ok (.if_icmp .ge 49, 3) := by decide +kernel
theorem dX12_fits_9 : decode cX12_fits 9 = .ok (.iload_n 2, 1) := by decide +kernel
theorem dX12_fits_10 : decode cX12_fits 10 = .ok (.ifCond .eq 37, 3) := by decide +kernel
theorem dX12_fits_13 : decode cX12_fits 13 = .ok (.aload_n 0, 1) := by decide +kernel
theorem dX12_fits_14 : decode cX12_fits 14 = .ok (.getfield 80, 3) := by decide +kernel
theorem dX12_fits_17 : decode cX12_fits 17 = .ok (.iload_n 3, 1) := by decide +kernel
theorem dX12_fits_18 : decode cX12_fits 18 = .ok (.baload, 1) := by decide +kernel
theorem dX12_fits_19 : decode cX12_fits 19 = .ok (.ifCond .eq 24, 3) := by decide +kernel
theorem dX12_fits_22 : decode cX12_fits 22 = .ok (.aload_n 0, 1) := by decide +kernel
theorem dX12_fits_23 : decode cX12_fits 23 = .ok (.iload_n 3, 1) := by decide +kernel
theorem dX12_fits_24 : decode cX12_fits 24 = .ok (.aload_n 0, 1) := by decide +kernel
theorem dX12_fits_25 : decode cX12_fits 25 = .ok (.getfield 83, 3) := by decide +kernel
theorem dX12_fits_28 : decode cX12_fits 28 = .ok (.iload_n 3, 1) := by decide +kernel
theorem dX12_fits_29 : decode cX12_fits 29 = .ok (.iaload, 1) := by decide +kernel
theorem dX12_fits_30 : decode cX12_fits 30 = .ok (.iload_n 1, 1) := by decide +kernel
theorem dX12_fits_31 : decode cX12_fits 31 = .ok (.aload_n 0, 1) := by decide +kernel
theorem dX12_fits_32 : decode cX12_fits 32 = .ok (.getfield 83, 3) := by decide +kernel
theorem dX12_fits_35 : decode cX12_fits 35 = .ok (.iload_n 1, 1) := by decide +kernel
theorem dX12_fits_36 : decode cX12_fits 36 = .ok (.iaload, 1) := by decide +kernel
theorem dX12_fits_37 : decode cX12_fits 37 = .ok (.invokevirtual 178, 3) := by decide +kernel
theorem dX12_fits_40 : decode cX12_fits 40 = .ok (.ifCond .ne 7, 3) := by decide +kernel
theorem dX12_fits_43 : decode cX12_fits 43 = .ok (.iconst 1, 1) := by decide +kernel
theorem dX12_fits_44 : decode cX12_fits 44 = .ok (.goto 4, 3) := by decide +kernel
theorem dX12_fits_47 : decode cX12_fits 47 = .ok (.iconst 0, 1) := by decide +kernel
theorem dX12_fits_48 : decode cX12_fits 48 = .ok (.istore_n 2, 1) := by decide +kernel
theorem dX12_fits_49 : decode cX12_fits 49 = .ok (.iinc 3 1, 3) := by decide +kernel
theorem dX12_fits_52 : decode cX12_fits 52 = .ok (.goto (-48), 3) := by decide +kernel
theorem dX12_fits_55 : decode cX12_fits 55 = .ok (.iload_n 2, 1) := by decide +kernel
theorem dX12_fits_56 : decode cX12_fits 56 = .ok (.ireturn, 1) := by decide +kernel
theorem dX12_packs_0 : decode cX12_packs 0 = .ok (.iload_n 1, 1) := by decide +kernel
theorem dX12_packs_1 : decode cX12_packs 1 = .ok (.aload_n 0, 1) := by decide +kernel
theorem dX12_packs_2 : decode cX12_packs 2 = .ok (.getfield 108, 3) := by decide +kernel
theorem dX12_packs_5 : decode cX12_packs 5 = .ok (.if_icmp .ne 5, 3) := by decide +kernel
theorem dX12_packs_8 : decode cX12_packs 8 = .ok (.iconst 1, 1) := by decide +kernel
theorem dX12_packs_9 : decode cX12_packs 9 = .ok (.ireturn, 1) := by decide +kernel
theorem dX12_packs_10 : decode cX12_packs 10 = .ok (.aload_n 0, 1) := by decide +kernel
theorem dX12_packs_11 : decode cX12_packs 11 = .ok (.getfield 80, 3) := by decide +kernel
theorem dX12_packs_14 : decode cX12_packs 14 = .ok (.iload_n 1, 1) := by decide +kernel
theorem dX12_packs_15 : decode cX12_packs 15 = .ok (.baload, 1) := by decide +kernel
theorem dX12_packs_16 : decode cX12_packs 16 = .ok (.ifCond .ne 12, 3) := by decide +kernel
theorem dX12_packs_19 : decode cX12_packs 19 = .ok (.aload_n 0, 1) := by decide +kernel
theorem dX12_packs_20 : decode cX12_packs 20 = .ok (.iload_n 1, 1) := by decide +kernel
theorem dX12_packs_21 : decode cX12_packs 21 = .ok (.iconst 1, 1) := by decide +kernel
theorem dX12_packs_22 : decode cX12_packs 22 = .ok (.iadd, 1) := by decide +kernel
theorem dX12_packs_23 : decode cX12_packs 23 = .ok (.iload_n 2, 1) := by decide +kernel
theorem dX12_packs_24 : decode cX12_packs 24 = .ok (.invokevirtual 218, 3) := by decide +kernel
theorem dX12_packs_27 : decode cX12_packs 27 = .ok (.ireturn, 1) := by decide +kernel
theorem dX12_packs_28 : decode cX12_packs 28 = .ok (.iconst 0, 1) := by decide +kernel
theorem dX12_packs_29 : decode cX12_packs 29 = .ok (.istore_n 3, 1) := by decide +kernel
theorem dX12_packs_30 : decode cX12_packs 30 = .ok (.iload_n 3, 1) := by decide +kernel
theorem dX12_packs_31 : decode cX12_packs 31 = .ok (.iload_n 2, 1) := by decide +kernel
theorem dX12_packs_32 : decode cX12_packs 32 = .ok (.if_icmp .ge 37, 3) := by decide +kernel
theorem dX12_packs_35 : decode cX12_packs 35 = .ok (.aload_n 0, 1) := by decide +kernel
theorem dX12_packs_36 : decode cX12_packs 36 = .ok (.getfield 83, 3) := by decide +kernel
theorem dX12_packs_39 : decode cX12_packs 39 = .ok (.iload_n 1, 1) := by decide +kernel
theorem dX12_packs_40 : decode cX12_packs 40 = .ok (.iload_n 3, 1) := by decide +kernel
theorem dX12_packs_41 : decode cX12_packs 41 = .ok (.iastore, 1) := by decide +kernel
theorem dX12_packs_42 : decode cX12_packs 42 = .ok (.aload_n 0, 1) := by decide +kernel
theorem dX12_packs_43 : decode cX12_packs 43 = .ok (.iload_n 1, 1) := by decide +kernel
theorem dX12_packs_44 : decode cX12_packs 44 = .ok (.invokevirtual 221, 3) := by decide +kernel
theorem dX12_packs_47 : decode cX12_packs 47 = .ok (.ifCond .eq 16, 3) := by decide +kernel
theorem dX12_packs_50 : decode cX12_packs 50 = .ok (.aload_n 0, 1) := by decide +kernel
theorem dX12_packs_51 : decode cX12_packs 51 = .ok (.iload_n 1, 1) := by decide +kernel
theorem dX12_packs_52 : decode cX12_packs 52 = .ok (.iconst 1, 1) := by decide +kernel
theorem dX12_packs_53 : decode cX12_packs 53 = .ok (.iadd, 1) := by decide +kernel
theorem dX12_packs_54 : decode cX12_packs 54 = .ok (.iload_n 2, 1) := by decide +kernel
theorem dX12_packs_55 : decode cX12_packs 55 = .ok (.invokevirtual 218, 3) := by decide +kernel
theorem dX12_packs_58 : decode cX12_packs 58 = .ok (.ifCond .eq 5, 3) := by decide +kernel
theorem dX12_packs_61 : decode cX12_packs 61 = .ok (.iconst 1, 1) := by decide +kernel
theorem dX12_packs_62 : decode cX12_packs 62 = .ok (.ireturn, 1) := by decide +kernel
theorem dX12_packs_63 : decode cX12_packs 63 = .ok (.iinc 3 1, 3) := by decide +kernel
theorem dX12_packs_66 : decode cX12_packs 66 = .ok (.goto (-36), 3) := by decide +kernel
theorem dX12_packs_69 : decode cX12_packs 69 = .ok (.iconst 0, 1) := by decide +kernel
theorem dX12_packs_70 : decode cX12_packs 70 = .ok (.ireturn, 1) := by decide +kernel
theorem dX12_packsAll_0 : decode cX12_packsAll 0 = .ok (.iconst 0, 1) := by decide +kernel
theorem dX12_packsAll_1 : decode cX12_packsAll 1 = .ok (.istore_n 2, 1) := by decide +kernel
theorem dX12_packsAll_2 : decode cX12_packsAll 2 = .ok (.iload_n 2, 1) := by decide +kernel
theorem dX12_packsAll_3 : decode cX12_packsAll 3 = .ok (.aload_n 0, 1) := by decide +kernel
theorem dX12_packsAll_4 : decode cX12_packsAll 4 = .ok (.getfield 108, 3) := by decide +kernel
theorem dX12_packsAll_7 : decode cX12_packsAll 7 = .ok (.if_icmp .ge 21, 3) := by decide +kernel
theorem dX12_packsAll_10 : decode cX12_packsAll 10 = .ok (.aload_n 0, 1) := by decide +kernel
theorem dX12_packsAll_11 : decode cX12_packsAll 11 = .ok (.getfield 80, 3) := by decide +kernel
theorem dX12_packsAll_14 : decode cX12_packsAll 14 = .ok (.iload_n 2, 1) := by decide +kernel
theorem dX12_packsAll_15 : decode cX12_packsAll 15 = .ok (.aload_n 0, 1) := by decide +kernel
theorem dX12_packsAll_16 : decode cX12_packsAll 16 = .ok (.getfield 35, 3) := by decide +kernel
theorem dX12_packsAll_19 : decode cX12_packsAll 19 = .ok (.iload_n 2, 1) := by decide +kernel
theorem dX12_packsAll_20 : decode cX12_packsAll 20 = .ok (.baload, 1) := by decide +kernel
theorem dX12_packsAll_21 : decode cX12_packsAll 21 = .ok (.bastore, 1) := by decide +kernel
theorem dX12_packsAll_22 : decode cX12_packsAll 22 = .ok (.iinc 2 1, 3) := by decide +kernel
theorem dX12_packsAll_25 : decode cX12_packsAll 25 = .ok (.goto (-23), 3) := by decide +kernel
theorem dX12_packsAll_28 : decode cX12_packsAll 28 = .ok (.aload_n 0, 1) := by decide +kernel
theorem dX12_packsAll_29 : decode cX12_packsAll 29 = .ok (.iconst 0, 1) := by decide +kernel
theorem dX12_packsAll_30 : decode cX12_packsAll 30 = .ok (.iload_n 1, 1) := by decide +kernel
theorem dX12_packsAll_31 : decode cX12_packsAll 31 = .ok (.invokevirtual 218, 3) := by decide +kernel
theorem dX12_packsAll_34 : decode cX12_packsAll 34 = .ok (.ireturn, 1) := by decide +kernel
theorem dX12_canPack_0 : decode cX12_canPack 0 = .ok (.aload_n 0, 1) := by decide +kernel
theorem dX12_canPack_1 : decode cX12_canPack 1 = .ok (.iconst 0, 1) := by decide +kernel
theorem dX12_canPack_2 : decode cX12_canPack 2 = .ok (.putfield 98, 3) := by decide +kernel
theorem dX12_canPack_5 : decode cX12_canPack 5 = .ok (.aload_n 0, 1) := by decide +kernel
theorem dX12_canPack_6 : decode cX12_canPack 6 = .ok (.iload_n 1, 1) := by decide +kernel
theorem dX12_canPack_7 : decode cX12_canPack 7 = .ok (.iconst 1, 1) := by decide +kernel
theorem dX12_canPack_8 : decode cX12_canPack 8 = .ok (.bipush 8, 2) := by decide +kernel
theorem dX12_canPack_10 : decode cX12_canPack 10 = .ok (.invokestatic 101, 3) := by decide +kernel
theorem dX12_canPack_13 : decode cX12_canPack 13 = .ok (.ifCond .ne 7, 3) := by decide +kernel
theorem dX12_canPack_16 : decode cX12_canPack 16 = .ok (.iconst 1, 1) := by decide +kernel
theorem dX12_canPack_17 : decode cX12_canPack 17 = .ok (.goto 4, 3) := by decide +kernel
theorem dX12_canPack_20 : decode cX12_canPack 20 = .ok (.iconst 0, 1) := by decide +kernel
theorem dX12_canPack_21 : decode cX12_canPack 21 = .ok (.iconst 1, 1) := by decide +kernel
theorem dX12_canPack_22 : decode cX12_canPack 22 = .ok (.invokevirtual 115, 3) := by decide +kernel
theorem dX12_canPack_25 : decode cX12_canPack 25 = .ok (.ifCond .ne 15, 3) := by decide +kernel
theorem dX12_canPack_28 : decode cX12_canPack 28 = .ok (.aload_n 0, 1) := by decide +kernel
theorem dX12_canPack_29 : decode cX12_canPack 29 = .ok (.iload_n 1, 1) := by decide +kernel
theorem dX12_canPack_30 : decode cX12_canPack 30 = .ok (.invokevirtual 224, 3) := by decide +kernel
theorem dX12_canPack_33 : decode cX12_canPack 33 = .ok (.ifCond .eq 7, 3) := by decide +kernel
theorem dX12_canPack_36 : decode cX12_canPack 36 = .ok (.iconst 1, 1) := by decide +kernel
theorem dX12_canPack_37 : decode cX12_canPack 37 = .ok (.goto 4, 3) := by decide +kernel
theorem dX12_canPack_40 : decode cX12_canPack 40 = .ok (.iconst 0, 1) := by decide +kernel
theorem dX12_canPack_41 : decode cX12_canPack 41 = .ok (.ireturn, 1) := by decide +kernel
theorem dX12_packed_0 : decode cX12_packed 0 = .ok (.aload_n 0, 1) := by decide +kernel
theorem dX12_packed_1 : decode cX12_packed 1 = .ok (.iconst 0, 1) := by decide +kernel
theorem dX12_packed_2 : decode cX12_packed 2 = .ok (.putfield 98, 3) := by decide +kernel
theorem dX12_packed_5 : decode cX12_packed 5 = .ok (.aload_n 0, 1) := by decide +kernel
theorem dX12_packed_6 : decode cX12_packed 6 = .ok (.iload_n 1, 1) := by decide +kernel
theorem dX12_packed_7 : decode cX12_packed 7 = .ok (.iconst 1, 1) := by decide +kernel
theorem dX12_packed_8 : decode cX12_packed 8 = .ok (.bipush 8, 2) := by decide +kernel
theorem dX12_packed_10 : decode cX12_packed 10 = .ok (.invokestatic 101, 3) := by decide +kernel
theorem dX12_packed_13 : decode cX12_packed 13 = .ok (.ifCond .ne 7, 3) := by decide +kernel
theorem dX12_packed_16 : decode cX12_packed 16 = .ok (.iconst 1, 1) := by decide +kernel
theorem dX12_packed_17 : decode cX12_packed 17 = .ok (.goto 4, 3) := by decide +kernel
theorem dX12_packed_20 : decode cX12_packed 20 = .ok (.iconst 0, 1) := by decide +kernel
theorem dX12_packed_21 : decode cX12_packed 21 = .ok (.iconst 1, 1) := by decide +kernel
theorem dX12_packed_22 : decode cX12_packed 22 = .ok (.invokevirtual 115, 3) := by decide +kernel
theorem dX12_packed_25 : decode cX12_packed 25 = .ok (.ifCond .ne 38, 3) := by decide +kernel
theorem dX12_packed_28 : decode cX12_packed 28 = .ok (.aload_n 0, 1) := by decide +kernel
theorem dX12_packed_29 : decode cX12_packed 29 = .ok (.aload_n 0, 1) := by decide +kernel
theorem dX12_packed_30 : decode cX12_packed 30 = .ok (.iload_n 2, 1) := by decide +kernel
theorem dX12_packed_31 : decode cX12_packed 31 = .ok (.invokevirtual 153, 3) := by decide +kernel
theorem dX12_packed_34 : decode cX12_packed 34 = .ok (.iconst 2, 1) := by decide +kernel
theorem dX12_packed_35 : decode cX12_packed 35 = .ok (.invokevirtual 115, 3) := by decide +kernel
theorem dX12_packed_38 : decode cX12_packed 38 = .ok (.ifCond .ne 25, 3) := by decide +kernel
theorem dX12_packed_41 : decode cX12_packed 41 = .ok (.aload_n 0, 1) := by decide +kernel
theorem dX12_packed_42 : decode cX12_packed 42 = .ok (.aload_n 0, 1) := by decide +kernel
theorem dX12_packed_43 : decode cX12_packed 43 = .ok (.getfield 35, 3) := by decide +kernel
theorem dX12_packed_46 : decode cX12_packed 46 = .ok (.iload_n 2, 1) := by decide +kernel
theorem dX12_packed_47 : decode cX12_packed 47 = .ok (.baload, 1) := by decide +kernel
theorem dX12_packed_48 : decode cX12_packed 48 = .ok (.ifCond .ne 7, 3) := by decide +kernel
theorem dX12_packed_51 : decode cX12_packed 51 = .ok (.iconst 1, 1) := by decide +kernel
theorem dX12_packed_52 : decode cX12_packed 52 = .ok (.goto 4, 3) := by decide +kernel
theorem dX12_packed_55 : decode cX12_packed 55 = .ok (.iconst 0, 1) := by decide +kernel
theorem dX12_packed_56 : decode cX12_packed 56 = .ok (.iconst 3, 1) := by decide +kernel
theorem dX12_packed_57 : decode cX12_packed 57 = .ok (.invokevirtual 115, 3) := by decide +kernel
theorem dX12_packed_60 : decode cX12_packed 60 = .ok (.ifCond .eq 5, 3) := by decide +kernel
theorem dX12_packed_63 : decode cX12_packed 63 = .ok (.iconst 0, 1) := by decide +kernel
theorem dX12_packed_64 : decode cX12_packed 64 = .ok (.ireturn, 1) := by decide +kernel
theorem dX12_packed_65 : decode cX12_packed 65 = .ok (.aload_n 0, 1) := by decide +kernel
theorem dX12_packed_66 : decode cX12_packed 66 = .ok (.aload_n 0, 1) := by decide +kernel
theorem dX12_packed_67 : decode cX12_packed 67 = .ok (.iload_n 1, 1) := by decide +kernel
theorem dX12_packed_68 : decode cX12_packed 68 = .ok (.invokevirtual 224, 3) := by decide +kernel
theorem dX12_packed_71 : decode cX12_packed 71 = .ok (.ifCond .ne 7, 3) := by decide +kernel
theorem dX12_packed_74 : decode cX12_packed 74 = .ok (.iconst 1, 1) := by decide +kernel
theorem dX12_packed_75 : decode cX12_packed 75 = .ok (.goto 4, 3) := by decide +kernel
theorem dX12_packed_78 : decode cX12_packed 78 = .ok (.iconst 0, 1) := by decide +kernel
theorem dX12_packed_79 : decode cX12_packed 79 = .ok (.iconst 4, 1) := by decide +kernel
theorem dX12_packed_80 : decode cX12_packed 80 = .ok (.invokevirtual 115, 3) := by decide +kernel
theorem dX12_packed_83 : decode cX12_packed 83 = .ok (.ifCond .eq 7, 3) := by decide +kernel
theorem dX12_packed_86 : decode cX12_packed 86 = .ok (.iconst 0, 1) := by decide +kernel
theorem dX12_packed_87 : decode cX12_packed 87 = .ok (.goto 9, 3) := by decide +kernel
theorem dX12_packed_90 : decode cX12_packed 90 = .ok (.aload_n 0, 1) := by decide +kernel
theorem dX12_packed_91 : decode cX12_packed 91 = .ok (.getfield 83, 3) := by decide +kernel
theorem dX12_packed_94 : decode cX12_packed 94 = .ok (.iload_n 2, 1) := by decide +kernel
theorem dX12_packed_95 : decode cX12_packed 95 = .ok (.iaload, 1) := by decide +kernel
theorem dX12_packed_96 : decode cX12_packed 96 = .ok (.ireturn, 1) := by decide +kernel
theorem dX12_setAsked_0 : decode cX12_setAsked 0 = .ok (.aload_n 0, 1) := by decide +kernel
theorem dX12_setAsked_1 : decode cX12_setAsked 1 = .ok (.iconst 0, 1) := by decide +kernel
theorem dX12_setAsked_2 : decode cX12_setAsked 2 = .ok (.putfield 98, 3) := by decide +kernel
theorem dX12_setAsked_5 : decode cX12_setAsked 5 = .ok (.aload_n 0, 1) := by decide +kernel
theorem dX12_setAsked_6 : decode cX12_setAsked 6 = .ok (.aload_n 0, 1) := by decide +kernel
theorem dX12_setAsked_7 : decode cX12_setAsked 7 = .ok (.iload_n 1, 1) := by decide +kernel
theorem dX12_setAsked_8 : decode cX12_setAsked 8 = .ok (.invokevirtual 153, 3) := by decide +kernel
theorem dX12_setAsked_11 : decode cX12_setAsked 11 = .ok (.iconst 1, 1) := by decide +kernel
theorem dX12_setAsked_12 : decode cX12_setAsked 12 = .ok (.invokevirtual 115, 3) := by decide +kernel
theorem dX12_setAsked_15 : decode cX12_setAsked 15 = .ok (.ifCond .ne 27, 3) := by decide +kernel
theorem dX12_setAsked_18 : decode cX12_setAsked 18 = .ok (.aload_n 0, 1) := by decide +kernel
theorem dX12_setAsked_19 : decode cX12_setAsked 19 = .ok (.iload_n 2, 1) := by decide +kernel
theorem dX12_setAsked_20 : decode cX12_setAsked 20 = .ok (.iconst 0, 1) := by decide +kernel
theorem dX12_setAsked_21 : decode cX12_setAsked 21 = .ok (.sipush 9999, 3) := by decide +kernel
theorem dX12_setAsked_24 : decode cX12_setAsked 24 = .ok (.invokestatic 101, 3) := by decide +kernel
theorem dX12_setAsked_27 : decode cX12_setAsked 27 = .ok (.ifCond .ne 7, 3) := by decide +kernel
theorem dX12_setAsked_30 : decode cX12_setAsked 30 = .ok (.iconst 1, 1) := by decide +kernel
theorem dX12_setAsked_31 : decode cX12_setAsked 31 = .ok (.goto 4, 3) := by decide +kernel
theorem dX12_setAsked_34 : decode cX12_setAsked 34 = .ok (.iconst 0, 1) := by decide +kernel
theorem dX12_setAsked_35 : decode cX12_setAsked 35 = .ok (.iconst 2, 1) := by decide +kernel
theorem dX12_setAsked_36 : decode cX12_setAsked 36 = .ok (.invokevirtual 115, 3) := by decide +kernel
theorem dX12_setAsked_39 : decode cX12_setAsked 39 = .ok (.ifCond .eq 5, 3) := by decide +kernel
theorem dX12_setAsked_42 : decode cX12_setAsked 42 = .ok (.iconst 0, 1) := by decide +kernel
theorem dX12_setAsked_43 : decode cX12_setAsked 43 = .ok (.ireturn, 1) := by decide +kernel
theorem dX12_setAsked_44 : decode cX12_setAsked 44 = .ok (.aload_n 0, 1) := by decide +kernel
theorem dX12_setAsked_45 : decode cX12_setAsked 45 = .ok (.getfield 42, 3) := by decide +kernel
theorem dX12_setAsked_48 : decode cX12_setAsked 48 = .ok (.iload_n 1, 1) := by decide +kernel
theorem dX12_setAsked_49 : decode cX12_setAsked 49 = .ok (.iaload, 1) := by decide +kernel
theorem dX12_setAsked_50 : decode cX12_setAsked 50 = .ok (.istore_n 3, 1) := by decide +kernel
theorem dX12_setAsked_51 : decode cX12_setAsked 51 = .ok (.aload_n 0, 1) := by decide +kernel
theorem dX12_setAsked_52 : decode cX12_setAsked 52 = .ok (.getfield 42, 3) := by decide +kernel
theorem dX12_setAsked_55 : decode cX12_setAsked 55 = .ok (.iload_n 1, 1) := by decide +kernel
theorem dX12_setAsked_56 : decode cX12_setAsked 56 = .ok (.iload_n 2, 1) := by decide +kernel
theorem dX12_setAsked_57 : decode cX12_setAsked 57 = .ok (.iastore, 1) := by decide +kernel
theorem dX12_setAsked_58 : decode cX12_setAsked 58 = .ok (.iload_n 3, 1) := by decide +kernel
theorem dX12_setAsked_59 : decode cX12_setAsked 59 = .ok (.ireturn, 1) := by decide +kernel
theorem dX12_canStay_0 : decode cX12_canStay 0 = .ok (.iconst 0, 1) := by decide +kernel
theorem dX12_canStay_1 : decode cX12_canStay 1 = .ok (.istore_n 3, 1) := by decide +kernel
theorem dX12_canStay_2 : decode cX12_canStay 2 = .ok (.iload_n 3, 1) := by decide +kernel
theorem dX12_canStay_3 : decode cX12_canStay 3 = .ok (.aload_n 0, 1) := by decide +kernel
theorem dX12_canStay_4 : decode cX12_canStay 4 = .ok (.getfield 108, 3) := by decide +kernel
theorem dX12_canStay_7 : decode cX12_canStay 7 = .ok (.if_icmp .ge 49, 3) := by decide +kernel
theorem dX12_canStay_10 : decode cX12_canStay 10 = .ok (.aload_n 0, 1) := by decide +kernel
theorem dX12_canStay_11 : decode cX12_canStay 11 = .ok (.getfield 80, 3) := by decide +kernel
theorem dX12_canStay_14 : decode cX12_canStay 14 = .ok (.iload_n 3, 1) := by decide +kernel
theorem dX12_canStay_15 : decode cX12_canStay 15 = .ok (.aload_n 0, 1) := by decide +kernel
theorem dX12_canStay_16 : decode cX12_canStay 16 = .ok (.getfield 35, 3) := by decide +kernel
theorem dX12_canStay_19 : decode cX12_canStay 19 = .ok (.iload_n 3, 1) := by decide +kernel
theorem dX12_canStay_20 : decode cX12_canStay 20 = .ok (.baload, 1) := by decide +kernel
theorem dX12_canStay_21 : decode cX12_canStay 21 = .ok (.ifCond .eq 27, 3) := by decide +kernel
theorem dX12_canStay_24 : decode cX12_canStay 24 = .ok (.aload_n 0, 1) := by decide +kernel
theorem dX12_canStay_25 : decode cX12_canStay 25 = .ok (.getfield 39, 3) := by decide +kernel
theorem dX12_canStay_28 : decode cX12_canStay 28 = .ok (.iload_n 3, 1) := by decide +kernel
theorem dX12_canStay_29 : decode cX12_canStay 29 = .ok (.iaload, 1) := by decide +kernel
theorem dX12_canStay_30 : decode cX12_canStay 30 = .ok (.iconst (-1), 1) := by decide +kernel
theorem dX12_canStay_31 : decode cX12_canStay 31 = .ok (.if_icmp .eq 17, 3) := by decide +kernel
theorem dX12_canStay_34 : decode cX12_canStay 34 = .ok (.aload_n 0, 1) := by decide +kernel
theorem dX12_canStay_35 : decode cX12_canStay 35 = .ok (.getfield 42, 3) := by decide +kernel
theorem dX12_canStay_38 : decode cX12_canStay 38 = .ok (.iload_n 3, 1) := by decide +kernel
theorem dX12_canStay_39 : decode cX12_canStay 39 = .ok (.iaload, 1) := by decide +kernel
theorem dX12_canStay_40 : decode cX12_canStay 40 = .ok (.iload_n 1, 1) := by decide +kernel
theorem dX12_canStay_41 : decode cX12_canStay 41 = .ok (.if_icmp .le 7, 3) := by decide +kernel
theorem dX12_canStay_44 : decode cX12_canStay 44 = .ok (.iconst 1, 1) := by decide +kernel
theorem dX12_canStay_45 : decode cX12_canStay 45 = .ok (.goto 4, 3) := by decide +kernel
theorem dX12_canStay_48 : decode cX12_canStay 48 = .ok (.iconst 0, 1) := by decide +kernel
theorem dX12_canStay_49 : decode cX12_canStay 49 = .ok (.bastore, 1) := by decide +kernel
theorem dX12_canStay_50 : decode cX12_canStay 50 = .ok (.iinc 3 1, 3) := by decide +kernel
theorem dX12_canStay_53 : decode cX12_canStay 53 = .ok (.goto (-51), 3) := by decide +kernel
theorem dX12_canStay_56 : decode cX12_canStay 56 = .ok (.aload_n 0, 1) := by decide +kernel
theorem dX12_canStay_57 : decode cX12_canStay 57 = .ok (.iconst 0, 1) := by decide +kernel
theorem dX12_canStay_58 : decode cX12_canStay 58 = .ok (.iload_n 2, 1) := by decide +kernel
theorem dX12_canStay_59 : decode cX12_canStay 59 = .ok (.invokevirtual 218, 3) := by decide +kernel
theorem dX12_canStay_62 : decode cX12_canStay 62 = .ok (.ireturn, 1) := by decide +kernel
theorem dX12_canStayToo_0 : decode cX12_canStayToo 0 = .ok (.iconst 0, 1) := by decide +kernel
theorem dX12_canStayToo_1 : decode cX12_canStayToo 1 = .ok (.istore_n 3, 1) := by decide +kernel
theorem dX12_canStayToo_2 : decode cX12_canStayToo 2 = .ok (.iload_n 3, 1) := by decide +kernel
theorem dX12_canStayToo_3 : decode cX12_canStayToo 3 = .ok (.aload_n 0, 1) := by decide +kernel
theorem dX12_canStayToo_4 : decode cX12_canStayToo 4 = .ok (.getfield 108, 3) := by decide +kernel
theorem dX12_canStayToo_7 : decode cX12_canStayToo 7 = .ok (.if_icmp .ge 34, 3) := by decide +kernel
theorem dX12_canStayToo_10 : decode cX12_canStayToo 10 = .ok (.aload_n 0, 1) := by decide +kernel
theorem dX12_canStayToo_11 : decode cX12_canStayToo 11 = .ok (.getfield 80, 3) := by decide +kernel
theorem dX12_canStayToo_14 : decode cX12_canStayToo 14 = .ok (.iload_n 3, 1) := by decide +kernel
theorem dX12_canStayToo_15 : decode cX12_canStayToo 15 = .ok (.iload_n 3, 1) := by decide +kernel
theorem dX12_canStayToo_16 : decode cX12_canStayToo 16 = .ok (.iload_n 1, 1) := by decide +kernel
theorem dX12_canStayToo_17 : decode cX12_canStayToo 17 = .ok (.if_icmp .eq 12, 3) := by decide +kernel
theorem dX12_canStayToo_20 : decode cX12_canStayToo 20 = .ok (.aload_n 0, 1) := by decide +kernel
theorem dX12_canStayToo_21 : decode cX12_canStayToo 21 = .ok (.getfield 64, 3) := by decide +kernel
theorem dX12_canStayToo_24 : decode cX12_canStayToo 24 = .ok (.iload_n 3, 1) := by decide +kernel
theorem dX12_canStayToo_25 : decode cX12_canStayToo 25 = .ok (.baload, 1) := by decide +kernel
theorem dX12_canStayToo_26 : decode cX12_canStayToo 26 = .ok (.ifCond .eq 7, 3) := by decide +kernel
theorem dX12_canStayToo_29 : decode cX12_canStayToo 29 = .ok (.iconst 1, 1) := by decide +kernel
theorem dX12_canStayToo_30 : decode cX12_canStayToo 30 = .ok (.goto 4, 3) := by decide +kernel
theorem dX12_canStayToo_33 : decode cX12_canStayToo 33 = .ok (.iconst 0, 1) := by decide +kernel
theorem dX12_canStayToo_34 : decode cX12_canStayToo 34 = .ok (.bastore, 1) := by decide +kernel
theorem dX12_canStayToo_35 : decode cX12_canStayToo 35 = .ok (.iinc 3 1, 3) := by decide +kernel
theorem dX12_canStayToo_38 : decode cX12_canStayToo 38 = .ok (.goto (-36), 3) := by decide +kernel
theorem dX12_canStayToo_41 : decode cX12_canStayToo 41 = .ok (.aload_n 0, 1) := by decide +kernel
theorem dX12_canStayToo_42 : decode cX12_canStayToo 42 = .ok (.iconst 0, 1) := by decide +kernel
theorem dX12_canStayToo_43 : decode cX12_canStayToo 43 = .ok (.iload_n 2, 1) := by decide +kernel
theorem dX12_canStayToo_44 : decode cX12_canStayToo 44 = .ok (.invokevirtual 218, 3) := by decide +kernel
theorem dX12_canStayToo_47 : decode cX12_canStayToo 47 = .ok (.ireturn, 1) := by decide +kernel
theorem dX12_sell_0 : decode cX12_sell 0 = .ok (.aload_n 0, 1) := by decide +kernel
theorem dX12_sell_1 : decode cX12_sell 1 = .ok (.iconst 0, 1) := by decide +kernel
theorem dX12_sell_2 : decode cX12_sell 2 = .ok (.putfield 98, 3) := by decide +kernel
theorem dX12_sell_5 : decode cX12_sell 5 = .ok (.aload_n 0, 1) := by decide +kernel
theorem dX12_sell_6 : decode cX12_sell 6 = .ok (.iload_n 1, 1) := by decide +kernel
theorem dX12_sell_7 : decode cX12_sell 7 = .ok (.iconst 1, 1) := by decide +kernel
theorem dX12_sell_8 : decode cX12_sell 8 = .ok (.sipush 9999, 3) := by decide +kernel
theorem dX12_sell_11 : decode cX12_sell 11 = .ok (.invokestatic 101, 3) := by decide +kernel
theorem dX12_sell_14 : decode cX12_sell 14 = .ok (.ifCond .eq 24, 3) := by decide +kernel
theorem dX12_sell_17 : decode cX12_sell 17 = .ok (.iload_n 2, 1) := by decide +kernel
theorem dX12_sell_18 : decode cX12_sell 18 = .ok (.iconst 1, 1) := by decide +kernel
theorem dX12_sell_19 : decode cX12_sell 19 = .ok (.sipush 999, 3) := by decide +kernel
theorem dX12_sell_22 : decode cX12_sell 22 = .ok (.invokestatic 101, 3) := by decide +kernel
theorem dX12_sell_25 : decode cX12_sell 25 = .ok (.ifCond .eq 13, 3) := by decide +kernel
theorem dX12_sell_28 : decode cX12_sell 28 = .ok (.iload_n 3, 1) := by decide +kernel
theorem dX12_sell_29 : decode cX12_sell 29 = .ok (.iconst 1, 1) := by decide +kernel
theorem dX12_sell_30 : decode cX12_sell 30 = .ok (.bipush 8, 2) := by decide +kernel
theorem dX12_sell_32 : decode cX12_sell 32 = .ok (.invokestatic 101, 3) := by decide +kernel
theorem dX12_sell_35 : decode cX12_sell 35 = .ok (.ifCond .ne 7, 3) := by decide +kernel
theorem dX12_sell_38 : decode cX12_sell 38 = .ok (.iconst 1, 1) := by decide +kernel
theorem dX12_sell_39 : decode cX12_sell 39 = .ok (.goto 4, 3) := by decide +kernel
theorem dX12_sell_42 : decode cX12_sell 42 = .ok (.iconst 0, 1) := by decide +kernel
theorem dX12_sell_43 : decode cX12_sell 43 = .ok (.iconst 1, 1) := by decide +kernel
theorem dX12_sell_44 : decode cX12_sell 44 = .ok (.invokevirtual 115, 3) := by decide +kernel
theorem dX12_sell_47 : decode cX12_sell 47 = .ok (.ifCond .eq 5, 3) := by decide +kernel
theorem dX12_sell_50 : decode cX12_sell 50 = .ok (.iconst 0, 1) := by decide +kernel
theorem dX12_sell_51 : decode cX12_sell 51 = .ok (.ireturn, 1) := by decide +kernel
theorem dX12_sell_52 : decode cX12_sell 52 = .ok (.iconst 0, 1) := by decide +kernel
theorem dX12_sell_53 : decode cX12_sell 53 = .ok (.istore 4, 2) := by decide +kernel
theorem dX12_sell_55 : decode cX12_sell 55 = .ok (.iconst 0, 1) := by decide +kernel
theorem dX12_sell_56 : decode cX12_sell 56 = .ok (.istore 5, 2) := by decide +kernel
theorem dX12_sell_58 : decode cX12_sell 58 = .ok (.iload 5, 2) := by decide +kernel
theorem dX12_sell_60 : decode cX12_sell 60 = .ok (.aload_n 0, 1) := by decide +kernel
theorem dX12_sell_61 : decode cX12_sell 61 = .ok (.getfield 108, 3) := by decide +kernel
theorem dX12_sell_64 : decode cX12_sell 64 = .ok (.if_icmp .ge 40, 3) := by decide +kernel
theorem dX12_sell_67 : decode cX12_sell 67 = .ok (.iload 4, 2) := by decide +kernel
theorem dX12_sell_69 : decode cX12_sell 69 = .ok (.aload_n 0, 1) := by decide +kernel
theorem dX12_sell_70 : decode cX12_sell 70 = .ok (.getfield 35, 3) := by decide +kernel
theorem dX12_sell_73 : decode cX12_sell 73 = .ok (.iload 5, 2) := by decide +kernel
theorem dX12_sell_75 : decode cX12_sell 75 = .ok (.baload, 1) := by decide +kernel
theorem dX12_sell_76 : decode cX12_sell 76 = .ok (.ifCond .eq 18, 3) := by decide +kernel
theorem dX12_sell_79 : decode cX12_sell 79 = .ok (.aload_n 0, 1) := by decide +kernel
theorem dX12_sell_80 : decode cX12_sell 80 = .ok (.getfield 39, 3) := by decide +kernel
theorem dX12_sell_83 : decode cX12_sell 83 = .ok (.iload 5, 2) := by decide +kernel
theorem dX12_sell_85 : decode cX12_sell 85 = .ok (.iaload, 1) := by decide +kernel
theorem dX12_sell_86 : decode cX12_sell 86 = .ok (.iconst (-1), 1) := by decide +kernel
theorem dX12_sell_87 : decode cX12_sell 87 = .ok (.if_icmp .eq 7, 3) := by decide +kernel
theorem dX12_sell_90 : decode cX12_sell 90 = .ok (.iconst 1, 1) := by decide +kernel
theorem dX12_sell_91 : decode cX12_sell 91 = .ok (.goto 4, 3) := by decide +kernel
theorem dX12_sell_94 : decode cX12_sell 94 = .ok (.iconst 0, 1) := by decide +kernel
theorem dX12_sell_95 : decode cX12_sell 95 = .ok (.iadd, 1) := by decide +kernel
theorem dX12_sell_96 : decode cX12_sell 96 = .ok (.istore 4, 2) := by decide +kernel
theorem dX12_sell_98 : decode cX12_sell 98 = .ok (.iinc 5 1, 3) := by decide +kernel
theorem dX12_sell_101 : decode cX12_sell 101 = .ok (.goto (-43), 3) := by decide +kernel
theorem dX12_sell_104 : decode cX12_sell 104 = .ok (.aload_n 0, 1) := by decide +kernel
theorem dX12_sell_105 : decode cX12_sell 105 = .ok (.iload 4, 2) := by decide +kernel
theorem dX12_sell_107 : decode cX12_sell 107 = .ok (.ifCond .eq 12, 3) := by decide +kernel
theorem dX12_sell_110 : decode cX12_sell 110 = .ok (.aload_n 0, 1) := by decide +kernel
theorem dX12_sell_111 : decode cX12_sell 111 = .ok (.iload_n 1, 1) := by decide +kernel
theorem dX12_sell_112 : decode cX12_sell 112 = .ok (.iload_n 3, 1) := by decide +kernel
theorem dX12_sell_113 : decode cX12_sell 113 = .ok (.invokevirtual 227, 3) := by decide +kernel
theorem dX12_sell_116 : decode cX12_sell 116 = .ok (.ifCond .ne 7, 3) := by decide +kernel
theorem dX12_sell_119 : decode cX12_sell 119 = .ok (.iconst 1, 1) := by decide +kernel
theorem dX12_sell_120 : decode cX12_sell 120 = .ok (.goto 4, 3) := by decide +kernel
theorem dX12_sell_123 : decode cX12_sell 123 = .ok (.iconst 0, 1) := by decide +kernel
theorem dX12_sell_124 : decode cX12_sell 124 = .ok (.iconst 2, 1) := by decide +kernel
theorem dX12_sell_125 : decode cX12_sell 125 = .ok (.invokevirtual 115, 3) := by decide +kernel
theorem dX12_sell_128 : decode cX12_sell 128 = .ok (.ifCond .eq 5, 3) := by decide +kernel
theorem dX12_sell_131 : decode cX12_sell 131 = .ok (.iconst 0, 1) := by decide +kernel
theorem dX12_sell_132 : decode cX12_sell 132 = .ok (.ireturn, 1) := by decide +kernel
theorem dX12_sell_133 : decode cX12_sell 133 = .ok (.iconst 0, 1) := by decide +kernel
theorem dX12_sell_134 : decode cX12_sell 134 = .ok (.istore 5, 2) := by decide +kernel
theorem dX12_sell_136 : decode cX12_sell 136 = .ok (.iconst 0, 1) := by decide +kernel
theorem dX12_sell_137 : decode cX12_sell 137 = .ok (.istore 6, 2) := by decide +kernel
theorem dX12_sell_139 : decode cX12_sell 139 = .ok (.iload 6, 2) := by decide +kernel
theorem dX12_sell_141 : decode cX12_sell 141 = .ok (.bipush 8, 2) := by decide +kernel
theorem dX12_sell_143 : decode cX12_sell 143 = .ok (.if_icmp .ge 129, 3) := by decide +kernel
theorem dX12_sell_146 : decode cX12_sell 146 = .ok (.iload 6, 2) := by decide +kernel
theorem dX12_sell_148 : decode cX12_sell 148 = .ok (.aload_n 0, 1) := by decide +kernel
theorem dX12_sell_149 : decode cX12_sell 149 = .ok (.getfield 108, 3) := by decide +kernel
theorem dX12_sell_152 : decode cX12_sell 152 = .ok (.if_icmp .ge 28, 3) := by decide +kernel
theorem dX12_sell_155 : decode cX12_sell 155 = .ok (.aload_n 0, 1) := by decide +kernel
theorem dX12_sell_156 : decode cX12_sell 156 = .ok (.getfield 35, 3) := by decide +kernel
theorem dX12_sell_159 : decode cX12_sell 159 = .ok (.iload 6, 2) := by decide +kernel
theorem dX12_sell_161 : decode cX12_sell 161 = .ok (.baload, 1) := by decide +kernel
theorem dX12_sell_162 : decode cX12_sell 162 = .ok (.ifCond .eq 18, 3) := by decide +kernel
theorem dX12_sell_165 : decode cX12_sell 165 = .ok (.aload_n 0, 1) := by decide +kernel
theorem dX12_sell_166 : decode cX12_sell 166 = .ok (.getfield 39, 3) := by decide +kernel
theorem dX12_sell_169 : decode cX12_sell 169 = .ok (.iload 6, 2) := by decide +kernel
theorem dX12_sell_171 : decode cX12_sell 171 = .ok (.iaload, 1) := by decide +kernel
theorem dX12_sell_172 : decode cX12_sell 172 = .ok (.iconst (-1), 1) := by decide +kernel
theorem dX12_sell_173 : decode cX12_sell 173 = .ok (.if_icmp .eq 7, 3) := by decide +kernel
theorem dX12_sell_176 : decode cX12_sell 176 = .ok (.iconst 1, 1) := by decide +kernel
theorem dX12_sell_177 : decode cX12_sell 177 = .ok (.goto 4, 3) := by decide +kernel
theorem dX12_sell_180 : decode cX12_sell 180 = .ok (.iconst 0, 1) := by decide +kernel
theorem dX12_sell_181 : decode cX12_sell 181 = .ok (.istore 7, 2) := by decide +kernel
theorem dX12_sell_183 : decode cX12_sell 183 = .ok (.aload_n 0, 1) := by decide +kernel
theorem dX12_sell_184 : decode cX12_sell 184 = .ok (.getfield 64, 3) := by decide +kernel
theorem dX12_sell_187 : decode cX12_sell 187 = .ok (.iload 6, 2) := by decide +kernel
theorem dX12_sell_189 : decode cX12_sell 189 = .ok (.iload 7, 2) := by decide +kernel
theorem dX12_sell_191 : decode cX12_sell 191 = .ok (.ifCond .eq 18, 3) := by decide +kernel
theorem dX12_sell_194 : decode cX12_sell 194 = .ok (.aload_n 0, 1) := by decide +kernel
theorem dX12_sell_195 : decode cX12_sell 195 = .ok (.getfield 42, 3) := by decide +kernel
theorem dX12_sell_198 : decode cX12_sell 198 = .ok (.iload 6, 2) := by decide +kernel
theorem dX12_sell_200 : decode cX12_sell 200 = .ok (.iaload, 1) := by decide +kernel
theorem dX12_sell_201 : decode cX12_sell 201 = .ok (.iload_n 1, 1) := by decide +kernel
theorem dX12_sell_202 : decode cX12_sell 202 = .ok (.if_icmp .le 7, 3) := by decide +kernel
theorem dX12_sell_205 : decode cX12_sell 205 = .ok (.iconst 1, 1) := by decide +kernel
theorem dX12_sell_206 : decode cX12_sell 206 = .ok (.goto 4, 3) := by decide +kernel
theorem dX12_sell_209 : decode cX12_sell 209 = .ok (.iconst 0, 1) := by decide +kernel
theorem dX12_sell_210 : decode cX12_sell 210 = .ok (.bastore, 1) := by decide +kernel
theorem dX12_sell_211 : decode cX12_sell 211 = .ok (.aload_n 0, 1) := by decide +kernel
theorem dX12_sell_212 : decode cX12_sell 212 = .ok (.getfield 92, 3) := by decide +kernel
theorem dX12_sell_215 : decode cX12_sell 215 = .ok (.iload 6, 2) := by decide +kernel
theorem dX12_sell_217 : decode cX12_sell 217 = .ok (.iload 7, 2) := by decide +kernel
theorem dX12_sell_219 : decode cX12_sell 219 = .ok (.ifCond .eq 17, 3) := by decide +kernel
theorem dX12_sell_222 : decode cX12_sell 222 = .ok (.aload_n 0, 1) := by decide +kernel
theorem dX12_sell_223 : decode cX12_sell 223 = .ok (.getfield 64, 3) := by decide +kernel
theorem dX12_sell_226 : decode cX12_sell 226 = .ok (.iload 6, 2) := by decide +kernel
theorem dX12_sell_228 : decode cX12_sell 228 = .ok (.baload, 1) := by decide +kernel
theorem dX12_sell_229 : decode cX12_sell 229 = .ok (.ifCond .ne 7, 3) := by decide +kernel
theorem dX12_sell_232 : decode cX12_sell 232 = .ok (.iconst 1, 1) := by decide +kernel
theorem dX12_sell_233 : decode cX12_sell 233 = .ok (.goto 4, 3) := by decide +kernel
theorem dX12_sell_236 : decode cX12_sell 236 = .ok (.iconst 0, 1) := by decide +kernel
theorem dX12_sell_237 : decode cX12_sell 237 = .ok (.bastore, 1) := by decide +kernel
theorem dX12_sell_238 : decode cX12_sell 238 = .ok (.aload_n 0, 1) := by decide +kernel
theorem dX12_sell_239 : decode cX12_sell 239 = .ok (.getfield 61, 3) := by decide +kernel
theorem dX12_sell_242 : decode cX12_sell 242 = .ok (.iload 6, 2) := by decide +kernel
theorem dX12_sell_244 : decode cX12_sell 244 = .ok (.iconst (-1), 1) := by decide +kernel
theorem dX12_sell_245 : decode cX12_sell 245 = .ok (.iastore, 1) := by decide +kernel
theorem dX12_sell_246 : decode cX12_sell 246 = .ok (.iload 5, 2) := by decide +kernel
theorem dX12_sell_248 : decode cX12_sell 248 = .ok (.aload_n 0, 1) := by decide +kernel
theorem dX12_sell_249 : decode cX12_sell 249 = .ok (.getfield 92, 3) := by decide +kernel
theorem dX12_sell_252 : decode cX12_sell 252 = .ok (.iload 6, 2) := by decide +kernel
theorem dX12_sell_254 : decode cX12_sell 254 = .ok (.baload, 1) := by decide +kernel
theorem dX12_sell_255 : decode cX12_sell 255 = .ok (.ifCond .eq 7, 3) := by decide +kernel
theorem dX12_sell_258 : decode cX12_sell 258 = .ok (.iconst 1, 1) := by decide +kernel
theorem dX12_sell_259 : decode cX12_sell 259 = .ok (.goto 4, 3) := by decide +kernel
theorem dX12_sell_262 : decode cX12_sell 262 = .ok (.iconst 0, 1) := by decide +kernel
theorem dX12_sell_263 : decode cX12_sell 263 = .ok (.iadd, 1) := by decide +kernel
theorem dX12_sell_264 : decode cX12_sell 264 = .ok (.istore 5, 2) := by decide +kernel
theorem dX12_sell_266 : decode cX12_sell 266 = .ok (.iinc 6 1, 3) := by decide +kernel
theorem dX12_sell_269 : decode cX12_sell 269 = .ok (.goto (-130), 3) := by decide +kernel
theorem dX12_sell_272 : decode cX12_sell 272 = .ok (.iload_n 1, 1) := by decide +kernel
theorem dX12_sell_273 : decode cX12_sell 273 = .ok (.istore 6, 2) := by decide +kernel
theorem dX12_sell_275 : decode cX12_sell 275 = .ok (.aload_n 0, 1) := by decide +kernel
theorem dX12_sell_276 : decode cX12_sell 276 = .ok (.iconst 1, 1) := by decide +kernel
theorem dX12_sell_277 : decode cX12_sell 277 = .ok (.putfield 230, 3) := by decide +kernel
theorem dX12_sell_280 : decode cX12_sell 280 = .ok (.aload_n 0, 1) := by decide +kernel
theorem dX12_sell_281 : decode cX12_sell 281 = .ok (.iload_n 3, 1) := by decide +kernel
theorem dX12_sell_282 : decode cX12_sell 282 = .ok (.putfield 234, 3) := by decide +kernel
theorem dX12_sell_285 : decode cX12_sell 285 = .ok (.aload_n 0, 1) := by decide +kernel
theorem dX12_sell_286 : decode cX12_sell 286 = .ok (.iconst 0, 1) := by decide +kernel
theorem dX12_sell_287 : decode cX12_sell 287 = .ok (.putfield 237, 3) := by decide +kernel
theorem dX12_sell_290 : decode cX12_sell 290 = .ok (.iload 5, 2) := by decide +kernel
theorem dX12_sell_292 : decode cX12_sell 292 = .ok (.ifCond .le 161, 3) := by decide +kernel
theorem dX12_sell_295 : decode cX12_sell 295 = .ok (.iload 6, 2) := by decide +kernel
theorem dX12_sell_297 : decode cX12_sell 297 = .ok (.iload_n 2, 1) := by decide +kernel
theorem dX12_sell_298 : decode cX12_sell 298 = .ok (.if_icmp .lt 155, 3) := by decide +kernel
theorem dX12_sell_301 : decode cX12_sell 301 = .ok (.aload_n 0, 1) := by decide +kernel
theorem dX12_sell_302 : decode cX12_sell 302 = .ok (.dup, 1) := by decide +kernel
theorem dX12_sell_303 : decode cX12_sell 303 = .ok (.getfield 237, 3) := by decide +kernel
theorem dX12_sell_306 : decode cX12_sell 306 = .ok (.iconst 1, 1) := by decide +kernel
theorem dX12_sell_307 : decode cX12_sell 307 = .ok (.iadd, 1) := by decide +kernel
theorem dX12_sell_308 : decode cX12_sell 308 = .ok (.putfield 237, 3) := by decide +kernel
theorem dX12_sell_311 : decode cX12_sell 311 = .ok (.iconst 0, 1) := by decide +kernel
theorem dX12_sell_312 : decode cX12_sell 312 = .ok (.istore 7, 2) := by decide +kernel
theorem dX12_sell_314 : decode cX12_sell 314 = .ok (.iload 7, 2) := by decide +kernel
theorem dX12_sell_316 : decode cX12_sell 316 = .ok (.aload_n 0, 1) := by decide +kernel
theorem dX12_sell_317 : decode cX12_sell 317 = .ok (.getfield 108, 3) := by decide +kernel
theorem dX12_sell_320 : decode cX12_sell 320 = .ok (.if_icmp .ge 124, 3) := by decide +kernel
theorem dX12_sell_323 : decode cX12_sell 323 = .ok (.aload_n 0, 1) := by decide +kernel
theorem dX12_sell_324 : decode cX12_sell 324 = .ok (.getfield 92, 3) := by decide +kernel
theorem dX12_sell_327 : decode cX12_sell 327 = .ok (.iload 7, 2) := by decide +kernel
theorem dX12_sell_329 : decode cX12_sell 329 = .ok (.baload, 1) := by decide +kernel
theorem dX12_sell_330 : decode cX12_sell 330 = .ok (.ifCond .eq 108, 3) := by decide +kernel
theorem dX12_sell_333 : decode cX12_sell 333 = .ok (.aload_n 0, 1) := by decide +kernel
theorem dX12_sell_334 : decode cX12_sell 334 = .ok (.iload 7, 2) := by decide +kernel
theorem dX12_sell_336 : decode cX12_sell 336 = .ok (.iload_n 3, 1) := by decide +kernel
theorem dX12_sell_337 : decode cX12_sell 337 = .ok (.invokevirtual 240, 3) := by decide +kernel
theorem dX12_sell_340 : decode cX12_sell 340 = .ok (.istore 8, 2) := by decide +kernel
theorem dX12_sell_342 : decode cX12_sell 342 = .ok (.aload_n 0, 1) := by decide +kernel
theorem dX12_sell_343 : decode cX12_sell 343 = .ok (.getfield 61, 3) := by decide +kernel
theorem dX12_sell_346 : decode cX12_sell 346 = .ok (.iload 7, 2) := by decide +kernel
theorem dX12_sell_348 : decode cX12_sell 348 = .ok (.iload 8, 2) := by decide +kernel
theorem dX12_sell_350 : decode cX12_sell 350 = .ok (.ifCond .eq 7, 3) := by decide +kernel
theorem dX12_sell_353 : decode cX12_sell 353 = .ok (.iconst (-1), 1) := by decide +kernel
theorem dX12_sell_354 : decode cX12_sell 354 = .ok (.goto 5, 3) := by decide +kernel
theorem dX12_sell_357 : decode cX12_sell 357 = .ok (.iload 6, 2) := by decide +kernel
theorem dX12_sell_359 : decode cX12_sell 359 = .ok (.iastore, 1) := by decide +kernel
theorem dX12_sell_360 : decode cX12_sell 360 = .ok (.aload_n 0, 1) := by decide +kernel
theorem dX12_sell_361 : decode cX12_sell 361 = .ok (.getfield 64, 3) := by decide +kernel
theorem dX12_sell_364 : decode cX12_sell 364 = .ok (.iload 7, 2) := by decide +kernel
theorem dX12_sell_366 : decode cX12_sell 366 = .ok (.iload 8, 2) := by decide +kernel
theorem dX12_sell_368 : decode cX12_sell 368 = .ok (.ifCond .eq 21, 3) := by decide +kernel
theorem dX12_sell_371 : decode cX12_sell 371 = .ok (.aload_n 0, 1) := by decide +kernel
theorem dX12_sell_372 : decode cX12_sell 372 = .ok (.getfield 42, 3) := by decide +kernel
theorem dX12_sell_375 : decode cX12_sell 375 = .ok (.iload 7, 2) := by decide +kernel
theorem dX12_sell_377 : decode cX12_sell 377 = .ok (.iaload, 1) := by decide +kernel
theorem dX12_sell_378 : decode cX12_sell 378 = .ok (.iload 6, 2) := by decide +kernel
theorem dX12_sell_380 : decode cX12_sell 380 = .ok (.iload_n 2, 1) := by decide +kernel
theorem dX12_sell_381 : decode cX12_sell 381 = .ok (.isub, 1) := by decide +kernel
theorem dX12_sell_382 : decode cX12_sell 382 = .ok (.if_icmp .le 7, 3) := by decide +kernel
theorem dX12_sell_385 : decode cX12_sell 385 = .ok (.iconst 1, 1) := by decide +kernel
theorem dX12_sell_386 : decode cX12_sell 386 = .ok (.goto 4, 3) := by decide +kernel
theorem dX12_sell_389 : decode cX12_sell 389 = .ok (.iconst 0, 1) := by decide +kernel
theorem dX12_sell_390 : decode cX12_sell 390 = .ok (.bastore, 1) := by decide +kernel
theorem dX12_sell_391 : decode cX12_sell 391 = .ok (.aload_n 0, 1) := by decide +kernel
theorem dX12_sell_392 : decode cX12_sell 392 = .ok (.getfield 92, 3) := by decide +kernel
theorem dX12_sell_395 : decode cX12_sell 395 = .ok (.iload 7, 2) := by decide +kernel
theorem dX12_sell_397 : decode cX12_sell 397 = .ok (.iload 8, 2) := by decide +kernel
theorem dX12_sell_399 : decode cX12_sell 399 = .ok (.ifCond .eq 17, 3) := by decide +kernel
theorem dX12_sell_402 : decode cX12_sell 402 = .ok (.aload_n 0, 1) := by decide +kernel
theorem dX12_sell_403 : decode cX12_sell 403 = .ok (.getfield 64, 3) := by decide +kernel
theorem dX12_sell_406 : decode cX12_sell 406 = .ok (.iload 7, 2) := by decide +kernel
theorem dX12_sell_408 : decode cX12_sell 408 = .ok (.baload, 1) := by decide +kernel
theorem dX12_sell_409 : decode cX12_sell 409 = .ok (.ifCond .ne 7, 3) := by decide +kernel
theorem dX12_sell_412 : decode cX12_sell 412 = .ok (.iconst 1, 1) := by decide +kernel
theorem dX12_sell_413 : decode cX12_sell 413 = .ok (.goto 4, 3) := by decide +kernel
theorem dX12_sell_416 : decode cX12_sell 416 = .ok (.iconst 0, 1) := by decide +kernel
theorem dX12_sell_417 : decode cX12_sell 417 = .ok (.bastore, 1) := by decide +kernel
theorem dX12_sell_418 : decode cX12_sell 418 = .ok (.iload 5, 2) := by decide +kernel
theorem dX12_sell_420 : decode cX12_sell 420 = .ok (.aload_n 0, 1) := by decide +kernel
theorem dX12_sell_421 : decode cX12_sell 421 = .ok (.getfield 92, 3) := by decide +kernel
theorem dX12_sell_424 : decode cX12_sell 424 = .ok (.iload 7, 2) := by decide +kernel
theorem dX12_sell_426 : decode cX12_sell 426 = .ok (.baload, 1) := by decide +kernel
theorem dX12_sell_427 : decode cX12_sell 427 = .ok (.ifCond .eq 7, 3) := by decide +kernel
theorem dX12_sell_430 : decode cX12_sell 430 = .ok (.iconst 0, 1) := by decide +kernel
theorem dX12_sell_431 : decode cX12_sell 431 = .ok (.goto 4, 3) := by decide +kernel
theorem dX12_sell_434 : decode cX12_sell 434 = .ok (.iconst 1, 1) := by decide +kernel
theorem dX12_sell_435 : decode cX12_sell 435 = .ok (.isub, 1) := by decide +kernel
theorem dX12_sell_436 : decode cX12_sell 436 = .ok (.istore 5, 2) := by decide +kernel
theorem dX12_sell_438 : decode cX12_sell 438 = .ok (.iinc 7 1, 3) := by decide +kernel
theorem dX12_sell_441 : decode cX12_sell 441 = .ok (.goto (-127), 3) := by decide +kernel
theorem dX12_sell_444 : decode cX12_sell 444 = .ok (.iload 6, 2) := by decide +kernel
theorem dX12_sell_446 : decode cX12_sell 446 = .ok (.iload_n 2, 1) := by decide +kernel
theorem dX12_sell_447 : decode cX12_sell 447 = .ok (.isub, 1) := by decide +kernel
theorem dX12_sell_448 : decode cX12_sell 448 = .ok (.istore 6, 2) := by decide +kernel
theorem dX12_sell_450 : decode cX12_sell 450 = .ok (.goto (-160), 3) := by decide +kernel
theorem dX12_sell_453 : decode cX12_sell 453 = .ok (.iconst 0, 1) := by decide +kernel
theorem dX12_sell_454 : decode cX12_sell 454 = .ok (.istore 7, 2) := by decide +kernel
theorem dX12_sell_456 : decode cX12_sell 456 = .ok (.iconst 0, 1) := by decide +kernel
theorem dX12_sell_457 : decode cX12_sell 457 = .ok (.istore 8, 2) := by decide +kernel
theorem dX12_sell_459 : decode cX12_sell 459 = .ok (.iload 8, 2) := by decide +kernel
theorem dX12_sell_461 : decode cX12_sell 461 = .ok (.aload_n 0, 1) := by decide +kernel
theorem dX12_sell_462 : decode cX12_sell 462 = .ok (.getfield 108, 3) := by decide +kernel
theorem dX12_sell_465 : decode cX12_sell 465 = .ok (.if_icmp .ge 59, 3) := by decide +kernel
theorem dX12_sell_468 : decode cX12_sell 468 = .ok (.aload_n 0, 1) := by decide +kernel
theorem dX12_sell_469 : decode cX12_sell 469 = .ok (.getfield 61, 3) := by decide +kernel
theorem dX12_sell_472 : decode cX12_sell 472 = .ok (.iload 8, 2) := by decide +kernel
theorem dX12_sell_474 : decode cX12_sell 474 = .ok (.aload_n 0, 1) := by decide +kernel
theorem dX12_sell_475 : decode cX12_sell 475 = .ok (.getfield 92, 3) := by decide +kernel
theorem dX12_sell_478 : decode cX12_sell 478 = .ok (.iload 8, 2) := by decide +kernel
theorem dX12_sell_480 : decode cX12_sell 480 = .ok (.baload, 1) := by decide +kernel
theorem dX12_sell_481 : decode cX12_sell 481 = .ok (.ifCond .eq 8, 3) := by decide +kernel
theorem dX12_sell_484 : decode cX12_sell 484 = .ok (.iload 6, 2) := by decide +kernel
theorem dX12_sell_486 : decode cX12_sell 486 = .ok (.goto 10, 3) := by decide +kernel
theorem dX12_sell_489 : decode cX12_sell 489 = .ok (.aload_n 0, 1) := by decide +kernel
theorem dX12_sell_490 : decode cX12_sell 490 = .ok (.getfield 61, 3) := by decide +kernel
theorem dX12_sell_493 : decode cX12_sell 493 = .ok (.iload 8, 2) := by decide +kernel
theorem dX12_sell_495 : decode cX12_sell 495 = .ok (.iaload, 1) := by decide +kernel
theorem dX12_sell_496 : decode cX12_sell 496 = .ok (.iastore, 1) := by decide +kernel
theorem dX12_sell_497 : decode cX12_sell 497 = .ok (.aload_n 0, 1) := by decide +kernel
theorem dX12_sell_498 : decode cX12_sell 498 = .ok (.getfield 61, 3) := by decide +kernel
theorem dX12_sell_501 : decode cX12_sell 501 = .ok (.iload 8, 2) := by decide +kernel
theorem dX12_sell_503 : decode cX12_sell 503 = .ok (.iaload, 1) := by decide +kernel
theorem dX12_sell_504 : decode cX12_sell 504 = .ok (.iconst (-1), 1) := by decide +kernel
theorem dX12_sell_505 : decode cX12_sell 505 = .ok (.if_icmp .eq 13, 3) := by decide +kernel
theorem dX12_sell_508 : decode cX12_sell 508 = .ok (.aload_n 0, 1) := by decide +kernel
theorem dX12_sell_509 : decode cX12_sell 509 = .ok (.iload 8, 2) := by decide +kernel
theorem dX12_sell_511 : decode cX12_sell 511 = .ok (.iconst (-1), 1) := by decide +kernel
theorem dX12_sell_512 : decode cX12_sell 512 = .ok (.invokevirtual 207, 3) := by decide +kernel
theorem dX12_sell_515 : decode cX12_sell 515 = .ok (.iinc 7 1, 3) := by decide +kernel
theorem dX12_sell_518 : decode cX12_sell 518 = .ok (.iinc 8 1, 3) := by decide +kernel
theorem dX12_sell_521 : decode cX12_sell 521 = .ok (.goto (-62), 3) := by decide +kernel
theorem dX12_sell_524 : decode cX12_sell 524 = .ok (.iload 7, 2) := by decide +kernel
theorem dX12_sell_526 : decode cX12_sell 526 = .ok (.ireturn, 1) := by decide +kernel
theorem dX12_priceOf_0 : decode cX12_priceOf 0 = .ok (.aload_n 0, 1) := by decide +kernel
theorem dX12_priceOf_1 : decode cX12_priceOf 1 = .ok (.iconst 0, 1) := by decide +kernel
theorem dX12_priceOf_2 : decode cX12_priceOf 2 = .ok (.putfield 98, 3) := by decide +kernel
theorem dX12_priceOf_5 : decode cX12_priceOf 5 = .ok (.aload_n 0, 1) := by decide +kernel
theorem dX12_priceOf_6 : decode cX12_priceOf 6 = .ok (.aload_n 0, 1) := by decide +kernel
theorem dX12_priceOf_7 : decode cX12_priceOf 7 = .ok (.iload_n 1, 1) := by decide +kernel
theorem dX12_priceOf_8 : decode cX12_priceOf 8 = .ok (.invokevirtual 153, 3) := by decide +kernel
theorem dX12_priceOf_11 : decode cX12_priceOf 11 = .ok (.iconst 1, 1) := by decide +kernel
theorem dX12_priceOf_12 : decode cX12_priceOf 12 = .ok (.invokevirtual 115, 3) := by decide +kernel
theorem dX12_priceOf_15 : decode cX12_priceOf 15 = .ok (.ifCond .ne 26, 3) := by decide +kernel
theorem dX12_priceOf_18 : decode cX12_priceOf 18 = .ok (.aload_n 0, 1) := by decide +kernel
theorem dX12_priceOf_19 : decode cX12_priceOf 19 = .ok (.aload_n 0, 1) := by decide +kernel
theorem dX12_priceOf_20 : decode cX12_priceOf 20 = .ok (.getfield 61, 3) := by decide +kernel
theorem dX12_priceOf_23 : decode cX12_priceOf 23 = .ok (.iload_n 1, 1) := by decide +kernel
theorem dX12_priceOf_24 : decode cX12_priceOf 24 = .ok (.iaload, 1) := by decide +kernel
theorem dX12_priceOf_25 : decode cX12_priceOf 25 = .ok (.iconst (-1), 1) := by decide +kernel
theorem dX12_priceOf_26 : decode cX12_priceOf 26 = .ok (.if_icmp .ne 7, 3) := by decide +kernel
theorem dX12_priceOf_29 : decode cX12_priceOf 29 = .ok (.iconst 1, 1) := by decide +kernel
theorem dX12_priceOf_30 : decode cX12_priceOf 30 = .ok (.goto 4, 3) := by decide +kernel
theorem dX12_priceOf_33 : decode cX12_priceOf 33 = .ok (.iconst 0, 1) := by decide +kernel
theorem dX12_priceOf_34 : decode cX12_priceOf 34 = .ok (.iconst 2, 1) := by decide +kernel
theorem dX12_priceOf_35 : decode cX12_priceOf 35 = .ok (.invokevirtual 115, 3) := by decide +kernel
theorem dX12_priceOf_38 : decode cX12_priceOf 38 = .ok (.ifCond .eq 7, 3) := by decide +kernel
theorem dX12_priceOf_41 : decode cX12_priceOf 41 = .ok (.iconst 0, 1) := by decide +kernel
theorem dX12_priceOf_42 : decode cX12_priceOf 42 = .ok (.goto 9, 3) := by decide +kernel
theorem dX12_priceOf_45 : decode cX12_priceOf 45 = .ok (.aload_n 0, 1) := by decide +kernel
theorem dX12_priceOf_46 : decode cX12_priceOf 46 = .ok (.getfield 61, 3) := by decide +kernel
theorem dX12_priceOf_49 : decode cX12_priceOf 49 = .ok (.iload_n 1, 1) := by decide +kernel
theorem dX12_priceOf_50 : decode cX12_priceOf 50 = .ok (.iaload, 1) := by decide +kernel
theorem dX12_priceOf_51 : decode cX12_priceOf 51 = .ok (.ireturn, 1) := by decide +kernel
theorem dX12_rounds_0 : decode cX12_rounds 0 = .ok (.aload_n 0, 1) := by decide +kernel
theorem dX12_rounds_1 : decode cX12_rounds 1 = .ok (.iconst 0, 1) := by decide +kernel
theorem dX12_rounds_2 : decode cX12_rounds 2 = .ok (.putfield 98, 3) := by decide +kernel
theorem dX12_rounds_5 : decode cX12_rounds 5 = .ok (.aload_n 0, 1) := by decide +kernel
theorem dX12_rounds_6 : decode cX12_rounds 6 = .ok (.getfield 237, 3) := by decide +kernel
theorem dX12_rounds_9 : decode cX12_rounds 9 = .ok (.ireturn, 1) := by decide +kernel
theorem dX12_addBidder_0 : decode cX12_addBidder 0 = .ok (.aload_n 0, 1) := by decide +kernel
theorem dX12_addBidder_1 : decode cX12_addBidder 1 = .ok (.iconst 0, 1) := by decide +kernel
theorem dX12_addBidder_2 : decode cX12_addBidder 2 = .ok (.putfield 98, 3) := by decide +kernel
theorem dX12_addBidder_5 : decode cX12_addBidder 5 = .ok (.iload_n 1, 1) := by decide +kernel
theorem dX12_addBidder_6 : decode cX12_addBidder 6 = .ok (.iconst 0, 1) := by decide +kernel
theorem dX12_addBidder_7 : decode cX12_addBidder 7 = .ok (.sipush 9999, 3) := by decide +kernel
theorem dX12_addBidder_10 : decode cX12_addBidder 10 = .ok (.invokestatic 101, 3) := by decide +kernel
theorem dX12_addBidder_13 : decode cX12_addBidder 13 = .ok (.ifCond .eq 25, 3) := by decide +kernel
theorem dX12_addBidder_16 : decode cX12_addBidder 16 = .ok (.iload_n 2, 1) := by decide +kernel
theorem dX12_addBidder_17 : decode cX12_addBidder 17 = .ok (.iconst 0, 1) := by decide +kernel
theorem dX12_addBidder_18 : decode cX12_addBidder 18 = .ok (.iload_n 1, 1) := by decide +kernel
theorem dX12_addBidder_19 : decode cX12_addBidder 19 = .ok (.invokestatic 101, 3) := by decide +kernel
theorem dX12_addBidder_22 : decode cX12_addBidder 22 = .ok (.ifCond .eq 16, 3) := by decide +kernel
theorem dX12_addBidder_25 : decode cX12_addBidder 25 = .ok (.iload_n 3, 1) := by decide +kernel
theorem dX12_addBidder_26 : decode cX12_addBidder 26 = .ok (.iconst 0, 1) := by decide +kernel
theorem dX12_addBidder_27 : decode cX12_addBidder 27 = .ok (.iload_n 2, 1) := by decide +kernel
theorem dX12_addBidder_28 : decode cX12_addBidder 28 = .ok (.invokestatic 101, 3) := by decide +kernel
theorem dX12_addBidder_31 : decode cX12_addBidder 31 = .ok (.ifCond .eq 7, 3) := by decide +kernel
theorem dX12_addBidder_34 : decode cX12_addBidder 34 = .ok (.iconst 1, 1) := by decide +kernel
theorem dX12_addBidder_35 : decode cX12_addBidder 35 = .ok (.goto 4, 3) := by decide +kernel
theorem dX12_addBidder_38 : decode cX12_addBidder 38 = .ok (.iconst 0, 1) := by decide +kernel
theorem dX12_addBidder_39 : decode cX12_addBidder 39 = .ok (.istore 4, 2) := by decide +kernel
theorem dX12_addBidder_41 : decode cX12_addBidder 41 = .ok (.aload_n 0, 1) := by decide +kernel
theorem dX12_addBidder_42 : decode cX12_addBidder 42 = .ok (.iload 4, 2) := by decide +kernel
theorem dX12_addBidder_44 : decode cX12_addBidder 44 = .ok (.ifCond .ne 7, 3) := by decide +kernel
theorem dX12_addBidder_47 : decode cX12_addBidder 47 = .ok (.iconst 1, 1) := by decide +kernel
theorem dX12_addBidder_48 : decode cX12_addBidder 48 = .ok (.goto 4, 3) := by decide +kernel
theorem dX12_addBidder_51 : decode cX12_addBidder 51 = .ok (.iconst 0, 1) := by decide +kernel
theorem dX12_addBidder_52 : decode cX12_addBidder 52 = .ok (.iconst 1, 1) := by decide +kernel
theorem dX12_addBidder_53 : decode cX12_addBidder 53 = .ok (.invokevirtual 115, 3) := by decide +kernel
theorem dX12_addBidder_56 : decode cX12_addBidder 56 = .ok (.ifCond .ne 24, 3) := by decide +kernel
theorem dX12_addBidder_59 : decode cX12_addBidder 59 = .ok (.aload_n 0, 1) := by decide +kernel
theorem dX12_addBidder_60 : decode cX12_addBidder 60 = .ok (.aload_n 0, 1) := by decide +kernel
theorem dX12_addBidder_61 : decode cX12_addBidder 61 = .ok (.getfield 243, 3) := by decide +kernel
theorem dX12_addBidder_64 : decode cX12_addBidder 64 = .ok (.iconst 4, 1) := by decide +kernel
theorem dX12_addBidder_65 : decode cX12_addBidder 65 = .ok (.if_icmp .ne 7, 3) := by decide +kernel
theorem dX12_addBidder_68 : decode cX12_addBidder 68 = .ok (.iconst 1, 1) := by decide +kernel
theorem dX12_addBidder_69 : decode cX12_addBidder 69 = .ok (.goto 4, 3) := by decide +kernel
theorem dX12_addBidder_72 : decode cX12_addBidder 72 = .ok (.iconst 0, 1) := by decide +kernel
theorem dX12_addBidder_73 : decode cX12_addBidder 73 = .ok (.iconst 2, 1) := by decide +kernel
theorem dX12_addBidder_74 : decode cX12_addBidder 74 = .ok (.invokevirtual 115, 3) := by decide +kernel
theorem dX12_addBidder_77 : decode cX12_addBidder 77 = .ok (.ifCond .eq 5, 3) := by decide +kernel
theorem dX12_addBidder_80 : decode cX12_addBidder 80 = .ok (.iconst 0, 1) := by decide +kernel
theorem dX12_addBidder_81 : decode cX12_addBidder 81 = .ok (.ireturn, 1) := by decide +kernel
theorem dX12_addBidder_82 : decode cX12_addBidder 82 = .ok (.aload_n 0, 1) := by decide +kernel
theorem dX12_addBidder_83 : decode cX12_addBidder 83 = .ok (.getfield 67, 3) := by decide +kernel
theorem dX12_addBidder_86 : decode cX12_addBidder 86 = .ok (.iconst 3, 1) := by decide +kernel
theorem dX12_addBidder_87 : decode cX12_addBidder 87 = .ok (.aload_n 0, 1) := by decide +kernel
theorem dX12_addBidder_88 : decode cX12_addBidder 88 = .ok (.getfield 243, 3) := by decide +kernel
theorem dX12_addBidder_91 : decode cX12_addBidder 91 = .ok (.imul, 1) := by decide +kernel
theorem dX12_addBidder_92 : decode cX12_addBidder 92 = .ok (.iload_n 1, 1) := by decide +kernel
theorem dX12_addBidder_93 : decode cX12_addBidder 93 = .ok (.iastore, 1) := by decide +kernel
theorem dX12_addBidder_94 : decode cX12_addBidder 94 = .ok (.aload_n 0, 1) := by decide +kernel
theorem dX12_addBidder_95 : decode cX12_addBidder 95 = .ok (.getfield 67, 3) := by decide +kernel
theorem dX12_addBidder_98 : decode cX12_addBidder 98 = .ok (.iconst 3, 1) := by decide +kernel
theorem dX12_addBidder_99 : decode cX12_addBidder 99 = .ok (.aload_n 0, 1) := by decide +kernel
theorem dX12_addBidder_100 : decode cX12_addBidder 100 = .ok (.getfield 243, 3) := by decide +kernel
theorem dX12_addBidder_103 : decode cX12_addBidder 103 = .ok (.imul, 1) := by decide +kernel
theorem dX12_addBidder_104 : decode cX12_addBidder 104 = .ok (.iconst 1, 1) := by decide +kernel
theorem dX12_addBidder_105 : decode cX12_addBidder 105 = .ok (.iadd, 1) := by decide +kernel
theorem dX12_addBidder_106 : decode cX12_addBidder 106 = .ok (.iload_n 2, 1) := by decide +kernel
theorem dX12_addBidder_107 : decode cX12_addBidder 107 = .ok (.iastore, 1) := by decide +kernel
theorem dX12_addBidder_108 : decode cX12_addBidder 108 = .ok (.aload_n 0, 1) := by decide +kernel
theorem dX12_addBidder_109 : decode cX12_addBidder 109 = .ok (.getfield 67, 3) := by decide +kernel
theorem dX12_addBidder_112 : decode cX12_addBidder 112 = .ok (.iconst 3, 1) := by decide +kernel
theorem dX12_addBidder_113 : decode cX12_addBidder 113 = .ok (.aload_n 0, 1) := by decide +kernel
theorem dX12_addBidder_114 : decode cX12_addBidder 114 = .ok (.getfield 243, 3) := by decide +kernel
theorem dX12_addBidder_117 : decode cX12_addBidder 117 = .ok (.imul, 1) := by decide +kernel
theorem dX12_addBidder_118 : decode cX12_addBidder 118 = .ok (.iconst 2, 1) := by decide +kernel
theorem dX12_addBidder_119 : decode cX12_addBidder 119 = .ok (.iadd, 1) := by decide +kernel
theorem dX12_addBidder_120 : decode cX12_addBidder 120 = .ok (.iload_n 3, 1) := by decide +kernel
theorem dX12_addBidder_121 : decode cX12_addBidder 121 = .ok (.iastore, 1) := by decide +kernel
theorem dX12_addBidder_122 : decode cX12_addBidder 122 = .ok (.aload_n 0, 1) := by decide +kernel
theorem dX12_addBidder_123 : decode cX12_addBidder 123 = .ok (.dup, 1) := by decide +kernel
theorem dX12_addBidder_124 : decode cX12_addBidder 124 = .ok (.getfield 243, 3) := by decide +kernel
theorem dX12_addBidder_127 : decode cX12_addBidder 127 = .ok (.iconst 1, 1) := by decide +kernel
theorem dX12_addBidder_128 : decode cX12_addBidder 128 = .ok (.iadd, 1) := by decide +kernel
theorem dX12_addBidder_129 : decode cX12_addBidder 129 = .ok (.putfield 243, 3) := by decide +kernel
theorem dX12_addBidder_132 : decode cX12_addBidder 132 = .ok (.aload_n 0, 1) := by decide +kernel
theorem dX12_addBidder_133 : decode cX12_addBidder 133 = .ok (.getfield 243, 3) := by decide +kernel
theorem dX12_addBidder_136 : decode cX12_addBidder 136 = .ok (.iconst 1, 1) := by decide +kernel
theorem dX12_addBidder_137 : decode cX12_addBidder 137 = .ok (.isub, 1) := by decide +kernel
theorem dX12_addBidder_138 : decode cX12_addBidder 138 = .ok (.ireturn, 1) := by decide +kernel
theorem dX12_handOut_0 : decode cX12_handOut 0 = .ok (.iconst 0, 1) := by decide +kernel
theorem dX12_handOut_1 : decode cX12_handOut 1 = .ok (.istore_n 3, 1) := by decide +kernel
theorem dX12_handOut_2 : decode cX12_handOut 2 = .ok (.iload_n 3, 1) := by decide +kernel
theorem dX12_handOut_3 : decode cX12_handOut 3 = .ok (.aload_n 0, 1) := by decide +kernel
theorem dX12_handOut_4 : decode cX12_handOut 4 = .ok (.getfield 243, 3) := by decide +kernel
theorem dX12_handOut_7 : decode cX12_handOut 7 = .ok (.if_icmp .ge 16, 3) := by decide +kernel
theorem dX12_handOut_10 : decode cX12_handOut 10 = .ok (.aload_n 0, 1) := by decide +kernel
theorem dX12_handOut_11 : decode cX12_handOut 11 = .ok (.getfield 83, 3) := by decide +kernel
theorem dX12_handOut_14 : decode cX12_handOut 14 = .ok (.iload_n 3, 1) := by decide +kernel
theorem dX12_handOut_15 : decode cX12_handOut 15 = .ok (.iconst 0, 1) := by decide +kernel
theorem dX12_handOut_16 : decode cX12_handOut 16 = .ok (.iastore, 1) := by decide +kernel
theorem dX12_handOut_17 : decode cX12_handOut 17 = .ok (.iinc 3 1, 3) := by decide +kernel
theorem dX12_handOut_20 : decode cX12_handOut 20 = .ok (.goto (-18), 3) := by decide +kernel
theorem dX12_handOut_23 : decode cX12_handOut 23 = .ok (.lconst 0, 1) := by decide +kernel
theorem dX12_handOut_24 : decode cX12_handOut 24 = .ok (.lstore_n 3, 1) := by decide +kernel
theorem dX12_handOut_25 : decode cX12_handOut 25 = .ok (.iconst 0, 1) := by decide +kernel
theorem dX12_handOut_26 : decode cX12_handOut 26 = .ok (.istore 5, 2) := by decide +kernel
theorem dX12_handOut_28 : decode cX12_handOut 28 = .ok (.iload 5, 2) := by decide +kernel
theorem dX12_handOut_30 : decode cX12_handOut 30 = .ok (.iload_n 1, 1) := by decide +kernel
theorem dX12_handOut_31 : decode cX12_handOut 31 = .ok (.if_icmp .ge 121, 3) := by decide +kernel
theorem dX12_handOut_34 : decode cX12_handOut 34 = .ok (.iconst (-1), 1) := by decide +kernel
theorem dX12_handOut_35 : decode cX12_handOut 35 = .ok (.istore 6, 2) := by decide +kernel
theorem dX12_handOut_37 : decode cX12_handOut 37 = .ok (.iconst 0, 1) := by decide +kernel
theorem dX12_handOut_38 : decode cX12_handOut 38 = .ok (.istore 7, 2) := by decide +kernel
theorem dX12_handOut_40 : decode cX12_handOut 40 = .ok (.iconst 0, 1) := by decide +kernel
theorem dX12_handOut_41 : decode cX12_handOut 41 = .ok (.istore 8, 2) := by decide +kernel
theorem dX12_handOut_43 : decode cX12_handOut 43 = .ok (.iload 8, 2) := by decide +kernel
theorem dX12_handOut_45 : decode cX12_handOut 45 = .ok (.aload_n 0, 1) := by decide +kernel
theorem dX12_handOut_46 : decode cX12_handOut 46 = .ok (.getfield 243, 3) := by decide +kernel
theorem dX12_handOut_49 : decode cX12_handOut 49 = .ok (.if_icmp .ge 74, 3) := by decide +kernel
theorem dX12_handOut_52 : decode cX12_handOut 52 = .ok (.iload 8, 2) := by decide +kernel
theorem dX12_handOut_54 : decode cX12_handOut 54 = .ok (.iload_n 2, 1) := by decide +kernel
theorem dX12_handOut_55 : decode cX12_handOut 55 = .ok (.if_icmp .eq 14, 3) := by decide +kernel
theorem dX12_handOut_58 : decode cX12_handOut 58 = .ok (.aload_n 0, 1) := by decide +kernel
theorem dX12_handOut_59 : decode cX12_handOut 59 = .ok (.getfield 83, 3) := by decide +kernel
theorem dX12_handOut_62 : decode cX12_handOut 62 = .ok (.iload 8, 2) := by decide +kernel
theorem dX12_handOut_64 : decode cX12_handOut 64 = .ok (.iaload, 1) := by decide +kernel
theorem dX12_handOut_65 : decode cX12_handOut 65 = .ok (.iconst 3, 1) := by decide +kernel
theorem dX12_handOut_66 : decode cX12_handOut 66 = .ok (.if_icmp .ne 7, 3) := by decide +kernel
theorem dX12_handOut_69 : decode cX12_handOut 69 = .ok (.iconst 0, 1) := by decide +kernel
theorem dX12_handOut_70 : decode cX12_handOut 70 = .ok (.goto 20, 3) := by decide +kernel
theorem dX12_handOut_73 : decode cX12_handOut 73 = .ok (.aload_n 0, 1) := by decide +kernel
theorem dX12_handOut_74 : decode cX12_handOut 74 = .ok (.getfield 67, 3) := by decide +kernel
theorem dX12_handOut_77 : decode cX12_handOut 77 = .ok (.iconst 3, 1) := by decide +kernel
theorem dX12_handOut_78 : decode cX12_handOut 78 = .ok (.iload 8, 2) := by decide +kernel
theorem dX12_handOut_80 : decode cX12_handOut 80 = .ok (.imul, 1) := by decide +kernel
theorem dX12_handOut_81 : decode cX12_handOut 81 = .ok (.aload_n 0, 1) := by decide +kernel
theorem dX12_handOut_82 : decode cX12_handOut 82 = .ok (.getfield 83, 3) := by decide +kernel
theorem dX12_handOut_85 : decode cX12_handOut 85 = .ok (.iload 8, 2) := by decide +kernel
theorem dX12_handOut_87 : decode cX12_handOut 87 = .ok (.iaload, 1) := by decide +kernel
theorem dX12_handOut_88 : decode cX12_handOut 88 = .ok (.iadd, 1) := by decide +kernel
theorem dX12_handOut_89 : decode cX12_handOut 89 = .ok (.iaload, 1) := by decide +kernel
theorem dX12_handOut_90 : decode cX12_handOut 90 = .ok (.istore 9, 2) := by decide +kernel
theorem dX12_handOut_92 : decode cX12_handOut 92 = .ok (.iload 9, 2) := by decide +kernel
theorem dX12_handOut_94 : decode cX12_handOut 94 = .ok (.iload 7, 2) := by decide +kernel
theorem dX12_handOut_96 : decode cX12_handOut 96 = .ok (.if_icmp .le 8, 3) := by decide +kernel
theorem dX12_handOut_99 : decode cX12_handOut 99 = .ok (.iload 8, 2) := by decide +kernel
theorem dX12_handOut_101 : decode cX12_handOut 101 = .ok (.goto 5, 3) := by decide +kernel
theorem dX12_handOut_104 : decode cX12_handOut 104 = .ok (.iload 6, 2) := by decide +kernel
theorem dX12_handOut_106 : decode cX12_handOut 106 = .ok (.istore 6, 2) := by decide +kernel
theorem dX12_handOut_108 : decode cX12_handOut 108 = .ok (.iload 7, 2) := by decide +kernel
theorem dX12_handOut_110 : decode cX12_handOut 110 = .ok (.iload 9, 2) := by decide +kernel
theorem dX12_handOut_112 : decode cX12_handOut 112 = .ok (.invokestatic 129, 3) := by decide +kernel
theorem dX12_handOut_115 : decode cX12_handOut 115 = .ok (.istore 7, 2) := by decide +kernel
theorem dX12_handOut_117 : decode cX12_handOut 117 = .ok (.iinc 8 1, 3) := by decide +kernel
theorem dX12_handOut_120 : decode cX12_handOut 120 = .ok (.goto (-77), 3) := by decide +kernel
theorem dX12_handOut_123 : decode cX12_handOut 123 = .ok (.iload 6, 2) := by decide +kernel
theorem dX12_handOut_125 : decode cX12_handOut 125 = .ok (.iconst (-1), 1) := by decide +kernel
theorem dX12_handOut_126 : decode cX12_handOut 126 = .ok (.if_icmp .eq 20, 3) := by decide +kernel
theorem dX12_handOut_129 : decode cX12_handOut 129 = .ok (.aload_n 0, 1) := by decide +kernel
theorem dX12_handOut_130 : decode cX12_handOut 130 = .ok (.getfield 83, 3) := by decide +kernel
theorem dX12_handOut_133 : decode cX12_handOut 133 = .ok (.iload 6, 2) := by decide +kernel
theorem dX12_handOut_135 : decode cX12_handOut 135 = .ok (.dup2, 1) := by decide +kernel
theorem dX12_handOut_136 : decode cX12_handOut 136 = .ok (.iaload, 1) := by decide +kernel
theorem dX12_handOut_137 : decode cX12_handOut 137 = .ok (.iconst 1, 1) := by decide +kernel
theorem dX12_handOut_138 : decode cX12_handOut 138 = .ok (.iadd, 1) := by decide +kernel
theorem dX12_handOut_139 : decode cX12_handOut 139 = .ok (.iastore, 1) := by decide +kernel
theorem dX12_handOut_140 : decode cX12_handOut 140 = .ok (.lload_n 3, 1) := by decide +kernel
theorem dX12_handOut_141 : decode cX12_handOut 141 = .ok (.iload 7, 2) := by decide +kernel
theorem dX12_handOut_143 : decode cX12_handOut 143 = .ok (.i2l, 1) := by decide +kernel
theorem dX12_handOut_144 : decode cX12_handOut 144 = .ok (.ladd, 1) := by decide +kernel
theorem dX12_handOut_145 : decode cX12_handOut 145 = .ok (.lstore_n 3, 1) := by decide +kernel
theorem dX12_handOut_146 : decode cX12_handOut 146 = .ok (.iinc 5 1, 3) := by decide +kernel
theorem dX12_handOut_149 : decode cX12_handOut 149 = .ok (.goto (-121), 3) := by decide +kernel
theorem dX12_handOut_152 : decode cX12_handOut 152 = .ok (.lload_n 3, 1) := by decide +kernel
theorem dX12_handOut_153 : decode cX12_handOut 153 = .ok (.lreturn, 1) := by decide +kernel
theorem dX12_buy_0 : decode cX12_buy 0 = .ok (.aload_n 0, 1) := by decide +kernel
theorem dX12_buy_1 : decode cX12_buy 1 = .ok (.iconst 0, 1) := by decide +kernel
theorem dX12_buy_2 : decode cX12_buy 2 = .ok (.putfield 98, 3) := by decide +kernel
theorem dX12_buy_5 : decode cX12_buy 5 = .ok (.aload_n 0, 1) := by decide +kernel
theorem dX12_buy_6 : decode cX12_buy 6 = .ok (.iload_n 1, 1) := by decide +kernel
theorem dX12_buy_7 : decode cX12_buy 7 = .ok (.iconst 0, 1) := by decide +kernel
theorem dX12_buy_8 : decode cX12_buy 8 = .ok (.bipush 8, 2) := by decide +kernel
theorem dX12_buy_10 : decode cX12_buy 10 = .ok (.invokestatic 101, 3) := by decide +kernel
theorem dX12_buy_13 : decode cX12_buy 13 = .ok (.ifCond .ne 7, 3) := by decide +kernel
theorem dX12_buy_16 : decode cX12_buy 16 = .ok (.iconst 1, 1) := by decide +kernel
theorem dX12_buy_17 : decode cX12_buy 17 = .ok (.goto 4, 3) := by decide +kernel
theorem dX12_buy_20 : decode cX12_buy 20 = .ok (.iconst 0, 1) := by decide +kernel
theorem dX12_buy_21 : decode cX12_buy 21 = .ok (.iconst 1, 1) := by decide +kernel
theorem dX12_buy_22 : decode cX12_buy 22 = .ok (.invokevirtual 115, 3) := by decide +kernel
theorem dX12_buy_25 : decode cX12_buy 25 = .ok (.ifCond .eq 5, 3) := by decide +kernel
theorem dX12_buy_28 : decode cX12_buy 28 = .ok (.iconst 0, 1) := by decide +kernel
theorem dX12_buy_29 : decode cX12_buy 29 = .ok (.ireturn, 1) := by decide +kernel
theorem dX12_buy_30 : decode cX12_buy 30 = .ok (.aload_n 0, 1) := by decide +kernel
theorem dX12_buy_31 : decode cX12_buy 31 = .ok (.iload_n 1, 1) := by decide +kernel
theorem dX12_buy_32 : decode cX12_buy 32 = .ok (.iconst (-1), 1) := by decide +kernel
theorem dX12_buy_33 : decode cX12_buy 33 = .ok (.invokevirtual 246, 3) := by decide +kernel
theorem dX12_buy_36 : decode cX12_buy 36 = .ok (.lstore_n 2, 1) := by decide +kernel
theorem dX12_buy_37 : decode cX12_buy 37 = .ok (.iconst 0, 1) := by decide +kernel
theorem dX12_buy_38 : decode cX12_buy 38 = .ok (.istore 4, 2) := by decide +kernel
theorem dX12_buy_40 : decode cX12_buy 40 = .ok (.iconst 0, 1) := by decide +kernel
theorem dX12_buy_41 : decode cX12_buy 41 = .ok (.istore 5, 2) := by decide +kernel
theorem dX12_buy_43 : decode cX12_buy 43 = .ok (.iload 5, 2) := by decide +kernel
theorem dX12_buy_45 : decode cX12_buy 45 = .ok (.aload_n 0, 1) := by decide +kernel
theorem dX12_buy_46 : decode cX12_buy 46 = .ok (.getfield 243, 3) := by decide +kernel
theorem dX12_buy_49 : decode cX12_buy 49 = .ok (.if_icmp .ge 35, 3) := by decide +kernel
theorem dX12_buy_52 : decode cX12_buy 52 = .ok (.aload_n 0, 1) := by decide +kernel
theorem dX12_buy_53 : decode cX12_buy 53 = .ok (.getfield 70, 3) := by decide +kernel
theorem dX12_buy_56 : decode cX12_buy 56 = .ok (.iload 5, 2) := by decide +kernel
theorem dX12_buy_58 : decode cX12_buy 58 = .ok (.aload_n 0, 1) := by decide +kernel
theorem dX12_buy_59 : decode cX12_buy 59 = .ok (.getfield 83, 3) := by decide +kernel
theorem dX12_buy_62 : decode cX12_buy 62 = .ok (.iload 5, 2) := by decide +kernel
theorem dX12_buy_64 : decode cX12_buy 64 = .ok (.iaload, 1) := by decide +kernel
theorem dX12_buy_65 : decode cX12_buy 65 = .ok (.iastore, 1) := by decide +kernel
theorem dX12_buy_66 : decode cX12_buy 66 = .ok (.iload 4, 2) := by decide +kernel
theorem dX12_buy_68 : decode cX12_buy 68 = .ok (.aload_n 0, 1) := by decide +kernel
theorem dX12_buy_69 : decode cX12_buy 69 = .ok (.getfield 70, 3) := by decide +kernel
theorem dX12_buy_72 : decode cX12_buy 72 = .ok (.iload 5, 2) := by decide +kernel
theorem dX12_buy_74 : decode cX12_buy 74 = .ok (.iaload, 1) := by decide +kernel
theorem dX12_buy_75 : decode cX12_buy 75 = .ok (.iadd, 1) := by decide +kernel
theorem dX12_buy_76 : decode cX12_buy 76 = .ok (.istore 4, 2) := by decide +kernel
theorem dX12_buy_78 : decode cX12_buy 78 = .ok (.iinc 5 1, 3) := by decide +kernel
theorem dX12_buy_81 : decode cX12_buy 81 = .ok (.goto (-38), 3) := by decide +kernel
theorem dX12_buy_84 : decode cX12_buy 84 = .ok (.iconst 0, 1) := by decide +kernel
theorem dX12_buy_85 : decode cX12_buy 85 = .ok (.istore 5, 2) := by decide +kernel
theorem dX12_buy_87 : decode cX12_buy 87 = .ok (.iload 5, 2) := by decide +kernel
theorem dX12_buy_89 : decode cX12_buy 89 = .ok (.aload_n 0, 1) := by decide +kernel
theorem dX12_buy_90 : decode cX12_buy 90 = .ok (.getfield 243, 3) := by decide +kernel
theorem dX12_buy_93 : decode cX12_buy 93 = .ok (.if_icmp .ge 70, 3) := by decide +kernel
theorem dX12_buy_96 : decode cX12_buy 96 = .ok (.lconst 0, 1) := by decide +kernel
theorem dX12_buy_97 : decode cX12_buy 97 = .ok (.lstore 6, 2) := by decide +kernel
theorem dX12_buy_99 : decode cX12_buy 99 = .ok (.iconst 0, 1) := by decide +kernel
theorem dX12_buy_100 : decode cX12_buy 100 = .ok (.istore 8, 2) := by decide +kernel
theorem dX12_buy_102 : decode cX12_buy 102 = .ok (.iload 8, 2) := by decide +kernel
theorem dX12_buy_104 : decode cX12_buy 104 = .ok (.aload_n 0, 1) := by decide +kernel
theorem dX12_buy_105 : decode cX12_buy 105 = .ok (.getfield 70, 3) := by decide +kernel
theorem dX12_buy_108 : decode cX12_buy 108 = .ok (.iload 5, 2) := by decide +kernel
theorem dX12_buy_110 : decode cX12_buy 110 = .ok (.iaload, 1) := by decide +kernel
theorem dX12_buy_111 : decode cX12_buy 111 = .ok (.if_icmp .ge 27, 3) := by decide +kernel
theorem dX12_buy_114 : decode cX12_buy 114 = .ok (.lload 6, 2) := by decide +kernel
theorem dX12_buy_116 : decode cX12_buy 116 = .ok (.aload_n 0, 1) := by decide +kernel
theorem dX12_buy_117 : decode cX12_buy 117 = .ok (.getfield 67, 3) := by decide +kernel
theorem dX12_buy_120 : decode cX12_buy 120 = .ok (.iconst 3, 1) := by decide +kernel
theorem dX12_buy_121 : decode cX12_buy 121 = .ok (.iload 5, 2) := by decide +kernel
theorem dX12_buy_123 : decode cX12_buy 123 = .ok (.imul, 1) := by decide +kernel
theorem dX12_buy_124 : decode cX12_buy 124 = .ok (.iload 8, 2) := by decide +kernel
theorem dX12_buy_126 : decode cX12_buy 126 = .ok (.iadd, 1) := by decide +kernel
theorem dX12_buy_127 : decode cX12_buy 127 = .ok (.iaload, 1) := by decide +kernel
theorem dX12_buy_128 : decode cX12_buy 128 = .ok (.i2l, 1) := by decide +kernel
theorem dX12_buy_129 : decode cX12_buy 129 = .ok (.ladd, 1) := by decide +kernel
theorem dX12_buy_130 : decode cX12_buy 130 = .ok (.lstore 6, 2) := by decide +kernel
theorem dX12_buy_132 : decode cX12_buy 132 = .ok (.iinc 8 1, 3) := by decide +kernel
theorem dX12_buy_135 : decode cX12_buy 135 = .ok (.goto (-33), 3) := by decide +kernel
theorem dX12_buy_138 : decode cX12_buy 138 = .ok (.aload_n 0, 1) := by decide +kernel
theorem dX12_buy_139 : decode cX12_buy 139 = .ok (.getfield 73, 3) := by decide +kernel
theorem dX12_buy_142 : decode cX12_buy 142 = .ok (.iload 5, 2) := by decide +kernel
theorem dX12_buy_144 : decode cX12_buy 144 = .ok (.aload_n 0, 1) := by decide +kernel
theorem dX12_buy_145 : decode cX12_buy 145 = .ok (.iload_n 1, 1) := by decide +kernel
theorem dX12_buy_146 : decode cX12_buy 146 = .ok (.iload 5, 2) := by decide +kernel
theorem dX12_buy_148 : decode cX12_buy 148 = .ok (.invokevirtual 246, 3) := by decide +kernel
theorem dX12_buy_151 : decode cX12_buy 151 = .ok (.lload_n 2, 1) := by decide +kernel
theorem dX12_buy_152 : decode cX12_buy 152 = .ok (.lload 6, 2) := by decide +kernel
theorem dX12_buy_154 : decode cX12_buy 154 = .ok (.lsub, 1) := by decide +kernel
theorem dX12_buy_155 : decode cX12_buy 155 = .ok (.lsub, 1) := by decide +kernel
theorem dX12_buy_156 : decode cX12_buy 156 = .ok (.lastore, 1) := by decide +kernel
theorem dX12_buy_157 : decode cX12_buy 157 = .ok (.iinc 5 1, 3) := by decide +kernel
theorem dX12_buy_160 : decode cX12_buy 160 = .ok (.goto (-73), 3) := by decide +kernel
theorem dX12_buy_163 : decode cX12_buy 163 = .ok (.iload 4, 2) := by decide +kernel
theorem dX12_buy_165 : decode cX12_buy 165 = .ok (.ireturn, 1) := by decide +kernel
theorem dX12_noBidder_0 : decode cX12_noBidder 0 = .ok (.iload_n 1, 1) := by decide +kernel
theorem dX12_noBidder_1 : decode cX12_noBidder 1 = .ok (.iconst 0, 1) := by decide +kernel
theorem dX12_noBidder_2 : decode cX12_noBidder 2 = .ok (.aload_n 0, 1) := by decide +kernel
theorem dX12_noBidder_3 : decode cX12_noBidder 3 = .ok (.getfield 243, 3) := by decide +kernel
theorem dX12_noBidder_6 : decode cX12_noBidder 6 = .ok (.iconst 1, 1) := by decide +kernel
theorem dX12_noBidder_7 : decode cX12_noBidder 7 = .ok (.isub, 1) := by decide +kernel
theorem dX12_noBidder_8 : decode cX12_noBidder 8 = .ok (.invokestatic 101, 3) := by decide +kernel
theorem dX12_noBidder_11 : decode cX12_noBidder 11 = .ok (.ifCond .ne 7, 3) := by decide +kernel
theorem dX12_noBidder_14 : decode cX12_noBidder 14 = .ok (.iconst 1, 1) := by decide +kernel
theorem dX12_noBidder_15 : decode cX12_noBidder 15 = .ok (.goto 4, 3) := by decide +kernel
theorem dX12_noBidder_18 : decode cX12_noBidder 18 = .ok (.iconst 0, 1) := by decide +kernel
theorem dX12_noBidder_19 : decode cX12_noBidder 19 = .ok (.ireturn, 1) := by decide +kernel
theorem dX12_bought_0 : decode cX12_bought 0 = .ok (.aload_n 0, 1) := by decide +kernel
theorem dX12_bought_1 : decode cX12_bought 1 = .ok (.iconst 0, 1) := by decide +kernel
theorem dX12_bought_2 : decode cX12_bought 2 = .ok (.putfield 98, 3) := by decide +kernel
theorem dX12_bought_5 : decode cX12_bought 5 = .ok (.aload_n 0, 1) := by decide +kernel
theorem dX12_bought_6 : decode cX12_bought 6 = .ok (.aload_n 0, 1) := by decide +kernel
theorem dX12_bought_7 : decode cX12_bought 7 = .ok (.iload_n 1, 1) := by decide +kernel
theorem dX12_bought_8 : decode cX12_bought 8 = .ok (.invokevirtual 250, 3) := by decide +kernel
theorem dX12_bought_11 : decode cX12_bought 11 = .ok (.iconst 1, 1) := by decide +kernel
theorem dX12_bought_12 : decode cX12_bought 12 = .ok (.invokevirtual 115, 3) := by decide +kernel
theorem dX12_bought_15 : decode cX12_bought 15 = .ok (.ifCond .eq 7, 3) := by decide +kernel
theorem dX12_bought_18 : decode cX12_bought 18 = .ok (.iconst 0, 1) := by decide +kernel
theorem dX12_bought_19 : decode cX12_bought 19 = .ok (.goto 9, 3) := by decide +kernel
theorem dX12_bought_22 : decode cX12_bought 22 = .ok (.aload_n 0, 1) := by decide +kernel
theorem dX12_bought_23 : decode cX12_bought 23 = .ok (.getfield 70, 3) := by decide +kernel
theorem dX12_bought_26 : decode cX12_bought 26 = .ok (.iload_n 1, 1) := by decide +kernel
theorem dX12_bought_27 : decode cX12_bought 27 = .ok (.iaload, 1) := by decide +kernel
theorem dX12_bought_28 : decode cX12_bought 28 = .ok (.ireturn, 1) := by decide +kernel
theorem dX12_pays_0 : decode cX12_pays 0 = .ok (.aload_n 0, 1) := by decide +kernel
theorem dX12_pays_1 : decode cX12_pays 1 = .ok (.iconst 0, 1) := by decide +kernel
theorem dX12_pays_2 : decode cX12_pays 2 = .ok (.putfield 98, 3) := by decide +kernel
theorem dX12_pays_5 : decode cX12_pays 5 = .ok (.aload_n 0, 1) := by decide +kernel
theorem dX12_pays_6 : decode cX12_pays 6 = .ok (.aload_n 0, 1) := by decide +kernel
theorem dX12_pays_7 : decode cX12_pays 7 = .ok (.iload_n 1, 1) := by decide +kernel
theorem dX12_pays_8 : decode cX12_pays 8 = .ok (.invokevirtual 250, 3) := by decide +kernel
theorem dX12_pays_11 : decode cX12_pays 11 = .ok (.iconst 1, 1) := by decide +kernel
theorem dX12_pays_12 : decode cX12_pays 12 = .ok (.invokevirtual 115, 3) := by decide +kernel
theorem dX12_pays_15 : decode cX12_pays 15 = .ok (.ifCond .eq 7, 3) := by decide +kernel
theorem dX12_pays_18 : decode cX12_pays 18 = .ok (.lconst 0, 1) := by decide +kernel
theorem dX12_pays_19 : decode cX12_pays 19 = .ok (.goto 9, 3) := by decide +kernel
theorem dX12_pays_22 : decode cX12_pays 22 = .ok (.aload_n 0, 1) := by decide +kernel
theorem dX12_pays_23 : decode cX12_pays 23 = .ok (.getfield 73, 3) := by decide +kernel
theorem dX12_pays_26 : decode cX12_pays 26 = .ok (.iload_n 1, 1) := by decide +kernel
theorem dX12_pays_27 : decode cX12_pays 27 = .ok (.laload, 1) := by decide +kernel
theorem dX12_pays_28 : decode cX12_pays 28 = .ok (.lreturn, 1) := by decide +kernel
theorem dX12_isBarredAt_0 : decode cX12_isBarredAt 0 = .ok (.iconst 0, 1) := by decide +kernel
theorem dX12_isBarredAt_1 : decode cX12_isBarredAt 1 = .ok (.istore_n 3, 1) := by decide +kernel
theorem dX12_isBarredAt_2 : decode cX12_isBarredAt 2 = .ok (.iconst 0, 1) := by decide +kernel
theorem dX12_isBarredAt_3 : decode cX12_isBarredAt 3 = .ok (.istore 4, 2) := by decide +kernel
theorem dX12_isBarredAt_5 : decode cX12_isBarredAt 5 = .ok (.iload 4, 2) := by decide +kernel
theorem dX12_isBarredAt_7 : decode cX12_isBarredAt 7 = .ok (.aload_n 0, 1) := by decide +kernel
theorem dX12_isBarredAt_8 : decode cX12_isBarredAt 8 = .ok (.getfield 108, 3) := by decide +kernel
theorem dX12_isBarredAt_11 : decode cX12_isBarredAt 11 = .ok (.if_icmp .ge 64, 3) := by decide +kernel
theorem dX12_isBarredAt_14 : decode cX12_isBarredAt 14 = .ok (.iload_n 3, 1) := by decide +kernel
theorem dX12_isBarredAt_15 : decode cX12_isBarredAt 15 = .ok (.ifCond .ne 48, 3) := by decide +kernel
theorem dX12_isBarredAt_18 : decode cX12_isBarredAt 18 = .ok (.iload 4, 2) := by decide +kernel
theorem dX12_isBarredAt_20 : decode cX12_isBarredAt 20 = .ok (.iload_n 1, 1) := by decide +kernel
theorem dX12_isBarredAt_21 : decode cX12_isBarredAt 21 = .ok (.if_icmp .eq 46, 3) := by decide +kernel
theorem dX12_isBarredAt_24 : decode cX12_isBarredAt 24 = .ok (.aload_n 0, 1) := by decide +kernel
theorem dX12_isBarredAt_25 : decode cX12_isBarredAt 25 = .ok (.getfield 35, 3) := by decide +kernel
theorem dX12_isBarredAt_28 : decode cX12_isBarredAt 28 = .ok (.iload 4, 2) := by decide +kernel
theorem dX12_isBarredAt_30 : decode cX12_isBarredAt 30 = .ok (.baload, 1) := by decide +kernel
theorem dX12_isBarredAt_31 : decode cX12_isBarredAt 31 = .ok (.ifCond .eq 36, 3) := by decide +kernel
theorem dX12_isBarredAt_34 : decode cX12_isBarredAt 34 = .ok (.aload_n 0, 1) := by decide +kernel
theorem dX12_isBarredAt_35 : decode cX12_isBarredAt 35 = .ok (.getfield 39, 3) := by decide +kernel
theorem dX12_isBarredAt_38 : decode cX12_isBarredAt 38 = .ok (.iload 4, 2) := by decide +kernel
theorem dX12_isBarredAt_40 : decode cX12_isBarredAt 40 = .ok (.iaload, 1) := by decide +kernel
theorem dX12_isBarredAt_41 : decode cX12_isBarredAt 41 = .ok (.iconst (-1), 1) := by decide +kernel
theorem dX12_isBarredAt_42 : decode cX12_isBarredAt 42 = .ok (.if_icmp .eq 25, 3) := by decide +kernel
theorem dX12_isBarredAt_45 : decode cX12_isBarredAt 45 = .ok (.aload_n 0, 1) := by decide +kernel
theorem dX12_isBarredAt_46 : decode cX12_isBarredAt 46 = .ok (.iload_n 1, 1) := by decide +kernel
theorem dX12_isBarredAt_47 : decode cX12_isBarredAt 47 = .ok (.iload_n 2, 1) := by decide +kernel
theorem dX12_isBarredAt_48 : decode cX12_isBarredAt 48 = .ok (.iload 4, 2) := by decide +kernel
theorem dX12_isBarredAt_50 : decode cX12_isBarredAt 50 = .ok (.aload_n 0, 1) := by decide +kernel
theorem dX12_isBarredAt_51 : decode cX12_isBarredAt 51 = .ok (.getfield 39, 3) := by decide +kernel
theorem dX12_isBarredAt_54 : decode cX12_isBarredAt 54 = .ok (.iload 4, 2) := by decide +kernel
theorem dX12_isBarredAt_56 : decode cX12_isBarredAt 56 = .ok (.iaload, 1) := by decide +kernel
theorem dX12_isBarredAt_57 : decode cX12_isBarredAt 57 = .ok (.invokevirtual 178, 3) := by decide +kernel
theorem dX12_isBarredAt_60 : decode cX12_isBarredAt 60 = .ok (.ifCond .eq 7, 3) := by decide +kernel
theorem dX12_isBarredAt_63 : decode cX12_isBarredAt 63 = .ok (.iconst 1, 1) := by decide +kernel
theorem dX12_isBarredAt_64 : decode cX12_isBarredAt 64 = .ok (.goto 4, 3) := by decide +kernel
theorem dX12_isBarredAt_67 : decode cX12_isBarredAt 67 = .ok (.iconst 0, 1) := by decide +kernel
theorem dX12_isBarredAt_68 : decode cX12_isBarredAt 68 = .ok (.istore_n 3, 1) := by decide +kernel
theorem dX12_isBarredAt_69 : decode cX12_isBarredAt 69 = .ok (.iinc 4 1, 3) := by decide +kernel
theorem dX12_isBarredAt_72 : decode cX12_isBarredAt 72 = .ok (.goto (-67), 3) := by decide +kernel
theorem dX12_isBarredAt_75 : decode cX12_isBarredAt 75 = .ok (.iload_n 3, 1) := by decide +kernel
theorem dX12_isBarredAt_76 : decode cX12_isBarredAt 76 = .ok (.ireturn, 1) := by decide +kernel
theorem dX12_moves_0 : decode cX12_moves 0 = .ok (.aload_n 0, 1) := by decide +kernel
theorem dX12_moves_1 : decode cX12_moves 1 = .ok (.getfield 108, 3) := by decide +kernel
theorem dX12_moves_4 : decode cX12_moves 4 = .ok (.iconst 1, 1) := by decide +kernel
theorem dX12_moves_5 : decode cX12_moves 5 = .ok (.isub, 1) := by decide +kernel
theorem dX12_moves_6 : decode cX12_moves 6 = .ok (.istore 4, 2) := by decide +kernel
theorem dX12_moves_8 : decode cX12_moves 8 = .ok (.iload 4, 2) := by decide +kernel
theorem dX12_moves_10 : decode cX12_moves 10 = .ok (.ifCond .lt 27, 3) := by decide +kernel
theorem dX12_moves_13 : decode cX12_moves 13 = .ok (.aload_n 0, 1) := by decide +kernel
theorem dX12_moves_14 : decode cX12_moves 14 = .ok (.iload 4, 2) := by decide +kernel
theorem dX12_moves_16 : decode cX12_moves 16 = .ok (.iload_n 1, 1) := by decide +kernel
theorem dX12_moves_17 : decode cX12_moves 17 = .ok (.iload_n 2, 1) := by decide +kernel
theorem dX12_moves_18 : decode cX12_moves 18 = .ok (.invokevirtual 201, 3) := by decide +kernel
theorem dX12_moves_21 : decode cX12_moves 21 = .ok (.ifCond .eq 10, 3) := by decide +kernel
theorem dX12_moves_24 : decode cX12_moves 24 = .ok (.aload_n 0, 1) := by decide +kernel
theorem dX12_moves_25 : decode cX12_moves 25 = .ok (.iload 4, 2) := by decide +kernel
theorem dX12_moves_27 : decode cX12_moves 27 = .ok (.iconst (-1), 1) := by decide +kernel
theorem dX12_moves_28 : decode cX12_moves 28 = .ok (.invokevirtual 207, 3) := by decide +kernel
theorem dX12_moves_31 : decode cX12_moves 31 = .ok (.iinc 4 (-1), 3) := by decide +kernel
theorem dX12_moves_34 : decode cX12_moves 34 = .ok (.goto (-26), 3) := by decide +kernel
theorem dX12_moves_37 : decode cX12_moves 37 = .ok (.aload_n 0, 1) := by decide +kernel
theorem dX12_moves_38 : decode cX12_moves 38 = .ok (.iload_n 1, 1) := by decide +kernel
theorem dX12_moves_39 : decode cX12_moves 39 = .ok (.iload_n 2, 1) := by decide +kernel
theorem dX12_moves_40 : decode cX12_moves 40 = .ok (.invokevirtual 207, 3) := by decide +kernel
theorem dX12_moves_43 : decode cX12_moves 43 = .ok (.aload_n 0, 1) := by decide +kernel
theorem dX12_moves_44 : decode cX12_moves 44 = .ok (.getfield 77, 3) := by decide +kernel
theorem dX12_moves_47 : decode cX12_moves 47 = .ok (.iload_n 1, 1) := by decide +kernel
theorem dX12_moves_48 : decode cX12_moves 48 = .ok (.iload_n 3, 1) := by decide +kernel
theorem dX12_moves_49 : decode cX12_moves 49 = .ok (.iastore, 1) := by decide +kernel
theorem dX12_moves_50 : decode cX12_moves 50 = .ok (.return_, 1) := by decide +kernel
theorem dX12_lowestOn_0 : decode cX12_lowestOn 0 = .ok (.iconst (-1), 1) := by decide +kernel
theorem dX12_lowestOn_1 : decode cX12_lowestOn 1 = .ok (.istore_n 1, 1) := by decide +kernel
theorem dX12_lowestOn_2 : decode cX12_lowestOn 2 = .ok (.aload_n 0, 1) := by decide +kernel
theorem dX12_lowestOn_3 : decode cX12_lowestOn 3 = .ok (.getfield 108, 3) := by decide +kernel
theorem dX12_lowestOn_6 : decode cX12_lowestOn 6 = .ok (.iconst 1, 1) := by decide +kernel
theorem dX12_lowestOn_7 : decode cX12_lowestOn 7 = .ok (.isub, 1) := by decide +kernel
theorem dX12_lowestOn_8 : decode cX12_lowestOn 8 = .ok (.istore_n 2, 1) := by decide +kernel
theorem dX12_lowestOn_9 : decode cX12_lowestOn 9 = .ok (.iload_n 2, 1) := by decide +kernel
theorem dX12_lowestOn_10 : decode cX12_lowestOn 10 = .ok (.ifCond .lt 45, 3) := by decide +kernel
theorem dX12_lowestOn_13 : decode cX12_lowestOn 13 = .ok (.aload_n 0, 1) := by decide +kernel
theorem dX12_lowestOn_14 : decode cX12_lowestOn 14 = .ok (.getfield 95, 3) := by decide +kernel
theorem dX12_lowestOn_17 : decode cX12_lowestOn 17 = .ok (.iload_n 2, 1) := by decide +kernel
theorem dX12_lowestOn_18 : decode cX12_lowestOn 18 = .ok (.iaload, 1) := by decide +kernel
theorem dX12_lowestOn_19 : decode cX12_lowestOn 19 = .ok (.iconst (-1), 1) := by decide +kernel
theorem dX12_lowestOn_20 : decode cX12_lowestOn 20 = .ok (.if_icmp .eq 27, 3) := by decide +kernel
theorem dX12_lowestOn_23 : decode cX12_lowestOn 23 = .ok (.aload_n 0, 1) := by decide +kernel
theorem dX12_lowestOn_24 : decode cX12_lowestOn 24 = .ok (.getfield 77, 3) := by decide +kernel
theorem dX12_lowestOn_27 : decode cX12_lowestOn 27 = .ok (.iload_n 2, 1) := by decide +kernel
theorem dX12_lowestOn_28 : decode cX12_lowestOn 28 = .ok (.iaload, 1) := by decide +kernel
theorem dX12_lowestOn_29 : decode cX12_lowestOn 29 = .ok (.iconst (-1), 1) := by decide +kernel
theorem dX12_lowestOn_30 : decode cX12_lowestOn 30 = .ok (.if_icmp .ne 17, 3) := by decide +kernel
theorem dX12_lowestOn_33 : decode cX12_lowestOn 33 = .ok (.aload_n 0, 1) := by decide +kernel
theorem dX12_lowestOn_34 : decode cX12_lowestOn 34 = .ok (.getfield 39, 3) := by decide +kernel
theorem dX12_lowestOn_37 : decode cX12_lowestOn 37 = .ok (.iload_n 2, 1) := by decide +kernel
theorem dX12_lowestOn_38 : decode cX12_lowestOn 38 = .ok (.iaload, 1) := by decide +kernel
theorem dX12_lowestOn_39 : decode cX12_lowestOn 39 = .ok (.iconst (-1), 1) := by decide +kernel
theorem dX12_lowestOn_40 : decode cX12_lowestOn 40 = .ok (.if_icmp .eq 7, 3) := by decide +kernel
theorem dX12_lowestOn_43 : decode cX12_lowestOn 43 = .ok (.iload_n 2, 1) := by decide +kernel
theorem dX12_lowestOn_44 : decode cX12_lowestOn 44 = .ok (.goto 4, 3) := by decide +kernel
theorem dX12_lowestOn_47 : decode cX12_lowestOn 47 = .ok (.iload_n 1, 1) := by decide +kernel
theorem dX12_lowestOn_48 : decode cX12_lowestOn 48 = .ok (.istore_n 1, 1) := by decide +kernel
theorem dX12_lowestOn_49 : decode cX12_lowestOn 49 = .ok (.iinc 2 (-1), 3) := by decide +kernel
theorem dX12_lowestOn_52 : decode cX12_lowestOn 52 = .ok (.goto (-43), 3) := by decide +kernel
theorem dX12_lowestOn_55 : decode cX12_lowestOn 55 = .ok (.iload_n 1, 1) := by decide +kernel
theorem dX12_lowestOn_56 : decode cX12_lowestOn 56 = .ok (.ireturn, 1) := by decide +kernel
theorem dX12_move_0 : decode cX12_move 0 = .ok (.aload_n 0, 1) := by decide +kernel
theorem dX12_move_1 : decode cX12_move 1 = .ok (.iconst 0, 1) := by decide +kernel
theorem dX12_move_2 : decode cX12_move 2 = .ok (.putfield 98, 3) := by decide +kernel
theorem dX12_move_5 : decode cX12_move 5 = .ok (.aload_n 0, 1) := by decide +kernel
theorem dX12_move_6 : decode cX12_move 6 = .ok (.iload_n 1, 1) := by decide +kernel
theorem dX12_move_7 : decode cX12_move 7 = .ok (.iconst 1, 1) := by decide +kernel
theorem dX12_move_8 : decode cX12_move 8 = .ok (.iconst 4, 1) := by decide +kernel
theorem dX12_move_9 : decode cX12_move 9 = .ok (.invokestatic 101, 3) := by decide +kernel
theorem dX12_move_12 : decode cX12_move 12 = .ok (.ifCond .ne 7, 3) := by decide +kernel
theorem dX12_move_15 : decode cX12_move 15 = .ok (.iconst 1, 1) := by decide +kernel
theorem dX12_move_16 : decode cX12_move 16 = .ok (.goto 4, 3) := by decide +kernel
theorem dX12_move_19 : decode cX12_move 19 = .ok (.iconst 0, 1) := by decide +kernel
theorem dX12_move_20 : decode cX12_move 20 = .ok (.iconst 1, 1) := by decide +kernel
theorem dX12_move_21 : decode cX12_move 21 = .ok (.invokevirtual 115, 3) := by decide +kernel
theorem dX12_move_24 : decode cX12_move 24 = .ok (.ifCond .eq 5, 3) := by decide +kernel
theorem dX12_move_27 : decode cX12_move 27 = .ok (.iconst 0, 1) := by decide +kernel
theorem dX12_move_28 : decode cX12_move 28 = .ok (.ireturn, 1) := by decide +kernel
theorem dX12_move_29 : decode cX12_move 29 = .ok (.iconst 0, 1) := by decide +kernel
theorem dX12_move_30 : decode cX12_move 30 = .ok (.istore_n 2, 1) := by decide +kernel
theorem dX12_move_31 : decode cX12_move 31 = .ok (.iload_n 2, 1) := by decide +kernel
theorem dX12_move_32 : decode cX12_move 32 = .ok (.aload_n 0, 1) := by decide +kernel
theorem dX12_move_33 : decode cX12_move 33 = .ok (.getfield 108, 3) := by decide +kernel
theorem dX12_move_36 : decode cX12_move 36 = .ok (.if_icmp .ge 46, 3) := by decide +kernel
theorem dX12_move_39 : decode cX12_move 39 = .ok (.aload_n 0, 1) := by decide +kernel
theorem dX12_move_40 : decode cX12_move 40 = .ok (.getfield 80, 3) := by decide +kernel
theorem dX12_move_43 : decode cX12_move 43 = .ok (.iload_n 2, 1) := by decide +kernel
theorem dX12_move_44 : decode cX12_move 44 = .ok (.aload_n 0, 1) := by decide +kernel
theorem dX12_move_45 : decode cX12_move 45 = .ok (.getfield 230, 3) := by decide +kernel
theorem dX12_move_48 : decode cX12_move 48 = .ok (.ifCond .eq 26, 3) := by decide +kernel
theorem dX12_move_51 : decode cX12_move 51 = .ok (.aload_n 0, 1) := by decide +kernel
theorem dX12_move_52 : decode cX12_move 52 = .ok (.getfield 64, 3) := by decide +kernel
theorem dX12_move_55 : decode cX12_move 55 = .ok (.iload_n 2, 1) := by decide +kernel
theorem dX12_move_56 : decode cX12_move 56 = .ok (.baload, 1) := by decide +kernel
theorem dX12_move_57 : decode cX12_move 57 = .ok (.ifCond .eq 17, 3) := by decide +kernel
theorem dX12_move_60 : decode cX12_move 60 = .ok (.aload_n 0, 1) := by decide +kernel
theorem dX12_move_61 : decode cX12_move 61 = .ok (.getfield 39, 3) := by decide +kernel
theorem dX12_move_64 : decode cX12_move 64 = .ok (.iload_n 2, 1) := by decide +kernel
theorem dX12_move_65 : decode cX12_move 65 = .ok (.iaload, 1) := by decide +kernel
theorem dX12_move_66 : decode cX12_move 66 = .ok (.iconst (-1), 1) := by decide +kernel
theorem dX12_move_67 : decode cX12_move 67 = .ok (.if_icmp .eq 7, 3) := by decide +kernel
theorem dX12_move_70 : decode cX12_move 70 = .ok (.iconst 1, 1) := by decide +kernel
theorem dX12_move_71 : decode cX12_move 71 = .ok (.goto 4, 3) := by decide +kernel
theorem dX12_move_74 : decode cX12_move 74 = .ok (.iconst 0, 1) := by decide +kernel
theorem dX12_move_75 : decode cX12_move 75 = .ok (.bastore, 1) := by decide +kernel
theorem dX12_move_76 : decode cX12_move 76 = .ok (.iinc 2 1, 3) := by decide +kernel
theorem dX12_move_79 : decode cX12_move 79 = .ok (.goto (-48), 3) := by decide +kernel
theorem dX12_move_82 : decode cX12_move 82 = .ok (.aload_n 0, 1) := by decide +kernel
theorem dX12_move_83 : decode cX12_move 83 = .ok (.aload_n 0, 1) := by decide +kernel
theorem dX12_move_84 : decode cX12_move 84 = .ok (.getfield 230, 3) := by decide +kernel
theorem dX12_move_87 : decode cX12_move 87 = .ok (.ifCond .eq 15, 3) := by decide +kernel
theorem dX12_move_90 : decode cX12_move 90 = .ok (.aload_n 0, 1) := by decide +kernel
theorem dX12_move_91 : decode cX12_move 91 = .ok (.iconst 0, 1) := by decide +kernel
theorem dX12_move_92 : decode cX12_move 92 = .ok (.aload_n 0, 1) := by decide +kernel
theorem dX12_move_93 : decode cX12_move 93 = .ok (.getfield 234, 3) := by decide +kernel
theorem dX12_move_96 : decode cX12_move 96 = .ok (.invokevirtual 218, 3) := by decide +kernel
theorem dX12_move_99 : decode cX12_move 99 = .ok (.ifCond .ne 7, 3) := by decide +kernel
theorem dX12_move_102 : decode cX12_move 102 = .ok (.iconst 1, 1) := by decide +kernel
theorem dX12_move_103 : decode cX12_move 103 = .ok (.goto 4, 3) := by decide +kernel
theorem dX12_move_106 : decode cX12_move 106 = .ok (.iconst 0, 1) := by decide +kernel
theorem dX12_move_107 : decode cX12_move 107 = .ok (.iconst 2, 1) := by decide +kernel
theorem dX12_move_108 : decode cX12_move 108 = .ok (.invokevirtual 115, 3) := by decide +kernel
theorem dX12_move_111 : decode cX12_move 111 = .ok (.ifCond .eq 5, 3) := by decide +kernel
theorem dX12_move_114 : decode cX12_move 114 = .ok (.iconst 0, 1) := by decide +kernel
theorem dX12_move_115 : decode cX12_move 115 = .ok (.ireturn, 1) := by decide +kernel
theorem dX12_move_116 : decode cX12_move 116 = .ok (.iconst 0, 1) := by decide +kernel
theorem dX12_move_117 : decode cX12_move 117 = .ok (.istore_n 2, 1) := by decide +kernel
theorem dX12_move_118 : decode cX12_move 118 = .ok (.aload_n 0, 1) := by decide +kernel
theorem dX12_move_119 : decode cX12_move 119 = .ok (.iconst 0, 1) := by decide +kernel
theorem dX12_move_120 : decode cX12_move 120 = .ok (.putfield 253, 3) := by decide +kernel
theorem dX12_move_123 : decode cX12_move 123 = .ok (.iconst 0, 1) := by decide +kernel
theorem dX12_move_124 : decode cX12_move 124 = .ok (.istore_n 3, 1) := by decide +kernel
theorem dX12_move_125 : decode cX12_move 125 = .ok (.iload_n 3, 1) := by decide +kernel
theorem dX12_move_126 : decode cX12_move 126 = .ok (.bipush 8, 2) := by decide +kernel
theorem dX12_move_128 : decode cX12_move 128 = .ok (.if_icmp .ge 108, 3) := by decide +kernel
theorem dX12_move_131 : decode cX12_move 131 = .ok (.iload_n 3, 1) := by decide +kernel
theorem dX12_move_132 : decode cX12_move 132 = .ok (.aload_n 0, 1) := by decide +kernel
theorem dX12_move_133 : decode cX12_move 133 = .ok (.getfield 108, 3) := by decide +kernel
theorem dX12_move_136 : decode cX12_move 136 = .ok (.if_icmp .ge 16, 3) := by decide +kernel
theorem dX12_move_139 : decode cX12_move 139 = .ok (.aload_n 0, 1) := by decide +kernel
theorem dX12_move_140 : decode cX12_move 140 = .ok (.getfield 80, 3) := by decide +kernel
theorem dX12_move_143 : decode cX12_move 143 = .ok (.iload_n 3, 1) := by decide +kernel
theorem dX12_move_144 : decode cX12_move 144 = .ok (.baload, 1) := by decide +kernel
theorem dX12_move_145 : decode cX12_move 145 = .ok (.ifCond .eq 7, 3) := by decide +kernel
theorem dX12_move_148 : decode cX12_move 148 = .ok (.iconst 1, 1) := by decide +kernel
theorem dX12_move_149 : decode cX12_move 149 = .ok (.goto 4, 3) := by decide +kernel
theorem dX12_move_152 : decode cX12_move 152 = .ok (.iconst 0, 1) := by decide +kernel
theorem dX12_move_153 : decode cX12_move 153 = .ok (.istore 4, 2) := by decide +kernel
theorem dX12_move_155 : decode cX12_move 155 = .ok (.aload_n 0, 1) := by decide +kernel
theorem dX12_move_156 : decode cX12_move 156 = .ok (.getfield 95, 3) := by decide +kernel
theorem dX12_move_159 : decode cX12_move 159 = .ok (.iload_n 3, 1) := by decide +kernel
theorem dX12_move_160 : decode cX12_move 160 = .ok (.iload 4, 2) := by decide +kernel
theorem dX12_move_162 : decode cX12_move 162 = .ok (.ifCond .eq 12, 3) := by decide +kernel
theorem dX12_move_165 : decode cX12_move 165 = .ok (.aload_n 0, 1) := by decide +kernel
theorem dX12_move_166 : decode cX12_move 166 = .ok (.getfield 83, 3) := by decide +kernel
theorem dX12_move_169 : decode cX12_move 169 = .ok (.iload_n 3, 1) := by decide +kernel
theorem dX12_move_170 : decode cX12_move 170 = .ok (.iaload, 1) := by decide +kernel
theorem dX12_move_171 : decode cX12_move 171 = .ok (.goto 4, 3) := by decide +kernel
theorem dX12_move_174 : decode cX12_move 174 = .ok (.iconst (-1), 1) := by decide +kernel
theorem dX12_move_175 : decode cX12_move 175 = .ok (.iastore, 1) := by decide +kernel
theorem dX12_move_176 : decode cX12_move 176 = .ok (.aload_n 0, 1) := by decide +kernel
theorem dX12_move_177 : decode cX12_move 177 = .ok (.getfield 77, 3) := by decide +kernel
theorem dX12_move_180 : decode cX12_move 180 = .ok (.iload_n 3, 1) := by decide +kernel
theorem dX12_move_181 : decode cX12_move 181 = .ok (.iload 4, 2) := by decide +kernel
theorem dX12_move_183 : decode cX12_move 183 = .ok (.ifCond .eq 22, 3) := by decide +kernel
theorem dX12_move_186 : decode cX12_move 186 = .ok (.aload_n 0, 1) := by decide +kernel
theorem dX12_move_187 : decode cX12_move 187 = .ok (.getfield 39, 3) := by decide +kernel
theorem dX12_move_190 : decode cX12_move 190 = .ok (.iload_n 3, 1) := by decide +kernel
theorem dX12_move_191 : decode cX12_move 191 = .ok (.iaload, 1) := by decide +kernel
theorem dX12_move_192 : decode cX12_move 192 = .ok (.aload_n 0, 1) := by decide +kernel
theorem dX12_move_193 : decode cX12_move 193 = .ok (.getfield 95, 3) := by decide +kernel
theorem dX12_move_196 : decode cX12_move 196 = .ok (.iload_n 3, 1) := by decide +kernel
theorem dX12_move_197 : decode cX12_move 197 = .ok (.iaload, 1) := by decide +kernel
theorem dX12_move_198 : decode cX12_move 198 = .ok (.if_icmp .ne 7, 3) := by decide +kernel
theorem dX12_move_201 : decode cX12_move 201 = .ok (.iconst 0, 1) := by decide +kernel
theorem dX12_move_202 : decode cX12_move 202 = .ok (.goto 4, 3) := by decide +kernel
theorem dX12_move_205 : decode cX12_move 205 = .ok (.iconst (-1), 1) := by decide +kernel
theorem dX12_move_206 : decode cX12_move 206 = .ok (.iastore, 1) := by decide +kernel
theorem dX12_move_207 : decode cX12_move 207 = .ok (.iload_n 2, 1) := by decide +kernel
theorem dX12_move_208 : decode cX12_move 208 = .ok (.iload 4, 2) := by decide +kernel
theorem dX12_move_210 : decode cX12_move 210 = .ok (.ifCond .eq 17, 3) := by decide +kernel
theorem dX12_move_213 : decode cX12_move 213 = .ok (.aload_n 0, 1) := by decide +kernel
theorem dX12_move_214 : decode cX12_move 214 = .ok (.getfield 77, 3) := by decide +kernel
theorem dX12_move_217 : decode cX12_move 217 = .ok (.iload_n 3, 1) := by decide +kernel
theorem dX12_move_218 : decode cX12_move 218 = .ok (.iaload, 1) := by decide +kernel
theorem dX12_move_219 : decode cX12_move 219 = .ok (.iconst (-1), 1) := by decide +kernel
theorem dX12_move_220 : decode cX12_move 220 = .ok (.if_icmp .ne 7, 3) := by decide +kernel
theorem dX12_move_223 : decode cX12_move 223 = .ok (.iconst 1, 1) := by decide +kernel
theorem dX12_move_224 : decode cX12_move 224 = .ok (.goto 4, 3) := by decide +kernel
theorem dX12_move_227 : decode cX12_move 227 = .ok (.iconst 0, 1) := by decide +kernel
theorem dX12_move_228 : decode cX12_move 228 = .ok (.iadd, 1) := by decide +kernel
theorem dX12_move_229 : decode cX12_move 229 = .ok (.istore_n 2, 1) := by decide +kernel
theorem dX12_move_230 : decode cX12_move 230 = .ok (.iinc 3 1, 3) := by decide +kernel
theorem dX12_move_233 : decode cX12_move 233 = .ok (.goto (-108), 3) := by decide +kernel
theorem dX12_move_236 : decode cX12_move 236 = .ok (.iconst 0, 1) := by decide +kernel
theorem dX12_move_237 : decode cX12_move 237 = .ok (.istore_n 3, 1) := by decide +kernel
theorem dX12_move_238 : decode cX12_move 238 = .ok (.iload_n 2, 1) := by decide +kernel
theorem dX12_move_239 : decode cX12_move 239 = .ok (.ifCond .le 7, 3) := by decide +kernel
theorem dX12_move_242 : decode cX12_move 242 = .ok (.iconst 1, 1) := by decide +kernel
theorem dX12_move_243 : decode cX12_move 243 = .ok (.goto 4, 3) := by decide +kernel
theorem dX12_move_246 : decode cX12_move 246 = .ok (.iconst 0, 1) := by decide +kernel
theorem dX12_move_247 : decode cX12_move 247 = .ok (.istore 4, 2) := by decide +kernel
theorem dX12_move_249 : decode cX12_move 249 = .ok (.iload 4, 2) := by decide +kernel
theorem dX12_move_251 : decode cX12_move 251 = .ok (.ifCond .eq 176, 3) := by decide +kernel
theorem dX12_move_254 : decode cX12_move 254 = .ok (.iconst 0, 1) := by decide +kernel
theorem dX12_move_255 : decode cX12_move 255 = .ok (.istore 5, 2) := by decide +kernel
theorem dX12_move_257 : decode cX12_move 257 = .ok (.iconst 0, 1) := by decide +kernel
theorem dX12_move_258 : decode cX12_move 258 = .ok (.istore 6, 2) := by decide +kernel
theorem dX12_move_260 : decode cX12_move 260 = .ok (.iload 6, 2) := by decide +kernel
theorem dX12_move_262 : decode cX12_move 262 = .ok (.aload_n 0, 1) := by decide +kernel
theorem dX12_move_263 : decode cX12_move 263 = .ok (.getfield 108, 3) := by decide +kernel
theorem dX12_move_266 : decode cX12_move 266 = .ok (.if_icmp .ge 72, 3) := by decide +kernel
theorem dX12_move_269 : decode cX12_move 269 = .ok (.aload_n 0, 1) := by decide +kernel
theorem dX12_move_270 : decode cX12_move 270 = .ok (.getfield 95, 3) := by decide +kernel
theorem dX12_move_273 : decode cX12_move 273 = .ok (.iload 6, 2) := by decide +kernel
theorem dX12_move_275 : decode cX12_move 275 = .ok (.iaload, 1) := by decide +kernel
theorem dX12_move_276 : decode cX12_move 276 = .ok (.iconst (-1), 1) := by decide +kernel
theorem dX12_move_277 : decode cX12_move 277 = .ok (.if_icmp .eq 55, 3) := by decide +kernel
theorem dX12_move_280 : decode cX12_move 280 = .ok (.aload_n 0, 1) := by decide +kernel
theorem dX12_move_281 : decode cX12_move 281 = .ok (.getfield 77, 3) := by decide +kernel
theorem dX12_move_284 : decode cX12_move 284 = .ok (.iload 6, 2) := by decide +kernel
theorem dX12_move_286 : decode cX12_move 286 = .ok (.iaload, 1) := by decide +kernel
theorem dX12_move_287 : decode cX12_move 287 = .ok (.iconst (-1), 1) := by decide +kernel
theorem dX12_move_288 : decode cX12_move 288 = .ok (.if_icmp .ne 44, 3) := by decide +kernel
theorem dX12_move_291 : decode cX12_move 291 = .ok (.iload 5, 2) := by decide +kernel
theorem dX12_move_293 : decode cX12_move 293 = .ok (.iload_n 1, 1) := by decide +kernel
theorem dX12_move_294 : decode cX12_move 294 = .ok (.if_icmp .ge 38, 3) := by decide +kernel
theorem dX12_move_297 : decode cX12_move 297 = .ok (.aload_n 0, 1) := by decide +kernel
theorem dX12_move_298 : decode cX12_move 298 = .ok (.iload 6, 2) := by decide +kernel
theorem dX12_move_300 : decode cX12_move 300 = .ok (.aload_n 0, 1) := by decide +kernel
theorem dX12_move_301 : decode cX12_move 301 = .ok (.getfield 95, 3) := by decide +kernel
theorem dX12_move_304 : decode cX12_move 304 = .ok (.iload 6, 2) := by decide +kernel
theorem dX12_move_306 : decode cX12_move 306 = .ok (.iaload, 1) := by decide +kernel
theorem dX12_move_307 : decode cX12_move 307 = .ok (.invokevirtual 256, 3) := by decide +kernel
theorem dX12_move_310 : decode cX12_move 310 = .ok (.ifCond .ne 22, 3) := by decide +kernel
theorem dX12_move_313 : decode cX12_move 313 = .ok (.aload_n 0, 1) := by decide +kernel
theorem dX12_move_314 : decode cX12_move 314 = .ok (.iload 6, 2) := by decide +kernel
theorem dX12_move_316 : decode cX12_move 316 = .ok (.aload_n 0, 1) := by decide +kernel
theorem dX12_move_317 : decode cX12_move 317 = .ok (.getfield 95, 3) := by decide +kernel
theorem dX12_move_320 : decode cX12_move 320 = .ok (.iload 6, 2) := by decide +kernel
theorem dX12_move_322 : decode cX12_move 322 = .ok (.iaload, 1) := by decide +kernel
theorem dX12_move_323 : decode cX12_move 323 = .ok (.iload_n 3, 1) := by decide +kernel
theorem dX12_move_324 : decode cX12_move 324 = .ok (.iconst 1, 1) := by decide +kernel
theorem dX12_move_325 : decode cX12_move 325 = .ok (.iadd, 1) := by decide +kernel
theorem dX12_move_326 : decode cX12_move 326 = .ok (.invokevirtual 259, 3) := by decide +kernel
theorem dX12_move_329 : decode cX12_move 329 = .ok (.iinc 5 1, 3) := by decide +kernel
theorem dX12_move_332 : decode cX12_move 332 = .ok (.iinc 6 1, 3) := by decide +kernel
theorem dX12_move_335 : decode cX12_move 335 = .ok (.goto (-75), 3) := by decide +kernel
theorem dX12_move_338 : decode cX12_move 338 = .ok (.aload_n 0, 1) := by decide +kernel
theorem dX12_move_339 : decode cX12_move 339 = .ok (.invokevirtual 263, 3) := by decide +kernel
theorem dX12_move_342 : decode cX12_move 342 = .ok (.istore 6, 2) := by decide +kernel
theorem dX12_move_344 : decode cX12_move 344 = .ok (.iload_n 2, 1) := by decide +kernel
theorem dX12_move_345 : decode cX12_move 345 = .ok (.iload 5, 2) := by decide +kernel
theorem dX12_move_347 : decode cX12_move 347 = .ok (.isub, 1) := by decide +kernel
theorem dX12_move_348 : decode cX12_move 348 = .ok (.istore_n 2, 1) := by decide +kernel
theorem dX12_move_349 : decode cX12_move 349 = .ok (.iload 5, 2) := by decide +kernel
theorem dX12_move_351 : decode cX12_move 351 = .ok (.ifCond .ne 26, 3) := by decide +kernel
theorem dX12_move_354 : decode cX12_move 354 = .ok (.iload 6, 2) := by decide +kernel
theorem dX12_move_356 : decode cX12_move 356 = .ok (.iconst (-1), 1) := by decide +kernel
theorem dX12_move_357 : decode cX12_move 357 = .ok (.if_icmp .eq 20, 3) := by decide +kernel
theorem dX12_move_360 : decode cX12_move 360 = .ok (.aload_n 0, 1) := by decide +kernel
theorem dX12_move_361 : decode cX12_move 361 = .ok (.iload 6, 2) := by decide +kernel
theorem dX12_move_363 : decode cX12_move 363 = .ok (.iconst (-1), 1) := by decide +kernel
theorem dX12_move_364 : decode cX12_move 364 = .ok (.invokevirtual 207, 3) := by decide +kernel
theorem dX12_move_367 : decode cX12_move 367 = .ok (.aload_n 0, 1) := by decide +kernel
theorem dX12_move_368 : decode cX12_move 368 = .ok (.dup, 1) := by decide +kernel
theorem dX12_move_369 : decode cX12_move 369 = .ok (.getfield 253, 3) := by decide +kernel
theorem dX12_move_372 : decode cX12_move 372 = .ok (.iconst 1, 1) := by decide +kernel
theorem dX12_move_373 : decode cX12_move 373 = .ok (.iadd, 1) := by decide +kernel
theorem dX12_move_374 : decode cX12_move 374 = .ok (.putfield 253, 3) := by decide +kernel
theorem dX12_move_377 : decode cX12_move 377 = .ok (.iload 5, 2) := by decide +kernel
theorem dX12_move_379 : decode cX12_move 379 = .ok (.ifCond .gt 9, 3) := by decide +kernel
theorem dX12_move_382 : decode cX12_move 382 = .ok (.iload 6, 2) := by decide +kernel
theorem dX12_move_384 : decode cX12_move 384 = .ok (.iconst (-1), 1) := by decide +kernel
theorem dX12_move_385 : decode cX12_move 385 = .ok (.if_icmp .eq 7, 3) := by decide +kernel
theorem dX12_move_388 : decode cX12_move 388 = .ok (.iconst 1, 1) := by decide +kernel
theorem dX12_move_389 : decode cX12_move 389 = .ok (.goto 4, 3) := by decide +kernel
theorem dX12_move_392 : decode cX12_move 392 = .ok (.iconst 0, 1) := by decide +kernel
theorem dX12_move_393 : decode cX12_move 393 = .ok (.istore 7, 2) := by decide +kernel
theorem dX12_move_395 : decode cX12_move 395 = .ok (.iload_n 3, 1) := by decide +kernel
theorem dX12_move_396 : decode cX12_move 396 = .ok (.iload 7, 2) := by decide +kernel
theorem dX12_move_398 : decode cX12_move 398 = .ok (.ifCond .eq 7, 3) := by decide +kernel
theorem dX12_move_401 : decode cX12_move 401 = .ok (.iconst 1, 1) := by decide +kernel
theorem dX12_move_402 : decode cX12_move 402 = .ok (.goto 4, 3) := by decide +kernel
theorem dX12_move_405 : decode cX12_move 405 = .ok (.iconst 0, 1) := by decide +kernel
theorem dX12_move_406 : decode cX12_move 406 = .ok (.iadd, 1) := by decide +kernel
theorem dX12_move_407 : decode cX12_move 407 = .ok (.istore_n 3, 1) := by decide +kernel
theorem dX12_move_408 : decode cX12_move 408 = .ok (.iload_n 2, 1) := by decide +kernel
theorem dX12_move_409 : decode cX12_move 409 = .ok (.ifCond .le 12, 3) := by decide +kernel
theorem dX12_move_412 : decode cX12_move 412 = .ok (.iload 7, 2) := by decide +kernel
theorem dX12_move_414 : decode cX12_move 414 = .ok (.ifCond .eq 7, 3) := by decide +kernel
theorem dX12_move_417 : decode cX12_move 417 = .ok (.iconst 1, 1) := by decide +kernel
theorem dX12_move_418 : decode cX12_move 418 = .ok (.goto 4, 3) := by decide +kernel
theorem dX12_move_421 : decode cX12_move 421 = .ok (.iconst 0, 1) := by decide +kernel
theorem dX12_move_422 : decode cX12_move 422 = .ok (.istore 4, 2) := by decide +kernel
theorem dX12_move_424 : decode cX12_move 424 = .ok (.goto (-175), 3) := by decide +kernel
theorem dX12_move_427 : decode cX12_move 427 = .ok (.iload_n 3, 1) := by decide +kernel
theorem dX12_move_428 : decode cX12_move 428 = .ok (.ireturn, 1) := by decide +kernel
theorem dX12_phaseOf_0 : decode cX12_phaseOf 0 = .ok (.aload_n 0, 1) := by decide +kernel
theorem dX12_phaseOf_1 : decode cX12_phaseOf 1 = .ok (.iconst 0, 1) := by decide +kernel
theorem dX12_phaseOf_2 : decode cX12_phaseOf 2 = .ok (.putfield 98, 3) := by decide +kernel
theorem dX12_phaseOf_5 : decode cX12_phaseOf 5 = .ok (.aload_n 0, 1) := by decide +kernel
theorem dX12_phaseOf_6 : decode cX12_phaseOf 6 = .ok (.aload_n 0, 1) := by decide +kernel
theorem dX12_phaseOf_7 : decode cX12_phaseOf 7 = .ok (.iload_n 1, 1) := by decide +kernel
theorem dX12_phaseOf_8 : decode cX12_phaseOf 8 = .ok (.invokevirtual 153, 3) := by decide +kernel
theorem dX12_phaseOf_11 : decode cX12_phaseOf 11 = .ok (.iconst 1, 1) := by decide +kernel
theorem dX12_phaseOf_12 : decode cX12_phaseOf 12 = .ok (.invokevirtual 115, 3) := by decide +kernel
theorem dX12_phaseOf_15 : decode cX12_phaseOf 15 = .ok (.ifCond .ne 26, 3) := by decide +kernel
theorem dX12_phaseOf_18 : decode cX12_phaseOf 18 = .ok (.aload_n 0, 1) := by decide +kernel
theorem dX12_phaseOf_19 : decode cX12_phaseOf 19 = .ok (.aload_n 0, 1) := by decide +kernel
theorem dX12_phaseOf_20 : decode cX12_phaseOf 20 = .ok (.getfield 77, 3) := by decide +kernel
theorem dX12_phaseOf_23 : decode cX12_phaseOf 23 = .ok (.iload_n 1, 1) := by decide +kernel
theorem dX12_phaseOf_24 : decode cX12_phaseOf 24 = .ok (.iaload, 1) := by decide +kernel
theorem dX12_phaseOf_25 : decode cX12_phaseOf 25 = .ok (.iconst (-1), 1) := by decide +kernel
theorem dX12_phaseOf_26 : decode cX12_phaseOf 26 = .ok (.if_icmp .ne 7, 3) := by decide +kernel
theorem dX12_phaseOf_29 : decode cX12_phaseOf 29 = .ok (.iconst 1, 1) := by decide +kernel
theorem dX12_phaseOf_30 : decode cX12_phaseOf 30 = .ok (.goto 4, 3) := by decide +kernel
theorem dX12_phaseOf_33 : decode cX12_phaseOf 33 = .ok (.iconst 0, 1) := by decide +kernel
theorem dX12_phaseOf_34 : decode cX12_phaseOf 34 = .ok (.iconst 2, 1) := by decide +kernel
theorem dX12_phaseOf_35 : decode cX12_phaseOf 35 = .ok (.invokevirtual 115, 3) := by decide +kernel
theorem dX12_phaseOf_38 : decode cX12_phaseOf 38 = .ok (.ifCond .eq 7, 3) := by decide +kernel
theorem dX12_phaseOf_41 : decode cX12_phaseOf 41 = .ok (.iconst 0, 1) := by decide +kernel
theorem dX12_phaseOf_42 : decode cX12_phaseOf 42 = .ok (.goto 9, 3) := by decide +kernel
theorem dX12_phaseOf_45 : decode cX12_phaseOf 45 = .ok (.aload_n 0, 1) := by decide +kernel
theorem dX12_phaseOf_46 : decode cX12_phaseOf 46 = .ok (.getfield 77, 3) := by decide +kernel
theorem dX12_phaseOf_49 : decode cX12_phaseOf 49 = .ok (.iload_n 1, 1) := by decide +kernel
theorem dX12_phaseOf_50 : decode cX12_phaseOf 50 = .ok (.iaload, 1) := by decide +kernel
theorem dX12_phaseOf_51 : decode cX12_phaseOf 51 = .ok (.ireturn, 1) := by decide +kernel
theorem dX12_dark_0 : decode cX12_dark 0 = .ok (.aload_n 0, 1) := by decide +kernel
theorem dX12_dark_1 : decode cX12_dark 1 = .ok (.iconst 0, 1) := by decide +kernel
theorem dX12_dark_2 : decode cX12_dark 2 = .ok (.putfield 98, 3) := by decide +kernel
theorem dX12_dark_5 : decode cX12_dark 5 = .ok (.aload_n 0, 1) := by decide +kernel
theorem dX12_dark_6 : decode cX12_dark 6 = .ok (.getfield 253, 3) := by decide +kernel
theorem dX12_dark_9 : decode cX12_dark 9 = .ok (.ireturn, 1) := by decide +kernel
theorem dX12_on_0 : decode cX12_on 0 = .ok (.iconst 0, 1) := by decide +kernel
theorem dX12_on_1 : decode cX12_on 1 = .ok (.istore_n 1, 1) := by decide +kernel
theorem dX12_on_2 : decode cX12_on 2 = .ok (.iconst 0, 1) := by decide +kernel
theorem dX12_on_3 : decode cX12_on 3 = .ok (.istore_n 2, 1) := by decide +kernel
theorem dX12_on_4 : decode cX12_on 4 = .ok (.iload_n 2, 1) := by decide +kernel
theorem dX12_on_5 : decode cX12_on 5 = .ok (.aload_n 0, 1) := by decide +kernel
theorem dX12_on_6 : decode cX12_on 6 = .ok (.getfield 108, 3) := by decide +kernel
theorem dX12_on_9 : decode cX12_on 9 = .ok (.if_icmp .ge 27, 3) := by decide +kernel
theorem dX12_on_12 : decode cX12_on 12 = .ok (.iload_n 1, 1) := by decide +kernel
theorem dX12_on_13 : decode cX12_on 13 = .ok (.aload_n 0, 1) := by decide +kernel
theorem dX12_on_14 : decode cX12_on 14 = .ok (.getfield 39, 3) := by decide +kernel
theorem dX12_on_17 : decode cX12_on 17 = .ok (.iload_n 2, 1) := by decide +kernel
theorem dX12_on_18 : decode cX12_on 18 = .ok (.iaload, 1) := by decide +kernel
theorem dX12_on_19 : decode cX12_on 19 = .ok (.iconst (-1), 1) := by decide +kernel
theorem dX12_on_20 : decode cX12_on 20 = .ok (.if_icmp .ne 7, 3) := by decide +kernel
theorem dX12_on_23 : decode cX12_on 23 = .ok (.iconst 0, 1) := by decide +kernel
theorem dX12_on_24 : decode cX12_on 24 = .ok (.goto 4, 3) := by decide +kernel
theorem dX12_on_27 : decode cX12_on 27 = .ok (.iconst 1, 1) := by decide +kernel
theorem dX12_on_28 : decode cX12_on 28 = .ok (.iadd, 1) := by decide +kernel
theorem dX12_on_29 : decode cX12_on 29 = .ok (.istore_n 1, 1) := by decide +kernel
theorem dX12_on_30 : decode cX12_on 30 = .ok (.iinc 2 1, 3) := by decide +kernel
theorem dX12_on_33 : decode cX12_on 33 = .ok (.goto (-29), 3) := by decide +kernel
theorem dX12_on_36 : decode cX12_on 36 = .ok (.iload_n 1, 1) := by decide +kernel
theorem dX12_on_37 : decode cX12_on 37 = .ok (.ireturn, 1) := by decide +kernel
theorem dX12_onShare_0 : decode cX12_onShare 0 = .ok (.aload_n 0, 1) := by decide +kernel
theorem dX12_onShare_1 : decode cX12_onShare 1 = .ok (.iconst 0, 1) := by decide +kernel
theorem dX12_onShare_2 : decode cX12_onShare 2 = .ok (.putfield 98, 3) := by decide +kernel
theorem dX12_onShare_5 : decode cX12_onShare 5 = .ok (.aload_n 0, 1) := by decide +kernel
theorem dX12_onShare_6 : decode cX12_onShare 6 = .ok (.aload_n 0, 1) := by decide +kernel
theorem dX12_onShare_7 : decode cX12_onShare 7 = .ok (.getfield 108, 3) := by decide +kernel
theorem dX12_onShare_10 : decode cX12_onShare 10 = .ok (.ifCond .ne 7, 3) := by decide +kernel
theorem dX12_onShare_13 : decode cX12_onShare 13 = .ok (.iconst 1, 1) := by decide +kernel
theorem dX12_onShare_14 : decode cX12_onShare 14 = .ok (.goto 4, 3) := by decide +kernel
theorem dX12_onShare_17 : decode cX12_onShare 17 = .ok (.iconst 0, 1) := by decide +kernel
theorem dX12_onShare_18 : decode cX12_onShare 18 = .ok (.iconst 1, 1) := by decide +kernel
theorem dX12_onShare_19 : decode cX12_onShare 19 = .ok (.invokevirtual 115, 3) := by decide +kernel
theorem dX12_onShare_22 : decode cX12_onShare 22 = .ok (.ifCond .eq 7, 3) := by decide +kernel
theorem dX12_onShare_25 : decode cX12_onShare 25 = .ok (.fconst 0, 1) := by decide +kernel
theorem dX12_onShare_26 : decode cX12_onShare 26 = .ok (.goto 14, 3) := by decide +kernel
theorem dX12_onShare_29 : decode cX12_onShare 29 = .ok (.aload_n 0, 1) := by decide +kernel
theorem dX12_onShare_30 : decode cX12_onShare 30 = .ok (.invokevirtual 266, 3) := by decide +kernel
theorem dX12_onShare_33 : decode cX12_onShare 33 = .ok (.i2f, 1) := by decide +kernel
theorem dX12_onShare_34 : decode cX12_onShare 34 = .ok (.aload_n 0, 1) := by decide +kernel
theorem dX12_onShare_35 : decode cX12_onShare 35 = .ok (.getfield 108, 3) := by decide +kernel
theorem dX12_onShare_38 : decode cX12_onShare 38 = .ok (.i2f, 1) := by decide +kernel
theorem dX12_onShare_39 : decode cX12_onShare 39 = .ok (.fdiv, 1) := by decide +kernel
theorem dX12_onShare_40 : decode cX12_onShare 40 = .ok (.freturn, 1) := by decide +kernel
theorem dX12_meanLevel_0 : decode cX12_meanLevel 0 = .ok (.aload_n 0, 1) := by decide +kernel
theorem dX12_meanLevel_1 : decode cX12_meanLevel 1 = .ok (.iconst 0, 1) := by decide +kernel
theorem dX12_meanLevel_2 : decode cX12_meanLevel 2 = .ok (.putfield 98, 3) := by decide +kernel
theorem dX12_meanLevel_5 : decode cX12_meanLevel 5 = .ok (.iconst 0, 1) := by decide +kernel
theorem dX12_meanLevel_6 : decode cX12_meanLevel 6 = .ok (.istore_n 1, 1) := by decide +kernel
theorem dX12_meanLevel_7 : decode cX12_meanLevel 7 = .ok (.iconst 0, 1) := by decide +kernel
theorem dX12_meanLevel_8 : decode cX12_meanLevel 8 = .ok (.istore_n 2, 1) := by decide +kernel
theorem dX12_meanLevel_9 : decode cX12_meanLevel 9 = .ok (.iload_n 2, 1) := by decide +kernel
theorem dX12_meanLevel_10 : decode cX12_meanLevel 10 = .ok (.aload_n 0, 1) := by decide +kernel
theorem dX12_meanLevel_11 : decode cX12_meanLevel 11 = .ok (.getfield 108, 3) := by decide +kernel
theorem dX12_meanLevel_14 : decode cX12_meanLevel 14 = .ok (.if_icmp .ge 31, 3) := by decide +kernel
theorem dX12_meanLevel_17 : decode cX12_meanLevel 17 = .ok (.iload_n 1, 1) := by decide +kernel
theorem dX12_meanLevel_18 : decode cX12_meanLevel 18 = .ok (.aload_n 0, 1) := by decide +kernel
theorem dX12_meanLevel_19 : decode cX12_meanLevel 19 = .ok (.getfield 39, 3) := by decide +kernel
theorem dX12_meanLevel_22 : decode cX12_meanLevel 22 = .ok (.iload_n 2, 1) := by decide +kernel
theorem dX12_meanLevel_23 : decode cX12_meanLevel 23 = .ok (.iaload, 1) := by decide +kernel
theorem dX12_meanLevel_24 : decode cX12_meanLevel 24 = .ok (.iconst (-1), 1) := by decide +kernel
theorem dX12_meanLevel_25 : decode cX12_meanLevel 25 = .ok (.if_icmp .ne 7, 3) := by decide +kernel
theorem dX12_meanLevel_28 : decode cX12_meanLevel 28 = .ok (.iconst 0, 1) := by decide +kernel
theorem dX12_meanLevel_29 : decode cX12_meanLevel 29 = .ok (.goto 8, 3) := by decide +kernel
theorem dX12_meanLevel_32 : decode cX12_meanLevel 32 = .ok (.aload_n 0, 1) := by decide +kernel
theorem dX12_meanLevel_33 : decode cX12_meanLevel 33 = .ok (.iload_n 2, 1) := by decide +kernel
theorem dX12_meanLevel_34 : decode cX12_meanLevel 34 = .ok (.invokevirtual 156, 3) := by decide +kernel
theorem dX12_meanLevel_37 : decode cX12_meanLevel 37 = .ok (.iadd, 1) := by decide +kernel
theorem dX12_meanLevel_38 : decode cX12_meanLevel 38 = .ok (.istore_n 1, 1) := by decide +kernel
theorem dX12_meanLevel_39 : decode cX12_meanLevel 39 = .ok (.iinc 2 1, 3) := by decide +kernel
theorem dX12_meanLevel_42 : decode cX12_meanLevel 42 = .ok (.goto (-33), 3) := by decide +kernel
theorem dX12_meanLevel_45 : decode cX12_meanLevel 45 = .ok (.aload_n 0, 1) := by decide +kernel
theorem dX12_meanLevel_46 : decode cX12_meanLevel 46 = .ok (.aload_n 0, 1) := by decide +kernel
theorem dX12_meanLevel_47 : decode cX12_meanLevel 47 = .ok (.invokevirtual 266, 3) := by decide +kernel
theorem dX12_meanLevel_50 : decode cX12_meanLevel 50 = .ok (.ifCond .ne 7, 3) := by decide +kernel
theorem dX12_meanLevel_53 : decode cX12_meanLevel 53 = .ok (.iconst 1, 1) := by decide +kernel
theorem dX12_meanLevel_54 : decode cX12_meanLevel 54 = .ok (.goto 4, 3) := by decide +kernel
theorem dX12_meanLevel_57 : decode cX12_meanLevel 57 = .ok (.iconst 0, 1) := by decide +kernel
theorem dX12_meanLevel_58 : decode cX12_meanLevel 58 = .ok (.iconst 1, 1) := by decide +kernel
theorem dX12_meanLevel_59 : decode cX12_meanLevel 59 = .ok (.invokevirtual 115, 3) := by decide +kernel
theorem dX12_meanLevel_62 : decode cX12_meanLevel 62 = .ok (.ifCond .eq 7, 3) := by decide +kernel
theorem dX12_meanLevel_65 : decode cX12_meanLevel 65 = .ok (.dconst 0, 1) := by decide +kernel
theorem dX12_meanLevel_66 : decode cX12_meanLevel 66 = .ok (.goto 11, 3) := by decide +kernel
theorem dX12_meanLevel_69 : decode cX12_meanLevel 69 = .ok (.iload_n 1, 1) := by decide +kernel
theorem dX12_meanLevel_70 : decode cX12_meanLevel 70 = .ok (.i2d, 1) := by decide +kernel
theorem dX12_meanLevel_71 : decode cX12_meanLevel 71 = .ok (.aload_n 0, 1) := by decide +kernel
theorem dX12_meanLevel_72 : decode cX12_meanLevel 72 = .ok (.invokevirtual 266, 3) := by decide +kernel
theorem dX12_meanLevel_75 : decode cX12_meanLevel 75 = .ok (.i2d, 1) := by decide +kernel
theorem dX12_meanLevel_76 : decode cX12_meanLevel 76 = .ok (.ddiv, 1) := by decide +kernel
theorem dX12_meanLevel_77 : decode cX12_meanLevel 77 = .ok (.dreturn, 1) := by decide +kernel
theorem dX12_isSound_0 : decode cX12_isSound 0 = .ok (.aload_n 0, 1) := by decide +kernel
theorem dX12_isSound_1 : decode cX12_isSound 1 = .ok (.iconst 0, 1) := by decide +kernel
theorem dX12_isSound_2 : decode cX12_isSound 2 = .ok (.putfield 98, 3) := by decide +kernel
theorem dX12_isSound_5 : decode cX12_isSound 5 = .ok (.iconst 1, 1) := by decide +kernel
theorem dX12_isSound_6 : decode cX12_isSound 6 = .ok (.ireturn, 1) := by decide +kernel
theorem dJx00060_init_a7421_0 : decode cJx00060_init_a7421 0 = .ok (.aload_n 0, 1) := by decide +kernel
theorem dJx00060_init_a7421_1 : decode cJx00060_init_a7421 1 = .ok (.aload_n 1, 1) := by decide +kernel
theorem dJx00060_init_a7421_2 : decode cJx00060_init_a7421 2 = .ok (.invokespecial 7, 3) := by decide +kernel
theorem dJx00060_init_a7421_5 : decode cJx00060_init_a7421 5 = .ok (.return_, 1) := by decide +kernel
theorem dJ6_valueOf_2dffe_0 : decode cJ6_valueOf_2dffe 0 = .ok (.iload_n 0, 1) := by decide +kernel
theorem dJ6_valueOf_2dffe_1 : decode cJ6_valueOf_2dffe 1 = .ok (.bipush (-128), 2) := by decide +kernel
theorem dJ6_valueOf_2dffe_3 : decode cJ6_valueOf_2dffe 3 = .ok (.if_icmp .lt 20, 3) := by decide +kernel
theorem dJ6_valueOf_2dffe_6 : decode cJ6_valueOf_2dffe 6 = .ok (.iload_n 0, 1) := by decide +kernel
theorem dJ6_valueOf_2dffe_7 : decode cJ6_valueOf_2dffe 7 = .ok (.getstatic 191, 3) := by decide +kernel
theorem dJ6_valueOf_2dffe_10 : decode cJ6_valueOf_2dffe 10 = .ok (.if_icmp .gt 13, 3) := by decide +kernel
theorem dJ6_valueOf_2dffe_13 : decode cJ6_valueOf_2dffe 13 = .ok (.getstatic 195, 3) := by decide +kernel
theorem dJ6_valueOf_2dffe_16 : decode cJ6_valueOf_2dffe 16 = .ok (.iload_n 0, 1) := by decide +kernel
theorem dJ6_valueOf_2dffe_17 : decode cJ6_valueOf_2dffe 17 = .ok (.sipush 128, 3) := by decide +kernel
theorem dJ6_valueOf_2dffe_20 : decode cJ6_valueOf_2dffe 20 = .ok (.iadd, 1) := by decide +kernel
theorem dJ6_valueOf_2dffe_21 : decode cJ6_valueOf_2dffe 21 = .ok (.aaload, 1) := by decide +kernel
theorem dJ6_valueOf_2dffe_22 : decode cJ6_valueOf_2dffe 22 = .ok (.areturn, 1) := by decide +kernel
theorem dJ6_valueOf_2dffe_23 : decode cJ6_valueOf_2dffe 23 = .ok (.new 1, 3) := by decide +kernel
theorem dJ6_valueOf_2dffe_26 : decode cJ6_valueOf_2dffe 26 = .ok (.dup, 1) := by decide +kernel
theorem dJ6_valueOf_2dffe_27 : decode cJ6_valueOf_2dffe 27 = .ok (.iload_n 0, 1) := by decide +kernel
theorem dJ6_valueOf_2dffe_28 : decode cJ6_valueOf_2dffe 28 = .ok (.invokespecial 199, 3) := by decide +kernel
theorem dJ6_valueOf_2dffe_31 : decode cJ6_valueOf_2dffe 31 = .ok (.areturn, 1) := by decide +kernel
theorem dJ6_init_d00df_0 : decode cJ6_init_d00df 0 = .ok (.aload_n 0, 1) := by decide +kernel
theorem dJ6_init_d00df_1 : decode cJ6_init_d00df 1 = .ok (.invokespecial 202, 3) := by decide +kernel
theorem dJ6_init_d00df_4 : decode cJ6_init_d00df 4 = .ok (.aload_n 0, 1) := by decide +kernel
theorem dJ6_init_d00df_5 : decode cJ6_init_d00df 5 = .ok (.iload_n 1, 1) := by decide +kernel
theorem dJ6_init_d00df_6 : decode cJ6_init_d00df 6 = .ok (.putfield 205, 3) := by decide +kernel
theorem dJ6_init_d00df_9 : decode cJ6_init_d00df 9 = .ok (.return_, 1) := by decide +kernel
theorem dJ6_intValue_8abf5_0 : decode cJ6_intValue_8abf5 0 = .ok (.aload_n 0, 1) := by decide +kernel
theorem dJ6_intValue_8abf5_1 : decode cJ6_intValue_8abf5 1 = .ok (.getfield 205, 3) := by decide +kernel
theorem dJ6_intValue_8abf5_4 : decode cJ6_intValue_8abf5 4 = .ok (.ireturn, 1) := by decide +kernel
theorem dJ6_bitCount_0f7a4_0 : decode cJ6_bitCount_0f7a4 0 = .ok (.iload_n 0, 1) := by decide +kernel
theorem dJ6_bitCount_0f7a4_1 : decode cJ6_bitCount_0f7a4 1 = .ok (.iload_n 0, 1) := by decide +kernel
theorem dJ6_bitCount_0f7a4_2 : decode cJ6_bitCount_0f7a4 2 = .ok (.iconst 1, 1) := by decide +kernel
theorem dJ6_bitCount_0f7a4_3 : decode cJ6_bitCount_0f7a4 3 = .ok (.iushr, 1) := by decide +kernel
theorem dJ6_bitCount_0f7a4_4 : decode cJ6_bitCount_0f7a4 4 = .ok (.ldc_w 265, 3) := by decide +kernel
theorem dJ6_bitCount_0f7a4_7 : decode cJ6_bitCount_0f7a4 7 = .ok (.iand, 1) := by decide +kernel
theorem dJ6_bitCount_0f7a4_8 : decode cJ6_bitCount_0f7a4 8 = .ok (.isub, 1) := by decide +kernel
theorem dJ6_bitCount_0f7a4_9 : decode cJ6_bitCount_0f7a4 9 = .ok (.istore_n 0, 1) := by decide +kernel
theorem dJ6_bitCount_0f7a4_10 : decode cJ6_bitCount_0f7a4 10 = .ok (.iload_n 0, 1) := by decide +kernel
theorem dJ6_bitCount_0f7a4_11 : decode cJ6_bitCount_0f7a4 11 = .ok (.ldc_w 266, 3) := by decide +kernel
theorem dJ6_bitCount_0f7a4_14 : decode cJ6_bitCount_0f7a4 14 = .ok (.iand, 1) := by decide +kernel
theorem dJ6_bitCount_0f7a4_15 : decode cJ6_bitCount_0f7a4 15 = .ok (.iload_n 0, 1) := by decide +kernel
theorem dJ6_bitCount_0f7a4_16 : decode cJ6_bitCount_0f7a4 16 = .ok (.iconst 2, 1) := by decide +kernel
theorem dJ6_bitCount_0f7a4_17 : decode cJ6_bitCount_0f7a4 17 = .ok (.iushr, 1) := by decide +kernel
theorem dJ6_bitCount_0f7a4_18 : decode cJ6_bitCount_0f7a4 18 = .ok (.ldc_w 266, 3) := by decide +kernel
theorem dJ6_bitCount_0f7a4_21 : decode cJ6_bitCount_0f7a4 21 = .ok (.iand, 1) := by decide +kernel
theorem dJ6_bitCount_0f7a4_22 : decode cJ6_bitCount_0f7a4 22 = .ok (.iadd, 1) := by decide +kernel
theorem dJ6_bitCount_0f7a4_23 : decode cJ6_bitCount_0f7a4 23 = .ok (.istore_n 0, 1) := by decide +kernel
theorem dJ6_bitCount_0f7a4_24 : decode cJ6_bitCount_0f7a4 24 = .ok (.iload_n 0, 1) := by decide +kernel
theorem dJ6_bitCount_0f7a4_25 : decode cJ6_bitCount_0f7a4 25 = .ok (.iload_n 0, 1) := by decide +kernel
theorem dJ6_bitCount_0f7a4_26 : decode cJ6_bitCount_0f7a4 26 = .ok (.iconst 4, 1) := by decide +kernel
theorem dJ6_bitCount_0f7a4_27 : decode cJ6_bitCount_0f7a4 27 = .ok (.iushr, 1) := by decide +kernel
theorem dJ6_bitCount_0f7a4_28 : decode cJ6_bitCount_0f7a4 28 = .ok (.iadd, 1) := by decide +kernel
theorem dJ6_bitCount_0f7a4_29 : decode cJ6_bitCount_0f7a4 29 = .ok (.ldc_w 267, 3) := by decide +kernel
theorem dJ6_bitCount_0f7a4_32 : decode cJ6_bitCount_0f7a4 32 = .ok (.iand, 1) := by decide +kernel
theorem dJ6_bitCount_0f7a4_33 : decode cJ6_bitCount_0f7a4 33 = .ok (.istore_n 0, 1) := by decide +kernel
theorem dJ6_bitCount_0f7a4_34 : decode cJ6_bitCount_0f7a4 34 = .ok (.iload_n 0, 1) := by decide +kernel
theorem dJ6_bitCount_0f7a4_35 : decode cJ6_bitCount_0f7a4 35 = .ok (.iload_n 0, 1) := by decide +kernel
theorem dJ6_bitCount_0f7a4_36 : decode cJ6_bitCount_0f7a4 36 = .ok (.bipush 8, 2) := by decide +kernel
theorem dJ6_bitCount_0f7a4_38 : decode cJ6_bitCount_0f7a4 38 = .ok (.iushr, 1) := by decide +kernel
theorem dJ6_bitCount_0f7a4_39 : decode cJ6_bitCount_0f7a4 39 = .ok (.iadd, 1) := by decide +kernel
theorem dJ6_bitCount_0f7a4_40 : decode cJ6_bitCount_0f7a4 40 = .ok (.istore_n 0, 1) := by decide +kernel
theorem dJ6_bitCount_0f7a4_41 : decode cJ6_bitCount_0f7a4 41 = .ok (.iload_n 0, 1) := by decide +kernel
theorem dJ6_bitCount_0f7a4_42 : decode cJ6_bitCount_0f7a4 42 = .ok (.iload_n 0, 1) := by decide +kernel
theorem dJ6_bitCount_0f7a4_43 : decode cJ6_bitCount_0f7a4 43 = .ok (.bipush 16, 2) := by decide +kernel
theorem dJ6_bitCount_0f7a4_45 : decode cJ6_bitCount_0f7a4 45 = .ok (.iushr, 1) := by decide +kernel
theorem dJ6_bitCount_0f7a4_46 : decode cJ6_bitCount_0f7a4 46 = .ok (.iadd, 1) := by decide +kernel
theorem dJ6_bitCount_0f7a4_47 : decode cJ6_bitCount_0f7a4 47 = .ok (.istore_n 0, 1) := by decide +kernel
theorem dJ6_bitCount_0f7a4_48 : decode cJ6_bitCount_0f7a4 48 = .ok (.iload_n 0, 1) := by decide +kernel
theorem dJ6_bitCount_0f7a4_49 : decode cJ6_bitCount_0f7a4 49 = .ok (.bipush 63, 2) := by decide +kernel
theorem dJ6_bitCount_0f7a4_51 : decode cJ6_bitCount_0f7a4 51 = .ok (.iand, 1) := by decide +kernel
theorem dJ6_bitCount_0f7a4_52 : decode cJ6_bitCount_0f7a4 52 = .ok (.ireturn, 1) := by decide +kernel
theorem dJ9_floorDiv_7cf53_0 : decode cJ9_floorDiv_7cf53 0 = .ok (.iload_n 0, 1) := by decide +kernel
theorem dJ9_floorDiv_7cf53_1 : decode cJ9_floorDiv_7cf53 1 = .ok (.iload_n 1, 1) := by decide +kernel
theorem dJ9_floorDiv_7cf53_2 : decode cJ9_floorDiv_7cf53 2 = .ok (.idiv, 1) := by decide +kernel
theorem dJ9_floorDiv_7cf53_3 : decode cJ9_floorDiv_7cf53 3 = .ok (.istore_n 2, 1) := by decide +kernel
theorem dJ9_floorDiv_7cf53_4 : decode cJ9_floorDiv_7cf53 4 = .ok (.iload_n 0, 1) := by decide +kernel
theorem dJ9_floorDiv_7cf53_5 : decode cJ9_floorDiv_7cf53 5 = .ok (.iload_n 1, 1) := by decide +kernel
theorem dJ9_floorDiv_7cf53_6 : decode cJ9_floorDiv_7cf53 6 = .ok (.ixor, 1) := by decide +kernel
theorem dJ9_floorDiv_7cf53_7 : decode cJ9_floorDiv_7cf53 7 = .ok (.ifCond .ge 14, 3) := by decide +kernel
theorem dJ9_floorDiv_7cf53_10 : decode cJ9_floorDiv_7cf53 10 = .ok (.iload_n 2, 1) := by decide +kernel
theorem dJ9_floorDiv_7cf53_11 : decode cJ9_floorDiv_7cf53 11 = .ok (.iload_n 1, 1) := by decide +kernel
theorem dJ9_floorDiv_7cf53_12 : decode cJ9_floorDiv_7cf53 12 = .ok (.imul, 1) := by decide +kernel
theorem dJ9_floorDiv_7cf53_13 : decode cJ9_floorDiv_7cf53 13 = .ok (.iload_n 0, 1) := by decide +kernel
theorem dJ9_floorDiv_7cf53_14 : decode cJ9_floorDiv_7cf53 14 = .ok (.if_icmp .eq 7, 3) := by decide +kernel
theorem dJ9_floorDiv_7cf53_17 : decode cJ9_floorDiv_7cf53 17 = .ok (.iload_n 2, 1) := by decide +kernel
theorem dJ9_floorDiv_7cf53_18 : decode cJ9_floorDiv_7cf53 18 = .ok (.iconst 1, 1) := by decide +kernel
theorem dJ9_floorDiv_7cf53_19 : decode cJ9_floorDiv_7cf53 19 = .ok (.isub, 1) := by decide +kernel
theorem dJ9_floorDiv_7cf53_20 : decode cJ9_floorDiv_7cf53 20 = .ok (.ireturn, 1) := by decide +kernel
theorem dJ9_floorDiv_7cf53_21 : decode cJ9_floorDiv_7cf53 21 = .ok (.iload_n 2, 1) := by decide +kernel
theorem dJ9_floorDiv_7cf53_22 : decode cJ9_floorDiv_7cf53 22 = .ok (.ireturn, 1) := by decide +kernel
theorem dJ9_abs_0f7a4_0 : decode cJ9_abs_0f7a4 0 = .ok (.iload_n 0, 1) := by decide +kernel
theorem dJ9_abs_0f7a4_1 : decode cJ9_abs_0f7a4 1 = .ok (.ifCond .ge 8, 3) := by decide +kernel
theorem dJ9_abs_0f7a4_4 : decode cJ9_abs_0f7a4 4 = .ok (.iload_n 0, 1) := by decide +kernel
theorem dJ9_abs_0f7a4_5 : decode cJ9_abs_0f7a4 5 = .ok (.ineg, 1) := by decide +kernel
theorem dJ9_abs_0f7a4_6 : decode cJ9_abs_0f7a4 6 = .ok (.goto 4, 3) := by decide +kernel
theorem dJ9_abs_0f7a4_9 : decode cJ9_abs_0f7a4 9 = .ok (.iload_n 0, 1) := by decide +kernel
theorem dJ9_abs_0f7a4_10 : decode cJ9_abs_0f7a4 10 = .ok (.ireturn, 1) := by decide +kernel
theorem dJ9_max_7cf53_0 : decode cJ9_max_7cf53 0 = .ok (.iload_n 0, 1) := by decide +kernel
theorem dJ9_max_7cf53_1 : decode cJ9_max_7cf53 1 = .ok (.iload_n 1, 1) := by decide +kernel
theorem dJ9_max_7cf53_2 : decode cJ9_max_7cf53 2 = .ok (.if_icmp .lt 7, 3) := by decide +kernel
theorem dJ9_max_7cf53_5 : decode cJ9_max_7cf53 5 = .ok (.iload_n 0, 1) := by decide +kernel
theorem dJ9_max_7cf53_6 : decode cJ9_max_7cf53 6 = .ok (.goto 4, 3) := by decide +kernel
theorem dJ9_max_7cf53_9 : decode cJ9_max_7cf53 9 = .ok (.iload_n 1, 1) := by decide +kernel
theorem dJ9_max_7cf53_10 : decode cJ9_max_7cf53 10 = .ok (.ireturn, 1) := by decide +kernel
theorem dJ9_min_7cf53_0 : decode cJ9_min_7cf53 0 = .ok (.iload_n 0, 1) := by decide +kernel
theorem dJ9_min_7cf53_1 : decode cJ9_min_7cf53 1 = .ok (.iload_n 1, 1) := by decide +kernel
theorem dJ9_min_7cf53_2 : decode cJ9_min_7cf53 2 = .ok (.if_icmp .gt 7, 3) := by decide +kernel
theorem dJ9_min_7cf53_5 : decode cJ9_min_7cf53 5 = .ok (.iload_n 0, 1) := by decide +kernel
theorem dJ9_min_7cf53_6 : decode cJ9_min_7cf53 6 = .ok (.goto 4, 3) := by decide +kernel
theorem dJ9_min_7cf53_9 : decode cJ9_min_7cf53 9 = .ok (.iload_n 1, 1) := by decide +kernel
theorem dJ9_min_7cf53_10 : decode cJ9_min_7cf53 10 = .ok (.ireturn, 1) := by decide +kernel
theorem dJxd2413_init_da8c8_0 : decode cJxd2413_init_da8c8 0 = .ok (.aload_n 0, 1) := by decide +kernel
theorem dJxd2413_init_da8c8_1 : decode cJxd2413_init_da8c8 1 = .ok (.invokespecial 1, 3) := by decide +kernel
theorem dJxd2413_init_da8c8_4 : decode cJxd2413_init_da8c8 4 = .ok (.return_, 1) := by decide +kernel
theorem dJxa1e45_init_da8c8_0 : decode cJxa1e45_init_da8c8 0 = .ok (.aload_n 0, 1) := by decide +kernel
theorem dJxa1e45_init_da8c8_1 : decode cJxa1e45_init_da8c8 1 = .ok (.invokespecial 1, 3) := by decide +kernel
theorem dJxa1e45_init_da8c8_4 : decode cJxa1e45_init_da8c8 4 = .ok (.return_, 1) := by decide +kernel
theorem dJxc12de_init_da8c8_0 : decode cJxc12de_init_da8c8 0 = .ok (.aload_n 0, 1) := by decide +kernel
theorem dJxc12de_init_da8c8_1 : decode cJxc12de_init_da8c8 1 = .ok (.invokespecial 1, 3) := by decide +kernel
theorem dJxc12de_init_da8c8_4 : decode cJxc12de_init_da8c8 4 = .ok (.aload_n 0, 1) := by decide +kernel
theorem dJxc12de_init_da8c8_5 : decode cJxc12de_init_da8c8 5 = .ok (.iconst 0, 1) := by decide +kernel
theorem dJxc12de_init_da8c8_6 : decode cJxc12de_init_da8c8 6 = .ok (.putfield 7, 3) := by decide +kernel
theorem dJxc12de_init_da8c8_9 : decode cJxc12de_init_da8c8 9 = .ok (.return_, 1) := by decide +kernel
theorem dJx4a65c_init_da8c8_0 : decode cJx4a65c_init_da8c8 0 = .ok (.aload_n 0, 1) := by decide +kernel
theorem dJx4a65c_init_da8c8_1 : decode cJx4a65c_init_da8c8 1 = .ok (.invokespecial 1, 3) := by decide +kernel
theorem dJx4a65c_init_da8c8_4 : decode cJx4a65c_init_da8c8 4 = .ok (.aload_n 0, 1) := by decide +kernel
theorem dJx4a65c_init_da8c8_5 : decode cJx4a65c_init_da8c8 5 = .ok (.getstatic 39, 3) := by decide +kernel
theorem dJx4a65c_init_da8c8_8 : decode cJx4a65c_init_da8c8 8 = .ok (.putfield 9, 3) := by decide +kernel
theorem dJx4a65c_init_da8c8_11 : decode cJx4a65c_init_da8c8 11 = .ok (.return_, 1) := by decide +kernel
theorem dJx4a65c_grow_92f84_0 : decode cJx4a65c_grow_92f84 0 = .ok (.aload_n 0, 1) := by decide +kernel
theorem dJx4a65c_grow_92f84_1 : decode cJx4a65c_grow_92f84 1 = .ok (.getfield 9, 3) := by decide +kernel
theorem dJx4a65c_grow_92f84_4 : decode cJx4a65c_grow_92f84 4 = .ok (.arraylength, 1) := by decide +kernel
theorem dJx4a65c_grow_92f84_5 : decode cJx4a65c_grow_92f84 5 = .ok (.istore_n 2, 1) := by decide +kernel
theorem dJx4a65c_grow_92f84_6 : decode cJx4a65c_grow_92f84 6 = .ok (.iload_n 2, 1) := by decide +kernel
theorem dJx4a65c_grow_92f84_7 : decode cJx4a65c_grow_92f84 7 = .ok (.ifCond .gt 13, 3) := by decide +kernel
theorem dJx4a65c_grow_92f84_10 : decode cJx4a65c_grow_92f84 10 = .ok (.aload_n 0, 1) := by decide +kernel
theorem dJx4a65c_grow_92f84_11 : decode cJx4a65c_grow_92f84 11 = .ok (.getfield 9, 3) := by decide +kernel
theorem dJx4a65c_grow_92f84_14 : decode cJx4a65c_grow_92f84 14 = .ok (.getstatic 39, 3) := by decide +kernel
theorem dJx4a65c_grow_92f84_17 : decode cJx4a65c_grow_92f84 17 = .ok (.if_acmp .eq 28, 3) := by decide +kernel
theorem dJx4a65c_grow_92f84_20 : decode cJx4a65c_grow_92f84 20 = .ok (.iload_n 2, 1) := by decide +kernel
theorem dJx4a65c_grow_92f84_21 : decode cJx4a65c_grow_92f84 21 = .ok (.iload_n 1, 1) := by decide +kernel
theorem dJx4a65c_grow_92f84_22 : decode cJx4a65c_grow_92f84 22 = .ok (.iload_n 2, 1) := by decide +kernel
theorem dJx4a65c_grow_92f84_23 : decode cJx4a65c_grow_92f84 23 = .ok (.isub, 1) := by decide +kernel
theorem dJx4a65c_grow_92f84_24 : decode cJx4a65c_grow_92f84 24 = .ok (.iload_n 2, 1) := by decide +kernel
theorem dJx4a65c_grow_92f84_25 : decode cJx4a65c_grow_92f84 25 = .ok (.iconst 1, 1) := by decide +kernel
theorem dJx4a65c_grow_92f84_26 : decode cJx4a65c_grow_92f84 26 = .ok (.ishr, 1) := by decide +kernel
theorem dJx4a65c_grow_92f84_27 : decode cJx4a65c_grow_92f84 27 = .ok (.invokestatic 73, 3) := by decide +kernel
theorem dJx4a65c_grow_92f84_30 : decode cJx4a65c_grow_92f84 30 = .ok (.istore_n 3, 1) := by decide +kernel
theorem dJx4a65c_grow_92f84_31 : decode cJx4a65c_grow_92f84 31 = .ok (.aload_n 0, 1) := by decide +kernel
theorem dJx4a65c_grow_92f84_32 : decode cJx4a65c_grow_92f84 32 = .ok (.aload_n 0, 1) := by decide +kernel
theorem dJx4a65c_grow_92f84_33 : decode cJx4a65c_grow_92f84 33 = .ok (.getfield 9, 3) := by decide +kernel
theorem dJx4a65c_grow_92f84_36 : decode cJx4a65c_grow_92f84 36 = .ok (.iload_n 3, 1) := by decide +kernel
theorem dJx4a65c_grow_92f84_37 : decode cJx4a65c_grow_92f84 37 = .ok (.invokestatic 66, 3) := by decide +kernel
